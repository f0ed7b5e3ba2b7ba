/-! what a smaller world tells, a larger one tells too -/
def MemLe (L M : Mem) : Prop := ∀ a e, L a = some e → M a = some e
theorem Mm_le {G : wG} {m0 : Nat} {L : Mem} (h : MoOK G m0 L) (u : MS) : MemLe L (Mm m0 u L) := fun a e ha => Mm_lit h u ha
theorem gI_mk {M : Mem} {a ci k : Nat} {fs : List Value} {v : Int32} (h : M a = some (.inl (ci, fs))) (hv : fs[k]? = some (.int v)) : gI M (some a) ci k = some v := by
  simp only [gI, Option.bind_some, h, hv, if_true]
theorem gR_mk {M : Mem} {a ci k : Nat} {fs : List Value} {v : Option Nat} (h : M a = some (.inl (ci, fs))) (hv : fs[k]? = some (va_rf v)) : gR M (some a) ci k = some v := by
  cases v with
  | none => simp only [gR, Option.bind_some, h, hv, if_true, va_rf]
  | some b => simp only [gR, Option.bind_some, h, hv, if_true, va_rf]
theorem aI_mk {M : Mem} {t a n : Nat} {f : Nat → Int32} {i : Int32} (h : M a = some (.inr (.inl (t, n, f)))) (hi : inb i n) : aI M t (some a) i = some (f i.toNatClampNeg) := by
  simp only [aI, Option.bind_some, h]
  exact if_pos ⟨trivial, hi⟩
theorem aR_mk {M : Mem} {a n : Nat} {f : Nat → Option Nat} {i : Int32} (h : M a = some (.inr (.inr (3, n, f)))) (hi : inb i n) : aR M (some a) i = some (f i.toNatClampNeg) := by
  simp only [aR, Option.bind_some, h]
  exact if_pos ⟨trivial, hi⟩
theorem aL_mkI {M : Mem} {t a n : Nat} {f : Nat → Int32} (h : M a = some (.inr (.inl (t, n, f)))) (ht : t < 4) : aL M (some a) = some (Int32.ofNat n) := by
  simp only [aL, Option.bind_some, h]
  exact if_pos ht
theorem aL_mkR {M : Mem} {t a n : Nat} {f : Nat → Option Nat} (h : M a = some (.inr (.inr (t, n, f)))) (ht : t < 4) : aL M (some a) = some (Int32.ofNat n) := by
  simp only [aL, Option.bind_some, h]
  exact if_pos ht
theorem isO_mk {M : Mem} {a ci : Nat} {fs : List Value} (h : M a = some (.inl (ci, fs))) : isO M (some a) ci = true := by
  simp [isO, h]
theorem gI_le {L M : Mem} (hl : MemLe L M) {x : Option Nat} {ci k : Nat} {v : Int32} (h : gI L x ci k = some v) : gI M x ci k = some v := by
  obtain ⟨a, fs, rfl, ha, hv⟩ := gI.spec h
  exact gI_mk (hl a _ ha) hv
theorem gR_le {L M : Mem} (hl : MemLe L M) {x : Option Nat} {ci k : Nat} {v : Option Nat} (h : gR L x ci k = some v) : gR M x ci k = some v := by
  obtain ⟨a, fs, rfl, ha, hv⟩ := gR.spec h
  exact gR_mk (hl a _ ha) hv
theorem aI_le {L M : Mem} (hl : MemLe L M) {t : Nat} {x : Option Nat} {i v : Int32} (h : aI L t x i = some v) : aI M t x i = some v := by
  obtain ⟨a, n, f, rfl, ha, hi, rfl⟩ := aI.spec h
  exact aI_mk (hl a _ ha) hi
theorem aL_le {L M : Mem} (hl : MemLe L M) {x : Option Nat} {v : Int32} (h : aL L x = some v) : aL M x = some v := by
  obtain ⟨a, rfl, ⟨t, n, f, ha, ht, rfl⟩ | ⟨t, n, f, ha, ht, rfl⟩⟩ := aL.spec h
  · exact aL_mkI (hl a _ ha) ht
  · exact aL_mkR (hl a _ ha) ht
theorem isO_le {L M : Mem} (hl : MemLe L M) {x : Option Nat} {ci : Nat} (h : isO L x ci = true) : isO M x ci = true := by
  obtain ⟨a, fs, rfl, ha⟩ := isO.spec h
  exact isO_mk (hl a _ ha)
theorem le_coder {L M : Mem} (hl : MemLe L M) {x : Option Nat} {r : Int32} (h : f_J0_coder_7d493 L x = some r) : f_J0_coder_7d493 M x = some r := by
  unfold f_J0_coder_7d493 at h ⊢
  obtain ⟨v1, h1, h⟩ := ob h
  rw [gI_le hl h1]
  exact h
theorem le_length {L M : Mem} (hl : MemLe L M) {x : Option Nat} {r : Int32} (h : f_J0_length_8abf5 L x = some r) : f_J0_length_8abf5 M x = some r := by
  unfold f_J0_length_8abf5 at h ⊢
  obtain ⟨v1, h1, h⟩ := ob h
  rw [gR_le hl h1, Option.bind_some]
  obtain ⟨v2, h2, h⟩ := ob h
  rw [aL_le hl h2, Option.bind_some]
  obtain ⟨g3, h⟩ := itg h
  rw [if_pos (isO_le hl g3)]
  obtain ⟨v4, h4, h⟩ := ob h
  rw [le_coder hl h4]
  exact h
theorem le_isLatin1 {L M : Mem} (hl : MemLe L M) {x : Option Nat} {r : Int32} (h : f_J0_isLatin1_aae02 L x = some r) : f_J0_isLatin1_aae02 M x = some r := by
  unfold f_J0_isLatin1_aae02 at h ⊢
  obtain ⟨v1, h1, h⟩ := ob h
  rw [gI_le hl h1]
  exact h
theorem le_checkIndex {L M : Mem} {i n : Int32} {r : Unit} (h : f_J0_checkIndex_df160 L i n = some r) : f_J0_checkIndex_df160 M i n = some r := h
theorem le_charAt1 {L M : Mem} (hl : MemLe L M) {x : Option Nat} {i r : Int32} (h : f_J1_charAt_3b067 L x i = some r) : f_J1_charAt_3b067 M x i = some r := by
  unfold f_J1_charAt_3b067 at h ⊢
  obtain ⟨v1, h1, h⟩ := ob h
  rw [aL_le hl h1, Option.bind_some]
  obtain ⟨v2, h2, h⟩ := ob h
  rw [le_checkIndex (M := M) h2, Option.bind_some]
  obtain ⟨v3, h3, h⟩ := ob h
  rw [aI_le hl h3]
  exact h
theorem le_charAt {L M : Mem} (hl : MemLe L M) {x : Option Nat} {i r : Int32} (h : f_J0_charAt_5068e L x i = some r) : f_J0_charAt_5068e M x i = some r := by
  unfold f_J0_charAt_5068e at h ⊢
  obtain ⟨g1, h⟩ := itg h
  rw [if_pos (isO_le hl g1)]
  obtain ⟨v2, h2, h⟩ := ob h
  rw [le_isLatin1 hl h2, Option.bind_some]
  by_cases hc : v2 = 0
  · rw [if_pos hc] at h
    obtain ⟨v4, h4, h⟩ := ob h
    cases h
  · rw [if_neg hc] at h ⊢
    obtain ⟨v5, h5, h⟩ := ob h
    rw [gR_le hl h5, Option.bind_some]
    obtain ⟨v6, h6, h⟩ := ob h
    rw [le_charAt1 hl h6]
    exact h
theorem mono_J0_length_8abf5 {G : wG} {m0 : Nat} {L : Mem} (hMo : MoOK G m0 L) {u : MS} {x : Option Nat} {r : Int32} (h : f_J0_length_8abf5 L x = some r) : f_J0_length_8abf5 (Mm m0 u L) x = some r := le_length (Mm_le hMo u) h
theorem mono_J0_charAt_5068e {G : wG} {m0 : Nat} {L : Mem} (hMo : MoOK G m0 L) {u : MS} {x : Option Nat} {i r : Int32} (h : f_J0_charAt_5068e L x i = some r) : f_J0_charAt_5068e (Mm m0 u L) x i = some r := le_charAt (Mm_le hMo u) h
