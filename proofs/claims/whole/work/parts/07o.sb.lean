/-! TEXTS ARE BUILT: the JDK's StringBuilder -/
def CapOK (c : Nat) : Prop := c = 16 ∨ c = 34 ∨ c = 70 ∨ c = 142 ∨ c = 286
def SBR (M : Mem) (sz0 sz x : Nat) (t : List Int) (need : Nat) : Prop := ∃ (b : Nat) (ml : Int32) (cap : Nat) (f : Nat → Int32), M x = some (.inl (1, [.ref b, .int 0, .int ml, .int (iI t.length)])) ∧ M b = some (.inr (.inl (1, cap, f))) ∧ (sz0 ≤ x ∧ x < sz ∧ sz0 ≤ b ∧ b < sz) ∧ CapOK cap ∧ (t.length ≤ need ∧ need ≤ cap) ∧ (∀ k, k < t.length → f k = iI (t.getD k 0) ∧ 0 ≤ t.getD k 0 ∧ t.getD k 0 ≤ 127) ∧ ∀ k, k < cap → (f k).toInt8.toInt32 = f k
theorem sh0 (x : Int32) : x >>> ((0 : Int32) &&& 31) = x := by
  rw [show ((0 : Int32) &&& 31) = 0 from rfl]
  exact Int32.shiftRight_zero
theorem shl0 (x : Int32) : x <<< ((0 : Int32) &&& 31) = x := by
  rw [show ((0 : Int32) &&& 31) = 0 from rfl]
  exact Int32.shiftLeft_zero
section SB
variable {B : Nat} {M : Mem} {sz0 sz x : Nat} {t : List Int} {need : Nat}
theorem SBR.is (h : SBR M sz0 sz x t need) : isO M (some x) 1 = true := by
  obtain ⟨b, ml, cap, f, h1, -⟩ := h
  exact isO_at h1
theorem SBR.count (h : SBR M sz0 sz x t need) : gI M (some x) 1 3 = some (iI t.length) := by
  obtain ⟨b, ml, cap, f, h1, -⟩ := h
  rw [gI_at h1]
  rfl
theorem z_newLength (M : Mem) (a m p : Int) (ha : 0 ≤ a ∧ a ≤ 1000) (hm : 0 ≤ m ∧ m ≤ 1000) (hp : 1 ≤ p ∧ p ≤ 1000) : f_J8_newLength_cabcc M (iI a) (iI m) (iI p) = some (iI (a + max m p)) := by
  have e : (if iI m < iI p then iI p else iI m) = iI (max m p) := by
    rw [it_lt _ _ (by omega)]
    split <;> congr 1 <;> omega
  unfold f_J8_newLength_cabcc
  rw [e, iI_add, show (0 : Int32) = iI 0 from rfl, it_le _ _ (by omega), if_neg (by omega), show (2147483639 : Int32) = iI 2147483639 from rfl, it_lt _ _ (by omega), if_neg (by omega)]
theorem byte0 : ((0 : Int32)).toInt8.toInt32 = 0 := by decide
theorem SBR.ensure (hB : B ≤ sz0) (h : SBR M sz0 sz x t t.length) (d : Nat) (hd : 1 ≤ d ∧ d ≤ 16) (hl : t.length + d ≤ 286) : ∃ (M1 : Mem) (sz1 : Nat), f_J5_ensureCapacityInternal_d00df B M sz (some x) (iI (t.length + d : Nat)) = some (M1, sz1) ∧ sz ≤ sz1 ∧ SBR M1 sz0 sz1 x t (t.length + d) ∧ ∀ y, y < sz0 → M1 y = M y := by
  have hs := h.is
  obtain ⟨b, ml, cap, f, h1, h2, h3, h4, h5, h6, h7⟩ := h
  have hcap : 16 ≤ cap ∧ cap ≤ 286 := by rcases h4 with e | e | e | e | e <;> omega
  unfold f_J5_ensureCapacityInternal_d00df
  rw [gR_at h1, gI_at h1]
  simp only [List.getElem?_cons_zero, List.getElem?_cons_succ, Option.bind_some]
  rw [aL_i (by decide) h2, Option.bind_some, sh0, iI_sub, show (0 : Int32) = iI 0 from rfl, it_le _ _ (by omega)]
  by_cases c : t.length + d ≤ cap
  · rw [if_pos (by omega)]
    exact ⟨M, sz, rfl, Nat.le_refl _, ⟨b, ml, cap, f, h1, h2, h3, h4, ⟨by omega, c⟩, h6, h7⟩, fun _ _ => rfl⟩
  · have hn : CapOK (2 * cap + 2) := by
      unfold CapOK
      rcases h4 with e | e | e | e | e <;> omega
    have hcap2 : cap ≤ 142 := by rcases h4 with e | e | e | e | e <;> omega
    have hx0 : x ≠ sz := by omega
    have hb0 : b ≠ sz := by omega
    have hbx : b ≠ x := fun e => by rw [e, h1] at h2; cases h2
    rw [if_neg (by omega), hs, if_pos rfl]
    have hnc : f_J5_newCapacity_0f7a4 M (some x) (iI (t.length + d : Nat)) = some (iI (2 * cap + 2 : Nat)) := by
      unfold f_J5_newCapacity_0f7a4
      rw [gR_at h1, gI_at h1]
      simp only [List.getElem?_cons_zero, List.getElem?_cons_succ, Option.bind_some]
      rw [aL_i (by decide) h2, Option.bind_some, shl0, shl0, iI_sub, show (2 : Int32) = iI 2 from rfl, iI_add, z_newLength M _ _ _ (by omega) (by omega) (by omega), Option.bind_some, show (2147483647 : Int32) = iI 2147483647 from rfl, it_eq _ _ (by omega), if_neg (by omega), sh0]
      congr 2
      omega
    rw [hnc, Option.bind_some, show iI 0 = (0 : Int32) from rfl, shl0]
    have hM3b : (va_up M sz (some (.inr (.inl (1, 2 * cap + 2, fun _ => (0 : Int32)))))) b = some (.inr (.inl (1, cap, f))) := by rw [va_up_ne _ _ hb0]; exact h2
    have hM3x : (va_up M sz (some (.inr (.inl (1, 2 * cap + 2, fun _ => (0 : Int32)))))) x = some (.inl (1, [.ref b, .int 0, .int ml, .int (iI t.length)])) := by rw [va_up_ne _ _ hx0]; exact h1
    have hcp : f_J7_copyOf_9075b B M sz (some b) (iI (2 * cap + 2 : Nat)) = some (some sz, va_up (va_up M sz (some (.inr (.inl (1, 2 * cap + 2, fun _ => (0 : Int32)))))) sz (some (.inr (.inl (1, 2 * cap + 2, va_cpy f (fun _ => (0 : Int32)) 0 0 cap)))), sz + 1) := by
      have ecl : (iI ((2 * cap + 2 : Nat) : Int)).toNatClampNeg = 2 * cap + 2 := by rw [iI_clamp _ (by omega)]; omega
      have ecl2 : (iI (cap : Int)).toNatClampNeg = cap := by rw [iI_clamp _ (by omega)]; omega
      have ec0 : (0 : Int32).toNatClampNeg = 0 := rfl
      have n1 : ¬ (iI ((2 * cap + 2 : Nat) : Int)) < (0 : Int32) := by
        rw [show (0 : Int32) = iI 0 from rfl, iI_lt _ _ (by omega)]
        omega
      have n2 : ¬ (iI (cap : Int)) < (0 : Int32) := by
        rw [show (0 : Int32) = iI 0 from rfl, iI_lt _ _ (by omega)]
        omega
      unfold f_J7_copyOf_9075b
      rw [aL_i (by decide) h2, Option.bind_some, it_eq _ _ (by omega), if_neg (by omega), if_pos ⟨n1, by rw [ecl]; omega⟩, ecl]
      simp only [Option.bind_some]
      rw [aL_i (by decide) hM3b, Option.bind_some, it_lt _ _ (by omega), if_neg (by omega)]
      have hcb : cB B (va_up M sz (some (.inr (.inl (1, 2 * cap + 2, fun _ => (0 : Int32)))))) (some b) (0 : Int32) (some sz) (0 : Int32) (iI (cap : Int)) = some (va_up (va_up M sz (some (.inr (.inl (1, 2 * cap + 2, fun _ => (0 : Int32)))))) sz (some (.inr (.inl (1, 2 * cap + 2, va_cpy f (fun _ => (0 : Int32)) 0 0 cap))))) := by
        unfold cB
        simp only [Option.bind_some, hM3b, va_up_self, ecl2, ec0]
        rw [if_pos ⟨trivial, trivial, by decide, by decide, n2, by omega, by omega, by omega, fun i hi => by rw [Nat.zero_add]; exact h7 i (List.mem_range.mp hi)⟩]
      rw [hcb, Option.bind_some]
    rw [hcp, Option.bind_some]
    have hx2 : (va_up (va_up M sz (some (.inr (.inl (1, 2 * cap + 2, fun _ => (0 : Int32)))))) sz (some (.inr (.inl (1, 2 * cap + 2, va_cpy f (fun _ => (0 : Int32)) 0 0 cap))))) x = some (.inl (1, [.ref b, .int 0, .int ml, .int (iI t.length)])) := by rw [va_up_ne _ _ hx0]; exact hM3x
    rw [pF_at (by omega) hx2, if_pos (by simp), Option.bind_some]
    refine ⟨_, sz + 1, rfl, by omega, ⟨sz, ml, 2 * cap + 2, va_cpy f (fun _ => (0 : Int32)) 0 0 cap, by rw [va_up_self]; rfl, by rw [va_up_ne _ _ hx0.symm, va_up_self], by omega, hn, by omega, fun k hk => ?_, fun k hk => ?_⟩, fun y hy => by rw [va_up_ne _ _ (by omega), va_up_ne _ _ (by omega), va_up_ne _ _ (by omega)]⟩
    · have : va_cpy f (fun _ => (0 : Int32)) 0 0 cap k = f k := by
        unfold va_cpy
        rw [if_pos (by omega)]
        simp
      rw [this]
      exact h6 k hk
    · unfold va_cpy
      by_cases c2 : k < cap
      · rw [if_pos (by omega), Nat.sub_zero, Nat.zero_add]
        exact h7 k c2
      · rw [if_neg (by omega)]
        exact byte0
theorem SBR.char (hB : B ≤ sz0) (h : SBR M sz0 sz x t t.length) (c : Int) (hc : 0 ≤ c ∧ c ≤ 127) (hl : t.length + 1 ≤ 286) : ∃ (M1 : Mem) (sz1 : Nat), f_J4_append_cf468 B M sz (some x) (iI c) = some (some x, M1, sz1) ∧ sz ≤ sz1 ∧ SBR M1 sz0 sz1 x (t ++ [c]) (t ++ [c]).length ∧ ∀ y, y < sz0 → M1 y = M y := by
  obtain ⟨M1, sz1, e1, e2, e3, e4⟩ := h.ensure hB 1 (by omega) hl
  have hs1 := e3.is
  have hct := e3.count
  obtain ⟨b, ml, cap, f, h1, h2, h3, h4, h5, h6, h7⟩ := e3
  obtain ⟨c1, c2, c3⟩ := ch_iI c hc
  have hbx : b ≠ x := fun e => by rw [e, h1] at h2; cases h2
  have hlen : (t ++ [c]).length = t.length + 1 := by rw [List.length_append]; rfl
  have hcap : cap ≤ 286 := by rcases h4 with e | e | e | e | e <;> omega
  have hM : (va_up M1 x (some (.inl (1, [.ref b, .int 0, .int ml, .int (iI (t.length + 1 : Nat))])))) b = some (.inr (.inl (1, cap, f))) := by rw [va_up_ne _ _ hbx]; exact h2
  refine ⟨va_up (va_up M1 x (some (.inl (1, [.ref b, .int 0, .int ml, .int (iI (t.length + 1 : Nat))])))) b (some (.inr (.inl (1, cap, upd f t.length (iI c))))), sz1, ?_, e2, ?_, fun y hy => by rw [va_up_ne _ _ (by omega), va_up_ne _ _ (by omega), e4 y hy]⟩
  · unfold f_J4_append_cf468 f_J5_append_3fe6f
    rw [if_pos (by simp), h.is, if_pos rfl, h.count, Option.bind_some, if_pos rfl, show (1 : Int32) = iI 1 from rfl, iI_add, show ((t.length : Int) + 1) = ((t.length + 1 : Nat) : Int) by omega, e1]
    simp only [Option.bind_some]
    rw [hs1, if_pos rfl]
    have hil : f_J5_isLatin1_aae02 M1 (some x) = some 1 := by
      unfold f_J5_isLatin1_aae02
      rw [gI_at h1]
      rfl
    have hce : f_J1_canEncode_fc78d M1 (iI c) = some 1 := by
      unfold f_J1_canEncode_fc78d
      rw [show (255 : Int32) = iI 255 from rfl, it_lt _ _ (by omega), if_neg (by omega)]
    rw [hil, Option.bind_some, if_neg (by decide), hce, Option.bind_some, if_neg (by decide), gR_at h1, gI_at h1]
    simp only [List.getElem?_cons_zero, List.getElem?_cons_succ, Option.bind_some]
    rw [iI_add, show ((t.length : Int) + 1) = ((t.length + 1 : Nat) : Int) by omega, pF_at (by omega) h1, if_pos (by simp), Option.bind_some, c3]
    show ((sI B (va_up M1 x (some (.inl (1, [.ref b, .int 0, .int ml, .int (iI (t.length + 1 : Nat))])))) 1 (some b) (iI (t.length : Int)) (iI c)).bind _).bind _ = _
    rw [sI_at (by omega) hM (by omega) (by omega), Int.toNat_natCast]
    rfl
  · rw [hlen]
    refine ⟨b, ml, cap, upd f t.length (iI c), by rw [va_up_ne _ _ hbx.symm, va_up_self, hlen], va_up_self .., h3, h4, ⟨by rw [hlen]; omega, h5.2⟩, fun k hk => ?_, fun k hk => ?_⟩
    · rw [hlen] at hk
      unfold upd
      by_cases e : k = t.length
      · rw [if_pos e, e, getD_app2]
        exact ⟨rfl, hc⟩
      · rw [if_neg e, getD_app1 t c k (by omega)]
        exact h6 k (by omega)
    · unfold upd
      split
      · exact c3
      · exact h7 k hk
end SB
