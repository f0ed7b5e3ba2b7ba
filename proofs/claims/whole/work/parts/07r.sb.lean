/-! StringBuilder: a number is added -/
theorem numL_dig (x : Int) (hx : 0 ≤ x ∧ x < 10000) : ∀ k, k < (numL x).length → 0 ≤ (numL x).getD k 0 ∧ (numL x).getD k 0 ≤ 127 := fun k hk => by
  unfold numL at hk ⊢
  by_cases c1 : x < 10
  · rw [if_pos c1] at hk ⊢
    obtain rfl : k = 0 := by simp at hk; omega
    simp only [List.getD_cons_zero]
    omega
  · by_cases c2 : x < 100
    · rw [if_neg c1, if_pos c2] at hk ⊢
      simp at hk
      rcases (by omega : k = 0 ∨ k = 1) with rfl | rfl
      · simp only [List.getD_cons_zero]
        omega
      · simp only [List.getD_cons_zero, List.getD_cons_succ]
        omega
    · by_cases c3 : x < 1000
      · rw [if_neg c1, if_neg c2, if_pos c3] at hk ⊢
        simp at hk
        rcases (by omega : k = 0 ∨ k = 1 ∨ k = 2) with rfl | rfl | rfl
        · simp only [List.getD_cons_zero]
          omega
        · simp only [List.getD_cons_zero, List.getD_cons_succ]
          omega
        · simp only [List.getD_cons_zero, List.getD_cons_succ]
          omega
      · rw [if_neg c1, if_neg c2, if_neg c3] at hk ⊢
        simp at hk
        rcases (by omega : k = 0 ∨ k = 1 ∨ k = 2 ∨ k = 3) with rfl | rfl | rfl | rfl
        · simp only [List.getD_cons_zero]
          omega
        · simp only [List.getD_cons_zero, List.getD_cons_succ]
          omega
        · simp only [List.getD_cons_zero, List.getD_cons_succ]
          omega
        · simp only [List.getD_cons_zero, List.getD_cons_succ]
          omega
theorem numL_pos (x : Int) : 1 ≤ (numL x).length := by
  unfold numL
  split <;> (try split) <;> (try split) <;> simp
section SB4
variable {B : Nat} {S : Nat → Nat} {L M : Mem} {sz0 sz x : Nat} {t : List Int} {need : Nat}
theorem SBR.num (hL : LOK B L) (hS : DigOK S L) (hcon : ∀ y e, L y = some e → M y = some e) (hB : B ≤ sz0) (h : SBR M sz0 sz x t t.length) (n : Nat) (hn : 60 ≤ n) (v : Int) (hv : 0 ≤ v ∧ v < 10000) (hl : t.length + 4 ≤ 286) : ∃ (M1 : Mem) (sz1 : Nat), f_J4_append_bf812 B S n M sz (some x) (iI v) = some (some x, M1, sz1) ∧ sz ≤ sz1 ∧ SBR M1 sz0 sz1 x (t ++ numL v) (t ++ numL v).length ∧ ∀ y, y < sz0 → M1 y = M y := by
  have hp := numL_pos v
  have h4' := numL_len v
  obtain ⟨M1, sz1, e1, e2, e3, e4⟩ := h.ensure hB (numL v).length ⟨hp, by omega⟩ (by omega)
  have hD := hS.of (con_up hL hB hcon e4)
  have hlt : S 21 < B ∧ S 22 < B := by
    obtain ⟨⟨g1, o1, -⟩, g2, o2, -⟩ := hS
    constructor
    · rcases Nat.lt_or_ge (S 21) B with q | q
      · exact q
      · rw [hL _ q] at o1
        cases o1
    · rcases Nat.lt_or_ge (S 22) B with q | q
      · exact q
      · rw [hL _ q] at o2
        cases o2
  have hs := h.is
  have hct := h.count
  have hs1 := e3.is
  obtain ⟨b, ml, cap, f, h1, h2, h3, h4, h5, h6, h7⟩ := e3
  have hbx : b ≠ x := fun e => by rw [e, h1] at h2; cases h2
  have hlen : (t ++ numL v).length = t.length + (numL v).length := List.length_append
  have hcap : cap ≤ 286 := by rcases h4 with e | e | e | e | e <;> omega
  obtain ⟨f1, r, g1, g2, g3⟩ := z_getChars (S := S) (B := B) (f := f) (b := b) (cap := cap) hD ⟨by omega, by omega⟩ (by omega) h2 (by omega) n hn v hv t.length (by omega)
  have hM2x : (va_up M1 b (some (.inr (.inl (1, cap, f1))))) x = some (.inl (1, [.ref b, .int 0, .int ml, .int (iI t.length)])) := by rw [va_up_ne _ _ hbx.symm]; exact h1
  refine ⟨va_up (va_up M1 b (some (.inr (.inl (1, cap, f1))))) x (some (.inl (1, [.ref b, .int 0, .int ml, .int (iI (t.length + (numL v).length : Nat))]))), sz1, ?_, e2, ?_, fun y hy => by rw [va_up_ne _ _ (by omega), va_up_ne _ _ (by omega), e4 y hy]⟩
  · unfold f_J4_append_bf812 f_J5_append_c97b9
    rw [if_pos (by simp), hs, if_pos rfl, hct, Option.bind_some, z_stringSize n hn M v hv, Option.bind_some, if_pos rfl, iI_add, show ((t.length : Int) + (numL v).length) = ((t.length + (numL v).length : Nat) : Int) by omega, e1]
    simp only [Option.bind_some]
    rw [hs1, if_pos rfl]
    have hil : f_J5_isLatin1_aae02 M1 (some x) = some 1 := by
      unfold f_J5_isLatin1_aae02
      rw [gI_at h1]
      rfl
    rw [hil, Option.bind_some, if_neg (by decide), gR_at h1]
    simp only [List.getElem?_cons_zero, List.getElem?_cons_succ, Option.bind_some]
    rw [g1, Option.bind_some]
    simp only []
    rw [pF_at (by omega) hM2x, if_pos (by simp)]
    rfl
  · rw [hlen]
    refine ⟨b, ml, cap, f1, by rw [va_up_self, hlen], by rw [va_up_ne _ _ hbx, va_up_self], h3, h4, ⟨by rw [hlen]; omega, h5.2⟩, fun k hk => ?_, fun k hk => ?_⟩
    · rw [hlen] at hk
      by_cases e : k < t.length
      · rw [g3 k (Or.inl e), List.getD_eq_getElem?_getD, List.getElem?_append_left e, ← List.getD_eq_getElem?_getD]
        exact h6 k e
      · have q := g2 (k - t.length) (by omega)
        rw [show t.length + (k - t.length) = k by omega] at q
        rw [q, List.getD_eq_getElem?_getD (l := t ++ numL v), List.getElem?_append_right (by omega), ← List.getD_eq_getElem?_getD]
        exact ⟨rfl, numL_dig v hv _ (by omega)⟩
    · by_cases e : t.length ≤ k ∧ k < t.length + (numL v).length
      · have q := g2 (k - t.length) (by omega)
        rw [show t.length + (k - t.length) = k by omega] at q
        rw [q]
        exact (ch_iI _ (numL_dig v hv _ (by omega))).2.2
      · rw [g3 k (by omega)]
        exact h7 k hk
end SB4
