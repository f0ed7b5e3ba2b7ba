/-! THE REFERENCE'S STEPS: next, begins, number, word, goes, must, ends -/
section RS
variable {S : Nat → Nat} {L : Mem}
theorem t_dig_row (n : Nat) (u : MS) (N b : Nat) (hN : vN u 1 = N) (hN2 : N ≤ 120) (hb : vN u 44 = b) : ∀ (k i : Nat) (u1 : MS) (x : Int), b ≤ i → i ≤ N → N - i < k → (vN u1 43 = i ∧ (∀ k, k ≠ 43 → k ≠ 46 → u1.1 k = u.1 k) ∧ u1.2 = u.2) → u1.1 46 = iI x → ∃ u2, f_X12_next_L170 S n L k u1 = some u2 ∧ (vN u2 43 = rowF (vR u 0) 48 57 (N - i) i ∧ (∀ k, k ≠ 43 → k ≠ 46 → u2.1 k = u.1 k) ∧ u2.2 = u.2) ∧ u2.1 46 = iI (numF (vR u 0) b (rowF (vR u 0) 48 57 (N - i) i - i) i x) := by
  intro k
  induction k with
  | zero => intro i u1 x _ _ h; omega
  | succ k ih =>
    intro i u1 x hbi hi hk hA hx
    obtain ⟨a1, a2, a3⟩ := hA
    have b1 : u1.1 1 = iI N := by rw [a2 1 (by decide) (by decide), u1_iI, hN]
    have b2 : u1.1 43 = iI i := by rw [u1_iI, a1]
    have b4 : u1.1 44 = iI b := by rw [a2 44 (by decide) (by decide), u1_iI, hb]
    unfold f_X12_next_L170
    rw [b1, b2, b4, it_le _ _ (by omega)]
    by_cases e : i = N
    · rw [if_pos (by omega), show N - i = 0 by omega]
      exact ⟨u1, rfl, ⟨by rw [rowF]; exact a1, a2, a3⟩, by rw [rowF, Nat.sub_self, numF]; exact hx⟩
    · have q1 : inb (iI i) 120 := (iI_inb _ 120 (by omega)).mpr (by omega)
      have ec : (iI (i : Int)).toNatClampNeg = i := by rw [iI_clamp _ (by omega), Int.toNat_natCast]
      have hr := vR_rng u 0 i
      have e1 := t_isIn u1 (vR u 0 i) 48 57 hr (by omega) (by omega)
      have hd : u1.2 0 i = iI (vR u 0 i) := by rw [a3, u2_iI]
      rw [if_neg (by omega)]
      simp only [if_pos q1, ec, hd, hx]
      rw [show (48 : Int32) = iI 48 from rfl, show (57 : Int32) = iI 57 from rfl, e1, Option.bind_some, show N - i = (N - (i + 1)) + 1 by omega, rowF]
      simp only [b0z]
      by_cases c : 48 ≤ vR u 0 i ∧ vR u 0 i ≤ 57
      · have hrr := rowF_rng (vR u 0) 48 57 (N - (i + 1)) (i + 1)
        rw [if_neg (fun q => q c), if_pos c, show rowF (vR u 0) 48 57 (N - (i + 1)) (i + 1) - i = (rowF (vR u 0) 48 57 (N - (i + 1)) (i + 1) - (i + 1)) + 1 by omega, numF, iI_sub, show (4 : Int32) = iI 4 from rfl, it_le _ _ (by omega), show (1 : Int32) = iI 1 from rfl, show (10 : Int32) = iI 10 from rfl, iI_mul, iI_add, iI_add, iI_sub]
        by_cases c4 : 4 ≤ (i : Int) - b
        · rw [if_pos c4, if_neg (show ¬ i < b + 4 by omega)]
          obtain ⟨u2, x1, x2, x3⟩ := ih (i + 1) (uI u1 43 (iI ((i : Int) + 1))) x (by omega) (by omega) (by omega) ⟨by rw [vN_uI _ _ _ _ (by omega), if_pos rfl]; omega, fun k h1 h2 => by
            show upd u1.1 43 _ k = _
            rw [← a2 k h1 h2]
            simp [upd, h1], a3⟩ (by simp [uI, upd, hx])
          exact ⟨u2, x1, x2, x3⟩
        · rw [if_neg c4, if_pos (show i < b + 4 by omega)]
          obtain ⟨u2, x1, x2, x3⟩ := ih (i + 1) (uI (uI u1 46 (iI (10 * x + vR u 0 i - 48))) 43 (iI ((i : Int) + 1))) (10 * x + vR u 0 i - 48) (by omega) (by omega) (by omega) ⟨by rw [vN_uI _ _ _ _ (by omega), if_pos rfl]; omega, fun k h1 h2 => by
            show upd (upd u1.1 46 _) 43 _ k = _
            rw [← a2 k h1 h2]
            simp [upd, h1, h2], a3⟩ (by simp [uI, upd])
          refine ⟨u2, ?_, x2, x3⟩
          rw [show (uI u1 46 (iI (10 * x + vR u 0 i - 48))).1 43 = iI i from by simp [uI, upd, b2], iI_add]
          exact x1
      · rw [if_pos c, if_neg c, Nat.sub_self, numF]
        exact ⟨u1, rfl, ⟨a1, a2, a3⟩, hx⟩
end RS
