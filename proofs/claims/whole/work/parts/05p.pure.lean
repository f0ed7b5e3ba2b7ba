theorem t_premium (n : Nat) (u : MS) (l a e : Int) (hl : -2147483648 ≤ l ∧ l < 2147483648) (ha : -2147483648 ≤ a ∧ a < 2147483648) (he : -2147483648 ≤ e ∧ e < 2147483648) (h : NumOK u) (hL : LoansOK u) (hp : ∀ l, 0 ≤ l → l < vN u 23 → PofOK u l ∧ CostOK u l) (hf : 2100 ≤ n) : f_X12_premium n u (iI l) (iI a) (iI e) = if ¬ ((0 ≤ l ∧ l ≤ vN u 23 - 1) ∧ vR u 24 l.toNat ≠ 0) then noS u 1 else if ¬ (0 ≤ a ∧ a ≤ 999) then noS u 3 else if ¬ (0 ≤ e ∧ e ≤ 999) then noS u 3 else if a ≤ e then fineS u ((sumI (costS u l) (e + 1 - a).toNat a).tdiv 10000) else noS u 3 := by
  have h0 := h
  obtain ⟨h1, h5, h10, h14, h19, h23, h33⟩ := h
  unfold f_X12_premium
  simp (disch := first | omega | assumption) only [iI_ofNat, iI_zero, t_isLoan, t_isDay, iI_le, Option.bind_some, b0, t_no]
  by_cases c1 : (0 ≤ l ∧ l ≤ vN u 23 - 1) ∧ vR u 24 l.toNat ≠ 0
  · by_cases c2 : 0 ≤ a ∧ a ≤ 999
    · by_cases c3 : 0 ≤ e ∧ e ≤ 999
      · have n1 : (¬ ((0 ≤ l ∧ l ≤ vN u 23 - 1) ∧ vR u 24 l.toNat ≠ 0)) = False := eq_false (fun h => h c1)
        have n2 : (¬ (0 ≤ a ∧ a ≤ 999)) = False := eq_false (fun h => h c2)
        have n3 : (¬ (0 ≤ e ∧ e ≤ 999)) = False := eq_false (fun h => h c3)
        simp only [n1, n2, n3, if_false]
        by_cases c4 : a ≤ e
        · have hq := hp l (by omega) (by omega)
          rw [if_pos c4, if_pos c4, show (0 : Int64) = iL 0 from rfl, t_premium_L n u l e (by omega) c3 h0 (hL l (by omega) (by omega)) hq.1 hq.2 hf n 0 a (by omega) (by omega) (by omega) (by omega), Int.zero_add]
        · rw [if_neg c4, if_neg c4]
      · rw [if_neg (fun h => h c1), if_neg (fun h => h c2), if_pos c3, if_neg (fun h => h c1), if_neg (fun h => h c2), if_pos c3]
    · rw [if_neg (fun h => h c1), if_pos c2, if_neg (fun h => h c1), if_pos c2]
  · rw [if_pos c1, if_pos c1]
