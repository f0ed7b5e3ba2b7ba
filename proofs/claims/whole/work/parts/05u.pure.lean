theorem t_standing (n : Nat) (u : MS) (h23 : 0 ≤ vN u 23 ∧ vN u 23 ≤ 16) (hf : 60 ≤ n) : f_X12_standing n u = some (iI (stdS u)) := by
  have := t_standing_L n u h23 n 0 0 (by omega) (by omega) (by omega)
  unfold f_X12_standing stdS
  rw [iI_zero, this, Int.sub_zero, Int.zero_add]
theorem t_parcel (u : MS) (l t : Int) (hl : -2147483648 ≤ l ∧ l < 2147483648) (ht : -2147483648 ≤ t ∧ t < 2147483648) (h : NumOK u) : f_X12_parcel u (iI l) (iI t) = if ¬ ((0 ≤ l ∧ l ≤ vN u 23 - 1) ∧ vR u 24 l.toNat ≠ 0) then noS u 1 else if ¬ (0 ≤ t ∧ t ≤ vN u 5 - 1) then noS u 1 else if ¬ hadS u l t = true then noS u 1 else fineS u (vR u 30 (l * 16 + t).toNat) := by
  obtain ⟨h1, h5, h10, h14, h19, h23, h33⟩ := h
  unfold f_X12_parcel
  simp (disch := first | omega | assumption) only [iI_ofNat, iI_zero, t_isLoan, t_isThing, Option.bind_some, b0, t_no]
  by_cases c1 : (0 ≤ l ∧ l ≤ vN u 23 - 1) ∧ vR u 24 l.toNat ≠ 0
  · by_cases c2 : 0 ≤ t ∧ t ≤ vN u 5 - 1
    · have q1 : inb (iI (l * 16 + t)) 272 := (iI_inb _ 272 (by omega)).mpr ⟨by omega, by omega⟩
      have n1 : (¬ ((0 ≤ l ∧ l ≤ vN u 23 - 1) ∧ vR u 24 l.toNat ≠ 0)) = False := eq_false (fun h => h c1)
      have n2 : (¬ (0 ≤ t ∧ t ≤ vN u 5 - 1)) = False := eq_false (fun h => h c2)
      simp only [n1, n2, if_false]
      rw [t_isHad u l t (by omega)]
      simp only [Option.bind_some, b0, iI_mul, iI_add]
      by_cases c3 : hadS u l t = true
      · have n3 : (¬ hadS u l t = true) = False := eq_false (fun h => h c3)
        simp only [n3, if_false]
        rw [if_pos q1, iI_clamp _ (by omega), u2_iI]
        rfl
      · rw [if_pos c3, if_pos c3]
    · rw [if_neg (fun h => h c1), if_pos c2, if_neg (fun h => h c1), if_pos c2]
  · rw [if_pos c1, if_pos c1]
