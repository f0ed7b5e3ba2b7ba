def NumOK (u : MS) : Prop := (0 ≤ vN u 1 ∧ vN u 1 ≤ 120) ∧ (0 ≤ vN u 5 ∧ vN u 5 ≤ 16) ∧ (0 ≤ vN u 10 ∧ vN u 10 ≤ 48) ∧ (0 ≤ vN u 14 ∧ vN u 14 ≤ 6) ∧ (0 ≤ vN u 19 ∧ vN u 19 ≤ 8) ∧ (0 ≤ vN u 23 ∧ vN u 23 ≤ 16) ∧ (0 ≤ vN u 33 ∧ vN u 33 ≤ 48)
def fineS (u : MS) (z : Int) : Option (Int32 × MS) := some (iI z, uI u 2 (iI 0))
def noS (u : MS) (z : Int) : Option (Int32 × MS) := some (iI (-9999), uI u 2 (iI z))
theorem t_fine (u : MS) (z : Int) : (f_X12_fine u (iI z)).bind (fun r => some (r.1, r.2)) = fineS u z := rfl
theorem t_no (u : MS) (z : Int) : (f_X12_no u (iI z)).bind (fun r => some (r.1, r.2)) = noS u z := rfl
theorem t_value (n : Nat) (u : MS) (t d : Int) (ht : -2147483648 ≤ t ∧ t < 2147483648) (hd : -2147483648 ≤ d ∧ d < 2147483648) (h : NumOK u) (hf : 2100 ≤ n) : f_X12_value n u (iI t) (iI d) = if ¬ (0 ≤ t ∧ t ≤ vN u 5 - 1) then noS u 1 else if ¬ (0 ≤ d ∧ d ≤ 999) then noS u 3 else fineS u (valS u t d) := by
  obtain ⟨h1, h5, h10, h14, h19, h23, h33⟩ := h
  unfold f_X12_value
  simp (disch := first | omega | assumption) only [iI_ofNat, iI_zero, t_isThing, t_isDay, Option.bind_some, b0, t_no]
  by_cases c1 : 0 ≤ t ∧ t ≤ vN u 5 - 1
  · by_cases c2 : 0 ≤ d ∧ d ≤ 999
    · rw [if_neg (fun h => h c1), if_neg (fun h => h c2), if_neg (fun h => h c1), if_neg (fun h => h c2), t_valueOn n u t d (by omega) hd h10 (by omega)]
      rfl
    · rw [if_neg (fun h => h c1), if_pos c2, if_neg (fun h => h c1), if_pos c2]
  · rw [if_pos c1, if_pos c1]
theorem t_where (n : Nat) (u : MS) (t d : Int) (ht : -2147483648 ≤ t ∧ t < 2147483648) (hd : -2147483648 ≤ d ∧ d < 2147483648) (h : NumOK u) (hL : ∀ l, 0 ≤ l → l < vN u 23 → LoanOK u l) (hf : 2100 ≤ n) : f_X12_where n u (iI t) (iI d) = if ¬ (0 ≤ t ∧ t ≤ vN u 5 - 1) then noS u 1 else if ¬ (0 ≤ d ∧ d ≤ 999) then noS u 3 else fineS u (loanS u t d) := by
  obtain ⟨h1, h5, h10, h14, h19, h23, h33⟩ := h
  unfold f_X12_where
  simp (disch := first | omega | assumption) only [iI_ofNat, iI_zero, t_isThing, t_isDay, Option.bind_some, b0, t_no]
  by_cases c1 : 0 ≤ t ∧ t ≤ vN u 5 - 1
  · by_cases c2 : 0 ≤ d ∧ d ≤ 999
    · rw [if_neg (fun h => h c1), if_neg (fun h => h c2), if_neg (fun h => h c1), if_neg (fun h => h c2), t_loanOf n u t d ht hd h23 hL (by omega)]
      rfl
    · rw [if_neg (fun h => h c1), if_pos c2, if_neg (fun h => h c1), if_pos c2]
  · rw [if_pos c1, if_pos c1]
theorem t_harms (n : Nat) (u : MS) (t d : Int) (ht : -2147483648 ≤ t ∧ t < 2147483648) (hd : -2147483648 ≤ d ∧ d < 2147483648) (h : NumOK u) (hf : 2100 ≤ n) : f_X12_harms n u (iI t) (iI d) = if ¬ (0 ≤ t ∧ t ≤ vN u 5 - 1) then noS u 1 else if ¬ (0 ≤ d ∧ d ≤ 999) then noS u 3 else fineS u (harmsS u t d) := by
  obtain ⟨h1, h5, h10, h14, h19, h23, h33⟩ := h
  unfold f_X12_harms
  simp (disch := first | omega | assumption) only [iI_ofNat, iI_zero, t_isThing, t_isDay, Option.bind_some, b0, t_no]
  by_cases c1 : 0 ≤ t ∧ t ≤ vN u 5 - 1
  · by_cases c2 : 0 ≤ d ∧ d ≤ 999
    · rw [if_neg (fun h => h c1), if_neg (fun h => h c2), if_neg (fun h => h c1), if_neg (fun h => h c2), t_harmsOn n u t d ht hd h33 (by omega)]
      rfl
    · rw [if_neg (fun h => h c1), if_pos c2, if_neg (fun h => h c1), if_pos c2]
  · rw [if_pos c1, if_pos c1]
theorem t_stage (u : MS) (l d : Int) (hl : -2147483648 ≤ l ∧ l < 2147483648) (hd : -2147483648 ≤ d ∧ d < 2147483648) (h : NumOK u) (hL : ∀ l, 0 ≤ l → l < vN u 23 → LoanOK u l) : f_X12_stage u (iI l) (iI d) = if ¬ ((0 ≤ l ∧ l ≤ vN u 23 - 1) ∧ vR u 24 l.toNat ≠ 0) then noS u 1 else if ¬ (0 ≤ d ∧ d ≤ 999) then noS u 3 else fineS u (stageS u l d) := by
  obtain ⟨h1, h5, h10, h14, h19, h23, h33⟩ := h
  unfold f_X12_stage
  simp (disch := first | omega | assumption) only [iI_ofNat, iI_zero, t_isLoan, t_isDay, Option.bind_some, b0, t_no]
  by_cases c1 : (0 ≤ l ∧ l ≤ vN u 23 - 1) ∧ vR u 24 l.toNat ≠ 0
  · by_cases c2 : 0 ≤ d ∧ d ≤ 999
    · rw [if_neg (fun h => h c1), if_neg (fun h => h c2), if_neg (fun h => h c1), if_neg (fun h => h c2), t_stageOf u l d (by omega) (by omega) (hL l (by omega) (by omega))]
      rfl
    · rw [if_neg (fun h => h c1), if_pos c2, if_neg (fun h => h c1), if_pos c2]
  · rw [if_pos c1, if_pos c1]
theorem t_cost (n : Nat) (u : MS) (l d : Int) (hl : -2147483648 ≤ l ∧ l < 2147483648) (hd : -2147483648 ≤ d ∧ d < 2147483648) (h : NumOK u) (hL : ∀ l, 0 ≤ l → l < vN u 23 → LoanOK u l) (hp : ∀ l, 0 ≤ l → l < vN u 23 → PofOK u l) (hf : 2100 ≤ n) : f_X12_cost n u (iI l) (iI d) = if ¬ ((0 ≤ l ∧ l ≤ vN u 23 - 1) ∧ vR u 24 l.toNat ≠ 0) then noS u 1 else if ¬ (0 ≤ d ∧ d ≤ 999) then noS u 3 else fineS u (costS u l d) := by
  obtain ⟨h1, h5, h10, h14, h19, h23, h33⟩ := h
  unfold f_X12_cost
  simp (disch := first | omega | assumption) only [iI_ofNat, iI_zero, t_isLoan, t_isDay, Option.bind_some, b0, t_no]
  by_cases c1 : (0 ≤ l ∧ l ≤ vN u 23 - 1) ∧ vR u 24 l.toNat ≠ 0
  · by_cases c2 : 0 ≤ d ∧ d ≤ 999
    · rw [if_neg (fun h => h c1), if_neg (fun h => h c2), if_neg (fun h => h c1), if_neg (fun h => h c2), t_costOf n u l d (by omega) (by omega) h5 h10 h33 (hL l (by omega) (by omega)) (hp l (by omega) (by omega)) (by omega)]
      rfl
    · rw [if_neg (fun h => h c1), if_pos c2, if_neg (fun h => h c1), if_pos c2]
  · rw [if_pos c1, if_pos c1]
