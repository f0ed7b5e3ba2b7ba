theorem t_ready (n : Nat) (u : MS) (c d m : Int) (hc : -2147483648 ≤ c ∧ c < 2147483648) (hd : -2147483648 ≤ d ∧ d < 2147483648) (hm : -2147483648 ≤ m ∧ m < 2147483648) (h : NumOK u) (hL : LoansOK u) (hP : ParsOK u) (hS : SpasOK u) (hf : 2100 ≤ n) : f_X12_ready n u (iI c) (iI d) (iI m) = if ¬ (0 ≤ c ∧ c ≤ vN u 19 - 1) then noS u 1 else if ¬ (0 ≤ d ∧ d ≤ 999) then noS u 3 else if ¬ (1 ≤ m ∧ m ≤ 1000) then noS u 3 else fineS u (rdG u c m (1000 - d).toNat 0 d) := by
  have h0 := h
  obtain ⟨h1, h5, h10, h14, h19, h23, h33⟩ := h
  unfold f_X12_ready
  simp (disch := first | omega | assumption) only [iI_ofNat, iI_zero, t_isCourier, t_isDay, t_isIn, Option.bind_some, b0, t_no]
  by_cases c1 : 0 ≤ c ∧ c ≤ vN u 19 - 1
  · by_cases c2 : 0 ≤ d ∧ d ≤ 999
    · by_cases c3 : 1 ≤ m ∧ m ≤ 1000
      · rw [if_neg (fun h => h c1), if_neg (fun h => h c2), if_neg (fun h => h c3), if_neg (fun h => h c1), if_neg (fun h => h c2), if_neg (fun h => h c3), t_ready_L n u c m (by omega) c3 h0 hL hP hS (by omega) n 0 d (by omega) (by omega) (by omega) (by omega)]
      · rw [if_neg (fun h => h c1), if_neg (fun h => h c2), if_pos c3, if_neg (fun h => h c1), if_neg (fun h => h c2), if_pos c3]
    · rw [if_neg (fun h => h c1), if_pos c2, if_neg (fun h => h c1), if_pos c2]
  · rw [if_pos c1, if_pos c1]
theorem t_isParcel (u : MS) (l p : Int) (hl : -2147483648 ≤ l ∧ l < 2147483648) (hp : -2147483648 ≤ p ∧ p < 2147483648) (h : NumOK u) (hP : ParsOK u) : f_X12_isParcel u (iI l) (iI p) = some (iI (if ((0 ≤ l ∧ l ≤ vN u 23 - 1) ∧ vR u 24 l.toNat ≠ 0) ∧ (0 ≤ p ∧ p ≤ vR u 29 l.toNat - 1) then 1 else 0)) := by
  obtain ⟨h1, h5, h10, h14, h19, h23, h33⟩ := h
  unfold f_X12_isParcel
  rw [t_isLoan u l hl h23]
  simp only [Option.bind_some, iI_zero, b0]
  by_cases c1 : (0 ≤ l ∧ l ≤ vN u 23 - 1) ∧ vR u 24 l.toNat ≠ 0
  · have q1 : inb (iI l) 17 := (iI_inb l 17 (by omega)).mpr ⟨by omega, by omega⟩
    have hpl := hP l (by omega) (by omega)
    unfold ParOK at hpl
    rw [if_neg (fun h => h c1), if_pos q1, iI_clamp l (by omega), u2_iI, show (1 : Int32) = iI 1 from rfl, iI_sub, t_isIn u p 0 _ hp (by omega) (by omega)]
    simp only [Option.bind_some, b0]
    by_cases c2 : 0 ≤ p ∧ p ≤ vR u 29 l.toNat - 1
    · rw [if_neg (fun h => h c2), if_pos ⟨c1, c2⟩]
    · rw [if_pos c2, if_neg (fun h => c2 h.2)]
  · rw [if_pos c1, if_neg (fun h => c1 h.1)]
theorem t_weight (n : Nat) (u : MS) (l p : Int) (hl : -2147483648 ≤ l ∧ l < 2147483648) (hp : -2147483648 ≤ p ∧ p < 2147483648) (h : NumOK u) (hP : ParsOK u) (hf : 2100 ≤ n) : f_X12_weight n u (iI l) (iI p) = if ¬ (((0 ≤ l ∧ l ≤ vN u 23 - 1) ∧ vR u 24 l.toNat ≠ 0) ∧ (0 ≤ p ∧ p ≤ vR u 29 l.toNat - 1)) then noS u 1 else fineS u (weighS u l p) := by
  have h0 := h
  obtain ⟨h1, h5, h10, h14, h19, h23, h33⟩ := h
  unfold f_X12_weight
  rw [t_isParcel u l p hl hp h0 hP]
  simp only [Option.bind_some, iI_zero, b0]
  by_cases c1 : ((0 ≤ l ∧ l ≤ vN u 23 - 1) ∧ vR u 24 l.toNat ≠ 0) ∧ (0 ≤ p ∧ p ≤ vR u 29 l.toNat - 1)
  · rw [if_neg (fun h => h c1), if_neg (fun h => h c1), t_weightOf n u l p (by omega) hp h5 (by omega)]
    rfl
  · rw [if_pos c1, if_pos c1]
    rfl
