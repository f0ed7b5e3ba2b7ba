theorem t_dearest (n : Nat) (u : MS) (l : Int) (hl : -2147483648 ≤ l ∧ l < 2147483648) (h : NumOK u) (hL : LoansOK u) (hp : ∀ l, 0 ≤ l → l < vN u 23 → PofOK u l ∧ CostOK u l) (hf : 2100 ≤ n) : f_X12_dearest n u (iI l) = if ¬ ((0 ≤ l ∧ l ≤ vN u 23 - 1) ∧ vR u 24 l.toNat ≠ 0) then noS u 1 else fineS u (dearG u l (lenS u l - 1).toNat (vR u 26 l.toNat) (costS u l (vR u 26 l.toNat)) (vR u 26 l.toNat + 1)) := by
  have h0 := h
  obtain ⟨h1, h5, h10, h14, h19, h23, h33⟩ := h
  unfold f_X12_dearest
  simp (disch := first | omega | assumption) only [iI_ofNat, iI_zero, t_isLoan, Option.bind_some, b0, t_no]
  by_cases c1 : (0 ≤ l ∧ l ≤ vN u 23 - 1) ∧ vR u 24 l.toNat ≠ 0
  · have n1 : (¬ ((0 ≤ l ∧ l ≤ vN u 23 - 1) ∧ vR u 24 l.toNat ≠ 0)) = False := eq_false (fun h => h c1)
    have q1 : inb (iI l) 17 := (iI_inb l 17 (by omega)).mpr ⟨by omega, by omega⟩
    have hq := hp l (by omega) (by omega)
    have hl2 := hL l (by omega) (by omega)
    obtain ⟨hl3, hl4, hl5, hl6⟩ := id hl2
    have hlen : 1 ≤ lenS u l ∧ lenS u l ≤ 360 := by unfold lenS; omega
    have hc := hq.2 (vR u 26 l.toNat)
    have hr := t_dearest_L n u l (by omega) h0 hl2 hq.1 hq.2 hf n (vR u 26 l.toNat) (costS u l (vR u 26 l.toNat)) (vR u 26 l.toNat + 1) (by omega) (by omega) (by omega) hc
    rw [show vR u 26 l.toNat + lenS u l - (vR u 26 l.toNat + 1) = lenS u l - 1 by omega] at hr
    simp only [n1, if_false]
    rw [if_pos q1, iI_clamp l (by omega), u2_iI, t_costOf n u l _ (by omega) (by omega) h5 h10 h33 hl2 hq.1 (by omega)]
    simp only [Option.bind_some]
    rw [iI_add, hr]
  · have n1 : (¬ ((0 ≤ l ∧ l ≤ vN u 23 - 1) ∧ vR u 24 l.toNat ≠ 0)) = True := eq_true c1
    simp only [n1, if_true]
