def LoansOK (u : MS) : Prop := ∀ l, 0 ≤ l → l < vN u 23 → LoanOK u l
def ParsOK (u : MS) : Prop := ∀ l, 0 ≤ l → l < vN u 23 → ParOK u l
def RepsOK (u : MS) : Prop := (∀ r, 0 ≤ r → r < vN u 33 → RepOK u r ∧ HarOK u r) ∧ ∀ r, 0 ≤ r → r < vN u 33 → 0 ≤ damS u r ∧ damS u r < 2147483648
theorem t_busy (n : Nat) (u : MS) (c : Int) (hc : -2147483648 ≤ c ∧ c < 2147483648) (h : NumOK u) (hL : LoansOK u) (hP : ParsOK u) (hf : 2100 ≤ n) : f_X12_busy n u (iI c) = if ¬ (0 ≤ c ∧ c ≤ vN u 19 - 1) then noS u 1 else fineS u (takenS u c (vN u 23)) := by
  obtain ⟨h1, h5, h10, h14, h19, h23, h33⟩ := h
  unfold f_X12_busy
  simp (disch := first | omega | assumption) only [iI_ofNat, iI_zero, t_isCourier, Option.bind_some, b0, t_no]
  by_cases c1 : 0 ≤ c ∧ c ≤ vN u 19 - 1
  · rw [if_neg (fun h => h c1), if_neg (fun h => h c1), u1_iI, t_busyDays n u c _ hc (by omega) hL hP (by omega)]
    rfl
  · rw [if_pos c1, if_pos c1]
theorem t_with (n : Nat) (u : MS) (c d : Int) (hc : -2147483648 ≤ c ∧ c < 2147483648) (hd : -2147483648 ≤ d ∧ d < 2147483648) (h : NumOK u) (hL : LoansOK u) (hP : ParsOK u) (hf : 2100 ≤ n) : f_X12_with n u (iI c) (iI d) = if ¬ (0 ≤ c ∧ c ≤ vN u 19 - 1) then noS u 1 else if ¬ (0 ≤ d ∧ d ≤ 999) then noS u 3 else fineS u (busyS u c d (vN u 23)) := by
  obtain ⟨h1, h5, h10, h14, h19, h23, h33⟩ := h
  unfold f_X12_with
  simp (disch := first | omega | assumption) only [iI_ofNat, iI_zero, t_isCourier, t_isDay, Option.bind_some, b0, t_no]
  by_cases c1 : 0 ≤ c ∧ c ≤ vN u 19 - 1
  · by_cases c2 : 0 ≤ d ∧ d ≤ 999
    · rw [if_neg (fun h => h c1), if_neg (fun h => h c2), if_neg (fun h => h c1), if_neg (fun h => h c2), u1_iI, t_busyFor n u c d _ hc (by omega) (by omega) hL hP (by omega)]
      rfl
    · rw [if_neg (fun h => h c1), if_pos c2, if_neg (fun h => h c1), if_pos c2]
  · rw [if_pos c1, if_pos c1]
theorem t_charge (n : Nat) (u : MS) (l : Int) (hl : -2147483648 ≤ l ∧ l < 2147483648) (h : NumOK u) (hL : LoansOK u) (hR : RepsOK u) (hf : 2100 ≤ n) : f_X12_charge n u (iI l) = if ¬ ((0 ≤ l ∧ l ≤ vN u 23 - 1) ∧ vR u 24 l.toNat ≠ 0) then noS u 1 else fineS u (chargS u l) := by
  obtain ⟨h1, h5, h10, h14, h19, h23, h33⟩ := h
  unfold f_X12_charge
  simp (disch := first | omega | assumption) only [iI_ofNat, iI_zero, t_isLoan, Option.bind_some, b0, t_no]
  by_cases c1 : (0 ≤ l ∧ l ≤ vN u 23 - 1) ∧ vR u 24 l.toNat ≠ 0
  · rw [if_neg (fun h => h c1), if_neg (fun h => h c1), t_charged n u l hl h33 h23 h10 hL hR.1 hR.2 hf]
    rfl
  · rw [if_pos c1, if_pos c1]
theorem t_home (n : Nat) (u : MS) (h : NumOK u) (hL : LoansOK u) (hR : RepsOK u) (hf : 2100 ≤ n) : f_X12_home n u = some (iI (chargS u (-1))) := by
  obtain ⟨h1, h5, h10, h14, h19, h23, h33⟩ := h
  unfold f_X12_home
  rw [iI_m1, t_charged n u (-1) (by omega) h33 h23 h10 hL hR.1 hR.2 hf]
  rfl
theorem t_parcels (u : MS) (l : Int) (hl : -2147483648 ≤ l ∧ l < 2147483648) (h : NumOK u) : f_X12_parcels u (iI l) = if ¬ ((0 ≤ l ∧ l ≤ vN u 23 - 1) ∧ vR u 24 l.toNat ≠ 0) then noS u 1 else fineS u (vR u 29 l.toNat) := by
  obtain ⟨h1, h5, h10, h14, h19, h23, h33⟩ := h
  unfold f_X12_parcels
  simp (disch := first | omega | assumption) only [iI_ofNat, iI_zero, t_isLoan, Option.bind_some, b0, t_no]
  by_cases c1 : (0 ≤ l ∧ l ≤ vN u 23 - 1) ∧ vR u 24 l.toNat ≠ 0
  · have q1 : inb (iI l) 17 := (iI_inb l 17 (by omega)).mpr ⟨by omega, by omega⟩
    rw [if_neg (fun h => h c1), if_pos q1, if_neg (fun h => h c1), iI_clamp l (by omega), u2_iI]
    rfl
  · rw [if_pos c1, if_pos c1]
theorem t_together (u : MS) (a b : Int) (ha : -2147483648 ≤ a ∧ a < 2147483648) (hb : -2147483648 ≤ b ∧ b < 2147483648) (h : NumOK u) : f_X12_together u (iI a) (iI b) = if ¬ (0 ≤ a ∧ a ≤ vN u 5 - 1) then noS u 1 else if ¬ (0 ≤ b ∧ b ≤ vN u 5 - 1) then noS u 1 else fineS u (if togS u a b = true then 1 else 0) := by
  obtain ⟨h1, h5, h10, h14, h19, h23, h33⟩ := h
  unfold f_X12_together
  simp (disch := first | omega | assumption) only [iI_ofNat, iI_zero, t_isThing, Option.bind_some, b0, t_no]
  by_cases c1 : 0 ≤ a ∧ a ≤ vN u 5 - 1
  · by_cases c2 : 0 ≤ b ∧ b ≤ vN u 5 - 1
    · rw [if_neg (fun h => h c1), if_neg (fun h => h c2), if_neg (fun h => h c1), if_neg (fun h => h c2), t_areTogether u a b (by omega) (by omega)]
      simp only [Option.bind_some, b0]
      by_cases c3 : togS u a b = true
      · rw [if_neg (fun h => h c3), if_pos c3]
        rfl
      · rw [if_pos c3, if_neg c3]
        rfl
    · rw [if_neg (fun h => h c1), if_pos c2, if_neg (fun h => h c1), if_pos c2]
  · rw [if_pos c1, if_pos c1]
