def freeG (u : MS) (t m : Int) : Nat → Int → Int → Int
  | 0, _, _ => -1
  | c + 1, w, i => if (if 0 ≤ loanS u t i then 0 else w + 1) = m then i - m + 1 else freeG u t m c (if 0 ≤ loanS u t i then 0 else w + 1) (i + 1)
theorem loanS_rng (u : MS) (t d : Int) (h : 0 ≤ vN u 23 ∧ vN u 23 ≤ 16) : -1 ≤ loanS u t d ∧ loanS u t d ≤ 17 := by
  have := fstI_rng (onL u t d) (vN u 23).toNat 0 (by omega)
  unfold loanS
  omega
theorem t_free_L (n : Nat) (u : MS) (t m : Int) (ht : -2147483648 ≤ t ∧ t < 2147483648) (hm : 1 ≤ m ∧ m ≤ 1000) (h23 : 0 ≤ vN u 23 ∧ vN u 23 ≤ 16) (hL : LoansOK u) (hf : 60 ≤ n) : ∀ (k : Nat) (w i : Int), 0 ≤ i → i ≤ 1000 → (1000 - i).toNat < k → (0 ≤ w ∧ w ≤ i) → f_X12_free_L44 n (iI t) (iI m) k u (iI w) (iI i) = fineS u (freeG u t m (1000 - i).toNat w i) := by
  intro k
  induction k with
  | zero => intro w i _ _ h; omega
  | succ k ih =>
    intro w i h0 hi hk hw
    unfold f_X12_free_L44
    rw [show (1000 : Int32) = iI 1000 from rfl]
    by_cases e : 1000 ≤ i
    · have : (1000 - i).toNat = 0 := by omega
      rw [if_pos ((iI_le _ _ (by omega)).mpr e), this]
      rfl
    · have e2 : (1000 - i).toNat = (1000 - (i + 1)).toNat + 1 := by omega
      have hr := loanS_rng u t i h23
      rw [if_neg (fun h => e ((iI_le _ _ (by omega)).mp h)), e2, t_loanOf n u t i ht (by omega) h23 hL hf]
      simp only [Option.bind_some, freeG]
      by_cases c1 : 0 ≤ loanS u t i
      · have ih1 := ih 0 (i + 1) (by omega) (by omega) (by omega) (by omega)
        have c2 : ¬ (0 : Int) = m := by omega
        rw [iI_zero, if_pos ((iI_le _ _ (by omega)).mpr c1), if_pos c1]
        simp only [Option.bind_some]
        rw [if_neg (fun h => c2 ((iI_eq _ _ (by omega)).mp h)), if_neg c2, iI_ofNat, iI_add, ih1]
      · have ih1 := ih (w + 1) (i + 1) (by omega) (by omega) (by omega) (by omega)
        rw [iI_zero, if_neg (fun h => c1 ((iI_le _ _ (by omega)).mp h)), if_neg c1]
        simp only [Option.bind_some]
        rw [show (1 : Int32) = iI 1 from rfl, iI_add, iI_sub, iI_add, iI_add]
        by_cases c2 : w + 1 = m
        · rw [if_pos ((iI_eq _ _ (by omega)).mpr c2), if_pos c2]
          rfl
        · rw [if_neg (fun h => c2 ((iI_eq _ _ (by omega)).mp h)), if_neg c2, ih1]
theorem t_free (n : Nat) (u : MS) (t d m : Int) (ht : -2147483648 ≤ t ∧ t < 2147483648) (hd : -2147483648 ≤ d ∧ d < 2147483648) (hm : -2147483648 ≤ m ∧ m < 2147483648) (h : NumOK u) (hL : LoansOK u) (hf : 2100 ≤ n) : f_X12_free n u (iI t) (iI d) (iI m) = if ¬ (0 ≤ t ∧ t ≤ vN u 5 - 1) then noS u 1 else if ¬ (0 ≤ d ∧ d ≤ 999) then noS u 3 else if ¬ (1 ≤ m ∧ m ≤ 1000) then noS u 3 else fineS u (freeG u t m (1000 - d).toNat 0 d) := by
  obtain ⟨h1, h5, h10, h14, h19, h23, h33⟩ := h
  unfold f_X12_free
  simp (disch := first | omega | assumption) only [iI_ofNat, iI_zero, t_isThing, t_isDay, t_isIn, Option.bind_some, b0, t_no]
  by_cases c1 : 0 ≤ t ∧ t ≤ vN u 5 - 1
  · by_cases c2 : 0 ≤ d ∧ d ≤ 999
    · by_cases c3 : 1 ≤ m ∧ m ≤ 1000
      · rw [if_neg (fun h => h c1), if_neg (fun h => h c2), if_neg (fun h => h c3), if_neg (fun h => h c1), if_neg (fun h => h c2), if_neg (fun h => h c3), t_free_L n u t m ht c3 h23 hL (by omega) n 0 d (by omega) (by omega) (by omega) (by omega)]
      · rw [if_neg (fun h => h c1), if_neg (fun h => h c2), if_pos c3, if_neg (fun h => h c1), if_neg (fun h => h c2), if_pos c3]
    · rw [if_neg (fun h => h c1), if_pos c2, if_neg (fun h => h c1), if_pos c2]
  · rw [if_pos c1, if_pos c1]
