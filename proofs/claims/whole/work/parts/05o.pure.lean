def dearG (u : MS) (l : Int) : Nat → Int → Int → Int → Int
  | 0, b, _, _ => b
  | c + 1, b, m, i => if m < costS u l i then dearG u l c i (costS u l i) (i + 1) else dearG u l c b m (i + 1)
def CostOK (u : MS) (l : Int) : Prop := ∀ d, 0 ≤ costS u l d ∧ costS u l d < 2147483648
theorem t_dearest_L (n : Nat) (u : MS) (l : Int) (hl : 0 ≤ l ∧ l < vN u 23) (h : NumOK u) (hL : LoanOK u l) (hp : PofOK u l) (hC : CostOK u l) (hf : 2100 ≤ n) : ∀ (k : Nat) (b m i : Int), 0 ≤ i → i ≤ vR u 26 l.toNat + lenS u l → (vR u 26 l.toNat + lenS u l - i).toNat < k → (0 ≤ m ∧ m < 2147483648) → f_X12_dearest_L33 n (iI l) k u (iI b) (iI m) (iI i) = fineS u (dearG u l (vR u 26 l.toNat + lenS u l - i).toNat b m i) := by
  obtain ⟨h1, h5, h10, h14, h19, h23, h33⟩ := h
  obtain ⟨hl1, hl2, hl3, hl4⟩ := id hL
  have hlen : 0 ≤ lenS u l ∧ lenS u l ≤ 360 := by unfold lenS; omega
  have q1 : inb (iI l) 17 := (iI_inb l 17 (by omega)).mpr ⟨by omega, by omega⟩
  intro k
  induction k with
  | zero => intro b m i _ _ h; omega
  | succ k ih =>
    intro b m i h0 hi hk hm
    unfold f_X12_dearest_L33
    rw [if_pos q1, t_lengthOf u l (by omega) hL]
    simp only [Option.bind_some]
    rw [iI_clamp l (by omega), u2_iI, iI_add]
    by_cases e : vR u 26 l.toNat + lenS u l ≤ i
    · have : (vR u 26 l.toNat + lenS u l - i).toNat = 0 := by omega
      rw [if_pos ((iI_le _ _ (by omega)).mpr e), this]
      rfl
    · have e2 : (vR u 26 l.toNat + lenS u l - i).toNat = (vR u 26 l.toNat + lenS u l - (i + 1)).toNat + 1 := by omega
      have hc := hC i
      rw [if_neg (fun h => e ((iI_le _ _ (by omega)).mp h)), e2, t_costOf n u l i (by omega) (by omega) h5 h10 h33 hL hp (by omega)]
      simp only [Option.bind_some, dearG]
      rw [show (1 : Int32) = iI 1 from rfl, iI_add]
      by_cases c1 : m < costS u l i
      · rw [if_pos ((iI_lt _ _ (by omega)).mpr c1), if_pos c1, ih i (costS u l i) (i + 1) (by omega) (by omega) (by omega) (by omega)]
      · rw [if_neg (fun h => c1 ((iI_lt _ _ (by omega)).mp h)), if_neg c1, ih b m (i + 1) (by omega) (by omega) (by omega) hm]
theorem t_premium_L (n : Nat) (u : MS) (l e : Int) (hl : 0 ≤ l ∧ l < vN u 23) (he : 0 ≤ e ∧ e ≤ 999) (h : NumOK u) (hL : LoanOK u l) (hp : PofOK u l) (hC : CostOK u l) (hf : 2100 ≤ n) : ∀ (k : Nat) (w i : Int), 0 ≤ i → i ≤ e + 1 → (e + 1 - i).toNat < k → (0 ≤ w ∧ w ≤ i * 2147483648) → f_X12_premium_L45 n (iI l) (iI e) k u (iL w) (iI i) = fineS u ((w + sumI (costS u l) (e + 1 - i).toNat i).tdiv 10000) := by
  obtain ⟨h1, h5, h10, h14, h19, h23, h33⟩ := h
  intro k
  induction k with
  | zero => intro w i _ _ h; omega
  | succ k ih =>
    intro w i h0 hi hk hw
    unfold f_X12_premium_L45
    by_cases c : e < i
    · have : (e + 1 - i).toNat = 0 := by omega
      have t1 : w.tdiv 10000 = w / 10000 := Int.tdiv_eq_ediv_of_nonneg hw.1
      rw [if_pos ((iI_lt _ _ (by omega)).mpr c), this, show (10000 : Int64) = iL 10000 from rfl, iL_div _ _ (by omega), iL_int _ (by omega)]
      simp only [sumI, Int.add_zero]
      rfl
    · have e2 : (e + 1 - i).toNat = (e + 1 - (i + 1)).toNat + 1 := by omega
      have hc := hC i
      rw [if_neg (fun h => c ((iI_lt _ _ (by omega)).mp h)), e2, t_costOf n u l i (by omega) (by omega) h5 h10 h33 hL hp (by omega)]
      simp only [Option.bind_some, sumI]
      rw [iI_long _ (by omega), iL_add, show (1 : Int32) = iI 1 from rfl, iI_add, ih (w + costS u l i) (i + 1) (by omega) (by omega) (by omega) (by omega), Int.add_assoc]
