def iL (z : Int) : Int64 := Int64.ofInt z
theorem toInt_iL (z : Int) (h : -9223372036854775808 ≤ z) (h1 : z < 9223372036854775808) : (iL z).toInt = z := by
  show (Int64.ofInt z).toInt = z
  rw [Int64.toInt_ofInt]
  have e : ((Int64.size : Nat) : Int) = 18446744073709551616 := rfl
  simp only [Int.bmod]
  rw [e]
  omega
theorem iL_add (a b : Int) : iL a + iL b = iL (a + b) := (Int64.ofInt_add ..).symm
theorem iI_long (a : Int) (h : -2147483648 ≤ a ∧ a < 2147483648) : (iI a).toInt64 = iL a := by
  apply Int64.toInt_inj.mp
  rw [Int32.toInt_toInt64, toInt_iI a h.1 h.2, toInt_iL a (by omega) (by omega)]
theorem iL_div (a b : Int) (h : 0 ≤ a ∧ a < 9223372036854775808 ∧ 0 < b ∧ b < 9223372036854775808) : iL a / iL b = iL (a.tdiv b) := by
  apply Int64.toInt_inj.mp
  rw [Int64.toInt_div, toInt_iL a (by omega) (by omega), toInt_iL b (by omega) (by omega)]
  show _ = (Int64.ofInt _).toInt
  rw [Int64.toInt_ofInt]
theorem iL_int (a : Int) (h : -9223372036854775808 ≤ a ∧ a < 9223372036854775808) : (iL a).toInt32 = iI a := by
  apply Int32.toInt_inj.mp
  rw [Int64.toInt_toInt32, toInt_iL a h.1 h.2]
  show _ = (Int32.ofInt a).toInt
  rw [Int32.toInt_ofInt]
theorem bearG_rng (u : MS) (r a : Int) : ∀ (c : Nat) (i b m : Int), 0 ≤ i → i + c ≤ 17 → -1 ≤ b ∧ b < 17 → -1 ≤ bearG u r a c i b m ∧ bearG u r a c i b m < 17 := by
  intro c
  induction c with
  | zero => intro i b m _ _ h; exact h
  | succ c ih =>
    intro i b m h0 h1 h2
    unfold bearG
    split
    · exact ih _ _ _ (by omega) (by omega) (by omega)
    · exact ih _ _ _ (by omega) (by omega) h2
theorem bearS_rng (u : MS) (r : Int) (h : 0 ≤ vN u 23 ∧ vN u 23 ≤ 16) : -1 ≤ bearS u r ∧ bearS u r < 17 := by
  unfold bearS
  split
  · exact bearG_rng u r _ _ _ _ _ (by omega) (by omega) (by omega)
  · omega
def borneP (u : MS) (x r : Int) : Int := if bearS u r = x then damS u r else 0
theorem t_charged_L (n : Nat) (u : MS) (x : Int) (hx : -2147483648 ≤ x ∧ x < 2147483648) (hn : 0 ≤ vN u 33 ∧ vN u 33 ≤ 48) (hl : 0 ≤ vN u 23 ∧ vN u 23 ≤ 16) (hna : 0 ≤ vN u 10 ∧ vN u 10 ≤ 48) (hL : ∀ l, 0 ≤ l → l < vN u 23 → LoanOK u l) (hR : ∀ r, 0 ≤ r → r < vN u 33 → RepOK u r ∧ HarOK u r) (hD : ∀ r, 0 ≤ r → r < vN u 33 → 0 ≤ damS u r ∧ damS u r < 2147483648) (hf : 2100 ≤ n) : ∀ (k : Nat) (w i : Int), 0 ≤ i → i ≤ vN u 33 → (vN u 33 - i).toNat < k → (0 ≤ w ∧ w ≤ i * 2147483648) → f_X12_charged_L5 n u (iI x) k (iL w) (iI i) = some (iI ((w + sumI (borneP u x) (vN u 33 - i).toNat i).tdiv 1000)) := by
  intro k
  induction k with
  | zero => intro w i _ _ h; omega
  | succ k ih =>
    intro w i h0 hi hk hw
    unfold f_X12_charged_L5
    by_cases e : vN u 33 ≤ i
    · have : (vN u 33 - i).toNat = 0 := by omega
      have q2 : u.1 33 ≤ iI i := by
        rw [u1_iI, iI_le _ _ (by omega)]
        exact e
      have t1 : w.tdiv 1000 = w / 1000 := Int.tdiv_eq_ediv_of_nonneg hw.1
      rw [if_pos q2, this, show (1000 : Int64) = iL 1000 from rfl, iL_div _ _ (by omega), iL_int _ (by omega)]
      simp [sumI]
    · have q2 : ¬ u.1 33 ≤ iI i := by
        rw [u1_iI, iI_le _ _ (by omega)]
        exact e
      have hd := hD i h0 (by omega)
      have hb := bearS_rng u i hl
      have e2 : (vN u 33 - i).toNat = (vN u 33 - (i + 1)).toNat + 1 := by omega
      rw [if_neg q2, e2, t_bearerOf n u i (by omega) hn hl hL hR hf]
      simp only [Option.bind_some, sumI]
      rw [borneP]
      by_cases c : bearS u i = x
      · have ih1 := ih (w + damS u i) (i + 1) (by omega) (by omega) (by omega) (by omega)
        rw [if_pos ((iI_eq _ _ (by omega)).mpr c), if_pos c, t_damageOf n u i (by omega) hn hna hR (by omega)]
        simp only [Option.bind_some]
        rw [iI_long _ (by omega), iL_add, iI_ofNat, iI_add, ih1, Int.add_assoc]
      · have ih1 := ih w (i + 1) (by omega) (by omega) (by omega) (by omega)
        rw [if_neg (fun h => c ((iI_eq _ _ (by omega)).mp h)), if_neg c, show (0 : Int64) = iL 0 from rfl, iL_add, Int.add_zero, iI_ofNat, iI_add, ih1, Int.zero_add]
def chargS (u : MS) (x : Int) : Int := (sumI (borneP u x) (vN u 33).toNat 0).tdiv 1000
theorem t_charged (n : Nat) (u : MS) (x : Int) (hx : -2147483648 ≤ x ∧ x < 2147483648) (hn : 0 ≤ vN u 33 ∧ vN u 33 ≤ 48) (hl : 0 ≤ vN u 23 ∧ vN u 23 ≤ 16) (hna : 0 ≤ vN u 10 ∧ vN u 10 ≤ 48) (hL : ∀ l, 0 ≤ l → l < vN u 23 → LoanOK u l) (hR : ∀ r, 0 ≤ r → r < vN u 33 → RepOK u r ∧ HarOK u r) (hD : ∀ r, 0 ≤ r → r < vN u 33 → 0 ≤ damS u r ∧ damS u r < 2147483648) (hf : 2100 ≤ n) : f_X12_charged n u (iI x) = some (iI (chargS u x)) := by
  have := t_charged_L n u x hx hn hl hna hL hR hD hf n 0 0 (by omega) (by omega) (by omega) (by omega)
  unfold f_X12_charged chargS
  rw [show (0 : Int64) = iL 0 from rfl, iI_zero, this, Int.sub_zero, Int.zero_add]
