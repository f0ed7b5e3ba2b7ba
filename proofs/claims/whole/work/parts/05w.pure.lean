theorem t_dig (n k : Nat) (u : MS) (x p : Int) (hx : 0 ≤ x ∧ x < 10000) (hp : 0 < p ∧ p ≤ 1000) (h : 0 ≤ vN u 42 ∧ vN u 42 < 800) : f_X12_writeNumber_L18 n (iI x) (k + 1) u (iI p) = f_X12_writeNumber_L18 n (iI x) k (wr u (48 + x / p % 10)) (iI (p / 10)) := by
  have d1 : x.tdiv p = x / p := Int.tdiv_eq_ediv_of_nonneg hx.1
  have hq : 0 ≤ x / p := Int.ediv_nonneg hx.1 (by omega)
  have hq2 : x / p ≤ x := Int.ediv_le_self _ hx.1
  have d2 : (x / p).tdiv 10 = x / p / 10 := Int.tdiv_eq_ediv_of_nonneg hq
  have d3 : p.tdiv 10 = p / 10 := Int.tdiv_eq_ediv_of_nonneg (by omega)
  have n1 : (p ≤ 0) = False := eq_false (by omega)
  have n2 : (p = 0) = False := eq_false (by omega)
  have e : 48 + (x / p - x / p / 10 * 10) = 48 + x / p % 10 := by omega
  rw [f_X12_writeNumber_L18]
  simp (disch := omega) only [iI_ofNat, iI_zero, iI_div, iI_mul, iI_sub, iI_add, iI_le, iI_eq, d1, d2, d3, n1, n2, if_false, not_false_eq_true, if_true, e, t_write, Option.bind_some]
theorem t_dig0 (n k : Nat) (u : MS) (x : Int) : f_X12_writeNumber_L18 n (iI x) (k + 1) u (iI 0) = some u := by
  rw [f_X12_writeNumber_L18, if_pos (by decide)]
theorem t_writeNumber (n : Nat) (u : MS) (x : Int) (hx : 0 ≤ x ∧ x < 10000) (h : 0 ≤ vN u 42 ∧ vN u 42 + 4 ≤ 800) (hf : 60 ≤ n) : f_X12_writeNumber n u (iI x) = some (wrL u (numL x)) := by
  obtain ⟨k, hk⟩ : ∃ k, n = k + 1 + 1 + 1 + 1 + 1 := ⟨n - 5, by omega⟩
  have hw := fun (v : MS) (b : Int) => vN_wr v b 42
  simp only [if_true] at hw
  unfold f_X12_writeNumber
  rw [show (1 : Int32) = iI 1 from rfl, t_pow n u x hx hf]
  simp only [Option.bind_some]
  unfold numL
  by_cases c1 : x < 10
  · rw [if_pos c1, if_pos c1, hk, t_dig _ _ _ _ _ hx (by omega) (by omega)]
    simp only [Int.reduceDiv, t_dig0, wrL, Int.ediv_one]
    rw [show x % 10 = x by omega]
  · rw [if_neg c1, if_neg c1]
    by_cases c2 : x < 100
    · rw [if_pos c2, if_pos c2, hk, t_dig _ _ _ _ _ hx (by omega) (by omega)]
      have w1 := hw u (48 + x / 10 % 10) (by omega)
      simp only [Int.reduceDiv]
      rw [t_dig _ _ _ _ _ hx (by omega) (by omega)]
      simp only [Int.reduceDiv, t_dig0, wrL, Int.ediv_one]
      rw [show x / 10 % 10 = x / 10 by omega]
    · rw [if_neg c2, if_neg c2]
      by_cases c3 : x < 1000
      · rw [if_pos c3, if_pos c3, hk, t_dig _ _ _ _ _ hx (by omega) (by omega)]
        have w1 := hw u (48 + x / 100 % 10) (by omega)
        simp only [Int.reduceDiv]
        rw [t_dig _ _ _ _ _ hx (by omega) (by omega)]
        have w2 := hw (wr u (48 + x / 100 % 10)) (48 + x / 10 % 10) (by omega)
        simp only [Int.reduceDiv]
        rw [t_dig _ _ _ _ _ hx (by omega) (by omega)]
        simp only [Int.reduceDiv, t_dig0, wrL, Int.ediv_one]
        rw [show x / 100 % 10 = x / 100 by omega]
      · rw [if_neg c3, if_neg c3, hk, t_dig _ _ _ _ _ hx (by omega) (by omega)]
        have w1 := hw u (48 + x / 1000 % 10) (by omega)
        simp only [Int.reduceDiv]
        rw [t_dig _ _ _ _ _ hx (by omega) (by omega)]
        have w2 := hw (wr u (48 + x / 1000 % 10)) (48 + x / 100 % 10) (by omega)
        simp only [Int.reduceDiv]
        rw [t_dig _ _ _ _ _ hx (by omega) (by omega)]
        have w3 := hw (wr (wr u (48 + x / 1000 % 10)) (48 + x / 100 % 10)) (48 + x / 10 % 10) (by omega)
        simp only [Int.reduceDiv]
        rw [t_dig _ _ _ _ _ hx (by omega) (by omega)]
        simp only [Int.reduceDiv, t_dig0, wrL, Int.ediv_one]
        rw [show x / 1000 % 10 = x / 1000 by omega]
