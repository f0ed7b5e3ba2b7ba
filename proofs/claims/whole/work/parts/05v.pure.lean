def wr (u : MS) (b : Int) : MS := uI (uA u 41 (vN u 42).toNat (iI b)) 42 (iI (vN u 42 + 1))
def wrL (u : MS) : List Int → MS
  | [] => u
  | b :: bs => wrL (wr u b) bs
theorem t_write (u : MS) (b : Int) (h : 0 ≤ vN u 42 ∧ vN u 42 < 800) : f_X12_write u (iI b) = some (wr u b) := by
  have q1 : inb (iI (vN u 42)) 800 := (iI_inb _ 800 (by omega)).mpr ⟨by omega, by omega⟩
  unfold f_X12_write wr
  rw [u1_iI, if_pos q1, iI_clamp _ (by omega), u1_iI, vN_uA, show (1 : Int32) = iI 1 from rfl, iI_add]
theorem vN_wr (u : MS) (b : Int) (k : Nat) (h : 0 ≤ vN u 42 ∧ vN u 42 < 800) : vN (wr u b) k = if k = 42 then vN u 42 + 1 else vN u k := by
  unfold wr
  rw [vN_uI _ _ _ _ (by omega), vN_uA]
def numL (x : Int) : List Int := if x < 10 then [48 + x] else if x < 100 then [48 + x / 10, 48 + x % 10] else if x < 1000 then [48 + x / 100, 48 + x / 10 % 10, 48 + x % 10] else [48 + x / 1000, 48 + x / 100 % 10, 48 + x / 10 % 10, 48 + x % 10]
theorem t_pow (n : Nat) (u : MS) (x : Int) (hx : 0 ≤ x ∧ x < 10000) (hf : 60 ≤ n) : f_X12_writeNumber_L2 n u (iI x) n (iI 1) = some (iI (if x < 10 then 1 else if x < 100 then 10 else if x < 1000 then 100 else 1000)) := by
  obtain ⟨k, rfl⟩ : ∃ k, n = k + 5 := ⟨n - 5, by omega⟩
  have d1 : x.tdiv 1 = x := Int.tdiv_one x
  have d2 : x.tdiv 10 = x / 10 := Int.tdiv_eq_ediv_of_nonneg hx.1
  have d3 : x.tdiv 100 = x / 100 := Int.tdiv_eq_ediv_of_nonneg hx.1
  have d4 : x.tdiv 1000 = x / 1000 := Int.tdiv_eq_ediv_of_nonneg hx.1
  simp (disch := omega) only [f_X12_writeNumber_L2, iI_ofNat, iI_zero, iI_div, iI_mul, iI_le, iI_eq, d1, d2, d3, d4, Int.reduceMul, eq_false (by decide : ¬ (1 : Int) = 0), eq_false (by decide : ¬ (10 : Int) = 0), eq_false (by decide : ¬ (100 : Int) = 0), eq_false (by decide : ¬ (1000 : Int) = 0), not_false_eq_true, if_true]
  by_cases c1 : x < 10
  · rw [if_pos (by omega), if_pos c1]
  · rw [if_neg (by omega), if_neg c1]
    by_cases c2 : x < 100
    · rw [if_pos (by omega), if_pos c2]
    · rw [if_neg (by omega), if_neg c2]
      by_cases c3 : x < 1000
      · rw [if_pos (by omega), if_pos c3]
      · rw [if_neg (by omega), if_neg c3]
        rw [if_pos (by omega)]
