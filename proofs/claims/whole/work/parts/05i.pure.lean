def PofOK (u : MS) (l : Int) : Prop := ∀ t, 0 ≤ t → t < vN u 5 → hadS u l t = true → 0 ≤ vR u 30 (l * 16 + t).toNat ∧ vR u 30 (l * 16 + t).toNat < 16
theorem t_costOf_L (n : Nat) (u : MS) (l d s : Int) (hl : 0 ≤ l ∧ l < 17) (hd : -2147483648 ≤ d ∧ d < 2147483648) (hs : s = 1 ∨ s = 2 ∨ s = 3) (hn : 0 ≤ vN u 5 ∧ vN u 5 ≤ 16) (ha : 0 ≤ vN u 10 ∧ vN u 10 ≤ 48) (hr : 0 ≤ vN u 33 ∧ vN u 33 ≤ 48) (hh : HouOK u l) (hp : PofOK u l) (hf : 60 ≤ n) : ∀ (k : Nat) (w i : Int), 0 ≤ i → i ≤ vN u 5 → (vN u 5 - i).toNat < k → f_X12_costOf_L19 n u (iI l) (iI d) (iI s) k (iI w) (iI i) = some (iI (w + sumI (perS u l d s) (vN u 5 - i).toNat i)) := by
  obtain ⟨hh1, hh2⟩ := hh
  intro k
  induction k with
  | zero => intro w i _ _ h; omega
  | succ k ih =>
    intro w i h0 hi hk
    unfold f_X12_costOf_L19
    by_cases e : vN u 5 ≤ i
    · have : (vN u 5 - i).toNat = 0 := by omega
      have q2 : u.1 5 ≤ iI i := by
        rw [u1_iI, iI_le _ _ (by omega)]
        exact e
      rw [if_pos q2, this]
      simp [sumI]
    · have q2 : ¬ u.1 5 ≤ iI i := by
        rw [u1_iI, iI_le _ _ (by omega)]
        exact e
      have ih1 := fun w => ih w (i + 1) (by omega) (by omega) (by omega)
      have e2 : (vN u 5 - i).toNat = (vN u 5 - (i + 1)).toNat + 1 := by omega
      rw [if_neg q2, e2, t_isHad u l i hl]
      simp only [Option.bind_some, sumI]
      rw [perS]
      by_cases c1 : hadS u l i = true
      · have hpi := hp i h0 (by omega) c1
        have i1 : 0 ≤ l * 16 + i ∧ l * 16 + i < (272 : Nat) := by omega
        have i2 : 0 ≤ l * 16 + vR u 30 (l * 16 + i).toNat ∧ l * 16 + vR u 30 (l * 16 + i).toNat < (272 : Nat) := by omega
        have i3 : 0 ≤ l ∧ l < (17 : Nat) := by omega
        have i4 : 0 ≤ vR u 25 l.toNat ∧ vR u 25 l.toNat < (6 : Nat) := by omega
        have h31 := vR_rng u 31 (l * 16 + vR u 30 (l * 16 + i).toNat).toNat
        have h32 := vR_rng u 32 (l * 16 + vR u 30 (l * 16 + i).toNat).toNat
        rcases hs with hs | hs | hs
        · subst hs
          simp (disch := first | omega | assumption) only [c1, if_true, iI_ofNat, iI_zero, u2_iI, iI_add, iI_mul, iI_lt, iI_eq, iI_inb, iI_clamp, i1, i2, i3, i4, and_self, t_valueOn, t_harmsOn, Option.bind_some, ih1, eq_false (by decide : ¬ (1 : Int) = 0), eq_false (by decide : ¬ (1 : Int) = 2), if_false]
          by_cases c3 : vR u 31 (l * 16 + vR u 30 (l * 16 + i).toNat).toNat < 0
          · simp only [c3, if_true, Int.add_assoc]
          · simp only [c3, if_false, Int.add_assoc]
        · subst hs
          simp (disch := first | omega | assumption) only [c1, if_true, iI_ofNat, iI_zero, u2_iI, iI_add, iI_mul, iI_lt, iI_eq, iI_inb, iI_clamp, i1, i2, i3, i4, and_self, t_valueOn, t_harmsOn, Option.bind_some, ih1, eq_false (by decide : ¬ (1 : Int) = 0), if_false, Int.add_assoc]
        · subst hs
          simp (disch := first | omega | assumption) only [c1, if_true, iI_ofNat, iI_zero, u2_iI, iI_add, iI_mul, iI_lt, iI_eq, iI_inb, iI_clamp, i1, i2, i3, i4, and_self, t_valueOn, t_harmsOn, Option.bind_some, ih1, eq_false (by decide : ¬ (1 : Int) = 0), eq_false (by decide : ¬ (3 : Int) = 2), eq_false (by decide : ¬ (3 : Int) = 1), if_false]
          by_cases c3 : vR u 32 (l * 16 + vR u 30 (l * 16 + i).toNat).toNat < 0
          · simp only [c3, if_true, Int.add_assoc]
          · simp only [c3, if_false, Int.add_assoc]
      · simp (disch := omega) only [c1, iI_ofNat, iI_zero, iI_add, if_true, if_false, Int.zero_add, ih1, Bool.false_eq_true]
def costS (u : MS) (l d : Int) : Int := if stageS u l d = 0 then 0 else sumI (perS u l d (stageS u l d)) (vN u 5).toNat 0
theorem t_costOf (n : Nat) (u : MS) (l d : Int) (hl : 0 ≤ l ∧ l < 17) (hd : -2147480000 ≤ d ∧ d < 2147483648) (hn : 0 ≤ vN u 5 ∧ vN u 5 ≤ 16) (ha : 0 ≤ vN u 10 ∧ vN u 10 ≤ 48) (hr : 0 ≤ vN u 33 ∧ vN u 33 ≤ 48) (hL : LoanOK u l) (hp : PofOK u l) (hf : 60 ≤ n) : f_X12_costOf n u (iI l) (iI d) = some (iI (costS u l d)) := by
  have h5 := stageS_rng u l d
  have hh : HouOK u l := hL.1
  unfold f_X12_costOf costS
  rw [t_stageOf u l d hl hd hL]
  simp only [Option.bind_some]
  by_cases c : stageS u l d = 0
  · rw [c, if_pos (by rfl), if_pos (by rfl)]
    rfl
  · have hq := t_costOf_L n u l d (stageS u l d) hl (by omega) (by omega) hn ha hr hh hp hf n 0 0 (by omega) (by omega) (by omega)
    rw [Int.sub_zero, Int.zero_add] at hq
    simp (disch := omega) only [iI_zero, iI_eq, c, if_false, hq]
