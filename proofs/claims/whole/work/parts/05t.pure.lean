def stdS (u : MS) : Int := sumI (fun l => if vR u 24 l.toNat = 0 then 0 else 1) (vN u 23).toNat 0
theorem t_standing_L (n : Nat) (u : MS) (h23 : 0 ≤ vN u 23 ∧ vN u 23 ≤ 16) : ∀ (k : Nat) (w i : Int), 0 ≤ i → i ≤ vN u 23 → (vN u 23 - i).toNat < k → f_X12_standing_L4 n u k (iI w) (iI i) = some (iI (w + sumI (fun l => if vR u 24 l.toNat = 0 then 0 else 1) (vN u 23 - i).toNat i)) := by
  intro k
  induction k with
  | zero => intro w i _ _ h; omega
  | succ k ih =>
    intro w i h0 hi hk
    unfold f_X12_standing_L4
    by_cases e : vN u 23 ≤ i
    · have : (vN u 23 - i).toNat = 0 := by omega
      have q2 : u.1 23 ≤ iI i := by
        rw [u1_iI, iI_le _ _ (by omega)]
        exact e
      rw [if_pos q2, this]
      simp [sumI]
    · have q2 : ¬ u.1 23 ≤ iI i := by
        rw [u1_iI, iI_le _ _ (by omega)]
        exact e
      have h1 := vR_rng u 24 i.toNat
      have q1 : inb (iI i) 17 := (iI_inb i 17 (by omega)).mpr ⟨by omega, by omega⟩
      have ih1 := fun w => ih w (i + 1) (by omega) (by omega) (by omega)
      have e2 : (vN u 23 - i).toNat = (vN u 23 - (i + 1)).toNat + 1 := by omega
      rw [if_neg q2, if_pos q1, e2]
      simp (disch := omega) only [iI_clamp, u2_iI, iI_ofNat, iI_zero, iI_add, iI_eq, ih1, sumI]
      by_cases c1 : vR u 24 i.toNat = 0
      · simp [c1]
      · simp [c1, Int.add_assoc]
