def wayS (u : MS) (l : Int) : Int := vR u 15 (vR u 25 l.toNat).toNat
def parD (u : MS) (c l p : Int) : Int := (if vR u 31 (l * 16 + p).toNat = c then wayS u l else 0) + (if vR u 32 (l * 16 + p).toNat = c then wayS u l else 0)
def loaD (u : MS) (c l : Int) : Int := if vR u 24 l.toNat = 0 then 0 else sumI (parD u c l) (vR u 29 l.toNat).toNat 0
theorem t_busyDays_P (n : Nat) (u : MS) (c m l : Int) (hl : 0 ≤ l ∧ l < 17) (hc : -2147483648 ≤ c ∧ c < 2147483648) (hh : HouOK u l) (hn : ParOK u l) : ∀ (k : Nat) (w i : Int), 0 ≤ i → i ≤ vR u 29 l.toNat → (vR u 29 l.toNat - i).toNat < k → f_X12_busyDays_L14 n u (iI c) (iI m) (iI l) k (iI w) (iI i) = some (iI (w + if vR u 24 l.toNat = 0 then 0 else sumI (parD u c l) (vR u 29 l.toNat - i).toNat i)) := by
  obtain ⟨hh1, hh2⟩ := hh
  obtain ⟨hn1, hn2⟩ := hn
  have i3 : 0 ≤ l ∧ l < (17 : Nat) := by omega
  have i4 : 0 ≤ vR u 25 l.toNat ∧ vR u 25 l.toNat < (6 : Nat) := by omega
  have h24 := vR_rng u 24 l.toNat
  have q1 : inb (iI l) 17 := (iI_inb l 17 (by omega)).mpr i3
  intro k
  induction k with
  | zero => intro w i _ _ h; omega
  | succ k ih =>
    intro w i h0 hi hk
    have h31 := vR_rng u 31 (l * 16 + i).toNat
    have h32 := vR_rng u 32 (l * 16 + i).toNat
    unfold f_X12_busyDays_L14
    rw [if_pos q1]
    by_cases e : vR u 29 l.toNat ≤ i
    · have : (vR u 29 l.toNat - i).toNat = 0 := by omega
      have q2 : u.2 29 (iI l).toNatClampNeg ≤ iI i := by
        rw [iI_clamp l (by omega), u2_iI, iI_le _ _ (by omega)]
        exact e
      rw [if_pos q2, this]
      simp [sumI]
    · have q2 : ¬ u.2 29 (iI l).toNatClampNeg ≤ iI i := by
        rw [iI_clamp l (by omega), u2_iI, iI_le _ _ (by omega)]
        exact e
      have ih1 := fun w => ih w (i + 1) (by omega) (by omega) (by omega)
      have e2 : (vR u 29 l.toNat - i).toNat = (vR u 29 l.toNat - (i + 1)).toNat + 1 := by omega
      have i1 : 0 ≤ l * 16 + i ∧ l * 16 + i < (272 : Nat) := by omega
      rw [if_neg q2, e2, if_pos q1]
      simp only [sumI]
      rw [parD, wayS]
      by_cases c0 : vR u 24 l.toNat = 0
      · have q3 : u.2 24 (iI l).toNatClampNeg = 0 := by
          rw [iI_clamp l (by omega), u2_iI, c0]
          rfl
        rw [if_pos q3]
        simp [c0]
      · simp only [c0, if_false] at ih1
        by_cases c1 : vR u 31 (l * 16 + i).toNat = c
        · by_cases c2 : vR u 32 (l * 16 + i).toNat = c
          · simp (disch := first | omega | assumption) only [iI_ofNat, iI_zero, u2_iI, iI_add, iI_mul, iI_eq, iI_inb, iI_clamp, c0, c1, c2, i1, i3, i4, and_self, if_true, if_false, Option.bind_some, ih1, Int.add_assoc]
          · simp (disch := first | omega | assumption) only [iI_ofNat, iI_zero, u2_iI, iI_add, iI_mul, iI_eq, iI_inb, iI_clamp, c0, c1, c2, i1, i3, i4, and_self, if_true, if_false, Option.bind_some, ih1, Int.add_assoc]
        · by_cases c2 : vR u 32 (l * 16 + i).toNat = c
          · simp (disch := first | omega | assumption) only [iI_ofNat, iI_zero, u2_iI, iI_add, iI_mul, iI_eq, iI_inb, iI_clamp, c0, c1, c2, i1, i3, i4, and_self, if_true, if_false, Option.bind_some, ih1, Int.add_assoc]
          · simp (disch := first | omega | assumption) only [iI_ofNat, iI_zero, u2_iI, iI_add, iI_mul, iI_eq, iI_inb, iI_clamp, c0, c1, c2, i1, i3, i4, and_self, if_true, if_false, Option.bind_some, ih1, Int.add_assoc]
theorem t_busyDays_L (n : Nat) (u : MS) (c m : Int) (hc : -2147483648 ≤ c ∧ c < 2147483648) (hm : 0 ≤ m ∧ m ≤ 17) (hL : ∀ l, 0 ≤ l → l < m → LoanOK u l) (hP : ∀ l, 0 ≤ l → l < m → ParOK u l) (hf : 60 ≤ n) : ∀ (k : Nat) (w i : Int), 0 ≤ i → i ≤ m → (m - i).toNat < k → f_X12_busyDays_L5 n u (iI c) (iI m) k (iI w) (iI i) = some (iI (w + sumI (loaD u c) (m - i).toNat i)) := by
  intro k
  induction k with
  | zero => intro w i _ _ h; omega
  | succ k ih =>
    intro w i h0 hi hk
    unfold f_X12_busyDays_L5
    by_cases e : m ≤ i
    · have : (m - i).toNat = 0 := by omega
      rw [if_pos ((iI_le _ _ (by omega)).mpr e), this]
      simp [sumI]
    · have hl := hL i h0 (by omega)
      have hp := hP i h0 (by omega)
      have hp0 := hp
      unfold ParOK at hp0
      have ih1 := fun w => ih w (i + 1) (by omega) (by omega) (by omega)
      have e2 : (m - i).toNat = (m - (i + 1)).toNat + 1 := by omega
      have hq := t_busyDays_P n u c m i (by omega) hc hl.1 hp n w 0 (by omega) (by omega) (by omega)
      rw [Int.sub_zero] at hq
      rw [if_neg (fun h => e ((iI_le _ _ (by omega)).mp h)), e2, iI_zero, hq]
      simp only [Option.bind_some, iI_ofNat, iI_add, ih1, sumI, loaD, Int.add_assoc]
def takenS (u : MS) (c m : Int) : Int := sumI (loaD u c) m.toNat 0
theorem t_busyDays (n : Nat) (u : MS) (c m : Int) (hc : -2147483648 ≤ c ∧ c < 2147483648) (hm : 0 ≤ m ∧ m ≤ 17) (hL : ∀ l, 0 ≤ l → l < m → LoanOK u l) (hP : ∀ l, 0 ≤ l → l < m → ParOK u l) (hf : 60 ≤ n) : f_X12_busyDays n u (iI c) (iI m) = some (iI (takenS u c m)) := by
  have := t_busyDays_L n u c m hc hm hL hP hf n 0 0 (by omega) (by omega) (by omega)
  unfold f_X12_busyDays takenS
  rw [iI_zero, this, Int.sub_zero, Int.zero_add]
