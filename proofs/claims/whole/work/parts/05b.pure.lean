theorem iI_m1 : (-1 : Int32) = iI (-1) := rfl
def inF (u : MS) (t d : Int) : Nat → Int
  | 0 => -1
  | i + 1 => if vR u 34 i = t ∧ vR u 35 i ≤ d ∧ (inF u t d i < 0 ∨ vR u 35 (inF u t d i).toNat < vR u 35 i) then i else inF u t d i
def inS (u : MS) (t d : Int) : Int := inF u t d (vN u 33).toNat
theorem inF_rng (u : MS) (t d : Int) (i : Nat) : -1 ≤ inF u t d i ∧ inF u t d i < i := by
  induction i with
  | zero => simp [inF]
  | succ i ih =>
    unfold inF
    split <;> omega
theorem inS_rng (u : MS) (t d : Int) (h : 0 ≤ vN u 33) : -1 ≤ inS u t d ∧ inS u t d < vN u 33 := by
  have := inF_rng u t d (vN u 33).toNat
  unfold inS
  omega
theorem t_inForce_L (n : Nat) (u : MS) (t d : Int) (ht : -2147483648 ≤ t ∧ t < 2147483648) (hd : -2147483648 ≤ d ∧ d < 2147483648) (hn : 0 ≤ vN u 33 ∧ vN u 33 ≤ 48) : ∀ k i : Nat, i ≤ (vN u 33).toNat → (vN u 33).toNat - i < k → f_X12_inForce_L5 n u (iI t) (iI d) k (iI (inF u t d i)) (iI i) = some (iI (inS u t d)) := by
  intro k
  induction k with
  | zero => intro i _ h; omega
  | succ k ih =>
    intro i hi hk
    have h1 := vR_rng u 34 i
    have h2 := vR_rng u 35 i
    have h4 := vR_rng u 35 (inF u t d i).toNat
    have h3 := inF_rng u t d i
    unfold f_X12_inForce_L5
    simp (disch := omega) only [iI_ofNat, u1_iI, u2_iI, iI_add, iI_le, iI_lt, iI_eq, iI_inb, iI_clamp, Int.toNat_natCast]
    by_cases e : vN u 33 ≤ i
    · have : (vN u 33).toNat = i := by omega
      rw [if_pos e, inS, this]
    · have ih1 := ih (i + 1) (by omega) (by omega)
      rw [if_neg e]
      simp only [inF] at ih1
      push_cast at ih1
      simp only [show (0 : Int) ≤ i ∧ (i : Int) < (48 : Nat) from ⟨by omega, by omega⟩, and_self, ite_true]
      by_cases c1 : vR u 34 i = t
      · by_cases c2 : d < vR u 35 i
        · have c3 : ¬ vR u 35 i ≤ d := by omega
          simp [c1, c2, c3] at ih1 ⊢
          exact ih1
        · have c3 : vR u 35 i ≤ d := by omega
          by_cases c4 : inF u t d i < 0
          · simp [c1, c2, c3, c4] at ih1 ⊢
            exact ih1
          · have c5 : 0 ≤ inF u t d i ∧ inF u t d i < (48 : Nat) := ⟨by omega, by omega⟩
            by_cases c6 : vR u 35 i ≤ vR u 35 (inF u t d i).toNat
            · have c7 : ¬ vR u 35 (inF u t d i).toNat < vR u 35 i := by omega
              simp only [c1, c2, c3, c4, c5, c6, c7] at ih1 ⊢
              simp at ih1 ⊢
              exact ih1
            · have c7 : vR u 35 (inF u t d i).toNat < vR u 35 i := by omega
              simp only [c1, c2, c3, c4, c5, c6, c7] at ih1 ⊢
              simp at ih1 ⊢
              exact ih1
      · simp [c1] at ih1 ⊢
        exact ih1
theorem t_inForce (n : Nat) (u : MS) (t d : Int) (ht : -2147483648 ≤ t ∧ t < 2147483648) (hd : -2147483648 ≤ d ∧ d < 2147483648) (hn : 0 ≤ vN u 33 ∧ vN u 33 ≤ 48) (h : 60 ≤ n) : f_X12_inForce n u (iI t) (iI d) = some (iI (inS u t d)) := by
  have := t_inForce_L n u t d ht hd hn n 0 (by omega) (by omega)
  exact this
theorem t_reportOn (n : Nat) (u : MS) (t d : Int) (ht : -2147483648 ≤ t ∧ t < 2147483648) (hd : -2147483648 ≤ d ∧ d < 2147483648) (hn : 0 ≤ vN u 33 ∧ vN u 33 ≤ 48) (h : 60 ≤ n) : f_X12_reportOn n u (iI t) (iI d) = some (iI (if 0 ≤ inS u t d ∧ vR u 35 (inS u t d).toNat = d then inS u t d else -1)) := by
  have h0 := inS_rng u t d (by omega)
  have h1 := vR_rng u 35 (inS u t d).toNat
  unfold f_X12_reportOn
  simp (disch := omega) only [iI_ofNat, iI_m1, t_inForce, Option.bind_some, iI_lt, iI_inb, iI_clamp, u2_iI, iI_eq]
  (repeat' split) <;> first | rfl | omega | (exfalso; omega)
theorem t_aheadOf (n : Nat) (u : MS) (r : Int) (hr : 0 ≤ r ∧ r < 48) (hx : 0 ≤ vR u 35 r.toNat) (hn : 0 ≤ vN u 33 ∧ vN u 33 ≤ 48) (h : 60 ≤ n) : f_X12_aheadOf n u (iI r) = some (iI (inS u (vR u 34 r.toNat) (vR u 35 r.toNat - 1))) := by
  have h1 := vR_rng u 35 r.toNat
  have h2 := vR_rng u 34 r.toNat
  unfold f_X12_aheadOf
  simp (disch := omega) only [iI_ofNat, iI_sub, t_inForce, Option.bind_some, iI_lt, iI_inb, iI_clamp, u2_iI, iI_eq]
  (repeat' split) <;> first | rfl | omega | (exfalso; omega)
def harmsS (u : MS) (t d : Int) : Int := if 0 ≤ inS u t d then vR u 36 (inS u t d).toNat else 0
theorem t_harmsOn (n : Nat) (u : MS) (t d : Int) (ht : -2147483648 ≤ t ∧ t < 2147483648) (hd : -2147483648 ≤ d ∧ d < 2147483648) (hn : 0 ≤ vN u 33 ∧ vN u 33 ≤ 48) (h : 60 ≤ n) : f_X12_harmsOn n u (iI t) (iI d) = some (iI (harmsS u t d)) := by
  have h0 := inS_rng u t d (by omega)
  have h1 := vR_rng u 36 (inS u t d).toNat
  unfold f_X12_harmsOn harmsS
  simp (disch := omega) only [iI_ofNat, iI_zero, t_inForce, Option.bind_some, iI_le, iI_lt, iI_inb, iI_clamp, u2_iI, iI_eq]
  (repeat' split) <;> first | rfl | omega | (exfalso; omega)
def lenS (u : MS) (l : Int) : Int := 2 * vR u 15 (vR u 25 l.toNat).toNat + vR u 27 l.toNat
def LoanOK (u : MS) (l : Int) : Prop := (0 ≤ vR u 25 l.toNat ∧ vR u 25 l.toNat < 6) ∧ (1 ≤ vR u 15 (vR u 25 l.toNat).toNat ∧ vR u 15 (vR u 25 l.toNat).toNat ≤ 30) ∧ (0 ≤ vR u 26 l.toNat ∧ vR u 26 l.toNat ≤ 999) ∧ (1 ≤ vR u 27 l.toNat ∧ vR u 27 l.toNat ≤ 300)
theorem t_lengthOf (u : MS) (l : Int) (hl : 0 ≤ l ∧ l < 17) (ho : LoanOK u l) : f_X12_lengthOf u (iI l) = some (iI (lenS u l)) := by
  obtain ⟨h1, h2, h3, h4⟩ := ho
  unfold f_X12_lengthOf lenS
  simp (disch := omega) only [iI_ofNat, iI_inb, iI_clamp, u2_iI, iI_add, iI_mul]
  (repeat' split) <;> first | rfl | omega | (exfalso; omega)
theorem t_isOfLoan (u : MS) (l d : Int) (hl : 0 ≤ l ∧ l < 17) (hd : -2147483648 ≤ d ∧ d < 2147483648) (ho : LoanOK u l) : f_X12_isOfLoan u (iI l) (iI d) = some (iI (if vR u 26 l.toNat ≤ d ∧ d ≤ vR u 26 l.toNat + lenS u l - 1 then 1 else 0)) := by
  have hh := ho
  obtain ⟨h1, h2, h3, h4⟩ := ho
  have h5 : 0 ≤ lenS u l ∧ lenS u l ≤ 360 := by unfold lenS; omega
  unfold f_X12_isOfLoan
  simp (disch := first | omega | assumption) only [iI_ofNat, iI_inb, iI_clamp, u2_iI, iI_add, iI_sub, iI_mul, t_lengthOf, Option.bind_some, t_isIn, b01, if_true]
  (repeat' split) <;> first | rfl | omega | (exfalso; omega)
def stageS (u : MS) (l d : Int) : Int := if d < vR u 26 l.toNat then 0 else if d - vR u 26 l.toNat < lenS u l then (if vR u 15 (vR u 25 l.toNat).toNat ≤ d - vR u 26 l.toNat then (if vR u 15 (vR u 25 l.toNat).toNat + vR u 27 l.toNat ≤ d - vR u 26 l.toNat then 3 else 2) else 1) else 0
theorem t_stageOf (u : MS) (l d : Int) (hl : 0 ≤ l ∧ l < 17) (hd : -2147480000 ≤ d ∧ d < 2147483648) (ho : LoanOK u l) : f_X12_stageOf u (iI l) (iI d) = some (iI (stageS u l d)) := by
  obtain ⟨h1, h2, h3, h4⟩ := ho
  unfold f_X12_stageOf stageS lenS
  simp (disch := omega) only [iI_ofNat, iI_zero, iI_inb, iI_clamp, u2_iI, iI_add, iI_sub, iI_mul, iI_lt, iI_le]
  (repeat' split) <;> first | rfl | omega | (exfalso; omega)
theorem t_firstOfWay (u : MS) (l w : Int) (hl : 0 ≤ l ∧ l < 17) (hw : -2147480000 ≤ w ∧ w < 2147483648) (ho : LoanOK u l) : f_X12_firstOfWay u (iI l) (iI w) = some (iI (if w = 0 then vR u 26 l.toNat + vR u 15 (vR u 25 l.toNat).toNat + vR u 27 l.toNat else vR u 26 l.toNat)) := by
  obtain ⟨h1, h2, h3, h4⟩ := ho
  unfold f_X12_firstOfWay
  simp (disch := omega) only [iI_ofNat, iI_zero, iI_inb, iI_clamp, u2_iI, iI_add, iI_sub, iI_mul, iI_lt, iI_le, iI_eq]
  (repeat' split) <;> first | rfl | omega | (exfalso; omega)
def hadS (u : MS) (l t : Int) : Bool := decide (((u.2 28 l.toNat >>> (iI t &&& 31)) &&& (1 : Int32)) = (1 : Int32))
theorem t_isHad (u : MS) (l t : Int) (hl : 0 ≤ l ∧ l < 17) : f_X12_isHad u (iI l) (iI t) = some (iI (if hadS u l t then 1 else 0)) := by
  unfold f_X12_isHad hadS
  simp (disch := omega) only [iI_inb, iI_clamp, decide_eq_true_eq]
  (repeat' split) <;> first | rfl | omega | (exfalso; omega)
