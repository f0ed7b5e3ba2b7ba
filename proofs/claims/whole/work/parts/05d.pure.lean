def fstI (p : Int → Bool) : Nat → Int → Int
  | 0, _ => -1
  | c + 1, i => if p i then i else fstI p c (i + 1)
def anyI (p : Int → Bool) : Nat → Int → Bool
  | 0, _ => false
  | c + 1, i => p i || anyI p c (i + 1)
def sumI (f : Int → Int) : Nat → Int → Int
  | 0, _ => 0
  | c + 1, i => f i + sumI f c (i + 1)
def onL (u : MS) (t d l : Int) : Bool := decide (vR u 24 l.toNat ≠ 0) && (hadS u l t && decide (vR u 26 l.toNat ≤ d ∧ d ≤ vR u 26 l.toNat + lenS u l - 1))
def loanS (u : MS) (t d : Int) : Int := fstI (onL u t d) (vN u 23).toNat 0
theorem t_loanOf_L (n : Nat) (u : MS) (t d : Int) (ht : -2147483648 ≤ t ∧ t < 2147483648) (hd : -2147483648 ≤ d ∧ d < 2147483648) (hn : 0 ≤ vN u 23 ∧ vN u 23 ≤ 16) (hL : ∀ l, 0 ≤ l → l < vN u 23 → LoanOK u l) : ∀ (k : Nat) (i : Int), 0 ≤ i → i ≤ vN u 23 → (vN u 23 - i).toNat < k → f_X12_loanOf_L2 n u (iI t) (iI d) k (iI i) = some (iI (fstI (onL u t d) (vN u 23 - i).toNat i)) := by
  intro k
  induction k with
  | zero => intro i _ _ h; omega
  | succ k ih =>
    intro i h0 hi hk
    have h1 := vR_rng u 24 i.toNat
    unfold f_X12_loanOf_L2
    by_cases e : vN u 23 ≤ i
    · have : (vN u 23 - i).toNat = 0 := by omega
      simp (disch := omega) only [u1_iI, iI_le]
      rw [if_pos e, this]
      rfl
    · have hl := hL i h0 (by omega)
      have ih1 := ih (i + 1) (by omega) (by omega) (by omega)
      have e2 : (vN u 23 - i).toNat = (vN u 23 - (i + 1)).toNat + 1 := by omega
      simp (disch := first | omega | assumption) only [iI_ofNat, iI_m1, iI_zero, u1_iI, u2_iI, iI_add, iI_le, iI_lt, iI_eq, iI_inb, iI_clamp, t_isHad, t_isOfLoan, Option.bind_some, b0]
      rw [if_neg e, e2, if_pos (by omega), ih1]
      simp only [fstI, onL]
      by_cases c1 : vR u 24 i.toNat = 0
      · simp [c1]
      · by_cases c2 : hadS u i t = true
        · by_cases c3 : vR u 26 i.toNat ≤ d ∧ d ≤ vR u 26 i.toNat + lenS u i - 1
          · simp [c1, c2, c3]
          · simp [c1, c2, c3]
        · simp [c1, c2]
theorem t_loanOf (n : Nat) (u : MS) (t d : Int) (ht : -2147483648 ≤ t ∧ t < 2147483648) (hd : -2147483648 ≤ d ∧ d < 2147483648) (hn : 0 ≤ vN u 23 ∧ vN u 23 ≤ 16) (hL : ∀ l, 0 ≤ l → l < vN u 23 → LoanOK u l) (h : 60 ≤ n) : f_X12_loanOf n u (iI t) (iI d) = some (iI (loanS u t d)) := by
  have := t_loanOf_L n u t d ht hd hn hL n 0 (by omega) (by omega) (by omega)
  unfold f_X12_loanOf loanS
  rw [iI_zero, this, Int.sub_zero]
def spanP (u : MS) (c d j : Int) : Bool := decide (vR u 21 (c * 40 + j).toNat ≤ d ∧ d ≤ vR u 22 (c * 40 + j).toNat)
def mayS (u : MS) (c d : Int) : Bool := anyI (spanP u c d) (vR u 20 c.toNat).toNat 0
theorem t_mayTravel_L (n : Nat) (u : MS) (c d : Int) (hc : 0 ≤ c ∧ c < 8) (hd : -2147483648 ≤ d ∧ d < 2147483648) (hn : 0 ≤ vR u 20 c.toNat ∧ vR u 20 c.toNat ≤ 40) : ∀ (k : Nat) (b : Bool) (i : Int), 0 ≤ i → i ≤ vR u 20 c.toNat → (vR u 20 c.toNat - i).toNat < k → f_X12_mayTravel_L5 n u (iI c) (iI d) k (iI (if b then 1 else 0)) (iI i) = some (iI (if (b || anyI (spanP u c d) (vR u 20 c.toNat - i).toNat i) = true then 1 else 0)) := by
  intro k
  induction k with
  | zero => intro b i _ _ h; omega
  | succ k ih =>
    intro b i h0 hi hk
    have h1 := vR_rng u 21 (c * 40 + i).toNat
    have h2 := vR_rng u 22 (c * 40 + i).toNat
    unfold f_X12_mayTravel_L5
    by_cases e : vR u 20 c.toNat ≤ i
    · have : (vR u 20 c.toNat - i).toNat = 0 := by omega
      simp (disch := omega) only [iI_ofNat, iI_inb, iI_clamp, u2_iI, iI_le, b01, if_true]
      rw [if_pos e, this, if_pos (by omega)]
      simp [anyI]
    · have ihT := ih true (i + 1) (by omega) (by omega) (by omega)
      have ihF := ih false (i + 1) (by omega) (by omega) (by omega)
      have e2 : (vR u 20 c.toNat - i).toNat = (vR u 20 c.toNat - (i + 1)).toNat + 1 := by omega
      simp only [if_true, Bool.false_eq_true, if_false, Bool.true_or, Bool.false_or] at ihT ihF
      simp (disch := first | omega | assumption) only [iI_ofNat, iI_zero, u2_iI, iI_add, iI_mul, iI_le, iI_inb, iI_clamp, t_isIn, Option.bind_some, b0]
      rw [if_neg e, e2, if_pos (by omega), ihT, ihF]
      simp only [anyI, spanP]
      have i1 : 0 ≤ c * 40 + i ∧ c * 40 + i < (320 : Nat) := by omega
      cases b
      · by_cases c3 : vR u 21 (c * 40 + i).toNat ≤ d ∧ d ≤ vR u 22 (c * 40 + i).toNat
        · simp [c3]
          omega
        · simp [c3]
          omega
      · simp
theorem t_mayTravel (n : Nat) (u : MS) (c d : Int) (hc : 0 ≤ c ∧ c < 8) (hd : -2147483648 ≤ d ∧ d < 2147483648) (hn : 0 ≤ vR u 20 c.toNat ∧ vR u 20 c.toNat ≤ 40) (h : 60 ≤ n) : f_X12_mayTravel n u (iI c) (iI d) = some (iI (if mayS u c d = true then 1 else 0)) := by
  have := t_mayTravel_L n u c d hc hd hn n false 0 (by omega) (by omega) (by omega)
  unfold f_X12_mayTravel mayS
  simp only [Bool.false_eq_true, if_false, Bool.false_or, Int.sub_zero] at this
  exact this
