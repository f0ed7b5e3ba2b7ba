def iI (z : Int) : Int32 := Int32.ofInt z
theorem iI_toInt (x : Int32) : iI x.toInt = x := Int32.ofInt_toInt x
theorem toInt_iI (z : Int) (h : -2147483648 ≤ z) (h1 : z < 2147483648) : (iI z).toInt = z := by
  show (Int32.ofInt z).toInt = z
  rw [Int32.toInt_ofInt]
  have e : ((Int32.size : Nat) : Int) = 4294967296 := rfl
  simp only [Int.bmod]
  rw [e]
  omega
theorem rng_lo (x : Int32) : -2147483648 ≤ x.toInt := x.minValue_le_toInt
theorem rng_hi (x : Int32) : x.toInt < 2147483648 := by
  have := x.toInt_lt
  omega
theorem iI_add (a b : Int) : iI a + iI b = iI (a + b) := (Int32.ofInt_add ..).symm
theorem iI_mul (a b : Int) : iI a * iI b = iI (a * b) := (Int32.ofInt_mul ..).symm
theorem iI_sub (a b : Int) : iI a - iI b = iI (a - b) := by
  show Int32.ofInt a - Int32.ofInt b = Int32.ofInt (a - b)
  rw [Int32.ofInt_sub]
theorem iI_neg (a : Int) : -iI a = iI (-a) := (Int32.ofInt_neg ..).symm
theorem iI_le (a b : Int) (h : -2147483648 ≤ a ∧ a < 2147483648 ∧ -2147483648 ≤ b ∧ b < 2147483648) : (iI a ≤ iI b) ↔ a ≤ b := by
  rw [Int32.le_iff_toInt_le, toInt_iI a h.1 h.2.1, toInt_iI b h.2.2.1 h.2.2.2]
theorem iI_lt (a b : Int) (h : -2147483648 ≤ a ∧ a < 2147483648 ∧ -2147483648 ≤ b ∧ b < 2147483648) : (iI a < iI b) ↔ a < b := by
  rw [Int32.lt_iff_toInt_lt, toInt_iI a h.1 h.2.1, toInt_iI b h.2.2.1 h.2.2.2]
theorem iI_eq (a b : Int) (h : -2147483648 ≤ a ∧ a < 2147483648 ∧ -2147483648 ≤ b ∧ b < 2147483648) : (iI a = iI b) ↔ a = b := by
  constructor
  · intro e
    have := congrArg Int32.toInt e
    rw [toInt_iI a h.1 h.2.1, toInt_iI b h.2.2.1 h.2.2.2] at this
    exact this
  · intro e
    rw [e]
theorem iI_clamp (a : Int) (h : -2147483648 ≤ a ∧ a < 2147483648) : (iI a).toNatClampNeg = a.toNat := by
  show (iI a).toInt.toNat = a.toNat
  rw [toInt_iI a h.1 h.2]
theorem iI_lit (n : Nat) [OfNat Int32 n] : True := trivial
theorem iI_ofNat (n : Nat) : (OfNat.ofNat n : Int32) = iI (OfNat.ofNat n : Int) := by
  show Int32.ofNat n = Int32.ofInt n
  rw [Int32.ofInt_eq_ofNat]
theorem iI_zero : (0 : Int32) = iI 0 := rfl
theorem iI_div (a b : Int) (h : -2147483648 < a ∧ a < 2147483648 ∧ 0 < b ∧ b < 2147483648) : iI a / iI b = iI (a.tdiv b) := by
  apply Int32.toInt_inj.mp
  rw [Int32.toInt_div, toInt_iI a (by omega) (by omega), toInt_iI b (by omega) (by omega)]
  show _ = (Int32.ofInt _).toInt
  rw [Int32.toInt_ofInt]
theorem iI_inb (a : Int) (n : Nat) (h : -2147483648 ≤ a ∧ a < 2147483648) : inb (iI a) n ↔ 0 ≤ a ∧ a < n := by
  unfold inb
  rw [iI_clamp a h, iI_zero, iI_lt a 0 (by omega)]
  omega
def vN (u : MS) (k : Nat) : Int := (u.1 k).toInt
def vR (u : MS) (k i : Nat) : Int := (u.2 k i).toInt
theorem u1_iI (u : MS) (k : Nat) : u.1 k = iI (vN u k) := (iI_toInt _).symm
theorem u2_iI (u : MS) (k i : Nat) : u.2 k i = iI (vR u k i) := (iI_toInt _).symm
theorem vN_uI (u : MS) (j k : Nat) (z : Int) (h : -2147483648 ≤ z ∧ z < 2147483648) : vN (uI u j (iI z)) k = if k = j then z else vN u k := by
  unfold vN uI
  by_cases e : k = j
  · simp [upd, e, toInt_iI z h.1 h.2]
  · simp [upd, e]
theorem vN_uA (u : MS) (j i k : Nat) (z : Int32) : vN (uA u j i z) k = vN u k := rfl
theorem vR_uI (u : MS) (j k i : Nat) (z : Int32) : vR (uI u j z) k i = vR u k i := rfl
theorem iI_and255 (a : Int) : True := trivial
theorem t_isIn (u : MS) (a b c : Int) (ha : -2147483648 ≤ a ∧ a < 2147483648) (hb : -2147483648 ≤ b ∧ b < 2147483648) (hc : -2147483648 ≤ c ∧ c < 2147483648) : f_X12_isIn u (iI a) (iI b) (iI c) = some (iI (if b ≤ a ∧ a ≤ c then 1 else 0)) := by
  unfold f_X12_isIn
  simp (disch := omega) only [iI_ofNat, iI_zero, iI_le, iI_lt, iI_eq]
  (repeat' split) <;> first | rfl | omega | (simp; omega) | (simp; done) | (exfalso; omega)
theorem t_isDay (u : MS) (d : Int) (h : -2147483648 ≤ d ∧ d < 2147483648) : f_X12_isDay u (iI d) = some (iI (if 0 ≤ d ∧ d ≤ 999 then 1 else 0)) := by
  unfold f_X12_isDay
  simp (disch := omega) only [iI_ofNat, iI_zero, t_isIn, Option.bind_some]
  simp
  split <;> simp (disch := omega) [iI_eq]
theorem vN_rng (u : MS) (k : Nat) : -2147483648 ≤ vN u k ∧ vN u k < 2147483648 := ⟨rng_lo _, rng_hi _⟩
theorem vR_rng (u : MS) (k i : Nat) : -2147483648 ≤ vR u k i ∧ vR u k i < 2147483648 := ⟨rng_lo _, rng_hi _⟩
theorem b01 (p : Prop) [Decidable p] : (iI (if p then 1 else 0) = iI 0 ∨ iI (if p then 1 else 0) = iI 1) ↔ True := by
  split
  · exact ⟨fun _ => trivial, fun _ => Or.inr rfl⟩
  · exact ⟨fun _ => trivial, fun _ => Or.inl rfl⟩
theorem b0 (p : Prop) [Decidable p] : (iI (if p then 1 else 0) = iI 0) ↔ ¬ p := by
  split
  · simp (disch := omega) [iI_eq, *]
  · simp [*]
theorem t_isThing (u : MS) (a : Int) (h : -2147483648 ≤ a ∧ a < 2147483648) (hn : 0 ≤ vN u 5 ∧ vN u 5 ≤ 16) : f_X12_isThing u (iI a) = some (iI (if 0 ≤ a ∧ a ≤ vN u 5 - 1 then 1 else 0)) := by
  unfold f_X12_isThing
  simp (disch := omega) only [iI_ofNat, u1_iI, iI_sub, t_isIn, Option.bind_some, b01, if_true]
theorem t_isHouse (u : MS) (a : Int) (h : -2147483648 ≤ a ∧ a < 2147483648) (hn : 0 ≤ vN u 14 ∧ vN u 14 ≤ 6) : f_X12_isHouse u (iI a) = some (iI (if 0 ≤ a ∧ a ≤ vN u 14 - 1 then 1 else 0)) := by
  unfold f_X12_isHouse
  simp (disch := omega) only [iI_ofNat, u1_iI, iI_sub, t_isIn, Option.bind_some, b01, if_true]
theorem t_isCourier (u : MS) (a : Int) (h : -2147483648 ≤ a ∧ a < 2147483648) (hn : 0 ≤ vN u 19 ∧ vN u 19 ≤ 8) : f_X12_isCourier u (iI a) = some (iI (if 0 ≤ a ∧ a ≤ vN u 19 - 1 then 1 else 0)) := by
  unfold f_X12_isCourier
  simp (disch := omega) only [iI_ofNat, u1_iI, iI_sub, t_isIn, Option.bind_some, b01, if_true]
theorem t_isLoan (u : MS) (a : Int) (h : -2147483648 ≤ a ∧ a < 2147483648) (hn : 0 ≤ vN u 23 ∧ vN u 23 ≤ 16) : f_X12_isLoan u (iI a) = some (iI (if (0 ≤ a ∧ a ≤ vN u 23 - 1) ∧ vR u 24 a.toNat ≠ 0 then 1 else 0)) := by
  unfold f_X12_isLoan
  have := vR_rng u 24 a.toNat
  simp (disch := omega) only [iI_ofNat, iI_zero, u1_iI, iI_sub, t_isIn, Option.bind_some, b0, iI_inb, iI_clamp, u2_iI, iI_eq]
  (repeat' split) <;> first | rfl | omega | (exfalso; omega)
def valF (u : MS) (t d : Int) : Nat → Int × Int
  | 0 => (vR u 7 t.toNat, -1)
  | i + 1 => if vR u 11 i = t ∧ vR u 12 i ≤ d ∧ (valF u t d i).2 ≤ vR u 12 i then (vR u 13 i, vR u 12 i) else valF u t d i
def valS (u : MS) (t d : Int) : Int := (valF u t d (vN u 10).toNat).1
theorem valF_rng (u : MS) (t d : Int) (i : Nat) : -2147483648 ≤ (valF u t d i).2 ∧ (valF u t d i).2 < 2147483648 := by
  induction i with
  | zero => simp [valF]
  | succ i ih =>
    unfold valF
    split
    · exact vR_rng ..
    · exact ih
theorem t_valueOn_L (n : Nat) (u : MS) (t d : Int) (ht : -2147483648 ≤ t ∧ t < 2147483648) (hd : -2147483648 ≤ d ∧ d < 2147483648) (hn : 0 ≤ vN u 10 ∧ vN u 10 ≤ 48) : ∀ k i : Nat, i ≤ (vN u 10).toNat → (vN u 10).toNat - i < k → f_X12_valueOn_L13 n u (iI t) (iI d) k (iI (valF u t d i).1) (iI (valF u t d i).2) (iI i) = some (iI (valS u t d)) := by
  intro k
  induction k with
  | zero => intro i _ h; omega
  | succ k ih =>
    intro i hi hk
    have h1 := vR_rng u 11 i
    have h2 := vR_rng u 12 i
    have h3 := valF_rng u t d i
    unfold f_X12_valueOn_L13
    simp (disch := omega) only [iI_ofNat, u1_iI, u2_iI, iI_add, iI_le, iI_lt, iI_eq, iI_inb, iI_clamp, Int.toNat_natCast]
    by_cases e : vN u 10 ≤ i
    · have : (vN u 10).toNat = i := by omega
      rw [if_pos e, valS, this]
    · have ih1 := ih (i + 1) (by omega) (by omega)
      rw [if_neg e]
      simp only [valF] at ih1
      push_cast at ih1
      simp only [show (0 : Int) ≤ i ∧ (i : Int) < (48 : Nat) from ⟨by omega, by omega⟩]
      simp only [ite_true, and_self]
      by_cases c1 : vR u 11 i = t
      · by_cases c2 : d < vR u 12 i
        · have : ¬ vR u 12 i ≤ d := by omega
          simp [c1, c2, this] at ih1 ⊢
          exact ih1
        · have c3 : vR u 12 i ≤ d := by omega
          by_cases c4 : (valF u t d i).2 ≤ vR u 12 i
          · simp [c1, c2, c3, c4] at ih1 ⊢
            exact ih1
          · simp [c1, c2, c3, c4] at ih1 ⊢
            exact ih1
      · simp [c1] at ih1 ⊢
        exact ih1
theorem t_valueOn (n : Nat) (u : MS) (t d : Int) (ht : 0 ≤ t ∧ t < 16) (hd : -2147483648 ≤ d ∧ d < 2147483648) (hn : 0 ≤ vN u 10 ∧ vN u 10 ≤ 48) (h : 60 ≤ n) : f_X12_valueOn n u (iI t) (iI d) = some (iI (valS u t d)) := by
  have := t_valueOn_L n u t d (by omega) hd hn n 0 (by omega) (by omega)
  unfold f_X12_valueOn
  simp (disch := omega) only [iI_inb, iI_clamp]
  rw [if_pos (by omega)]
  simp only [valF] at this
  rw [← this, u2_iI]
  rfl
