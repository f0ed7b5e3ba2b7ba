theorem t_worthOf_L (n : Nat) (u : MS) (l p d : Int) (hl : 0 ≤ l ∧ l < 17) (hp : -2147483648 ≤ p ∧ p < 2147483648) (hd : -2147483648 ≤ d ∧ d < 2147483648) (hn : 0 ≤ vN u 5 ∧ vN u 5 ≤ 16) (ha : 0 ≤ vN u 10 ∧ vN u 10 ≤ 48) (hf : 60 ≤ n) : ∀ (k : Nat) (w i : Int), 0 ≤ i → i ≤ vN u 5 → (vN u 5 - i).toNat < k → f_X12_worthOf_L6 n u (iI l) (iI p) (iI d) k (iI w) (iI i) = some (iI (w + sumI (fun t => if packP u l p t = true then valS u t d else 0) (vN u 5 - i).toNat i)) := by
  intro k
  induction k with
  | zero => intro w i _ _ h; omega
  | succ k ih =>
    intro w i h0 hi hk
    have h1 := vR_rng u 30 (l * 16 + i).toNat
    unfold f_X12_worthOf_L6
    by_cases e : vN u 5 ≤ i
    · have : (vN u 5 - i).toNat = 0 := by omega
      simp (disch := omega) only [u1_iI, iI_le]
      rw [if_pos e, this]
      simp [sumI]
    · have ih1 := fun w => ih w (i + 1) (by omega) (by omega) (by omega)
      have e2 : (vN u 5 - i).toNat = (vN u 5 - (i + 1)).toNat + 1 := by omega
      have i1 : 0 ≤ l * 16 + i ∧ l * 16 + i < (272 : Nat) := by omega
      simp (disch := first | omega | assumption) only [iI_ofNat, iI_zero, u1_iI, u2_iI, iI_add, iI_mul, iI_le, iI_eq, iI_inb, iI_clamp, t_isHad, t_valueOn, Option.bind_some, b0, ih1]
      rw [if_neg e, e2]
      simp only [sumI, packP, i1, and_self, if_true]
      by_cases c1 : hadS u l i = true
      · by_cases c2 : vR u 30 (l * 16 + i).toNat = p
        · simp [c1, c2, Int.add_assoc]
        · simp [c1, c2]
      · simp [c1]
def worthS (u : MS) (l p d : Int) : Int := sumI (fun t => if packP u l p t = true then valS u t d else 0) (vN u 5).toNat 0
theorem t_worthOf (n : Nat) (u : MS) (l p d : Int) (hl : 0 ≤ l ∧ l < 17) (hp : -2147483648 ≤ p ∧ p < 2147483648) (hd : -2147483648 ≤ d ∧ d < 2147483648) (hn : 0 ≤ vN u 5 ∧ vN u 5 ≤ 16) (ha : 0 ≤ vN u 10 ∧ vN u 10 ≤ 48) (hf : 60 ≤ n) : f_X12_worthOf n u (iI l) (iI p) (iI d) = some (iI (worthS u l p d)) := by
  have := t_worthOf_L n u l p d hl hp hd hn ha hf n 0 0 (by omega) (by omega) (by omega)
  unfold f_X12_worthOf worthS
  rw [iI_zero, this, Int.sub_zero, Int.zero_add]
def allI (p : Int → Bool) : Nat → Int → Bool
  | 0, _ => true
  | c + 1, i => p i && allI p c (i + 1)
def togP (u : MS) (l t p j : Int) : Bool := !(packP u l p j) || togS u t j
theorem t_goesInto_L (n : Nat) (u : MS) (l t p : Int) (hl : 0 ≤ l ∧ l < 17) (ht : 0 ≤ t ∧ t < 16) (hp : -2147483648 ≤ p ∧ p < 2147483648) (hn : 0 ≤ vN u 5 ∧ vN u 5 ≤ 16) (hf : 60 ≤ n) : ∀ (k : Nat) (b : Bool) (i : Int), 0 ≤ i → i ≤ vN u 5 → (vN u 5 - i).toNat < k → f_X12_goesInto_L37 n u (iI l) (iI t) (iI p) k (iI (if b = true then 1 else 0)) (iI i) = some (iI (if (b && allI (togP u l t p) (vN u 5 - i).toNat i) = true then 1 else 0)) := by
  intro k
  induction k with
  | zero => intro b i _ _ h; omega
  | succ k ih =>
    intro b i h0 hi hk
    have h1 := vR_rng u 30 (l * 16 + i).toNat
    unfold f_X12_goesInto_L37
    by_cases e : vN u 5 ≤ i
    · have : (vN u 5 - i).toNat = 0 := by omega
      simp (disch := omega) only [u1_iI, iI_ofNat, iI_zero, iI_le, b01, if_true]
      rw [if_pos e, this]
      simp [allI]
    · have ihT := ih true (i + 1) (by omega) (by omega) (by omega)
      have ihF := ih false (i + 1) (by omega) (by omega) (by omega)
      simp only [if_true, Bool.false_eq_true, if_false, Bool.true_and, Bool.false_and] at ihT ihF
      have e2 : (vN u 5 - i).toNat = (vN u 5 - (i + 1)).toNat + 1 := by omega
      have i1 : 0 ≤ l * 16 + i ∧ l * 16 + i < (272 : Nat) := by omega
      simp (disch := first | omega | assumption) only [iI_ofNat, iI_zero, u1_iI, u2_iI, iI_add, iI_mul, iI_le, iI_eq, iI_inb, iI_clamp, t_isHad, t_areTogether, Option.bind_some, b0, b01, if_true, ihT, ihF]
      rw [if_neg e, e2]
      simp only [allI, togP, packP, i1, and_self, if_true]
      cases b
      · simp
      · by_cases c1 : hadS u l i = true
        · by_cases c2 : vR u 30 (l * 16 + i).toNat = p
          · by_cases c3 : togS u t i = true
            · simp [c1, c2, c3]
            · simp [c1, c2, c3]
          · simp [c1, c2]
        · simp [c1]
def HouOK (u : MS) (l : Int) : Prop := 0 ≤ vR u 25 l.toNat ∧ vR u 25 l.toNat < 6
def fitS (u : MS) (l t p : Int) : Bool := decide (weighS u l p + vR u 8 t.toNat ≤ vR u 16 (vR u 25 l.toNat).toNat) && allI (togP u l t p) (vN u 5).toNat 0
theorem t_goesInto (n : Nat) (u : MS) (l t p : Int) (hl : 0 ≤ l ∧ l < 17) (ht : 0 ≤ t ∧ t < 16) (hp : -2147483648 ≤ p ∧ p < 2147483648) (hn : 0 ≤ vN u 5 ∧ vN u 5 ≤ 16) (hf : 60 ≤ n) (hh : HouOK u l) (hw : 0 ≤ weighS u l p ∧ weighS u l p ≤ 100000) (hw2 : 0 ≤ vR u 8 t.toNat ∧ vR u 8 t.toNat ≤ 100000) : f_X12_goesInto n u (iI l) (iI t) (iI p) = some (iI (if fitS u l t p = true then 1 else 0)) := by
  obtain ⟨hh1, hh2⟩ := hh
  have h3 := vR_rng u 16 (vR u 25 l.toNat).toNat
  have hT := t_goesInto_L n u l t p hl ht hp hn hf n true 0 (by omega) (by omega) (by omega)
  have hF := t_goesInto_L n u l t p hl ht hp hn hf n false 0 (by omega) (by omega) (by omega)
  simp only [if_true, Bool.false_eq_true, if_false, Bool.true_and, Bool.false_and, Int.sub_zero] at hT hF
  unfold f_X12_goesInto fitS
  have i1 : 0 ≤ t ∧ t < (16 : Nat) := by omega
  have i2 : 0 ≤ l ∧ l < (17 : Nat) := by omega
  have i3 : 0 ≤ vR u 25 l.toNat ∧ vR u 25 l.toNat < (6 : Nat) := by omega
  simp (disch := first | omega | assumption) only [iI_ofNat, iI_zero, u2_iI, iI_add, iI_lt, iI_inb, iI_clamp, t_weightOf, Option.bind_some, i1, i2, i3, and_self, if_true]
  by_cases c : vR u 16 (vR u 25 l.toNat).toNat < weighS u l p + vR u 8 t.toNat
  · have c2 : ¬ weighS u l p + vR u 8 t.toNat ≤ vR u 16 (vR u 25 l.toNat).toNat := by omega
    simp [c, c2, hF]
  · have c2 : weighS u l p + vR u 8 t.toNat ≤ vR u 16 (vR u 25 l.toNat).toNat := by omega
    simp [c, c2, hT]
def rdyP (u : MS) (c m d : Int) : Bool := decide (d < 1000) && (mayS u c d && decide (busyS u c d m < 0))
def SpaOK (u : MS) (c : Int) : Prop := 0 ≤ vR u 20 c.toNat ∧ vR u 20 c.toNat ≤ 40
theorem t_isReady_L (n : Nat) (u : MS) (c s e m : Int) (hc : 0 ≤ c ∧ c < 8) (hs : 0 ≤ s ∧ s ≤ 2000) (he : 0 ≤ e ∧ e ≤ 2000) (hm : 0 ≤ m ∧ m ≤ 17) (hL : ∀ l, 0 ≤ l → l < m → LoanOK u l) (hP : ∀ l, 0 ≤ l → l < m → ParOK u l) (hS : SpaOK u c) (hf : 60 ≤ n) : ∀ (k : Nat) (b : Bool) (i : Int), 0 ≤ i → i ≤ s + e → (s + e - i).toNat < k → f_X12_isReady_L6 n u (iI c) (iI s) (iI e) (iI m) k (iI (if b = true then 1 else 0)) (iI i) = some (iI (if (b && allI (rdyP u c m) (s + e - i).toNat i) = true then 1 else 0)) := by
  unfold SpaOK at hS
  intro k
  induction k with
  | zero => intro b i _ _ h; omega
  | succ k ih =>
    intro b i h0 hi hk
    have h9 := fstI_rng (busyP u c i) m.toNat 0 (by omega)
    have h8 : -1 ≤ busyS u c i m ∧ busyS u c i m ≤ 17 := by unfold busyS; omega
    unfold f_X12_isReady_L6
    by_cases e1 : s + e ≤ i
    · have : (s + e - i).toNat = 0 := by omega
      simp (disch := omega) only [iI_ofNat, iI_zero, iI_add, iI_le, b01, if_true]
      rw [if_pos e1, this]
      simp [allI]
    · have ihT := ih true (i + 1) (by omega) (by omega) (by omega)
      have ihF := ih false (i + 1) (by omega) (by omega) (by omega)
      simp only [if_true, Bool.false_eq_true, if_false, Bool.true_and, Bool.false_and] at ihT ihF
      have e2 : (s + e - i).toNat = (s + e - (i + 1)).toNat + 1 := by omega
      simp (disch := first | omega | assumption) only [iI_ofNat, iI_zero, iI_add, iI_le, iI_eq, t_mayTravel, t_busyFor, Option.bind_some, b0, b01, if_true, ihT, ihF]
      rw [if_neg e1, e2]
      simp only [allI, rdyP]
      cases b
      · simp
      · by_cases c1 : 1000 ≤ i
        · have c2 : ¬ i < 1000 := by omega
          simp [c1, c2]
        · have c2 : i < 1000 := by omega
          by_cases c3 : mayS u c i = true
          · by_cases c4 : 0 ≤ busyS u c i m
            · have c5 : ¬ busyS u c i m < 0 := by omega
              simp [c1, c2, c3, c4, c5]
            · have c5 : busyS u c i m < 0 := by omega
              simp [c1, c2, c3, c4, c5]
          · simp [c1, c2, c3]
def readyS (u : MS) (c s e m : Int) : Bool := allI (rdyP u c m) e.toNat s
theorem t_isReady (n : Nat) (u : MS) (c s e m : Int) (hc : 0 ≤ c ∧ c < 8) (hs : 0 ≤ s ∧ s ≤ 2000) (he : 0 ≤ e ∧ e ≤ 2000) (hm : 0 ≤ m ∧ m ≤ 17) (hL : ∀ l, 0 ≤ l → l < m → LoanOK u l) (hP : ∀ l, 0 ≤ l → l < m → ParOK u l) (hS : SpaOK u c) (hf : 2100 ≤ n) : f_X12_isReady n u (iI c) (iI s) (iI e) (iI m) = some (iI (if readyS u c s e m = true then 1 else 0)) := by
  have := t_isReady_L n u c s e m hc hs he hm hL hP hS (by omega) n true s (by omega) (by omega) (by omega)
  unfold f_X12_isReady readyS
  simp only [if_true, Bool.true_and, show s + e - s = e by omega] at this
  exact this
