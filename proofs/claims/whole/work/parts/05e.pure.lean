def parP (u : MS) (c s l p : Int) : Bool := decide (vR u (if s = 1 then 31 else 32) (l * 16 + p).toNat = c)
theorem t_busyFor_P (n : Nat) (u : MS) (c d m l s : Int) (hl : 0 ≤ l ∧ l < 17) (hs : s = 1 ∨ s = 3) (hc : -2147483648 ≤ c ∧ c < 2147483648) (hn : 0 ≤ vR u 29 l.toNat ∧ vR u 29 l.toNat ≤ 16) : ∀ (k : Nat) (i : Int), 0 ≤ i → i ≤ vR u 29 l.toNat → (vR u 29 l.toNat - i).toNat < k → f_X12_busyFor_L50 n u (iI c) (iI d) (iI m) (iI l) (iI s) k (iI i) = some (if anyI (parP u c s l) (vR u 29 l.toNat - i).toNat i = true then Sum.inl (iI l) else Sum.inr ()) := by
  intro k
  induction k with
  | zero => intro i _ _ h; omega
  | succ k ih =>
    intro i h0 hi hk
    have h1 := vR_rng u 31 (l * 16 + i).toNat
    have h2 := vR_rng u 32 (l * 16 + i).toNat
    unfold f_X12_busyFor_L50
    by_cases e : vR u 29 l.toNat ≤ i
    · have : (vR u 29 l.toNat - i).toNat = 0 := by omega
      simp (disch := omega) only [iI_ofNat, iI_inb, iI_clamp, u2_iI, iI_le]
      rw [if_pos e, this, if_pos (by omega)]
      simp [anyI]
    · have ih1 := ih (i + 1) (by omega) (by omega) (by omega)
      have e2 : (vR u 29 l.toNat - i).toNat = (vR u 29 l.toNat - (i + 1)).toNat + 1 := by omega
      have i1 : 0 ≤ l * 16 + i ∧ l * 16 + i < (272 : Nat) := by omega
      simp (disch := first | omega | assumption) only [iI_ofNat, u2_iI, iI_add, iI_mul, iI_le, iI_eq, iI_inb, iI_clamp]
      rw [if_neg e, e2, if_pos (by omega), ih1]
      simp only [anyI, parP, i1, and_self, if_true]
      rcases hs with hs | hs
      · subst hs
        by_cases c3 : vR u 31 (l * 16 + i).toNat = c
        · simp [c3]
        · simp [c3]
      · subst hs
        by_cases c3 : vR u 32 (l * 16 + i).toNat = c
        · simp [c3]
        · simp [c3]
def busyP (u : MS) (c d l : Int) : Bool := decide (vR u 24 l.toNat ≠ 0) && (decide (stageS u l d = 1 ∨ stageS u l d = 3) && anyI (parP u c (stageS u l d) l) (vR u 29 l.toNat).toNat 0)
def ParOK (u : MS) (l : Int) : Prop := 0 ≤ vR u 29 l.toNat ∧ vR u 29 l.toNat ≤ 16
theorem stageS_rng (u : MS) (l d : Int) : 0 ≤ stageS u l d ∧ stageS u l d ≤ 3 := by
  unfold stageS
  (repeat' split) <;> omega
theorem t_busyFor_L (n : Nat) (u : MS) (c d m : Int) (hc : -2147483648 ≤ c ∧ c < 2147483648) (hd : -2147480000 ≤ d ∧ d < 2147483648) (hm : 0 ≤ m ∧ m ≤ 17) (hL : ∀ l, 0 ≤ l → l < m → LoanOK u l) (hP : ∀ l, 0 ≤ l → l < m → ParOK u l) (hf : 60 ≤ n) : ∀ (k : Nat) (i : Int), 0 ≤ i → i ≤ m → (m - i).toNat < k → f_X12_busyFor_L3 n u (iI c) (iI d) (iI m) k (iI i) = some (iI (fstI (busyP u c d) (m - i).toNat i)) := by
  intro k
  induction k with
  | zero => intro i _ _ h; omega
  | succ k ih =>
    intro i h0 hi hk
    have h1 := vR_rng u 24 i.toNat
    have h5 := stageS_rng u i d
    unfold f_X12_busyFor_L3
    by_cases e : m ≤ i
    · have : (m - i).toNat = 0 := by omega
      simp (disch := omega) only [iI_le]
      rw [if_pos e, this]
      rfl
    · have hl := hL i h0 (by omega)
      have hp := hP i h0 (by omega)
      have ih1 := ih (i + 1) (by omega) (by omega) (by omega)
      have e2 : (m - i).toNat = (m - (i + 1)).toNat + 1 := by omega
      simp (disch := first | omega | assumption) only [iI_ofNat, iI_zero, u2_iI, iI_add, iI_le, iI_lt, iI_eq, iI_inb, iI_clamp, t_stageOf, Option.bind_some]
      rw [if_neg e, e2, if_pos (by omega), ih1]
      simp only [fstI, busyP]
      unfold ParOK at hp
      by_cases c1 : vR u 24 i.toNat = 0
      · simp [c1]
      · rcases (by omega : stageS u i d = 1 ∨ stageS u i d = 3 ∨ (stageS u i d ≠ 1 ∧ stageS u i d ≠ 3)) with c2 | c2 | c2
        · have hq := t_busyFor_P n u c d m i 1 (by omega) (by omega) hc hp n 0 (by omega) (by omega) (by omega)
          rw [Int.sub_zero] at hq
          by_cases c3 : anyI (parP u c 1 i) (vR u 29 i.toNat).toNat 0 = true
          · simp [c1, c2, c3, hq]
          · simp [c1, c2, c3, hq]
        · have hq := t_busyFor_P n u c d m i 3 (by omega) (by omega) hc hp n 0 (by omega) (by omega) (by omega)
          rw [Int.sub_zero] at hq
          by_cases c3 : anyI (parP u c 3 i) (vR u 29 i.toNat).toNat 0 = true
          · simp [c1, c2, c3, hq]
          · simp [c1, c2, c3, hq]
        · simp [c1, c2.1, c2.2]
def busyS (u : MS) (c d m : Int) : Int := fstI (busyP u c d) m.toNat 0
theorem t_busyFor (n : Nat) (u : MS) (c d m : Int) (hc : -2147483648 ≤ c ∧ c < 2147483648) (hd : -2147480000 ≤ d ∧ d < 2147483648) (hm : 0 ≤ m ∧ m ≤ 17) (hL : ∀ l, 0 ≤ l → l < m → LoanOK u l) (hP : ∀ l, 0 ≤ l → l < m → ParOK u l) (hf : 60 ≤ n) : f_X12_busyFor n u (iI c) (iI d) (iI m) = some (iI (busyS u c d m)) := by
  have := t_busyFor_L n u c d m hc hd hm hL hP hf n 0 (by omega) (by omega) (by omega)
  unfold f_X12_busyFor busyS
  rw [iI_zero, this, Int.sub_zero]
theorem fstI_rng (p : Int → Bool) (c : Nat) (i : Int) (h : 0 ≤ i) : fstI p c i = -1 ∨ (i ≤ fstI p c i ∧ fstI p c i < i + c ∧ p (fstI p c i) = true) := by
  induction c generalizing i with
  | zero => exact Or.inl rfl
  | succ c ih =>
    unfold fstI
    split
    · rename_i hp
      exact Or.inr ⟨by omega, by omega, hp⟩
    · rcases ih (i + 1) (by omega) with h1 | h1
      · exact Or.inl h1
      · exact Or.inr ⟨by omega, by omega, h1.2.2⟩
def togS (u : MS) (a b : Int) : Bool := decide (((u.2 9 a.toNat >>> (u.2 6 b.toNat &&& 31)) &&& (1 : Int32)) = 0) && decide (((u.2 9 b.toNat >>> (u.2 6 a.toNat &&& 31)) &&& (1 : Int32)) = 0)
theorem t_areTogether (u : MS) (a b : Int) (ha : 0 ≤ a ∧ a < 16) (hb : 0 ≤ b ∧ b < 16) : f_X12_areTogether u (iI a) (iI b) = some (iI (if togS u a b = true then 1 else 0)) := by
  unfold f_X12_areTogether togS
  simp (disch := omega) only [iI_inb, iI_clamp]
  have h1 : 0 ≤ a ∧ a < (16 : Nat) := by omega
  have h2 : 0 ≤ b ∧ b < (16 : Nat) := by omega
  simp only [h1, h2, and_self, if_true]
  by_cases c1 : ((u.2 9 a.toNat >>> (u.2 6 b.toNat &&& 31)) &&& (1 : Int32)) = 0
  · by_cases c2 : ((u.2 9 b.toNat >>> (u.2 6 a.toNat &&& 31)) &&& (1 : Int32)) = 0
    · simp only [c1, c2]; rfl
    · simp only [c1, c2]; rfl
  · simp only [c1]; rfl
def packP (u : MS) (l p t : Int) : Bool := hadS u l t && decide (vR u 30 (l * 16 + t).toNat = p)
theorem t_weightOf_L (n : Nat) (u : MS) (l p : Int) (hl : 0 ≤ l ∧ l < 17) (hp : -2147483648 ≤ p ∧ p < 2147483648) (hn : 0 ≤ vN u 5 ∧ vN u 5 ≤ 16) : ∀ (k : Nat) (w i : Int), 0 ≤ i → i ≤ vN u 5 → (vN u 5 - i).toNat < k → f_X12_weightOf_L5 n u (iI l) (iI p) k (iI w) (iI i) = some (iI (w + sumI (fun t => if packP u l p t = true then vR u 8 t.toNat else 0) (vN u 5 - i).toNat i)) := by
  intro k
  induction k with
  | zero => intro w i _ _ h; omega
  | succ k ih =>
    intro w i h0 hi hk
    have h1 := vR_rng u 30 (l * 16 + i).toNat
    unfold f_X12_weightOf_L5
    by_cases e : vN u 5 ≤ i
    · have : (vN u 5 - i).toNat = 0 := by omega
      simp (disch := omega) only [u1_iI, iI_le]
      rw [if_pos e, this]
      simp [sumI]
    · have ih1 := fun w => ih w (i + 1) (by omega) (by omega) (by omega)
      have e2 : (vN u 5 - i).toNat = (vN u 5 - (i + 1)).toNat + 1 := by omega
      have i1 : 0 ≤ l * 16 + i ∧ l * 16 + i < (272 : Nat) := by omega
      have i2 : 0 ≤ i ∧ i < (16 : Nat) := by omega
      simp (disch := first | omega | assumption) only [iI_ofNat, iI_zero, u1_iI, u2_iI, iI_add, iI_mul, iI_le, iI_eq, iI_inb, iI_clamp, t_isHad, Option.bind_some, b0, ih1]
      rw [if_neg e, e2]
      simp only [sumI, packP, i1, i2, and_self, if_true]
      by_cases c1 : hadS u l i = true
      · by_cases c2 : vR u 30 (l * 16 + i).toNat = p
        · simp [c1, c2, Int.add_assoc]
        · simp [c1, c2]
      · simp [c1]
def weighS (u : MS) (l p : Int) : Int := sumI (fun t => if packP u l p t = true then vR u 8 t.toNat else 0) (vN u 5).toNat 0
theorem t_weightOf (n : Nat) (u : MS) (l p : Int) (hl : 0 ≤ l ∧ l < 17) (hp : -2147483648 ≤ p ∧ p < 2147483648) (hn : 0 ≤ vN u 5 ∧ vN u 5 ≤ 16) (hf : 60 ≤ n) : f_X12_weightOf n u (iI l) (iI p) = some (iI (weighS u l p)) := by
  have := t_weightOf_L n u l p hl hp hn n 0 0 (by omega) (by omega) (by omega)
  unfold f_X12_weightOf weighS
  rw [iI_zero, this, Int.sub_zero, Int.zero_add]
