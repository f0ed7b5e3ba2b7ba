def sizG (u : MS) (r q s : Int) : Nat → Int → Int → Int
  | 0, _, x => x
  | c + 1, i, x => if vR u 37 (r * 16 + i).toNat = q ∧ vR u 38 (r * 16 + i).toNat = s then sizG u r q s c (i + 1) (vR u 39 (r * 16 + i).toNat) else sizG u r q s c (i + 1) x
def RepOK (u : MS) (r : Int) : Prop := (0 ≤ vR u 36 r.toNat ∧ vR u 36 r.toNat ≤ 16) ∧ (0 ≤ vR u 34 r.toNat ∧ vR u 34 r.toNat < 16) ∧ (0 ≤ vR u 35 r.toNat ∧ vR u 35 r.toNat ≤ 999)
theorem t_sizeIn_L (n : Nat) (u : MS) (r q s : Int) (hr : 0 ≤ r ∧ r < 48) (hq : -2147483648 ≤ q ∧ q < 2147483648) (hs : -2147483648 ≤ s ∧ s < 2147483648) (ho : RepOK u r) : ∀ (k : Nat) (x i : Int), 0 ≤ i → i ≤ vR u 36 r.toNat → (vR u 36 r.toNat - i).toNat < k → f_X12_sizeIn_L6 n u (iI r) (iI q) (iI s) k (iI x) (iI i) = some (iI (sizG u r q s (vR u 36 r.toNat - i).toNat i x)) := by
  obtain ⟨ho1, ho2, ho3⟩ := ho
  intro k
  induction k with
  | zero => intro x i _ _ h; omega
  | succ k ih =>
    intro x i h0 hi hk
    have h1 := vR_rng u 37 (r * 16 + i).toNat
    have h2 := vR_rng u 38 (r * 16 + i).toNat
    have i2 : 0 ≤ r ∧ r < (48 : Nat) := by omega
    unfold f_X12_sizeIn_L6
    by_cases e : vR u 36 r.toNat ≤ i
    · have : (vR u 36 r.toNat - i).toNat = 0 := by omega
      simp (disch := omega) only [u2_iI, iI_inb, iI_clamp, iI_le, i2, and_self, if_true]
      rw [if_pos e, this]
      rfl
    · have ih1 := fun x => ih x (i + 1) (by omega) (by omega) (by omega)
      have e2 : (vR u 36 r.toNat - i).toNat = (vR u 36 r.toNat - (i + 1)).toNat + 1 := by omega
      have i1 : 0 ≤ r * 16 + i ∧ r * 16 + i < (768 : Nat) := by omega
      simp (disch := first | omega | assumption) only [iI_ofNat, u2_iI, iI_add, iI_mul, iI_le, iI_eq, iI_inb, iI_clamp, ih1, i2, i1, and_self, if_true]
      rw [if_neg e, e2]
      simp only [sizG]
      by_cases c1 : vR u 37 (r * 16 + i).toNat = q
      · by_cases c2 : vR u 38 (r * 16 + i).toNat = s
        · simp [c1, c2]
        · simp [c1, c2]
      · simp [c1]
def sizS (u : MS) (r q s : Int) : Int := sizG u r q s (vR u 36 r.toNat).toNat 0 0
theorem t_sizeIn (n : Nat) (u : MS) (r q s : Int) (hr : 0 ≤ r ∧ r < 48) (hq : -2147483648 ≤ q ∧ q < 2147483648) (hs : -2147483648 ≤ s ∧ s < 2147483648) (ho : RepOK u r) (hf : 60 ≤ n) : f_X12_sizeIn n u (iI r) (iI q) (iI s) = some (iI (sizS u r q s)) := by
  have hh := ho
  obtain ⟨ho1, ho2, ho3⟩ := ho
  have := t_sizeIn_L n u r q s hr hq hs hh n 0 0 (by omega) (by omega) (by omega)
  unfold f_X12_sizeIn sizS
  rw [iI_zero, this, Int.sub_zero]
def gravS (q : Int) : Int := if q = 0 then 3 else if q = 1 then 2 else if q = 2 then 5 else 8
def HarOK (u : MS) (r : Int) : Prop := ∀ j, 0 ≤ j → j < vR u 36 r.toNat → (0 ≤ vR u 37 (r * 16 + j).toNat ∧ vR u 37 (r * 16 + j).toNat ≤ 3) ∧ (0 ≤ vR u 38 (r * 16 + j).toNat ∧ vR u 38 (r * 16 + j).toNat ≤ 99) ∧ (1 ≤ vR u 39 (r * 16 + j).toNat ∧ vR u 39 (r * 16 + j).toNat ≤ 99)
theorem sizG_rng (u : MS) (r q s : Int) (ho : HarOK u r) : ∀ (c : Nat) (i x : Int), 0 ≤ i → i + c ≤ vR u 36 r.toNat → 0 ≤ x ∧ x ≤ 99 → 0 ≤ sizG u r q s c i x ∧ sizG u r q s c i x ≤ 99 := by
  intro c
  induction c with
  | zero => intro i x _ _ h; exact h
  | succ c ih =>
    intro i x h0 h1 h2
    have h3 := ho i h0 (by omega)
    unfold sizG
    split
    · exact ih (i + 1) _ (by omega) (by omega) (by omega)
    · exact ih (i + 1) _ (by omega) (by omega) h2
theorem sizS_rng (u : MS) (r q s : Int) (ho : HarOK u r) (h : RepOK u r) : 0 ≤ sizS u r q s ∧ sizS u r q s ≤ 99 := by
  obtain ⟨h1, h2, h3⟩ := h
  exact sizG_rng u r q s ho _ 0 0 (by omega) (by omega) (by omega)
def growS (u : MS) (r a j : Int) : Int := if vR u 39 (r * 16 + j).toNat - sizS u a (vR u 37 (r * 16 + j).toNat) (vR u 38 (r * 16 + j).toNat) ≤ 0 then 0 else (vR u 39 (r * 16 + j).toNat - sizS u a (vR u 37 (r * 16 + j).toNat) (vR u 38 (r * 16 + j).toNat)) * gravS (vR u 37 (r * 16 + j).toNat)
theorem t_damageOf_L (n : Nat) (u : MS) (r a : Int) (hr : 0 ≤ r ∧ r < 48) (ha : 0 ≤ a ∧ a < 48) (ho : RepOK u r) (hoa : RepOK u a) (hh : HarOK u r) (hha : HarOK u a) (hf : 60 ≤ n) : ∀ (k : Nat) (x i : Int), 0 ≤ i → i ≤ vR u 36 r.toNat → (vR u 36 r.toNat - i).toNat < k → f_X12_damageOf_L17 n u (iI r) (iI a) k (iI x) (iI i) = some (iI (x + sumI (growS u r a) (vR u 36 r.toNat - i).toNat i)) := by
  obtain ⟨ho1, ho2, ho3⟩ := ho
  intro k
  induction k with
  | zero => intro x i _ _ h; omega
  | succ k ih =>
    intro x i h0 hi hk
    have h1 := vR_rng u 37 (r * 16 + i).toNat
    have h2 := vR_rng u 38 (r * 16 + i).toNat
    have h3 := vR_rng u 39 (r * 16 + i).toNat
    have h4 := sizS_rng u a (vR u 37 (r * 16 + i).toNat) (vR u 38 (r * 16 + i).toNat) hha hoa
    have i2 : 0 ≤ r ∧ r < (48 : Nat) := by omega
    unfold f_X12_damageOf_L17
    by_cases e : vR u 36 r.toNat ≤ i
    · have : (vR u 36 r.toNat - i).toNat = 0 := by omega
      have q1 : inb (iI r) 48 := (iI_inb r 48 (by omega)).mpr i2
      have q2 : u.2 36 (iI r).toNatClampNeg ≤ iI i := by
        rw [iI_clamp r (by omega), u2_iI, iI_le _ _ (by omega)]
        exact e
      rw [if_pos q1, if_pos q2, this]
      simp [sumI]
    · have h5 := hh i h0 (by omega)
      have ih1 := fun x => ih x (i + 1) (by omega) (by omega) (by omega)
      have e2 : (vR u 36 r.toNat - i).toNat = (vR u 36 r.toNat - (i + 1)).toNat + 1 := by omega
      have i1 : 0 ≤ r * 16 + i ∧ r * 16 + i < (768 : Nat) := by omega
      simp (disch := first | omega | assumption) only [iI_ofNat, iI_zero, u2_iI, iI_add, iI_sub, iI_mul, iI_le, iI_eq, iI_inb, iI_clamp, i2, i1, and_self, if_true, t_sizeIn, Option.bind_some]
      rw [if_neg e, e2]
      simp only [sumI]
      rw [growS]
      by_cases c0 : vR u 39 (r * 16 + i).toNat - sizS u a (vR u 37 (r * 16 + i).toNat) (vR u 38 (r * 16 + i).toNat) ≤ 0
      · rcases (by omega : vR u 37 (r * 16 + i).toNat = 0 ∨ vR u 37 (r * 16 + i).toNat = 1 ∨ vR u 37 (r * 16 + i).toNat = 2 ∨ vR u 37 (r * 16 + i).toNat = 3) with c1 | c1 | c1 | c1 <;> rw [c1] at c0 ⊢ <;> simp [c0, ih1, gravS]
      · rcases (by omega : vR u 37 (r * 16 + i).toNat = 0 ∨ vR u 37 (r * 16 + i).toNat = 1 ∨ vR u 37 (r * 16 + i).toNat = 2 ∨ vR u 37 (r * 16 + i).toNat = 3) with c1 | c1 | c1 | c1 <;> rw [c1] at c0 ⊢ <;> simp [c0, iI_mul, iI_add, ih1, gravS, Int.add_assoc]
def damS (u : MS) (r : Int) : Int := if 0 ≤ inS u (vR u 34 r.toNat) (vR u 35 r.toNat - 1) then sumI (growS u r (inS u (vR u 34 r.toNat) (vR u 35 r.toNat - 1))) (vR u 36 r.toNat).toNat 0 * valS u (vR u 34 r.toNat) (vR u 35 r.toNat) else 0
theorem t_damageOf (n : Nat) (u : MS) (r : Int) (hr : 0 ≤ r ∧ r < vN u 33) (hn : 0 ≤ vN u 33 ∧ vN u 33 ≤ 48) (hna : 0 ≤ vN u 10 ∧ vN u 10 ≤ 48) (hR : ∀ r, 0 ≤ r → r < vN u 33 → RepOK u r ∧ HarOK u r) (hf : 60 ≤ n) : f_X12_damageOf n u (iI r) = some (iI (damS u r)) := by
  obtain ⟨ho, hh⟩ := hR r hr.1 hr.2
  have ho0 := ho
  obtain ⟨ho1, ho2, ho3⟩ := ho
  have h1 := inS_rng u (vR u 34 r.toNat) (vR u 35 r.toNat - 1) (by omega)
  have i2 : 0 ≤ r ∧ r < (48 : Nat) := by omega
  unfold f_X12_damageOf damS
  rw [t_aheadOf n u r (by omega) (by omega) hn hf]
  simp only [Option.bind_some]
  by_cases c : 0 ≤ inS u (vR u 34 r.toNat) (vR u 35 r.toNat - 1)
  · obtain ⟨hoa, hha⟩ := hR _ c h1.2
    have hq := t_damageOf_L n u r _ (by omega) (by omega) ho0 hoa hh hha hf n 0 0 (by omega) (by omega) (by omega)
    rw [Int.sub_zero, Int.zero_add] at hq
    simp (disch := first | omega | assumption) only [iI_zero, iI_le, c, if_true, hq, Option.bind_some, iI_inb, i2, and_self, u2_iI, iI_clamp, t_valueOn, iI_mul]
  · simp (disch := omega) only [iI_zero, iI_le, c, if_false]
def dayP (u : MS) (l d : Int) : Bool := decide (vR u 26 l.toNat ≤ d ∧ d ≤ vR u 26 l.toNat + lenS u l - 1)
theorem t_bearerOf_D (n : Nat) (u : MS) (r a b m l : Int) (hr : 0 ≤ r ∧ r < 48) (hl : 0 ≤ l ∧ l < 17) (ho : RepOK u r) (hL : LoanOK u l) : ∀ (k : Nat) (w i : Int), 0 ≤ i → i ≤ vR u 35 r.toNat + 1 → (vR u 35 r.toNat + 1 - i).toNat < k → f_X12_bearerOf_L70 n u (iI r) (iI a) (iI b) (iI m) (iI l) k (iI w) (iI i) = some (iI (w + sumI (fun d => if dayP u l d = true then 1 else 0) (vR u 35 r.toNat + 1 - i).toNat i)) := by
  obtain ⟨ho1, ho2, ho3⟩ := ho
  intro k
  induction k with
  | zero => intro w i _ _ h; omega
  | succ k ih =>
    intro w i h0 hi hk
    have i2 : 0 ≤ r ∧ r < (48 : Nat) := by omega
    unfold f_X12_bearerOf_L70
    by_cases e : vR u 35 r.toNat < i
    · have : (vR u 35 r.toNat + 1 - i).toNat = 0 := by omega
      simp (disch := omega) only [u2_iI, iI_inb, iI_clamp, iI_lt, i2, and_self, if_true]
      rw [if_pos e, this]
      simp [sumI]
    · have ih1 := fun w => ih w (i + 1) (by omega) (by omega) (by omega)
      have e2 : (vR u 35 r.toNat + 1 - i).toNat = (vR u 35 r.toNat + 1 - (i + 1)).toNat + 1 := by omega
      simp (disch := first | omega | assumption) only [iI_ofNat, iI_zero, u2_iI, iI_add, iI_lt, iI_inb, iI_clamp, ih1, i2, and_self, if_true, t_isOfLoan, Option.bind_some, b0]
      rw [if_neg e, e2]
      simp only [sumI, dayP]
      by_cases c1 : vR u 26 l.toNat ≤ i ∧ i ≤ vR u 26 l.toNat + lenS u l - 1
      · simp [c1, Int.add_assoc]
      · simp [c1]
theorem sumI_rng (f : Int → Int) (h : ∀ i, 0 ≤ f i ∧ f i ≤ 1) : ∀ (c : Nat) (i : Int), 0 ≤ sumI f c i ∧ sumI f c i ≤ c := by
  intro c
  induction c with
  | zero => intro i; exact ⟨by simp [sumI], by simp [sumI]⟩
  | succ c ih =>
    intro i
    have h1 := ih (i + 1)
    have h2 := h i
    simp only [sumI]
    omega
def daysS (u : MS) (l s e : Int) : Int := sumI (fun d => if dayP u l d = true then 1 else 0) (e + 1 - s).toNat s
theorem daysS_rng (u : MS) (l s e : Int) : 0 ≤ daysS u l s e ∧ daysS u l s e ≤ (e + 1 - s).toNat := by
  unfold daysS
  exact sumI_rng _ (by intro i; show 0 ≤ (if dayP u l i = true then (1 : Int) else 0) ∧ (if dayP u l i = true then (1 : Int) else 0) ≤ 1; split <;> omega) _ _
