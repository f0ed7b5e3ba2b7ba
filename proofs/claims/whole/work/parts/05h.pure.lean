def bearG (u : MS) (r a : Int) : Nat → Int → Int → Int → Int
  | 0, _, b, _ => b
  | c + 1, i, b, m => if vR u 24 i.toNat ≠ 0 ∧ hadS u i (vR u 34 r.toNat) = true ∧ (m < daysS u i (vR u 35 a.toNat + 1) (vR u 35 r.toNat) ∨ (daysS u i (vR u 35 a.toNat + 1) (vR u 35 r.toNat) = m ∧ 0 < m ∧ vR u 26 i.toNat < vR u 26 b.toNat)) then bearG u r a c (i + 1) i (daysS u i (vR u 35 a.toNat + 1) (vR u 35 r.toNat)) else bearG u r a c (i + 1) b m
theorem t_bearerOf_L (n : Nat) (u : MS) (r a : Int) (hr : 0 ≤ r ∧ r < 48) (ha : 0 ≤ a ∧ a < 48) (ho : RepOK u r) (hoa : RepOK u a) (hlt : vR u 35 a.toNat < vR u 35 r.toNat) (hn : 0 ≤ vN u 23 ∧ vN u 23 ≤ 16) (hL : ∀ l, 0 ≤ l → l < vN u 23 → LoanOK u l) (hf : 2100 ≤ n) : ∀ (k : Nat) (b m i : Int), 0 ≤ i → i ≤ vN u 23 → (vN u 23 - i).toNat < k → (b = -1 ∧ m = 0 ∨ 0 ≤ b ∧ b < 17 ∧ 0 < m ∧ m ≤ 1000) → f_X12_bearerOf_L20 n u (iI r) (iI a) k (iI b) (iI m) (iI i) = some (iI (bearG u r a (vN u 23 - i).toNat i b m)) := by
  have ho0 := ho
  obtain ⟨ho1, ho2, ho3⟩ := ho
  obtain ⟨hb1, hb2, hb3⟩ := hoa
  intro k
  induction k with
  | zero => intro b m i _ _ h; omega
  | succ k ih =>
    intro b m i h0 hi hk hbm
    have i2 : 0 ≤ r ∧ r < (48 : Nat) := by omega
    have i3 : 0 ≤ a ∧ a < (48 : Nat) := by omega
    unfold f_X12_bearerOf_L20
    by_cases e : vN u 23 ≤ i
    · have : (vN u 23 - i).toNat = 0 := by omega
      have q2 : u.1 23 ≤ iI i := by
        rw [u1_iI, iI_le _ _ (by omega)]
        exact e
      rw [if_pos q2, this]
      rfl
    · have hl := hL i h0 (by omega)
      have hd := t_bearerOf_D n u r a b m i hr (by omega) ho0 hl n 0 (vR u 35 a.toNat + 1) (by omega) (by omega) (by omega)
      rw [Int.zero_add] at hd
      have hdr := daysS_rng u i (vR u 35 a.toNat + 1) (vR u 35 r.toNat)
      have hd2 : f_X12_bearerOf_L70 n u (iI r) (iI a) (iI b) (iI m) (iI i) n (iI 0) (iI (vR u 35 a.toNat + 1)) = some (iI (daysS u i (vR u 35 a.toNat + 1) (vR u 35 r.toNat))) := hd
      have ihk := ih b m (i + 1) (by omega) (by omega) (by omega) hbm
      have e2 : (vN u 23 - i).toNat = (vN u 23 - (i + 1)).toNat + 1 := by omega
      have i4 : 0 ≤ i ∧ i < (17 : Nat) := by omega
      have h1 := vR_rng u 24 i.toNat
      have h7 := vR_rng u 26 i.toNat
      have h8 := vR_rng u 26 b.toNat
      simp (disch := first | omega | assumption) only [iI_ofNat, iI_zero, u1_iI, u2_iI, iI_add, iI_le, iI_lt, iI_eq, iI_inb, iI_clamp, ihk, i2, i3, i4, and_self, if_true, t_isHad, Option.bind_some, b0, hd2]
      rw [if_neg e, e2]
      simp only [bearG]
      by_cases c1 : vR u 24 i.toNat = 0
      · simp [c1]
      · by_cases c2 : hadS u i (vR u 34 r.toNat) = true
        · by_cases c3 : m < daysS u i (vR u 35 a.toNat + 1) (vR u 35 r.toNat)
          · have ih2 := ih i (daysS u i (vR u 35 a.toNat + 1) (vR u 35 r.toNat)) (i + 1) (by omega) (by omega) (by omega) (Or.inr ⟨by omega, by omega, by omega, by omega⟩)
            simp [c1, c2, c3, ih2]
          · by_cases c4 : daysS u i (vR u 35 a.toNat + 1) (vR u 35 r.toNat) = m
            · by_cases c5 : 0 < m
              · have c6 : 0 ≤ b ∧ b < (17 : Nat) := by omega
                have c8 : ¬ m ≤ 0 := by omega
                by_cases c7 : vR u 26 i.toNat < vR u 26 b.toNat
                · have c9 : ¬ vR u 26 b.toNat ≤ vR u 26 i.toNat := by omega
                  have ih2 := ih i m (i + 1) (by omega) (by omega) (by omega) (Or.inr ⟨by omega, by omega, by omega, by omega⟩)
                  rw [c4]
                  simp only [c1, c2, c5, c6, c7, c8, c9, ih2, and_self, if_true, if_false, ne_eq, not_false_eq_true, not_true_eq_false, or_true, Int.lt_irrefl, eq_false (by decide : ¬ (1 : Int) = 0)]
                · have c9 : vR u 26 b.toNat ≤ vR u 26 i.toNat := by omega
                  rw [c4]
                  simp only [c1, c2, c5, c6, c7, c8, c9, and_self, and_false, if_true, if_false, ne_eq, not_false_eq_true, not_true_eq_false, or_self, Int.lt_irrefl, eq_false (by decide : ¬ (1 : Int) = 0)]
              · have c8 : m ≤ 0 := by omega
                rw [c4]
                simp only [c1, c2, c5, c8, and_self, and_false, false_and, if_true, if_false, ne_eq, not_false_eq_true, not_true_eq_false, or_self, Int.lt_irrefl, eq_false (by decide : ¬ (1 : Int) = 0)]
            · simp [c1, c2, c3, c4]
        · simp [c1, c2]
def bearS (u : MS) (r : Int) : Int := if 0 ≤ inS u (vR u 34 r.toNat) (vR u 35 r.toNat - 1) then bearG u r (inS u (vR u 34 r.toNat) (vR u 35 r.toNat - 1)) (vN u 23).toNat 0 (-1) 0 else -1
theorem inF_day (u : MS) (t d : Int) (i : Nat) : inF u t d i = -1 ∨ (vR u 34 (inF u t d i).toNat = t ∧ vR u 35 (inF u t d i).toNat ≤ d) := by
  induction i with
  | zero => exact Or.inl rfl
  | succ i ih =>
    unfold inF
    split
    · rename_i h
      exact Or.inr ⟨h.1, h.2.1⟩
    · exact ih
theorem t_bearerOf (n : Nat) (u : MS) (r : Int) (hr : 0 ≤ r ∧ r < vN u 33) (hn : 0 ≤ vN u 33 ∧ vN u 33 ≤ 48) (hl : 0 ≤ vN u 23 ∧ vN u 23 ≤ 16) (hL : ∀ l, 0 ≤ l → l < vN u 23 → LoanOK u l) (hR : ∀ r, 0 ≤ r → r < vN u 33 → RepOK u r ∧ HarOK u r) (hf : 2100 ≤ n) : f_X12_bearerOf n u (iI r) = some (iI (bearS u r)) := by
  obtain ⟨ho, hh⟩ := hR r hr.1 hr.2
  have ho0 := ho
  obtain ⟨ho1, ho2, ho3⟩ := ho
  have h1 := inS_rng u (vR u 34 r.toNat) (vR u 35 r.toNat - 1) (by omega)
  have h2 := inF_day u (vR u 34 r.toNat) (vR u 35 r.toNat - 1) (vN u 33).toNat
  unfold f_X12_bearerOf bearS
  rw [t_aheadOf n u r (by omega) (by omega) hn (by omega)]
  simp only [Option.bind_some]
  by_cases c : 0 ≤ inS u (vR u 34 r.toNat) (vR u 35 r.toNat - 1)
  · obtain ⟨hoa, hha⟩ := hR _ c h1.2
    have h3 : vR u 35 (inS u (vR u 34 r.toNat) (vR u 35 r.toNat - 1)).toNat ≤ vR u 35 r.toNat - 1 := by
      rcases h2 with h2 | h2
      · unfold inS at c
        omega
      · exact h2.2
    have hq := t_bearerOf_L n u r _ (by omega) (by omega) ho0 hoa (by omega) hl hL hf n (-1) 0 0 (by omega) (by omega) (by omega) (Or.inl ⟨rfl, rfl⟩)
    rw [Int.sub_zero] at hq
    simp (disch := first | omega | assumption) only [iI_zero, iI_m1, iI_le, c, if_true, hq]
  · simp (disch := omega) only [iI_zero, iI_m1, iI_le, c, if_false]
def perS (u : MS) (l d s t : Int) : Int := if hadS u l t = true then valS u t d * vR u 18 (vR u 25 l.toNat).toNat * (if s = 2 then 1 else if vR u (if s = 1 then 31 else 32) (l * 16 + vR u 30 (l * 16 + t).toNat).toNat < 0 then 3 else 2) * (10 + harmsS u t d) else 0
