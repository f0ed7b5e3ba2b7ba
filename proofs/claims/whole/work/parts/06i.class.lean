/-! BOUNDS OF VALUES AND COSTS; the dearest day, the premium -/
theorem valS_rng {u : MS} {xl : Nat → List Nat} (hI : Inv u xl) (t : Nat) (ht : t < (vN u 5).toNat) (d : Int) : 1 ≤ valS u t d ∧ valS u t d ≤ 9999 := by
  have h1 := (hI.thi t ht).2.1
  unfold valS
  rcases valF_spec u t d (vN u 10).toNat (fun j hj => (hI.apday j hj).1) with ⟨e, -⟩ | ⟨j, g1, -, -, e, -⟩
  · rw [e]
    simpa only [Int.toNat_natCast] using h1
  · rw [e]
    exact (hI.apt j g1).2.2
theorem harmsS_rng {u : MS} {xl : Nat → List Nat} (hI : Inv u xl) (t d : Int) : 0 ≤ harmsS u t d ∧ harmsS u t d ≤ 15 := by
  have h33 := hI.n33
  have h1 := inS_rng u t d (by omega)
  unfold harmsS
  split
  · rename_i c
    have hk := hI.rptk (inS u t d).toNat (by omega)
    have := hk.1.1
    simp only [Int.toNat_natCast] at this
    have h2 := hk.2.2.2
    omega
  · omega
theorem mul_rng {a b A C : Int} (ha : 0 ≤ a ∧ a ≤ A) (hb : 0 ≤ b ∧ b ≤ C) : 0 ≤ a * b ∧ a * b ≤ A * C := ⟨Int.mul_nonneg ha.1 hb.1, Int.mul_le_mul ha.2 hb.2 hb.1 (by omega)⟩
theorem costS_rng {u : MS} {xl : Nat → List Nat} (hI : Inv u xl) (l : Nat) (hl : l < (vN u 23).toNat) (d : Int) : 0 ≤ costS u l d ∧ costS u l d ≤ 1200000000 := by
  have h5 := hI.n5
  have hof := hI.hof l hl
  have hr := (hI.houk (vR u 25 l).toNat (by omega)).2.2.2
  unfold costS
  split
  · omega
  · have := sumI_bnd (perS u l d (stageS u l d)) (9999 * 99 * 3 * 25) (vN u 5).toNat 0 (fun t t0 t1 => ?_)
    · have h2 : ((vN u 5).toNat : Int) * (9999 * 99 * 3 * 25) ≤ 16 * (9999 * 99 * 3 * 25) := Int.mul_le_mul_of_nonneg_right (by omega) (by decide)
      omega
    · unfold perS
      split
      · have hv := valS_rng hI t.toNat (by omega) d
        rw [show ((t.toNat : Nat) : Int) = t by omega] at hv
        have hh := harmsS_rng hI t d
        simp only [Int.toNat_natCast]
        have m1 := mul_rng (A := 9999) (C := 99) ⟨by omega, hv.2⟩ ⟨by omega, hr.2⟩
        have m2 := mul_rng (b := if stageS u l d = 2 then 1 else if vR u (if stageS u l d = 1 then 31 else 32) ((l : Int) * 16 + vR u 30 ((l : Int) * 16 + t).toNat).toNat < 0 then 3 else 2) (C := 3) m1 (by (repeat' split) <;> omega)
        exact mul_rng (C := 25) m2 (by omega)
      · omega
theorem Inv.cost {u : MS} {xl : Nat → List Nat} (hI : Inv u xl) : ∀ l, 0 ≤ l → l < vN u 23 → PofOK u l ∧ CostOK u l := fun l h0 h1 => ⟨hI.pof l h0 h1, fun d => by
  have := costS_rng hI l.toNat (by omega) d
  rw [show ((l.toNat : Nat) : Int) = l by omega] at this
  omega⟩
theorem sumI_split (f : Int → Int) (c d : Nat) (i : Int) : sumI f (c + d) i = sumI f c i + sumI f d (i + c) := by
  induction c generalizing i with
  | zero => simp [sumI]
  | succ c ih =>
    rw [show c + 1 + d = (c + d) + 1 by omega, sumI, ih, sumI, show i + 1 + (c : Int) = i + ((c + 1 : Nat) : Int) by omega]
    omega
theorem sumI_null {f : Int → Int} {c : Nat} {i : Int} (h : ∀ k, i ≤ k → k < i + c → f k = 0) : sumI f c i = 0 := by
  rw [sumI_congr (g := fun _ => 0) h, sumI_zero]
theorem sumI_clip (f : Int → Int) (s t a e : Int) (h : ∀ k, k < s ∨ t < k → f k = 0) : sumI f (e + 1 - a).toNat a = sumI f (min e t + 1 - max a s).toNat (max a s) := by
  by_cases c : max a s ≤ min e t
  · have e1 : (e + 1 - a).toNat = (max a s - a).toNat + ((min e t + 1 - max a s).toNat + (e - min e t).toNat) := by omega
    rw [e1, sumI_split, sumI_split, sumI_null (c := (max a s - a).toNat) (fun k h1 h2 => h k (by omega)), sumI_null (c := (e - min e t).toNat) (fun k h1 h2 => h k (by omega)), Int.zero_add, Int.add_zero, show a + ((max a s - a).toNat : Int) = max a s by omega]
  · rw [show (min e t + 1 - max a s).toNat = 0 by omega, sumI, sumI_null (fun k h1 h2 => h k (by omega))]
section QD
variable {B : Nat} {S : Nat → Nat} {L : Mem} {x0 : Nat} {ad rho : Nat → Nat} {xl : Nat → List Nat} {M : Mem} {u : MS} {sz : Nat}
theorem z_dear_L (h : RepK B S L x0 ad rho xl M u sz) (hI : Inv u xl) {l : Nat} (hl : l < (vN u 23).toNat) (n : Nat) (hf : 2100 ≤ n) (e : Int) (he : 0 ≤ e ∧ e ≤ 2000) : ∀ (k : Nat) (b m i : Int), 0 ≤ i → i ≤ e + 1 → (e + 1 - i).toNat < k → (0 ≤ m ∧ m < 2147483648) → f_X4_dearestDay_L18 n M (some (ad (8000 + l))) (iI e) k (iI b) (iI m) (iI i) = some (iI (dearG u l (e + 1 - i).toNat b m i)) := by
  have ho := (h.loaQ hl (hI.hof l hl)).is
  intro k
  induction k with
  | zero => intro b m i _ _ h; omega
  | succ k ih =>
    intro b m i h0 hi hk hm
    have hc := costS_rng hI l hl i
    unfold f_X4_dearestDay_L18
    rw [it_lt _ _ (by omega)]
    by_cases c : e < i
    · rw [if_pos c, show (e + 1 - i).toNat = 0 by omega]
      rfl
    · rw [if_neg c, ho, if_pos rfl, z_costOn h hI hl n hf i (by omega), Option.bind_some, it_le _ _ (by omega), show (1 : Int32) = iI 1 from rfl, iI_add, show (e + 1 - i).toNat = (e + 1 - (i + 1)).toNat + 1 by omega, dearG]
      by_cases c2 : costS u l i ≤ m
      · rw [if_pos c2, if_neg (by omega)]
        exact ih b m (i + 1) (by omega) (by omega) (by omega) hm
      · rw [if_neg c2, if_pos (by omega)]
        exact ih i (costS u l i) (i + 1) (by omega) (by omega) (by omega) (by omega)
theorem z_dearestDay (h : RepK B S L x0 ad rho xl M u sz) (hI : Inv u xl) {l : Nat} (hl : l < (vN u 23).toNat) (n : Nat) (hf : 2100 ≤ n) : f_X4_dearestDay n M (some (ad (8000 + l))) = some (iI (dearG u l (lenS u l - 1).toNat (vR u 26 l) (costS u l (vR u 26 l)) (vR u 26 l + 1))) := by
  have hq := h.loaQ hl (hI.hof l hl)
  have ho := hI.loan l hl
  obtain ⟨o1, o2, o3, o4⟩ := ho
  simp only [Int.toNat_natCast] at o1 o2 o3 o4
  have hlen : lenS u l = 2 * vR u 15 (vR u 25 l).toNat + vR u 27 l := by simp only [lenS, Int.toNat_natCast]
  have hc := costS_rng hI l hl (vR u 26 l)
  unfold f_X4_dearestDay
  rw [hq.start, Option.bind_some, hq.is, if_pos rfl, hq.last, Option.bind_some, Option.bind_some, iI_zero, z_dear_L h hI hl n hf _ (by omega) n _ _ _ (by omega) (by omega) (by omega) (by omega), show (vR u 26 l + lenS u l - 1 + 1 - vR u 26 l).toNat = (lenS u l - 1).toNat + 1 by omega, dearG]
  by_cases c : 0 < costS u l (vR u 26 l)
  · rw [if_pos c]
  · rw [if_neg c, show costS u l (vR u 26 l) = 0 by omega]
theorem z_between_L (h : RepK B S L x0 ad rho xl M u sz) (hI : Inv u xl) {l : Nat} (hl : l < (vN u 23).toNat) (n : Nat) (hf : 2100 ≤ n) (e : Int) (he : -1 ≤ e ∧ e ≤ 2000) : ∀ (k : Nat) (w i : Int), 0 ≤ i → i ≤ 4000 → (e + 1 - i).toNat < k → f_X4_costBetween_L22 n M (some (ad (8000 + l))) (iI e) k (iL w) (iI i) = some (iL (w + sumI (costS u l) (e + 1 - i).toNat i)) := by
  have ho := (h.loaQ hl (hI.hof l hl)).is
  intro k
  induction k with
  | zero => intro w i _ _ h; omega
  | succ k ih =>
    intro w i h0 hi hk
    have hc := costS_rng hI l hl i
    unfold f_X4_costBetween_L22
    rw [it_lt _ _ (by omega)]
    by_cases c : e < i
    · rw [if_pos c, show (e + 1 - i).toNat = 0 by omega, sumI, Int.add_zero]
    · rw [if_neg c, ho, if_pos rfl, z_costOn h hI hl n hf i (by omega), Option.bind_some, iI_long _ (by omega), iL_add, show (1 : Int32) = iI 1 from rfl, iI_add, show (e + 1 - i).toNat = (e + 1 - (i + 1)).toNat + 1 by omega, sumI, ih (w + costS u l i) (i + 1) (by omega) (by omega) (by omega), Int.add_assoc]
theorem z_costBetween (h : RepK B S L x0 ad rho xl M u sz) (hI : Inv u xl) {l : Nat} (hl : l < (vN u 23).toNat) (n : Nat) (hf : 2100 ≤ n) (a e : Int) (ha : 0 ≤ a ∧ a ≤ 999) (he : 0 ≤ e ∧ e ≤ 999) : f_X4_costBetween n M (some (ad (8000 + l))) (iI a) (iI e) = some (iL (sumI (costS u l) (e + 1 - a).toNat a)) := by
  have hq := h.loaQ hl (hI.hof l hl)
  obtain ⟨o1, o2, o3, o4⟩ := hI.loan l hl
  simp only [Int.toNat_natCast] at o1 o2 o3 o4
  have hlen : lenS u l = 2 * vR u 15 (vR u 25 l).toNat + vR u 27 l := by simp only [lenS, Int.toNat_natCast]
  unfold f_X4_costBetween
  rw [hq.is, if_pos rfl, hq.last, Option.bind_some, hq.start, Option.bind_some, it_lt _ _ (by omega), it_lt _ _ (by omega)]
  have e1 : (if vR u 26 l + lenS u l - 1 < e then iI (vR u 26 l + lenS u l - 1) else iI e) = iI (min e (vR u 26 l + lenS u l - 1)) := by
    split <;> congr 1 <;> omega
  have e2 : (if a < vR u 26 l then iI (vR u 26 l) else iI a) = iI (max a (vR u 26 l)) := by
    split <;> congr 1 <;> omega
  rw [e1, e2, show (0 : Int64) = iL 0 from rfl, z_between_L h hI hl n hf _ (by omega) n 0 _ (by omega) (by omega) (by omega), Int.zero_add, ← sumI_clip]
  intro k hk
  have : stageS u l k = 0 := by
    unfold stageS
    simp only [Int.toNat_natCast]
    (repeat' split) <;> first | rfl | (exfalso; omega)
  unfold costS
  rw [if_pos this]
end QD
