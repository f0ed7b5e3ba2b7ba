/-! A LOAN'S PARCELS AND COSTS -/
section QC
variable {B : Nat} {S : Nat → Nat} {L : Mem} {x0 : Nat} {ad rho : Nat → Nat} {xl : Nat → List Nat} {M : Mem} {u : MS} {sz : Nat}
theorem ParF.mem {xs : List Nat} {l p : Nat} (h : ParF u xs l p) (t : Nat) : t ∈ xs ↔ t < (vN u 5).toNat ∧ packP u l p t = true := by
  rw [h.mem_iff, List.mem_filter, List.mem_range]
theorem RepK.tho (h : RepK B S L x0 ad rho xl M u sz) {xs : List Nat} {l p : Nat} (hF : ParF u xs l p) : ThO ad M xs := fun t ht => by
  obtain ⟨⟨w, g1, -⟩, -⟩ := h.thi ((hF.mem t).mp ht).1
  exact ⟨_, g1.1⟩
theorem RepK.parO (h : RepK B S L x0 ad rho xl M u sz) {l p : Nat} (hl : l < (vN u 23).toNat) (hp : p < (vR u 29 l).toNat) : isO M (some (ad (9000 + l * 16 + p))) 8 = true := by
  obtain ⟨c, g1, -⟩ := (h.loa hl).2 p hp
  rw [show 9000 + l * 16 + p = 9000 + (l * 16 + p) by omega]
  exact isO_at g1.1
theorem z_parHolds (h : RepK B S L x0 ad rho xl M u sz) (hI : Inv u xl) {l p : Nat} (hl : l < (vN u 23).toNat) (hp : p < (vR u 29 l).toNat) (n : Nat) (hf : 60 ≤ n) (t : Int) (ht : -2147483648 ≤ t ∧ t < 2147483648) : f_X5_holds n M (some (ad (9000 + l * 16 + p))) (iI t) = some (iI (if (decide (0 ≤ t ∧ t < vN u 5) && packP u l p t) = true then 1 else 0)) := by
  have hF := hI.parf l p hl hp
  have h5 := hI.n5
  obtain ⟨c, g1, g2⟩ := (h.loa hl).2 p hp
  rw [show 9000 + l * 16 + p = 9000 + (l * 16 + p) by omega]
  rw [z_holds g1.1 rfl g2 (h.tho hF) (fun t ht => by have := ((hF.mem t).mp ht).1; omega) n hf t ht]
  have e : (xl (9000 + (l * 16 + p))).any (fun x => decide ((x : Int) = t)) = (decide (0 ≤ t ∧ t < vN u 5) && packP u l p t) := by
    rw [Bool.eq_iff_iff, List.any_eq_true]
    constructor
    · rintro ⟨x, hx, he⟩
      have he := of_decide_eq_true he
      have hm := (hF.mem x).mp hx
      rw [he] at hm
      rw [Bool.and_eq_true, decide_eq_true_eq]
      exact ⟨by omega, hm.2⟩
    · intro hb
      rw [Bool.and_eq_true, decide_eq_true_eq] at hb
      refine ⟨t.toNat, (hF.mem _).mpr ⟨by omega, ?_⟩, decide_eq_true (by omega)⟩
      rw [show ((t.toNat : Nat) : Int) = t by omega]
      exact hb.2
  rw [e]
theorem fstI_uniq (g : Int → Bool) (q : Int) (c : Nat) (i : Int) (h1 : i ≤ q ∧ q < i + c) (h2 : ∀ p, i ≤ p → p < i + c → (g p = true ↔ p = q)) : fstI g c i = q := by
  induction c generalizing i with
  | zero => omega
  | succ c ih =>
    unfold fstI
    by_cases e : g i = true
    · rw [if_pos e]
      exact (h2 i (by omega) (by omega)).mp e
    · rw [if_neg e]
      have : i ≠ q := fun x => e ((h2 i (by omega) (by omega)).mpr x)
      exact ih (i + 1) (by omega) (fun p a b => h2 p (by omega) (by omega))
theorem fstI_none (g : Int → Bool) (c : Nat) (i : Int) (h2 : ∀ p, i ≤ p → p < i + c → g p = false) : fstI g c i = -1 := by
  induction c generalizing i with
  | zero => rfl
  | succ c ih =>
    unfold fstI
    rw [h2 i (by omega) (by omega), if_neg (by decide)]
    exact ih (i + 1) (fun p a b => h2 p (by omega) (by omega))
theorem z_parcelOf (h : RepK B S L x0 ad rho xl M u sz) (hI : Inv u xl) {l : Nat} (hl : l < (vN u 23).toNat) (n : Nat) (hf : 60 ≤ n) (t : Int) (ht : -2147483648 ≤ t ∧ t < 2147483648) : f_X4_parcelWith n M (some (ad (8000 + l))) (iI t) = some (iI (if (0 ≤ t ∧ t < vN u 5) ∧ hadS u l t = true then vR u 30 (l * 16 + t.toNat) else -1)) := by
  have hp := hI.par l hl
  have h5 := hI.n5
  obtain ⟨⟨q, g1, g2⟩, g3⟩ := h.loa hl
  rw [z_parcelWith g1.1 rfl hp.1 g2 n hf (iI t) (fun p => decide (0 ≤ t ∧ t < vN u 5) && packP u l p t) (fun p hpp => ⟨h.parO hl hpp, z_parHolds h hI hl hpp n hf t ht⟩)]
  have e1 : (((l : Nat) : Int) * 16 + t).toNat = l * 16 + t.toNat ∨ t < 0 := by omega
  by_cases c : (0 ≤ t ∧ t < vN u 5) ∧ hadS u l t = true
  · have hk := (hI.loak l hl).2.2.2.2.1 t.toNat (by omega) (by rw [show ((t.toNat : Nat) : Int) = t by omega]; exact c.2)
    rw [if_pos c, fstI_uniq _ (vR u 30 (l * 16 + t.toNat)) _ _ (by omega) (fun p _ _ => ?_)]
    unfold packP
    rw [c.2, decide_eq_true c.1, show (((l : Nat) : Int) * 16 + t).toNat = l * 16 + t.toNat by omega]
    simp only [Bool.true_and, decide_eq_true_eq]
    omega
  · rw [if_neg c, fstI_none _ _ _ (fun p _ _ => ?_)]
    unfold packP
    by_cases c1 : 0 ≤ t ∧ t < vN u 5
    · have c2 : hadS u l t = false := by
        cases hh : hadS u l t with
        | false => rfl
        | true => exact absurd ⟨c1, hh⟩ c
      rw [c2]
      simp
    · rw [decide_eq_false c1]
      rfl
/-- what a loan costs, parcel by parcel and thing by thing -/
theorem costS_par (u : MS) (l : Nat) (d s T : Int) (P : Nat) (w : Int → Int) (hP : ∀ t : Int, 0 ≤ t → t < T → hadS u l t = true → 0 ≤ vR u 30 ((l : Int) * 16 + t).toNat ∧ vR u 30 ((l : Int) * 16 + t).toNat < P) (hw : ∀ p : Int, w p = (if s = 2 then 1 else if vR u (if s = 1 then 31 else 32) ((l : Int) * 16 + p).toNat < 0 then 3 else 2)) :
    sumI (fun p => sumI (fun t => if packP u l p t = true then valS u t d * (10 + harmsS u t d) else 0) T.toNat 0 * w p) P 0 * vR u 18 (vR u 25 l).toNat = sumI (perS u l d s) T.toNat 0 := by
  have e1 : sumI (fun p => sumI (fun t => if packP u l p t = true then valS u t d * (10 + harmsS u t d) else 0) T.toNat 0 * w p) P 0 = sumI (fun p => sumI (fun t => if packP u l p t = true then valS u t d * (10 + harmsS u t d) * w p else 0) T.toNat 0) P 0 := by
    apply sumI_congr
    intro p _ _
    rw [← sumI_mul]
    apply sumI_congr
    intro t _ _
    split
    · rfl
    · exact Int.zero_mul _
  rw [e1, sumI_swap, ← sumI_mul]
  apply sumI_congr
  intro t t0 t1
  unfold perS
  by_cases c : hadS u l t = true
  · have hp := hP t t0 (by omega) c
    have e2 : sumI (fun p => if packP u l p t = true then valS u t d * (10 + harmsS u t d) * w p else 0) P 0 = valS u t d * (10 + harmsS u t d) * w (vR u 30 ((l : Int) * 16 + t).toNat) := by
      rw [← (show (if (0 : Int) ≤ vR u 30 ((l : Int) * 16 + t).toNat ∧ vR u 30 ((l : Int) * 16 + t).toNat < 0 + (P : Int) then valS u t d * (10 + harmsS u t d) * w (vR u 30 ((l : Int) * 16 + t).toNat) else 0) = _ from if_pos (by omega)), ← sumI_one (fun p => valS u t d * (10 + harmsS u t d) * w p)]
      apply sumI_congr
      intro p _ _
      unfold packP
      rw [c]
      simp only [Bool.true_and, decide_eq_true_eq]
    rw [e2, if_pos c, hw, Int.toNat_natCast]
    simp only [Int.mul_assoc, Int.mul_comm, Int.mul_left_comm]
  · rw [if_neg c]
    have e2 : sumI (fun p => if packP u l p t = true then valS u t d * (10 + harmsS u t d) * w p else 0) P 0 = 0 := by
      refine (sumI_congr (g := fun _ => 0) (fun p _ _ => ?_)).trans (sumI_zero P 0)
      unfold packP
      rw [if_neg (by simp [c])]
    rw [e2, Int.zero_mul]
theorem z_costOn (h : RepK B S L x0 ad rho xl M u sz) (hI : Inv u xl) {l : Nat} (hl : l < (vN u 23).toNat) (n : Nat) (hf : 2100 ≤ n) (d : Int) (hd : -2147483648 ≤ d ∧ d < 2147483648) : f_X4_costOn n M (some (ad (8000 + l))) (iI d) = some (iI (costS u l d)) := by
  have hq := h.loaQ hl (hI.hof l hl)
  have ho := hI.loan l hl
  have hst := stageS_rng u l d
  have hpp := hI.par l hl
  have h5 := hI.n5
  have hk := hI.loak l hl
  obtain ⟨⟨q, g1, g2⟩, g3⟩ := h.loa hl
  obtain ⟨w, g4, -⟩ := h.hou (i := (vR u 25 l).toNat) (by have := hI.hof l hl; omega)
  unfold f_X4_costOn
  rw [isO_at g1.1, if_pos rfl, hq.stageOn ho d hd, Option.bind_some, iI_zero, it_eq _ _ (by omega)]
  unfold costS
  by_cases c : stageS u l d = 0
  · rw [if_pos c, if_pos c]
  · rw [if_neg c, if_neg c]
    have hlen := g2.len
    rw [seqA_len] at hlen
    have hrt : ([Value.int (u.2 15 (vR u 25 l).toNat), Value.int (u.2 16 (vR u 25 l).toNat), Value.int (u.2 17 (vR u 25 l).toNat), Value.int (u.2 18 (vR u 25 l).toNat), Value.ref w] : List Value)[3]? = some (.int (iI (vR u 18 (vR u 25 l).toNat))) := by rw [← u2_iI]; rfl
    have := z_cost_L g1.1 rfl hpp.1 g2 rfl g4.1 hrt n (iI d) (iI (stageS u l d)) (fun p => sumI (fun t => if packP u l p t = true then valS u t d * (10 + harmsS u t d) else 0) (vN u 5).toNat 0) (fun p => if stageS u l d = 2 then 1 else if vR u (if stageS u l d = 1 then 31 else 32) ((l : Int) * 16 + p).toNat < 0 then 3 else 2) (fun p hp => ?_) n 0 0 (by omega) hpp.1 (by omega)
    · rw [this, Int.zero_add, Int.sub_zero, costS_par u l d (stageS u l d) (vN u 5) _ _ (fun t t0 t1 ht => ?_) (fun p => rfl)]
      have := hk.2.2.2.2.1 t.toNat (by omega) (by rw [show ((t.toNat : Nat) : Int) = t by omega]; exact ht)
      rw [show ((l : Int) * 16 + t).toNat = l * 16 + t.toNat by omega]
      omega
    · have hF := hI.parf l p hl hp
      obtain ⟨cc, k1, k2⟩ := g3 p hp
      have hg := hk.2.2.2.2.2 p hp
      have e9 : 9000 + l * 16 + p = 9000 + (l * 16 + p) := by omega
      refine ⟨h.parO hl hp, ?_, ?_⟩
      · rw [e9, z_risk k1.1 rfl k2 (h.tho hF) n (by omega) (iI d) (fun t => valS u t d) (fun t => harmsS u t d) (fun t ht => ?_), sumN_perm _ hF, sumN_sel]
        · congr 2
          apply sumI_congr
          intro t t0 t1
          rw [show ((t.toNat : Nat) : Int) = t by omega]
        · have hti := ((hF.mem t).mp ht).1
          exact ⟨z_valueOn (h.thi hti) (hI.app t hti) (fun j hj => (hI.apday j hj).1) n (by omega) d hd, z_harmsOn h hI hti n (by omega) d hd⟩
      · rw [e9, z_danger k1.1 (stageS u l d) (by omega)]
        congr 2
        have e0 : ((l : Int) * 16 + (p : Int)).toNat = l * 16 + p := by omega
        simp only [e0]
        by_cases s2 : stageS u l d = 2
        · rw [if_pos s2, if_pos s2]
        · rw [if_neg s2, if_neg s2]
          by_cases s1 : stageS u l d = 1
          · simp only [if_pos s1]
            show (if vR u 31 (l * 16 + p) = -1 then (3 : Int) else 2) = _
            (repeat' split) <;> first | rfl | omega
          · simp only [if_neg s1]
            show (if vR u 32 (l * 16 + p) = -1 then (3 : Int) else 2) = _
            (repeat' split) <;> first | rfl | omega
end QC
