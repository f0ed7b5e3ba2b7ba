/-! LOAN: the joint state before couriers are looked for -/
theorem riS_prs (m : Int) : ∀ (l : List Int) (a : Int), riS m a l = true → (∀ x, x ∈ l → a < x ∧ x < m) ∧ l.Pairwise (fun x y => x < y) ∧ (l.length : Int) ≤ max 0 (m - 1 - a) := by
  intro l
  induction l with
  | nil => exact fun a _ => ⟨fun x hx => by simp at hx, List.Pairwise.nil, by simp; omega⟩
  | cons y l ih =>
    intro a h
    unfold riS at h
    rw [Bool.and_eq_true, decide_eq_true_eq] at h
    obtain ⟨h1, h2, h3⟩ := ih y h.2
    refine ⟨fun x hx => ?_, List.pairwise_cons.mpr ⟨fun x hx => (h1 x hx).1, h2⟩, ?_⟩
    · rcases List.mem_cons.mp hx with e | e
      · rw [e]
        exact h.1
      · have := h1 x e
        omega
    · rw [List.length_cons]
      push_cast
      omega
theorem fpL_congr {u v : MS} {lim : Int} {ct : Nat → List Nat} {m : Nat} (h : ∀ xs, fitL u lim xs m = fitL v lim xs m) : ∀ c p, fpL u lim ct m c p = fpL v lim ct m c p := by
  intro c
  induction c with
  | zero => exact fun p => rfl
  | succ c ih =>
    intro p
    unfold fpL
    rw [h, ih]
theorem pkL_congr {u v : MS} {lim : Int} (h : ∀ xs m, fitL u lim xs m = fitL v lim xs m) : ∀ (l : List Nat) (ct : Nat → List Nat) (P : Nat), pkL u lim l ct P = pkL v lim l ct P := by
  intro l
  induction l with
  | nil => exact fun ct P => rfl
  | cons m l ih =>
    intro ct P
    unfold pkL
    rw [fpL_congr (fun xs => h xs m), ih]
def setU (u : MS) (l : Nat) (hh A D b : Int32) : MS := uA (uA (uA (uA (uA u 24 l (1 : Int32)) 25 l hh) 26 l A) 27 l D) 28 l b
theorem setU_2 (u : MS) (l : Nat) (hh A D b : Int32) (k i : Nat) : (setU u l hh A D b).2 k i = if k = 28 ∧ i = l then b else if k = 27 ∧ i = l then D else if k = 26 ∧ i = l then A else if k = 25 ∧ i = l then hh else if k = 24 ∧ i = l then 1 else u.2 k i := by
  unfold setU
  simp only [uA2]
theorem setU_o (u : MS) (l : Nat) (hh A D b : Int32) {k i : Nat} (h : ¬ (24 ≤ k ∧ k ≤ 28 ∧ i = l)) : (setU u l hh A D b).2 k i = u.2 k i := by
  rw [setU_2, if_neg (by omega), if_neg (by omega), if_neg (by omega), if_neg (by omega), if_neg (by omega)]
theorem setU_row (u : MS) (l : Nat) (hh A D b : Int32) {k : Nat} (h : k < 24 ∨ 28 < k) : (setU u l hh A D b).2 k = u.2 k := funext fun i => setU_o u l hh A D b (by omega)
theorem fitL_row {u v : MS} (h6 : v.2 6 = u.2 6) (h8 : v.2 8 = u.2 8) (h9 : v.2 9 = u.2 9) (lim : Int) (xs : List Nat) (m : Nat) : fitL v lim xs m = fitL u lim xs m := by
  unfold fitL togS vR
  rw [h6, h8, h9]
section STA
variable {B : Nat} {S : Nat → Nat} {L : Mem} {x0 : Nat} {ad rho rh pa : Nat → Nat} {xl : Nat → List Nat} {MK M1 M : Mem} {uS u0 u1 u : MS} {sz zz l P a0 hh cnt : Nat} {ct : Nat → List Nat}
theorem busyP_no (h29 : vR u 29 l = P) (h3 : ∀ p, p < P → vR u 31 (l * 16 + p) = -1 ∧ vR u 32 (l * 16 + p) = -1) (c d : Int) (hc : 0 ≤ c) : busyP u c d l = false := by
  have : anyI (parP u c (stageS u l d) l) (vR u 29 (l : Int).toNat).toNat 0 = false := anyI_false (fun p p1 p2 => by
    rw [Int.toNat_natCast, h29] at p2
    have := h3 p.toNat (by omega)
    unfold parP
    rw [show ((l : Int) * 16 + p).toNat = l * 16 + p.toNat by omega]
    refine decide_eq_false ?_
    split <;> omega)
  unfold busyP
  rw [this, Bool.and_false, Bool.and_false]
theorem loaD_no (h29 : vR u 29 l = P) (h3 : ∀ p, p < P → vR u 31 (l * 16 + p) = -1 ∧ vR u 32 (l * 16 + p) = -1) (c : Int) (hc : 0 ≤ c) : loaD u c l = 0 := by
  unfold loaD
  rw [Int.toNat_natCast, h29]
  split
  · rfl
  · refine sumI_null (fun p p1 p2 => ?_)
    have := h3 p.toNat (by omega)
    unfold parD
    rw [show ((l : Int) * 16 + p).toNat = l * 16 + p.toNat by omega, if_neg (by omega), if_neg (by omega)]
    rfl
theorem GS.start (K : RepK B S L x0 ad rho xl MK uS sz) (hI : Inv uS xl) (frK : ∀ y, y ≠ x0 → MK y = M1 y) {v : Int32} (hbk : M1 x0 = some (.inl (14, booF ad (iI (stdS uS)) (uS.1 33) (uS.1 10) v (uS.1 2)))) (h23 : vN uS 23 = (l : Int)) {A D : Int} {b : Int32} (hhh : hh < (vN uS 14).toNat) (hA : 0 ≤ A ∧ A ≤ 999) (hD : 1 ≤ D ∧ D ≤ 300) (hend : A + (2 * vR uS 15 hh + D) ≤ 1000) (own : OwnD rh sz zz P) (hR : RefP (setU uS l (iI hh) (iI A) (iI D) b) u1 l ct P) (hC : CtOK uS (vN uS 5).toNat ct P cnt) (hcnt : cnt ≤ 16) (hhad : ∀ p x, x ∈ ct p → hadS (setU uS l (iI hh) (iI A) (iI D) b) l x = true) (d : DraC S ad M1 rh uS a0 (ad (5000 + hh)) (iI A) 1 (iI D) pa ct P) : Fix B S L x0 ad rho xl MK M1 uS u1 sz zz rh ct l P ∧ GS S ad rho M1 u1 rh a0 pa ct l P u1 M1 := by
  have n5 := hI.n5
  have n14 := hI.n14
  have n19 := hI.n19
  have n23 := hI.n23
  have hk := hI.houk hh hhh
  have e1 : u1.1 = uS.1 := hR.1
  have hv : ∀ k, vN u1 k = vN uS k := fun k => by
    unfold vN
    rw [e1]
  have er : ∀ k i, ¬ (24 ≤ k ∧ k ≤ 29 ∧ i = l) → ¬ (30 ≤ k ∧ k ≤ 32 ∧ l * 16 ≤ i ∧ i < l * 16 + 16) → u1.2 k i = uS.2 k i := fun k i k1 k2 => by
    rw [hR.2.1 k i (by omega) (by omega), setU_o _ _ _ _ _ _ (by omega)]
  have erow : ∀ k, (k < 24 ∨ 32 < k) → u1.2 k = uS.2 k := fun k hk => funext fun i => er k i (by omega) (by omega)
  have hs : Same uS u1 := by
    refine ⟨⟨by rw [e1], erow 11 (by omega), erow 12 (by omega), erow 13 (by omega)⟩, fun i _ k k1 k2 => by rw [erow k (by omega)], fun i _ k k1 k2 => by rw [erow k (by omega)], fun i _ => ⟨by rw [erow 20 (by omega)], fun j _ => ⟨by rw [erow 21 (by omega)], by rw [erow 22 (by omega)]⟩⟩, fun q hq => ⟨fun k k1 k2 => er k q (by omega) (by omega), fun p hp k k1 k2 => er k _ (by omega) (by omega)⟩, fun r _ => ⟨fun k k1 k2 => by rw [erow k (by omega)], fun j _ k k1 k2 => by rw [erow k (by omega)]⟩⟩
  have s24 : u1.2 24 l = 1 := by
    rw [hR.row (by omega), setU_2, if_neg (by omega), if_neg (by omega), if_neg (by omega), if_neg (by omega), if_pos ⟨rfl, rfl⟩]
  have s25 : u1.2 25 l = iI hh := by
    rw [hR.row (by omega), setU_2, if_neg (by omega), if_neg (by omega), if_neg (by omega), if_pos ⟨rfl, rfl⟩]
  have s26 : u1.2 26 l = iI A := by
    rw [hR.row (by omega), setU_2, if_neg (by omega), if_neg (by omega), if_pos ⟨rfl, rfl⟩]
  have s27 : u1.2 27 l = iI D := by
    rw [hR.row (by omega), setU_2, if_neg (by omega), if_pos ⟨rfl, rfl⟩]
  have v24 : vR u1 24 l = 1 := vR_eq s24 (by omega)
  have v25 : vR u1 25 l = hh := vR_eq s25 (by omega)
  have v26 : vR u1 26 l = A := vR_eq s26 (by omega)
  have v27 : vR u1 27 l = D := vR_eq s27 (by omega)
  have v15 : vR u1 15 hh = vR uS 15 hh := by
    unfold vR
    rw [erow 15 (by omega)]
  have hlen : lenS u1 l = 2 * vR uS 15 hh + D := by
    unfold lenS
    rw [Int.toNat_natCast, v25, Int.toNat_natCast, v15, v27]
  have hk1 := hk.1
  have hLo : LoanOK u1 l := by
    unfold LoanOK
    rw [Int.toNat_natCast, v25, Int.toNat_natCast, v15, v26, v27]
    omega
  have hc5 : vN (setU uS l (iI hh) (iI A) (iI D) b) 5 = vN uS 5 := rfl
  have hC0 : CtOK (setU uS l (iI hh) (iI A) (iI D) b) (vN (setU uS l (iI hh) (iI A) (iI D) b) 5).toNat ct P cnt := by
    unfold CtOK vR at hC ⊢
    rw [setU_row uS l (iI hh) (iI A) (iI D) b (show 8 < 24 ∨ 28 < 8 by omega), hc5]
    exact hC
  have h6 := hR.2.2.2.2.2
  have h29 := hR.2.2.1
  have hbz := fun (c : Nat) (d : Int) => busyP_no (u := u1) (l := l) h29 h6 c d (by omega)
  have hlz := fun (c : Nat) => loaD_no (u := u1) (l := l) h29 h6 c (by omega)
  have hP := hC.2.2
  refine ⟨⟨⟨K, hI⟩, ⟨hs, e1, hI.sm0 hs e1⟩, ⟨h23, by omega⟩, own, ⟨hLo, by omega, by omega⟩, ⟨h29, by omega⟩, fun p => hR.parf (by rw [hc5]; exact n5) hC0 hhad p, by omega, frK, ⟨v, hbk⟩, erow 0 (by omega)⟩, ⟨rfl, fun _ _ _ _ => rfl⟩, fun _ _ _ => rfl, ?_, fun c hc => ?_, ⟨fun c dd l2 _ _ _ hq => ?_, fun c dd _ hq => ?_, fun c hc => ?_⟩, fun p hp => ?_⟩
  · obtain ⟨⟨q, d1, d2⟩, d3⟩ := d
    have e8 : (fun t => vR u1 8 t) = fun t => vR uS 8 t := funext fun t => by
      unfold vR
      rw [erow 8 (by omega)]
    refine ⟨⟨q, ?_, d2⟩, fun p hp => ?_⟩
    · rw [v25, Int.toNat_natCast, s24, s26, s27]
      exact d1
    · obtain ⟨c, c1, c2⟩ := d3 p hp
      rw [e8, u2_iI u1 31, u2_iI u1 32, (h6 p hp).1, (h6 p hp).2]
      exact ⟨c, c1, c2⟩
  · rw [hv] at hc
    have hcal := K.cou hc
    obtain ⟨-, hcal⟩ := hcal
    rw [h23] at hcal
    have hcal := hcal.fr (M1 := M1) (rho1 := rho) (fun y hy => ⟨(frK y (fun e => by
      have := K.2.1.1.2
      rw [e, this] at hy
      omega)).symm, hy⟩)
    refine hcal.congr (fun dd => ?_) ?_
    · have hb := hs.bsyS hI c dd
      rw [h23] at hb
      have hr := fstI_rng (busyP uS c dd) (l : Int).toNat 0 (by omega)
      have e : busyS uS c dd l = fstI (busyP uS c dd) (l : Int).toNat 0 := rfl
      have eb : busyS u1 c dd ((l : Int) + 1) = busyS uS c dd l := by
        rw [busyS_s, hbz, hb]
        by_cases z : 0 ≤ busyS uS c dd l
        · rw [if_pos z]
        · rw [if_neg z, if_neg (by decide)]
          omega
      unfold calS
      rw [eb, hs.may hI hc]
    · have ht := hs.taken hI c
      rw [h23] at ht
      rw [takenS_s, hlz, ht, Int.add_zero]
  · rw [hbz] at hq
    cases hq
  · rw [hbz] at hq
    cases hq
  · rw [hlz]
    exact (sumI_null (fun dd _ _ => by rw [hbz]; rfl)).symm
  · have := h6 p hp
    rw [hv]
    omega
end STA
