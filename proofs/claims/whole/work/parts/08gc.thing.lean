/-! THING: one more -/
section THA
variable {B : Nat} {S : Nat → Nat} {L : Mem} {x0 : Nat} {ad rho : Nat → Nat} {xl : Nat → List Nat} {M M1 : Mem} {u u1 : MS} {sz : Nat}
theorem filt_none {p : Nat → Bool} {n : Nat} (h : ∀ j, j < n → p j = false) : (List.range n).filter p = [] := by
  rw [List.filter_eq_nil_iff]
  intro a ha
  rw [h a (List.mem_range.mp ha)]
  decide
theorem RepK.empS (hL : LOK B L) (hE : EmpOK S L) (h : RepK B S L x0 ad rho xl M u sz) (fr : ∀ y, y < sz → M1 y = M y) : EmpOK S M1 ∧ S 20 < B := by
  have := h.xlt
  obtain ⟨q, hq⟩ := hE
  have hlt : S 20 < B := by
    rcases Nat.lt_or_ge (S 20) B with q1 | q1
    · exact q1
    · rw [hL _ q1] at hq
      cases hq
  exact ⟨⟨q, by rw [fr _ (by omega)]; exact h.1.1 _ _ hq⟩, hlt⟩
theorem RepK.con (hL : LOK B L) (h : RepK B S L x0 ad rho xl M u sz) (fr : ∀ y, y < sz → rho y = 0 → M1 y = M y) : ∀ y e, L y = some e → M1 y = some e := fun y e hy => by
  have := h.xlt
  have hyB : y < B := by
    rcases Nat.lt_or_ge y B with q1 | q1
    · exact q1
    · rw [hL _ q1] at hy
      cases hy
  rw [fr y (by omega) (h.no0 (Or.inl hyB))]
  exact h.1.1 y e hy
theorem LisR.own {id a : Nat} {l : List Nat} (h : LisR S M rho id a l) : rho a = id := by
  obtain ⟨mc, e, cap, g, h1, -⟩ := h
  exact h1.2
def adT (ad : Nat → Nat) (i sz : Nat) : Nat → Nat := fun id => if id = 1000 + i then sz else if id = 2000 + i then sz + 1 else if id = 3000 + i then sz + 3 else if id = 4000 + i then sz + 6 else ad id
def rhoT (rho : Nat → Nat) (i sz sz1 sz2 : Nat) : Nat → Nat := fun y => if y < sz then rho y else if y = sz then 1000 + i else if y ≤ sz + 2 then 2000 + i else if y ≤ sz + 5 then 3000 + i else if y = sz + 6 then 4000 + i else if y < sz1 then 1000 + i else if y < sz2 then 4 else 0
def xlT (xl : Nat → List Nat) (i : Nat) : Nat → List Nat := fun id => if id = 3000 + i ∨ id = 4000 + i then [] else xl id
def ZT (i id : Nat) : Prop := id = 1000 + i ∨ id = 2000 + i ∨ id = 3000 + i ∨ id = 4000 + i
theorem ZT_out {i id : Nat} (hi : i < 16) (h : id < 1000 ∨ 5000 ≤ id) : ¬ ZT i id := by
  unfold ZT
  omega
theorem ZT_lt {i q : Nat} (hi : i < 16) (hq : q < i) : ¬ ZT i (1000 + q) ∧ ¬ ZT i (2000 + q) ∧ ¬ ZT i (3000 + q) ∧ ¬ ZT i (4000 + q) := by
  unfold ZT
  refine ⟨?_, ?_, ?_, ?_⟩ <;> omega
theorem adT_old (ad : Nat → Nat) {i sz id : Nat} (h : ¬ ZT i id) : adT ad i sz id = ad id := by
  unfold ZT at h
  unfold adT
  rw [if_neg (by omega), if_neg (by omega), if_neg (by omega), if_neg (by omega)]
theorem adT_new (ad : Nat → Nat) (i sz : Nat) (hi : i < 16) : adT ad i sz (1000 + i) = sz ∧ adT ad i sz (2000 + i) = sz + 1 ∧ adT ad i sz (3000 + i) = sz + 3 ∧ adT ad i sz (4000 + i) = sz + 6 := by
  unfold adT
  refine ⟨if_pos rfl, ?_, ?_, ?_⟩
  · rw [if_neg (by omega), if_pos rfl]
  · rw [if_neg (by omega), if_neg (by omega), if_pos rfl]
  · rw [if_neg (by omega), if_neg (by omega), if_neg (by omega), if_pos rfl]
theorem xlT_old (xl : Nat → List Nat) {i id : Nat} (h : ¬ ZT i id) : xlT xl i id = xl id := by
  unfold ZT at h
  unfold xlT
  rw [if_neg (by omega)]
theorem xlT_new (xl : Nat → List Nat) (i : Nat) : xlT xl i (3000 + i) = [] ∧ xlT xl i (4000 + i) = [] := by
  unfold xlT
  exact ⟨if_pos (Or.inl rfl), if_pos (Or.inr rfl)⟩
theorem rhoT_old (rho : Nat → Nat) {i sz sz1 sz2 y : Nat} (hy : y < sz) : rhoT rho i sz sz1 sz2 y = rho y := by
  unfold rhoT
  rw [if_pos hy]
theorem rhoT_new (rho : Nat → Nat) {i sz wt sz2 : Nat} (hlt : sz + 7 ≤ wt) : rhoT rho i sz (wt + 2) sz2 sz = 1000 + i ∧ rhoT rho i sz (wt + 2) sz2 (sz + 1) = 2000 + i ∧ rhoT rho i sz (wt + 2) sz2 (sz + 2) = 2000 + i ∧ rhoT rho i sz (wt + 2) sz2 (sz + 3) = 3000 + i ∧ rhoT rho i sz (wt + 2) sz2 (sz + 4) = 3000 + i ∧ rhoT rho i sz (wt + 2) sz2 (sz + 5) = 3000 + i ∧ rhoT rho i sz (wt + 2) sz2 (sz + 6) = 4000 + i ∧ rhoT rho i sz (wt + 2) sz2 wt = 1000 + i ∧ rhoT rho i sz (wt + 2) sz2 (wt + 1) = 1000 + i := by
  unfold rhoT
  refine ⟨?_, ?_, ?_, ?_, ?_, ?_, ?_, ?_, ?_⟩ <;> (repeat' split) <;> omega
theorem rhoT_lt (rho : Nat → Nat) {i sz wt sz2 y : Nat} (hlt : sz + 7 ≤ wt) (h2 : wt + 2 ≤ sz2) (hy : rhoT rho i sz (wt + 2) sz2 y ≠ 0) : y < sz2 := by
  rcases Nat.lt_or_ge y sz2 with q | q
  · exact q
  · exfalso
    apply hy
    unfold rhoT
    (repeat' split) <;> omega
theorem rhoT_lis (rho : Nat → Nat) {i sz wt sz2 : Nat} (hlt : sz + 7 ≤ wt) (h2 : wt + 2 < sz2) : rhoT rho i sz (wt + 2) sz2 (wt + 2) = 4 := by
  unfold rhoT
  (repeat' split) <;> omega
set_option maxHeartbeats 4000000 in
theorem RepK.addThi (hL : LOK B L) (hE : EmpOK S L) (h : RepK B S L x0 ad rho xl M u sz) (hI : Inv u xl) {wt : Nat} {a b c : Int} {d : Int32} (hlt : sz + 7 ≤ wt) (fr : ∀ y, y < sz → M1 y = M y)
    (hc : M1 sz = some (.inl (13, [.int (iI (vN u 5)), .int (iI a), .int (iI c), .ref wt, .ref (sz + 1), .ref (sz + 3), .int (iI b), .int d, .ref (sz + 6)])))
    (ht : ∀ (rho1 : Nat → Nat) (id : Nat), rho1 wt = id → rho1 (wt + 1) = id → TxtR M1 rho1 id wt (kindT a ++ ([32] ++ (numL b ++ ([32] ++ (numL c ++ barT d 5 0))))))
    (hcal : ∃ g1 : Nat → Int32, M1 (sz + 1) = some (.inl (4, [.ref (sz + 2), .int 0])) ∧ M1 (sz + 2) = some (.inr (.inl (0, 1000, g1))) ∧ ∀ k, k < 1000 → g1 k = -1)
    (happ : ∃ f1 f2 : Nat → Int32, M1 (sz + 3) = some (.inl (3, [.ref (sz + 4), .ref (sz + 5), .int 0])) ∧ M1 (sz + 4) = some (.inr (.inl (0, 48, f1))) ∧ M1 (sz + 5) = some (.inr (.inl (0, 48, f2))))
    (hlis : M1 (sz + 6) = some (.inl (2, [.int 0, .ref (S 20), .int 0]))) (ha : 0 ≤ a ∧ a ≤ 4) (hb : 1 ≤ b ∧ b ≤ 9999) (hcr : 1 ≤ c ∧ c ≤ 999) (h5 : vN u 5 < 16) : ∃ (M2 : Mem) (sz2 : Nat) (ad1 rho1 : Nat → Nat) (xl1 : Nat → List Nat), f_Jx4a65c_add_9ea2d B S M1 (wt + 2) (some (ad 4)) (some sz) = some (1, M2, sz2) ∧ RepK B S L x0 ad1 rho1 xl1 M2 (thiU u (vN u 5).toNat a b c d) sz2 ∧ Inv (thiU u (vN u 5).toNat a b c d) xl1 := by
  have n14 := hI.n14
  have n5 := hI.n5
  have n19 := hI.n19
  have n23 := hI.n23
  have n33 := hI.n33
  have n10 := hI.n10
  have hx := h.xlt
  have hl4 := h.rows.1
  have ow : ∀ y, rho y ≠ 0 → B ≤ y ∧ y < sz := h.1.2
  have hES := h.empS hL hE fr
  have ra : rho (ad 4) = 4 := hl4.own
  obtain ⟨M2, sz2, e1, e2, e3, e4⟩ := LisR.add (B := B) (sz := wt + 2) (x := sz) (hl4.fr (M1 := M1) (rho1 := rho) (fun y hy => ⟨fr y (ow y (by omega)).2, hy⟩)) hES.1 hES.2 (by omega) (fun y hy => by have := ow y (by omega); omega) (by rw [seqA_len]; omega) (fun y hy => by
    simp only [seqA, List.mem_map, List.mem_range] at hy
    obtain ⟨i, hi, rfl⟩ := hy
    obtain ⟨w, g1, -⟩ := (h.thi hi).1
    have g2 := ow (ad (1000 + i)) (by rw [g1.2]; omega)
    refine ⟨isE_at (by rw [fr _ g2.2]; exact g1.1) (by omega), fun e => ?_, by omega⟩
    have := g1.2
    rw [e, ra] at this
    omega) ⟨isE_at hc (by omega), fun e => by have := ow (ad 4) (by omega); omega, by omega⟩
  have hr0 : ∀ y, sz ≤ y → rho y = 0 := fun y hy => h.no0 (Or.inr hy)
  have fr2 : ∀ y, y < sz → rho y ≠ 4 → M2 y = M y := fun y hy h5 => (e3 y h5 (by omega)).trans (fr y hy)
  have hnew : ∀ y, sz ≤ y → y < wt + 2 → M2 y = M1 y := fun y y1 y2 => e3 y (by rw [hr0 y y1]; omega) y2
  generalize hi5 : (vN u 5).toNat = i at *
  have hi16 : i < 16 := by omega
  have zo : ∀ id, id < 1000 ∨ 5000 ≤ id → ¬ ZT i id := fun id => ZT_out hi16
  have kp : ∀ id, id ≠ 0 → id ≠ 4 → Kept M rho id M2 (rhoT rho i sz (wt + 2) sz2) := fun id i0 i4 y hy => by
    have := ow y (by omega)
    exact ⟨fr2 y this.2 (by omega), by rw [rhoT_old rho this.2]; exact hy⟩
  have hs : Same u (thiU u i a b c d) := by
    refine ⟨⟨thiU_n _ _ _ _ _ _ 10 (by decide), thiU_r _ _ _ _ _ _ 11 (by omega), thiU_r _ _ _ _ _ _ 12 (by omega), thiU_r _ _ _ _ _ _ 13 (by omega)⟩, fun q hq k k1 k2 => ?_, fun q hq k k1 k2 => ?_, fun c hc => ⟨?_, fun j hj => ⟨?_, ?_⟩⟩, fun l hl => ⟨fun k k1 k2 => ?_, fun p hp k k1 k2 => ?_⟩, fun r hr => ⟨fun k k1 k2 => ?_, fun j hj k k1 k2 => ?_⟩⟩
    · exact thiU_o _ _ _ _ _ _ k q (by omega)
    · rw [thiU_r _ _ _ _ _ _ k (by omega)]
    · rw [thiU_r _ _ _ _ _ _ 20 (by omega)]
    · rw [thiU_r _ _ _ _ _ _ 21 (by omega)]
    · rw [thiU_r _ _ _ _ _ _ 22 (by omega)]
    · rw [thiU_r _ _ _ _ _ _ k (by omega)]
    · rw [thiU_r _ _ _ _ _ _ k (by omega)]
    · rw [thiU_r _ _ _ _ _ _ k (by omega)]
    · rw [thiU_r _ _ _ _ _ _ k (by omega)]
  have vn : ∀ k, k ≠ 5 → vN (thiU u i a b c d) k = vN u k := fun k hk => by
    unfold vN
    rw [thiU_n _ _ _ _ _ _ k hk]
  have v5 : vN (thiU u i a b c d) 5 = vN u 5 + 1 := by
    show ((thiU u i a b c d).1 5).toInt = _
    rw [thiU_14, toInt_iI _ (by omega) (by omega)]
    omega
  obtain ⟨w6, w7, w8, w9⟩ := thiU_h u i a b c d
  have hin : (i : Int) = vN u 5 := by omega
  have hLs : ListsF (thiU u i a b c d) (xlT xl i) := by
    refine ⟨fun q hq => ?_, fun l hl p hp => ?_, fun r hr => ?_⟩
    · rw [v5] at hq
      by_cases e : q = i
      · subst e
        rw [(xlT_new xl q).1, (xlT_new xl q).2]
        constructor
        · unfold AppF
          rw [hs.ap, filt_none (fun j hj => by
            have := (hI.apt j hj).1
            unfold vR
            rw [hs.1.2.1]
            unfold vR at this
            exact decide_eq_false (by omega))]
          exact ⟨List.Perm.refl _, List.Pairwise.nil⟩
        · unfold RpsF
          rw [vn 33 (by decide), filt_none (fun j hj => by
            have := (hI.rptk j hj).2.2.1
            rw [hs.re hj 34 (by omega) (by omega)]
            exact decide_eq_false (by omega))]
          exact ⟨List.Perm.refl _, List.Pairwise.nil⟩
      · have hqi : q < i := by omega
        rw [xlT_old xl (ZT_lt hi16 hqi).2.2.1, xlT_old xl (ZT_lt hi16 hqi).2.2.2]
        exact ⟨(hI.app q (by omega)).sm hs, (hI.rps q (by omega)).sm hs (vn 33 (by decide))⟩
    · rw [vn 23 (by decide)] at hl
      rw [hs.lo hl 29 (by omega) (by omega)] at hp
      rw [xlT_old xl (zo _ (by omega))]
      exact (hI.parf l p hl hp).sm hs hI (by omega) hl
    · rw [vn 33 (by decide)] at hr
      rw [xlT_old xl (zo _ (by omega))]
      exact (hI.harf r hr).sm hs hI hr
  have hIn : Inv (thiU u i a b c d) (xlT xl i) := by
    refine hI.sm hs ?_ (by omega) (by rw [vn 14 (by decide)]; omega) (by rw [vn 19 (by decide)]; omega) (vn 23 (by decide)) (fun q i1 i2 => ?_) (fun q i1 i2 => by rw [vn 14 (by decide)] at i2; omega) (fun q i1 i2 => by rw [vn 19 (by decide)] at i2; omega) (fun q i1 i2 => by rw [vn 33 (by decide)] at i2; omega) hLs
    · have := hI.num
      unfold NumOK at *
      rw [vn 1 (by decide), vn 14 (by decide), vn 10 (by decide), vn 19 (by decide), vn 23 (by decide), vn 33 (by decide), v5]
      omega
    · have ei : q = i := by omega
      subst ei
      unfold ThiOK vR
      rw [w6, w7, w8, toInt_iI a (by omega) (by omega), toInt_iI b (by omega) (by omega), toInt_iI c (by omega) (by omega)]
      omega
  have old := RepK.old (M1 := M2) (ad1 := adT ad i sz) (rho1 := rhoT rho i sz (wt + 2) sz2) (xl1 := xlT xl i) hs hI h (by omega) (vn 23 (by decide)) (ZT i) (fun id i1 i2 => ⟨kp id (by omega) (by omega), adT_old ad i2, xlT_old xl i2⟩) (fun q hq => adT_old ad (ZT_lt hi16 (by omega)).2.2.2) (fun q hq => by have := ZT_lt hi16 (show q < i by omega); exact ⟨this.1, this.2.1, this.2.2.1⟩) (fun q hq => zo _ (by omega)) (fun q hq => ⟨zo _ (by omega), zo _ (by omega)⟩) (fun l hl => ⟨zo _ (by omega), fun p hp => zo _ (by omega)⟩) (fun r hr => zo _ (by omega))
  refine ⟨M2, sz2, adT ad i sz, rhoT rho i sz (wt + 2) sz2, xlT xl i, e1, ⟨⟨h.con hL (fun y hy h0 => fr2 y hy (by omega)), fun y hy => ?_⟩, ⟨⟨?_, ?_⟩, ?_, ?_, ?_, ?_, ?_, ?_⟩, ?_, ?_, ?_, ?_, ?_⟩, hIn⟩
  · have hlt2 := rhoT_lt rho hlt (show wt + 2 ≤ sz2 by omega) hy
    by_cases q1 : y < sz
    · rw [rhoT_old rho q1] at hy
      exact ⟨(ow y hy).1, hlt2⟩
    · omega
  · rw [booF_congr (A := ad) (fun k k1 k2 => adT_old ad (zo k (by omega))), hs.std hI (vn 23 (by decide)), thiU_n _ _ _ _ _ _ 33 (by decide), thiU_n _ _ _ _ _ _ 10 (by decide), thiU_n _ _ _ _ _ _ 4 (by decide), thiU_n _ _ _ _ _ _ 2 (by decide)]
    exact (kp 1 (by decide) (by decide) x0 h.2.1.1.2).1.trans h.book
  · exact (kp 1 (by decide) (by decide) x0 h.2.1.1.2).2
  · exact h.2.1.2.1.sm (kp 2 (by decide) (by decide)) (adT_old ad (zo 2 (by omega))) (thiU_r _ _ _ _ _ _ 0 (by omega)) (thiU_n _ _ _ _ _ _ 1 (by decide))
  · exact h.2.1.2.2.1.sm (kp 3 (by decide) (by decide)) (adT_old ad (zo 3 (by omega))) (thiU_n _ _ _ _ _ _ 3 (by decide))
  · have := e4 (rhoT rho i sz (wt + 2) sz2) (fun y hy => by
      rw [rhoT_old rho (ow y (by omega)).2]
      exact hy) (fun hz => rhoT_lis rho hlt hz)
    rw [adT_old ad (zo 4 (by omega)), v5, seqA_succ n5.1 rfl, seqA_congr (ad := ad) (fun q hq => adT_old ad (ZT_lt hi16 (by omega)).1), hi5, (adT_new ad i sz hi16).1]
    exact this
  · rw [adT_old ad (zo 5 (by omega)), vn 14 (by decide), seqA_congr (ad := ad) (fun q hq => adT_old ad (zo _ (by omega)))]
    exact h.rows.2.1.fr (kp 5 (by decide) (by decide))
  · rw [adT_old ad (zo 6 (by omega)), vn 19 (by decide), seqA_congr (ad := ad) (fun q hq => adT_old ad (zo _ (by omega)))]
    exact h.rows.2.2.1.fr (kp 6 (by decide) (by decide))
  · rw [adT_old ad (zo 7 (by omega)), vn 23 (by decide), seqA_congr (ad := ad) (fun q hq => adT_old ad (zo _ (by omega)))]
    exact h.rows.2.2.2.fr (kp 7 (by decide) (by decide))
  · intro q hq
    rw [v5] at hq
    by_cases e : q = i
    · subst e
      have aT := adT_new ad q sz hi16
      have rT := rhoT_new rho (i := q) (sz2 := sz2) hlt
      have xn := xlT_new xl q
      obtain ⟨g1, y1, y2, y3⟩ := hcal
      obtain ⟨f1, f2, y4, y5, y6⟩ := happ
      refine ⟨⟨wt, ⟨?_, ?_⟩, ?_⟩, ⟨0, sz + 2, g1, ⟨?_, ?_⟩, ⟨?_, ?_⟩, fun k k0 k1 => ?_⟩, ⟨sz + 4, sz + 5, f1, f2, ⟨?_, ?_⟩, ⟨?_, ?_⟩, ⟨?_, ?_⟩, by omega, ?_, fun k j hk => ?_⟩, ⟨0, S 20, 0, fun _ => none, ⟨?_, ?_⟩, Or.inl ⟨rfl, rfl⟩, ?_, fun k hk => ?_⟩⟩
      · rw [aT.1, aT.2.1, aT.2.2.1, aT.2.2.2, w6, w7, w8, w9, hnew sz (by omega) (by omega), hin]
        exact hc
      · rw [aT.1]
        exact rT.1
      · have et : thiT (thiU u q a b c d) q = kindT a ++ ([32] ++ (numL b ++ ([32] ++ (numL c ++ barT d 5 0)))) := by
          unfold thiT vR
          rw [w6, w7, w8, w9, toInt_iI a (by omega) (by omega), toInt_iI b (by omega) (by omega), toInt_iI c (by omega) (by omega)]
        rw [et]
        exact txt_up ht (hnew wt (by omega) (by omega)) (hnew (wt + 1) (by omega) (by omega)) rT.2.2.2.2.2.2.2.1 rT.2.2.2.2.2.2.2.2
      · rw [aT.2.1, hnew _ (by omega) (by omega)]
        exact y1
      · rw [aT.2.1]
        exact rT.2.1
      · rw [hnew _ (by omega) (by omega)]
        exact y2
      · exact rT.2.2.1
      · rw [y3 k.toNat (by omega)]
        have e0 : loanS (thiU u q a b c d) q k = -1 := by
          rw [hs.lnS hI (vn 23 (by decide))]
          unfold loanS
          refine fstI_none _ _ _ (fun p p0 p1 => ?_)
          have hh : hadS u p q = false := by
            cases e : hadS u p q with
            | false => rfl
            | true =>
              have := ((hI.loak p.toNat (by omega)).2.2.2.2.1 q (by omega) (by rw [show ((p.toNat : Nat) : Int) = p by omega]; exact e)).1
              omega
          unfold onL
          rw [hh, Bool.false_and, Bool.and_false]
        rw [e0]
        rfl
      · rw [aT.2.2.1, hnew _ (by omega) (by omega), xn.1]
        exact y4
      · rw [aT.2.2.1]
        exact rT.2.2.2.1
      · rw [hnew _ (by omega) (by omega)]
        exact y5
      · exact rT.2.2.2.2.1
      · rw [hnew _ (by omega) (by omega)]
        exact y6
      · exact rT.2.2.2.2.2.1
      · rw [xn.1]
        exact Nat.zero_le _
      · rw [xn.1] at hk
        simp at hk
      · rw [aT.2.2.2, hnew _ (by omega) (by omega), xn.2]
        exact hlis
      · rw [aT.2.2.2]
        exact rT.2.2.2.2.2.2.1
      · rw [xn.2]
        exact Nat.le_refl _
      · rw [xn.2] at hk
        simp at hk
    · exact old.1 q (by omega) (ZT_lt hi16 (by omega)).2.2.2
  · intro q hq
    rw [vn 14 (by decide)] at hq
    exact old.2.1 q hq
  · intro q hq
    rw [vn 19 (by decide)] at hq
    exact old.2.2.1 q hq
  · intro l hl
    rw [vn 23 (by decide)] at hl
    exact old.2.2.2.1 l hl
  · intro r hr
    rw [vn 33 (by decide)] at hr
    exact old.2.2.2.2 r hr
end THA
