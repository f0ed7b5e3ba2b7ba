/-! LOAN: one more loan: the class's cells -/
section GDK
variable {B : Nat} {S : Nat → Nat} {L : Mem} {x0 : Nat} {ad ad1 rho rho1 rh pa : Nat → Nat} {xl xl1 : Nat → List Nat} {MK M1 M Mf : Mem} {uS u1 u : MS} {sz zz z4 l P a0 : Nat} {ct : Nat → List Nat}
theorem LisR.ren {S : Nat → Nat} {M M1 : Mem} {rho rho1 : Nat → Nat} {id id1 a : Nat} {l : List Nat} (h : LisR S M rho id a l) (k : ∀ y, rho y = id → M1 y = M y ∧ rho1 y = id1) : LisR S M1 rho1 id1 a l := by
  obtain ⟨mc, e, cap, g, h1, h2, h3, h4⟩ := h
  have ka := k a h1.2
  refine ⟨mc, e, cap, g, ⟨ka.1.trans h1.1, ka.2⟩, ?_, h3, h4⟩
  rcases h2 with h2 | ⟨h2, h5⟩
  · exact Or.inl h2
  · have ke := k e h2.2
    exact Or.inr ⟨⟨ke.1.trans h2.1, ke.2⟩, h5⟩
theorem GS.repD (F : Fix B S L x0 ad rho xl MK M1 uS u1 sz zz rh ct l P) (h : GS S ad rho M1 u1 rh a0 pa ct l P u M) (hl15 : l ≤ 15) (hfree : FreeF u uS l) (h24 : vR u 24 l = 1) (hz : sz ≤ zz ∧ zz ≤ z4) (hxO : ∀ id, ¬ (9000 + l * 16 ≤ id ∧ id < 9000 + l * 16 + 16) → xl1 id = xl id) (hxP : ∀ p, p < 16 → xl1 (9000 + (l * 16 + p)) = ct p) (haO : ∀ id, id ≠ 8000 + l → ¬ (9000 + l * 16 ≤ id ∧ id < 9000 + l * 16 + 16) → ad1 id = ad id) (haL : ad1 (8000 + l) = a0) (haP : ∀ p, p < 16 → ad1 (9000 + (l * 16 + p)) = pa p) (hrO : ∀ y, rho y ≠ 0 → rho1 y = rho y) (hrL : ∀ y, (rh y = 1 ∨ rh y = 2) → rho1 y = 8000 + l) (hrP : ∀ y p, p < 16 → (rh y = 10 + 2 * p ∨ rh y = 11 + 2 * p) → rho1 y = 9000 + (l * 16 + p)) (hrz : ∀ y, rho1 y ≠ 0 → B ≤ y ∧ y < z4) (m0 : ∀ a e, L a = some e → Mf a = some e) (m1 : Mf x0 = some (.inl (14, booF ad (iI (stdS uS + 1)) (uS.1 33) (uS.1 10) (uS.1 4) (uS.1 2)))) (m2 : ∀ t, t < (vN uS 5).toNat → ∃ tk, CalR Mf rho (2000 + t) (ad (2000 + t)) (tkF u uS l t) tk) (m3 : ∀ y, 1 < rho y → rho y ≠ 7 → (rho y < 2000 ∨ 3000 ≤ rho y) → (rho y < 7000 ∨ 8000 ≤ rho y) → Mf y = MK y) (m4 : ∀ y, rh y ≠ 0 → Mf y = M y) (m5 : ∀ y, 7000 ≤ rho y → rho y < 8000 → Mf y = M y) (m7 : LisR S Mf rho1 7 (ad 7) (seqA ad 8000 (vN uS 23) ++ [a0])) : RepK B S L x0 ad1 rho1 xl1 Mf (dnU u l) z4 := by
  obtain ⟨hI, h23, hv, hsm⟩ := h.inv F
  obtain ⟨k1, k2, k3, k4⟩ := h.slot F
  have hpf := fun p => h.1.parf (F.2.2.2.2.2.2.1 p)
  have hln := fun (t : Nat) ht d => h.ln F hfree (t := t) ht d
  have hP := F.2.2.2.2.2.1.2
  have IS := F.1.2
  have n5 := IS.n5
  have n14 := IS.n14
  have n19 := IS.n19
  have n23 := IS.n23
  have n33 := IS.n33
  have f4 := F.2.2.1.1
  have hl := F.2.2.1.2
  have hu1 : u1.1 = uS.1 := F.2.1.2.1
  have hu0 : u1.2 0 = uS.2 0 := F.2.2.2.2.2.2.2.2.2.2
  have hs : Same uS (dnU u l) := hsm
  have hvd : ∀ k, k ≠ 23 → vN (dnU u l) k = vN uS k := fun k hk => by
    rw [dnU_vn u l hl, if_neg hk, hv]
  have v23 : vN (dnU u l) 23 = (l : Int) + 1 := by rw [dnU_vn u l hl, if_pos rfl]
  have v5 := hvd 5 (by decide)
  have v14 := hvd 14 (by decide)
  have v19 := hvd 19 (by decide)
  have v33 := hvd 33 (by decide)
  have s1 : ∀ k, k ≠ 23 → (dnU u l).1 k = uS.1 k := fun k hk => by
    have e : (dnU u l).1 k = upd u.1 23 (iI ((l : Int) + 1)) k := rfl
    rw [e]
    unfold upd
    rw [if_neg hk, h.1.1, hu1]
  have h19u : vN u1 19 = vN uS 19 := by rw [← h.1.vn, hv]
  have h25 : 0 ≤ vR u 25 l ∧ vR u 25 l < vN uS 14 := by
    rw [h.1.vr (by decide)]
    exact F.2.2.2.2.1.2.2
  have kp : ∀ id, 1 < id → id ≠ 7 → (id < 2000 ∨ 3000 ≤ id) → (id < 7000 ∨ 8000 ≤ id) → Kept MK rho id Mf rho1 := fun id i0 i1 i2 i3 y hy => ⟨m3 y (by omega) (by omega) (by omega) (by omega), (hrO y (by omega)).trans hy⟩
  have hao : ∀ id, id < 8000 → ad1 id = ad id := fun id hid => haO id (by omega) (by omega)
  obtain ⟨⟨c1, c2⟩, ⟨b1, b2, b3, r1, r2, r3, r4⟩, t1, t2, t3, t4, t5⟩ := F.1.1
  have hstd : stdS (dnU u l) = stdS uS + 1 := by
    have e1 : stdS (dnU u l) = sumI (fun q => if vR (dnU u l) 24 q.toNat = 0 then 0 else 1) (l + 1) 0 := by
      unfold stdS
      rw [v23, show ((l : Int) + 1).toNat = l + 1 by omega]
    have e2 : stdS uS = sumI (fun q => if vR uS 24 q.toNat = 0 then 0 else 1) l 0 := by
      unfold stdS
      rw [show (vN uS 23).toNat = l by omega]
    rw [e1, e2, sumI_last, sumI_congr (g := fun q => if vR uS 24 q.toNat = 0 then 0 else 1) (fun q q1 q2 => by
      have := hs.lo (l := q.toNat) (by omega) 24 (by omega) (by omega)
      rw [this])]
    congr 1
    have e3 : vR (dnU u l) 24 (0 + (l : Int)).toNat = 1 := by
      rw [Int.zero_add, Int.toNat_natCast]
      exact h24
    rw [e3]
    rfl
  refine ⟨⟨m0, hrz⟩, ⟨⟨?_, (hrO x0 (by rw [b1.2]; decide)).trans b1.2⟩, b2.sm (kp 2 (by omega) (by omega) (by omega) (by omega)) (hao 2 (by omega)) ?_ (s1 1 (by decide)), b3.sm (kp 3 (by omega) (by omega) (by omega) (by omega)) (hao 3 (by omega)) (s1 3 (by decide)), ?_, ?_, ?_, ?_⟩, fun i hi => ?_, fun i hi => ?_, fun c hc => ?_, fun q hq => ?_, fun r hr => ?_⟩
  · rw [hstd, s1 33 (by decide), s1 10 (by decide), s1 4 (by decide), s1 2 (by decide)]
    have eb : booF ad1 (iI (stdS uS + 1)) (uS.1 33) (uS.1 10) (uS.1 4) (uS.1 2) = booF ad (iI (stdS uS + 1)) (uS.1 33) (uS.1 10) (uS.1 4) (uS.1 2) := by
      unfold booF
      rw [hao 2 (by omega), hao 3 (by omega), hao 4 (by omega), hao 5 (by omega), hao 6 (by omega), hao 7 (by omega)]
    rw [eb]
    exact m1
  · have e : (dnU u l).2 0 = u.2 0 := rfl
    rw [e, h.1.row (by decide)]
    exact hu0
  · rw [v5, hao 4 (by omega), seqA_congr (ad := ad) (fun i hi => hao _ (by omega))]
    exact r1.fr (kp 4 (by omega) (by omega) (by omega) (by omega))
  · rw [v14, hao 5 (by omega), seqA_congr (ad := ad) (fun i hi => hao _ (by omega))]
    exact r2.fr (kp 5 (by omega) (by omega) (by omega) (by omega))
  · rw [v19, hao 6 (by omega), seqA_congr (ad := ad) (fun i hi => hao _ (by omega))]
    exact r3.fr (kp 6 (by omega) (by omega) (by omega) (by omega))
  · rw [hao 7 (by omega), seqA_succ (n := vN uS 23) (by omega) (by rw [v23, f4]), seqA_congr (ad := ad) (fun i hi => haO _ (by omega) (by omega)), show (vN uS 23).toNat = l by omega, haL]
    exact m7
  · rw [v5] at hi
    obtain ⟨y1, -, y3, y4⟩ := t1 i hi
    refine ⟨y1.sm hs hi (kp _ (by omega) (by omega) (by omega) (by omega)) ⟨hao _ (by omega), hao _ (by omega), hao _ (by omega), hao _ (by omega)⟩, ?_, ?_, ?_⟩
    · obtain ⟨tk, hc⟩ := m2 i hi
      rw [hao _ (by omega)]
      exact ⟨tk, (hc.fr (fun y hy => ⟨rfl, (hrO y (by omega)).trans hy⟩)).congr (fun d => hln i hi d) rfl⟩
    · rw [hao _ (by omega), hxO _ (by omega)]
      exact y3.sm hs (kp _ (by omega) (by omega) (by omega) (by omega))
    · rw [hao _ (by omega), hxO _ (by omega)]
      have e : (xl (4000 + i)).map (fun r => ad1 (10000 + r)) = (xl (4000 + i)).map (fun r => ad (10000 + r)) := List.map_congr_left (fun r _ => haO _ (by omega) (by omega))
      rw [e]
      exact y4.fr (kp _ (by omega) (by omega) (by omega) (by omega))
  · rw [v14] at hi
    exact (t2 i hi).sm hs hi (kp _ (by omega) (by omega) (by omega) (by omega)) (hao _ (by omega))
  · rw [v19] at hc
    obtain ⟨⟨w, q1, q2⟩, -⟩ := t3 c hc
    refine ⟨⟨w, ?_, ?_⟩, ?_⟩
    · rw [hao _ (by omega), hao _ (by omega)]
      exact q1.fr (kp _ (by omega) (by omega) (by omega) (by omega))
    · rw [hs.tCou IS hc]
      exact q2.fr (kp _ (by omega) (by omega) (by omega) (by omega))
    · rw [hao _ (by omega), v23]
      exact (h.2.2.2.1 c (by rw [h19u]; exact hc)).fr (fun y hy => ⟨m5 y (by omega) (by omega), (hrO y (by omega)).trans hy⟩)
  · rw [v23] at hq
    by_cases e : q = l
    · subst e
      obtain ⟨⟨qq, d1, d2⟩, d3⟩ := h.2.2.1
      have e29 : vR (dnU u q) 29 q = (P : Int) := k3
      have e25 : vR (dnU u q) 25 q = vR u 25 q := rfl
      refine ⟨⟨qq, ⟨?_, ?_⟩, ?_⟩, fun p hp => ?_⟩
      · rw [haL, e25, hao _ (by omega)]
        exact (m4 a0 (by rw [d1.2]; decide)).trans d1.1
      · rw [haL]
        exact hrL a0 (Or.inl d1.2)
      · have es : seqA ad1 (9000 + q * 16) (vR (dnU u q) 29 q) = (List.range P).map pa := by
          unfold seqA
          rw [e29, Int.toNat_natCast]
          exact List.map_congr_left (fun p hp => by
            have := List.mem_range.mp hp
            have h9 := haP p (by omega)
            rw [show 9000 + q * 16 + p = 9000 + (q * 16 + p) by omega]
            exact h9)
        rw [es]
        exact d2.ren (fun y hy => ⟨m4 y (by omega), hrL y (Or.inr hy)⟩)
      · rw [e29, Int.toNat_natCast] at hp
        obtain ⟨c, p1, p2⟩ := d3 p hp
        have hF := hpf p
        have ew : weighS (dnU u q) q p = sumN (fun t => vR u 8 t) (ct p) := by
          have hF2 := hF
          unfold ParF at hF2
          rw [sumN_perm _ hF2, sumN_sel]
          unfold weighS
          rw [v5, ← hv]
          refine sumI_congr (fun k h1 h2 => ?_)
          rw [show ((k.toNat : Nat) : Int) = k by omega]
          rfl
        refine ⟨c, ⟨?_, ?_⟩, ?_⟩
        · rw [haP p (by omega), ew]
          exact (m4 _ (by rw [p1.2]; omega)).trans p1.1
        · rw [haP p (by omega)]
          exact hrP _ p (by omega) (Or.inl p1.2)
        · rw [hxP p (by omega)]
          have em : (ct p).map (fun t => ad1 (1000 + t)) = (ct p).map (fun t => ad (1000 + t)) := List.map_congr_left (fun t ht => by
            have := ((hF.mem t).mp ht).1
            rw [hv] at this
            exact hao _ (by omega))
          rw [em]
          exact p2.ren (fun y hy => ⟨m4 y (by omega), hrP y p (by omega) (Or.inr hy)⟩)
    · have hq2 : q < (vN uS 23).toNat := by omega
      exact (t4 q hq2).sm hs IS (by omega) hq2 (kp _ (by omega) (by omega) (by omega) (by omega)) (fun p hp => kp _ (by omega) (by omega) (by omega) (by omega)) (haO _ (by omega) (by omega)) (fun p hp => ⟨haO _ (by omega) (by omega), hxO _ (by omega)⟩) (fun i hi => hao _ (by omega)) (fun i hi => hao _ (by omega))
  · rw [v33] at hr
    exact (t5 r hr).sm hs IS hr (kp _ (by omega) (by omega) (by omega) (by omega)) (haO _ (by omega) (by omega)) (hxO _ (by omega))
end GDK
