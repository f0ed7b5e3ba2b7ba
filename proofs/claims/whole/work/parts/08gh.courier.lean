/-! COURIER: both sides' states -/
/-- a courier more -/
def CF (u u8 : MS) (c m : Nat) (t : List Int) : Prop := (∀ k, k ≠ 19 → u8.1 k = u.1 k) ∧ u8.1 19 = iI ((c : Int) + 1) ∧ (∀ k, k ≠ 20 → k ≠ 21 → k ≠ 22 → u8.2 k = u.2 k) ∧ (∀ q, q ≠ c → u8.2 20 q = u.2 20 q) ∧ u8.2 20 c = iI m ∧ (∀ q, q < c * 40 → u8.2 21 q = u.2 21 q ∧ u8.2 22 q = u.2 22 q) ∧ ∀ q, q < m → u8.2 21 (c * 40 + q) = iI (t.getD (2 * q) 0) ∧ u8.2 22 (c * 40 + q) = iI (t.getD (2 * q + 1) 0)
theorem CoU.cf {u u7 : MS} {c m : Nat} {t : List Int} (h : CoU u u7 c m t) : CF u (uI (uA u7 20 c (iI m)) 19 (iI ((c : Int) + 1))) c m t := by
  obtain ⟨h1, h2, h3, h4⟩ := h
  refine ⟨fun k hk => ?_, uI_at _ _ _, fun k k0 k1 k2 => ?_, fun q hq => ?_, ?_, fun q hq => ?_, fun q hq => ?_⟩
  · show upd u7.1 19 (iI ((c : Int) + 1)) k = _
    unfold upd
    rw [if_neg hk, h1]
  · show (uA u7 20 c (iI m)).2 k = _
    rw [uA_n _ _ _ _ k0]
    exact h2 k k1 k2
  · show (uA u7 20 c (iI m)).2 20 q = _
    rw [uA_s, h2 20 (by decide) (by decide)]
    unfold upd
    rw [if_neg hq]
  · show (uA u7 20 c (iI m)).2 20 c = _
    rw [uA_s]
    unfold upd
    rw [if_pos rfl]
  · show (uA u7 20 c (iI m)).2 21 q = _ ∧ (uA u7 20 c (iI m)).2 22 q = _
    rw [uA_n _ _ _ _ (by decide), uA_n _ _ _ _ (by decide)]
    exact h3 q (Or.inl hq)
  · show (uA u7 20 c (iI m)).2 21 (c * 40 + q) = _ ∧ (uA u7 20 c (iI m)).2 22 (c * 40 + q) = _
    rw [uA_n _ _ _ _ (by decide), uA_n _ _ _ _ (by decide)]
    exact h4 q hq
set_option maxHeartbeats 4000000 in
theorem t_courier_tail {S : Nat → Nat} {L : Mem} {u u1 u2 u3 : MS} {w : Int} {m : Nat} {t : List Int} (n19 : 0 ≤ vN u 19 ∧ vN u 19 ≤ 8) (hE : EndU u u3 w) {n : Nat} (hn : 200 ≤ n) (hm : m ≤ 30) (ht : t.length = 2 * m) (hv : ∀ x, x ∈ t → 0 ≤ x ∧ x ≤ 9999) (hr : rowsC u3 m t) (b1 : f_X12_begins S n L u = some u1) (b2 : f_X12_courier_L6 S n L n u1 (0 : Int32) = some (iI m, u2)) (b3 : f_X12_ends u2 = some (iI 1, u3)) : (okS (-1) t = false → f_X12_courier S n L u = noS (uI u3 4 (iI 4)) 4) ∧ (okS (-1) t = true → vN u 19 = 8 → f_X12_courier S n L u = noS u3 9) ∧ (okS (-1) t = true → vN u 19 < 8 → ∃ u8, f_X12_courier S n L u = fineS u8 (vN u 19) ∧ CF u3 u8 (vN u 19).toNat m t) := by
  have v19 : vN u3 19 = ((vN u 19).toNat : Nat) := by
    rw [hE.num 19 (by decide) (by decide) (by decide) (by decide)]
    omega
  have w19 : u3.1 19 = iI (vN u 19) := by rw [hE.2.2.2.1 19 (by decide) (by decide) (by decide) (by decide), u1_iI]
  have hsp := t_spansOK (S := S) (L := L) hr hv ht hm n hn
  have e8 : (iI (vN u 19) = (8 : Int32)) ↔ vN u 19 = 8 := iI_eq _ 8 (by omega)
  have head : ∀ K, (if (iI (if okS (-1) t = true then 1 else 0)) = (0 : Int32) then ((f_X12_faulty u3 (4 : Int32)).bind fun r35 => some (r35.1, r35.2)) else (if (u3.1 19) = (8 : Int32) then ((f_X12_no u3 (9 : Int32)).bind fun r34 => some (r34.1, r34.2)) else ((f_X12_courier_L159 S n L (iI m) n u3 (0 : Int32)).bind fun o31 => if inb (o31.1 19) 8 then ((f_X12_fine (uI (uA o31 20 ((o31.1 19) : Int32).toNatClampNeg (iI m)) 19 (((uA o31 20 ((o31.1 19) : Int32).toNatClampNeg (iI m)).1 19) + (1 : Int32))) (((uI (uA o31 20 ((o31.1 19) : Int32).toNatClampNeg (iI m)) 19 (((uA o31 20 ((o31.1 19) : Int32).toNatClampNeg (iI m)).1 19) + (1 : Int32))).1 19) - (1 : Int32))).bind fun r33 => some (r33.1, r33.2)) else none))) = K → f_X12_courier S n L u = K := fun K hK => by
    unfold f_X12_courier
    rw [b1, Option.bind_some, b2, Option.bind_some, b3, Option.bind_some, if_neg (show ¬ iI 1 = (0 : Int32) by decide), hsp, Option.bind_some]
    exact hK
  refine ⟨fun q => ?_, fun q q8 => ?_, fun q q8 => ?_⟩
  · refine head _ ?_
    rw [if_neg (show ¬ okS (-1) t = true by rw [q]; decide), if_pos (show iI 0 = (0 : Int32) from rfl)]
    rfl
  · refine head _ ?_
    rw [if_pos q, if_neg (show ¬ iI 1 = (0 : Int32) by decide), w19, if_pos (e8.mpr q8)]
    rfl
  · obtain ⟨u7, e7, h7⟩ := t_copy_L (S := S) (L := L) hm v19 (by omega) hr n n 0 u3 (by omega) (by omega) ⟨rfl, fun _ _ _ => rfl, fun _ _ => ⟨rfl, rfl⟩, fun q hq => by omega⟩
    have e7' : f_X12_courier_L159 S n L (iI m) n u3 (0 : Int32) = some u7 := e7
    have w7 : u7.1 19 = iI (vN u 19) := by rw [h7.1, w19]
    have es : iI (vN u 19) + (1 : Int32) = iI (((vN u 19).toNat : Int) + 1) := by
      rw [show (1 : Int32) = iI 1 from rfl, iI_add, show ((vN u 19).toNat : Int) = vN u 19 by omega]
    have es2 : iI (((vN u 19).toNat : Int) + 1) - (1 : Int32) = iI (vN u 19) := by
      rw [show (1 : Int32) = iI 1 from rfl, iI_sub, show ((vN u 19).toNat : Int) + 1 - 1 = vN u 19 by omega]
    have qi : inb (iI (vN u 19)) 8 := (iI_inb _ 8 (by omega)).mpr (by omega)
    have ec : (iI (vN u 19)).toNatClampNeg = (vN u 19).toNat := iI_clamp _ (by omega)
    refine ⟨_, head _ ?_, h7.cf⟩
    rw [if_pos q, if_neg (show ¬ iI 1 = (0 : Int32) by decide), w19, if_neg (fun q2 => by have := e8.mp q2; omega), e7']
    simp only [Option.bind_some, uA_1, uI_at, w7, if_pos qi, ec, es, es2]
    rfl
def ZC (c id : Nat) : Prop := id = 6000 + c ∨ id = 7000 + c
theorem ZC_out {c id : Nat} (hc : c < 8) (h : id < 6000 ∨ 8000 ≤ id) : ¬ ZC c id := by
  unfold ZC
  omega
theorem ZC_lt {c q : Nat} (hc : c < 8) (hq : q < c) : ¬ ZC c (6000 + q) ∧ ¬ ZC c (7000 + q) := by
  unfold ZC
  refine ⟨?_, ?_⟩ <;> omega
def adC (ad : Nat → Nat) (c sz : Nat) : Nat → Nat := fun id => if id = 6000 + c then sz else if id = 7000 + c then sz + 1 else ad id
theorem adC_old (ad : Nat → Nat) {c sz id : Nat} (h : ¬ ZC c id) : adC ad c sz id = ad id := by
  unfold ZC at h
  unfold adC
  rw [if_neg (by omega), if_neg (by omega)]
theorem adC_new (ad : Nat → Nat) (c sz : Nat) (hc : c < 8) : adC ad c sz (6000 + c) = sz ∧ adC ad c sz (7000 + c) = sz + 1 := by
  unfold adC
  exact ⟨if_pos rfl, by rw [if_neg (by omega), if_pos rfl]⟩
def rhoC (rho : Nat → Nat) (c sz sz1 sz2 : Nat) : Nat → Nat := fun y => if y < sz then rho y else if y = sz then 6000 + c else if y ≤ sz + 2 then 7000 + c else if y < sz1 then 6000 + c else if y < sz2 then 6 else 0
theorem rhoC_old (rho : Nat → Nat) {c sz sz1 sz2 y : Nat} (hy : y < sz) : rhoC rho c sz sz1 sz2 y = rho y := by
  unfold rhoC
  rw [if_pos hy]
theorem rhoC_new (rho : Nat → Nat) {c sz wt sz2 : Nat} (hlt : sz + 3 < wt) : rhoC rho c sz (wt + 2) sz2 sz = 6000 + c ∧ rhoC rho c sz (wt + 2) sz2 (sz + 1) = 7000 + c ∧ rhoC rho c sz (wt + 2) sz2 (sz + 2) = 7000 + c ∧ rhoC rho c sz (wt + 2) sz2 wt = 6000 + c ∧ rhoC rho c sz (wt + 2) sz2 (wt + 1) = 6000 + c := by
  unfold rhoC
  refine ⟨?_, ?_, ?_, ?_, ?_⟩ <;> (repeat' split) <;> omega
theorem rhoC_lt (rho : Nat → Nat) {c sz wt sz2 y : Nat} (hlt : sz + 3 < wt) (h2 : wt + 2 ≤ sz2) (hy : rhoC rho c sz (wt + 2) sz2 y ≠ 0) : y < sz2 := by
  rcases Nat.lt_or_ge y sz2 with q | q
  · exact q
  · exfalso
    apply hy
    unfold rhoC
    (repeat' split) <;> omega
theorem rhoC_lis (rho : Nat → Nat) {c sz wt sz2 : Nat} (hlt : sz + 3 < wt) (h2 : wt + 2 < sz2) : rhoC rho c sz (wt + 2) sz2 (wt + 2) = 6 := by
  unfold rhoC
  (repeat' split) <;> omega
section COA
variable {B : Nat} {S : Nat → Nat} {L : Mem} {x0 : Nat} {ad rho : Nat → Nat} {xl : Nat → List Nat} {M M1 : Mem} {u u8 : MS} {sz : Nat} {t : List Int}
theorem CF.same {c m : Nat} (h : CF u u8 c m t) (hc : (vN u 19).toNat = c) : Same u u8 := by
  obtain ⟨h1, h2, h3, h4, h5, h6, h7⟩ := h
  refine ⟨⟨h1 10 (by decide), h3 11 (by decide) (by decide) (by decide), h3 12 (by decide) (by decide) (by decide), h3 13 (by decide) (by decide) (by decide)⟩, fun q hq k k1 k2 => ?_, fun q hq k k1 k2 => ?_, fun q hq => ⟨h4 q (by omega), fun j hj => h6 _ (by omega)⟩, fun l hl => ⟨fun k k1 k2 => ?_, fun p hp k k1 k2 => ?_⟩, fun r hr => ⟨fun k k1 k2 => ?_, fun j hj k k1 k2 => ?_⟩⟩
  all_goals rw [h3 k (by omega) (by omega) (by omega)]
set_option maxHeartbeats 4000000 in
theorem RepK.addCou (hL : LOK B L) (hE : EmpOK S L) (h : RepK B S L x0 ad rho xl M u sz) (hI : Inv u xl) {wt m : Nat} {gd : Nat → Int32} (hlt : sz + 3 < wt) (fr : ∀ y, y < sz → M1 y = M y) (hcf : CF u u8 (vN u 19).toNat m t) (hm : m ≤ 30) (hsp : ∀ i, i < m → 0 ≤ t.getD (2 * i) 0 ∧ t.getD (2 * i) 0 ≤ t.getD (2 * i + 1) 0 ∧ t.getD (2 * i + 1) 0 < 1000)
    (hc : M1 sz = some (.inl (5, [.int (iI (vN u 19)), .ref wt, .ref (sz + 1)]))) (hc1 : M1 (sz + 1) = some (.inl (4, [.ref (sz + 2), .int 0]))) (hc2 : M1 (sz + 2) = some (.inr (.inl (0, 1000, gd)))) (hgd : ∀ d : Nat, d < 1000 → gd d = iI (if anyI (pS t d) m 0 = true then -1 else -2))
    (ht : ∀ (rho1 : Nat → Nat) (id : Nat), rho1 wt = id → rho1 (wt + 1) = id → TxtR M1 rho1 id wt (spaT (cF t) (cG t) m 0)) (h19 : vN u 19 < 8) : ∃ (M2 : Mem) (sz2 : Nat) (ad1 rho1 : Nat → Nat), f_Jx4a65c_add_9ea2d B S M1 (wt + 2) (some (ad 6)) (some sz) = some (1, M2, sz2) ∧ RepK B S L x0 ad1 rho1 xl M2 u8 sz2 ∧ Inv u8 xl := by
  have n14 := hI.n14
  have n5 := hI.n5
  have n19 := hI.n19
  have n23 := hI.n23
  have n33 := hI.n33
  have hx := h.xlt
  have hl6 := h.rows.2.2.1
  have ow : ∀ y, rho y ≠ 0 → B ≤ y ∧ y < sz := h.1.2
  have hES := h.empS hL hE fr
  have ra : rho (ad 6) = 6 := hl6.own
  obtain ⟨M2, sz2, e1, e2, e3, e4⟩ := LisR.add (B := B) (sz := wt + 2) (x := sz) (hl6.fr (M1 := M1) (rho1 := rho) (fun y hy => ⟨fr y (ow y (by omega)).2, hy⟩)) hES.1 hES.2 (by omega) (fun y hy => by have := ow y (by omega); omega) (by rw [seqA_len]; omega) (fun y hy => by
    simp only [seqA, List.mem_map, List.mem_range] at hy
    obtain ⟨i, hi, rfl⟩ := hy
    obtain ⟨w, g1, -⟩ := (h.cou hi).1
    have g2 := ow (ad (6000 + i)) (by rw [g1.2]; omega)
    refine ⟨isE_at (by rw [fr _ g2.2]; exact g1.1) (by omega), fun e => ?_, by omega⟩
    have := g1.2
    rw [e, ra] at this
    omega) ⟨isE_at hc (by omega), fun e => by have := ow (ad 6) (by omega); omega, by omega⟩
  have hr0 : ∀ y, sz ≤ y → rho y = 0 := fun y hy => h.no0 (Or.inr hy)
  have fr2 : ∀ y, y < sz → rho y ≠ 6 → M2 y = M y := fun y hy h5 => (e3 y h5 (by omega)).trans (fr y hy)
  have hnew : ∀ y, sz ≤ y → y < wt + 2 → M2 y = M1 y := fun y y1 y2 => e3 y (by rw [hr0 y y1]; omega) y2
  generalize hi5 : (vN u 19).toNat = c at *
  have hi8 : c < 8 := by omega
  have zo : ∀ id, id < 6000 ∨ 8000 ≤ id → ¬ ZC c id := fun id => ZC_out hi8
  have kp : ∀ id, id ≠ 0 → id ≠ 6 → Kept M rho id M2 (rhoC rho c sz (wt + 2) sz2) := fun id i0 i4 y hy => by
    have := ow y (by omega)
    exact ⟨fr2 y this.2 (by omega), by rw [rhoC_old rho this.2]; exact hy⟩
  have hs : Same u u8 := hcf.same hi5
  obtain ⟨k1, k2, k3, k4, k5, k6, k7⟩ := hcf
  have vn : ∀ k, k ≠ 19 → vN u8 k = vN u k := fun k hk => by
    unfold vN
    rw [k1 k hk]
  have hin : (c : Int) = vN u 19 := by omega
  have v19 : vN u8 19 = vN u 19 + 1 := by
    show (u8.1 19).toInt = _
    rw [k2, toInt_iI _ (by omega) (by omega)]
    omega
  have r20 : vR u8 20 c = m := by
    unfold vR
    rw [k5, toInt_iI _ (by omega) (by omega)]
  have r21 : ∀ q : Nat, q < m → vR u8 21 (c * 40 + q) = t.getD (2 * q) 0 ∧ vR u8 22 (c * 40 + q) = t.getD (2 * q + 1) 0 := fun q hq => by
    have := hsp q hq
    unfold vR
    rw [(k7 q hq).1, (k7 q hq).2, toInt_iI _ (by omega) (by omega), toInt_iI _ (by omega) (by omega)]
    exact ⟨rfl, rfl⟩
  have hIn : Inv u8 xl := by
    refine hI.sm hs ?_ (by rw [vn 5 (by decide)]; omega) (by rw [vn 14 (by decide)]; omega) (by omega) (vn 23 (by decide)) (fun q i1 i2 => by rw [vn 5 (by decide)] at i2; omega) (fun q i1 i2 => by rw [vn 14 (by decide)] at i2; omega) (fun q i1 i2 => ?_) (fun q i1 i2 => by rw [vn 33 (by decide)] at i2; omega) (ListsF.sm hs hI (vn 5 (by decide)) (vn 23 (by decide)) (vn 33 (by decide)))
    · have := hI.num
      unfold NumOK at *
      rw [vn 1 (by decide), vn 5 (by decide), vn 14 (by decide), vn 10 (by decide), vn 23 (by decide), vn 33 (by decide), v19]
      omega
    · have ei : q = c := by omega
      subst ei
      unfold SpnK
      rw [r20]
      refine ⟨by omega, fun k hk => ?_⟩
      have hk2 : k < m := by omega
      have := hsp k hk2
      rw [(r21 k hk2).1, (r21 k hk2).2]
      omega
  have old := RepK.old (M1 := M2) (ad1 := adC ad c sz) (rho1 := rhoC rho c sz (wt + 2) sz2) (xl1 := xl) hs hI h (by rw [vn 5 (by decide)]; omega) (vn 23 (by decide)) (ZC c) (fun id i1 i2 => ⟨kp id (by omega) (by omega), adC_old ad i2, rfl⟩) (fun q hq => adC_old ad (zo _ (by omega))) (fun q hq => ⟨zo _ (by omega), zo _ (by omega), zo _ (by omega)⟩) (fun q hq => zo _ (by omega)) (fun q hq => ZC_lt hi8 (by omega)) (fun l hl => ⟨zo _ (by omega), fun p hp => zo _ (by omega)⟩) (fun r hr => zo _ (by omega))
  refine ⟨M2, sz2, adC ad c sz, rhoC rho c sz (wt + 2) sz2, e1, ⟨⟨h.con hL (fun y hy h0 => fr2 y hy (by omega)), fun y hy => ?_⟩, ⟨⟨?_, ?_⟩, ?_, ?_, ?_, ?_, ?_, ?_⟩, ?_, ?_, ?_, ?_, ?_⟩, hIn⟩
  · have hlt2 := rhoC_lt rho hlt (show wt + 2 ≤ sz2 by omega) hy
    by_cases q1 : y < sz
    · rw [rhoC_old rho q1] at hy
      exact ⟨(ow y hy).1, hlt2⟩
    · omega
  · rw [booF_congr (A := ad) (fun k k1 k2 => adC_old ad (zo k (by omega))), hs.std hI (vn 23 (by decide)), k1 33 (by decide), k1 10 (by decide), k1 4 (by decide), k1 2 (by decide)]
    exact (kp 1 (by decide) (by decide) x0 h.2.1.1.2).1.trans h.book
  · exact (kp 1 (by decide) (by decide) x0 h.2.1.1.2).2
  · exact h.2.1.2.1.sm (kp 2 (by decide) (by decide)) (adC_old ad (zo 2 (by omega))) (k3 0 (by decide) (by decide) (by decide)) (k1 1 (by decide))
  · exact h.2.1.2.2.1.sm (kp 3 (by decide) (by decide)) (adC_old ad (zo 3 (by omega))) (k1 3 (by decide))
  · rw [adC_old ad (zo 4 (by omega)), vn 5 (by decide), seqA_congr (ad := ad) (fun q hq => adC_old ad (zo _ (by omega)))]
    exact h.rows.1.fr (kp 4 (by decide) (by decide))
  · rw [adC_old ad (zo 5 (by omega)), vn 14 (by decide), seqA_congr (ad := ad) (fun q hq => adC_old ad (zo _ (by omega)))]
    exact h.rows.2.1.fr (kp 5 (by decide) (by decide))
  · have := e4 (rhoC rho c sz (wt + 2) sz2) (fun y hy => by
      rw [rhoC_old rho (ow y (by omega)).2]
      exact hy) (fun hz => rhoC_lis rho hlt hz)
    rw [adC_old ad (zo 6 (by omega)), v19, seqA_succ n19.1 rfl, seqA_congr (ad := ad) (fun q hq => adC_old ad (ZC_lt hi8 (by omega)).1), hi5, (adC_new ad c sz hi8).1]
    exact this
  · rw [adC_old ad (zo 7 (by omega)), vn 23 (by decide), seqA_congr (ad := ad) (fun q hq => adC_old ad (zo _ (by omega)))]
    exact h.rows.2.2.2.fr (kp 7 (by decide) (by decide))
  · intro q hq
    rw [vn 5 (by decide)] at hq
    exact old.1 q hq (zo _ (by omega))
  · intro q hq
    rw [vn 14 (by decide)] at hq
    exact old.2.1 q hq
  · intro q hq
    rw [v19] at hq
    by_cases e : q = c
    · subst e
      have aC := adC_new ad q sz hi8
      have rC := rhoC_new rho (c := q) (sz2 := sz2) hlt
      have hld : ∀ l : Int, 0 ≤ l → l < vN u 23 → loaD u8 q l = 0 := fun l l0 l1 => by
        have e1 := hs.load hI (l := l.toNat) (by omega) q
        have e2 := loaD_out hI (l := l.toNat) (by omega) (c := q) (by omega)
        rw [show ((l.toNat : Nat) : Int) = l by omega] at e1 e2
        rw [e1, e2]
      have hbs : ∀ d, busyS u8 q d (vN u 23) = -1 := fun d => by
        rw [hs.bsyS hI]
        unfold busyS
        refine fstI_none _ _ _ (fun p p0 p1 => ?_)
        have := busy_out hI (l := p.toNat) (by omega) (c := q) (by omega) d
        rwa [show ((p.toNat : Nat) : Int) = p by omega] at this
      refine ⟨⟨wt, ⟨?_, ?_⟩, ?_⟩, ⟨sz + 2, gd, ⟨?_, ?_⟩, ⟨?_, ?_⟩, fun k k0 k1 => ?_⟩⟩
      · rw [aC.1, aC.2, hnew sz (by omega) (by omega), hin]
        exact hc
      · rw [aC.1]
        exact rC.1
      · have et : couT u8 q = spaT (cF t) (cG t) m 0 := by
          unfold couT
          rw [r20, Int.toNat_natCast]
          refine spaT_congr (fun k k1 k2 => ?_)
          have := r21 k.toNat (by omega)
          rw [show ((q : Int) * 40 + k).toNat = q * 40 + k.toNat by omega]
          exact this
        rw [et]
        exact txt_up ht (hnew wt (by omega) (by omega)) (hnew (wt + 1) (by omega) (by omega)) rC.2.2.2.1 rC.2.2.2.2
      · have etk : takenS u8 q (vN u8 23) = 0 := by
          rw [vn 23 (by decide)]
          unfold takenS
          exact sumI_null (fun p p0 p1 => hld p p0 (by omega))
        rw [etk, aC.2, hnew _ (by omega) (by omega)]
        exact hc1
      · rw [aC.2]
        exact rC.2.1
      · rw [hnew _ (by omega) (by omega)]
        exact hc2
      · exact rC.2.2.1
      · have e0 : calS u8 q (vN u8 23) k = if anyI (pS t k) m 0 = true then -1 else -2 := by
          have em : mayS u8 q k = anyI (pS t k) m 0 := by
            unfold mayS
            rw [Int.toNat_natCast, r20, Int.toNat_natCast]
            refine anyI_congr (fun p p0 p1 => ?_)
            have := r21 p.toNat (by omega)
            unfold spanP pS
            rw [show ((q : Int) * 40 + p).toNat = q * 40 + p.toNat by omega, this.1, this.2]
          unfold calS
          rw [vn 23 (by decide), hbs, if_neg (by omega), em]
        have hk := hgd k.toNat (by omega)
        rw [show ((k.toNat : Nat) : Int) = k by omega] at hk
        rw [hk, e0]
    · exact old.2.2.1 q (by omega)
  · intro l hl
    rw [vn 23 (by decide)] at hl
    exact old.2.2.2.1 l hl
  · intro r hr
    rw [vn 33 (by decide)] at hr
    exact old.2.2.2.2 r hr
end COA
