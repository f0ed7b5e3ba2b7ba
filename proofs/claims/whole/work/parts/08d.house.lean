/-! HOUSE: both sides -/
def houU (u : MS) (h : Nat) (a b c d : Int) : MS := uI (uA (uA (uA (uA u 15 h (iI a)) 16 h (iI b)) 17 h (iI c)) 18 h (iI d)) 14 (iI ((h : Int) + 1))
theorem houU_n (u : MS) (h : Nat) (a b c d : Int) (k : Nat) (hk : k ≠ 14) : (houU u h a b c d).1 k = u.1 k := by
  show upd u.1 14 _ k = u.1 k
  unfold upd
  rw [if_neg hk]
theorem houU_14 (u : MS) (h : Nat) (a b c d : Int) : (houU u h a b c d).1 14 = iI ((h : Int) + 1) := by
  simp [houU, uI, upd]
theorem houU_r (u : MS) (h : Nat) (a b c d : Int) (k : Nat) (hk : k < 15 ∨ 18 < k) : (houU u h a b c d).2 k = u.2 k := by
  show va_up (va_up (va_up (va_up u.2 15 _) 16 _) 17 _) 18 _ k = _
  rw [va_up_ne _ _ (by omega), va_up_ne _ _ (by omega), va_up_ne _ _ (by omega), va_up_ne _ _ (by omega)]
theorem houU_o (u : MS) (h : Nat) (a b c d : Int) (k i : Nat) (hi : i ≠ h) : (houU u h a b c d).2 k i = u.2 k i := by
  show va_up (va_up (va_up (va_up u.2 15 _) 16 _) 17 _) 18 _ k i = _
  by_cases c1 : k = 18
  · subst c1
    rw [va_up_self]
    simp [upd, hi, uA, va_up]
  · rw [va_up_ne _ _ c1]
    by_cases c2 : k = 17
    · subst c2
      rw [va_up_self]
      simp [upd, hi, uA, va_up]
    · rw [va_up_ne _ _ c2]
      by_cases c3 : k = 16
      · subst c3
        rw [va_up_self]
        simp [upd, hi, uA, va_up]
      · rw [va_up_ne _ _ c3]
        by_cases c4 : k = 15
        · subst c4
          rw [va_up_self]
          simp [upd, hi]
        · rw [va_up_ne _ _ c4]
theorem houU_h (u : MS) (h : Nat) (a b c d : Int) : (houU u h a b c d).2 15 h = iI a ∧ (houU u h a b c d).2 16 h = iI b ∧ (houU u h a b c d).2 17 h = iI c ∧ (houU u h a b c d).2 18 h = iI d := by
  refine ⟨?_, ?_, ?_, ?_⟩ <;> simp [houU, uI, uA, va_up, upd]
theorem uA_1 (u : MS) (k i : Nat) (v : Int32) : (uA u k i v).1 = u.1 := rfl
theorem uI_at (u : MS) (k : Nat) (v : Int32) : (uI u k v).1 k = v := by simp [uI, upd]
set_option maxHeartbeats 4000000 in
theorem t_house_tail {S : Nat → Nat} {L : Mem} {u u1 u2 u3 u4 u5 u6 : MS} {w a b c d : Int} (n14 : 0 ≤ vN u 14 ∧ vN u 14 ≤ 6) (hE : EndU u u6 w) (r0 : 0 ≤ a ∧ a ≤ 9999) (r1 : 0 ≤ b ∧ b ≤ 9999) (r3 : 0 ≤ d ∧ d ≤ 9999) {n : Nat} (b1 : f_X12_begins S n L u = some u1) (b2 : f_X12_number S n L u1 = some (iI a, u2)) (b3 : f_X12_number S n L u2 = some (iI b, u3)) (b4 : f_X12_number S n L u3 = some (iI c, u4)) (b5 : f_X12_number S n L u4 = some (iI d, u5)) (b6 : f_X12_ends u5 = some (iI 1, u6)) : f_X12_house S n L u = if ¬ ((1 ≤ a ∧ a ≤ 30) ∧ 1 ≤ b ∧ 1 ≤ d ∧ d ≤ 99) then noS (uI u6 4 (iI 3)) 4 else if vN u 14 = 6 then noS u6 9 else fineS (houU u6 (vN u 14).toNat a b c d) (vN u 14) := by
  have w14 : u6.1 14 = iI (vN u 14) := by rw [hE.2.2.2.1 14 (by decide) (by decide) (by decide) (by decide), u1_iI]
  have hf : f_X12_faulty u6 (3 : Int32) = noS (uI u6 4 (iI 3)) 4 := rfl
  have hno : ∀ (v : MS) (z : Int), ((noS v z).bind fun r => some (r.1, r.2)) = noS v z := fun v z => rfl
  have hi1 : f_X12_isIn u6 (iI a) (1 : Int32) (30 : Int32) = some (iI (if 1 ≤ a ∧ a ≤ 30 then 1 else 0)) := t_isIn u6 a 1 30 (by omega) (by omega) (by omega)
  have hi2 : f_X12_isIn u6 (iI d) (1 : Int32) (99 : Int32) = some (iI (if 1 ≤ d ∧ d ≤ 99 then 1 else 0)) := t_isIn u6 d 1 99 (by omega) (by omega) (by omega)
  have e1 : (iI b < (1 : Int32)) ↔ b < 1 := iI_lt b 1 (by omega)
  have e6 : (iI (vN u 14) = (6 : Int32)) ↔ vN u 14 = 6 := iI_eq _ 6 (by omega)
  have qi : vN u 14 < 6 → inb (iI (vN u 14)) 6 := fun q => (iI_inb _ 6 (by omega)).mpr (by omega)
  have ec : (iI (vN u 14)).toNatClampNeg = (vN u 14).toNat := iI_clamp _ (by omega)
  have es : iI (vN u 14) + (1 : Int32) = iI (((vN u 14).toNat : Int) + 1) := by
    rw [show (1 : Int32) = iI 1 from rfl, iI_add, show ((vN u 14).toNat : Int) = vN u 14 by omega]
  have es2 : iI (((vN u 14).toNat : Int) + 1) - (1 : Int32) = iI (vN u 14) := by
    rw [show (1 : Int32) = iI 1 from rfl, iI_sub, show ((vN u 14).toNat : Int) + 1 - 1 = vN u 14 by omega]
  unfold f_X12_house
  simp only [b1, b2, b3, b4, b5, b6, Option.bind_some, uA_1, uI_at]
  rw [if_neg (show ¬ iI 1 = (0 : Int32) by decide)]
  simp only [hi1, hi2, hf, Option.bind_some, b0z, hno, e1, w14, ec, es, es2, e6]
  by_cases q1 : 1 ≤ a ∧ a ≤ 30
  · rw [if_neg (show ¬ ¬ (1 ≤ a ∧ a ≤ 30) from fun q => q q1)]
    by_cases q2 : 1 ≤ b
    · rw [if_neg (show ¬ b < 1 by omega)]
      by_cases q3 : 1 ≤ d ∧ d ≤ 99
      · rw [if_neg (show ¬ ¬ (1 ≤ d ∧ d ≤ 99) from fun q => q q3), if_neg (show ¬ ¬ ((1 ≤ a ∧ a ≤ 30) ∧ 1 ≤ b ∧ 1 ≤ d ∧ d ≤ 99) from fun q => q ⟨q1, q2, q3⟩)]
        by_cases q4 : vN u 14 = 6
        · rw [if_pos q4, if_pos q4]
          rfl
        · have q5 := qi (by omega)
          rw [if_neg q4, if_neg q4, if_pos q5, if_pos q5, if_pos q5, if_pos q5]
          rfl
      · rw [if_pos q3, if_pos (show ¬ ((1 ≤ a ∧ a ≤ 30) ∧ 1 ≤ b ∧ 1 ≤ d ∧ d ≤ 99) from fun q => q3 q.2.2)]
    · rw [if_pos (show b < 1 by omega), if_pos (show ¬ ((1 ≤ a ∧ a ≤ 30) ∧ 1 ≤ b ∧ 1 ≤ d ∧ d ≤ 99) from fun q => q2 q.2.1)]
  · rw [if_pos q1, if_pos (show ¬ ((1 ≤ a ∧ a ≤ 30) ∧ 1 ≤ b ∧ 1 ≤ d ∧ d ≤ 99) from fun q => q1 q.1)]
theorem t_house {S : Nat → Nat} {L : Mem} {u0 : MS} {N : Nat} (hS : LitOK S L) (n : Nat) (hn : 2100 ≤ n) (hT : TapeOK u0 N) (h14 : 0 ≤ vN u0 14 ∧ vN u0 14 ≤ 6) : (¬ houOK (vR u0 0) N ∧ ∃ u6, f_X12_house S n L u0 = noS u6 2 ∧ EndU u0 u6 (houW (vR u0 0) N)) ∨ (houOK (vR u0 0) N ∧ ∃ u6, EndU u0 u6 (-9999) ∧ f_X12_house S n L u0 = if ¬ ((1 ≤ (pcs (vR u0 0) N 0).2.2.1 ∧ (pcs (vR u0 0) N 0).2.2.1 ≤ 30) ∧ 1 ≤ (pcs (vR u0 0) N 1).2.2.1 ∧ 1 ≤ (pcs (vR u0 0) N 3).2.2.1 ∧ (pcs (vR u0 0) N 3).2.2.1 ≤ 99) then noS (uI u6 4 (iI 3)) 4 else if vN u0 14 = 6 then noS u6 9 else fineS (houU u6 (vN u0 14).toNat (pcs (vR u0 0) N 0).2.2.1 (pcs (vR u0 0) N 1).2.2.1 (pcs (vR u0 0) N 2).2.2.1 (pcs (vR u0 0) N 3).2.2.1) (vN u0 14)) := by
  obtain ⟨u1, a1, u2, a2, u3, a3, u4, a4, u5, e, u6, b1, b2, b3, b4, b5, b6, h⟩ := t_readsHouse hS n hn hT
  rcases h with ⟨ok, rfl, ⟨rfl, rfl, rfl, rfl⟩, hE⟩ | ⟨ok, rfl, hE⟩
  · exact Or.inr ⟨ok, u6, hE, t_house_tail h14 hE (pcs_num _ _ _ ok.1) (pcs_num _ _ _ ok.2.1) (pcs_num _ _ _ ok.2.2.2.1) b1 b2 b3 b4 b5 b6⟩
  · refine Or.inl ⟨ok, u6, ?_, hE⟩
    unfold f_X12_house
    rw [b1, Option.bind_some, b2, Option.bind_some, b3, Option.bind_some, b4, Option.bind_some, b5, Option.bind_some, b6, Option.bind_some, if_pos (show iI 0 = (0 : Int32) from rfl)]
    rfl
section HOK
variable {B : Nat} {S : Nat → Nat} {L : Mem} {x0 : Nat} {ad rho : Nat → Nat} {xl : Nat → List Nat} {M M1 : Mem} {u u1 : MS} {sz : Nat}
theorem booF_congr {A A1 : Nat → Nat} (h : ∀ k, 2 ≤ k → k ≤ 7 → A1 k = A k) (st rp ap lf ls : Int32) : booF A1 st rp ap lf ls = booF A st rp ap lf ls := by
  unfold booF
  rw [h 2 (by omega) (by omega), h 3 (by omega) (by omega), h 4 (by omega) (by omega), h 5 (by omega) (by omega), h 6 (by omega) (by omega), h 7 (by omega) (by omega)]
theorem ListsF.sm {u1 : MS} (hs : Same u u1) (hI : Inv u xl) (h5 : vN u1 5 = vN u 5) (h23 : vN u1 23 = vN u 23) (h33 : vN u1 33 = vN u 33) : ListsF u1 xl := by
  have h0 := hI.n5
  refine ⟨fun i hi => ?_, fun l hl p hp => ?_, fun r hr => ?_⟩
  · rw [h5] at hi
    exact ⟨(hI.app i hi).sm hs, (hI.rps i hi).sm hs h33⟩
  · rw [h23] at hl
    rw [hs.lo hl 29 (by omega) (by omega)] at hp
    exact (hI.parf l p hl hp).sm hs hI (by omega) hl
  · rw [h33] at hr
    exact (hI.harf r hr).sm hs hI hr
theorem RepK.no0 (h : RepK B S L x0 ad rho xl M u sz) {a : Nat} (ha : a < B ∨ sz ≤ a) : rho a = 0 := by
  rcases Nat.eq_zero_or_pos (rho a) with q | q
  · exact q
  · have := h.1.2 a (by omega)
    omega
/-- a house more -/
theorem RepK.addHou (hL : LOK B L) (hE : EmpOK S L) (h : RepK B S L x0 ad rho xl M u sz) (hI : Inv u xl) {sz1 wt : Nat} {a b c d : Int} (hlt : sz < wt ∧ wt + 1 < sz1) (fr : ∀ y, y < sz → M1 y = M y) (hc : M1 sz = some (.inl (6, [.int (iI a), .int (iI b), .int (iI c), .int (iI d), .ref wt]))) (ht : ∀ (rho1 : Nat → Nat) (id : Nat), rho1 wt = id → rho1 (wt + 1) = id → TxtR M1 rho1 id wt (numL a ++ ([32] ++ (numL b ++ ([32] ++ (numL c ++ ([32] ++ numL d))))))) (ha : 1 ≤ a ∧ a ≤ 30) (hb : 1 ≤ b ∧ b ≤ 9999) (hcr : 0 ≤ c ∧ c ≤ 9999) (hd : 1 ≤ d ∧ d ≤ 99) (h14 : vN u 14 < 6) : ∃ (M2 : Mem) (sz2 : Nat) (ad1 rho1 : Nat → Nat), f_Jx4a65c_add_9ea2d B S M1 sz1 (some (ad 5)) (some sz) = some (1, M2, sz2) ∧ M2 x0 = M x0 ∧ ad1 5 = ad 5 ∧ RepK B S L x0 ad1 rho1 xl M2 (houU u (vN u 14).toNat a b c d) sz2 ∧ Inv (houU u (vN u 14).toNat a b c d) xl := by
  have n14 := hI.n14
  have n5 := hI.n5
  have n19 := hI.n19
  have n23 := hI.n23
  have n33 := hI.n33
  have hBs : B ≤ sz := by
    have := h.own h.2.1.1 (by decide)
    omega
  have hl5 := h.rows.2.1
  have ow : ∀ y, rho y ≠ 0 → B ≤ y ∧ y < sz := h.1.2
  have hES : EmpOK S M1 ∧ S 20 < B := by
    obtain ⟨q, hq⟩ := hE
    have hlt : S 20 < B := by
      rcases Nat.lt_or_ge (S 20) B with q1 | q1
      · exact q1
      · rw [hL _ q1] at hq
        cases hq
    exact ⟨⟨q, by rw [fr _ (by omega)]; exact h.1.1 _ _ hq⟩, hlt⟩
  have ra : rho (ad 5) = 5 := by
    obtain ⟨mc, e, cap, g, h1, -⟩ := hl5
    exact h1.2
  obtain ⟨M2, sz2, e1, e2, e3, e4⟩ := LisR.add (B := B) (sz := sz1) (x := sz) (hl5.fr (M1 := M1) (rho1 := rho) (fun y hy => ⟨fr y (ow y (by omega)).2, hy⟩)) hES.1 hES.2 (by omega) (fun y hy => by have := ow y (by omega); omega) (by rw [seqA_len]; omega) (fun y hy => by
    simp only [seqA, List.mem_map, List.mem_range] at hy
    obtain ⟨i, hi, rfl⟩ := hy
    obtain ⟨w, g1, -⟩ := h.hou hi
    have g2 := ow (ad (5000 + i)) (by rw [g1.2]; omega)
    refine ⟨isE_at (by rw [fr _ g2.2]; exact g1.1) (by omega), fun e => ?_, by omega⟩
    have := g1.2
    rw [e, ra] at this
    omega) ⟨isE_at hc (by omega), fun e => by have := ow (ad 5) (by omega); omega, by omega⟩
  have hr0 : ∀ y, sz ≤ y → rho y = 0 := fun y hy => h.no0 (Or.inr hy)
  have fr2 : ∀ y, y < sz → rho y ≠ 5 → M2 y = M y := fun y hy h5 => (e3 y h5 (by omega)).trans (fr y hy)
  have hnew : ∀ y, sz ≤ y → y < sz1 → M2 y = M1 y := fun y y1 y2 => e3 y (by rw [hr0 y y1]; omega) y2
  have hsz2 : sz1 ≤ sz2 := by omega
  have a1 : ∀ id, id ≠ 5000 + (vN u 14).toNat → (fun id => if id = 5000 + (vN u 14).toNat then sz else ad id) id = ad id := fun id hid => if_neg hid
  have kp : ∀ id, id ≠ 0 → id ≠ 5 → Kept M rho id M2 (fun y => if y < sz then rho y else if y < sz1 then 5000 + (vN u 14).toNat else if y < sz2 then 5 else 0) := fun id i0 i5 y hy => by
    have := ow y (by omega)
    exact ⟨fr2 y this.2 (by omega), by show (if y < sz then rho y else _) = id; rw [if_pos this.2]; exact hy⟩
  have hs : Same u (houU u (vN u 14).toNat a b c d) := by
    refine ⟨⟨houU_n _ _ _ _ _ _ 10 (by decide), houU_r _ _ _ _ _ _ 11 (by omega), houU_r _ _ _ _ _ _ 12 (by omega), houU_r _ _ _ _ _ _ 13 (by omega)⟩, fun i hi k k1 k2 => ?_, fun i hi k k1 k2 => ?_, fun c hc => ⟨?_, fun j hj => ⟨?_, ?_⟩⟩, fun l hl => ⟨fun k k1 k2 => ?_, fun p hp k k1 k2 => ?_⟩, fun r hr => ⟨fun k k1 k2 => ?_, fun j hj k k1 k2 => ?_⟩⟩
    · rw [houU_r _ _ _ _ _ _ k (by omega)]
    · exact houU_o _ _ _ _ _ _ k i (by omega)
    · rw [houU_r _ _ _ _ _ _ 20 (by omega)]
    · rw [houU_r _ _ _ _ _ _ 21 (by omega)]
    · rw [houU_r _ _ _ _ _ _ 22 (by omega)]
    · rw [houU_r _ _ _ _ _ _ k (by omega)]
    · rw [houU_r _ _ _ _ _ _ k (by omega)]
    · rw [houU_r _ _ _ _ _ _ k (by omega)]
    · rw [houU_r _ _ _ _ _ _ k (by omega)]
  have vn : ∀ k, k ≠ 14 → vN (houU u (vN u 14).toNat a b c d) k = vN u k := fun k hk => by
    unfold vN
    rw [houU_n _ _ _ _ _ _ k hk]
  have v14 : vN (houU u (vN u 14).toNat a b c d) 14 = vN u 14 + 1 := by
    show ((houU u (vN u 14).toNat a b c d).1 14).toInt = _
    rw [houU_14, toInt_iI _ (by omega) (by omega)]
    omega
  obtain ⟨w15, w16, w17, w18⟩ := houU_h u (vN u 14).toNat a b c d
  have hIn : Inv (houU u (vN u 14).toNat a b c d) xl := by
    refine hI.sm hs ?_ (by rw [vn 5 (by decide)]; omega) (by omega) (by rw [vn 19 (by decide)]; omega) (vn 23 (by decide)) (fun i i1 i2 => by rw [vn 5 (by decide)] at i2; omega) (fun i i1 i2 => ?_) (fun i i1 i2 => by rw [vn 19 (by decide)] at i2; omega) (fun i i1 i2 => by rw [vn 33 (by decide)] at i2; omega) (ListsF.sm hs hI (vn 5 (by decide)) (vn 23 (by decide)) (vn 33 (by decide)))
    · have := hI.num
      unfold NumOK at *
      rw [vn 1 (by decide), vn 5 (by decide), vn 10 (by decide), vn 19 (by decide), vn 23 (by decide), vn 33 (by decide), v14]
      omega
    · have ei : i = (vN u 14).toNat := by omega
      subst ei
      unfold HouK vR
      rw [w15, w16, w17, w18, toInt_iI a (by omega) (by omega), toInt_iI b (by omega) (by omega), toInt_iI c (by omega) (by omega), toInt_iI d (by omega) (by omega)]
      omega
  have old := RepK.old (M1 := M2) (ad1 := fun id => if id = 5000 + (vN u 14).toNat then sz else ad id) (rho1 := fun y => if y < sz then rho y else if y < sz1 then 5000 + (vN u 14).toNat else if y < sz2 then 5 else 0) (xl1 := xl) hs hI h (by rw [vn 5 (by decide)]; omega) (vn 23 (by decide)) (fun id => id = 5000 + (vN u 14).toNat) (fun id i1 i2 => ⟨kp id (by omega) (by omega), a1 id i2, rfl⟩) (fun i hi => a1 _ (by omega)) (fun i hi => by omega) (fun i hi => by omega) (fun c hc => by omega) (fun l hl => ⟨by omega, fun p hp => by omega⟩) (fun r hr => by omega)
  refine ⟨M2, sz2, fun id => if id = 5000 + (vN u 14).toNat then sz else ad id, fun y => if y < sz then rho y else if y < sz1 then 5000 + (vN u 14).toNat else if y < sz2 then 5 else 0, e1, fr2 x0 (ow x0 (by rw [h.2.1.1.2]; decide)).2 (by rw [h.2.1.1.2]; decide), a1 5 (by omega), ⟨⟨fun y e hy => ?_, fun y hy => ?_⟩, ⟨⟨?_, ?_⟩, ?_, ?_, ?_, ?_, ?_, ?_⟩, ?_, ?_, ?_, ?_, ?_⟩, hIn⟩
  · have hyB : y < B := by
      rcases Nat.lt_or_ge y B with q1 | q1
      · exact q1
      · rw [hL _ q1] at hy
        cases hy
    rw [fr2 y (by omega) (by rw [h.no0 (Or.inl hyB)]; decide)]
    exact h.1.1 y e hy
  · have hy2 : (if y < sz then rho y else if y < sz1 then 5000 + (vN u 14).toNat else if y < sz2 then 5 else 0) ≠ 0 := hy
    by_cases q1 : y < sz
    · rw [if_pos q1] at hy2
      have := ow y hy2
      omega
    · rw [if_neg q1] at hy2
      by_cases q2 : y < sz1
      · omega
      · rw [if_neg q2] at hy2
        by_cases q3 : y < sz2
        · omega
        · rw [if_neg q3] at hy2
          exact absurd rfl hy2
  · rw [booF_congr (A := ad) (fun k k1 k2 => a1 k (by omega)), hs.std hI (vn 23 (by decide)), houU_n _ _ _ _ _ _ 33 (by decide), houU_n _ _ _ _ _ _ 10 (by decide), houU_n _ _ _ _ _ _ 4 (by decide), houU_n _ _ _ _ _ _ 2 (by decide)]
    exact (kp 1 (by decide) (by decide) x0 h.2.1.1.2).1.trans h.book
  · exact (kp 1 (by decide) (by decide) x0 h.2.1.1.2).2
  · exact h.2.1.2.1.sm (kp 2 (by decide) (by decide)) (a1 2 (by omega)) (houU_r _ _ _ _ _ _ 0 (by omega)) (houU_n _ _ _ _ _ _ 1 (by decide))
  · exact h.2.1.2.2.1.sm (kp 3 (by decide) (by decide)) (a1 3 (by omega)) (houU_n _ _ _ _ _ _ 3 (by decide))
  · rw [a1 4 (by omega), vn 5 (by decide), seqA_congr (ad := ad) (fun i hi => a1 _ (by omega))]
    exact h.rows.1.fr (kp 4 (by decide) (by decide))
  · have := e4 (fun y => if y < sz then rho y else if y < sz1 then 5000 + (vN u 14).toNat else if y < sz2 then 5 else 0) (fun y hy => by
      show (if y < sz then rho y else _) = 5
      rw [if_pos (ow y (by omega)).2]
      exact hy) (fun hz => by
      show (if sz1 < sz then rho sz1 else if sz1 < sz1 then 5000 + (vN u 14).toNat else if sz1 < sz2 then 5 else 0) = 5
      rw [if_neg (by omega), if_neg (by omega), if_pos hz])
    rw [a1 5 (by omega), v14, seqA_succ n14.1 rfl, seqA_congr (ad := ad) (fun i hi => a1 _ (by omega)), if_pos rfl]
    exact this
  · rw [a1 6 (by omega), vn 19 (by decide), seqA_congr (ad := ad) (fun i hi => a1 _ (by omega))]
    exact h.rows.2.2.1.fr (kp 6 (by decide) (by decide))
  · rw [a1 7 (by omega), vn 23 (by decide), seqA_congr (ad := ad) (fun i hi => a1 _ (by omega))]
    exact h.rows.2.2.2.fr (kp 7 (by decide) (by decide))
  · intro i hi
    rw [vn 5 (by decide)] at hi
    exact old.1 i hi (by omega)
  · intro i hi
    rw [v14] at hi
    by_cases q : i < (vN u 14).toNat
    · exact old.2.1 i q
    · have ei : i = (vN u 14).toNat := by omega
      subst ei
      have rn : ∀ y, sz ≤ y → y < sz1 → (if y < sz then rho y else if y < sz1 then 5000 + (vN u 14).toNat else if y < sz2 then 5 else 0) = 5000 + (vN u 14).toNat := fun y y1 y2 => by rw [if_neg (by omega), if_pos y2]
      refine ⟨wt, ⟨?_, ?_⟩, ?_⟩
      · rw [show (fun id => if id = 5000 + (vN u 14).toNat then sz else ad id) (5000 + (vN u 14).toNat) = sz from if_pos rfl, w15, w16, w17, w18, hnew sz (by omega) (by omega)]
        exact hc
      · rw [show (fun id => if id = 5000 + (vN u 14).toNat then sz else ad id) (5000 + (vN u 14).toNat) = sz from if_pos rfl]
        exact rn sz (by omega) (by omega)
      · have et : houT (houU u (vN u 14).toNat a b c d) (vN u 14).toNat = numL a ++ ([32] ++ (numL b ++ ([32] ++ (numL c ++ ([32] ++ numL d))))) := by
          unfold houT vR
          rw [w15, w16, w17, w18, toInt_iI a (by omega) (by omega), toInt_iI b (by omega) (by omega), toInt_iI c (by omega) (by omega), toInt_iI d (by omega) (by omega)]
        rw [et]
        exact txt_up ht (hnew wt (by omega) (by omega)) (hnew (wt + 1) (by omega) (by omega)) (rn wt (by omega) (by omega)) (rn (wt + 1) (by omega) (by omega))
  · intro c hc
    rw [vn 19 (by decide)] at hc
    exact old.2.2.1 c hc
  · intro l hl
    rw [vn 23 (by decide)] at hl
    exact old.2.2.2.1 l hl
  · intro r hr
    rw [vn 33 (by decide)] at hr
    exact old.2.2.2.2 r hr
end HOK
