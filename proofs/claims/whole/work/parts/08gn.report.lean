/-! REPORT: both sides' states -/
/-- a report more -/
def RpU (u u8 : MS) (r c : Nat) (T D : Int) (t : List Int) : Prop := (∀ k, k ≠ 33 → u8.1 k = u.1 k) ∧ u8.1 33 = iI ((r : Int) + 1) ∧ (∀ k, k < 34 ∨ 39 < k → u8.2 k = u.2 k) ∧ (∀ k q, k ≤ 36 → q ≠ r → u8.2 k q = u.2 k q) ∧ (u8.2 34 r = iI T ∧ u8.2 35 r = iI D ∧ u8.2 36 r = iI c) ∧ (∀ k q, 37 ≤ k → q < r * 16 → u8.2 k q = u.2 k q) ∧ ∀ q, q < c → u8.2 37 (r * 16 + q) = iI (t.getD (3 * q) 0) ∧ u8.2 38 (r * 16 + q) = iI (t.getD (3 * q + 1) 0) ∧ u8.2 39 (r * 16 + q) = iI (t.getD (3 * q + 2) 0)
theorem HaU.rpu {u u7 : MS} {r c : Nat} {T D : Int} {t : List Int} (h : HaU (uA (uA (uA u 34 r (iI T)) 35 r (iI D)) 36 r (iI c)) u7 r c t) : RpU u (uI u7 33 (iI ((r : Int) + 1))) r c T D t := by
  obtain ⟨h1, h2, h3, h4⟩ := h
  have k34 : u7.2 34 = upd (u.2 34) r (iI T) := by rw [h2 34 (by decide) (by decide) (by decide), uA_n _ _ _ _ (by decide), uA_n _ _ _ _ (by decide), uA_s]
  have k35 : u7.2 35 = upd (u.2 35) r (iI D) := by rw [h2 35 (by decide) (by decide) (by decide), uA_n _ _ _ _ (by decide), uA_s, uA_n _ _ _ _ (by decide)]
  have k36 : u7.2 36 = upd (u.2 36) r (iI c) := by rw [h2 36 (by decide) (by decide) (by decide), uA_s, uA_n _ _ _ _ (by decide), uA_n _ _ _ _ (by decide)]
  have ko : ∀ k, k ≠ 34 → k ≠ 35 → k ≠ 36 → (uA (uA (uA u 34 r (iI T)) 35 r (iI D)) 36 r (iI c)).2 k = u.2 k := fun k a b c => by rw [uA_n _ _ _ _ c, uA_n _ _ _ _ b, uA_n _ _ _ _ a]
  refine ⟨fun k hk => ?_, uI_at _ _ _, fun k hk => ?_, fun k q hk hq => ?_, ⟨?_, ?_, ?_⟩, fun k q hk hq => ?_, fun q hq => h4 q hq⟩
  · show upd u7.1 33 (iI ((r : Int) + 1)) k = _
    unfold upd
    rw [if_neg hk, h1]
    rfl
  · show u7.2 k = _
    rw [h2 k (by omega) (by omega) (by omega), ko k (by omega) (by omega) (by omega)]
  · show u7.2 k q = _
    by_cases e4 : k = 34
    · rw [e4, k34]
      unfold upd
      rw [if_neg hq]
    · by_cases e5 : k = 35
      · rw [e5, k35]
        unfold upd
        rw [if_neg hq]
      · by_cases e6 : k = 36
        · rw [e6, k36]
          unfold upd
          rw [if_neg hq]
        · rw [h2 k (by omega) (by omega) (by omega), ko k e4 e5 e6]
  · show u7.2 34 r = _
    rw [k34]
    unfold upd
    rw [if_pos rfl]
  · show u7.2 35 r = _
    rw [k35]
    unfold upd
    rw [if_pos rfl]
  · show u7.2 36 r = _
    rw [k36]
    unfold upd
    rw [if_pos rfl]
  · show u7.2 k q = _
    rw [h3 k q hq, ko k (by omega) (by omega) (by omega)]
def ZR (i r id : Nat) : Prop := id = 10000 + r ∨ id = 4000 + i
theorem ZR_out {i r id : Nat} (hi : i < 16) (h : id < 4000 ∨ (5000 ≤ id ∧ id < 10000)) : ¬ ZR i r id := by
  unfold ZR
  omega
theorem ZR_lt {i r q : Nat} (hi : i < 16) (hq : q < r) : ¬ ZR i r (10000 + q) := by
  unfold ZR
  omega
theorem ZR_thi {i r q : Nat} (hi : i < 16) (hq : q < 16) (h : q ≠ i) : ¬ ZR i r (4000 + q) := by
  unfold ZR
  omega
def adR (ad : Nat → Nat) (r sz : Nat) : Nat → Nat := fun id => if id = 10000 + r then sz else ad id
theorem adR_old (ad : Nat → Nat) {r sz id : Nat} (h : id ≠ 10000 + r) : adR ad r sz id = ad id := if_neg h
theorem adR_new (ad : Nat → Nat) (r sz : Nat) : adR ad r sz (10000 + r) = sz := if_pos rfl
def xlR (xl : Nat → List Nat) (i r : Nat) (l1 xs : List Nat) : Nat → List Nat := fun id => if id = 4000 + i then l1 else if id = 10000 + r then xs else xl id
theorem xlR_old (xl : Nat → List Nat) {i r id : Nat} {l1 xs : List Nat} (h : ¬ ZR i r id) : xlR xl i r l1 xs id = xl id := by
  unfold ZR at h
  unfold xlR
  rw [if_neg (by omega), if_neg (by omega)]
theorem xlR_new (xl : Nat → List Nat) {i r : Nat} (l1 xs : List Nat) (hi : i < 16) : xlR xl i r l1 xs (4000 + i) = l1 ∧ xlR xl i r l1 xs (10000 + r) = xs := by
  unfold xlR
  exact ⟨if_pos rfl, by rw [if_neg (by omega), if_pos rfl]⟩
def rhoR (rho : Nat → Nat) (i r sz sz1 sz2 : Nat) : Nat → Nat := fun y => if y < sz then rho y else if y < sz1 then 10000 + r else if y < sz2 then 4000 + i else 0
theorem rhoR_old (rho : Nat → Nat) {i r sz sz1 sz2 y : Nat} (hy : y < sz) : rhoR rho i r sz sz1 sz2 y = rho y := if_pos hy
theorem rhoR_new (rho : Nat → Nat) {i r sz sz1 sz2 y : Nat} (h1 : sz ≤ y) (h2 : y < sz1) : rhoR rho i r sz sz1 sz2 y = 10000 + r := by
  unfold rhoR
  rw [if_neg (by omega), if_pos h2]
theorem rhoR_lt (rho : Nat → Nat) {i r sz sz1 sz2 y : Nat} (h1 : sz ≤ sz1) (h2 : sz1 ≤ sz2) (hy : rhoR rho i r sz sz1 sz2 y ≠ 0) : y < sz2 := by
  rcases Nat.lt_or_ge y sz2 with q | q
  · exact q
  · exfalso
    apply hy
    unfold rhoR
    rw [if_neg (by omega), if_neg (by omega), if_neg (by omega)]
theorem rhoR_lis (rho : Nat → Nat) {i r sz sz1 sz2 : Nat} (h1 : sz ≤ sz1) (h2 : sz1 < sz2) : rhoR rho i r sz sz1 sz2 sz1 = 4000 + i := by
  unfold rhoR
  rw [if_neg (by omega), if_neg (by omega), if_pos h2]
section REA
variable {B : Nat} {S : Nat → Nat} {L : Mem} {x0 : Nat} {ad rho : Nat → Nat} {xl : Nat → List Nat} {M M1 : Mem} {u u8 : MS} {sz : Nat} {t : List Int}
/-- new cells beside the old ones -/
theorem RepK.more (hL : LOK B L) (h : RepK B S L x0 ad rho xl M u sz) (fr : ∀ y, y < sz → M1 y = M y) : RepK B S L x0 ad rho xl M1 u sz := by
  have k : ∀ id, id ≠ 0 → Kept M rho id M1 rho := fun id hid a ha => ⟨fr a (h.1.2 a (by omega)).2, ha⟩
  have hcon := h.con hL (fun y hy _ => fr y hy)
  obtain ⟨⟨c1, c2⟩, ⟨b1, b2, b3, b4⟩, t1, t2, t3, t4, t5⟩ := h
  refine ⟨⟨hcon, c2⟩, ⟨⟨((k 1 (by decide)) x0 b1.2).1.trans b1.1, b1.2⟩, b2.fr (k 2 (by decide)), b3.fr (k 3 (by decide)), b4.fr (k 4 (by decide)) (k 5 (by decide)) (k 6 (by decide)) (k 7 (by decide))⟩, ?_, ?_, ?_, ?_, ?_⟩
  · exact fun i hi => (t1 i hi).fr (k _ (by omega)) (k _ (by omega)) (k _ (by omega)) (k _ (by omega))
  · exact fun i hi => (t2 i hi).fr (k _ (by omega))
  · exact fun i hi => (t3 i hi).fr (k _ (by omega)) (k _ (by omega))
  · exact fun i hi => (t4 i hi).fr (k _ (by omega)) (fun p _ => k _ (by omega))
  · exact fun i hi => (t5 i hi).fr (k _ (by omega))
theorem RpU.same {r c : Nat} {T D : Int} (h : RpU u u8 r c T D t) (hr : (vN u 33).toNat = r) : Same u u8 := by
  obtain ⟨h1, h2, h3, h4, h5, h6, h7⟩ := h
  refine ⟨⟨h1 10 (by decide), h3 11 (by omega), h3 12 (by omega), h3 13 (by omega)⟩, fun q hq k k1 k2 => ?_, fun q hq k k1 k2 => ?_, fun q hq => ⟨?_, fun j hj => ⟨?_, ?_⟩⟩, fun l hl => ⟨fun k k1 k2 => ?_, fun p hp k k1 k2 => ?_⟩, fun q hq => ⟨fun k k1 k2 => h4 k q k2 (by omega), fun j hj k k1 k2 => h6 k _ k1 (by omega)⟩⟩
  · rw [h3 k (by omega)]
  · rw [h3 k (by omega)]
  · rw [h3 20 (by omega)]
  · rw [h3 21 (by omega)]
  · rw [h3 22 (by omega)]
  · rw [h3 k (by omega)]
  · rw [h3 k (by omega)]
/-- no report of a day: its place among the thing's reports -/
theorem rep_place (hI : Inv u xl) {i : Nat} (hi : i < (vN u 5).toNat) {d : Int} (hno : ¬ (0 ≤ inS u i d ∧ vR u 35 (inS u i d).toNat = d)) : ∃ q : Nat, q ≤ (xl (4000 + i)).length ∧ latF (fun k => vR u 35 ((xl (4000 + i)).getD k 0)) d (xl (4000 + i)).length = (q : Int) - 1 ∧ (∀ a, a ∈ (xl (4000 + i)).take q → vR u 35 a < d) ∧ ∀ a, a ∈ (xl (4000 + i)).drop q → d < vR u 35 a := by
  have hF := hI.rps i hi
  refine lat_parts (fun r => vR u 35 r) _ d hF.2 (fun a ha e => hno ?_)
  obtain ⟨ha1, ha2⟩ := (hF.mem a).mp ha
  rcases inF_spec u i d (vN u 33).toNat with ⟨-, q⟩ | ⟨j, j1, j2, j3, j4, j5⟩
  · have := q a ha1 ha2
    omega
  · have := j5 a ha1 ha2 (by omega)
    have e4 : inS u i d = j := j4
    rw [e4, Int.toNat_natCast]
    omega
set_option maxHeartbeats 4000000 in
theorem RepK.addRpt (hL : LOK B L) (hE : EmpOK S L) (h : RepK B S L x0 ad rho xl M u sz) (hI : Inv u xl) {sz1 wt c i q : Nat} {D : Int} {xs : List Nat} {F G : Nat → Int32} (hlt : sz + 3 ≤ sz1) (fr : ∀ y, y < sz → M1 y = M y) (hru : RpU u u8 (vN u 33).toNat c i D t) (hv : valH c t) (hok : hOK t c 0 = true) (hc15 : c ≤ 15) (hi : i < (vN u 5).toNat) (hD : 0 ≤ D ∧ D ≤ 999)
    (hc : RO3 M1 sz c (.int (iI D)) (.ref wt) F G) (hx : SrtH t xs c F G) (ht : (c = 0 ∧ wt = S 1) ∨ (0 < c ∧ sz + 3 ≤ wt ∧ wt + 1 < sz1 ∧ ∀ (rho1 : Nat → Nat) (id : Nat), rho1 wt = id → rho1 (wt + 1) = id → TxtR M1 rho1 id wt (harT (kH t) (fun q => t.getD (3 * q + 2) 0) xs false))) (h33 : vN u 33 < 48)
    (hq : q ≤ (xl (4000 + i)).length) (hq1 : ∀ a, a ∈ (xl (4000 + i)).take q → vR u 35 a < D) (hq2 : ∀ a, a ∈ (xl (4000 + i)).drop q → D < vR u 35 a) : ∃ (M2 : Mem) (sz2 : Nat) (ad1 rho1 : Nat → Nat) (xl1 : Nat → List Nat), f_Jx4a65c_add_7a177 B S M1 sz1 (some (ad (4000 + i))) (iI q) (some sz) = some (M2, sz2) ∧ M2 x0 = M x0 ∧ (∀ y, rho y ≠ 4000 + i → y < sz → M2 y = M y) ∧ ad1 (1000 + i) = ad (1000 + i) ∧ RepK B S L x0 ad1 rho1 xl1 (va_up M2 x0 (some (.inl (14, booF ad (iI (stdS u)) (iI (vN u 33 + 1)) (u.1 10) (u.1 4) (u.1 2))))) u8 sz2 ∧ Inv u8 xl1 ∧ (xl1 (4000 + i)).length = (xl (4000 + i)).length + 1 := by
  have n14 := hI.n14
  have n5 := hI.n5
  have n19 := hI.n19
  have n23 := hI.n23
  have n33 := hI.n33
  have hx0 := h.xlt
  have hxr : rho x0 = 1 := h.2.1.1.2
  have hlX := (h.thi hi).2.2.2
  have ow : ∀ y, rho y ≠ 0 → B ≤ y ∧ y < sz := h.1.2
  have hES := h.empS hL hE fr
  have ra : rho (ad (4000 + i)) = 4000 + i := hlX.own
  have hmem : ∀ a, a ∈ xl (4000 + i) → a < (vN u 33).toNat ∧ vR u 34 a = i := fun a ha => ((hI.rps i hi).mem a).mp ha
  have hll : (xl (4000 + i)).length ≤ 48 := by
    rw [(hI.rps i hi).1.length_eq]
    exact Nat.le_trans (List.length_filter_le ..) (by rw [List.length_range]; omega)
  obtain ⟨M2, sz2, e1, e2, e3, e4⟩ := LisR.ins (B := B) (sz := sz1) (x := sz) (hlX.fr (M1 := M1) (rho1 := rho) (fun y hy => ⟨fr y (ow y (by omega)).2, hy⟩)) hES.1 hES.2 (by omega) (fun y hy => by have := ow y (by omega); omega) (by rw [List.length_map]; omega) (fun y hy => by
    obtain ⟨a, ha, rfl⟩ := List.mem_map.mp hy
    obtain ⟨w, s, z, f, g, g1, -⟩ := h.rpt (hmem a ha).1
    have g2 := ow (ad (10000 + a)) (by rw [g1.2]; omega)
    refine ⟨isE_at (by rw [fr _ g2.2]; exact g1.1) (by omega), fun e => ?_, by omega⟩
    have := g1.2
    rw [e, ra] at this
    omega) ⟨isE_at hc.1 (by omega), fun e => by have := ow (ad (4000 + i)) (by omega); omega, by omega⟩ q (by rw [List.length_map]; exact hq)
  have hr0 : ∀ y, sz ≤ y → rho y = 0 := fun y hy => h.no0 (Or.inr hy)
  have fr2 : ∀ y, rho y ≠ 4000 + i → y < sz → M2 y = M y := fun y h5 hy => (e3 y h5 (by omega)).trans (fr y hy)
  have hnew : ∀ y, sz ≤ y → y < sz1 → M2 y = M1 y := fun y y1 y2 => e3 y (by rw [hr0 y y1]; omega) y2
  have hs : Same u u8 := hru.same rfl
  generalize hr5 : (vN u 33).toNat = r at *
  have hin : (r : Int) = vN u 33 := by omega
  have hi16 : i < 16 := by omega
  have zo : ∀ id, id < 4000 ∨ (5000 ≤ id ∧ id < 10000) → ¬ ZR i r id := fun id => ZR_out hi16
  have hbx : ∀ y, y ≠ x0 → (va_up M2 x0 (some (.inl (14, booF ad (iI (stdS u)) (iI (vN u 33 + 1)) (u.1 10) (u.1 4) (u.1 2))))) y = M2 y := fun y hy => va_up_ne _ _ hy
  have kp : ∀ id, id ≠ 0 → id ≠ 1 → id ≠ 4000 + i → Kept M rho id (va_up M2 x0 (some (.inl (14, booF ad (iI (stdS u)) (iI (vN u 33 + 1)) (u.1 10) (u.1 4) (u.1 2))))) (rhoR rho i r sz sz1 sz2) := fun id i0 i1 i4 y hy => by
    have := ow y (by omega)
    refine ⟨?_, by rw [rhoR_old rho this.2]; exact hy⟩
    rw [hbx y (fun e => by rw [e, hxr] at hy; exact i1 hy.symm)]
    exact fr2 y (by omega) this.2
  obtain ⟨k1, k2, k3, k4, ⟨k34, k35, k36⟩, k6, k7⟩ := hru
  have vn : ∀ k, k ≠ 33 → vN u8 k = vN u k := fun k hk => by
    unfold vN
    rw [k1 k hk]
  have v33 : vN u8 33 = vN u 33 + 1 := by
    show (u8.1 33).toInt = _
    rw [k2, toInt_iI _ (by omega) (by omega)]
    omega
  have r34 : vR u8 34 r = i := by unfold vR; rw [k34, toInt_iI _ (by omega) (by omega)]
  have r35 : vR u8 35 r = D := by unfold vR; rw [k35, toInt_iI _ (by omega) (by omega)]
  have r36 : vR u8 36 r = c := by unfold vR; rw [k36, toInt_iI _ (by omega) (by omega)]
  have r37 : ∀ p : Nat, p < c → vR u8 37 (r * 16 + p) = t.getD (3 * p) 0 ∧ vR u8 38 (r * 16 + p) = t.getD (3 * p + 1) 0 ∧ vR u8 39 (r * 16 + p) = t.getD (3 * p + 2) 0 := fun p hp => by
    have := hv p hp
    unfold vR
    rw [(k7 p hp).1, (k7 p hp).2.1, (k7 p hp).2.2, toInt_iI _ (by omega) (by omega), toInt_iI _ (by omega) (by omega), toInt_iI _ (by omega) (by omega)]
    exact ⟨rfl, rfl, rfl⟩
  have hkey : ∀ p : Nat, p < c → keyS u8 r p = kH t p := fun p hp => by
    unfold keyS kH
    rw [(r37 p hp).1, (r37 p hp).2.1]
  have hxlen := hx.len
  have hxm : ∀ p, p ∈ xs → p < c := fun p hp => List.mem_range.mp (hx.1.mem_iff.mp hp)
  have hl1len : ((xl (4000 + i)).take q ++ r :: (xl (4000 + i)).drop q).length = (xl (4000 + i)).length + 1 := ins_len _ _ _ hq
  have xN := xlR_new (r := r) xl ((xl (4000 + i)).take q ++ r :: (xl (4000 + i)).drop q) xs hi16
  have old34 : ∀ a, a < r → vR u8 34 a = vR u 34 a ∧ vR u8 35 a = vR u 35 a := fun a ha => ⟨hs.re (by omega) 34 (by omega) (by omega), hs.re (by omega) 35 (by omega) (by omega)⟩
  have hLs : ListsF u8 (xlR xl i r ((xl (4000 + i)).take q ++ r :: (xl (4000 + i)).drop q) xs) := by
    refine ⟨fun p hp => ?_, fun l hl p hp => ?_, fun p hp => ?_⟩
    · rw [vn 5 (by decide)] at hp
      rw [xlR_old xl (zo (3000 + p) (by omega))]
      refine ⟨(hI.app p hp).sm hs, ?_⟩
      have hF := hI.rps p hp
      have hmp : ∀ a, a ∈ xl (4000 + p) → a < r := fun a ha => by have := ((hF.mem a).mp ha).1; omega
      unfold RpsF
      rw [v33, show (vN u 33 + 1).toNat = r + 1 by omega]
      by_cases e : p = i
      · subst e
        rw [xN.1]
        have hF1 := hF.1
        rw [hr5] at hF1
        exact ⟨perm_ins hF1 (fun a ha => by simp only [(old34 a ha).1]) (by simp only [r34, decide_true]), pair_ins hF.2 (fun a ha => (old34 a (hmp a ha)).2) (fun a ha => by rw [r35]; exact hq1 a ha) (fun a ha => by rw [r35]; exact hq2 a ha)⟩
      · rw [xlR_old xl (ZR_thi hi16 (by omega) e)]
        have hF1 := hF.1
        rw [hr5] at hF1
        refine ⟨perm_out hF1 (fun a ha => by rw [(old34 a ha).1]) (by rw [r34]; exact decide_eq_false (by omega)), hF.2.imp_of_mem (fun {a b} ha hb hab => ?_)⟩
        rw [(old34 a (hmp a ha)).2, (old34 b (hmp b hb)).2]
        exact hab
    · rw [vn 23 (by decide)] at hl
      rw [hs.lo hl 29 (by omega) (by omega)] at hp
      have := hI.par l hl
      rw [xlR_old xl (zo _ (by omega))]
      exact (hI.parf l p hl hp).sm hs hI (by rw [vn 5 (by decide)]; omega) hl
    · rw [v33] at hp
      by_cases e : p = r
      · subst e
        rw [xN.2]
        refine ⟨by rw [r36, Int.toNat_natCast]; exact hx.1, hx.2.1.imp_of_mem (fun {a b} ha hb hab => ?_)⟩
        rw [hkey a (hxm a ha), hkey b (hxm b hb)]
        exact hab
      · rw [xlR_old xl (ZR_lt hi16 (by omega))]
        exact (hI.harf p (by omega)).sm hs hI (by omega)
  have hIn : Inv u8 (xlR xl i r ((xl (4000 + i)).take q ++ r :: (xl (4000 + i)).drop q) xs) := by
    refine hI.sm hs ?_ (by rw [vn 5 (by decide)]; omega) (by rw [vn 14 (by decide)]; omega) (by rw [vn 19 (by decide)]; omega) (vn 23 (by decide)) (fun p i1 i2 => by rw [vn 5 (by decide)] at i2; omega) (fun p i1 i2 => by rw [vn 14 (by decide)] at i2; omega) (fun p i1 i2 => by rw [vn 19 (by decide)] at i2; omega) (fun p i1 i2 => ?_) hLs
    · have := hI.num
      unfold NumOK at *
      rw [vn 1 (by decide), vn 5 (by decide), vn 14 (by decide), vn 10 (by decide), vn 23 (by decide), vn 19 (by decide), v33]
      omega
    · have ei : p = r := by omega
      subst ei
      refine ⟨?_, ?_, by rw [r34, vn 5 (by decide)]; omega, by rw [r36]; omega⟩
      · unfold RepOK
        rw [Int.toNat_natCast, r34, r35, r36]
        omega
      · unfold HarOK
        rw [Int.toNat_natCast, r36]
        intro a a0 a1
        have h1 := r37 a.toNat (by omega)
        have h2 := hv a.toNat (by omega)
        have h3 := hOK_all 0 hok a.toNat (by omega) (by omega)
        rw [show ((p : Int) * 16 + a).toNat = p * 16 + a.toNat by omega, h1.1, h1.2.1, h1.2.2]
        omega
  have old := RepK.old (M1 := va_up M2 x0 (some (.inl (14, booF ad (iI (stdS u)) (iI (vN u 33 + 1)) (u.1 10) (u.1 4) (u.1 2))))) (ad1 := adR ad r sz) (rho1 := rhoR rho i r sz sz1 sz2) (xl1 := xlR xl i r ((xl (4000 + i)).take q ++ r :: (xl (4000 + i)).drop q) xs) hs hI h (by rw [vn 5 (by decide)]; omega) (vn 23 (by decide)) (ZR i r) (fun id i1 i2 => ⟨kp id (by omega) (by omega) (fun e => i2 (Or.inr e)), adR_old ad (fun e => i2 (Or.inl e)), xlR_old xl i2⟩) (fun p hp => adR_old ad (by omega)) (fun p hp => ⟨zo _ (by omega), zo _ (by omega), zo _ (by omega)⟩) (fun p hp => zo _ (by omega)) (fun p hp => ⟨zo _ (by omega), zo _ (by omega)⟩) (fun l hl => ⟨zo _ (by omega), fun p hp => zo _ (by omega)⟩) (fun p hp => ZR_lt hi16 (by omega))
  refine ⟨M2, sz2, adR ad r sz, rhoR rho i r sz sz1 sz2, _, e1, fr2 x0 (by omega) hx0.2, fr2, adR_old ad (by omega), ⟨⟨fun y e hy => ?_, fun y hy => ?_⟩, ⟨⟨?_, ?_⟩, ?_, ?_, ?_, ?_, ?_, ?_⟩, ?_, ?_, ?_, ?_, ?_⟩, hIn, by rw [xN.1]; exact hl1len⟩
  · have hyB : y < B := by
      rcases Nat.lt_or_ge y B with q1 | q1
      · exact q1
      · rw [hL _ q1] at hy
        cases hy
    rw [hbx y (by omega), fr2 y (by rw [h.no0 (Or.inl hyB)]; omega) (by omega)]
    exact h.1.1 y e hy
  · have hlt2 := rhoR_lt rho (show sz ≤ sz1 by omega) (show sz1 ≤ sz2 by omega) hy
    by_cases q1 : y < sz
    · rw [rhoR_old rho q1] at hy
      exact ⟨(ow y hy).1, hlt2⟩
    · omega
  · rw [booF_congr (A := ad) (fun k k1 k2 => adR_old ad (by omega)), hs.std hI (vn 23 (by decide)), va_up_self, k2, k1 10 (by decide), k1 4 (by decide), k1 2 (by decide), hin]
  · rw [rhoR_old rho hx0.2]
    exact hxr
  · exact h.2.1.2.1.sm (kp 2 (by decide) (by decide) (by omega)) (adR_old ad (by omega)) (k3 0 (by omega)) (k1 1 (by decide))
  · exact h.2.1.2.2.1.sm (kp 3 (by decide) (by decide) (by omega)) (adR_old ad (by omega)) (k1 3 (by decide))
  · rw [adR_old ad (show (4 : Nat) ≠ 10000 + r by omega), vn 5 (by decide), seqA_congr (ad := ad) (fun p hp => adR_old ad (by omega))]
    exact h.rows.1.fr (kp 4 (by decide) (by decide) (by omega))
  · rw [adR_old ad (show (5 : Nat) ≠ 10000 + r by omega), vn 14 (by decide), seqA_congr (ad := ad) (fun p hp => adR_old ad (by omega))]
    exact h.rows.2.1.fr (kp 5 (by decide) (by decide) (by omega))
  · rw [adR_old ad (show (6 : Nat) ≠ 10000 + r by omega), vn 19 (by decide), seqA_congr (ad := ad) (fun p hp => adR_old ad (by omega))]
    exact h.rows.2.2.1.fr (kp 6 (by decide) (by decide) (by omega))
  · rw [adR_old ad (show (7 : Nat) ≠ 10000 + r by omega), vn 23 (by decide), seqA_congr (ad := ad) (fun p hp => adR_old ad (by omega))]
    exact h.rows.2.2.2.fr (kp 7 (by decide) (by decide) (by omega))
  · intro p hp
    rw [vn 5 (by decide)] at hp
    by_cases e : p = i
    · subst e
      obtain ⟨h1, ⟨tk, h2⟩, h3, -⟩ := h.thi hp
      refine ⟨h1.sm hs hp (kp _ (by omega) (by omega) (by omega)) ⟨adR_old ad (by omega), adR_old ad (by omega), adR_old ad (by omega), adR_old ad (by omega)⟩, ⟨tk, ?_⟩, ?_, ?_⟩
      · rw [adR_old ad (show 2000 + p ≠ 10000 + r by omega)]
        exact (h2.fr (kp _ (by omega) (by omega) (by omega))).congr (fun d => hs.lnS hI (vn 23 (by decide)) p d) rfl
      · rw [adR_old ad (show 3000 + p ≠ 10000 + r by omega), xlR_old xl (zo (3000 + p) (by omega))]
        exact h3.sm hs (kp _ (by omega) (by omega) (by omega))
      · have := e4 (rhoR rho p r sz sz1 sz2) (fun y hy => by
          rw [rhoR_old rho (ow y (by omega)).2]
          exact hy) (fun hz => rhoR_lis rho (by omega) hz)
        have hmm : ((xl (4000 + p)).take q ++ r :: (xl (4000 + p)).drop q).map (fun a => adR ad r sz (10000 + a)) = ((xl (4000 + p)).map (fun a => ad (10000 + a))).take q ++ sz :: ((xl (4000 + p)).map (fun a => ad (10000 + a))).drop q := by
          rw [List.map_append, List.map_cons, adR_new, ← List.map_take, ← List.map_drop]
          congr 1
          · exact List.map_congr_left (fun a ha => adR_old ad (by have := (hmem a (List.mem_of_mem_take ha)).1; omega))
          · congr 1
            exact List.map_congr_left (fun a ha => adR_old ad (by have := (hmem a (List.mem_of_mem_drop ha)).1; omega))
        rw [adR_old ad (show 4000 + p ≠ 10000 + r by omega), xN.1, hmm]
        exact this.fr (fun y hy => ⟨hbx y (fun e => by
          rw [e, rhoR_old rho hx0.2, hxr] at hy
          omega), hy⟩)
    · exact old.1 p hp (ZR_thi hi16 (by omega) e)
  · intro p hp
    rw [vn 14 (by decide)] at hp
    exact old.2.1 p hp
  · intro p hp
    rw [vn 19 (by decide)] at hp
    exact old.2.2.1 p hp
  · intro l hl
    rw [vn 23 (by decide)] at hl
    exact old.2.2.2.1 l hl
  · intro p hp
    rw [v33] at hp
    by_cases e : p = r
    · subst e
      have hq3 : ∀ y, sz ≤ y → y < sz1 → (va_up M2 x0 (some (.inl (14, booF ad (iI (stdS u)) (iI (vN u 33 + 1)) (u.1 10) (u.1 4) (u.1 2))))) y = M1 y := fun y y1 y2 => by rw [hbx y (by omega)]; exact hnew y y1 y2
      refine ⟨wt, sz + 1, sz + 1 + 1, F, G, ⟨?_, ?_⟩, ?_, ⟨?_, ?_⟩, ⟨?_, ?_⟩, fun k a hk => ?_⟩
      · rw [adR_new, hq3 sz (by omega) (by omega), k35]
        exact hc.1
      · rw [adR_new]
        exact rhoR_new rho (by omega) (by omega)
      · rw [xN.2]
        rcases ht with ⟨c0, hw⟩ | ⟨c0, w1, w2, w3⟩
        · have : xs = [] := List.length_eq_zero_iff.mp (by omega)
          subst this
          exact Or.inr ⟨hw, rfl⟩
        · left
          have hne : xs ≠ [] := fun e => by rw [e] at hxlen; simp at hxlen; omega
          have et : repT u8 p xs = harT (kH t) (fun q => t.getD (3 * q + 2) 0) xs false := by
            unfold repT
            rw [if_neg hne]
            exact harT_congr (fun a ha => ⟨hkey a (hxm a ha), (r37 a (hxm a ha)).2.2⟩)
          rw [et]
          exact txt_up w3 (hq3 wt (by omega) (by omega)) (hq3 (wt + 1) (by omega) (by omega)) (rhoR_new rho (by omega) (by omega)) (rhoR_new rho (by omega) (by omega))
      · rw [xN.2, hxlen, hq3 _ (by omega) (by omega)]
        exact hc.2.1
      · exact rhoR_new rho (by omega) (by omega)
      · rw [xN.2, hxlen, hq3 _ (by omega) (by omega)]
        exact hc.2.2
      · exact rhoR_new rho (by omega) (by omega)
      · rw [xN.2] at hk
        have ha := hxm a (List.mem_of_getElem? hk)
        rw [hkey a ha, (k7 a ha).2.2]
        exact hx.2.2 k a hk
    · exact old.2.2.2.2 p (by omega)
end REA
