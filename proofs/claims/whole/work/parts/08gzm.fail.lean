/-! LOAN: couriers let go again -/
section GFA
variable {B : Nat} {S : Nat → Nat} {L : Mem} {x0 : Nat} {ad rho rh pa : Nat → Nat} {xl : Nat → List Nat} {MK M1 M M3 : Mem} {uS u1 u uf : MS} {sz zz l P a0 : Nat} {ct : Nat → List Nat}
theorem RepK.cal (hs : Same u uf) (hI : Inv u xl) (K : RepK B S L x0 ad rho xl MK u sz) (hsz : sz ≤ zz) (h1 : ∀ k, k ≠ 4 → uf.1 k = u.1 k) (h0 : uf.2 0 = u.2 0) (hc : ∀ a e, L a = some e → M3 a = some e) (fr : ∀ y, 1 < rho y → (rho y < 7000 ∨ 8000 ≤ rho y) → M3 y = MK y) (hb : M3 x0 = some (.inl (14, booF ad (iI (stdS u)) (u.1 33) (u.1 10) (uf.1 4) (u.1 2)))) (hcal : ∀ c, c < (vN u 19).toNat → CalR M3 rho (7000 + c) (ad (7000 + c)) (calS u c (vN u 23)) (takenS u c (vN u 23))) : RepK B S L x0 ad rho xl M3 uf zz := by
  have n5 := hI.n5
  have n14 := hI.n14
  have n19 := hI.n19
  have n23 := hI.n23
  have n33 := hI.n33
  have hv : ∀ k, k ≠ 4 → vN uf k = vN u k := fun k hk => by
    unfold vN
    rw [h1 k hk]
  have kp : ∀ id, 1 < id → (id < 7000 ∨ 8000 ≤ id) → Kept MK rho id M3 rho := fun id i0 i1 y hy => ⟨fr y (by omega) (by omega), hy⟩
  obtain ⟨⟨c1, c2⟩, ⟨b1, b2, b3, r1, r2, r3, r4⟩, t1, t2, t3, t4, t5⟩ := K
  refine ⟨⟨hc, fun a ha => by have := c2 a ha; omega⟩, ⟨⟨?_, b1.2⟩, b2.sm (kp 2 (by omega) (by omega)) rfl h0 (h1 1 (by decide)), b3.sm (kp 3 (by omega) (by omega)) rfl (h1 3 (by decide)), ?_, ?_, ?_, ?_⟩, fun i hi => ?_, fun i hi => ?_, fun c hc => ?_, fun q hq => ?_, fun r hr => ?_⟩
  · rw [hs.std hI (hv 23 (by decide)), h1 33 (by decide), h1 10 (by decide), h1 2 (by decide)]
    exact hb
  · rw [hv 5 (by decide)]
    exact r1.fr (kp 4 (by omega) (by omega))
  · rw [hv 14 (by decide)]
    exact r2.fr (kp 5 (by omega) (by omega))
  · rw [hv 19 (by decide)]
    exact r3.fr (kp 6 (by omega) (by omega))
  · rw [hv 23 (by decide)]
    exact r4.fr (kp 7 (by omega) (by omega))
  · rw [hv 5 (by decide)] at hi
    exact (t1 i hi).sm hs hI (hv 23 (by decide)) hi (kp _ (by omega) (by omega)) (kp _ (by omega) (by omega)) (kp _ (by omega) (by omega)) (kp _ (by omega) (by omega)) ⟨rfl, rfl, rfl, rfl⟩ ⟨rfl, rfl⟩ (fun _ _ => rfl)
  · rw [hv 14 (by decide)] at hi
    exact (t2 i hi).sm hs hi (kp _ (by omega) (by omega)) rfl
  · rw [hv 19 (by decide)] at hc
    obtain ⟨⟨w, q1, q2⟩, -⟩ := t3 c hc
    refine ⟨⟨w, q1.fr (kp _ (by omega) (by omega)), ?_⟩, ?_⟩
    · rw [hs.tCou hI hc]
      exact q2.fr (kp _ (by omega) (by omega))
    · rw [hv 23 (by decide)]
      exact (hcal c hc).congr (fun d => hs.clS hI hc d) (hs.taken hI c)
  · rw [hv 23 (by decide)] at hq
    exact (t4 q hq).sm hs hI (by rw [hv 5 (by decide)]; omega) hq (kp _ (by omega) (by omega)) (fun p hp => kp _ (by omega) (by omega)) rfl (fun _ _ => ⟨rfl, rfl⟩) (fun _ _ => rfl) (fun _ _ => rfl)
  · rw [hv 33 (by decide)] at hr
    exact (t5 r hr).sm hs hI hr (kp _ (by omega) (by omega)) rfl rfl
theorem GS.calf (F : Fix B S L x0 ad rho xl MK M1 uS u1 sz zz rh ct l P) (h : GS S ad rho M1 u1 rh a0 pa ct l P u M) {c : Nat} (hc : c < (vN uS 19).toNat) : (∀ d, calS u c ((l : Int) + 1) d = (l : Int) ↔ busyP u c d l = true) ∧ ∀ d, relF (calS u c ((l : Int) + 1)) l d = calS uS c l d := by
  obtain ⟨hI, h23, hv, hsm⟩ := h.inv F
  obtain ⟨g1, g2, g3⟩ := h.2.2.2.2.1
  obtain ⟨⟨K, IS⟩, -, ⟨f4, f5⟩, -⟩ := F
  have hcu : c < (vN u 19).toNat := by rw [hv]; exact hc
  have key : ∀ d, (busyP u c d l = true ∧ calS u c ((l : Int) + 1) d = (l : Int) ∧ calS uS c l d = -1) ∨ (busyP u c d l = false ∧ calS u c ((l : Int) + 1) d = calS uS c l d ∧ calS uS c l d ≠ (l : Int)) := fun d => by
    have hb := hsm.bsyS IS c d
    rw [f4] at hb
    have hm := hsm.may IS hc d
    have hr := fstI_rng (busyP uS c d) (l : Int).toNat 0 (by omega)
    have e : busyS uS c d l = fstI (busyP uS c d) (l : Int).toNat 0 := rfl
    unfold calS
    rw [busyS_s, hb, hm]
    by_cases q : busyP u c d l = true
    · have hn : busyS u c d l = -1 := by
        unfold busyS
        exact fstI_none _ _ _ (fun k k1 k2 => g1 c d k hcu k1 (by omega) q)
      have hy := g2 c d hcu q
      rw [hm] at hy
      left
      rw [hb] at hn
      rw [hn, q, hy]
      refine ⟨rfl, ?_, ?_⟩
      · simp only [if_true, show ¬ (0 : Int) ≤ -1 by decide, if_false]
        rw [if_pos (by omega)]
      · simp only [show ¬ (0 : Int) ≤ -1 by decide, if_false, if_true]
    · right
      rw [Bool.not_eq_true] at q
      rw [q]
      simp only [Bool.false_eq_true, if_false]
      by_cases z : 0 ≤ busyS uS c d l
      · rw [if_pos z, if_pos z]
        exact ⟨trivial, rfl, by omega⟩
      · rw [if_neg z, if_neg z, if_neg (by decide)]
        exact ⟨trivial, rfl, by split <;> omega⟩
  refine ⟨fun d => ?_, fun d => ?_⟩
  · rcases key d with ⟨k1, k2, -⟩ | ⟨k1, k2, k3⟩
    · rw [k1, k2]
      simp
    · rw [k1, k2]
      constructor
      · intro z
        exact absurd z k3
      · intro z
        cases z
  · unfold relF
    rcases key d with ⟨k1, k2, k3⟩ | ⟨k1, k2, k3⟩
    · rw [k2, if_pos rfl, k3]
    · rw [k2, if_neg k3]
theorem GS.con (hL : LOK B L) (F : Fix B S L x0 ad rho xl MK M1 uS u1 sz zz rh ct l P) (h : GS S ad rho M1 u1 rh a0 pa ct l P u M) : ∀ a e, L a = some e → M a = some e := fun a e ha => by
  have haB : a < B := by
    rcases Nat.lt_or_ge a B with q | q
    · exact q
    · rw [hL a q] at ha
      cases ha
  have hx := F.1.1.xlt
  have h0 := F.1.1.no0 (Or.inl haB)
  rw [h.2.1 a (F.2.2.2.1.lo (Or.inl (by omega))) (fun c _ => by omega), ← F.2.2.2.2.2.2.2.2.1 a (by omega)]
  exact F.1.1.1.1 a e ha
theorem GS.fail (hL : LOK B L) (F : Fix B S L x0 ad rho xl MK M1 uS u1 sz zz rh ct l P) (h : GS S ad rho M1 u1 rh a0 pa ct l P u M) (hz : sz ≤ zz) (fv : Int32) (n : Nat) (hn : 2100 ≤ n) : ∃ M3, f_X11_releaseCouriers B n (va_up M x0 (some (.inl (14, booF ad (iI (stdS uS)) (uS.1 33) (uS.1 10) fv (uS.1 2))))) (some x0) (iI l) = some M3 ∧ RepK B S L x0 ad rho xl M3 (uI (uA u 24 l 0) 4 fv) zz ∧ Inv (uI (uA u 24 l 0) 4 fv) xl := by
  obtain ⟨hI, h23, hv, hsm⟩ := h.inv F
  have hcon := h.con hL F
  have hcf := fun (c : Nat) hc => h.calf F (c := c) hc
  have htk := fun (c : Nat) hc => h.tkr F (c := c) hc
  have hfk := fun (y : Nat) h1 h7 => h.frK F (y := y) h1 h7
  have n19 := hI.n19
  have hxl := F.1.1.xlt
  have u1n : u1.1 = uS.1 := F.2.1.2.1
  have hu0 : u1.2 0 = uS.2 0 := F.2.2.2.2.2.2.2.2.2.2
  obtain ⟨⟨K, IS⟩, -, ⟨f4, f5⟩, -⟩ := F
  have h19 : vN u1 19 = vN uS 19 := by
    rw [← h.1.vn, hv]
  have hox : rho x0 = 1 := K.2.1.1.2
  have upn : ∀ y, rho y ≠ 1 → (va_up M x0 (some (.inl (14, booF ad (iI (stdS uS)) (uS.1 33) (uS.1 10) fv (uS.1 2))))) y = M y := fun y hy => va_up_ne _ _ (fun e => hy (by rw [e]; exact hox))
  have hself : (va_up M x0 (some (.inl (14, booF ad (iI (stdS uS)) (uS.1 33) (uS.1 10) fv (uS.1 2))))) x0 = some (.inl (14, booF ad (iI (stdS uS)) (uS.1 33) (uS.1 10) fv (uS.1 2))) := va_up_self ..
  have upx : ∀ y, y ≠ x0 → (va_up M x0 (some (.inl (14, booF ad (iI (stdS uS)) (uS.1 33) (uS.1 10) fv (uS.1 2))))) y = M y := fun y hy => va_up_ne _ _ hy
  generalize va_up M x0 (some (.inl (14, booF ad (iI (stdS uS)) (uS.1 33) (uS.1 10) fv (uS.1 2)))) = Mz at *
  have hN : (((vN uS 19).toNat : Nat) : Int) = vN uS 19 := by rw [← hv]; omega
  have hr8 : (vN uS 19).toNat ≤ 8 := by rw [← hv]; omega
  obtain ⟨M3, e1, e2, e3⟩ := z_relCou_L (B := B) (x0 := x0) (ad := ad) (rho := rho) (S := S) (N := (vN uS 19).toNat) (by omega) (fun c => calS u c ((l : Int) + 1)) (fun c d => by
    have hr := fstI_rng (busyP u c d) ((l : Int) + 1).toNat 0 (by omega)
    have e : busyS u c d ((l : Int) + 1) = fstI (busyP u c d) ((l : Int) + 1).toNat 0 := rfl
    unfold calS
    (repeat' split) <;> omega) (fun c => takenS u c ((l : Int) + 1)) n (by omega) l (by omega) (fun a ha => (K.1.2 a ha).1) (show (booF ad (iI (stdS uS)) (uS.1 33) (uS.1 10) fv (uS.1 2))[4]? = some (.ref (ad 6)) from rfl) n 0 Mz (Nat.zero_le _) (by omega) hself hox (by
      rw [hN]
      exact (K.rows.2.2.1).fr (fun y hy => ⟨(upn y (by omega)).trans (hfk y (by omega) (by omega)), hy⟩)) (fun c hc => by
      obtain ⟨⟨w6, q6, -⟩, -⟩ := K.cou hc
      exact ⟨_, q6.fr (fun y hy => ⟨(upn y (by omega)).trans (hfk y (by omega) (by omega)), hy⟩), rfl⟩) (fun c _ hc => (h.2.2.2.1 c (by rw [h19]; exact hc)).fr (fun y hy => ⟨upn y (by omega), hy⟩)) (fun c hc => by omega)
  have hs2 : Same uS (uI (uA u 24 l 0) 4 fv) := by
    obtain ⟨a1, a2, a3, a4, a5, a6⟩ := hsm
    have r24 : ∀ k, k ≠ 24 → (uI (uA u 24 l 0) 4 fv).2 k = u.2 k := fun k hk => uA_n _ _ _ _ hk
    refine ⟨⟨a1.1, a1.2.1, a1.2.2.1, a1.2.2.2⟩, fun i hi k k1 k2 => by rw [r24 k (by omega)]; exact a2 i hi k k1 k2, fun i hi k k1 k2 => by rw [r24 k (by omega)]; exact a3 i hi k k1 k2, fun i hi => by rw [r24 20 (by omega), r24 21 (by omega), r24 22 (by omega)]; exact a4 i hi, fun q hq => ⟨fun k k1 k2 => ?_, fun p hp k k1 k2 => by rw [r24 k (by omega)]; exact (a5 q hq).2 p hp k k1 k2⟩, fun r hr => ⟨fun k k1 k2 => by rw [r24 k (by omega)]; exact (a6 r hr).1 k k1 k2, fun j hj k k1 k2 => by rw [r24 k (by omega)]; exact (a6 r hr).2 j hj k k1 k2⟩⟩
    have e : (uI (uA u 24 l 0) 4 fv).2 k q = (uA u 24 l 0).2 k q := rfl
    rw [e, uA2, if_neg (by omega)]
    exact (a5 q hq).1 k k1 k2
  have h1n : ∀ k, k ≠ 4 → (uI (uA u 24 l 0) 4 fv).1 k = uS.1 k := fun k hk => by
    have e : (uI (uA u 24 l 0) 4 fv).1 k = upd u.1 4 fv k := rfl
    rw [e]
    unfold upd
    rw [if_neg hk, h.1.1, u1n]
  refine ⟨M3, e1, ?_, ?_⟩
  · refine K.cal hs2 IS hz h1n ?_ (fun a e ha => ?_) (fun y y1 y2 => ?_) ?_ (fun c hc => ?_)
    · have e : (uI (uA u 24 l 0) 4 fv).2 0 = u.2 0 := uA_n u 24 l 0 (show (0 : Nat) ≠ 24 by decide)
      rw [e, h.1.row (by decide)]
      exact hu0
    · have haB : a < B := by
        rcases Nat.lt_or_ge a B with q | q
        · exact q
        · rw [hL a q] at ha
          cases ha
      have h0 := K.no0 (Or.inl haB)
      rw [e3 a (fun c _ => by omega), upx a (by omega)]
      exact hcon a e ha
    · rw [e3 y (fun c hc => by omega), upn y (by omega)]
      exact hfk y (by omega) y2
    · rw [e3 x0 (fun c hc => by omega), hself, uI_at]
    · obtain ⟨d1, d2⟩ := hcf c hc
      rw [f4]
      refine (e2 c hc).congr (fun d => (d2 d).symm) ?_
      have ht := hsm.taken IS c
      rw [f4] at ht
      show takenS uS c l = takenS u c ((l : Int) + 1) - sumI (fun x => if calS u c ((l : Int) + 1) x = l then 1 else 0) 1000 0
      rw [takenS_s, ht, h.2.2.2.2.1.2.2 c (by rw [hv]; exact hc), sumI_congr (f := fun x => if calS u c ((l : Int) + 1) x = l then 1 else 0) (g := fun x => if busyP u c x l = true then 1 else 0) (fun d _ _ => by
        by_cases q : busyP u c d l = true
        · rw [if_pos q, if_pos ((d1 d).mpr q)]
        · rw [if_neg q, if_neg (fun z => q ((d1 d).mp z))])]
      omega
  · have hvf : ∀ k, k ≠ 4 → vN (uI (uA u 24 l 0) 4 fv) k = vN uS k := fun k hk => by
      unfold vN
      rw [h1n k hk]
    refine IS.sm hs2 ?_ (by rw [hvf 5 (by decide)]; omega) (by rw [hvf 14 (by decide)]; omega) (by rw [hvf 19 (by decide)]; omega) (hvf 23 (by decide)) (fun i i1 i2 => by rw [hvf 5 (by decide)] at i2; omega) (fun i i1 i2 => by rw [hvf 14 (by decide)] at i2; omega) (fun i i1 i2 => by rw [hvf 19 (by decide)] at i2; omega) (fun i i1 i2 => by rw [hvf 33 (by decide)] at i2; omega) (ListsF.sm hs2 IS (hvf 5 (by decide)) (hvf 23 (by decide)) (hvf 33 (by decide)))
    unfold NumOK
    rw [hvf 1 (by decide), hvf 5 (by decide), hvf 10 (by decide), hvf 14 (by decide), hvf 19 (by decide), hvf 23 (by decide), hvf 33 (by decide)]
    exact IS.num
end GFA
