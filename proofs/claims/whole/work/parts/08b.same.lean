/-! WHAT WAS TOLD STANDS STILL: the class's cells of it, and what holds of it -/
section SMC
variable {S : Nat → Nat} {ad ad1 rho rho1 : Nat → Nat} {M M1 : Mem} {u u1 : MS} {xl xl1 : Nat → List Nat}
theorem seqA_congr {b : Nat} {n : Int} (h : ∀ i, i < n.toNat → ad1 (b + i) = ad (b + i)) : seqA ad1 b n = seqA ad b n := by
  unfold seqA
  exact List.map_congr_left (fun i hi => h i (List.mem_range.mp hi))
theorem seqA_succ {b : Nat} {n n1 : Int} (hn : 0 ≤ n) (h1 : n1 = n + 1) : seqA ad b n1 = seqA ad b n ++ [ad (b + n.toNat)] := by
  unfold seqA
  rw [h1, show (n + 1).toNat = n.toNat + 1 by omega, List.range_succ, List.map_append]
  rfl
theorem TapR.sm (h : TapR ad rho M u) (k : Kept M rho 2 M1 rho1) (ha : ad1 2 = ad 2) (h0 : u1.2 0 = u.2 0) (h1 : u1.1 1 = u.1 1) : TapR ad1 rho1 M1 u1 := by
  obtain ⟨hb, b, t1, t2⟩ := h
  refine ⟨fun k hk => ?_, b, ?_, ?_⟩
  · have := hb k (by unfold vN at hk ⊢; rw [h1] at hk; exact hk)
    unfold vR at this ⊢
    rw [h0]
    exact this
  · rw [ha, h1]
    exact t1.fr k
  · rw [h0]
    exact t2.fr k
theorem ReaR.sm (h : ReaR ad rho M u) (k : Kept M rho 3 M1 rho1) (ha : ad1 3 = ad 3) (h3 : u1.1 3 = u.1 3) : ReaR ad1 rho1 M1 u1 := by
  have := h.fr k
  unfold ReaR at this ⊢
  rw [ha, h3]
  exact this
theorem ThiC.sm (hs : Same u u1) {i : Nat} (hi : i < (vN u 5).toNat) (h : ThiC ad rho M u i) (k : Kept M rho (1000 + i) M1 rho1) (ha : ad1 (1000 + i) = ad (1000 + i) ∧ ad1 (2000 + i) = ad (2000 + i) ∧ ad1 (3000 + i) = ad (3000 + i) ∧ ad1 (4000 + i) = ad (4000 + i)) : ThiC ad1 rho1 M1 u1 i := by
  obtain ⟨w, h1, h2⟩ := h
  refine ⟨w, ?_, ?_⟩
  · rw [ha.1, ha.2.1, ha.2.2.1, ha.2.2.2, hs.2.1 i hi 6 (by omega) (by omega), hs.2.1 i hi 7 (by omega) (by omega), hs.2.1 i hi 8 (by omega) (by omega), hs.2.1 i hi 9 (by omega) (by omega)]
    exact h1.fr k
  · rw [hs.tThi hi]
    exact h2.fr k
theorem AppR.sm (hs : Same u u1) {id a : Nat} {l : List Nat} (h : AppR M rho id a u l) (k : Kept M rho id M1 rho1) : AppR M1 rho1 id a u1 l := by
  obtain ⟨d, v, gd, gv, h1, h2, h3, h4, h5, h6⟩ := h.fr k
  refine ⟨d, v, gd, gv, h1, h2, h3, h4, h5, fun k j hk => ?_⟩
  rw [hs.1.2.2.1, hs.1.2.2.2]
  exact h6 k j hk
theorem ThiR.sm (hs : Same u u1) (hI : Inv u xl) (h23 : vN u1 23 = vN u 23) {i : Nat} (hi : i < (vN u 5).toNat) (h : ThiR S ad rho xl M u i) (k1 : Kept M rho (1000 + i) M1 rho1) (k2 : Kept M rho (2000 + i) M1 rho1) (k3 : Kept M rho (3000 + i) M1 rho1) (k4 : Kept M rho (4000 + i) M1 rho1) (ha : ad1 (1000 + i) = ad (1000 + i) ∧ ad1 (2000 + i) = ad (2000 + i) ∧ ad1 (3000 + i) = ad (3000 + i) ∧ ad1 (4000 + i) = ad (4000 + i)) (hx : xl1 (3000 + i) = xl (3000 + i) ∧ xl1 (4000 + i) = xl (4000 + i)) (hr : ∀ r, r < (vN u 33).toNat → ad1 (10000 + r) = ad (10000 + r)) : ThiR S ad1 rho1 xl1 M1 u1 i := by
  obtain ⟨h1, ⟨tk, h2⟩, h3, h4⟩ := h
  refine ⟨h1.sm hs hi k1 ha, ⟨tk, ?_⟩, ?_, ?_⟩
  · rw [ha.2.1]
    exact (h2.fr k2).congr (fun d => hs.lnS hI h23 i d) rfl
  · rw [ha.2.2.1, hx.1]
    exact h3.sm hs k3
  · have e : (xl1 (4000 + i)).map (fun r => ad1 (10000 + r)) = (xl (4000 + i)).map (fun r => ad (10000 + r)) := by
      rw [hx.2]
      exact List.map_congr_left (fun r hr2 => hr r (((hI.rps i hi).mem r).mp hr2).1)
    rw [ha.2.2.2, e]
    exact h4.fr k4
theorem HouR.sm (hs : Same u u1) {i : Nat} (hi : i < (vN u 14).toNat) (h : HouR ad rho M u i) (k : Kept M rho (5000 + i) M1 rho1) (ha : ad1 (5000 + i) = ad (5000 + i)) : HouR ad1 rho1 M1 u1 i := by
  obtain ⟨w, h1, h2⟩ := h
  refine ⟨w, ?_, ?_⟩
  · rw [ha, hs.2.2.1 i hi 15 (by omega) (by omega), hs.2.2.1 i hi 16 (by omega) (by omega), hs.2.2.1 i hi 17 (by omega) (by omega), hs.2.2.1 i hi 18 (by omega) (by omega)]
    exact h1.fr k
  · rw [hs.tHou hi]
    exact h2.fr k
theorem CouR.sm (hs : Same u u1) (hI : Inv u xl) (h23 : vN u1 23 = vN u 23) {c : Nat} (hc : c < (vN u 19).toNat) (h : CouR ad rho M u (vN u 23) c) (k : Kept M rho (6000 + c) M1 rho1) (k2 : Kept M rho (7000 + c) M1 rho1) (ha : ad1 (6000 + c) = ad (6000 + c) ∧ ad1 (7000 + c) = ad (7000 + c)) : CouR ad1 rho1 M1 u1 (vN u1 23) c := by
  obtain ⟨⟨w, h1, h2⟩, h3⟩ := h
  refine ⟨⟨w, ?_, ?_⟩, ?_⟩
  · rw [ha.1, ha.2]
    exact h1.fr k
  · rw [hs.tCou hI hc]
    exact h2.fr k
  · rw [ha.2, h23]
    exact (h3.fr k2).congr (fun d => hs.clS hI hc d) (hs.taken hI c)
theorem ParR.sm (hs : Same u u1) (hI : Inv u xl) (h5 : vN u 5 ≤ vN u1 5 ∧ vN u1 5 ≤ 16) {l p : Nat} (hl : l < (vN u 23).toNat) (hp : p < (vR u 29 l).toNat) (h : ParR S ad rho xl M u l p) (k : Kept M rho (9000 + (l * 16 + p)) M1 rho1) (ha : ad1 (9000 + (l * 16 + p)) = ad (9000 + (l * 16 + p))) (hx : xl1 (9000 + (l * 16 + p)) = xl (9000 + (l * 16 + p))) (hT : ∀ i, i < (vN u 5).toNat → ad1 (1000 + i) = ad (1000 + i)) : ParR S ad1 rho1 xl1 M1 u1 l p := by
  have hp16 := hI.par l hl
  obtain ⟨c, h1, h2⟩ := h
  have e : (xl1 (9000 + (l * 16 + p))).map (fun t => ad1 (1000 + t)) = (xl (9000 + (l * 16 + p))).map (fun t => ad (1000 + t)) := by
    rw [hx]
    refine List.map_congr_left (fun t ht => hT t ?_)
    have := (hI.parf l p hl hp).mem_iff.mp ht
    rw [List.mem_filter, List.mem_range] at this
    exact this.1
  refine ⟨c, ?_, ?_⟩
  · rw [ha, hs.weigh hI h5 hl, (hs.2.2.2.2.1 l hl).2 p (by omega) 31 (by omega) (by omega), (hs.2.2.2.2.1 l hl).2 p (by omega) 32 (by omega) (by omega)]
    exact h1.fr k
  · rw [e]
    exact h2.fr k
theorem LoaR.sm (hs : Same u u1) (hI : Inv u xl) (h5 : vN u 5 ≤ vN u1 5 ∧ vN u1 5 ≤ 16) {l : Nat} (hl : l < (vN u 23).toNat) (h : LoaR S ad rho xl M u l) (k : Kept M rho (8000 + l) M1 rho1) (kp : ∀ p, p < 16 → Kept M rho (9000 + (l * 16 + p)) M1 rho1) (ha : ad1 (8000 + l) = ad (8000 + l)) (hap : ∀ p, p < 16 → ad1 (9000 + (l * 16 + p)) = ad (9000 + (l * 16 + p)) ∧ xl1 (9000 + (l * 16 + p)) = xl (9000 + (l * 16 + p))) (hT : ∀ i, i < (vN u 5).toNat → ad1 (1000 + i) = ad (1000 + i)) (hH : ∀ i, i < (vN u 14).toNat → ad1 (5000 + i) = ad (5000 + i)) : LoaR S ad1 rho1 xl1 M1 u1 l := by
  have hp16 := hI.par l hl
  have hho := hI.hof l hl
  obtain ⟨⟨q, h1, h2⟩, h3⟩ := h
  have e29 := hs.lo hl 29 (by omega) (by omega)
  refine ⟨⟨q, ?_, ?_⟩, fun p hp => ?_⟩
  · rw [ha, hs.lo hl 25 (by omega) (by omega), hH (vR u 25 l).toNat (by omega), (hs.2.2.2.2.1 l hl).1 26 (by omega) (by omega), (hs.2.2.2.2.1 l hl).1 24 (by omega) (by omega), (hs.2.2.2.2.1 l hl).1 27 (by omega) (by omega)]
    exact h1.fr k
  · rw [e29, seqA_congr (ad := ad) (fun i hi => by
      have := (hap i (by omega)).1
      rw [show 9000 + l * 16 + i = 9000 + (l * 16 + i) by omega]
      exact this)]
    exact h2.fr k
  · rw [e29] at hp
    exact (h3 p hp).sm hs hI h5 hl hp (kp p (by omega)) (hap p (by omega)).1 (hap p (by omega)).2 hT
theorem RptR.sm (hs : Same u u1) (hI : Inv u xl) {r : Nat} (hr : r < (vN u 33).toNat) (h : RptR S ad rho xl M u r) (k : Kept M rho (10000 + r) M1 rho1) (ha : ad1 (10000 + r) = ad (10000 + r)) (hx : xl1 (10000 + r) = xl (10000 + r)) : RptR S ad1 rho1 xl1 M1 u1 r := by
  obtain ⟨w, s, z, f, g, h1, h2, h3, h4, h5⟩ := h.fr k
  have hlt := har_lt hI hr
  refine ⟨w, s, z, f, g, ?_, ?_, ?_, ?_, ?_⟩
  · rw [ha, (hs.2.2.2.2.2 r hr).1 35 (by omega) (by omega)]
    exact h1
  · rw [hx, hs.tRep hr hlt]
    exact h2
  · rw [hx]
    exact h3
  · rw [hx]
    exact h4
  · rw [hx]
    intro k j hk
    have hj := hlt j (List.mem_of_getElem? hk)
    rw [hs.key hr hj, (hs.2.2.2.2.2 r hr).2 j hj 39 (by omega) (by omega)]
    exact h5 k j hk
/-- the older cells, where what changes has other owners -/
theorem RepK.old {B : Nat} {L : Mem} {x0 sz : Nat} (hs : Same u u1) (hI : Inv u xl) (h : RepK B S L x0 ad rho xl M u sz) (h5 : vN u 5 ≤ vN u1 5 ∧ vN u1 5 ≤ 16) (h23 : vN u1 23 = vN u 23) (Z : Nat → Prop) (hk : ∀ id, 1000 ≤ id → ¬ Z id → Kept M rho id M1 rho1 ∧ ad1 id = ad id ∧ xl1 id = xl id) (hT : ∀ i, i < (vN u 5).toNat → ad1 (4000 + i) = ad (4000 + i)) (z1 : ∀ i, i < (vN u 5).toNat → ¬ Z (1000 + i) ∧ ¬ Z (2000 + i) ∧ ¬ Z (3000 + i)) (z2 : ∀ i, i < (vN u 14).toNat → ¬ Z (5000 + i)) (z3 : ∀ c, c < (vN u 19).toNat → ¬ Z (6000 + c) ∧ ¬ Z (7000 + c)) (z4 : ∀ l, l < (vN u 23).toNat → ¬ Z (8000 + l) ∧ ∀ p, p < 16 → ¬ Z (9000 + (l * 16 + p))) (z5 : ∀ r, r < (vN u 33).toNat → ¬ Z (10000 + r)) :
    (∀ i, i < (vN u 5).toNat → ¬ Z (4000 + i) → ThiR S ad1 rho1 xl1 M1 u1 i) ∧ (∀ i, i < (vN u 14).toNat → HouR ad1 rho1 M1 u1 i) ∧ (∀ c, c < (vN u 19).toNat → CouR ad1 rho1 M1 u1 (vN u1 23) c) ∧ (∀ l, l < (vN u 23).toNat → LoaR S ad1 rho1 xl1 M1 u1 l) ∧ ∀ r, r < (vN u 33).toNat → RptR S ad1 rho1 xl1 M1 u1 r := by
  refine ⟨fun i hi zi => ?_, fun i hi => ?_, fun c hc => ?_, fun l hl => ?_, fun r hr => ?_⟩
  · obtain ⟨y1, y2, y3⟩ := z1 i hi
    have q1 := hk (1000 + i) (by omega) y1
    have q2 := hk (2000 + i) (by omega) y2
    have q3 := hk (3000 + i) (by omega) y3
    have q4 := hk (4000 + i) (by omega) zi
    exact (h.thi hi).sm hs hI h23 hi q1.1 q2.1 q3.1 q4.1 ⟨q1.2.1, q2.2.1, q3.2.1, q4.2.1⟩ ⟨q3.2.2, q4.2.2⟩ (fun r hr => (hk (10000 + r) (by omega) (z5 r hr)).2.1)
  · have q1 := hk (5000 + i) (by omega) (z2 i hi)
    exact (h.hou hi).sm hs hi q1.1 q1.2.1
  · have q1 := hk (6000 + c) (by omega) (z3 c hc).1
    have q2 := hk (7000 + c) (by omega) (z3 c hc).2
    exact (h.cou hc).sm hs hI h23 hc q1.1 q2.1 ⟨q1.2.1, q2.2.1⟩
  · have q1 := hk (8000 + l) (by omega) (z4 l hl).1
    have q2 : ∀ p, p < 16 → _ := fun p hp => hk (9000 + (l * 16 + p)) (by omega) ((z4 l hl).2 p hp)
    exact (h.loa hl).sm hs hI h5 hl q1.1 (fun p hp => (q2 p hp).1) q1.2.1 (fun p hp => (q2 p hp).2) (fun i hi => (hk (1000 + i) (by omega) (z1 i hi).1).2.1) (fun i hi => (hk (5000 + i) (by omega) (z2 i hi)).2.1)
  · have q1 := hk (10000 + r) (by omega) (z5 r hr)
    exact (h.rpt hr).sm hs hI hr q1.1 q1.2.1 q1.2.2
end SMC
section SMI
variable {u u1 : MS} {xl xl1 : Nat → List Nat}
theorem filt_more {p p1 : Nat → Bool} {n m : Nat} (h : n ≤ m) (h1 : ∀ j, j < n → p1 j = p j) (h2 : ∀ j, n ≤ j → j < m → p1 j = false) : (List.range m).filter p1 = (List.range n).filter p := by
  obtain ⟨d, rfl⟩ : ∃ d, m = n + d := ⟨m - n, by omega⟩
  induction d with
  | zero => exact List.filter_congr (fun j hj => h1 j (List.mem_range.mp hj))
  | succ d ih =>
    rw [show n + (d + 1) = (n + d) + 1 by omega, List.range_succ, List.filter_append, ih (by omega) (fun j j1 j2 => h2 j j1 (by omega))]
    have : [n + d].filter p1 = [] := by
      simp [List.filter, h2 (n + d) (by omega) (by omega)]
    rw [this, List.append_nil]
theorem AppF.sm (hs : Same u u1) {l : List Nat} {i : Nat} (h : AppF u l i) : AppF u1 l i := by
  unfold AppF vR at *
  rw [hs.ap, hs.1.2.1, hs.1.2.2.1]
  exact h
theorem RpsF.sm (hs : Same u u1) (h33 : vN u1 33 = vN u 33) {l : List Nat} {i : Nat} (h : RpsF u l i) : RpsF u1 l i := by
  have hm := h.mem
  refine ⟨?_, h.2.imp_of_mem (fun {a b} ha hb hab => ?_)⟩
  · rw [h33, filt_more (Nat.le_refl _) (fun j hj => by rw [hs.re hj 34 (by omega) (by omega)]) (fun j j1 j2 => by omega)]
    exact h.1
  · rw [hs.re ((hm a).mp ha).1 35 (by omega) (by omega), hs.re ((hm b).mp hb).1 35 (by omega) (by omega)]
    exact hab
theorem ParF.sm (hs : Same u u1) (hI : Inv u xl) (h5 : vN u 5 ≤ vN u1 5 ∧ vN u1 5 ≤ 16) {l p : Nat} (hl : l < (vN u 23).toNat) {xs : List Nat} (h : ParF u xs l p) : ParF u1 xs l p := by
  have h0 := hI.n5
  unfold ParF at *
  rw [filt_more (n := (vN u 5).toNat) (m := (vN u1 5).toNat) (by omega) (fun j hj => hs.pack hl p j (by omega)) (fun j j1 j2 => by
    rw [hs.pack hl p j (by omega), pack_new hI hl p j (by omega)])]
  exact h
theorem HarF.sm (hs : Same u u1) (hI : Inv u xl) {r : Nat} (hr : r < (vN u 33).toNat) {xs : List Nat} (h : HarF u xs r) : HarF u1 xs r := by
  have hlt : ∀ j, j ∈ xs → j < 16 := fun j hj => by
    have h1 := h.1.mem_iff.mp hj
    have h2 := (hI.rptk r hr).2.2.2
    rw [List.mem_range] at h1
    omega
  refine ⟨?_, h.2.imp_of_mem (fun {a b} ha hb hab => ?_)⟩
  · rw [hs.re hr 36 (by omega) (by omega)]
    exact h.1
  · rw [hs.key hr (hlt a ha), hs.key hr (hlt b hb)]
    exact hab
theorem ThiOK.sm (hs : Same u u1) {i : Nat} (hi : i < (vN u 5).toNat) (h : ThiOK u i) : ThiOK u1 i := by
  unfold ThiOK at *
  rw [hs.th hi 6 (by omega) (by omega), hs.th hi 7 (by omega) (by omega), hs.th hi 8 (by omega) (by omega)]
  exact h
theorem HouK.sm (hs : Same u u1) {i : Nat} (hi : i < (vN u 14).toNat) (h : HouK u i) : HouK u1 i := by
  unfold HouK at *
  rw [hs.ho hi 15 (by omega) (by omega), hs.ho hi 16 (by omega) (by omega), hs.ho hi 17 (by omega) (by omega), hs.ho hi 18 (by omega) (by omega)]
  exact h
theorem SpnK.sm (hs : Same u u1) {c : Nat} (hc : c < (vN u 19).toNat) (h : SpnK u c) : SpnK u1 c := by
  unfold SpnK at *
  rw [hs.spn hc]
  refine ⟨h.1, fun k hk => ?_⟩
  have := hs.spa hc (j := k) (by omega)
  rw [this.1, this.2]
  exact h.2 k hk
theorem LoaK.sm (hs : Same u u1) (hI : Inv u xl) (h5 : vN u 5 ≤ vN u1 5) (h14 : vN u 14 ≤ vN u1 14) (h19 : vN u 19 ≤ vN u1 19) {l : Nat} (hl : l < (vN u 23).toNat) : LoaK u1 l := by
  have hh := hI.hof l hl
  have hp := hI.par l hl
  obtain ⟨a1, a2, a3, a4, a5, a6⟩ := hI.loak l hl
  unfold LoanOK at a1
  unfold ParOK at a2
  rw [Int.toNat_natCast] at a1 a2
  refine ⟨?_, ?_, ?_, ?_, fun t ht hd => ?_, fun p hp2 => ?_⟩
  · unfold LoanOK
    rw [Int.toNat_natCast, hs.way hI hl, hs.lo hl 25 (by omega) (by omega), hs.lo hl 26 (by omega) (by omega), hs.lo hl 27 (by omega) (by omega)]
    exact a1
  · unfold ParOK
    rw [Int.toNat_natCast, hs.lo hl 29 (by omega) (by omega)]
    exact a2
  · rw [hs.lo hl 25 (by omega) (by omega)]
    omega
  · rw [hs.lo hl 24 (by omega) (by omega)]
    exact a4
  · rw [hs.had hl] at hd
    rw [hs.lp hl ht 30 (by omega) (by omega), hs.lo hl 29 (by omega) (by omega)]
    have := a5 t ht hd
    omega
  · rw [hs.lo hl 29 (by omega) (by omega)] at hp2
    rw [hs.lp hl (p := p) (by omega) 31 (by omega) (by omega), hs.lp hl (p := p) (by omega) 32 (by omega) (by omega)]
    have := a6 p hp2
    omega
theorem RptK.sm (hs : Same u u1) (hI : Inv u xl) (h5 : vN u 5 ≤ vN u1 5) {r : Nat} (hr : r < (vN u 33).toNat) : RptK u1 r := by
  obtain ⟨a1, a2, a3, a4⟩ := hI.rptk r hr
  unfold RepOK at a1
  unfold HarOK at a2
  rw [Int.toNat_natCast] at a1 a2
  refine ⟨?_, ?_, ?_, ?_⟩
  · unfold RepOK
    rw [Int.toNat_natCast, hs.re hr 34 (by omega) (by omega), hs.re hr 35 (by omega) (by omega), hs.re hr 36 (by omega) (by omega)]
    exact a1
  · unfold HarOK
    rw [Int.toNat_natCast, hs.re hr 36 (by omega) (by omega)]
    intro j j0 j1
    have := a2 j j0 j1
    have e : ((r : Int) * 16 + j).toNat = r * 16 + j.toNat := by omega
    rw [e] at this ⊢
    rw [hs.rh hr (j := j.toNat) (by omega) 37 (by omega) (by omega), hs.rh hr (j := j.toNat) (by omega) 38 (by omega) (by omega), hs.rh hr (j := j.toNat) (by omega) 39 (by omega) (by omega)]
    exact this
  · rw [hs.re hr 34 (by omega) (by omega)]
    omega
  · rw [hs.re hr 36 (by omega) (by omega)]
    exact a4
theorem anyI_ex {p : Int → Bool} {c : Nat} {i : Int} (h : anyI p c i = true) : ∃ k, i ≤ k ∧ k < i + c ∧ p k = true := by
  by_cases q : ∃ k, i ≤ k ∧ k < i + c ∧ p k = true
  · exact q
  · rw [anyI_false (fun k k1 k2 => by
      cases e : p k with
      | false => rfl
      | true => exact absurd ⟨k, k1, k2, e⟩ q)] at h
    cases h
/-- a courier of none of the loans -/
theorem busy_out (hI : Inv u xl) {l : Nat} (hl : l < (vN u 23).toNat) {c : Nat} (hc : (vN u 19).toNat ≤ c) (d : Int) : busyP u c d l = false := by
  have h0 := hI.n19
  have hp := hI.par l hl
  have h6 := (hI.loak l hl).2.2.2.2.2
  have e : anyI (parP u c (stageS u l d) l) (vR u 29 l).toNat 0 = false := anyI_false (fun k k1 k2 => by
    have := h6 k.toNat (by omega)
    unfold parP
    rw [show ((l : Int) * 16 + k).toNat = l * 16 + k.toNat by omega]
    by_cases q : stageS u l d = 1
    · rw [if_pos q, decide_eq_false_iff_not]
      omega
    · rw [if_neg q, decide_eq_false_iff_not]
      omega)
  unfold busyP
  rw [Int.toNat_natCast, e, Bool.and_false, Bool.and_false]
theorem loaD_out (hI : Inv u xl) {l : Nat} (hl : l < (vN u 23).toNat) {c : Nat} (hc : (vN u 19).toNat ≤ c) : loaD u c l = 0 := by
  have h0 := hI.n19
  have hp := hI.par l hl
  have h6 := (hI.loak l hl).2.2.2.2.2
  unfold loaD
  rw [Int.toNat_natCast]
  split
  · rfl
  · refine sumI_null (fun k k1 k2 => ?_)
    have := h6 k.toNat (by omega)
    unfold parD
    rw [show ((l : Int) * 16 + k).toNat = l * 16 + k.toNat by omega, if_neg (by omega), if_neg (by omega)]
    rfl
theorem CalF.sm (hs : Same u u1) (hI : Inv u xl) (h5 : vN u 5 ≤ vN u1 5 ∧ vN u1 5 ≤ 16) (h19 : vN u 19 ≤ vN u1 19) : CalF u1 (vN u 23) := by
  have h0 := hI.n23
  have hn5 := hI.n5
  have hn19 := hI.n19
  obtain ⟨a1, a2, a3, a4⟩ := hI.cal
  have on : ∀ (t d l : Int), 0 ≤ l → l < vN u 23 → onL u1 t d l = onL u t d l := fun t d l l0 l1 => by
    have := hs.onq hI (l := l.toNat) (by omega) t d
    rwa [show ((l.toNat : Nat) : Int) = l by omega] at this
  have bs : ∀ (c d l : Int), 0 ≤ l → l < vN u 23 → busyP u1 c d l = busyP u c d l := fun c d l l0 l1 => by
    have := hs.bsyP hI (l := l.toNat) (by omega) c d
    rwa [show ((l.toNat : Nat) : Int) = l by omega] at this
  have bo : ∀ (c : Nat) (d l : Int), (vN u 19).toNat ≤ c → 0 ≤ l → l < vN u 23 → busyP u c d l = false := fun c d l hc l0 l1 => by
    have := busy_out hI (l := l.toNat) (by omega) hc d
    rwa [show ((l.toNat : Nat) : Int) = l by omega] at this
  refine ⟨fun t d l l2 ht l0 l1 k0 k1 o1 o2 => ?_, fun c d l l2 hc l0 l1 k0 k1 o1 o2 => ?_, fun c d l hc l0 l1 o1 => ?_, fun c l hc l0 l1 => ?_⟩
  · rw [on _ _ _ l0 l1] at o1
    rw [on _ _ _ k0 k1] at o2
    refine a1 t d l l2 ?_ l0 l1 k0 k1 o1 o2
    have hh : hadS u l t = true := by
      unfold onL at o1
      rw [Bool.and_eq_true, Bool.and_eq_true] at o1
      exact o1.2.1
    exact ((hI.loak l.toNat (by omega)).2.2.2.2.1 t (by omega) (by rw [show ((l.toNat : Nat) : Int) = l by omega]; exact hh)).1
  · rw [bs _ _ _ l0 l1] at o1
    rw [bs _ _ _ k0 k1] at o2
    refine a2 c d l l2 ?_ l0 l1 k0 k1 o1 o2
    rcases Nat.lt_or_ge c (vN u 19).toNat with q | q
    · exact q
    · rw [bo c d l q l0 l1] at o1
      cases o1
  · rw [bs _ _ _ l0 l1] at o1
    have hc2 : c < (vN u 19).toNat := by
      rcases Nat.lt_or_ge c (vN u 19).toNat with q | q
      · exact q
      · rw [bo c d l q l0 l1] at o1
        cases o1
    rw [hs.may hI hc2]
    exact a3 c d l hc2 l0 l1 o1
  · have e1 : loaD u1 c l = loaD u c l := by
      have := hs.load hI (l := l.toNat) (by omega) c
      rwa [show ((l.toNat : Nat) : Int) = l by omega] at this
    have e2 : sumI (fun d => if busyP u1 c d l = true then 1 else 0) 1000 0 = sumI (fun d => if busyP u c d l = true then 1 else 0) 1000 0 := sumI_congr (fun k k1 k2 => by rw [bs _ _ _ l0 l1])
    rw [e1, e2]
    rcases Nat.lt_or_ge c (vN u 19).toNat with q | q
    · exact a4 c l q l0 l1
    · have z := loaD_out hI (l := l.toNat) (by omega) q
      rw [show ((l.toNat : Nat) : Int) = l by omega] at z
      rw [z]
      refine (sumI_null (fun k k1 k2 => ?_)).symm
      rw [bo c k l q l0 l1]
      rfl
theorem Inv.sm (hs : Same u u1) (hI : Inv u xl) (hn : NumOK u1) (h5 : vN u 5 ≤ vN u1 5) (h14 : vN u 14 ≤ vN u1 14) (h19 : vN u 19 ≤ vN u1 19) (h23 : vN u1 23 = vN u 23) (t5 : ∀ i, (vN u 5).toNat ≤ i → i < (vN u1 5).toNat → ThiOK u1 i) (t14 : ∀ i, (vN u 14).toNat ≤ i → i < (vN u1 14).toNat → HouK u1 i) (t19 : ∀ i, (vN u 19).toNat ≤ i → i < (vN u1 19).toNat → SpnK u1 i) (t33 : ∀ i, (vN u 33).toNat ≤ i → i < (vN u1 33).toNat → RptK u1 i) (hl : ListsF u1 xl1) : Inv u1 xl1 := by
  refine ⟨⟨hn, fun i hi => ?_, fun j hj => ?_, fun i hi => ?_, fun c hc => ?_⟩, ⟨fun l hl => ?_, fun r hr => ?_⟩, hl, ?_⟩
  · rcases Nat.lt_or_ge i (vN u 5).toNat with q | q
    · exact (hI.thi i q).sm hs q
    · exact t5 i q hi
  · have := hI.apt j (by rw [hs.ap] at hj; exact hj)
    unfold AptOK vR at *
    rw [hs.1.2.1, hs.1.2.2.1, hs.1.2.2.2]
    omega
  · rcases Nat.lt_or_ge i (vN u 14).toNat with q | q
    · exact (hI.houk i q).sm hs q
    · exact t14 i q hi
  · rcases Nat.lt_or_ge c (vN u 19).toNat with q | q
    · exact (hI.spn c q).sm hs q
    · exact t19 c q hc
  · rw [h23] at hl
    exact LoaK.sm hs hI h5 h14 h19 hl
  · rcases Nat.lt_or_ge r (vN u 33).toNat with q | q
    · exact RptK.sm hs hI h5 q
    · exact t33 r q hr
  · rw [h23]
    exact CalF.sm hs hI ⟨h5, hn.2.1.2⟩ h19
end SMI
