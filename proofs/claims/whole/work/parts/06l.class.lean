/-! DAMAGE, BEARER, CHARGES -/
section QE
variable {B : Nat} {S : Nat → Nat} {L : Mem} {x0 : Nat} {ad rho : Nat → Nat} {xl : Nat → List Nat} {M : Mem} {u : MS} {sz : Nat}
theorem Inv.har {u : MS} {xl : Nat → List Nat} (hI : Inv u xl) {r : Nat} (hr : r < (vN u 33).toNat) : ∀ j, j ∈ xl (10000 + r) → (0 ≤ vR u 37 (r * 16 + j) ∧ vR u 37 (r * 16 + j) ≤ 3) ∧ (0 ≤ vR u 38 (r * 16 + j) ∧ vR u 38 (r * 16 + j) ≤ 99) ∧ (1 ≤ vR u 39 (r * 16 + j) ∧ vR u 39 (r * 16 + j) ≤ 99) := fun j hj => by
  have hF := (hI.harf r hr).1
  rw [hF.mem_iff, List.mem_range] at hj
  have hH := (hI.rptk r hr).2.1
  unfold HarOK at hH
  simp only [Int.toNat_natCast] at hH
  have := hH j (by omega) (by omega)
  rwa [show (((r : Nat) : Int) * 16 + (j : Int)).toNat = r * 16 + j by omega] at this
theorem sizS_bnd {u : MS} {xl : Nat → List Nat} (hI : Inv u xl) (r : Nat) (hr : r < (vN u 33).toNat) (q s : Int) (hs : 0 ≤ s ∧ s ≤ 99) : 0 ≤ sizS u r q s ∧ sizS u r q s ≤ 99 := by
  rw [← szL_siz hI r hr q s hs]
  have hh := hI.har hr
  generalize xl (10000 + r) = l at hh
  induction l with
  | nil => simp [szL]
  | cons a l ih =>
    rw [szL]
    split
    · have := hh a (List.mem_cons_self ..)
      omega
    · exact ih (fun j hj => hh j (List.mem_cons_of_mem _ hj))
theorem growS_rng {u : MS} {xl : Nat → List Nat} (hI : Inv u xl) (r : Nat) (hr : r < (vN u 33).toNat) (a : Nat) (ha : a < (vN u 33).toNat) (j : Nat) (hj : j < (vR u 36 r).toNat) : 0 ≤ growS u r a j ∧ growS u r a j ≤ 99 * 8 := by
  have hH := hI.har hr j (by rw [(hI.harf r hr).1.mem_iff, List.mem_range]; exact hj)
  have hz := sizS_bnd hI a ha (vR u 37 (r * 16 + j)) (vR u 38 (r * 16 + j)) hH.2.1
  have e0 : ((r : Int) * 16 + (j : Int)).toNat = r * 16 + j := by omega
  unfold growS
  rw [e0]
  split
  · omega
  · exact mul_rng ⟨by omega, by omega⟩ (by unfold gravS; (repeat' split) <;> omega)
theorem damS_rng {u : MS} {xl : Nat → List Nat} (hI : Inv u xl) (r : Nat) (hr : r < (vN u 33).toNat) : 0 ≤ damS u r ∧ damS u r < 2147483648 := by
  have h33 := hI.n33
  have hk := hI.rptk r hr
  have h1 := hk.1
  have h2 := hk.2.2
  unfold RepOK at h1
  simp only [Int.toNat_natCast] at h1
  unfold damS
  simp only [Int.toNat_natCast]
  split
  · rename_i c
    have hi := inS_rng u (vR u 34 r) (vR u 35 r - 1) (by omega)
    have hg := sumI_bnd (growS u r (inS u (vR u 34 r) (vR u 35 r - 1))) (99 * 8) (vR u 36 r).toNat 0 (fun k k0 k1 => by
      have := growS_rng hI r hr (inS u (vR u 34 r) (vR u 35 r - 1)).toNat (by omega) k.toNat (by omega)
      rwa [show ((k.toNat : Nat) : Int) = k by omega, show (((inS u (vR u 34 r) (vR u 35 r - 1)).toNat : Nat) : Int) = inS u (vR u 34 r) (vR u 35 r - 1) by omega] at this)
    have hv := valS_rng hI (vR u 34 r).toNat (by omega) (vR u 35 r)
    rw [show (((vR u 34 r).toNat : Nat) : Int) = vR u 34 r by omega] at hv
    have hm : ((vR u 36 r).toNat : Int) * (99 * 8) ≤ 15 * (99 * 8) := Int.mul_le_mul_of_nonneg_right (by omega) (by decide)
    have := mul_rng (A := 15 * (99 * 8)) (C := 9999) ⟨hg.1, by omega⟩ ⟨by omega, hv.2⟩
    omega
  · omega
theorem Inv.reps {u : MS} {xl : Nat → List Nat} (hI : Inv u xl) : RepsOK u := by
  refine ⟨fun r h0 h1 => ?_, fun r h0 h1 => ?_⟩
  · have := hI.rptk r.toNat (by omega)
    have q := this.1
    have q2 := this.2.1
    rw [show ((r.toNat : Nat) : Int) = r by omega] at q q2
    exact ⟨q, q2⟩
  · have := damS_rng hI r.toNat (by omega)
    rwa [show ((r.toNat : Nat) : Int) = r by omega] at this
/-- where a thing's k-th report stands among its days -/
theorem rps_own {u : MS} {l : List Nat} {i : Nat} (hF : RpsF u l i) {k r : Nat} (hk : l[k]? = some r) : inS u i (vR u 35 r) = r ∧ inS u i (vR u 35 r - 1) = (if k = 0 then -1 else (l.getD (k - 1) 0 : Int)) ∧ latF (fun k => vR u 35 (l.getD k 0)) (vR u 35 r) l.length = k := by
  obtain ⟨hlt, hr⟩ := List.getElem?_eq_some_iff.mp hk
  subst hr
  have e1 := own_lat (vR u 35) l hF.2 k hlt
  have e2 := ahead_lat (vR u 35) l hF.2 k hlt
  refine ⟨?_, ?_, e1⟩
  · rcases inS_lat hF (vR u 35 l[k]) with ⟨q1, -⟩ | ⟨k', j, q1, q2, q3, q4, -⟩
    · omega
    · have : k' = k := by omega
      subst this
      rw [q4, List.getElem?_eq_getElem hlt] at *
      cases q3
      rfl
  · rcases inS_lat hF (vR u 35 l[k] - 1) with ⟨q1, q4⟩ | ⟨k', j, q1, q2, q3, q4, -⟩
    · rw [q4, if_pos (by omega)]
    · have : k' = k - 1 := by omega
      subst this
      rw [q4, if_neg (by omega)]
      simp only [List.getD, q3, Option.getD_some]
theorem z_damageTold (h : RepK B S L x0 ad rho xl M u sz) (hI : Inv u xl) {i : Nat} (hi : i < (vN u 5).toNat) {k r : Nat} (hk : (xl (4000 + i))[k]? = some r) (n : Nat) (hf : 60 ≤ n) : f_X10_damageTold n M (some (ad (1000 + i))) (iI k) = some (iI (damS u r)) := by
  have hF := hI.rps i hi
  have hlen := (h.thi hi).2.2.2.len
  rw [List.length_map] at hlen
  have hlt := (List.getElem?_eq_some_iff.mp hk).1
  obtain ⟨w, g1, -⟩ := (h.thi hi).1
  have hr := (hF.mem r).mp (List.mem_of_getElem? hk)
  obtain ⟨o1, o2, o3⟩ := rps_own hF hk
  have ro := h.rpo hI hr.1
  unfold f_X10_damageTold
  rw [isO_at g1.1, if_pos rfl, z_repSome h hi hF hk, Option.bind_some, if_pos rfl, show (1 : Int32) = iI 1 from rfl, iI_sub]
  unfold damS
  simp only [Int.toNat_natCast]
  rw [hr.2, o2]
  by_cases c : k = 0
  · subst c
    rw [show (((0 : Nat) : Int) - 1) = -1 from rfl, z_repNone h hi hF, Option.bind_some, if_neg (by simp), if_pos rfl, if_pos rfl, if_neg (by omega)]
    rfl
  · have hx : (xl (4000 + i))[k - 1]? = some (xl (4000 + i))[k - 1] := List.getElem?_eq_getElem (by omega)
    have ha := (hF.mem (xl (4000 + i))[k - 1]).mp (List.getElem_mem _)
    have ra := h.rpo hI ha.1
    have ed : (xl (4000 + i)).getD (k - 1) 0 = (xl (4000 + i))[k - 1] := by simp [List.getD, hx]
    rw [show ((k : Int) - 1) = ((k - 1 : Nat) : Int) by omega, z_repSome h hi hF hx, Option.bind_some, if_neg (by simp), if_neg (by simp)]
    rw [if_neg c, ed, ro.is, if_pos rfl, if_pos (show (0 : Int) ≤ (((xl (4000 + i))[k - 1] : Nat) : Int) by omega)]
    have hw := ro.worse_L ra n hf (hI.har hr.1) (fun j hj => by
      have := hI.har ha.1 j hj
      unfold keyS
      omega) (fun q s hs => ⟨szL_siz hI _ ha.1 q s hs, sizS_bnd hI _ ha.1 q s hs⟩) n 0 0 (by omega) (by obtain ⟨w, s, z, f, g, h1, h2, h3, h4, h5⟩ := ro; omega)
    unfold f_X8_worseThan
    rw [show (0 : Int32) = iI 0 from rfl]
    rw [show iI 0 = iI ((0 : Nat) : Int) from rfl] at hw ⊢
    rw [hw, Option.bind_some]
    obtain ⟨wv, s, z, f, g, q1, -⟩ := ro
    rw [gI_at q1]
    simp only [List.getElem?_cons_zero, Option.bind_some, isO_at g1.1, if_true]
    rw [u2_iI, z_valueOn (h.thi hi) (hI.app i hi) (fun j hj => (hI.apday j hj).1) n hf _ (vR_rng ..), Option.bind_some, iI_mul, Int.zero_add, List.drop_zero, sumN_perm _ (hI.harf r hr.1).1]
    have := sumN_sel (fun j => growS u r ((xl (4000 + i))[k - 1] : Nat) j) (fun _ => true) (vR u 36 r).toNat
    rw [List.filter_eq_self.mpr (fun _ _ => rfl)] at this
    rw [this]
    have e3 : sumI (fun i_1 => if true = true then growS u r ((xl (4000 + i))[k - 1] : Nat) ((i_1.toNat : Nat) : Int) else 0) (vR u 36 r).toNat 0 = sumI (growS u r ((xl (4000 + i))[k - 1] : Nat)) (vR u 36 r).toNat 0 := by
      apply sumI_congr
      intro q q0 q1
      rw [if_pos rfl, show ((q.toNat : Nat) : Int) = q by omega]
    rw [e3]
theorem z_bearer_L (h : RepK B S L x0 ad rho xl M u sz) (hI : Inv u xl) {i : Nat} (hi : i < (vN u 5).toNat) {r a : Nat} (hr : r < (vN u 33).toNat) (hri : vR u 34 r = i) (ha : a < (vN u 33).toNat) (n : Nat) (hf : 60 ≤ n) : ∀ (k : Nat) (b m fd j : Int), 0 ≤ j → j ≤ vN u 23 → (vN u 23 - j).toNat < k → ((b = -1 ∧ m = 0) ∨ (0 ≤ b ∧ b < vN u 23 ∧ 0 < m ∧ m ≤ 2000 ∧ fd = vR u 26 b.toNat)) → 0 ≤ fd ∧ fd ≤ 1000 → f_X11_bearerOf_L40 n M (some x0) (some (ad (1000 + i))) (some (ad (10000 + r))) (some (ad (10000 + a))) k (iI b) (iI m) (iI fd) (iI j) = some (iI (bearG u r a (vN u 23 - j).toNat j b m)) := by
  have h23 := hI.n23
  have h5 := hI.n5
  obtain ⟨w, g1, -⟩ := (h.thi hi).1
  obtain ⟨w1, s1, z1, f1, gg1, r1, -⟩ := h.rpt hr
  obtain ⟨w2, s2, z2, f2, gg2, r2, -⟩ := h.rpt ha
  have hl := h.rows.2.2.2
  have hsz := hl.size
  rw [seqA_len] at hsz
  have d1 := (hI.rptk r hr).1.2.2
  have d2 := (hI.rptk a ha).1.2.2
  simp only [Int.toNat_natCast] at d1 d2
  intro k
  induction k with
  | zero => intro b m fd j _ _ h; omega
  | succ k ih =>
    intro b m fd j h0 hj hk hb hfd
    unfold f_X11_bearerOf_L40
    rw [gR_at h.book]
    simp only [booF, List.getElem?_cons_zero, List.getElem?_cons_succ, Option.bind_some]
    rw [hl.is, if_pos rfl, hsz, Option.bind_some, it_le _ _ (by omega)]
    by_cases e : vN u 23 ≤ j
    · rw [if_pos (by omega), show (vN u 23 - j).toNat = 0 by omega]
      rfl
    · have hjn : j.toNat < (vN u 23).toNat := by omega
      have ej : ((j.toNat : Nat) : Int) = j := by omega
      obtain ⟨⟨q, l1, l2⟩, l3⟩ := h.loa hjn
      have hq := h.loaQ hjn (hI.hof _ hjn)
      have ho := hI.loan _ hjn
      have hst := vR_rng u 24 j.toNat
      have hsta := (hI.loan _ hjn).2.2.1
      simp only [Int.toNat_natCast] at hsta
      have hdr := daysS_rng u j (vR u 35 a + 1) (vR u 35 r)
      rw [if_neg (by omega), if_pos rfl, hl.get h0 (seqA_get _ _ _ _ hjn), Option.bind_some, if_pos (Or.inr (isO_at l1.1)), gI_at l1.1]
      simp only [List.getElem?_cons_zero, List.getElem?_cons_succ, Option.bind_some]
      rw [u2_iI, iI_zero, it_eq _ _ (by omega), show (1 : Int32) = iI 1 from rfl, iI_add, show (vN u 23 - j).toNat = (vN u 23 - (j + 1)).toNat + 1 by omega, bearG]
      simp only [Int.toNat_natCast]
      have ihk := ih b m fd (j + 1) (by omega) (by omega) (by omega) hb hfd
      by_cases c1 : vR u 24 j.toNat = 0
      · rw [if_pos c1, if_neg (fun q => q.1 c1)]
        exact ihk
      · rw [if_neg c1, gI_at g1.1]
        simp only [List.getElem?_cons_zero, Option.bind_some]
        have hpw := z_parcelOf h hI hjn n hf i (by omega)
        rw [ej, Int.toNat_natCast] at hpw
        rw [isO_at l1.1, if_pos rfl, hri]
        have hpr := vR_rng u 30 (j.toNat * 16 + i)
        by_cases c2 : hadS u j i = true
        · have hpo := (hI.loak _ hjn).2.2.2.2.1 i (by omega) (by rw [ej]; exact c2)
          rw [if_pos (show (0 ≤ (i : Int) ∧ (i : Int) < vN u 5) ∧ hadS u j i = true from ⟨by omega, c2⟩)] at hpw
          rw [hpw, Option.bind_some, iI_neg, it_eq _ _ (by omega), if_neg (by omega), gI_at r2.1, gI_at r1.1]
          simp only [List.getElem?_cons_zero, Option.bind_some]
          rw [u2_iI, u2_iI, iI_add, if_true, hq.daysBetween ho _ _ (by omega) (by omega), Option.bind_some, ej, hq.start, Option.bind_some, it_le _ _ (by omega), it_eq _ _ (by omega), it_le _ _ (by omega)]
          have ihn := ih j (daysS u j (vR u 35 a + 1) (vR u 35 r)) (vR u 26 j.toNat) (j + 1) (by omega) (by omega) (by omega)
          have e5 : ((if daysS u j (vR u 35 a + 1) (vR u 35 r) ≤ 0 then some (iI 0) else if daysS u j (vR u 35 a + 1) (vR u 35 r) = m then (if fd ≤ vR u 26 j.toNat then some (iI 0) else some (iI 1)) else some (iI 0)) : Option Int32) = some (iI (if daysS u j (vR u 35 a + 1) (vR u 35 r) = m ∧ 0 < m ∧ vR u 26 j.toNat < fd then 1 else 0)) := by
            (repeat' split) <;> first | rfl | (exfalso; omega)
          rw [e5, Option.bind_some, it_lt _ _ (by omega), ib_z]
          by_cases c3 : m < daysS u j (vR u 35 a + 1) (vR u 35 r)
          · rw [if_pos c3, if_pos ⟨c1, c2, Or.inl c3⟩]
            exact ihn (Or.inr ⟨h0, by omega, by omega, by omega, rfl⟩) (by omega)
          · rw [if_neg c3]
            by_cases c4 : daysS u j (vR u 35 a + 1) (vR u 35 r) = m ∧ 0 < m ∧ vR u 26 j.toNat < fd
            · have hbb : 0 ≤ b ∧ b < vN u 23 ∧ 0 < m ∧ m ≤ 2000 ∧ fd = vR u 26 b.toNat := hb.resolve_left (by omega)
              rw [if_neg (fun q => q c4), if_pos ⟨c1, c2, Or.inr ⟨c4.1, c4.2.1, by omega⟩⟩]
              exact ihn (Or.inr ⟨h0, by omega, by omega, by omega, rfl⟩) (by omega)
            · rw [if_pos c4, if_neg (fun q => ?_)]
              · exact ihk
              · rcases q.2.2 with q | ⟨q1, q2, q3⟩
                · exact c3 q
                · have hbb : 0 ≤ b ∧ b < vN u 23 ∧ 0 < m ∧ m ≤ 2000 ∧ fd = vR u 26 b.toNat := hb.resolve_left (by omega)
                  exact c4 ⟨q1, q2, by omega⟩
        · rw [if_neg (fun q => c2 q.2)] at hpw
          rw [hpw, Option.bind_some, iI_neg, if_pos rfl, if_neg (fun q => c2 q.2.1)]
          exact ihk
theorem z_bearerOf (h : RepK B S L x0 ad rho xl M u sz) (hI : Inv u xl) {i : Nat} (hi : i < (vN u 5).toNat) {k r : Nat} (hk : (xl (4000 + i))[k]? = some r) (n : Nat) (hf : 60 ≤ n) : f_X11_bearerOf n M (some x0) (some (ad (1000 + i))) (iI k) = some (iI (bearS u r)) := by
  have h23 := hI.n23
  have hF := hI.rps i hi
  have hlen := (h.thi hi).2.2.2.len
  rw [List.length_map] at hlen
  have hlt := (List.getElem?_eq_some_iff.mp hk).1
  obtain ⟨w, g1, -⟩ := (h.thi hi).1
  have hr := (hF.mem r).mp (List.mem_of_getElem? hk)
  obtain ⟨o1, o2, o3⟩ := rps_own hF hk
  unfold f_X11_bearerOf
  rw [isO_at g1.1, if_pos rfl, z_repSome h hi hF hk, Option.bind_some, if_pos rfl, show (1 : Int32) = iI 1 from rfl, iI_sub]
  unfold bearS
  simp only [Int.toNat_natCast]
  rw [hr.2, o2]
  by_cases c : k = 0
  · subst c
    rw [show (((0 : Nat) : Int) - 1) = -1 from rfl, z_repNone h hi hF, Option.bind_some, if_neg (by simp), if_pos rfl, if_pos rfl, if_neg (by omega)]
    rfl
  · have hx : (xl (4000 + i))[k - 1]? = some (xl (4000 + i))[k - 1] := List.getElem?_eq_getElem (by omega)
    have ha := (hF.mem (xl (4000 + i))[k - 1]).mp (List.getElem_mem _)
    have ed : (xl (4000 + i)).getD (k - 1) 0 = (xl (4000 + i))[k - 1] := by simp [List.getD, hx]
    rw [show ((k : Int) - 1) = ((k - 1 : Nat) : Int) by omega, z_repSome h hi hF hx, Option.bind_some, if_neg (by simp), if_neg (by simp)]
    rw [if_neg c, ed, if_pos (show (0 : Int) ≤ (((xl (4000 + i))[k - 1] : Nat) : Int) by omega)]
    have := z_bearer_L h hI hi hr.1 hr.2 ha.1 n hf n (-1) 0 1000 0 (by omega) (by omega) (by omega) (Or.inl ⟨rfl, rfl⟩) (by omega)
    rw [Int.sub_zero] at this
    exact this
end QE
