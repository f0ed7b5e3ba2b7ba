/-! APPRAISE: the answer -/
section AS
variable {B : Nat} {S : Nat → Nat} {L : Mem} {x0 : Nat} {ad rho : Nat → Nat} {xl : Nat → List Nat} {M : Mem} {u : MS} {sz : Nat}
theorem booF_set8 (st rp ap lf ls z : Int32) : (booF ad st rp ap lf ls).set 8 (.int z) = booF ad st rp z lf ls := rfl
theorem q_appraise (hL : LOK B L) (h : RepK B S L x0 ad rho xl M u sz) (hI : Inv u xl) (t d m : Int) (ht : -2147483648 ≤ t ∧ t < 2147483648) (hd : -2147483648 ≤ d ∧ d < 2147483648) (hm : -2147483648 ≤ m ∧ m < 2147483648) : Ans B S L x0 sz (vN u 19).toNat (vN u 33).toNat (f_X11_appraise B 4000 M (some x0) (iI t) (iI d) (iI m)) (f_X12_appraise 4000 u (iI t) (iI d) (iI m)) := by
  have h5 := hI.n5
  have h10 := hI.n10
  have h19 := hI.n19
  obtain ⟨j, j1, j2, j3, e⟩ := t_appraise 4000 u t d m ht hd hm hI.num (by omega)
  rw [e]
  unfold f_X11_appraise
  rw [isO_at h.book, if_pos rfl, z_thingAt h t ht, z_isDay M d hd]
  by_cases c0 : 0 ≤ t ∧ t ≤ vN u 5 - 1
  · have n0 : ¬ ¬ (0 ≤ t ∧ t ≤ vN u 5 - 1) := fun q => q c0
    simp only [if_pos c0, if_neg n0, Option.bind_some, reduceCtorEq, if_false, if_true, b0z]
    by_cases c1 : 0 ≤ d ∧ d ≤ 999
    · have n1 : ¬ ¬ (0 ≤ d ∧ d ≤ 999) := fun q => q c1
      simp only [if_pos c1, if_neg n1, z_refuseAsked1 h, noKb]
      rw [show (1 : Int32) = iI 1 from rfl, it_lt _ _ (by omega), show (9999 : Int32) = iI 9999 from rfl, it_le _ _ (by omega)]
      by_cases c2 : 1 ≤ m ∧ m ≤ 9999
      · have n2 : ¬ ¬ (1 ≤ m ∧ m ≤ 9999) := fun q => q c2
        rw [if_neg (show ¬ m < 1 by omega), if_pos c2.2, if_neg n2]
        have hti : t.toNat < (vN u 5).toNat := by omega
        have et : ((t.toNat : Nat) : Int) = t := by omega
        have hR := h.thi hti
        have hF := hI.app _ hti
        obtain ⟨w0, g1, -⟩ := hR.1
        obtain ⟨dd, vv, gd, gv, hA, hdv, ho, hml, hg⟩ := hR.2.2.1.ap
        have hBa : B ≤ ad (3000 + t.toNat) ∧ B ≤ dd ∧ B ≤ vv := ⟨(h.1.2 _ (by rw [ho.1]; omega)).1, (h.1.2 _ (by rw [ho.2.1]; omega)).1, (h.1.2 _ (by rw [ho.2.2]; omega)).1⟩
        have hval := z_valueOn hR hF (fun j hj => (hI.apday j hj).1) 4000 (by omega) d hd
        rw [et] at hval
        have ox := h.2.1.1.2
        have nx : x0 ≠ ad (3000 + t.toNat) ∧ x0 ≠ dd ∧ x0 ≠ vv := ⟨fun e => by rw [e, ho.1] at ox; omega, fun e => by rw [e, ho.2.1] at ox; omega, fun e => by rw [e, ho.2.2] at ox; omega⟩
        rw [gR_at g1.1]
        simp only [List.getElem?_cons_zero, List.getElem?_cons_succ, Option.bind_some]
        rw [isO_at hA.1, isO_at g1.1, hval]
        simp only [if_true, Option.bind_some]
        rcases z_tells hA hml (fun k j hk => (hg k j hk).1) hF.2 4000 (by omega) d hd with ⟨k, j0, k1, k2, k3, k4⟩ | ⟨q, q1, q2, q3, q4, q5, q6⟩
        · -- told before
          have hj0 := (hF.mem j0).mp (List.mem_of_getElem? k1)
          rw [et] at hj0
          have hjlt : j < (vN u 10).toNat := by
            rcases Nat.lt_or_ge j (vN u 10).toNat with q | q
            · exact q
            · exact absurd ⟨hj0.2, k2⟩ (j3 j0 (by omega))
          obtain ⟨e1, e2⟩ := j2 hjlt
          have hjj : j = j0 := by
            obtain ⟨k', hk', ek⟩ := List.getElem_of_mem ((hF.mem j).mpr ⟨hjlt, by rw [et]; exact e1⟩)
            exact (sort_inj hF.2 (List.getElem?_eq_some_iff.mpr ⟨hk', ek⟩) k1 (by rw [e2, k2])).2
          subst hjj
          obtain ⟨M1, z1, z2, z3⟩ := z_tell_old (u := u) hA hdv hBa ho hml hg hF.2 4000 (by omega) d m k1 k3 k4
          have hu11 : (apU u j t d m).2 11 = u.2 11 := by
            funext x
            show upd (u.2 11) j (iI t) x = u.2 11 x
            unfold upd
            split
            · rename_i c; rw [c, u2_iI, e1]
            · rfl
          have hu12 : (apU u j t d m).2 12 = u.2 12 := by
            funext x
            show upd (u.2 12) j (iI d) x = u.2 12 x
            unfold upd
            split
            · rename_i c; rw [c, u2_iI, e2]
            · rfl
          have hap := z3 (apU u j t d m) (by show upd (u.2 13) j (iI m) j = _; simp [upd]) (fun i hi => by show upd (u.2 13) j (iI m) i = _; simp [upd, hi]) (fun i => by rw [hu12])
          have hbk : M1 x0 = some (.inl (14, booF ad (iI (stdS u)) (u.1 33) ((apU u j t d m).1 10) (u.1 4) ((apU u j t d m).1 2))) := (z2 x0 nx.1 nx.2.1 nx.2.2).trans h.book
          have hw : apMix u (apU u j t d m) = apU u j t d m := mixU_self (fun k _ => rfl) (fun k hk => by
            simp only [Bool.or_eq_false_iff, beq_eq_false_iff_ne] at hk
            show va_up (va_up (va_up u.2 11 _) 12 _) 13 _ k = _
            rw [va_up_ne _ _ hk.2.2, va_up_ne _ _ hk.2.1, va_up_ne _ _ hk.1])
          have hK := RepK.app hL h (M1 := M1) (w := apU u j t d m) (i := t.toNat) (l1 := xl (3000 + t.toNat)) (by omega) (by omega) (by omega) (fun id i1 i2 b hb => ⟨z2 b (fun e => by rw [e, ho.1] at hb; exact i2 hb.symm) (fun e => by rw [e, ho.2.1] at hb; exact i2 hb.symm) (fun e => by rw [e, ho.2.2] at hb; exact i2 hb.symm), hb⟩) (fun b hb => z2 b (by omega) (by omega) (by omega)) hbk hap (fun i' hi' hne q hq => ⟨by rw [hu12], by
            show upd (u.2 13) j (iI m) q = _
            unfold upd
            rw [if_neg]
            intro e
            have := ((hI.app i' hi').mem q).mp hq
            rw [e, e1] at this
            omega⟩)
          have hI1 := hI.apm (w := apU u j t d m) (i := t.toNat) (l1 := xl (3000 + t.toNat)) (by omega) ⟨Int.le_refl _, h10.2⟩ (fun q hq => by
            have ha := hI.apt q hq
            unfold vR
            rw [hu11, hu12]
            refine ⟨ha.1, ha.2.1, ?_⟩
            show 1 ≤ (upd (u.2 13) j (iI m) q).toInt ∧ (upd (u.2 13) j (iI m) q).toInt ≤ 9999
            unfold upd
            split
            · rw [toInt_iI m (by omega) (by omega)]; exact c2
            · exact ha.2.2) (fun i' hi' => by
            have ha := hI.app i' hi'
            have e3 : (if i' = t.toNat then xl (3000 + t.toNat) else xl (3000 + i')) = xl (3000 + i') := by
              split
              · rename_i c; rw [c]
              · rfl
            rw [e3]
            unfold AppF vR vN at *
            rw [hu11, hu12]
            exact ha)
          rw [hw] at hK hI1
          have hbk2 := hK.book
          rw [k4]
          simp only [Option.bind_some]
          rw [if_neg (show ¬ (1 : Int32) = 0 by decide)]
          simp only [Option.bind_some]
          rw [if_true, z1]
          simp only [Option.bind_some]
          rw [if_true, isO_at hbk2, if_pos rfl, z_answer hK, fineKb, if_neg (by omega), if_neg (by omega)]
          exact ans_fine hL hK hI1 _
        · -- told the first time
          have hja : j = (vN u 10).toNat := by
            rcases Nat.lt_or_ge j (vN u 10).toNat with q | q
            · obtain ⟨e1, e2⟩ := j2 q
              exact absurd e2 (q1 j ((hF.mem j).mpr ⟨q, by rw [et]; exact e1⟩))
            · omega
          have hllen : (xl (3000 + t.toNat)).length ≤ (vN u 10).toNat := by
            rw [hF.1.length_eq]
            exact Nat.le_trans (List.length_filter_le ..) (by rw [List.length_range]; exact Nat.le_refl _)
          rw [q6]
          simp only [Option.bind_some]
          rw [if_true]
          simp only [Option.bind_some]
          rw [if_neg (show ¬ iI 1 = (0 : Int32) by decide), gI_at h.book]
          simp only [booF, List.getElem?_cons_zero, List.getElem?_cons_succ, Option.bind_some]
          rw [u1_iI u 10, show (48 : Int32) = iI 48 from rfl, it_lt _ _ (by omega), z_refuse9 h, noKb]
          by_cases c3 : vN u 10 < 48
          · rw [if_pos c3, if_neg (by omega), if_pos hja]
            obtain ⟨M1, z1, z2, z3⟩ := z_tell_new (u := u) hA hdv hBa ho (by omega) hg 4000 (by omega) d m hd q2 q4 q5 q6 j
            have hap := z3 (uI (apU u j t d m) 10 (iI (vN u 10 + 1))) (by show upd (u.2 12) j (iI d) j = _; simp [upd]) (by show upd (u.2 13) j (iI m) j = _; simp [upd]) (fun i hi => by
              have := ((hF.mem i).mp hi).1
              have hne : i ≠ j := by omega
              exact ⟨by show upd (u.2 12) j (iI d) i = _; simp [upd, hne], by show upd (u.2 13) j (iI m) i = _; simp [upd, hne]⟩)
            have k1 : M1 x0 = M x0 := z2 x0 nx.1 nx.2.1 nx.2.2
            rw [h.book] at k1
            have hxa : x0 ≠ ad (3000 + t.toNat) := nx.1
            -- the count goes up
            have hw : apMix u (uI (apU u j t d m) 10 (iI (vN u 10 + 1))) = uI (apU u j t d m) 10 (iI (vN u 10 + 1)) := mixU_self (fun k hk => by
              simp only [Bool.or_eq_false_iff, beq_eq_false_iff_ne] at hk
              show upd u.1 10 _ k = _
              simp [upd, hk.1]) (fun k hk => by
              simp only [Bool.or_eq_false_iff, beq_eq_false_iff_ne] at hk
              show va_up (va_up (va_up u.2 11 _) 12 _) 13 _ k = _
              rw [va_up_ne _ _ hk.2.2, va_up_ne _ _ hk.2.1, va_up_ne _ _ hk.1])
            have hw10 : vN (uI (apU u j t d m) 10 (iI (vN u 10 + 1))) 10 = vN u 10 + 1 := by
              rw [vN_uI _ _ _ _ (by omega), if_pos rfl]
            have hK := RepK.app hL h (M1 := va_up M1 x0 (some (.inl (14, booF ad (iI (stdS u)) (u.1 33) (iI (vN u 10 + 1)) (u.1 4) (u.1 2))))) (w := uI (apU u j t d m) 10 (iI (vN u 10 + 1))) (i := t.toNat) (l1 := (xl (3000 + t.toNat)).take q ++ j :: (xl (3000 + t.toNat)).drop q) (by omega) (by omega) (by omega) (fun id i1 i2 b hb => ⟨by
              rw [va_up_ne _ _ (fun e => by rw [e, ox] at hb; exact i1 hb.symm)]
              exact z2 b (fun e => by rw [e, ho.1] at hb; exact i2 hb.symm) (fun e => by rw [e, ho.2.1] at hb; exact i2 hb.symm) (fun e => by rw [e, ho.2.2] at hb; exact i2 hb.symm), hb⟩) (fun b hb => by
              rw [va_up_ne _ _ (fun e => by have := h.bookB; omega)]
              exact z2 b (by omega) (by omega) (by omega)) (by rw [va_up_self]; rfl) (hap.fr (fun b hb => ⟨va_up_ne _ _ (fun e => by rw [e, ox] at hb; omega), hb⟩)) (fun i' hi' hne qq hq => by
              have hqj : qq ≠ j := fun e => by
                have := ((hI.app i' hi').mem qq).mp hq
                omega
              exact ⟨by show upd (u.2 12) j (iI d) qq = _; simp [upd, hqj], by show upd (u.2 13) j (iI m) qq = _; simp [upd, hqj]⟩)
            have hI1 := hI.apm (w := uI (apU u j t d m) 10 (iI (vN u 10 + 1))) (i := t.toNat) (l1 := (xl (3000 + t.toNat)).take q ++ j :: (xl (3000 + t.toNat)).drop q) (by omega) (by rw [hw10]; omega) (fun qq hq => by
              rw [hw10] at hq
              show (0 ≤ (upd (u.2 11) j (iI t) qq).toInt ∧ (upd (u.2 11) j (iI t) qq).toInt < vN u 5) ∧ (0 ≤ (upd (u.2 12) j (iI d) qq).toInt ∧ (upd (u.2 12) j (iI d) qq).toInt ≤ 999) ∧ (1 ≤ (upd (u.2 13) j (iI m) qq).toInt ∧ (upd (u.2 13) j (iI m) qq).toInt ≤ 9999)
              unfold upd
              by_cases c : qq = j
              · rw [if_pos c, if_pos c, if_pos c, toInt_iI t (by omega) (by omega), toInt_iI d (by omega) (by omega), toInt_iI m (by omega) (by omega)]
                omega
              · rw [if_neg c, if_neg c, if_neg c]
                exact hI.apt qq (by omega)) (fun i' hi' => by
              have ha := hI.app i' hi'
              have hlow : ∀ qq, qq < (vN u 10).toNat → vR (uI (apU u j t d m) 10 (iI (vN u 10 + 1))) 11 qq = vR u 11 qq ∧ vR (uI (apU u j t d m) 10 (iI (vN u 10 + 1))) 12 qq = vR u 12 qq := fun qq hq => by
                have hqj : qq ≠ j := by omega
                exact ⟨by show (upd (u.2 11) j (iI t) qq).toInt = _; simp [upd, hqj, vR], by show (upd (u.2 12) j (iI d) qq).toInt = _; simp [upd, hqj, vR]⟩
              have h11j : vR (uI (apU u j t d m) 10 (iI (vN u 10 + 1))) 11 (vN u 10).toNat = t := by
                rw [← hja]
                show (upd (u.2 11) j (iI t) j).toInt = _
                simp [upd, toInt_iI t ht.1 ht.2]
              have h12j : vR (uI (apU u j t d m) 10 (iI (vN u 10 + 1))) 12 j = d := by
                show (upd (u.2 12) j (iI d) j).toInt = _
                simp [upd, toInt_iI d hd.1 hd.2]
              unfold AppF
              rw [hw10, show (vN u 10 + 1).toNat = (vN u 10).toNat + 1 by omega]
              by_cases c : i' = t.toNat
              · subst c
                rw [if_pos rfl]
                refine ⟨?_, pair_ins ha.2 (fun a ha2 => (hlow a ((ha.mem a).mp ha2).1).2) (fun a ha2 => by rw [h12j]; exact q3 a ha2) (fun a ha2 => by rw [h12j]; exact q4 a ha2)⟩
                have hpi := perm_ins (n := (vN u 10).toNat) (q := q) (p1 := fun qq => decide (vR (uI (apU u j t d m) 10 (iI (vN u 10 + 1))) 11 qq = ((t.toNat : Nat) : Int))) ha.1 (fun qq hq => by simp only [(hlow qq hq).1]) (by simp only [h11j]; simp [et])
                have ej : (xl (3000 + t.toNat)).take q ++ j :: (xl (3000 + t.toNat)).drop q = (xl (3000 + t.toNat)).take q ++ (vN u 10).toNat :: (xl (3000 + t.toNat)).drop q := by rw [← hja]
                rw [ej]
                exact hpi
              · rw [if_neg c]
                refine ⟨perm_out ha.1 (fun qq hq => by rw [(hlow qq hq).1]) (by rw [h11j]; simp; omega), ha.2.imp_of_mem (fun x1 x2 x3 => ?_)⟩
                rw [(hlow _ ((ha.mem _).mp x1).1).2, (hlow _ ((ha.mem _).mp x2).1).2]
                exact x3)
            rw [hw] at hK hI1
            have hbk2 := hK.book
            rw [z1]
            simp only [Option.bind_some]
            rw [if_neg (show ¬ iI 1 = (0 : Int32) by decide), gI_at k1]
            simp only [booF, List.getElem?_cons_zero, List.getElem?_cons_succ, Option.bind_some]
            have k1' : M1 x0 = some (.inl (14, booF ad (iI (stdS u)) (u.1 33) (u.1 10) (u.1 4) (u.1 2))) := k1
            rw [u1_iI u 10, iI_add, pF_at h.bookB k1', if_pos (by simp [booF]), Option.bind_some, booF_set8, isO_at (va_up_self ..), if_pos rfl, z_answer hK, fineKb]
            exact ans_fine hL hK hI1 _
          · rw [if_neg c3, if_pos (by omega)]
            exact ans_no hL h hI 9
      · rw [if_pos c2]
        by_cases c3 : m < 1
        · rw [if_pos c3]
          exact ans_no hL h hI 3
        · rw [if_neg c3, if_neg (by omega)]
          exact ans_no hL h hI 3
    · simp only [if_neg c1, if_pos c1, noKb, z_refuseAsked1 h, if_true, not_false_eq_true]
      exact ans_no hL h hI 3
  · simp only [if_neg c0, if_pos c0, Option.bind_some, if_true, noKb, z_refuseAsked0 h]
    exact ans_no hL h hI 1
end AS
