/-! CANCEL, both sides -/
theorem CalR.congr {M : Mem} {rho : Nat → Nat} {id a : Nat} {f f1 : Int → Int} {tk tk1 : Int} (h : CalR M rho id a f tk) (hf : ∀ k, f1 k = f k) (ht : tk1 = tk) : CalR M rho id a f1 tk1 := by
  obtain ⟨d, g, h1, h2, h3⟩ := h
  exact ⟨d, g, by rw [ht]; exact h1, h2, fun k a b => by rw [h3 k a b, hf]⟩
section QCA
variable {B : Nat} {S : Nat → Nat} {L : Mem} {x0 : Nat} {ad rho : Nat → Nat} {xl : Nat → List Nat} {M : Mem} {u : MS} {sz : Nat}
theorem q_cancel (hL : LOK B L) (h : RepK B S L x0 ad rho xl M u sz) (hI : Inv u xl) (l : Int) (hl : -2147483648 ≤ l ∧ l < 2147483648) : Ans B S L x0 sz (vN u 19).toNat (vN u 33).toNat (f_X11_cancel B 4000 M (some x0) (iI l)) (f_X12_cancel 4000 u (iI l)) := by
  have h5 := hI.n5
  have h19 := hI.n19
  have h14 := hI.n14
  have h23 := hI.n23
  rw [t_cancel 4000 u l hl hI.num (by omega)]
  unfold f_X11_cancel
  rw [isO_at h.book, if_pos rfl, z_standingLoanAt h l hl]
  by_cases c0 : (0 ≤ l ∧ l ≤ vN u 23 - 1) ∧ vR u 24 l.toNat ≠ 0
  · have n0 : ¬ ¬ ((0 ≤ l ∧ l ≤ vN u 23 - 1) ∧ vR u 24 l.toNat ≠ 0) := fun q => q c0
    simp only [if_pos c0, if_neg n0, Option.bind_some, reduceCtorEq, if_false]
    have hln : l.toNat < (vN u 23).toNat := by omega
    have el : ((l.toNat : Nat) : Int) = l := by omega
    obtain ⟨⟨q, g1, g2⟩, g3⟩ := h.loa hln
    have oB := h.own g1 (by omega)
    have ox := h.2.1.1.2
    have oR : ∀ a, rho a ≠ 0 → B ≤ a := fun a ha => (h.1.2 a ha).1
    have nx : x0 ≠ ad (8000 + l.toNat) := fun e => by
      have := g1.2
      rw [← e, ox] at this
      omega
    -- the loan, the count
    have hst := stdS_ca (u := u) hln c0.2
    rw [pF_at oB.1 g1.1, if_pos (by simp)]
    simp only [Option.bind_some]
    have b1 : (va_up M (ad (8000 + l.toNat)) (some (.inl (7, [.ref (ad (5000 + (vR u 25 l.toNat).toNat)), .int (u.2 26 l.toNat), .ref q, .int (u.2 24 l.toNat), .int (u.2 27 l.toNat)].set 3 (.int (0 : Int32)))))) x0 = some (.inl (14, booF ad (iI (stdS u)) (u.1 33) (u.1 10) (u.1 4) (u.1 2))) := by
      rw [va_up_ne _ _ nx]
      exact h.book
    rw [gI_at b1]
    simp only [booF, List.getElem?_cons_zero, List.getElem?_cons_succ, Option.bind_some]
    have b1' := b1
    rw [show (1 : Int32) = iI 1 from rfl, iI_sub, pF_at h.bookB b1, if_pos (by simp [booF])]
    simp only [Option.bind_some]
    generalize hM6 : va_up (va_up M (ad (8000 + l.toNat)) (some (.inl (7, [.ref (ad (5000 + (vR u 25 l.toNat).toNat)), .int (u.2 26 l.toNat), .ref q, .int (u.2 24 l.toNat), .int (u.2 27 l.toNat)].set 3 (.int (0 : Int32)))))) x0 (some (.inl (14, (booF ad (iI (stdS u)) (u.1 33) (u.1 10) (u.1 4) (u.1 2)).set 6 (.int (iI (stdS u - 1)))))) = M6
    have b6 : M6 x0 = some (.inl (14, booF ad (iI (stdS u - 1)) (u.1 33) (u.1 10) (u.1 4) (u.1 2))) := by
      rw [← hM6, va_up_self]
      rfl
    have l6 : M6 (ad (8000 + l.toNat)) = some (.inl (7, [.ref (ad (5000 + (vR u 25 l.toNat).toNat)), .int (u.2 26 l.toNat), .ref q, .int (iI 0), .int (u.2 27 l.toNat)])) := by
      rw [← hM6, va_up_ne _ _ nx.symm, va_up_self]
      rfl
    have f6 : ∀ y, y ≠ x0 → y ≠ ad (8000 + l.toNat) → M6 y = M y := fun y y1 y2 => by
      rw [← hM6, va_up_ne _ _ y1, va_up_ne _ _ y2]
    have k6 : ∀ id, id ≠ 1 → id ≠ 8000 + l.toNat → Kept M rho id M6 rho := fun id i1 i2 y hy => ⟨f6 y (fun e => by rw [e, ox] at hy; exact i1 hy.symm) (fun e => by rw [e, g1.2] at hy; exact i2 hy.symm), hy⟩
    -- the things' calendars
    obtain ⟨M7, z7, c7, f7⟩ := z_relThings_L (rho := rho) (N := (vN u 5).toNat) (by omega) (fun i => loanS u i) (fun i k => by have := loanS_rng u i k h23; omega) (fun i => if hi : i < (vN u 5).toNat then (h.thi hi).2.1.choose else 0) 4000 (by omega) l hl oR (show (booF ad (iI (stdS u - 1)) (u.1 33) (u.1 10) (u.1 4) (u.1 2))[2]? = some (.ref (ad 4)) from rfl) 4000 0 M6 (by omega) (by omega) b6 ox (h.rows.1.fr (k6 4 (by omega) (by omega))) (fun j hj => by
      obtain ⟨w, t1, -⟩ := (h.thi hj).1
      exact ⟨_, t1.fr (k6 _ (by omega) (by omega)), rfl⟩) (fun j _ hj => by
      simp only [dif_pos hj]
      exact (h.thi hj).2.1.choose_spec.fr (k6 _ (by omega) (by omega))) (fun j hj => by omega)
    have k7 : ∀ id, id ≠ 1 → id ≠ 8000 + l.toNat → (∀ j, j < (vN u 5).toNat → id ≠ 2000 + j) → Kept M rho id M7 rho := fun id i1 i2 i3 y hy => ⟨(f7 y (fun j hj e => i3 j hj (by rw [← e, hy]))).trans ((k6 id i1 i2 y hy).1), hy⟩
    have b7 : M7 x0 = some (.inl (14, booF ad (iI (stdS u - 1)) (u.1 33) (u.1 10) (u.1 4) (u.1 2))) := (f7 x0 (fun j hj e => by omega)).trans b6
    have l7 : M7 (ad (8000 + l.toNat)) = M6 (ad (8000 + l.toNat)) := f7 _ (fun j hj e => by have := g1.2; omega)
    -- the couriers' calendars
    obtain ⟨M8, z8, c8, f8⟩ := z_relCou_L (rho := rho) (N := (vN u 19).toNat) (by omega) (fun c => calS u c (vN u 23)) (fun c k => by have := calS_rng u c (vN u 23) k (by omega); omega) (fun c => takenS u c (vN u 23)) 4000 (by omega) l hl oR (show (booF ad (iI (stdS u - 1)) (u.1 33) (u.1 10) (u.1 4) (u.1 2))[4]? = some (.ref (ad 6)) from rfl) 4000 0 M7 (by omega) (by omega) b7 ox (h.rows.2.2.1.fr (k7 6 (by omega) (by omega) (fun j _ => by omega))) (fun j hj => by
      obtain ⟨w, t1, -⟩ := (h.cou hj).1
      exact ⟨_, t1.fr (k7 _ (by omega) (by omega) (fun j _ => by omega)), rfl⟩) (fun j _ hj => (h.cou hj).2.fr (k7 _ (by omega) (by omega) (fun j _ => by omega))) (fun j hj => by omega)
    have k8 : ∀ id, id ≠ 1 → id ≠ 8000 + l.toNat → (∀ j, j < (vN u 5).toNat → id ≠ 2000 + j) → (∀ j, j < (vN u 19).toNat → id ≠ 7000 + j) → Kept M rho id M8 rho := fun id i1 i2 i3 i4 y hy => ⟨(f8 y (fun j hj e => i4 j hj (by rw [← e, hy]))).trans ((k7 id i1 i2 i3 y hy).1), hy⟩
    have b8 : M8 x0 = some (.inl (14, booF ad (iI (stdS u - 1)) (u.1 33) (u.1 10) (u.1 4) (u.1 2))) := (f8 x0 (fun j hj e => by omega)).trans b7
    have l8 : M8 (ad (8000 + l.toNat)) = M6 (ad (8000 + l.toNat)) := (f8 _ (fun j hj e => by have := g1.2; omega)).trans l7
    have c7' : ∀ j, j < (vN u 5).toNat → ∃ t, CalR M8 rho (2000 + j) (ad (2000 + j)) (relF (loanS u j) l) t := fun j hj => by
      obtain ⟨t, ht⟩ := c7 j hj
      exact ⟨t, ht.fr (fun y hy => ⟨f8 y (fun j' hj' e => by omega), hy⟩)⟩
    have c2' : ∀ a, a < B → M8 a = M a := fun a ha => by
      have hr : rho a = 0 := by
        by_cases e : rho a = 0
        · exact e
        · have := oR a e
          omega
      rw [f8 a (fun j _ => by omega), f7 a (fun j _ => by omega), f6 a (fun e => by have := h.bookB; omega) (fun e => by omega)]
    have hK : RepK B S L x0 ad rho xl M8 (caU u l.toNat) sz := by
      obtain ⟨⟨c1, c2⟩, ⟨d1, d2, d3, d4⟩, t1, t2, t3, t4, t5⟩ := h
      refine ⟨⟨fun a e ha => ?_, c2⟩, ⟨⟨?_, d1.2⟩, d2.fr (k8 2 (by omega) (by omega) (fun j _ => by omega) (fun j _ => by omega)), d3.fr (k8 3 (by omega) (by omega) (fun j _ => by omega) (fun j _ => by omega)), d4.fr (k8 4 (by omega) (by omega) (fun j _ => by omega) (fun j _ => by omega)) (k8 5 (by omega) (by omega) (fun j _ => by omega) (fun j _ => by omega)) (k8 6 (by omega) (by omega) (fun j _ => by omega) (fun j _ => by omega)) (k8 7 (by omega) (by omega) (fun j _ => by omega) (fun j _ => by omega))⟩, ?_, ?_, ?_, ?_, ?_⟩
      · rw [c2' a]
        · exact c1 a e ha
        · rcases Nat.lt_or_ge a B with q | q
          · exact q
          · rw [hL a q] at ha
            cases ha
      · rw [b8, hst]
        rfl
      · intro i hi
        have hi2 : i < (vN u 5).toNat := hi
        obtain ⟨r1, -, r3, r4⟩ := t1 i hi2
        obtain ⟨t, ht⟩ := c7' i hi2
        refine ⟨r1.fr (k8 _ (by omega) (by omega) (fun j _ => by omega) (fun j _ => by omega)), ⟨t, ht.congr (fun k => ?_) rfl⟩, r3.fr (k8 _ (by omega) (by omega) (fun j _ => by omega) (fun j _ => by omega)), r4.fr (k8 _ (by omega) (by omega) (fun j _ => by omega) (fun j _ => by omega))⟩
        rw [loanS_ca hI hi2 k, el]
      · intro i hi
        have hi2 : i < (vN u 14).toNat := hi
        exact (t2 i hi2).fr (k8 _ (by omega) (by omega) (fun j _ => by omega) (fun j _ => by omega))
      · intro i hi
        have hi2 : i < (vN u 19).toNat := hi
        have hc8 := c8 i hi2
        refine ⟨(t3 i hi2).1.fr (k8 _ (by omega) (by omega) (fun j _ => by omega) (fun j _ => by omega)), hc8.congr (fun k => ?_) ?_⟩
        · show calS (caU u l.toNat) i (vN u 23) k = _
          rw [calS_ca hI hi2 hln k, el]
        · show takenS (caU u l.toNat) i (vN u 23) = _
          rw [takenS_ca hI hi2 hln, el]
      · intro i hi
        have hi2 : i < (vN u 23).toNat := hi
        obtain ⟨⟨q', r1, r2⟩, r3⟩ := t4 i hi2
        by_cases e : i = l.toNat
        · subst e
          have eq : q' = q := by
            have := r1.1
            rw [g1.1] at this
            simp only [Option.some.injEq, Sum.inl.injEq, Prod.mk.injEq, List.cons.injEq, Value.ref.injEq, true_and, and_true] at this
            exact this.symm
          subst eq
          have ncp : q' ≠ x0 ∧ q' ≠ ad (8000 + l.toNat) := by
            obtain ⟨mc, ee, cap, gg, m1, -⟩ := r2
            constructor
            · intro e
              have := m1.2
              rw [e, ox] at this
              omega
            · intro e
              have := m1.1
              rw [e, g1.1] at this
              cases this
          refine ⟨⟨q', ⟨?_, r1.2⟩, ?_⟩, fun p hp => ?_⟩
          · rw [l8, l6]
            show some (Sum.inl (7, [_, _, _, Value.int (iI 0), _])) = some (Sum.inl (7, [_, _, _, Value.int (upd (u.2 24) l.toNat (iI 0) l.toNat), _]))
            unfold upd
            rw [if_pos rfl]
            rfl
          · obtain ⟨mc, ee, cap, gg, m1, m2, m3, m4⟩ := r2
            have same : ∀ y, rho y = 8000 + l.toNat → y ≠ ad (8000 + l.toNat) → M8 y = M y := fun y hy y2 => by
              rw [f8 y (fun j _ => by omega), f7 y (fun j _ => by omega), f6 y (fun e => by rw [e, ox] at hy; omega) y2]
            refine ⟨mc, ee, cap, gg, ⟨(same q' m1.2 ncp.2).trans m1.1, m1.2⟩, ?_, m3, m4⟩
            rcases m2 with m2 | ⟨m2, m5⟩
            · exact Or.inl m2
            · refine Or.inr ⟨⟨(same ee m2.2 (fun e => ?_)).trans m2.1, m2.2⟩, m5⟩
              have := m2.1
              rw [e, g1.1] at this
              cases this
          · exact (r3 p hp).fr (k8 _ (by omega) (by omega) (fun j _ => by omega) (fun j _ => by omega))
        · refine ⟨⟨q', ?_, r2.fr (k8 _ (by omega) (by omega) (fun j _ => by omega) (fun j _ => by omega))⟩, fun p hp => (r3 p hp).fr (k8 _ (by omega) (by omega) (fun j _ => by omega) (fun j _ => by omega))⟩
          have hu : (caU u l.toNat).2 24 i = u.2 24 i := by
            show upd (u.2 24) l.toNat (iI 0) i = _
            unfold upd
            rw [if_neg e]
          have := r1.fr (k8 _ (by omega) (by omega) (fun j _ => by omega) (fun j _ => by omega))
          rw [hu]
          exact this
      · exact fun i hi => (t5 i hi).fr (k8 _ (by omega) (by omega) (fun j _ => by omega) (fun j _ => by omega))
    have hI1 : Inv (caU u l.toNat) xl := hI.cancel
    unfold f_X11_releaseThings f_X11_releaseCouriers
    rw [isO_at b6, if_pos rfl, show (0 : Int32) = iI ((0 : Nat) : Int) from rfl, z7, Option.bind_some, isO_at b7, if_pos rfl, z8, Option.bind_some, gI_at b8]
    simp only [booF, List.getElem?_cons_zero, List.getElem?_cons_succ, Option.bind_some]
    rw [isO_at b8, if_pos rfl, z_answer hK, fineKb, ← hst]
    exact ans_fine hL hK hI1 _
  · simp only [if_neg c0, if_pos c0, Option.bind_some, if_true, z_refuse1 h, noKb]
    exact ans_no hL h hI 1
end QCA
