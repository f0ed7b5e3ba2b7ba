/-! BEHIND A READING: both sides' states -/
section RREAD
variable {B : Nat} {S : Nat → Nat} {L : Mem} {x0 : Nat} {ad rho : Nat → Nat} {xl : Nat → List Nat} {M M1 : Mem} {u u1 : MS} {sz N j : Nat} {g : Nat → Int} {t : List Int} {w : Int}
theorem Rd.rea (h : Rd B ad rho M M1 N g t j w) (hu : u1.1 3 = iI w) : ReaR ad rho M1 u1 := by
  obtain ⟨p, row, s, c, m, ⟨⟨-, d2, -, -⟩, d5, d6, d7⟩, ⟨o1, o2, o3, o4, o5, o6⟩, ⟨r1, ⟨fr, r2, -⟩, -, q, fs, fc, fm, -, -, ⟨p1, p2, p3, p4⟩, -, -⟩, -⟩ := h
  refine ⟨p, row, s, c, m, iI t.length, iI j, iI q, iI N, ⟨?_, o1⟩, ⟨p1, o2⟩, ⟨fr, r2, o3⟩, ⟨fs, p2, o4⟩, ⟨fc, p3, o5⟩, ⟨fm, p4, o6⟩, d5, d6, d7, d2⟩
  rw [hu]
  exact r1
theorem Rd.fr (h : Rd B ad rho M M1 N g t j w) {M2 : Mem} (hk : ∀ y, rho y = 3 → M2 y = M1 y) : Rd B ad rho M2 M2 N g t j w := by
  obtain ⟨p, row, s, c, m, hD, ⟨o1, o2, o3, o4, o5, o6⟩, ⟨r1, ⟨fr, r2, r2'⟩, r3, q, fs, fc, fm, r4, r5, ⟨p1, p2, p3, p4⟩, r6, r7⟩, -⟩ := h
  exact ⟨p, row, s, c, m, hD, ⟨o1, o2, o3, o4, o5, o6⟩, ⟨(hk _ o1).trans r1, ⟨fr, (hk _ o3).trans r2, r2'⟩, r3, q, fs, fc, fm, r4, r5, ⟨(hk _ o2).trans p1, (hk _ o4).trans p2, (hk _ o5).trans p3, (hk _ o6).trans p4⟩, r6, r7⟩, fun _ _ => rfl⟩
theorem Rd.frm (h : Rd B ad rho M M1 N g t j w) : ∀ y, rho y ≠ 3 → M1 y = M y := by
  obtain ⟨p, row, s, c, m, -, -, -, f⟩ := h
  exact f
theorem rep_read (hL : LOK B L) (h : RepK B S L x0 ad rho xl M u sz) (hI : Inv u xl) (hd : Rd B ad rho M M1 N g t j w) (he : EndU u u1 w) : ∃ M2, f_X9_keep B M1 (some (ad 2)) (0 : Int32) = some M2 ∧ isO M1 (some (ad 2)) 12 = true ∧ M1 x0 = M x0 ∧ M2 x0 = M x0 ∧ Rd B ad rho M2 M2 N g t j w ∧ (∀ y, rho y ≠ 2 → rho y ≠ 3 → M2 y = M y) ∧ ∀ f : Int32, RepK B S L x0 ad rho xl (va_up M2 x0 (some (.inl (14, booF ad (iI (stdS u)) (u.1 33) (u.1 10) f (u.1 2))))) (uI u1 4 f) sz ∧ Inv (uI u1 4 f) xl := by
  obtain ⟨b, tp, o1, o2⟩ := h.2.1.2.1.tp
  have hx : rho x0 = 1 := h.2.1.1.2
  have fr := hd.frm
  have h1 := hI.n1
  have hb2 : B ≤ ad 2 := (h.1.2 (ad 2) (by rw [o1]; decide)).1
  have tp1 : TP M1 (ad 2) b (vN u 1) (u.2 0) := ⟨(fr (ad 2) (by rw [o1]; decide)).trans tp.1, (fr b (by rw [o2]; decide)).trans tp.2⟩
  have xn : x0 ≠ ad 2 := fun e => by rw [e, o1] at hx; cases hx
  have f2 : ∀ y, rho y ≠ 2 → rho y ≠ 3 → (va_up M1 (ad 2) (some (.inl (12, [.ref b, .int (iI 0)])))) y = M y := fun y y2 y3 => by
    rw [va_up_ne _ _ (fun e => y2 (by rw [e]; exact o1)), fr y y3]
  refine ⟨va_up M1 (ad 2) (some (.inl (12, [.ref b, .int (iI 0)]))), by rw [iI_zero]; exact z_keep tp1 hb2 0 (by omega) h1.2, isO_at tp1.1, fr x0 (by rw [hx]; decide), f2 x0 (by rw [hx]; decide) (by rw [hx]; decide), hd.fr (fun y hy => va_up_ne _ _ (fun e => by rw [e, o1] at hy; cases hy)), f2, fun f => ?_⟩
  have hw : topU u (uI u1 4 f) = uI u1 4 f := topU_self (fun k k1 k2 k3 k4 k40 => by
    have e := he.2.2.2.1 k k1 k3 k4 (by omega)
    show upd u1.1 4 f k = u.1 k
    unfold upd
    rw [if_neg k4, e]) (fun k _ hk => he.2.2.2.2 k (by omega))
  have e1 : (uI u1 4 f).1 1 = iI 0 := by simpa [uI, upd] using he.2.1
  have e3 : (uI u1 4 f).1 3 = iI w := by simpa [uI, upd] using he.1
  have v1 : vN (uI u1 4 f) 1 = 0 := by
    unfold vN
    rw [e1]
    exact toInt_iI 0 (by omega) (by omega)
  constructor
  · rw [← hw]
    refine h.top hL (fun id hid a ha => ⟨?_, ha⟩) (fun a ha => ?_) ?_ ⟨fun k hk => ?_, b, ⟨?_, o1⟩, ⟨?_, o2⟩⟩ ?_
    · rw [va_up_ne _ _ (fun e => by rw [e, hx] at ha; omega)]
      exact f2 a (by omega) (by omega)
    · have r0 : rho a = 0 := by
        rcases Nat.eq_zero_or_pos (rho a) with q | q
        · exact q
        · have := h.1.2 a (by omega)
          omega
      rw [va_up_ne _ _ (fun e => by rw [e, hx] at r0; cases r0)]
      exact f2 a (by omega) (by omega)
    · rw [va_up_self]
      have e4 : (uI u1 4 f).1 4 = f := by simp [uI, upd]
      have e2 : (uI u1 4 f).1 2 = u.1 2 := by
        have := he.2.2.2.1 2 (by decide) (by decide) (by decide) (by decide)
        simpa [uI, upd] using this
      rw [e4, e2]
    · rw [v1] at hk
      exact absurd hk (by simp)
    · rw [va_up_ne _ _ xn.symm, va_up_self, e1]
    · have bx : b ≠ x0 := fun e => by rw [e, hx] at o2; cases o2
      rw [va_up_ne _ _ bx, va_up_ne _ _ tp.ne.symm, fr b (by rw [o2]; decide), show (uI u1 4 f).2 0 = u.2 0 from he.2.2.2.2 0 (by decide)]
      exact tp.2
    · exact (hd.fr (fun y hy => by
        rw [va_up_ne _ _ (fun e => by rw [e, hx] at hy; cases hy), va_up_ne _ _ (fun e => by rw [e, o1] at hy; cases hy)])).rea e3
  · rw [← hw]
    exact hI.top (by rw [v1]; omega)
/-- the same behind an emptied tape -/
theorem rep_read2 (hL : LOK B L) (h : RepK B S L x0 ad rho xl M u sz) (hI : Inv u xl) {M2 : Mem} (hd : Rd B ad rho (kpM B ad M) M2 N g t j w) (he : EndU u u1 w) : M2 x0 = M x0 ∧ Rd B ad rho M2 M2 N g t j w ∧ (∀ y, rho y ≠ 2 → rho y ≠ 3 → M2 y = M y) ∧ ∀ f : Int32, RepK B S L x0 ad rho xl (va_up M2 x0 (some (.inl (14, booF ad (iI (stdS u)) (u.1 33) (u.1 10) f (u.1 2))))) (uI u1 4 f) sz ∧ Inv (uI u1 4 f) xl := by
  obtain ⟨b, tp, o1, o2, hb2, ek⟩ := kpM_at h hI
  have h1 := hI.n1
  have fr := hd.frm
  have nb : b ≠ ad 2 := tp.ne.symm
  generalize hM1 : va_up M2 (ad 2) (M (ad 2)) = M1
  have f1 : ∀ y, y ≠ ad 2 → M1 y = M2 y := fun y hy => by rw [← hM1, va_up_ne _ _ hy]
  have f2 : M1 (ad 2) = M (ad 2) := by rw [← hM1, va_up_self]
  have hfr : ∀ y, rho y ≠ 3 → M1 y = M y := fun y hy => by
    by_cases e : y = ad 2
    · rw [e]
      exact f2
    · rw [f1 y e, fr y hy, ek, va_up_ne _ _ e]
  have d1 : Rd B ad rho M M1 N g t j w := by
    obtain ⟨p, row, s, c, m, hD, ⟨q1, q2, q3, q4, q5, q6⟩, ⟨r1, ⟨fr', r2, r2'⟩, r3, q, fs, fc, fm, r4, r5, ⟨p1, p2, p3, p4⟩, r6, r7⟩, -⟩ := hd
    have hk : ∀ y, rho y = 3 → M1 y = M2 y := fun y hy => f1 y (fun e => by rw [e, o1] at hy; cases hy)
    exact ⟨p, row, s, c, m, hD, ⟨q1, q2, q3, q4, q5, q6⟩, ⟨(hk _ q1).trans r1, ⟨fr', (hk _ q3).trans r2, r2'⟩, r3, q, fs, fc, fm, r4, r5, ⟨(hk _ q2).trans p1, (hk _ q4).trans p2, (hk _ q5).trans p3, (hk _ q6).trans p4⟩, r6, r7⟩, hfr⟩
  obtain ⟨M3, k1, k2, k3, k4, k5, k6, k7⟩ := rep_read hL h hI d1 he
  have tp1 : TP M1 (ad 2) b (vN u 1) (u.2 0) := ⟨f2.trans tp.1, (hfr b (by rw [o2]; decide)).trans tp.2⟩
  have k1' : f_X9_keep B M1 (some (ad 2)) (0 : Int32) = some (va_up M1 (ad 2) (some (.inl (12, [.ref b, .int (iI 0)])))) := by
    rw [iI_zero]
    exact z_keep tp1 hb2 0 (by omega) h1.2
  have e2 : va_up M1 (ad 2) (some (.inl (12, [.ref b, .int (iI 0)]))) = M2 := by
    funext y
    by_cases e : y = ad 2
    · rw [e, va_up_self, fr (ad 2) (by rw [o1]; decide), ek, va_up_self]
    · rw [va_up_ne _ _ e, f1 y e]
  have e3 : M3 = M2 := Option.some.inj (k1.symm.trans (k1'.trans (congrArg some e2)))
  subst e3
  exact ⟨k4, k5, k6, k7⟩
/-- what a text's reading says of a refusal, and the fault that stays -/
theorem z_refusal {A : Nat → Nat} {st rp ap lf ls : Int32} (hB : B ≤ x0) (hb : M x0 = some (.inl (14, booF A st rp ap lf ls))) (a f r : Int32) : f_X11_refusalOfText B M (some x0) a f r = some ((if a = 0 then 2 else if f = 0 then (if r = 0 then 9 else 0) else 4), va_up M x0 (some (.inl (14, booF A st rp ap f ls)))) := by
  unfold f_X11_refusalOfText
  rw [pF_at hB hb, if_pos (by simp [booF])]
  show (if a = 0 then _ else _) = _
  by_cases c1 : a = 0
  · rw [if_pos c1, if_pos c1]
    rfl
  · rw [if_neg c1, if_neg c1]
    by_cases c2 : f = 0
    · rw [if_pos c2, if_pos c2]
      by_cases c3 : r = 0
      · rw [if_pos c3, if_pos c3]
        rfl
      · rw [if_neg c3, if_neg c3]
        rfl
    · rw [if_neg c2, if_neg c2]
      rfl
/-- an answer with cells made -/
abbrev AnsZ (B : Nat) (S : Nat → Nat) (L : Mem) (x0 sz nc nr : Nat) (K : Option (Int32 × Mem × Nat)) (T : Option (Int32 × MS)) : Prop := ∃ (r : Int32) (M1 : Mem) (sz1 : Nat) (u1 : MS), K = some (r, M1, sz1) ∧ T = some (r, u1) ∧ SimB B S L x0 M1 u1 sz1 nc nr
theorem ansz_no (hL : LOK B L) (h : RepK B S L x0 ad rho xl M u sz) (hI : Inv u xl) (z : Int) {nc nr : Nat} (hc : nc = (vN u 19).toNat) (hr : nr = (vN u 33).toNat) : AnsZ B S L x0 sz nc nr ((noK ad u x0 M z).bind fun r => some (r.1, r.2, sz)) (noS u z) := by
  subst hc hr
  exact ⟨_, _, _, _, rfl, rfl, sim_st hL h hI z⟩
theorem ansz_fine (hL : LOK B L) (h : RepK B S L x0 ad rho xl M u sz) (hI : Inv u xl) (z : Int) {nc nr sz0 : Nat} (hc : nc = (vN u 19).toNat) (hr : nr = (vN u 33).toNat) : AnsZ B S L x0 sz0 nc nr ((fineK ad u x0 M z).bind fun r => some (r.1, r.2, sz)) (fineS u z) := by
  subst hc hr
  exact ⟨_, _, _, _, rfl, rfl, sim_st hL h hI 0⟩
end RREAD
