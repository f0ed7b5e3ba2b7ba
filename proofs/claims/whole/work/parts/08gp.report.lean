/-! REPORT: both answers alike -/
section RES
variable {B : Nat} {S : Nat → Nat} {L : Mem} {x0 : Nat} {ad rho : Nat → Nat} {xl : Nat → List Nat} {M M1 : Mem} {u u1 u6 u8 : MS} {sz N j : Nat} {g : Nat → Int} {t : List Int} {w T D : Int}
theorem booF_set7 (A : Nat → Nat) (st rp ap lf ls z : Int32) : (booF A st rp ap lf ls).set 7 (.int z) = booF A st z ap lf ls := rfl
/-- the tape is empty, all else as it was -/
theorem rep_keep (hL : LOK B L) (h : RepK B S L x0 ad rho xl M u sz) (hI : Inv u xl) : ∃ M2, f_X9_keep B M (some (ad 2)) (0 : Int32) = some M2 ∧ isO M (some (ad 2)) 12 = true ∧ RepK B S L x0 ad rho xl M2 (uI u 1 (iI 0)) sz ∧ Inv (uI u 1 (iI 0)) xl := by
  have h1 := hI.n1
  obtain ⟨b, tp, o1, o2⟩ := h.2.1.2.1.tp
  have hb2 : B ≤ ad 2 := (h.1.2 (ad 2) (by rw [o1]; decide)).1
  have hx : x0 ≠ ad 2 := by
    intro e
    have := h.2.1.1.2
    rw [e, o1] at this
    cases this
  have hbk : (va_up M (ad 2) (some (.inl (12, [.ref b, .int (iI 0)])))) x0 = some (.inl (14, booF ad (iI (stdS u)) (u.1 33) (u.1 10) (u.1 4) (u.1 2))) := by
    rw [va_up_ne _ _ hx]
    exact h.book
  have hw : topU u (uI u 1 (iI 0)) = uI u 1 (iI 0) := topU_self (fun k k1 _ _ _ _ => by simp [uI, upd, k1]) (fun k _ _ => rfl)
  refine ⟨va_up M (ad 2) (some (.inl (12, [.ref b, .int (iI 0)]))), by rw [iI_zero]; exact z_keep tp hb2 0 (by omega) h1.2, isO_at tp.1, ?_, ?_⟩
  · rw [← hw]
    refine h.top hL (fun id hid a ha => ⟨va_up_ne _ _ (fun e => ?_), ha⟩) (fun a ha => va_up_ne _ _ (by omega)) hbk ⟨fun k hk => h.2.1.2.1.1 k (by rw [vN_uI _ _ _ _ (by omega), if_pos rfl] at hk; omega), b, ⟨?_, o1⟩, ⟨tp.set.2, o2⟩⟩ (h.2.1.2.2.1.fr (fun a ha => ⟨va_up_ne _ _ (fun e => ?_), ha⟩))
    · rw [e, o1] at ha; omega
    · rw [va_up_self]; simp [uI, upd]
    · rw [e, o1] at ha; omega
  · rw [← hw]
    exact hI.top (by rw [vN_uI _ _ _ _ (by omega), if_pos rfl]; omega)
theorem gI7 {A : Nat → Nat} {st rp ap lf ls : Int32} (h : M x0 = some (.inl (14, booF A st rp ap lf ls))) : gI M (some x0) 14 7 = some rp := gI_at h
theorem up_same {α : Type} {f : Nat → α} {k : Nat} {v : α} (h : f k = v) : va_up f k v = f := by
  funext y
  by_cases e : y = k
  · rw [e, va_up_self, h]
  · rw [va_up_ne _ _ e]
theorem q_reportW (hL : LOK B L) (h : RepK B S L x0 ad rho xl M u sz) (hI : Inv u xl) {n : Nat} {t : List Int} (cT : 0 ≤ T ∧ T ≤ vN u 5 - 1) (hD : 0 ≤ D ∧ D ≤ 999) {M2 : Mem} (e1 : ∃ Mk, Opn B S n ad x0 M Mk ∧ f_X7_readsReport B n Mk (some (ad 3)) = some (0, M2)) (r1 : Rd B ad rho (kpM B ad M) M2 N g t j w) (hE : EndU u u6 w) : AnsZ B S L x0 sz (vN u 19).toNat (vN u 33).toNat (f_X11_report false B S n M sz (some x0) (iI T) (iI D)) (noS u6 2) := by
  have n5 := hI.n5
  obtain ⟨Mk, ⟨Mb, o1, o2, o3, o4, o5, o6⟩, e1⟩ := e1
  obtain ⟨k4, k5, k6, k7⟩ := rep_read2 hL h hI r1 hE
  have hbb : Mb x0 = some (.inl (14, booF ad (iI (stdS u)) (u.1 33) (u.1 10) (u.1 4) (u.1 2))) := o2.trans h.book
  have hbk : Mk x0 = some (.inl (14, booF ad (iI (stdS u)) (u.1 33) (u.1 10) (u.1 4) (u.1 2))) := o5.trans h.book
  have hb2 : M2 x0 = some (.inl (14, booF ad (iI (stdS u)) (u.1 33) (u.1 10) (u.1 4) (u.1 2))) := k4.trans h.book
  obtain ⟨K3, I3⟩ := k7 (iI 0)
  rw [hE.zero] at K3 I3
  obtain ⟨R, hroom⟩ : ∃ R : Int32, ((if (48 : Int32) ≤ u.1 33 then (some ((0 : Int32), (0 : Int32), (0 : Int32), some x0)) else (some ((1 : Int32), (0 : Int32), (0 : Int32), some x0))) : Option (Int32 × Int32 × Int32 × Option Nat)) = some (R, 0, 0, some x0) := by
    split
    · exact ⟨_, rfl⟩
    · exact ⟨_, rfl⟩
  unfold f_X11_report
  rw [if_pos (isO_at h.book), z_thingAt h T (by omega), if_pos cT]
  simp only [Option.bind_some, reduceCtorEq, if_false]
  rw [z_isDay M D (by omega), Option.bind_some, if_pos hD, if_neg (show ¬ iI 1 = (0 : Int32) by decide), (bk h.book).2.1]
  simp only [Option.bind_some]
  rw [(bk h.book).1]
  simp only [Option.bind_some]
  rw [if_pos h.reader, o1]
  simp only [Option.bind_some]
  rw [(bk hbb).1]
  simp only [Option.bind_some]
  rw [if_pos o3, o4]
  simp only [Option.bind_some]
  rw [(bk hbk).2.1]
  simp only [Option.bind_some]
  rw [if_pos o6, e1]
  simp only [Option.bind_some, if_true]
  rw [gI7 hb2]
  simp only [Option.bind_some]
  rw [hroom]
  simp only [Option.bind_some]
  rw [if_pos (isO_at hb2), z_refusal h.bookB hb2]
  simp only [Option.bind_some, if_true]
  rw [if_neg (show ¬ (2 : Int32) = 0 by decide)]
  refine (congrArg (fun K => AnsZ B S L x0 sz (vN u 19).toNat (vN u 33).toNat K (noS u6 2)) (z_refuseZ K3 2)).mpr ?_
  exact ansz_no hL K3 I3 2 (by rw [hE.num 19 (by decide) (by decide) (by decide) (by decide)]) (by rw [hE.num 33 (by decide) (by decide) (by decide) (by decide)])
set_option maxHeartbeats 4000000 in
theorem q_reportR (hSL : LitOK S L) (hL : LOK B L) (hD : DigOK S L) (hEm : EmpOK S L) (h : RepK B S L x0 ad rho xl M u sz) (hI : Inv u xl) {n : Nat} (hn : 2100 ≤ n) {c : Nat} (hc : c ≤ 15) (ht : t.length = 3 * c) (hv : valH c t) (cT : 0 ≤ T ∧ T ≤ vN u 5 - 1) (hDd : 0 ≤ D ∧ D ≤ 999) {M2 : Mem} (e1 : ∃ Mk, Opn B S n ad x0 M Mk ∧ f_X7_readsReport B n Mk (some (ad 3)) = some (1, M2)) (r1 : Rd B ad rho (kpM B ad M) M2 N g t j w) (hE : EndU u u6 w) : (hOK t c 0 = false → AnsZ B S L x0 sz (vN u 19).toNat (vN u 33).toNat (f_X11_report false B S n M sz (some x0) (iI T) (iI D)) (noS (uI u6 4 (iI 9)) 4)) ∧ (hOK t c 0 = true → ndA t c 0 = false → AnsZ B S L x0 sz (vN u 19).toNat (vN u 33).toNat (f_X11_report false B S n M sz (some x0) (iI T) (iI D)) (noS (uI u6 4 (iI 10)) 4)) ∧ (hOK t c 0 = true → ndA t c 0 = true → (0 ≤ inS u T D ∧ vR u 35 (inS u T D).toNat = D) → AnsZ B S L x0 sz (vN u 19).toNat (vN u 33).toNat (f_X11_report false B S n M sz (some x0) (iI T) (iI D)) (noS (uI u6 4 (iI 11)) 4)) ∧ (hOK t c 0 = true → ndA t c 0 = true → ¬ (0 ≤ inS u T D ∧ vR u 35 (inS u T D).toNat = D) → vN u 33 = 48 → AnsZ B S L x0 sz (vN u 19).toNat (vN u 33).toNat (f_X11_report false B S n M sz (some x0) (iI T) (iI D)) (noS u6 9)) ∧ (hOK t c 0 = true → ndA t c 0 = true → ¬ (0 ≤ inS u T D ∧ vR u 35 (inS u T D).toNat = D) → vN u 33 < 48 → ∀ u8, RpU u6 u8 (vN u 33).toNat c T D t → AnsZ B S L x0 sz (vN u 19).toNat ((vN u 33).toNat + 1) (f_X11_report true B S n M sz (some x0) (iI T) (iI D)) (fineS u8 (sumI (fun q => if decide (vR u8 34 q.toNat = T) = true then 1 else 0) ((vN u 33).toNat + 1) 0))) := by
  have n5 := hI.n5
  have n33 := hI.n33
  have xlt := h.xlt
  have nz : ¬ (1 : Int32) = 0 := by decide
  have eT : ((T.toNat : Nat) : Int) = T := by omega
  obtain ⟨Mk, ⟨Mb, o1, o2, o3, o4, o5, o6⟩, e1⟩ := e1
  obtain ⟨k4, k5, k6, k7⟩ := rep_read2 hL h hI r1 hE
  have hbb : Mb x0 = some (.inl (14, booF ad (iI (stdS u)) (u.1 33) (u.1 10) (u.1 4) (u.1 2))) := o2.trans h.book
  have hbk : Mk x0 = some (.inl (14, booF ad (iI (stdS u)) (u.1 33) (u.1 10) (u.1 4) (u.1 2))) := o5.trans h.book
  have hb2 : M2 x0 = some (.inl (14, booF ad (iI (stdS u)) (u.1 33) (u.1 10) (u.1 4) (u.1 2))) := k4.trans h.book
  obtain ⟨K2, I2⟩ := k7 (u.1 4)
  rw [up_same hb2] at K2
  have v33 : vN u6 33 = vN u 33 := hE.num 33 (by decide) (by decide) (by decide) (by decide)
  have v5 : vN u6 5 = vN u 5 := hE.num 5 (by decide) (by decide) (by decide) (by decide)
  have c19 : ∀ f : Int32, (vN u 19).toNat = (vN (uI u6 4 f) 19).toNat ∧ (vN u 33).toNat = (vN (uI u6 4 f) 33).toNat := fun f => by
    rw [hE.numF 19 (by decide) (by decide) (by decide) (by decide), hE.numF 33 (by decide) (by decide) (by decide) (by decide)]
    exact ⟨rfl, rfl⟩
  have iS : ∀ f, inS (uI u6 4 f) T D = inS u T D := fun f => inS_eq (v := uI u6 4 f) (u := u) (hE.2.2.2.2 34 (by decide)) (hE.2.2.2.2 35 (by decide)) (hE.numF 33 (by decide) (by decide) (by decide) (by decide) f) T D
  have i35 : ∀ f k, vR (uI u6 4 f) 35 k = vR u 35 k := fun f k => by
    show (u6.2 35 k).toInt = (u.2 35 k).toInt
    rw [hE.2.2.2.2 35 (by decide)]
  have hth : isO M2 (some (ad (1000 + T.toNat))) 13 = true := by
    obtain ⟨wq, gq, -⟩ := (K2.thi (i := T.toNat) (by rw [hE.numF 5 (by decide) (by decide) (by decide) (by decide)]; omega)).1
    exact isO_at gq.1
  have hrep : (¬ (0 ≤ inS u T D ∧ vR u 35 (inS u T D).toNat = D) ∧ f_X10_reportOn n M2 (some (ad (1000 + T.toNat))) (iI D) = some none) ∨ ((0 ≤ inS u T D ∧ vR u 35 (inS u T D).toNat = D) ∧ ∃ y, f_X10_reportOn n M2 (some (ad (1000 + T.toNat))) (iI D) = some (some y)) := by
    rcases z_reportOn K2 I2 (i := T.toNat) (by rw [hE.numF 5 (by decide) (by decide) (by decide) (by decide)]; omega) n (by omega) D (by omega) with ⟨q1, q2⟩ | ⟨k, j, q1, q2, q3, q4, q5⟩
    · rw [eT, iS, i35] at q1
      exact Or.inl ⟨q1, q2⟩
    · rw [eT, iS] at q2
      rw [i35] at q3
      refine Or.inr ⟨?_, _, q5⟩
      rw [q2, Int.toNat_natCast]
      exact ⟨by omega, q3⟩
  have hf : ∀ F : Int, F = (if hOK t c 0 = true then (if ndA t c 0 = true then 0 else 10) else 9) → f_X8_faultIn n M2 (some (ad 3)) = some (iI F) := fun F hF => by
    rw [hF]
    exact k5.repFault hv ht hc n (by omega)
  have hroom : ∀ F : Int32, ((if (48 : Int32) ≤ u.1 33 then (some ((0 : Int32), F, (1 : Int32), some x0)) else (some ((1 : Int32), F, (1 : Int32), some x0))) : Option (Int32 × Int32 × Int32 × Option Nat)) = some (iI (if vN u 33 < 48 then 1 else 0), F, 1, some x0) := fun F => by
    rw [u1_iI u 33, show (48 : Int32) = iI 48 from rfl, it_le _ _ (by omega)]
    by_cases q : vN u 33 < 48
    · rw [if_pos q, if_neg (by omega)]
      rfl
    · rw [if_neg q, if_pos (by omega)]
      rfl
  refine ⟨fun c9 => ?_, fun c9 c10 => ?_, fun c9 c10 c11 => ?_, fun c9 c10 c11 cR => ?_, fun c9 c10 c11 cR u8 hru => ?_⟩
  · unfold f_X11_report
    rw [if_pos (isO_at h.book), z_thingAt h T (by omega), if_pos cT]
    simp only [Option.bind_some, reduceCtorEq, if_false]
    rw [z_isDay M D (by omega), Option.bind_some, if_pos hDd, if_neg (show ¬ iI 1 = (0 : Int32) by decide), (bk h.book).2.1]
    simp only [Option.bind_some]
    rw [(bk h.book).1]
    simp only [Option.bind_some]
    rw [if_pos h.reader, o1]
    simp only [Option.bind_some]
    rw [(bk hbb).1]
    simp only [Option.bind_some]
    rw [if_pos o3, o4]
    simp only [Option.bind_some]
    rw [(bk hbk).2.1]
    simp only [Option.bind_some]
    rw [if_pos o6, e1]
    simp only [Option.bind_some]
    rw [if_neg nz, (bk hb2).2.1]
    simp only [Option.bind_some]
    rw [hf 9 (by rw [if_neg (show ¬ hOK t c 0 = true by rw [c9]; decide)])]
    simp only [Option.bind_some]
    rw [if_neg nz]
    rw [if_neg (show ¬ iI 9 = (0 : Int32) by decide)]
    simp only [Option.bind_some]
    rw [gI7 hb2]
    simp only [Option.bind_some]
    rw [hroom]
    simp only [Option.bind_some]
    rw [if_pos (isO_at hb2), z_refusal h.bookB hb2]
    simp only [Option.bind_some]
    rw [if_neg nz]
    obtain ⟨K3, I3⟩ := k7 (iI 9)
    rw [if_neg (show ¬ iI 9 = (0 : Int32) by decide), if_neg (show ¬ (4 : Int32) = 0 by decide)]
    refine (congrArg (fun K => AnsZ B S L x0 sz (vN u 19).toNat (vN u 33).toNat K (noS (uI u6 4 (iI 9)) 4)) (z_refuseZ K3 4)).mpr ?_
    exact ansz_no hL K3 I3 4 (c19 _).1 (c19 _).2
  · unfold f_X11_report
    rw [if_pos (isO_at h.book), z_thingAt h T (by omega), if_pos cT]
    simp only [Option.bind_some, reduceCtorEq, if_false]
    rw [z_isDay M D (by omega), Option.bind_some, if_pos hDd, if_neg (show ¬ iI 1 = (0 : Int32) by decide), (bk h.book).2.1]
    simp only [Option.bind_some]
    rw [(bk h.book).1]
    simp only [Option.bind_some]
    rw [if_pos h.reader, o1]
    simp only [Option.bind_some]
    rw [(bk hbb).1]
    simp only [Option.bind_some]
    rw [if_pos o3, o4]
    simp only [Option.bind_some]
    rw [(bk hbk).2.1]
    simp only [Option.bind_some]
    rw [if_pos o6, e1]
    simp only [Option.bind_some]
    rw [if_neg nz, (bk hb2).2.1]
    simp only [Option.bind_some]
    rw [hf 10 (by rw [if_pos c9, if_neg (show ¬ ndA t c 0 = true by rw [c10]; decide)])]
    simp only [Option.bind_some]
    rw [if_neg nz]
    rw [if_neg (show ¬ iI 10 = (0 : Int32) by decide)]
    simp only [Option.bind_some]
    rw [gI7 hb2]
    simp only [Option.bind_some]
    rw [hroom]
    simp only [Option.bind_some]
    rw [if_pos (isO_at hb2), z_refusal h.bookB hb2]
    simp only [Option.bind_some]
    rw [if_neg nz]
    obtain ⟨K3, I3⟩ := k7 (iI 10)
    rw [if_neg (show ¬ iI 10 = (0 : Int32) by decide), if_neg (show ¬ (4 : Int32) = 0 by decide)]
    refine (congrArg (fun K => AnsZ B S L x0 sz (vN u 19).toNat (vN u 33).toNat K (noS (uI u6 4 (iI 10)) 4)) (z_refuseZ K3 4)).mpr ?_
    exact ansz_no hL K3 I3 4 (c19 _).1 (c19 _).2
  · obtain ⟨y, hy⟩ : ∃ y, f_X10_reportOn n M2 (some (ad (1000 + T.toNat))) (iI D) = some (some y) := by
      rcases hrep with ⟨q1, -⟩ | ⟨-, q2⟩
      · exact absurd c11 q1
      · exact q2
    unfold f_X11_report
    rw [if_pos (isO_at h.book), z_thingAt h T (by omega), if_pos cT]
    simp only [Option.bind_some, reduceCtorEq, if_false]
    rw [z_isDay M D (by omega), Option.bind_some, if_pos hDd, if_neg (show ¬ iI 1 = (0 : Int32) by decide), (bk h.book).2.1]
    simp only [Option.bind_some]
    rw [(bk h.book).1]
    simp only [Option.bind_some]
    rw [if_pos h.reader, o1]
    simp only [Option.bind_some]
    rw [(bk hbb).1]
    simp only [Option.bind_some]
    rw [if_pos o3, o4]
    simp only [Option.bind_some]
    rw [(bk hbk).2.1]
    simp only [Option.bind_some]
    rw [if_pos o6, e1]
    simp only [Option.bind_some]
    rw [if_neg nz, (bk hb2).2.1]
    simp only [Option.bind_some]
    rw [hf 0 (by rw [if_pos c9, if_pos c10])]
    simp only [Option.bind_some]
    rw [if_neg nz]
    rw [if_pos (show iI 0 = (0 : Int32) from rfl), if_pos hth, hy]
    simp only [Option.bind_some, reduceCtorEq, if_false]
    rw [gI7 hb2]
    simp only [Option.bind_some]
    rw [hroom]
    simp only [Option.bind_some]
    rw [if_pos (isO_at hb2), z_refusal h.bookB hb2]
    simp only [Option.bind_some]
    rw [if_neg nz]
    obtain ⟨K3, I3⟩ := k7 (iI 11)
    rw [if_neg (show ¬ (11 : Int32) = 0 by decide), if_neg (show ¬ (4 : Int32) = 0 by decide)]
    refine (congrArg (fun K => AnsZ B S L x0 sz (vN u 19).toNat (vN u 33).toNat K (noS (uI u6 4 (iI 11)) 4)) (z_refuseZ K3 4)).mpr ?_
    exact ansz_no hL K3 I3 4 (c19 _).1 (c19 _).2
  · have hy : f_X10_reportOn n M2 (some (ad (1000 + T.toNat))) (iI D) = some none := by
      rcases hrep with ⟨-, q2⟩ | ⟨q1, -⟩
      · exact q2
      · exact absurd q1 c11
    obtain ⟨K3, I3⟩ := k7 (iI 0)
    rw [hE.zero] at K3 I3
    unfold f_X11_report
    rw [if_pos (isO_at h.book), z_thingAt h T (by omega), if_pos cT]
    simp only [Option.bind_some, reduceCtorEq, if_false]
    rw [z_isDay M D (by omega), Option.bind_some, if_pos hDd, if_neg (show ¬ iI 1 = (0 : Int32) by decide), (bk h.book).2.1]
    simp only [Option.bind_some]
    rw [(bk h.book).1]
    simp only [Option.bind_some]
    rw [if_pos h.reader, o1]
    simp only [Option.bind_some]
    rw [(bk hbb).1]
    simp only [Option.bind_some]
    rw [if_pos o3, o4]
    simp only [Option.bind_some]
    rw [(bk hbk).2.1]
    simp only [Option.bind_some]
    rw [if_pos o6, e1]
    simp only [Option.bind_some]
    rw [if_neg nz, (bk hb2).2.1]
    simp only [Option.bind_some]
    rw [hf 0 (by rw [if_pos c9, if_pos c10])]
    simp only [Option.bind_some]
    rw [if_neg nz]
    rw [if_pos (show iI 0 = (0 : Int32) from rfl), if_pos hth, hy]
    simp only [Option.bind_some, if_true]
    rw [gI7 hb2]
    simp only [Option.bind_some]
    rw [hroom]
    simp only [Option.bind_some]
    rw [if_pos (isO_at hb2), z_refusal h.bookB hb2]
    simp only [Option.bind_some]
    rw [if_neg nz]
    rw [if_pos (show iI 0 = (0 : Int32) from rfl), if_neg (show ¬ vN u 33 < 48 by omega), if_pos (show iI 0 = (0 : Int32) from rfl), if_neg (show ¬ (9 : Int32) = 0 by decide)]
    refine (congrArg (fun K => AnsZ B S L x0 sz (vN u 19).toNat (vN u 33).toNat K (noS u6 9)) (z_refuseZ K3 9)).mpr ?_
    have := c19 (iI 0)
    rw [hE.zero] at this
    exact ansz_no hL K3 I3 9 this.1 this.2
  · have hy : f_X10_reportOn n M2 (some (ad (1000 + T.toNat))) (iI D) = some none := by
      rcases hrep with ⟨-, q2⟩ | ⟨q1, -⟩
      · exact q2
      · exact absurd q1 c11
    obtain ⟨K3, I3⟩ := k7 (iI 0)
    rw [hE.zero] at K3 I3
    unfold f_X11_report
    rw [if_pos (isO_at h.book), z_thingAt h T (by omega), if_pos cT]
    simp only [Option.bind_some, reduceCtorEq, if_false]
    rw [z_isDay M D (by omega), Option.bind_some, if_pos hDd, if_neg (show ¬ iI 1 = (0 : Int32) by decide), (bk h.book).2.1]
    simp only [Option.bind_some]
    rw [(bk h.book).1]
    simp only [Option.bind_some]
    rw [if_pos h.reader, o1]
    simp only [Option.bind_some]
    rw [(bk hbb).1]
    simp only [Option.bind_some]
    rw [if_pos o3, o4]
    simp only [Option.bind_some]
    rw [(bk hbk).2.1]
    simp only [Option.bind_some]
    rw [if_pos o6, e1]
    simp only [Option.bind_some]
    rw [if_neg nz, (bk hb2).2.1]
    simp only [Option.bind_some]
    rw [hf 0 (by rw [if_pos c9, if_pos c10])]
    simp only [Option.bind_some]
    rw [if_neg nz]
    rw [if_pos (show iI 0 = (0 : Int32) from rfl), if_pos hth, hy]
    simp only [Option.bind_some, if_true]
    rw [gI7 hb2]
    simp only [Option.bind_some]
    rw [hroom]
    simp only [Option.bind_some]
    rw [if_pos (isO_at hb2), z_refusal h.bookB hb2]
    simp only [Option.bind_some]
    rw [if_neg nz]
    rw [if_pos (show iI 0 = (0 : Int32) from rfl), if_pos cR, if_neg (show ¬ iI 1 = (0 : Int32) by decide)]
    simp only [if_true]
    have hM3 : (va_up M2 x0 (some (.inl (14, booF ad (iI (stdS u)) (u.1 33) (u.1 10) (iI 0) (u.1 2))))) x0 = some (.inl (14, booF ad (iI (stdS u)) (u.1 33) (u.1 10) (iI 0) (u.1 2))) := va_up_self ..
    have rd3 : Rd B ad rho (va_up M2 x0 (some (.inl (14, booF ad (iI (stdS u)) (u.1 33) (u.1 10) (iI 0) (u.1 2))))) (va_up M2 x0 (some (.inl (14, booF ad (iI (stdS u)) (u.1 33) (u.1 10) (iI 0) (u.1 2))))) N g t j w := k5.fr (fun y hy => by
      refine va_up_ne _ _ (fun e => ?_)
      have := h.2.1.1.2
      rw [← e, hy] at this
      cases this)
    generalize va_up M2 x0 (some (.inl (14, booF ad (iI (stdS u)) (u.1 33) (u.1 10) (iI 0) (u.1 2)))) = M3 at hM3 rd3 K3 ⊢
    have hfr : ∀ y, y ≠ sz → (va_up M3 sz (some (.inl (11, [.int 0, .null, .null, .null])))) y = M3 y := fun y hy => va_up_ne _ _ hy
    have hM23 : (va_up M3 sz (some (.inl (11, [.int 0, .null, .null, .null])))) x0 = some (.inl (14, booF ad (iI (stdS u)) (u.1 33) (u.1 10) (iI 0) (u.1 2))) := by
      rw [hfr _ (by omega)]
      exact hM3
    have hi6 : T.toNat < (vN u6 5).toNat := by rw [v5]; omega
    obtain ⟨wt, M4, sz1, xs, F1, G1, i1, i2, i3, i4, i5, i6⟩ := z_repInit hL hSL hD K3.1.1 (by omega) (fun y hy => (K3.1.2 y (by omega)).2) rd3 hv ht c9 c10 hc (iI D) n hn
    have K4 := K3.more hL i3
    obtain ⟨wq, gq, -⟩ := (K4.thi hi6).1
    obtain ⟨q, hq, hq0, hq1, hq2⟩ := rep_place I3 hi6 (d := D) (by rw [eT, ← hE.zero, iS, i35]; exact c11)
    have hlat := z_latestReport K4 hi6 (I3.rps _ hi6) n (by omega) D (by omega)
    rw [hq0] at hlat
    have hru6 : RpU u6 u8 (vN u6 33).toNat c (T.toNat : Nat) D t := by rw [v33, eT]; exact hru
    obtain ⟨M5, sz5, ad1, rho1, xl1, j1, j2, j3, j4, j5, j6, j7⟩ := K3.addRpt hL hEm I3 i2 i3 hru6 hv c9 hc hi6 hDd i4 i5 i6 (by rw [v33]; exact cR) hq hq1 hq2
    have hadd : f_X10_addReport B S n M4 sz1 (some (ad (1000 + T.toNat))) (some sz) = some (M5, sz5) := by
      have g8 : gR M4 (some (ad (1000 + T.toNat))) 13 8 = some (some (ad (4000 + T.toNat))) := gR_at gq.1
      have g0 : gI M4 (some sz) 11 0 = some (iI D) := gI_at i4.1
      unfold f_X10_addReport
      rw [g8, Option.bind_some, g0, Option.bind_some, if_pos (isO_at gq.1), hlat, Option.bind_some, if_pos (K4.thi hi6).2.2.2.is, show (1 : Int32) = iI 1 from rfl, iI_add, show (q : Int) - 1 + 1 = (q : Int) by omega, j1]
      rfl
    have hM5 : M5 x0 = some (.inl (14, booF ad (iI (stdS u6)) (u6.1 33) (u6.1 10) (u6.1 4) (u6.1 2))) := j2.trans K3.book
    have u33 : u6.1 33 + (1 : Int32) = iI (vN u6 33 + 1) := by rw [u1_iI u6 33, show (1 : Int32) = iI 1 from rfl, iI_add]
    have e5 : vN u8 5 = vN u 5 := by
      rw [← v5]
      unfold vN
      rw [hru.1 5 (by decide)]
    have e33 : vN u8 33 = vN u 33 + 1 := by
      show (u8.1 33).toInt = _
      rw [hru.2.1, toInt_iI _ (by omega) (by omega)]
      omega
    have hi8 : T.toNat < (vN u8 5).toNat := by rw [e5]; omega
    obtain ⟨w8, g8, -⟩ := (j5.thi hi8).1
    have hl8 := (j5.thi hi8).2.2.2
    have hcnt : sumI (fun q => if decide (vR u8 34 q.toNat = T) = true then 1 else 0) ((vN u 33).toNat + 1) 0 = ((xl1 (4000 + T.toNat)).length : Nat) := by
      have hF := (j6.rps _ hi8).1
      rw [e33, show (vN u 33 + 1).toNat = (vN u 33).toNat + 1 by omega, eT] at hF
      rw [hF.length_eq, ← sumN_one, sumN_sel]
    have htold : f_X10_reportsTold (va_up M5 x0 (some (.inl (14, booF ad (iI (stdS u6)) (iI (vN u6 33 + 1)) (u6.1 10) (u6.1 4) (u6.1 2))))) (some (ad (1000 + T.toNat))) = some (iI ((xl1 (4000 + T.toNat)).length : Nat)) := by
      rw [← j4]
      have g88 := gR_at (k := 8) g8.1
      have g88' : gR (va_up M5 x0 (some (.inl (14, booF ad (iI (stdS u6)) (iI (vN u6 33 + 1)) (u6.1 10) (u6.1 4) (u6.1 2))))) (some (ad1 (1000 + T.toNat))) 13 8 = some (some (ad1 (4000 + T.toNat))) := g88
      unfold f_X10_reportsTold
      rw [g88', Option.bind_some, if_pos hl8.is, hl8.size, List.length_map]
      rfl
    have hth8 : isO (va_up M5 x0 (some (.inl (14, booF ad (iI (stdS u6)) (iI (vN u6 33 + 1)) (u6.1 10) (u6.1 4) (u6.1 2))))) (some (ad (1000 + T.toNat))) 13 = true := by
      rw [← j4]
      exact isO_at g8.1
    rw [(bk hM23).2.1]
    simp only [Option.bind_some]
    rw [i1]
    simp only [Option.bind_some]
    rw [if_pos (isO_at gq.1), hadd]
    simp only [Option.bind_some]
    rw [gI7 hM5]
    simp only [Option.bind_some]
    rw [pF_at K3.bookB hM5, if_pos (by simp [booF]), booF_set7, u33]
    simp only [Option.bind_some]
    rw [if_pos hth8, htold]
    simp only [Option.bind_some]
    rw [if_pos (isO_at j5.book), z_answer j5, hcnt]
    have q1 : vN u8 19 = vN u 19 := by
      rw [← hE.num 19 (by decide) (by decide) (by decide) (by decide)]
      unfold vN
      rw [hru.1 19 (by decide)]
    exact ansz_fine hL j5 j6 _ (by rw [q1]) (by rw [e33]; omega)
theorem st_report {nc nr : Nat} (hSL : LitOK S L) (hL : LOK B L) (hD : DigOK S L) (hEm : EmpOK S L) (h : SimB B S L x0 M u sz nc nr) (a1 a2 : Int32) : ∃ big : Bool, AnsZ B S L x0 sz nc (nr + (if big then 1 else 0)) (f_X11_report big B S 4000 M sz (some x0) a1 a2) (f_X12_report S 4000 L u a1 a2) := by
  obtain ⟨ad, rho, xl, hK, hI, rfl, rfl⟩ := h
  rw [← iI_toInt a1, ← iI_toInt a2]
  have t1 := rng_lo a1
  have t2 := rng_hi a1
  have d1 := rng_lo a2
  have d2 := rng_hi a2
  generalize a1.toInt = T at *
  generalize a2.toInt = D at *
  have n5 := hI.n5
  by_cases cT : 0 ≤ T ∧ T ≤ vN u 5 - 1
  · by_cases cD : 0 ≤ D ∧ D ≤ 999
    · obtain ⟨u1, f, ug, c, u2, e, u3, r, M2, b1, b2, b3, b4, e1, hh⟩ := j_report hSL hL hK hI 4000 (by omega) (iI T) (iI D)
      rcases hh with ⟨t, j, rfl, rfl, ht, hc, hv, hr, hE, hd⟩ | ⟨t, j, w, rfl, rfl, hE, hd⟩
      · obtain ⟨y1, y2, y3, y4, y5⟩ := t_report_tail hI.n5 hI.n33 hE (by omega) cT cD hc hv hr b1 b2 b3 b4
        obtain ⟨z1, z2, z3, z4, z5⟩ := q_reportR hSL hL hD hEm hK hI (by omega) hc ht hv cT cD e1 hd hE
        cases c1 : hOK t c 0 with
        | false =>
          refine ⟨false, ?_⟩
          rw [y1 c1]
          exact z1 c1
        | true =>
          cases c2 : ndA t c 0 with
          | false =>
            refine ⟨false, ?_⟩
            rw [y2 c1 c2]
            exact z2 c1 c2
          | true =>
            by_cases c3 : 0 ≤ inS u T D ∧ vR u 35 (inS u T D).toNat = D
            · refine ⟨false, ?_⟩
              rw [y3 c1 c2 c3]
              exact z3 c1 c2 c3
            · by_cases c4 : vN u 33 < 48
              · obtain ⟨u8, q1, q2⟩ := y5 c1 c2 c3 c4
                refine ⟨true, ?_⟩
                rw [q1]
                exact z5 c1 c2 c3 c4 u8 q2
              · have := hI.n33
                refine ⟨false, ?_⟩
                rw [y4 c1 c2 c3 (by omega)]
                exact z4 c1 c2 c3 (by omega)
      · refine ⟨false, ?_⟩
        have e2 : f_X12_report S 4000 L u (iI T) (iI D) = noS u3 2 := by
          unfold f_X12_report
          rw [t_isThing u T (by omega) n5, Option.bind_some, if_pos cT, if_neg (show ¬ iI 1 = (0 : Int32) by decide), t_isDay u D (by omega), Option.bind_some, if_pos cD, if_neg (show ¬ iI 1 = (0 : Int32) by decide), b1, Option.bind_some, b2]
          simp only [Option.bind_some]
          rw [b3]
          simp only [Option.bind_some]
          rw [b4]
          simp only [Option.bind_some]
          rw [if_pos (show iI 0 = (0 : Int32) from rfl)]
          rfl
        rw [e2]
        exact q_reportW hL hK hI cT cD e1 hd hE
    · refine ⟨false, ?_⟩
      obtain ⟨M2, k1, k2, K2, I2⟩ := rep_keep hL hK hI
      have e2 : f_X12_report S 4000 L u (iI T) (iI D) = noS (uI u 1 (iI 0)) 3 := by
        unfold f_X12_report
        rw [t_isThing u T (by omega) n5, Option.bind_some, if_pos cT, if_neg (show ¬ iI 1 = (0 : Int32) by decide), t_isDay u D (by omega), Option.bind_some, if_neg cD, if_pos (show iI 0 = (0 : Int32) from rfl)]
        rfl
      rw [e2]
      unfold f_X11_report
      rw [if_pos (isO_at hK.book), z_thingAt hK T (by omega), if_pos cT]
      simp only [Option.bind_some, reduceCtorEq, if_false]
      rw [z_isDay M D (by omega), Option.bind_some, if_neg cD, if_pos (show iI 0 = (0 : Int32) from rfl), (bk hK.book).1]
      simp only [Option.bind_some]
      rw [if_pos k2, k1]
      simp only [Option.bind_some]
      rw [if_pos (isO_at K2.book), z_refuseAsked1 K2]
      exact ansz_no hL K2 I2 3 rfl rfl
  · refine ⟨false, ?_⟩
    obtain ⟨M2, k1, k2, K2, I2⟩ := rep_keep hL hK hI
    have e2 : f_X12_report S 4000 L u (iI T) (iI D) = noS (uI u 1 (iI 0)) 1 := by
      unfold f_X12_report
      rw [t_isThing u T (by omega) n5, Option.bind_some, if_neg cT, if_pos (show iI 0 = (0 : Int32) from rfl)]
      rfl
    rw [e2]
    unfold f_X11_report
    rw [if_pos (isO_at hK.book), z_thingAt hK T (by omega), if_neg cT]
    simp only [Option.bind_some, if_true]
    rw [(bk hK.book).1]
    simp only [Option.bind_some]
    rw [if_pos k2, k1]
    simp only [Option.bind_some]
    rw [if_pos (isO_at K2.book), z_refuseAsked0 K2]
    exact ansz_no hL K2 I2 1 rfl rfl
end RES
