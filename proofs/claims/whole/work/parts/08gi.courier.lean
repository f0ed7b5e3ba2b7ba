/-! COURIER: both answers -/
section COS
variable {B : Nat} {S : Nat → Nat} {L : Mem} {x0 : Nat} {ad rho : Nat → Nat} {xl : Nat → List Nat} {M M1 : Mem} {u u1 u6 u8 : MS} {sz N j : Nat} {g : Nat → Int} {t : List Int} {w : Int}
theorem q_courierW (hL : LOK B L) (h : RepK B S L x0 ad rho xl M u sz) (hI : Inv u xl) {n : Nat} {t : List Int} {M2 : Mem} (e1 : ∃ Mk, Opn B S n ad x0 M Mk ∧ f_X7_readsCourier B n Mk (some (ad 3)) = some (0, M2)) (r1 : Rd B ad rho (kpM B ad M) M2 N g t j w) (hE : EndU u u6 w) : AnsZ B S L x0 sz (vN u 19).toNat (vN u 33).toNat (f_X11_courier false B S n M sz (some x0)) (noS u6 2) := by
  obtain ⟨Mk, ⟨Mb, o1, o2, o3, o4, o5, o6⟩, e1⟩ := e1
  obtain ⟨k4, k5, k6, k7⟩ := rep_read2 hL h hI r1 hE
  have hbb : Mb x0 = some (.inl (14, booF ad (iI (stdS u)) (u.1 33) (u.1 10) (u.1 4) (u.1 2))) := o2.trans h.book
  have hbk : Mk x0 = some (.inl (14, booF ad (iI (stdS u)) (u.1 33) (u.1 10) (u.1 4) (u.1 2))) := o5.trans h.book
  have hb2 : M2 x0 = some (.inl (14, booF ad (iI (stdS u)) (u.1 33) (u.1 10) (u.1 4) (u.1 2))) := k4.trans h.book
  have hl : LisR S M2 rho 6 (ad 6) (seqA ad 6000 (vN u 19)) := h.rows.2.2.1.fr (fun y hy => ⟨k6 y (by omega) (by omega), hy⟩)
  obtain ⟨K3, I3⟩ := k7 (iI 0)
  rw [hE.zero] at K3 I3
  obtain ⟨R, hroom⟩ : ∃ R : Int32, ((if (8 : Int32) ≤ iI (seqA ad 6000 (vN u 19)).length then (some ((0 : Int32), (0 : Int32), (0 : Int32), some x0)) else (some ((1 : Int32), (0 : Int32), (0 : Int32), some x0))) : Option (Int32 × Int32 × Int32 × Option Nat)) = some (R, 0, 0, some x0) := by
    split
    · exact ⟨_, rfl⟩
    · exact ⟨_, rfl⟩
  unfold f_X11_courier
  rw [(bk h.book).2.1]
  simp only [Option.bind_some]
  rw [(bk h.book).1]
  simp only [Option.bind_some]
  rw [if_pos h.reader, o1]
  simp only [Option.bind_some]
  rw [(bk hbb).1]
  simp only [Option.bind_some]
  rw [if_pos o3, o4]
  simp only [Option.bind_some]
  rw [(bk hbk).2.1]
  simp only [Option.bind_some]
  rw [if_pos o6, e1]
  simp only [Option.bind_some, if_true]
  rw [(bk hb2).2.2.2.2.1]
  simp only [Option.bind_some]
  rw [if_pos hl.is, hl.size]
  simp only [Option.bind_some]
  rw [hroom]
  simp only [Option.bind_some]
  rw [if_pos (isO_at hb2), z_refusal h.bookB hb2]
  simp only [Option.bind_some, if_true]
  rw [if_neg (show ¬ (2 : Int32) = 0 by decide)]
  refine (congrArg (fun K => AnsZ B S L x0 sz (vN u 19).toNat (vN u 33).toNat K (noS u6 2)) (z_refuseZ K3 2)).mpr ?_
  exact ansz_no hL K3 I3 2 (by rw [hE.num 19 (by decide) (by decide) (by decide) (by decide)]) (by rw [hE.num 33 (by decide) (by decide) (by decide) (by decide)])
theorem q_courierR (hSL : LitOK S L) (hL : LOK B L) (hD : DigOK S L) (hEm : EmpOK S L) (h : RepK B S L x0 ad rho xl M u sz) (hI : Inv u xl) {n : Nat} (hn : 2100 ≤ n) {m : Nat} (hm : m ≤ 30) (ht : t.length = 2 * m) (hv : ∀ x, x ∈ t → 0 ≤ x ∧ x ≤ 9999) {M2 : Mem} (e1 : ∃ Mk, Opn B S n ad x0 M Mk ∧ f_X7_readsCourier B n Mk (some (ad 3)) = some (1, M2)) (r1 : Rd B ad rho (kpM B ad M) M2 N g t j w) (hE : EndU u u6 w) : (okS (-1) t = false → AnsZ B S L x0 sz (vN u 19).toNat (vN u 33).toNat (f_X11_courier false B S n M sz (some x0)) (noS (uI u6 4 (iI 4)) 4)) ∧ (okS (-1) t = true → vN u 19 = 8 → AnsZ B S L x0 sz (vN u 19).toNat (vN u 33).toNat (f_X11_courier false B S n M sz (some x0)) (noS u6 9)) ∧ (okS (-1) t = true → vN u 19 < 8 → ∀ u8, CF u6 u8 (vN u 19).toNat m t → AnsZ B S L x0 sz ((vN u 19).toNat + 1) (vN u 33).toNat (f_X11_courier true B S n M sz (some x0)) (fineS u8 (vN u 19))) := by
  have n19 := hI.n19
  have xlt := h.xlt
  obtain ⟨Mk, ⟨Mb, o1, o2, o3, o4, o5, o6⟩, e1⟩ := e1
  obtain ⟨k4, k5, k6, k7⟩ := rep_read2 hL h hI r1 hE
  have hbb : Mb x0 = some (.inl (14, booF ad (iI (stdS u)) (u.1 33) (u.1 10) (u.1 4) (u.1 2))) := o2.trans h.book
  have hbk : Mk x0 = some (.inl (14, booF ad (iI (stdS u)) (u.1 33) (u.1 10) (u.1 4) (u.1 2))) := o5.trans h.book
  have hb2 : M2 x0 = some (.inl (14, booF ad (iI (stdS u)) (u.1 33) (u.1 10) (u.1 4) (u.1 2))) := k4.trans h.book
  have hl : LisR S M2 rho 6 (ad 6) (seqA ad 6000 (vN u 19)) := h.rows.2.2.1.fr (fun y hy => ⟨k6 y (by omega) (by omega), hy⟩)
  have c19 : ∀ f : Int32, (vN u 19).toNat = (vN (uI u6 4 f) 19).toNat ∧ (vN u 33).toNat = (vN (uI u6 4 f) 33).toNat := fun f => by
    rw [hE.numF 19 (by decide) (by decide) (by decide) (by decide), hE.numF 33 (by decide) (by decide) (by decide) (by decide)]
    exact ⟨rfl, rfl⟩
  obtain ⟨F, hF, hf⟩ : ∃ F : Int, F = (if okS (-1) t = true then 0 else 4) ∧ f_X2_faultIn n M2 (some (ad 3)) = some (iI F) := ⟨_, rfl, k5.couFault hv n m ht (by omega)⟩
  have hroom : ((if (8 : Int32) ≤ iI (seqA ad 6000 (vN u 19)).length then (some ((0 : Int32), iI F, (1 : Int32), some x0)) else (some ((1 : Int32), iI F, (1 : Int32), some x0))) : Option (Int32 × Int32 × Int32 × Option Nat)) = some (iI (if vN u 19 < 8 then 1 else 0), iI F, 1, some x0) := by
    rw [seqA_len, show (8 : Int32) = iI 8 from rfl, it_le _ _ (by omega)]
    by_cases q : vN u 19 < 8
    · rw [if_pos q, if_neg (by omega)]
      rfl
    · rw [if_neg q, if_pos (by omega)]
      rfl
  refine ⟨fun cT => ?_, fun cT cR => ?_, fun cT cR u8 hcf => ?_⟩
  · unfold f_X11_courier
    rw [(bk h.book).2.1]
    simp only [Option.bind_some]
    rw [(bk h.book).1]
    simp only [Option.bind_some]
    rw [if_pos h.reader, o1]
    simp only [Option.bind_some]
    rw [(bk hbb).1]
    simp only [Option.bind_some]
    rw [if_pos o3, o4]
    simp only [Option.bind_some]
    rw [(bk hbk).2.1]
    simp only [Option.bind_some]
    rw [if_pos o6, e1]
    simp only [Option.bind_some]
    rw [if_neg (show ¬ (1 : Int32) = 0 by decide), (bk hb2).2.1]
    simp only [Option.bind_some]
    rw [hf]
    simp only [Option.bind_some]
    rw [(bk hb2).2.2.2.2.1]
    simp only [Option.bind_some]
    rw [if_pos hl.is, hl.size]
    simp only [Option.bind_some]
    rw [hroom]
    simp only [Option.bind_some]
    rw [if_pos (isO_at hb2), z_refusal h.bookB hb2]
    simp only [Option.bind_some]
    rw [if_neg (show ¬ (1 : Int32) = 0 by decide)]
    rw [if_neg (show ¬ okS (-1) t = true by rw [cT]; decide)] at hF
    subst hF
    obtain ⟨K3, I3⟩ := k7 (iI 4)
    rw [if_neg (show ¬ iI 4 = (0 : Int32) by decide), if_neg (show ¬ (4 : Int32) = 0 by decide)]
    refine (congrArg (fun K => AnsZ B S L x0 sz (vN u 19).toNat (vN u 33).toNat K (noS (uI u6 4 (iI 4)) 4)) (z_refuseZ K3 4)).mpr ?_
    exact ansz_no hL K3 I3 4 (c19 _).1 (c19 _).2
  · unfold f_X11_courier
    rw [(bk h.book).2.1]
    simp only [Option.bind_some]
    rw [(bk h.book).1]
    simp only [Option.bind_some]
    rw [if_pos h.reader, o1]
    simp only [Option.bind_some]
    rw [(bk hbb).1]
    simp only [Option.bind_some]
    rw [if_pos o3, o4]
    simp only [Option.bind_some]
    rw [(bk hbk).2.1]
    simp only [Option.bind_some]
    rw [if_pos o6, e1]
    simp only [Option.bind_some]
    rw [if_neg (show ¬ (1 : Int32) = 0 by decide), (bk hb2).2.1]
    simp only [Option.bind_some]
    rw [hf]
    simp only [Option.bind_some]
    rw [(bk hb2).2.2.2.2.1]
    simp only [Option.bind_some]
    rw [if_pos hl.is, hl.size]
    simp only [Option.bind_some]
    rw [hroom]
    simp only [Option.bind_some]
    rw [if_pos (isO_at hb2), z_refusal h.bookB hb2]
    simp only [Option.bind_some]
    rw [if_neg (show ¬ (1 : Int32) = 0 by decide)]
    rw [if_pos cT] at hF
    subst hF
    obtain ⟨K3, I3⟩ := k7 (iI 0)
    rw [hE.zero] at K3 I3
    rw [if_pos (show iI 0 = (0 : Int32) from rfl), if_neg (show ¬ vN u 19 < 8 by omega), if_pos (show iI 0 = (0 : Int32) from rfl), if_neg (show ¬ (9 : Int32) = 0 by decide)]
    refine (congrArg (fun K => AnsZ B S L x0 sz (vN u 19).toNat (vN u 33).toNat K (noS u6 9)) (z_refuseZ K3 9)).mpr ?_
    have := c19 (iI 0)
    rw [hE.zero] at this
    exact ansz_no hL K3 I3 9 this.1 this.2
  · unfold f_X11_courier
    rw [(bk h.book).2.1]
    simp only [Option.bind_some]
    rw [(bk h.book).1]
    simp only [Option.bind_some]
    rw [if_pos h.reader, o1]
    simp only [Option.bind_some]
    rw [(bk hbb).1]
    simp only [Option.bind_some]
    rw [if_pos o3, o4]
    simp only [Option.bind_some]
    rw [(bk hbk).2.1]
    simp only [Option.bind_some]
    rw [if_pos o6, e1]
    simp only [Option.bind_some]
    rw [if_neg (show ¬ (1 : Int32) = 0 by decide), (bk hb2).2.1]
    simp only [Option.bind_some]
    rw [hf]
    simp only [Option.bind_some]
    rw [(bk hb2).2.2.2.2.1]
    simp only [Option.bind_some]
    rw [if_pos hl.is, hl.size]
    simp only [Option.bind_some]
    rw [hroom]
    simp only [Option.bind_some]
    rw [if_pos (isO_at hb2), z_refusal h.bookB hb2]
    simp only [Option.bind_some]
    rw [if_neg (show ¬ (1 : Int32) = 0 by decide)]
    rw [if_pos cT] at hF
    subst hF
    obtain ⟨K3, I3⟩ := k7 (iI 0)
    rw [hE.zero] at K3 I3
    rw [if_pos (show iI 0 = (0 : Int32) from rfl), if_pos cR, if_neg (show ¬ iI 1 = (0 : Int32) by decide)]
    simp only [if_true]
    have hM3 : (va_up M2 x0 (some (.inl (14, booF ad (iI (stdS u)) (u.1 33) (u.1 10) (iI 0) (u.1 2))))) x0 = some (.inl (14, booF ad (iI (stdS u)) (u.1 33) (u.1 10) (iI 0) (u.1 2))) := va_up_self ..
    generalize hg : va_up M2 x0 (some (.inl (14, booF ad (iI (stdS u)) (u.1 33) (u.1 10) (iI 0) (u.1 2)))) = M3 at *
    have hfr : ∀ y, y ≠ sz → (va_up M3 sz (some (.inl (5, [.int 0, .null, .null])))) y = M3 y := fun y hy => va_up_ne _ _ hy
    have hM23 : (va_up M3 sz (some (.inl (5, [.int 0, .null, .null])))) x0 = some (.inl (14, booF ad (iI (stdS u)) (u.1 33) (u.1 10) (iI 0) (u.1 2))) := by
      rw [hfr _ (by omega)]
      exact hM3
    have rd3 : Rd B ad rho M3 M3 N g t j w := k5.fr (fun y hy => by
      rw [← hg]
      refine va_up_ne _ _ (fun e => ?_)
      have := h.2.1.1.2
      rw [← e, hy] at this
      cases this)
    have v19 := hE.num 19 (by decide) (by decide) (by decide) (by decide)
    have hl23 : LisR S (va_up M3 sz (some (.inl (5, [.int 0, .null, .null])))) rho 6 (ad 6) (seqA ad 6000 (vN u6 19)) := K3.rows.2.2.1.fr (fun y hy => ⟨hfr y (by have := K3.1.2 y (by omega); omega), hy⟩)
    obtain ⟨wt, M4, gd, i1, i2, i3, i4, i5, i6, i7, i8⟩ := z_couInit hL hSL hD K3.1.1 (by omega) (fun y hy => (K3.1.2 y (by omega)).2) rd3 hv ht hm cT (iI (vN u6 19)) n hn
    have all := okS_all ht cT
    rw [← v19] at hcf
    obtain ⟨M5, sz5, ad1, rho1, j1, j4, j5⟩ := K3.addCou hL hEm I3 i2 i3 hcf hm (fun i hi => ⟨(getD_rng hv _).1, all i hi⟩) i4 i5 i6 i7 i8 (by rw [v19]; exact cR)
    have hl4 : isO M4 (some (ad 6)) 2 = true := (K3.rows.2.2.1.fr (M1 := M4) (rho1 := rho) (fun y hy => ⟨i3 y (K3.1.2 y (by omega)).2, hy⟩)).is
    have e5 : vN u8 19 = vN u 19 + 1 := by
      show (u8.1 19).toInt = _
      rw [hcf.2.1, toInt_iI _ (by omega) (by omega)]
      omega
    have hlen : iI ((seqA ad1 6000 (vN u8 19)).length : Nat) - (1 : Int32) = iI (vN u 19) := by
      rw [seqA_len, e5, show (1 : Int32) = iI 1 from rfl, iI_sub]
      congr 1
      omega
    have hlen0 : iI ((seqA ad 6000 (vN u6 19)).length : Nat) = iI (vN u6 19) := by
      rw [seqA_len, v19]
      congr 1
      omega
    rw [(bk hM3).2.2.2.2.1]
    simp only [Option.bind_some]
    rw [(bk hM23).2.2.2.2.1]
    simp only [Option.bind_some]
    rw [if_pos hl23.is, hl23.size]
    simp only [Option.bind_some]
    rw [(bk hM23).2.1]
    simp only [Option.bind_some]
    rw [hlen0, i1]
    simp only [Option.bind_some]
    rw [if_pos hl4, j1]
    simp only [Option.bind_some]
    rw [(bk j4.book).2.2.2.2.1]
    simp only [Option.bind_some]
    rw [if_pos j4.rows.2.2.1.is, j4.rows.2.2.1.size]
    simp only [Option.bind_some]
    rw [if_pos (isO_at j4.book), hlen, z_answer j4]
    have q2 : vN u8 33 = vN u 33 := by
      rw [← hE.num 33 (by decide) (by decide) (by decide) (by decide)]
      unfold vN
      rw [hcf.1 33 (by decide)]
    exact ansz_fine hL j4 j5 (vN u 19) (by rw [e5]; omega) (by rw [q2])
theorem st_courier {nc nr : Nat} (hSL : LitOK S L) (hL : LOK B L) (hD : DigOK S L) (hEm : EmpOK S L) (h : SimB B S L x0 M u sz nc nr) : ∃ big : Bool, AnsZ B S L x0 sz (nc + (if big then 1 else 0)) nr (f_X11_courier big B S 4000 M sz (some x0)) (f_X12_courier S 4000 L u) := by
  obtain ⟨ad, rho, xl, hK, hI, rfl, rfl⟩ := h
  obtain ⟨u1, m, u2, e, u3, r, M2, b1, b2, b3, e1, hh⟩ := j_courier hSL hL hK hI 4000 (by omega)
  rcases hh with ⟨t, j, rfl, rfl, ht, hm, hv, hr, hE, hd⟩ | ⟨t, j, w, rfl, rfl, hE, hd⟩
  · obtain ⟨y1, y2, y3⟩ := t_courier_tail hI.n19 hE (by omega) hm.2 ht hv hr b1 b2 b3
    obtain ⟨z1, z2, z3⟩ := q_courierR hSL hL hD hEm hK hI (by omega) hm.2 ht hv e1 hd hE
    cases c1 : okS (-1) t with
    | false =>
      refine ⟨false, ?_⟩
      rw [y1 c1]
      exact z1 c1
    | true =>
      by_cases c2 : vN u 19 < 8
      · obtain ⟨u8, q1, q2⟩ := y3 c1 c2
        refine ⟨true, ?_⟩
        rw [q1]
        exact z3 c1 c2 u8 q2
      · have := hI.n19
        refine ⟨false, ?_⟩
        rw [y2 c1 (by omega)]
        exact z2 c1 (by omega)
  · refine ⟨false, ?_⟩
    have e2 : f_X12_courier S 4000 L u = noS u3 2 := by
      unfold f_X12_courier
      rw [b1, Option.bind_some, b2, Option.bind_some, b3, Option.bind_some, if_pos (show iI 0 = (0 : Int32) from rfl)]
      rfl
    rw [e2]
    exact q_courierW hL hK hI e1 hd hE
end COS
