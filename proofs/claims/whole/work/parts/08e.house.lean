/-! HOUSE: both answers -/
section HOS
variable {B : Nat} {S : Nat → Nat} {L : Mem} {x0 : Nat} {ad rho : Nat → Nat} {xl : Nat → List Nat} {M M1 : Mem} {u u1 u6 : MS} {sz N j : Nat} {g : Nat → Int} {w : Int}
theorem EndU.num (h : EndU u u1 w) (k : Nat) (h1 : k ≠ 1) (h3 : k ≠ 3) (h4 : k ≠ 4) (hk : k < 43) : vN u1 k = vN u k := by
  unfold vN
  rw [h.2.2.2.1 k h1 h3 h4 hk]
theorem EndU.zero (h : EndU u u1 w) : uI u1 4 (iI 0) = u1 := uI_same h.2.2.1
theorem z_refuseZ (h : RepK B S L x0 ad rho xl M u sz) (z : Int) : (if isO M (some x0) 14 = true then ((f_X11_refuse B M (some x0) (iI z)).bind fun r34 => some (r34.1, r34.2, sz)) else none) = (noK ad u x0 M z).bind fun r => some (r.1, r.2, sz) := by
  rw [if_pos (isO_at h.book), z_refuse h z]
theorem RepK.reader (h : RepK B S L x0 ad rho xl M u sz) : isO M (some (ad 3)) 10 = true := by
  obtain ⟨p, row, s, c, m, z1, z2, z3, z4, a1, -⟩ := h.2.1.2.2.1
  exact isO_at a1.1
theorem RepK.xlt (h : RepK B S L x0 ad rho xl M u sz) : B ≤ x0 ∧ x0 < sz := h.own h.2.1.1 (by decide)
theorem q_houseW (hL : LOK B L) (h : RepK B S L x0 ad rho xl M u sz) (hI : Inv u xl) {n : Nat} {t : List Int} {M2 : Mem} (e1 : ∃ Mk, Opn B S n ad x0 M Mk ∧ f_X7_readsHouse B Mk (some (ad 3)) = some (0, M2)) (r1 : Rd B ad rho (kpM B ad M) M2 N g t j w) (hE : EndU u u6 w) : AnsZ B S L x0 sz (vN u 19).toNat (vN u 33).toNat (f_X11_house B S n M sz (some x0)) (noS u6 2) := by
  obtain ⟨Mk, ⟨Mb, o1, o2, o3, o4, o5, o6⟩, e1⟩ := e1
  obtain ⟨k4, k5, k6, k7⟩ := rep_read2 hL h hI r1 hE
  have hbb : Mb x0 = some (.inl (14, booF ad (iI (stdS u)) (u.1 33) (u.1 10) (u.1 4) (u.1 2))) := o2.trans h.book
  have hbk : Mk x0 = some (.inl (14, booF ad (iI (stdS u)) (u.1 33) (u.1 10) (u.1 4) (u.1 2))) := o5.trans h.book
  have hb2 : M2 x0 = some (.inl (14, booF ad (iI (stdS u)) (u.1 33) (u.1 10) (u.1 4) (u.1 2))) := k4.trans h.book
  have hl : LisR S M2 rho 5 (ad 5) (seqA ad 5000 (vN u 14)) := h.rows.2.1.fr (fun y hy => ⟨k6 y (by omega) (by omega), hy⟩)
  obtain ⟨K3, I3⟩ := k7 (iI 0)
  rw [hE.zero] at K3 I3
  obtain ⟨R, hroom⟩ : ∃ R : Int32, ((if (6 : Int32) ≤ iI (seqA ad 5000 (vN u 14)).length then (some ((0 : Int32), (0 : Int32), (0 : Int32), some x0)) else (some ((1 : Int32), (0 : Int32), (0 : Int32), some x0))) : Option (Int32 × Int32 × Int32 × Option Nat)) = some (R, 0, 0, some x0) := by
    split
    · exact ⟨_, rfl⟩
    · exact ⟨_, rfl⟩
  unfold f_X11_house
  rw [(bk h.book).2.1]
  simp only [Option.bind_some]
  rw [(bk h.book).1]
  simp only [Option.bind_some]
  rw [if_pos h.reader, o1]
  simp only [Option.bind_some]
  rw [(bk hbb).1]
  simp only [Option.bind_some]
  rw [if_pos o3, o4]
  simp only [Option.bind_some]
  rw [(bk hbk).2.1]
  simp only [Option.bind_some]
  rw [if_pos o6, e1]
  simp only [Option.bind_some, if_true]
  rw [(bk hb2).2.2.2.1]
  simp only [Option.bind_some]
  rw [if_pos hl.is, hl.size]
  simp only [Option.bind_some]
  rw [hroom]
  simp only [Option.bind_some]
  rw [if_pos (isO_at hb2), z_refusal h.bookB hb2]
  simp only [Option.bind_some, if_true]
  rw [if_neg (show ¬ (2 : Int32) = 0 by decide)]
  have e := z_refuseZ K3 2
  refine (congrArg (fun K => AnsZ B S L x0 sz (vN u 19).toNat (vN u 33).toNat K (noS u6 2)) e).mpr ?_
  exact ansz_no hL K3 I3 2 (by rw [hE.num 19 (by decide) (by decide) (by decide) (by decide)]) (by rw [hE.num 33 (by decide) (by decide) (by decide) (by decide)])
theorem q_houseR (hL : LOK B L) (hD : DigOK S L) (hEm : EmpOK S L) (h : RepK B S L x0 ad rho xl M u sz) (hI : Inv u xl) {n : Nat} (hn : 60 ≤ n) {a b c d : Int} {M2 : Mem} (e1 : ∃ Mk, Opn B S n ad x0 M Mk ∧ f_X7_readsHouse B Mk (some (ad 3)) = some (1, M2)) (r1 : Rd B ad rho (kpM B ad M) M2 N g [a, b, c, d] j w) (hE : EndU u u6 w) (ha : 0 ≤ a ∧ a ≤ 9999) (hb : 0 ≤ b ∧ b ≤ 9999) (hc : 0 ≤ c ∧ c ≤ 9999) (hd : 0 ≤ d ∧ d ≤ 9999) : AnsZ B S L x0 sz (vN u 19).toNat (vN u 33).toNat (f_X11_house B S n M sz (some x0)) (if ¬ ((1 ≤ a ∧ a ≤ 30) ∧ 1 ≤ b ∧ 1 ≤ d ∧ d ≤ 99) then noS (uI u6 4 (iI 3)) 4 else if vN u 14 = 6 then noS u6 9 else fineS (houU u6 (vN u 14).toNat a b c d) (vN u 14)) := by
  have n14 := hI.n14
  have xlt := h.xlt
  obtain ⟨Mk, ⟨Mb, o1, o2, o3, o4, o5, o6⟩, e1⟩ := e1
  obtain ⟨k4, k5, k6, k7⟩ := rep_read2 hL h hI r1 hE
  have hbb : Mb x0 = some (.inl (14, booF ad (iI (stdS u)) (u.1 33) (u.1 10) (u.1 4) (u.1 2))) := o2.trans h.book
  have hbk : Mk x0 = some (.inl (14, booF ad (iI (stdS u)) (u.1 33) (u.1 10) (u.1 4) (u.1 2))) := o5.trans h.book
  have hb2 : M2 x0 = some (.inl (14, booF ad (iI (stdS u)) (u.1 33) (u.1 10) (u.1 4) (u.1 2))) := k4.trans h.book
  have hl : LisR S M2 rho 5 (ad 5) (seqA ad 5000 (vN u 14)) := h.rows.2.1.fr (fun y hy => ⟨k6 y (by omega) (by omega), hy⟩)
  have c19 : ∀ f : Int32, (vN u 19).toNat = (vN (uI u6 4 f) 19).toNat ∧ (vN u 33).toNat = (vN (uI u6 4 f) 33).toNat := fun f => by
    have e1 : vN (uI u6 4 f) 19 = vN u6 19 := by unfold vN; simp [uI, upd]
    have e2 : vN (uI u6 4 f) 33 = vN u6 33 := by unfold vN; simp [uI, upd]
    rw [e1, e2, hE.num 19 (by decide) (by decide) (by decide) (by decide), hE.num 33 (by decide) (by decide) (by decide) (by decide)]
    exact ⟨rfl, rfl⟩
  obtain ⟨F, hF, hf⟩ : ∃ F : Int, F = (if (1 ≤ a ∧ a ≤ 30) ∧ 1 ≤ b ∧ 1 ≤ d ∧ d ≤ 99 then 0 else 3) ∧ f_X3_faultIn M2 (some (ad 3)) = some (iI F) := ⟨_, rfl, k5.houFault ha hb hd⟩
  have hroom : ((if (6 : Int32) ≤ iI (seqA ad 5000 (vN u 14)).length then (some ((0 : Int32), iI F, (1 : Int32), some x0)) else (some ((1 : Int32), iI F, (1 : Int32), some x0))) : Option (Int32 × Int32 × Int32 × Option Nat)) = some (iI (if vN u 14 < 6 then 1 else 0), iI F, 1, some x0) := by
    rw [seqA_len, show (6 : Int32) = iI 6 from rfl, it_le _ _ (by omega)]
    by_cases q : vN u 14 < 6
    · rw [if_pos q, if_neg (by omega)]
      rfl
    · rw [if_neg q, if_pos (by omega)]
      rfl
  unfold f_X11_house
  rw [(bk h.book).2.1]
  simp only [Option.bind_some]
  rw [(bk h.book).1]
  simp only [Option.bind_some]
  rw [if_pos h.reader, o1]
  simp only [Option.bind_some]
  rw [(bk hbb).1]
  simp only [Option.bind_some]
  rw [if_pos o3, o4]
  simp only [Option.bind_some]
  rw [(bk hbk).2.1]
  simp only [Option.bind_some]
  rw [if_pos o6, e1]
  simp only [Option.bind_some]
  rw [if_neg (show ¬ (1 : Int32) = 0 by decide), (bk hb2).2.1]
  simp only [Option.bind_some]
  rw [hf]
  simp only [Option.bind_some]
  rw [(bk hb2).2.2.2.1]
  simp only [Option.bind_some]
  rw [if_pos hl.is, hl.size]
  simp only [Option.bind_some]
  rw [hroom]
  simp only [Option.bind_some]
  rw [if_pos (isO_at hb2), z_refusal h.bookB hb2]
  simp only [Option.bind_some]
  rw [if_neg (show ¬ (1 : Int32) = 0 by decide)]
  by_cases cF : (1 ≤ a ∧ a ≤ 30) ∧ 1 ≤ b ∧ 1 ≤ d ∧ d ≤ 99
  · rw [if_pos cF] at hF
    subst hF
    obtain ⟨K3, I3⟩ := k7 (iI 0)
    rw [hE.zero] at K3 I3
    rw [if_neg (show ¬ ¬ ((1 ≤ a ∧ a ≤ 30) ∧ 1 ≤ b ∧ 1 ≤ d ∧ d ≤ 99) from fun q => q cF), if_pos (show iI 0 = (0 : Int32) from rfl)]
    by_cases cR : vN u 14 < 6
    · rw [if_pos cR, if_neg (show ¬ iI 1 = (0 : Int32) by decide), if_neg (show ¬ vN u 14 = 6 by omega)]
      simp only [if_true]
      have hM3 : (va_up M2 x0 (some (.inl (14, booF ad (iI (stdS u)) (u.1 33) (u.1 10) (iI 0) (u.1 2))))) x0 = some (.inl (14, booF ad (iI (stdS u)) (u.1 33) (u.1 10) (iI 0) (u.1 2))) := va_up_self ..
      generalize hg : va_up M2 x0 (some (.inl (14, booF ad (iI (stdS u)) (u.1 33) (u.1 10) (iI 0) (u.1 2)))) = M3 at *
      have hM23 : (va_up M3 sz (some (.inl (6, [.int 0, .int 0, .int 0, .int 0, .null])))) x0 = some (.inl (14, booF ad (iI (stdS u)) (u.1 33) (u.1 10) (iI 0) (u.1 2))) := by
        rw [va_up_ne _ _ (by omega)]
        exact hM3
      have rd3 : Rd B ad rho M3 M3 N g [a, b, c, d] j w := k5.fr (fun y hy => by
        rw [← hg]
        refine va_up_ne _ _ (fun e => ?_)
        have := h.2.1.1.2
        rw [← e, hy] at this
        cases this)
      obtain ⟨M4, z4, wt, i1, i2, i3, i4, i5⟩ := z_houInit hL hD K3.1.1 (by omega) (fun y hy => (K3.1.2 y (by omega)).2) rd3 (by omega) (by omega) (by omega) (by omega) n hn
      have i1' : f_X3_init B S n (va_up M3 sz (some (.inl (6, [.int 0, .int 0, .int 0, .int 0, .null])))) (sz + 1) (some sz) (some (ad 3)) = some (M4, z4) := i1
      obtain ⟨M5, sz5, ad1, rho1, j1, j2, j3, j4, j5⟩ := K3.addHou hL hEm I3 i2 i3 i4 i5 cF.1 (by omega) hc cF.2.2 (by rw [hE.num 14 (by decide) (by decide) (by decide) (by decide)]; exact cR)
      have v14 := hE.num 14 (by decide) (by decide) (by decide) (by decide)
      rw [v14] at j4 j5
      have hl4 : isO M4 (some (ad 5)) 2 = true := by
        have := K3.rows.2.1
        exact (this.fr (M1 := M4) (rho1 := rho) (fun y hy => ⟨i3 y (K3.1.2 y (by omega)).2, hy⟩)).is
      have hlen : iI ((seqA ad1 5000 (vN (houU u6 (vN u 14).toNat a b c d) 14)).length : Nat) - (1 : Int32) = iI (vN u 14) := by
        have e14 : vN (houU u6 (vN u 14).toNat a b c d) 14 = vN u 14 + 1 := by
          show ((houU u6 (vN u 14).toNat a b c d).1 14).toInt = _
          rw [houU_14, toInt_iI _ (by omega) (by omega)]
          omega
        rw [seqA_len, e14, show (1 : Int32) = iI 1 from rfl, iI_sub]
        congr 1
        omega
      rw [(bk hM3).2.2.2.1]
      simp only [Option.bind_some]
      rw [(bk hM23).2.1]
      simp only [Option.bind_some]
      rw [i1']
      simp only [Option.bind_some]
      rw [if_pos hl4, j1]
      simp only [Option.bind_some]
      rw [(bk j4.book).2.2.2.1]
      simp only [Option.bind_some]
      rw [if_pos j4.rows.2.1.is, j4.rows.2.1.size]
      simp only [Option.bind_some]
      rw [if_pos (isO_at j4.book), hlen, z_answer j4]
      have e19 : (vN u 19).toNat = (vN (houU u6 (vN u 14).toNat a b c d) 19).toNat ∧ (vN u 33).toNat = (vN (houU u6 (vN u 14).toNat a b c d) 33).toNat := by
        have q1 : vN (houU u6 (vN u 14).toNat a b c d) 19 = vN u6 19 := by unfold vN; rw [houU_n _ _ _ _ _ _ 19 (by decide)]
        have q2 : vN (houU u6 (vN u 14).toNat a b c d) 33 = vN u6 33 := by unfold vN; rw [houU_n _ _ _ _ _ _ 33 (by decide)]
        rw [q1, q2, hE.num 19 (by decide) (by decide) (by decide) (by decide), hE.num 33 (by decide) (by decide) (by decide) (by decide)]
        exact ⟨rfl, rfl⟩
      exact ansz_fine hL j4 j5 (vN u 14) e19.1 e19.2
    · rw [if_neg cR, if_pos (show iI 0 = (0 : Int32) from rfl), if_pos (show vN u 14 = 6 by omega), if_neg (show ¬ (9 : Int32) = 0 by decide)]
      refine (congrArg (fun K => AnsZ B S L x0 sz (vN u 19).toNat (vN u 33).toNat K (noS u6 9)) (z_refuseZ K3 9)).mpr ?_
      have := c19 (iI 0)
      rw [hE.zero] at this
      exact ansz_no hL K3 I3 9 this.1 this.2
  · rw [if_neg cF] at hF
    subst hF
    obtain ⟨K3, I3⟩ := k7 (iI 3)
    rw [if_pos cF, if_neg (show ¬ iI 3 = (0 : Int32) by decide), if_neg (show ¬ (4 : Int32) = 0 by decide)]
    refine (congrArg (fun K => AnsZ B S L x0 sz (vN u 19).toNat (vN u 33).toNat K (noS (uI u6 4 (iI 3)) 4)) (z_refuseZ K3 4)).mpr ?_
    exact ansz_no hL K3 I3 4 (c19 _).1 (c19 _).2
theorem st_house {nc nr : Nat} (hSL : LitOK S L) (hL : LOK B L) (hD : DigOK S L) (hEm : EmpOK S L) (h : SimB B S L x0 M u sz nc nr) : AnsZ B S L x0 sz nc nr (f_X11_house B S 4000 M sz (some x0)) (f_X12_house S 4000 L u) := by
  obtain ⟨ad, rho, xl, hK, hI, rfl, rfl⟩ := h
  have hT := hK.tape hI
  obtain ⟨Mk, ho, zz⟩ := z_readsHouse hSL hL hK hI 4000 (by omega)
  rcases zz with ⟨ok, M1, e1, r1⟩ | ⟨ok, M1, t, j, e1, r1⟩
  · rcases t_house hSL 4000 (by omega) hT hI.n14 with ⟨nok, -⟩ | ⟨-, u6, hE6, e⟩
    · exact absurd ok nok
    · rw [e]
      exact q_houseR hL hD hEm hK hI (by omega) ⟨Mk, ho, e1⟩ r1 hE6 (pcs_num _ _ _ ok.1) (pcs_num _ _ _ ok.2.1) (pcs_num _ _ _ ok.2.2.1) (pcs_num _ _ _ ok.2.2.2.1)
  · rcases t_house hSL 4000 (by omega) hT hI.n14 with ⟨-, u6, e, hE6⟩ | ⟨ok2, -⟩
    · rw [e]
      exact q_houseW hL hK hI ⟨Mk, ho, e1⟩ r1 hE6
    · exact absurd ok2 ok
end HOS
