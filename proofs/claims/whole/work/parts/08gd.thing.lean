/-! THING: both answers -/
section THS
variable {B : Nat} {S : Nat → Nat} {L : Mem} {x0 : Nat} {ad rho : Nat → Nat} {xl : Nat → List Nat} {M M1 : Mem} {u u1 u6 : MS} {sz N j : Nat} {g : Nat → Int} {l : List Int} {w K V W : Int}
set_option maxHeartbeats 4000000 in
theorem t_thing_tail (n5 : 0 ≤ vN u 5 ∧ vN u 5 ≤ 16) (hE : EndU u u6 w) (hV : 0 ≤ V ∧ V ≤ 9999) (hW : 0 ≤ W ∧ W ≤ 9999) (b : Int32) (tw : Bool) {n : Nat} {u2 u3 u4 u5 u1 : MS} (b1 : f_X12_begins S n L u = some u1) (b2 : f_X12_word S n L u1 (0 : Int32) (5 : Int32) = some (iI K, u2)) (b3 : f_X12_number S n L u2 = some (iI V, u3)) (b4 : f_X12_number S n L u3 = some (iI W, u4)) (b5 : f_X12_thing_L27 S n L (iI K) (iI V) (iI W) n u4 (0 : Int32) (0 : Int32) = some (b, iI (if tw = true then 1 else 0), u5)) (b6 : f_X12_ends u5 = some (iI 1, u6)) : f_X12_thing S n L u = if ¬ (1 ≤ V ∧ 1 ≤ W ∧ W ≤ 999) then noS (uI u6 4 (iI 1)) 4 else if tw = true then noS (uI u6 4 (iI 2)) 4 else if vN u 5 = 16 then noS u6 9 else fineS (thiU u6 (vN u 5).toNat K V W b) (vN u 5) := by
  have w5 : u6.1 5 = iI (vN u 5) := by rw [hE.2.2.2.1 5 (by decide) (by decide) (by decide) (by decide), u1_iI]
  have hf1 : f_X12_faulty u6 (1 : Int32) = noS (uI u6 4 (iI 1)) 4 := rfl
  have hf2 : f_X12_faulty u6 (2 : Int32) = noS (uI u6 4 (iI 2)) 4 := rfl
  have hno : ∀ (v : MS) (z : Int), ((noS v z).bind fun r => some (r.1, r.2)) = noS v z := fun v z => rfl
  have hi' : f_X12_isIn u6 (iI W) (1 : Int32) (999 : Int32) = some (iI (if 1 ≤ W ∧ W ≤ 999 then 1 else 0)) := t_isIn u6 W 1 999 (by omega) (by omega) (by omega)
  have e1 : (iI V < (1 : Int32)) ↔ V < 1 := iI_lt V 1 (by omega)
  have e6 : (iI (vN u 5) = (16 : Int32)) ↔ vN u 5 = 16 := iI_eq _ 16 (by omega)
  have qi : vN u 5 < 16 → inb (iI (vN u 5)) 16 := fun q => (iI_inb _ 16 (by omega)).mpr (by omega)
  have ec : (iI (vN u 5)).toNatClampNeg = (vN u 5).toNat := iI_clamp _ (by omega)
  have es : iI (vN u 5) + (1 : Int32) = iI (((vN u 5).toNat : Int) + 1) := by
    rw [show (1 : Int32) = iI 1 from rfl, iI_add, show ((vN u 5).toNat : Int) = vN u 5 by omega]
  have es2 : iI (((vN u 5).toNat : Int) + 1) - (1 : Int32) = iI (vN u 5) := by
    rw [show (1 : Int32) = iI 1 from rfl, iI_sub, show ((vN u 5).toNat : Int) + 1 - 1 = vN u 5 by omega]
  unfold f_X12_thing
  simp only [b1, b2, b3, b4, b5, b6, Option.bind_some, uA_1, uI_at]
  rw [if_neg (show ¬ iI 1 = (0 : Int32) by decide)]
  simp only [hi', hf1, hf2, Option.bind_some, b0z, hno, e1, w5, ec, es, es2, e6]
  by_cases c1 : 1 ≤ V
  · rw [if_neg (show ¬ V < 1 by omega)]
    by_cases c2 : 1 ≤ W ∧ W ≤ 999
    · rw [if_neg (show ¬ ¬ (1 ≤ W ∧ W ≤ 999) from fun q => q c2), if_neg (show ¬ ¬ (1 ≤ V ∧ 1 ≤ W ∧ W ≤ 999) from fun q => q ⟨c1, c2⟩)]
      by_cases q3 : tw = true
      · rw [if_neg (show ¬ ¬ tw = true from fun q => q q3), if_pos q3]
      · rw [if_pos q3, if_neg q3]
        by_cases q4 : vN u 5 = 16
        · rw [if_pos q4, if_pos q4]
          rfl
        · have q5 := qi (by omega)
          rw [if_neg q4, if_neg q4, if_pos q5, if_pos q5, if_pos q5, if_pos q5]
          rfl
    · rw [if_pos c2, if_pos (show ¬ (1 ≤ V ∧ 1 ≤ W ∧ W ≤ 999) from fun q => c2 q.2)]
  · rw [if_pos (show V < 1 by omega), if_pos (show ¬ (1 ≤ V ∧ 1 ≤ W ∧ W ≤ 999) from fun q => c1 q.1)]
theorem q_thingW (hL : LOK B L) (h : RepK B S L x0 ad rho xl M u sz) (hI : Inv u xl) {n : Nat} {t : List Int} {M2 : Mem} (e1 : ∃ Mk, Opn B S n ad x0 M Mk ∧ f_X7_readsThing B n Mk (some (ad 3)) = some (0, M2)) (r1 : Rd B ad rho (kpM B ad M) M2 N g t j w) (hE : EndU u u6 w) : AnsZ B S L x0 sz (vN u 19).toNat (vN u 33).toNat (f_X11_thing B S n M sz (some x0)) (noS u6 2) := by
  obtain ⟨Mk, ⟨Mb, o1, o2, o3, o4, o5, o6⟩, e1⟩ := e1
  obtain ⟨k4, k5, k6, k7⟩ := rep_read2 hL h hI r1 hE
  have hbb : Mb x0 = some (.inl (14, booF ad (iI (stdS u)) (u.1 33) (u.1 10) (u.1 4) (u.1 2))) := o2.trans h.book
  have hbk : Mk x0 = some (.inl (14, booF ad (iI (stdS u)) (u.1 33) (u.1 10) (u.1 4) (u.1 2))) := o5.trans h.book
  have hb2 : M2 x0 = some (.inl (14, booF ad (iI (stdS u)) (u.1 33) (u.1 10) (u.1 4) (u.1 2))) := k4.trans h.book
  have hl : LisR S M2 rho 4 (ad 4) (seqA ad 1000 (vN u 5)) := h.rows.1.fr (fun y hy => ⟨k6 y (by omega) (by omega), hy⟩)
  obtain ⟨K3, I3⟩ := k7 (iI 0)
  rw [hE.zero] at K3 I3
  obtain ⟨R, hroom⟩ : ∃ R : Int32, ((if (16 : Int32) ≤ iI (seqA ad 1000 (vN u 5)).length then (some ((0 : Int32), (0 : Int32), (0 : Int32), some x0)) else (some ((1 : Int32), (0 : Int32), (0 : Int32), some x0))) : Option (Int32 × Int32 × Int32 × Option Nat)) = some (R, 0, 0, some x0) := by
    split
    · exact ⟨_, rfl⟩
    · exact ⟨_, rfl⟩
  unfold f_X11_thing
  rw [(bk h.book).2.1]
  simp only [Option.bind_some]
  rw [(bk h.book).1]
  simp only [Option.bind_some]
  rw [if_pos h.reader, o1]
  simp only [Option.bind_some]
  rw [(bk hbb).1]
  simp only [Option.bind_some]
  rw [if_pos o3, o4]
  simp only [Option.bind_some]
  rw [(bk hbk).2.1]
  simp only [Option.bind_some]
  rw [if_pos o6, e1]
  simp only [Option.bind_some, if_true]
  rw [(bk hb2).2.2.1]
  simp only [Option.bind_some]
  rw [if_pos hl.is, hl.size]
  simp only [Option.bind_some]
  rw [hroom]
  simp only [Option.bind_some]
  rw [if_pos (isO_at hb2), z_refusal h.bookB hb2]
  simp only [Option.bind_some, if_true]
  rw [if_neg (show ¬ (2 : Int32) = 0 by decide)]
  refine (congrArg (fun K => AnsZ B S L x0 sz (vN u 19).toNat (vN u 33).toNat K (noS u6 2)) (z_refuseZ K3 2)).mpr ?_
  exact ansz_no hL K3 I3 2 (by rw [hE.num 19 (by decide) (by decide) (by decide) (by decide)]) (by rw [hE.num 33 (by decide) (by decide) (by decide) (by decide)])
theorem EndU.numF (hE : EndU u u6 w) (k : Nat) (h1 : k ≠ 1) (h3 : k ≠ 3) (h4 : k ≠ 4) (hk : k < 43) (f : Int32) : vN (uI u6 4 f) k = vN u k := by
  rw [← hE.num k h1 h3 h4 hk]
  unfold vN
  show (upd u6.1 4 f k).toInt = _
  unfold upd
  rw [if_neg h4]
theorem q_thingR (hSL : LitOK S L) (hL : LOK B L) (hD : DigOK S L) (hEm : EmpOK S L) (h : RepK B S L x0 ad rho xl M u sz) (hI : Inv u xl) {n : Nat} (hn : 2100 ≤ n) {M2 : Mem} (e1 : ∃ Mk, Opn B S n ad x0 M Mk ∧ f_X7_readsThing B n Mk (some (ad 3)) = some (1, M2)) (r1 : Rd B ad rho (kpM B ad M) M2 N g (K :: V :: W :: l) j w) (hE : EndU u u6 w) (hK : 0 ≤ K ∧ K ≤ 4) (hV : 0 ≤ V ∧ V ≤ 9999) (hW : 0 ≤ W ∧ W ≤ 9999) : AnsZ B S L x0 sz (vN u 19).toNat (vN u 33).toNat (f_X11_thing B S n M sz (some x0)) (if ¬ (1 ≤ V ∧ 1 ≤ W ∧ W ≤ 999) then noS (uI u6 4 (iI 1)) 4 else if twF 0 l = true then noS (uI u6 4 (iI 2)) 4 else if vN u 5 = 16 then noS u6 9 else fineS (thiU u6 (vN u 5).toNat K V W (bitsF 0 l)) (vN u 5)) := by
  have n5 := hI.n5
  have xlt := h.xlt
  obtain ⟨Mk, ⟨Mb, o1, o2, o3, o4, o5, o6⟩, e1⟩ := e1
  obtain ⟨k4, k5, k6, k7⟩ := rep_read2 hL h hI r1 hE
  have hbb : Mb x0 = some (.inl (14, booF ad (iI (stdS u)) (u.1 33) (u.1 10) (u.1 4) (u.1 2))) := o2.trans h.book
  have hbk : Mk x0 = some (.inl (14, booF ad (iI (stdS u)) (u.1 33) (u.1 10) (u.1 4) (u.1 2))) := o5.trans h.book
  have hb2 : M2 x0 = some (.inl (14, booF ad (iI (stdS u)) (u.1 33) (u.1 10) (u.1 4) (u.1 2))) := k4.trans h.book
  have hl : LisR S M2 rho 4 (ad 4) (seqA ad 1000 (vN u 5)) := h.rows.1.fr (fun y hy => ⟨k6 y (by omega) (by omega), hy⟩)
  have c19 : ∀ f : Int32, (vN u 19).toNat = (vN (uI u6 4 f) 19).toNat ∧ (vN u 33).toNat = (vN (uI u6 4 f) 33).toNat := fun f => by
    rw [hE.numF 19 (by decide) (by decide) (by decide) (by decide), hE.numF 33 (by decide) (by decide) (by decide) (by decide)]
    exact ⟨rfl, rfl⟩
  obtain ⟨F, hF, hf⟩ : ∃ F : Int, F = (if ¬ (1 ≤ V ∧ 1 ≤ W ∧ W ≤ 999) then 1 else if twF 0 l = true then 2 else 0) ∧ f_X10_faultIn n M2 (some (ad 3)) = some (iI F) := ⟨_, rfl, k5.thiFault hV hW n (by omega)⟩
  have hroom : ((if (16 : Int32) ≤ iI (seqA ad 1000 (vN u 5)).length then (some ((0 : Int32), iI F, (1 : Int32), some x0)) else (some ((1 : Int32), iI F, (1 : Int32), some x0))) : Option (Int32 × Int32 × Int32 × Option Nat)) = some (iI (if vN u 5 < 16 then 1 else 0), iI F, 1, some x0) := by
    rw [seqA_len, show (16 : Int32) = iI 16 from rfl, it_le _ _ (by omega)]
    by_cases q : vN u 5 < 16
    · rw [if_pos q, if_neg (by omega)]
      rfl
    · rw [if_neg q, if_pos (by omega)]
      rfl
  unfold f_X11_thing
  rw [(bk h.book).2.1]
  simp only [Option.bind_some]
  rw [(bk h.book).1]
  simp only [Option.bind_some]
  rw [if_pos h.reader, o1]
  simp only [Option.bind_some]
  rw [(bk hbb).1]
  simp only [Option.bind_some]
  rw [if_pos o3, o4]
  simp only [Option.bind_some]
  rw [(bk hbk).2.1]
  simp only [Option.bind_some]
  rw [if_pos o6, e1]
  simp only [Option.bind_some]
  rw [if_neg (show ¬ (1 : Int32) = 0 by decide), (bk hb2).2.1]
  simp only [Option.bind_some]
  rw [hf]
  simp only [Option.bind_some]
  rw [(bk hb2).2.2.1]
  simp only [Option.bind_some]
  rw [if_pos hl.is, hl.size]
  simp only [Option.bind_some]
  rw [hroom]
  simp only [Option.bind_some]
  rw [if_pos (isO_at hb2), z_refusal h.bookB hb2]
  simp only [Option.bind_some]
  rw [if_neg (show ¬ (1 : Int32) = 0 by decide)]
  by_cases cF : 1 ≤ V ∧ 1 ≤ W ∧ W ≤ 999
  · rw [if_neg (show ¬ ¬ (1 ≤ V ∧ 1 ≤ W ∧ W ≤ 999) from fun q => q cF)] at hF ⊢
    by_cases cT : twF 0 l = true
    · rw [if_pos cT] at hF ⊢
      subst hF
      obtain ⟨K3, I3⟩ := k7 (iI 2)
      rw [if_neg (show ¬ iI 2 = (0 : Int32) by decide), if_neg (show ¬ (4 : Int32) = 0 by decide)]
      refine (congrArg (fun K => AnsZ B S L x0 sz (vN u 19).toNat (vN u 33).toNat K (noS (uI u6 4 (iI 2)) 4)) (z_refuseZ K3 4)).mpr ?_
      exact ansz_no hL K3 I3 4 (c19 _).1 (c19 _).2
    · rw [if_neg cT] at hF ⊢
      subst hF
      obtain ⟨K3, I3⟩ := k7 (iI 0)
      rw [hE.zero] at K3 I3
      rw [if_pos (show iI 0 = (0 : Int32) from rfl)]
      by_cases cR : vN u 5 < 16
      · rw [if_pos cR, if_neg (show ¬ iI 1 = (0 : Int32) by decide), if_neg (show ¬ vN u 5 = 16 by omega)]
        simp only [if_true]
        have hM3 : (va_up M2 x0 (some (.inl (14, booF ad (iI (stdS u)) (u.1 33) (u.1 10) (iI 0) (u.1 2))))) x0 = some (.inl (14, booF ad (iI (stdS u)) (u.1 33) (u.1 10) (iI 0) (u.1 2))) := va_up_self ..
        generalize hg : va_up M2 x0 (some (.inl (14, booF ad (iI (stdS u)) (u.1 33) (u.1 10) (iI 0) (u.1 2)))) = M3 at *
        have hfr : ∀ y, y ≠ sz → (va_up M3 sz (some (.inl (13, [.int 0, .int 0, .int 0, .null, .null, .null, .int 0, .int 0, .null])))) y = M3 y := fun y hy => va_up_ne _ _ hy
        have hM23 : (va_up M3 sz (some (.inl (13, [.int 0, .int 0, .int 0, .null, .null, .null, .int 0, .int 0, .null])))) x0 = some (.inl (14, booF ad (iI (stdS u)) (u.1 33) (u.1 10) (iI 0) (u.1 2))) := by
          rw [hfr _ (by omega)]
          exact hM3
        have rd3 : Rd B ad rho M3 M3 N g (K :: V :: W :: l) j w := k5.fr (fun y hy => by
          rw [← hg]
          refine va_up_ne _ _ (fun e => ?_)
          have := h.2.1.1.2
          rw [← e, hy] at this
          cases this)
        have v5 := hE.num 5 (by decide) (by decide) (by decide) (by decide)
        have hl23 : LisR S (va_up M3 sz (some (.inl (13, [.int 0, .int 0, .int 0, .null, .null, .null, .int 0, .int 0, .null])))) rho 4 (ad 4) (seqA ad 1000 (vN u6 5)) := K3.rows.1.fr (fun y hy => ⟨hfr y (by have := K3.1.2 y (by omega); omega), hy⟩)
        obtain ⟨M4, wt, i1, i2, i3, i4, i5, i6, i7, i8⟩ := z_thiInit hL hSL hD K3.1.1 (by omega) (fun y hy => (K3.1.2 y (by omega)).2) rd3 hK (by omega) (by omega) (iI (vN u6 5)) n hn
        obtain ⟨M5, sz5, ad1, rho1, xl1, j1, j4, j5⟩ := K3.addThi hL hEm I3 i2 i3 i4 i5 i6 i7 i8 hK (by omega) (by omega) (by rw [v5]; exact cR)
        rw [v5] at j4 j5
        have hl4 : isO M4 (some (ad 4)) 2 = true := (K3.rows.1.fr (M1 := M4) (rho1 := rho) (fun y hy => ⟨i3 y (K3.1.2 y (by omega)).2, hy⟩)).is
        have e5 : vN (thiU u6 (vN u 5).toNat K V W (bitsF 0 l)) 5 = vN u 5 + 1 := by
          show ((thiU u6 (vN u 5).toNat K V W (bitsF 0 l)).1 5).toInt = _
          rw [thiU_14, toInt_iI _ (by omega) (by omega)]
          omega
        have hlen : iI ((seqA ad1 1000 (vN (thiU u6 (vN u 5).toNat K V W (bitsF 0 l)) 5)).length : Nat) - (1 : Int32) = iI (vN u 5) := by
          rw [seqA_len, e5, show (1 : Int32) = iI 1 from rfl, iI_sub]
          congr 1
          omega
        have hlen0 : iI ((seqA ad 1000 (vN u6 5)).length : Nat) = iI (vN u6 5) := by
          rw [seqA_len, v5]
          congr 1
          omega
        rw [(bk hM3).2.2.1]
        simp only [Option.bind_some]
        rw [(bk hM23).2.2.1]
        simp only [Option.bind_some]
        rw [if_pos hl23.is, hl23.size]
        simp only [Option.bind_some]
        rw [(bk hM23).2.1]
        simp only [Option.bind_some]
        rw [hlen0, i1]
        simp only [Option.bind_some]
        rw [if_pos hl4, j1]
        simp only [Option.bind_some]
        rw [(bk j4.book).2.2.1]
        simp only [Option.bind_some]
        rw [if_pos j4.rows.1.is, j4.rows.1.size]
        simp only [Option.bind_some]
        rw [if_pos (isO_at j4.book), hlen, z_answer j4]
        have q1 : vN (thiU u6 (vN u 5).toNat K V W (bitsF 0 l)) 19 = vN u 19 := by
          rw [← hE.num 19 (by decide) (by decide) (by decide) (by decide)]
          unfold vN
          rw [thiU_n _ _ _ _ _ _ 19 (by decide)]
        have q2 : vN (thiU u6 (vN u 5).toNat K V W (bitsF 0 l)) 33 = vN u 33 := by
          rw [← hE.num 33 (by decide) (by decide) (by decide) (by decide)]
          unfold vN
          rw [thiU_n _ _ _ _ _ _ 33 (by decide)]
        exact ansz_fine hL j4 j5 (vN u 5) (by rw [q1]) (by rw [q2])
      · rw [if_neg cR, if_pos (show iI 0 = (0 : Int32) from rfl), if_pos (show vN u 5 = 16 by omega), if_neg (show ¬ (9 : Int32) = 0 by decide)]
        refine (congrArg (fun K => AnsZ B S L x0 sz (vN u 19).toNat (vN u 33).toNat K (noS u6 9)) (z_refuseZ K3 9)).mpr ?_
        have := c19 (iI 0)
        rw [hE.zero] at this
        exact ansz_no hL K3 I3 9 this.1 this.2
  · rw [if_pos cF] at hF ⊢
    subst hF
    obtain ⟨K3, I3⟩ := k7 (iI 1)
    rw [if_neg (show ¬ iI 1 = (0 : Int32) by decide), if_neg (show ¬ (4 : Int32) = 0 by decide)]
    refine (congrArg (fun K => AnsZ B S L x0 sz (vN u 19).toNat (vN u 33).toNat K (noS (uI u6 4 (iI 1)) 4)) (z_refuseZ K3 4)).mpr ?_
    exact ansz_no hL K3 I3 4 (c19 _).1 (c19 _).2
theorem st_thing {nc nr : Nat} (hSL : LitOK S L) (hL : LOK B L) (hD : DigOK S L) (hEm : EmpOK S L) (h : SimB B S L x0 M u sz nc nr) : AnsZ B S L x0 sz nc nr (f_X11_thing B S 4000 M sz (some x0)) (f_X12_thing S 4000 L u) := by
  obtain ⟨ad, rho, xl, hK, hI, rfl, rfl⟩ := h
  obtain ⟨u1, k, u2, v, u3, w, u4, b, f, u5, e, u6, r, M6, b1, b2, b3, b4, b5, b6, e1, hh⟩ := j_thing hSL hL hK hI 4000 (by omega)
  rcases hh with ⟨K, V, W, l, j, rfl, rfl, ⟨rfl, rfl, rfl⟩, hKr, hVr, hWr, -, rfl, rfl, hE, hr⟩ | ⟨t, j, w, rfl, rfl, hE, hr⟩
  · rw [t_thing_tail hI.n5 hE hVr hWr _ _ b1 b2 b3 b4 b5 b6]
    exact q_thingR hSL hL hD hEm hK hI (by omega) e1 hr hE hKr hVr hWr
  · have e2 : f_X12_thing S 4000 L u = noS u6 2 := by
      unfold f_X12_thing
      rw [b1, Option.bind_some, b2, Option.bind_some, b3, Option.bind_some, b4, Option.bind_some, b5, Option.bind_some, b6, Option.bind_some, if_pos (show iI 0 = (0 : Int32) from rfl)]
      rfl
    rw [e2]
    exact q_thingW hL hK hI e1 hr hE
end THS
