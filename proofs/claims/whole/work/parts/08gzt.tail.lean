/-! LOAN: a text without fault, both sides -/
def loTail (n : Nat) (u6 : MS) (a1 A D b : Int32) : Option (Int32 × MS) := (f_X12_set n u6 (u6.1 23) a1 A D b).bind fun r50 => (f_X12_areGuarded n r50 (r50.1 23) (1 : Int32)).bind fun r51 => ((if r51.1 = 0 then (some ((0 : Int32), r51.2)) else ((f_X12_areGuarded n r51.2 (r51.2.1 23) (0 : Int32)).bind fun r54 => if r54.1 = 0 then (some ((0 : Int32), r54.2)) else (some ((1 : Int32), r54.2)))) : Option (Int32 × MS)).bind fun o56 => ((if o56.1 = 0 then (if inb (o56.2.1 23) 17 then (some ((uA o56.2 24 ((o56.2.1 23) : Int32).toNatClampNeg (0 : Int32)))) else none) else (if (o56.2.1 23) = (16 : Int32) then (if inb (o56.2.1 23) 17 then (some ((uA o56.2 24 ((o56.2.1 23) : Int32).toNatClampNeg (0 : Int32)))) else none) else (some (o56.2)))) : Option (MS)).bind fun o62 => if o56.1 = 0 then ((f_X12_faulty o62 (8 : Int32)).bind fun r67 => some (r67.1, r67.2)) else (if (o62.1 23) = (16 : Int32) then ((f_X12_no o62 (9 : Int32)).bind fun r66 => some (r66.1, r66.2)) else ((f_X12_fine (uI o62 23 ((o62.1 23) + (1 : Int32))) (((uI o62 23 ((o62.1 23) + (1 : Int32))).1 23) - (1 : Int32))).bind fun r65 => some (r65.1, r65.2)))
section LTT
variable {B : Nat} {S : Nat → Nat} {L : Mem} {x0 : Nat} {ad rho rh pa : Nat → Nat} {xl : Nat → List Nat} {MK M1 M : Mem} {uS u1 u u6 : MS} {sz zz l P a0 : Nat} {ct : Nat → List Nat} {n : Nat} {a1 A D b : Int32}
/-- what both sides say of the couriers: the code, both states -/
theorem j_ways (F : Fix B S L x0 ad rho xl MK M1 uS u1 sz zz rh ct l P) (h : GS S ad rho M1 u1 rh a0 pa ct l P u M) (hR : ∀ p, p < P → vR u 31 (l * 16 + p) = -1 ∧ vR u 32 (l * 16 + p) = -1) (n : Nat) (hn : 2100 ≤ n) : ∃ (b : Int) (u' : MS) (M' : Mem), (b = 0 ∨ b = 1) ∧ ((f_X12_areGuarded n u (iI l) (1 : Int32)).bind fun r51 => ((if r51.1 = 0 then (some ((0 : Int32), r51.2)) else ((f_X12_areGuarded n r51.2 (r51.2.1 23) (0 : Int32)).bind fun r54 => if r54.1 = 0 then (some ((0 : Int32), r54.2)) else (some ((1 : Int32), r54.2)))) : Option (Int32 × MS))) = some (iI b, u') ∧ (∀ (r1 : Option Nat) (z : Nat), ((f_X11_findCouriers B n M (some x0) (some a0) (iI l) (0 : Int32)).bind fun r25 => if r25.1 = 0 then (some ((8 : Int32), r1, r25.2, z)) else (if isO r25.2 (some x0) 14 = true then ((f_X11_findCouriers B n r25.2 (some x0) (some a0) (iI l) (1 : Int32)).bind fun r29 => if r29.1 = 0 then (some ((8 : Int32), r1, r29.2, z)) else (some ((0 : Int32), r1, r29.2, z))) else none)) = some (iI (if b = 0 then 8 else 0), r1, M', z)) ∧ GS S ad rho M1 u1 rh a0 pa ct l P u' M' := by
  obtain ⟨b1, u2, M2, y1, y2, y3, y4, y5⟩ := j_way F (w := 0) (s := 1) (a := 1) (by omega) n hn h (fun p hp => (hR p hp).1)
  have y2' : f_X12_areGuarded n u (iI l) (1 : Int32) = some (iI b1, u2) := y2
  have y3' : f_X11_findCouriers B n M (some x0) (some a0) (iI l) (0 : Int32) = some (iI b1, M2) := y3
  rw [y2', y3']
  simp only [Option.bind_some]
  rcases y1 with rfl | rfl
  · exact ⟨0, u2, M2, Or.inl rfl, rfl, fun r1 z => rfl, y4⟩
  · obtain ⟨b2, u3, M3, x1, x2, x3, x4, x5⟩ := j_way F (w := 1) (s := 3) (a := 0) (by omega) n hn y4 (fun p hp => by
      have := y5 p
      rw [if_pos rfl] at this
      rw [if_neg (show ¬ (3 : Int) = 1 by decide), this]
      exact (hR p hp).2)
    have hx0 : isO M2 (some x0) 14 = true := by
      have hb := F.1.1.2.1.1
      obtain ⟨v4, hbk⟩ := F.2.2.2.2.2.2.2.2.2.1
      exact isO_at ((y4.frm F (y := x0) (by rw [hb.2]; decide) (by rw [hb.2]; decide)).trans hbk)
    have e23 : u2.1 23 = iI l := by
      rw [u1_iI, (y4.inv F).2.1]
    have x2' : f_X12_areGuarded n u2 (iI l) (0 : Int32) = some (iI b2, u3) := x2
    have x3' : f_X11_findCouriers B n M2 (some x0) (some a0) (iI l) (1 : Int32) = some (iI b2, M3) := x3
    rw [if_neg (show ¬ iI 1 = (0 : Int32) by decide), e23, x2']
    simp only [if_neg (show ¬ iI 1 = (0 : Int32) by decide), if_pos hx0, x3', Option.bind_some]
    rcases x1 with rfl | rfl
    · exact ⟨0, u3, M3, Or.inl rfl, rfl, fun r1 z => rfl, x4⟩
    · exact ⟨1, u3, M3, Or.inr rfl, rfl, fun r1 z => rfl, x4⟩
end LTT
section LT2
variable {B : Nat} {S : Nat → Nat} {L : Mem} {x0 : Nat} {ad rho : Nat → Nat} {xl : Nat → List Nat} {M M1 : Mem} {u u6 : MS} {sz N j c : Nat} {g : Nat → Int} {t : List Int} {w H A D : Int}
theorem q_loanT (hL : LOK B L) (hEm : EmpOK S L) (h : RepK B S L x0 ad rho xl M u sz) (hI : Inv u xl) {n : Nat} (hn : 2100 ≤ n) {t : List Int} (cH : 0 ≤ H ∧ H ≤ vN u 14 - 1) {M2 : Mem} (e1 : ∃ Mk, Opn B S n ad x0 M Mk ∧ f_X7_readsLoan B n Mk (some (ad 3)) = some (1, M2)) (r1 : Rd B ad rho (kpM B ad M) M2 N g t j w) (hE : EndU u u6 w) (hfa : ∀ M2, RepK B S L x0 ad rho xl M2 (uI u6 4 (u.1 4)) sz → Inv (uI u6 4 (u.1 4)) xl → Rd B ad rho M2 M2 N g t j w → f_X11_faultInLoan n M2 (some x0) (some (ad (5000 + H.toNat))) = some (iI 0)) (ht : t.length = 2 + c) (hri : riS (vN u6 5) (-1) (t.drop 2) = true) (hA : t.getD 0 0 = A) (hD : t.getD 1 0 = D) (hA2 : 0 ≤ A ∧ A ≤ 999) (hD2 : 1 ≤ D ∧ D ≤ 300) (hend : A + (2 * vR u6 15 H.toNat + D) ≤ 1000) (hfr : frA u6 A (A + (2 * vR u6 15 H.toNat + D) - 1) (t.drop 2) = true) : AnsZ B S L x0 sz (vN u 19).toNat (vN u 33).toNat (f_X11_loan B S n M sz (some x0) (iI H)) (loTail n u6 (iI H) (iI A) (iI D) (bitsF 0 (t.drop 2))) := by
  have n14 := hI.n14
  have n23 := hI.n23
  have nz : ¬ (1 : Int32) = 0 := by decide
  obtain ⟨Mk, ⟨Mb, o1, o2, o3, o4, o5, o6⟩, e1⟩ := e1
  obtain ⟨k4, k5, k6, k7⟩ := rep_read2 hL h hI r1 hE
  have hbb : Mb x0 = some (.inl (14, booF ad (iI (stdS u)) (u.1 33) (u.1 10) (u.1 4) (u.1 2))) := o2.trans h.book
  have hbq : Mk x0 = some (.inl (14, booF ad (iI (stdS u)) (u.1 33) (u.1 10) (u.1 4) (u.1 2))) := o5.trans h.book
  have hb2 : M2 x0 = some (.inl (14, booF ad (iI (stdS u)) (u.1 33) (u.1 10) (u.1 4) (u.1 2))) := k4.trans h.book
  obtain ⟨K3, I3⟩ := k7 (iI 0)
  rw [hE.zero] at K3 I3
  obtain ⟨K2, I2⟩ := k7 (u.1 4)
  rw [up_same hb2] at K2
  have v23 : vN (uI u6 4 (u.1 4)) 23 = vN u 23 := hE.numF 23 (by decide) (by decide) (by decide) (by decide) _
  have v236 : vN u6 23 = vN u 23 := hE.num 23 (by decide) (by decide) (by decide) (by decide)
  have v146 : vN u6 14 = vN u 14 := hE.num 14 (by decide) (by decide) (by decide) (by decide)
  have v196 : vN u6 19 = vN u 19 := hE.num 19 (by decide) (by decide) (by decide) (by decide)
  have v336 : vN u6 33 = vN u 33 := hE.num 33 (by decide) (by decide) (by decide) (by decide)
  have h7 := K2.rows.2.2.2
  have es := h7.size
  rw [seqA_len, v23] at es
  obtain ⟨l, hl⟩ : ∃ l : Nat, vN u 23 = (l : Int) := ⟨(vN u 23).toNat, by omega⟩
  rw [show (((vN u 23).toNat : Nat) : Int) = (l : Int) by omega] at es
  have hfault := hfa M2 K2 I2 k5
  have s33 : u.1 33 = u6.1 33 := (hE.2.2.2.1 33 (by decide) (by decide) (by decide) (by decide)).symm
  have s10 : u.1 10 = u6.1 10 := (hE.2.2.2.1 10 (by decide) (by decide) (by decide) (by decide)).symm
  have s2 : u.1 2 = u6.1 2 := (hE.2.2.2.1 2 (by decide) (by decide) (by decide) (by decide)).symm
  have s4 : u6.1 4 = iI 0 := hE.2.2.1
  have hstd : stdS u = stdS u6 := by
    have hb3 := K3.book
    rw [va_up_self] at hb3
    unfold stdS vR
    rw [v236, hE.2.2.2.2 24 (by decide)]
  have hb2' : M2 x0 = some (.inl (14, booF ad (iI (stdS u6)) (u6.1 33) (u6.1 10) (u.1 4) (u6.1 2))) := by
    rw [hb2, hstd, s33, s10, s2]
  rw [hstd, s33, s10, s2, ← s4] at K3
  obtain ⟨M5, zz, rh, pa, ct, P, u1, d1, d2, d3, F, G, d4, d5, d6, d7, d8⟩ := j_pre hL hEm K2 I2 hb2' K3 I3 (v236.trans hl) k5 ht hri (hh := H.toNat) (by omega) hA hD hA2 hD2 hend n hn
  obtain ⟨b, u', M', b1, b2, b3, G2⟩ := j_ways F G d4 n hn
  have n5 := I3.n5
  have eH : ((H.toNat : Nat) : Int) = H := by omega
  have d3' : f_X12_set n u6 (iI l) (iI H) (iI A) (iI D) (bitsF 0 (t.drop 2)) = some u1 := by
    rw [← d3, eH]
  have e23 : u6.1 23 = iI l := by rw [u1_iI, v236, hl]
  have e231 : u1.1 23 = iI l := by rw [u1_iI, (G.inv F).2.1]
  have e232 : u'.1 23 = iI l := by rw [u1_iI, (G2.inv F).2.1]
  have e4' : u'.1 4 = iI 0 := by rw [G2.1.1, F.2.1.2.1, s4]
  have e19 : vN u' 19 = vN u 19 := by rw [(G2.inv F).2.2.1, v196]
  have e33 : vN u' 33 = vN u 33 := by rw [(G2.inv F).2.2.1, v336]
  have hl16 : l ≤ 16 := by omega
  have ql : inb (iI (l : Int)) 17 := (iI_inb _ 17 (by omega)).mpr (by omega)
  have cl : (iI (l : Int)).toNatClampNeg = l := by rw [iI_clamp _ (by omega)]; omega
  -- the class up to the refusal
  obtain ⟨v4, hbk⟩ := F.2.2.2.2.2.2.2.2.2.1
  have hbM : M' x0 = some (.inl (14, booF ad (iI (stdS u6)) (u6.1 33) (u6.1 10) v4 (u6.1 2))) := (G2.frm F (y := x0) (by rw [h.2.1.1.2]; decide) (by rw [h.2.1.1.2]; decide)).trans hbk
  have hM5 : isO M5 (some x0) 14 = true := isO_at hbk
  have hroom : ∀ f : Int32, ((if (16 : Int32) ≤ iI l then (some ((0 : Int32), f, (1 : Int32), some x0)) else (some ((1 : Int32), f, (1 : Int32), some x0))) : Option (Int32 × Int32 × Int32 × Option Nat)) = some (iI (if l = 16 then 0 else 1), f, 1, some x0) := fun f => by
    rw [show (16 : Int32) = iI 16 from rfl, it_le _ _ (by omega)]
    by_cases q : l = 16
    · rw [if_pos (by omega), if_pos q]
      rfl
    · rw [if_neg (by omega), if_neg q]
      rfl
  have hcls : ∀ R, ((if (if iI (if b = 0 then 8 else 0) = 0 then (if iI (if l = 16 then 0 else 1) = 0 then (9 : Int32) else 0) else 4) = 0 then (if (some sz : Option Nat) = none then (if isO (va_up M' x0 (some (.inl (14, booF ad (iI (stdS u6)) (u6.1 33) (u6.1 10) (iI (if b = 0 then 8 else 0)) (u6.1 2))))) (some x0) 14 = true then ((f_X11_releaseCouriers B n (va_up M' x0 (some (.inl (14, booF ad (iI (stdS u6)) (u6.1 33) (u6.1 10) (iI (if b = 0 then 8 else 0)) (u6.1 2))))) (some x0) (iI l)).bind fun r55 => if isO r55 (some x0) 14 = true then ((f_X11_refuse B r55 (some x0) (if iI (if b = 0 then 8 else 0) = 0 then (if iI (if l = 16 then 0 else 1) = 0 then (9 : Int32) else 0) else 4)).bind fun r57 => some (r57.1, r57.2, zz)) else none) else none) else ((gR (va_up M' x0 (some (.inl (14, booF ad (iI (stdS u6)) (u6.1 33) (u6.1 10) (iI (if b = 0 then 8 else 0)) (u6.1 2))))) (some x0) 14 5).bind fun v45 => if isO (va_up M' x0 (some (.inl (14, booF ad (iI (stdS u6)) (u6.1 33) (u6.1 10) (iI (if b = 0 then 8 else 0)) (u6.1 2))))) v45 2 = true then ((f_Jx4a65c_add_9ea2d B S (va_up M' x0 (some (.inl (14, booF ad (iI (stdS u6)) (u6.1 33) (u6.1 10) (iI (if b = 0 then 8 else 0)) (u6.1 2))))) zz v45 (some sz)).bind fun r47 => (gI r47.2.1 (some x0) 14 6).bind fun v48 => (pF B r47.2.1 (some x0) 14 6 (.int (v48 + (1 : Int32)))).bind fun M49 => if isO M49 (some x0) 14 = true then ((f_X11_takeThings B n M49 (some x0) (some sz) (iI l)).bind fun r51 => if isO r51 (some x0) 14 = true then ((f_X11_answer B r51 (some x0) (iI l)).bind fun r53 => some (r53.1, r53.2, r47.2.2)) else none) else none) else none)) else (if isO (va_up M' x0 (some (.inl (14, booF ad (iI (stdS u6)) (u6.1 33) (u6.1 10) (iI (if b = 0 then 8 else 0)) (u6.1 2))))) (some x0) 14 = true then ((f_X11_releaseCouriers B n (va_up M' x0 (some (.inl (14, booF ad (iI (stdS u6)) (u6.1 33) (u6.1 10) (iI (if b = 0 then 8 else 0)) (u6.1 2))))) (some x0) (iI l)).bind fun r41 => if isO r41 (some x0) 14 = true then ((f_X11_refuse B r41 (some x0) (if iI (if b = 0 then 8 else 0) = 0 then (if iI (if l = 16 then 0 else 1) = 0 then (9 : Int32) else 0) else 4)).bind fun r43 => some (r43.1, r43.2, zz)) else none) else none)) : Option (Int32 × Mem × Nat)) = R → f_X11_loan B S n M sz (some x0) (iI H) = R := fun R hR => by
    unfold f_X11_loan
    rw [if_pos (isO_at h.book), z_houseAt h H (by omega), if_pos cH]
    simp only [Option.bind_some, reduceCtorEq, if_false]
    rw [(bk h.book).2.1]
    simp only [Option.bind_some]
    rw [(bk h.book).1]
    simp only [Option.bind_some]
    rw [if_pos h.reader, o1]
    simp only [Option.bind_some]
    rw [(bk hbb).1]
    simp only [Option.bind_some]
    rw [if_pos o3, o4]
    simp only [Option.bind_some]
    rw [(bk hbq).2.1]
    simp only [Option.bind_some]
    rw [if_pos o6, e1]
    simp only [Option.bind_some]
    rw [(bk hb2).2.2.2.2.2]
    simp only [Option.bind_some]
    rw [if_pos h7.is, es]
    simp only [Option.bind_some]
    simp only [if_neg nz]
    rw [if_pos (isO_at hb2), hfault]
    simp only [Option.bind_some]
    rw [if_pos (show iI 0 = (0 : Int32) from rfl), if_pos (isO_at hb2), d1]
    simp only [Option.bind_some]
    rw [if_pos hM5, b3]
    simp only [Option.bind_some]
    rw [hroom]
    simp only [Option.bind_some]
    rw [if_pos (isO_at hbM), z_refusal h.bookB hbM]
    simp only [Option.bind_some, if_neg nz]
    exact hR
  rw [hcls _ rfl]
  clear hcls
  have c19 : ∀ f : Int32, (vN u 19).toNat = (vN (uI (uA u' 24 l 0) 4 f) 19).toNat ∧ (vN u 33).toNat = (vN (uI (uA u' 24 l 0) 4 f) 33).toNat := fun f => by
    have q1 : vN (uI (uA u' 24 l 0) 4 f) 19 = vN u' 19 := rfl
    have q2 : vN (uI (uA u' 24 l 0) 4 f) 33 = vN u' 33 := rfl
    rw [q1, q2, e19, e33]
    exact ⟨rfl, rfl⟩
  by_cases hb : b = 0
  · subst hb
    have eRef : loTail n u6 (iI H) (iI A) (iI D) (bitsF 0 (t.drop 2)) = noS (uI (uA u' 24 l 0) 4 (iI 8)) 4 := by
      unfold loTail
      rw [e23, d3']
      simp only [Option.bind_some]
      rw [e231]
      refine (Option.bind_assoc _ _ _).symm.trans ?_
      rw [b2]
      simp only [Option.bind_some, e232, if_pos ql, cl, if_pos (show iI 0 = (0 : Int32) from rfl)]
      rfl
    obtain ⟨M7, q1, K7, I7⟩ := G2.fail hL F d2 (iI 8) n hn
    rw [eRef]
    simp only [if_true, show ¬ iI 8 = (0 : Int32) by decide, if_false, show ¬ (4 : Int32) = 0 by decide]
    rw [if_pos (isO_at (va_up_self ..)), q1]
    simp only [Option.bind_some]
    rw [show (4 : Int32) = iI 4 from rfl, z_refuseZ K7 4]
    exact ansz_no hL K7 I7 4 (c19 _).1 (c19 _).2
  · have hb1' : b = 1 := by omega
    subst hb1'
    have ei : iI (if (1 : Int) = 0 then 8 else 0) = iI 0 := rfl
    rw [ei]
    by_cases h16 : l = 16
    · have eRef : loTail n u6 (iI H) (iI A) (iI D) (bitsF 0 (t.drop 2)) = noS (uI (uA u' 24 l 0) 4 (iI 0)) 9 := by
        rw [uI_same (show (uA u' 24 l 0).1 4 = iI 0 from e4')]
        unfold loTail
        rw [e23, d3']
        simp only [Option.bind_some]
        rw [e231]
        refine (Option.bind_assoc _ _ _).symm.trans ?_
        rw [b2]
        simp only [Option.bind_some, e232, if_pos ql, cl, if_neg (show ¬ iI 1 = (0 : Int32) by decide), if_pos (show iI (l : Int) = (16 : Int32) by rw [h16]; rfl)]
        rw [show (uA u' 24 l 0).1 23 = iI l from e232, if_pos (show iI (l : Int) = (16 : Int32) by rw [h16]; rfl)]
        rfl
      obtain ⟨M7, q1, K7, I7⟩ := G2.fail hL F d2 (iI 0) n hn
      rw [eRef]
      simp only [if_pos h16, if_pos (show iI 0 = (0 : Int32) from rfl), show ¬ (9 : Int32) = 0 by decide, if_false]
      rw [if_pos (isO_at (va_up_self ..)), q1]
      simp only [Option.bind_some]
      rw [show (9 : Int32) = iI 9 from rfl, z_refuseZ K7 9]
      exact ansz_no hL K7 I7 9 (c19 _).1 (c19 _).2
    · have eRef : loTail n u6 (iI H) (iI A) (iI D) (bitsF 0 (t.drop 2)) = fineS (dnU u' l) l := by
        have e16 : ¬ iI (l : Int) = (16 : Int32) := by
          rw [show (16 : Int32) = iI 16 from rfl, iI_eq _ _ (by omega)]
          omega
        unfold loTail
        rw [e23, d3']
        simp only [Option.bind_some]
        rw [e231]
        refine (Option.bind_assoc _ _ _).symm.trans ?_
        rw [b2]
        simp only [Option.bind_some, e232, if_neg (show ¬ iI 1 = (0 : Int32) by decide), if_neg e16]
        rw [show (1 : Int32) = iI 1 from rfl, iI_add, uI_at, iI_sub, show (l : Int) + 1 - 1 = l by omega]
        rfl
      rw [eRef]
      simp only [if_neg h16, if_pos (show iI 0 = (0 : Int32) from rfl), show ¬ iI 1 = (0 : Int32) by decide, if_false, if_true, reduceCtorEq]
      have hh1 : ∀ x : Nat, hadS u' l x = hadS u1 l x := fun x => by
        unfold hadS
        rw [G2.1.row (by decide)]
      have v26 : vR u' 26 l = A := by rw [G2.1.vr (by decide), d7]
      have vln : lenS u' l = 2 * vR u6 15 H.toNat + D := by rw [G2.1.len, d8]
      have v30 : ∀ x, vR u' 30 x = vR u1 30 x := fun x => G2.1.vr (by decide) x
      have n56 := F.1.2.n5
      obtain ⟨M47, z47, v48, M49, M51, ad1, rho1, xl1, y1, y2, y3, y4, y5, y6, y7, y8, y9⟩ := G2.done hL hEm F d2 (by omega) (fun x hx hhx d dd1 dd2 => by
        rw [hh1] at hhx
        obtain ⟨-, q2, -⟩ := d6 x (by omega) hhx
        obtain ⟨y, hy, rfl⟩ := List.mem_map.mp q2
        have hfy := List.all_eq_true.mp hfr y hy
        have hy0 := (riS_prs (vN u6 5) (t.drop 2) (-1) hri).1 y hy
        rw [show ((y.toNat : Nat) : Int) = y by omega]
        rw [v26] at dd1 dd2
        rw [vln] at dd2
        exact of_decide_eq_true (allI_iff.mp hfy d dd1 (by omega))) (by rw [G2.1.vr (by decide)]; exact d5) (fun x hx hhx => by
        rw [hh1] at hhx
        obtain ⟨q1, -, p, q2, q3, q4⟩ := d6 x hx hhx
        rw [v30, q4]
        exact ⟨q1, by omega, by omega⟩) (fun x hx hhx => by
        rw [hh1] at hhx
        obtain ⟨q1, -, p, q2, q3, q4⟩ := d6 x (by omega) hhx
        exact ⟨p, q2, q3⟩) n hn (Mr := va_up M' x0 (some (.inl (14, booF ad (iI (stdS u6)) (u6.1 33) (u6.1 10) (iI 0) (u6.1 2))))) (by rw [s4])
      rw [y1]
      simp only [Option.bind_some]
      rw [if_pos y2, y3]
      simp only [Option.bind_some]
      rw [y4]
      simp only [Option.bind_some]
      rw [y5]
      simp only [Option.bind_some]
      rw [if_pos y6, y7]
      simp only [Option.bind_some]
      rw [if_pos (isO_at y8.book), z_answer y8]
      exact ansz_fine hL y8 y9 l (by rw [dnU_vn u' l (by omega), if_neg (by decide), e19]) (by rw [dnU_vn u' l (by omega), if_neg (by decide), e33])
end LT2
