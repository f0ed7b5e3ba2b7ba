/-! REPORT: both answers -/
theorem inS_eq {u v : MS} (h34 : v.2 34 = u.2 34) (h35 : v.2 35 = u.2 35) (h33 : vN v 33 = vN u 33) (t d : Int) : inS v t d = inS u t d := by
  have key : ∀ n, inF v t d n = inF u t d n := by
    intro n
    induction n with
    | zero => rfl
    | succ n ih =>
      unfold inF vR
      rw [ih, h34, h35]
  unfold inS
  rw [h33, key]
set_option maxHeartbeats 4000000 in
theorem t_report_tail {S : Nat → Nat} {L : Mem} {u u1 ug u2 u3 : MS} {w T D : Int} {f : Int32} {c : Nat} {t : List Int} (n5 : 0 ≤ vN u 5 ∧ vN u 5 ≤ 16) (n33 : 0 ≤ vN u 33 ∧ vN u 33 ≤ 48) (hE : EndU u u3 w) {n : Nat} (hn : 2100 ≤ n) (hT : 0 ≤ T ∧ T ≤ vN u 5 - 1) (hD : 0 ≤ D ∧ D ≤ 999) (hc : c ≤ 15) (hv : valH c t) (hr : rowsH u3 c t) (b1 : f_X12_begins S n L u = some u1) (b2 : f_X12_goes S n L u1 (2 : Int32) (10 : Int32) = some (f, ug)) (b3 : ((if f = 0 then ((f_X12_report_L43 S n L (iI T) (iI D) n ug (0 : Int32)).bind fun o17 => some (o17.1, o17.2)) else (some ((0 : Int32), ug))) : Option (Int32 × MS)) = some (iI c, u2)) (b4 : f_X12_ends u2 = some (iI 1, u3)) : (hOK t c 0 = false → f_X12_report S n L u (iI T) (iI D) = noS (uI u3 4 (iI 9)) 4) ∧ (hOK t c 0 = true → ndA t c 0 = false → f_X12_report S n L u (iI T) (iI D) = noS (uI u3 4 (iI 10)) 4) ∧ (hOK t c 0 = true → ndA t c 0 = true → (0 ≤ inS u T D ∧ vR u 35 (inS u T D).toNat = D) → f_X12_report S n L u (iI T) (iI D) = noS (uI u3 4 (iI 11)) 4) ∧ (hOK t c 0 = true → ndA t c 0 = true → ¬ (0 ≤ inS u T D ∧ vR u 35 (inS u T D).toNat = D) → vN u 33 = 48 → f_X12_report S n L u (iI T) (iI D) = noS u3 9) ∧ (hOK t c 0 = true → ndA t c 0 = true → ¬ (0 ≤ inS u T D ∧ vR u 35 (inS u T D).toNat = D) → vN u 33 < 48 → ∃ u8, f_X12_report S n L u (iI T) (iI D) = fineS u8 (sumI (fun q => if decide (vR u8 34 q.toNat = T) = true then 1 else 0) ((vN u 33).toNat + 1) 0) ∧ RpU u3 u8 (vN u 33).toNat c T D t) := by
  have v33 : vN u3 33 = vN u 33 := hE.num 33 (by decide) (by decide) (by decide) (by decide)
  have w33 : u3.1 33 = iI (vN u 33) := by rw [hE.2.2.2.1 33 (by decide) (by decide) (by decide) (by decide), u1_iI]
  have z1 := t_h109 (S := S) (L := L) hr hv hc n (iI T) (iI D) n 0 true (by omega) (by omega)
  rw [Bool.true_and, Nat.sub_zero] at z1
  have z1' : f_X12_report_L109 S n L u3 (iI T) (iI D) (iI c) n (1 : Int32) (0 : Int32) = some (iI (if hOK t c 0 = true then 1 else 0)) := z1
  have s1 := inS_rng u T D n33.1
  have iS : inS u3 T D = inS u T D := inS_eq (hE.2.2.2.2 34 (by decide)) (hE.2.2.2.2 35 (by decide)) v33 T D
  have i35 : ∀ k, vR u3 35 k = vR u 35 k := fun k => by unfold vR; rw [hE.2.2.2.2 35 (by decide)]
  have z3 := t_reportOn n u3 T D (by omega) (by omega) (by rw [v33]; exact n33) (by omega)
  rw [iS, i35] at z3
  have head : ∀ K, ((f_X12_report_L109 S n L u3 (iI T) (iI D) (iI c) n (1 : Int32) (0 : Int32)).bind fun o28 => if o28 = 0 then ((f_X12_faulty u3 (9 : Int32)).bind fun r63 => some (r63.1, r63.2)) else ((f_X12_report_L176 S n L u3 (iI T) (iI D) (iI c) n o28 (0 : Int32)).bind fun o40 => if o40 = 0 then ((f_X12_faulty u3 (10 : Int32)).bind fun r62 => some (r62.1, r62.2)) else ((f_X12_reportOn n u3 (iI T) (iI D)).bind fun r42 => if r42 < 0 then (if (u3.1 33) = (48 : Int32) then ((f_X12_no u3 (9 : Int32)).bind fun r60 => some (r60.1, r60.2)) else (if inb (u3.1 33) 48 then (if inb ((uA u3 34 ((u3.1 33) : Int32).toNatClampNeg (iI T)).1 33) 48 then (if inb ((uA (uA u3 34 ((u3.1 33) : Int32).toNatClampNeg (iI T)) 35 (((uA u3 34 ((u3.1 33) : Int32).toNatClampNeg (iI T)).1 33) : Int32).toNatClampNeg (iI D)).1 33) 48 then ((f_X12_report_L327 S n L (iI T) (iI c) n (uA (uA (uA u3 34 ((u3.1 33) : Int32).toNatClampNeg (iI T)) 35 (((uA u3 34 ((u3.1 33) : Int32).toNatClampNeg (iI T)).1 33) : Int32).toNatClampNeg (iI D)) 36 (((uA (uA u3 34 ((u3.1 33) : Int32).toNatClampNeg (iI T)) 35 (((uA u3 34 ((u3.1 33) : Int32).toNatClampNeg (iI T)).1 33) : Int32).toNatClampNeg (iI D)).1 33) : Int32).toNatClampNeg (iI c)) (0 : Int32)).bind fun o55 => f_X12_report_L421 S n L (iI T) n (uI o55 33 ((o55.1 33) + (1 : Int32))) (0 : Int32) (0 : Int32)) else none) else none) else none)) else ((f_X12_faulty u3 (11 : Int32)).bind fun r61 => some (r61.1, r61.2))))) = K → f_X12_report S n L u (iI T) (iI D) = K := fun K hK => by
    unfold f_X12_report
    rw [t_isThing u T (by omega) n5, Option.bind_some, if_pos hT, if_neg (show ¬ iI 1 = (0 : Int32) by decide), t_isDay u D (by omega), Option.bind_some, if_pos hD, if_neg (show ¬ iI 1 = (0 : Int32) by decide), b1, Option.bind_some, b2]
    simp only [Option.bind_some]
    rw [b3]
    simp only [Option.bind_some]
    rw [b4]
    simp only [Option.bind_some]
    rw [if_neg (show ¬ iI 1 = (0 : Int32) by decide)]
    exact hK
  have z2 : hOK t c 0 = true → f_X12_report_L176 S n L u3 (iI T) (iI D) (iI c) n (iI 1) (0 : Int32) = some (iI (if ndA t c 0 = true then 1 else 0)) := fun q => by
    have := t_h176 (S := S) (L := L) hr hv hc q n (by omega) (iI T) (iI D) n 0 true (by omega) (by omega)
    rw [Bool.true_and, Nat.sub_zero] at this
    exact this
  refine ⟨fun q => ?_, fun q p => ?_, fun q p o => ?_, fun q p o r => ?_, fun q p o r => ?_⟩
  · refine head _ ?_
    rw [z1', Option.bind_some, if_neg (show ¬ hOK t c 0 = true by rw [q]; decide), if_pos (show iI 0 = (0 : Int32) from rfl)]
    rfl
  · refine head _ ?_
    rw [z1', Option.bind_some, if_pos q, if_neg (show ¬ iI 1 = (0 : Int32) by decide), z2 q, Option.bind_some, if_neg (show ¬ ndA t c 0 = true by rw [p]; decide), if_pos (show iI 0 = (0 : Int32) from rfl)]
    rfl
  · refine head _ ?_
    rw [z1', Option.bind_some, if_pos q, if_neg (show ¬ iI 1 = (0 : Int32) by decide), z2 q, Option.bind_some, if_pos p, if_neg (show ¬ iI 1 = (0 : Int32) by decide), z3, Option.bind_some, if_pos o, if_neg (show ¬ iI (inS u T D) < (0 : Int32) by rw [iI_zero, iI_lt _ _ (by omega)]; omega)]
    rfl
  · refine head _ ?_
    rw [z1', Option.bind_some, if_pos q, if_neg (show ¬ iI 1 = (0 : Int32) by decide), z2 q, Option.bind_some, if_pos p, if_neg (show ¬ iI 1 = (0 : Int32) by decide), z3, Option.bind_some, if_neg o, if_pos (show iI (-1) < (0 : Int32) by decide), w33, if_pos (by rw [r]; rfl)]
    rfl
  · have e48 : ¬ iI (vN u 33) = (48 : Int32) := by
      rw [show (48 : Int32) = iI 48 from rfl, iI_eq _ _ (by omega)]
      omega
    have qi : inb (iI (vN u 33)) 48 := (iI_inb _ 48 (by omega)).mpr (by omega)
    have ec : (iI (vN u 33)).toNatClampNeg = (vN u 33).toNat := iI_clamp _ (by omega)
    have es : iI (vN u 33) + (1 : Int32) = iI (((vN u 33).toNat : Int) + 1) := by
      rw [show (1 : Int32) = iI 1 from rfl, iI_add, show ((vN u 33).toNat : Int) = vN u 33 by omega]
    have hr2 : rowsH (uA (uA (uA u3 34 (vN u 33).toNat (iI T)) 35 (vN u 33).toNat (iI D)) 36 (vN u 33).toNat (iI c)) c t := fun a ha => by
      rw [uA_n _ _ _ _ (by decide), uA_n _ _ _ _ (by decide), uA_n _ _ _ _ (by decide), uA_n _ _ _ _ (by decide), uA_n _ _ _ _ (by decide), uA_n _ _ _ _ (by decide), uA_n _ _ _ _ (by decide), uA_n _ _ _ _ (by decide), uA_n _ _ _ _ (by decide)]
      exact hr a ha
    obtain ⟨u7, e7, h7⟩ := t_hcopy (S := S) (L := L) (r := (vN u 33).toNat) hc (by show vN u3 33 = _; rw [v33]; omega) (by omega) hr2 n (iI T) n 0 _ (by omega) (by omega) ⟨rfl, fun _ _ _ _ => rfl, fun _ _ _ => rfl, fun a ha => by omega⟩
    have e7' : f_X12_report_L327 S n L (iI T) (iI c) n (uA (uA (uA u3 34 (vN u 33).toNat (iI T)) 35 (vN u 33).toNat (iI D)) 36 (vN u 33).toNat (iI c)) (0 : Int32) = some u7 := e7
    have w7 : u7.1 33 = iI (vN u 33) := by rw [h7.1]; exact w33
    have hru := h7.rpu
    have v8 : vN (uI u7 33 (iI (((vN u 33).toNat : Int) + 1))) 33 = (((vN u 33).toNat + 1 : Nat) : Int) := by
      show ((uI u7 33 (iI (((vN u 33).toNat : Int) + 1))).1 33).toInt = _
      rw [uI_at, toInt_iI _ (by omega) (by omega)]
      omega
    have e8 := t_hcount (S := S) (L := L) v8 (by omega) T (by omega) n n 0 0 (by omega) (by omega)
    rw [Int.zero_add, Nat.sub_zero] at e8
    refine ⟨_, head _ ?_, hru⟩
    rw [z1', Option.bind_some, if_pos q, if_neg (show ¬ iI 1 = (0 : Int32) by decide), z2 q, Option.bind_some, if_pos p, if_neg (show ¬ iI 1 = (0 : Int32) by decide), z3, Option.bind_some, if_neg o, if_pos (show iI (-1) < (0 : Int32) by decide)]
    simp only [uA_1, w33, if_neg e48, if_pos qi, ec]
    rw [e7', Option.bind_some, w7, es]
    exact e8
