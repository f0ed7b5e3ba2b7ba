/-! LETTER -/
theorem scr_of {u w : MS} (h1 : ∀ k, k ≠ 2 → k < 40 → w.1 k = u.1 k) (h2 : ∀ k, k < 40 → w.2 k = u.2 k) : scr u w = w := by
  apply Prod.ext
  · funext k
    show (if k = 2 then w.1 k else if k < 40 then u.1 k else w.1 k) = w.1 k
    (repeat' split) <;> first | rfl | exact (h1 k (by assumption) (by assumption)).symm
  · funext k
    show (if k < 40 then u.2 k else w.2 k) = w.2 k
    (repeat' split) <;> first | rfl | exact (h2 k (by assumption)).symm
section LET
variable {B : Nat} {S : Nat → Nat} {L : Mem} {x0 : Nat} {ad rho : Nat → Nat} {xl : Nat → List Nat} {M : Mem} {u : MS} {sz : Nat}
theorem sim_wr (hL : LOK B L) (h : RepK B S L x0 ad rho xl M u sz) (hI : Inv u xl) {u2 : MS} {t : List Int} {x : Int32} (hw : WrU (uI u 42 x) u2 t) (z : Int) : SimB B S L x0 (stM ad u x0 M z) (uI u2 2 (iI z)) sz (vN u 19).toNat (vN u 33).toNat := by
  have e : scr u (uI u2 2 (iI z)) = uI u2 2 (iI z) := scr_of (fun k h1 h2 => by
    show upd u2.1 2 _ k = _
    unfold upd
    rw [if_neg h1, hw.2.2.2.1 k (by omega)]
    show upd u.1 42 _ k = _
    unfold upd
    rw [if_neg (by omega)]) (fun k hk => hw.2.2.2.2 k (by omega))
  rw [← e]
  exact ⟨ad, rho, xl, h.scr hL _ z (by simp [uI, upd]), hI.scr, rfl, rfl⟩
theorem ans_tell (hL : LOK B L) (h : RepK B S L x0 ad rho xl M u sz) (hI : Inv u xl) {u2 : MS} {t : List Int} {x : Int32} (hw : WrU (uI u 42 x) u2 t) {rho2 : Nat → Nat} {id a : Nat} (ht : TxtR M rho2 id a t) (k : Int) (hk : -2147483648 ≤ k ∧ k < 2147483648) : Ans B S L x0 sz (vN u 19).toNat (vN u 33).toNat (f_X11_answerByte B M (some x0) (some a) (iI k)) (f_X12_tell u2 (iI k)) := by
  rw [z_answerByte h ht k hk, t_tell hw k hk]
  exact ans_if (fun _ => ⟨_, _, _, rfl, rfl, sim_wr hL h hI hw 0⟩) (fun _ => ⟨_, _, _, rfl, rfl, sim_wr hL h hI hw 1⟩)
theorem wr0 (u : MS) : WrU (uI u 42 (0 : Int32)) (uI u 42 (0 : Int32)) [] := ⟨by rw [show (0 : Int32) = iI 0 from rfl, vN_uI _ _ _ _ (by omega), if_pos rfl]; rfl, by simp, fun k hk => by simp at hk, fun _ _ => rfl, fun _ _ => rfl⟩
theorem bindS {α β : Type} (o : Option (α × β)) : (o.bind fun r => some (r.1, r.2)) = o := by cases o <;> rfl
theorem q_letter (hL : LOK B L) (hS : LitOK S L) (h : RepK B S L x0 ad rho xl M u sz) (hI : Inv u xl) (w i k : Int) (hw : -2147483648 ≤ w ∧ w < 2147483648) (hi : -2147483648 ≤ i ∧ i < 2147483648) (hk : -2147483648 ≤ k ∧ k < 2147483648) : Ans B S L x0 sz (vN u 19).toNat (vN u 33).toNat (f_X11_letter B M (some x0) (iI w) (iI i) (iI k)) (f_X12_letter S 4000 L u (iI w) (iI i) (iI k)) := by
  have h5 := hI.n5
  have h14 := hI.n14
  have h19 := hI.n19
  have e0 := t_isIn u w 0 2 hw (by omega) (by omega)
  unfold f_X11_letter f_X12_letter
  simp only [bindS]
  rw [isO_at h.book, show f_X12_isIn u (iI w) (0 : Int32) (2 : Int32) = _ from e0, Option.bind_some]
  simp only [b0z, if_true]
  have e1 : (iI w < (0 : Int32)) ↔ (w < 0) := iI_lt w 0 (by omega)
  have e2 : (iI w ≤ (2 : Int32)) ↔ (w ≤ 2) := iI_le w 2 (by omega)
  simp only [e1, e2]
  by_cases c1 : 0 ≤ w ∧ w ≤ 2
  · have n1 : ¬ ¬ (0 ≤ w ∧ w ≤ 2) := fun q => q c1
    rw [if_neg (show ¬ w < 0 by omega), if_pos c1.2, if_neg n1]
    unfold f_X11_writingOf
    rw [isO_at h.book]
    simp only [if_true]
    rcases (by omega : w = 0 ∨ w = 1 ∨ w = 2) with rfl | rfl | rfl
    · rw [if_pos (show iI 0 = (0 : Int32) from rfl), if_pos (show iI 0 = (0 : Int32) from rfl), z_thingAt h i hi, t_isThing u i hi h5]
      simp only [Option.bind_some, b0z]
      by_cases c2 : 0 ≤ i ∧ i ≤ vN u 5 - 1
      · have n2 : ¬ ¬ (0 ≤ i ∧ i ≤ vN u 5 - 1) := fun q => q c2
        obtain ⟨wt, g1, g2⟩ := (h.thi (i := i.toNat) (by omega)).1
        obtain ⟨u2, e2, w2⟩ := t_writeThing hS (wr0 u) 4000 (by omega) i.toNat (by omega) (hI.thi i.toNat (by omega))
        rw [show ((i.toNat : Nat) : Int) = i by omega] at e2
        rw [if_pos c2, if_neg n2, if_pos (show iI 0 = (0 : Int32) from rfl), e2, if_neg (by simp), gR_at g1.1]
        simp only [List.getElem?_cons_zero, List.getElem?_cons_succ, Option.bind_some, reduceCtorEq, if_false]
        exact ans_tell hL h hI w2 g2 k hk
      · rw [if_neg c2, if_pos c2, if_pos rfl]
        simp only [Option.bind_some, if_true, z_refuse1 h]
        exact ans_no hL h hI 1
    · rw [if_neg (show ¬ iI 1 = (0 : Int32) by decide), if_pos (show iI 1 = (1 : Int32) from rfl), if_neg (show ¬ iI 1 = (0 : Int32) by decide), if_pos (show iI 1 = (1 : Int32) from rfl), z_houseAt h i hi, t_isHouse u i hi h14]
      simp only [Option.bind_some, b0z]
      by_cases c2 : 0 ≤ i ∧ i ≤ vN u 14 - 1
      · have n2 : ¬ ¬ (0 ≤ i ∧ i ≤ vN u 14 - 1) := fun q => q c2
        obtain ⟨wt, g1, g2⟩ := h.hou (i := i.toNat) (by omega)
        obtain ⟨u2, e2, w2⟩ := t_writeHouse (wr0 u) 4000 (by omega) i.toNat (by omega) (hI.houk i.toNat (by omega))
        rw [show ((i.toNat : Nat) : Int) = i by omega] at e2
        rw [if_pos c2, if_neg n2, if_neg (show ¬ iI 1 = (0 : Int32) by decide), if_pos (show iI 1 = (1 : Int32) from rfl), e2, if_neg (by simp), gR_at g1.1]
        simp only [List.getElem?_cons_zero, List.getElem?_cons_succ, Option.bind_some, reduceCtorEq, if_false]
        exact ans_tell hL h hI w2 g2 k hk
      · rw [if_neg c2, if_pos c2, if_pos rfl]
        simp only [Option.bind_some, if_true, z_refuse1 h]
        exact ans_no hL h hI 1
    · rw [if_neg (show ¬ iI 2 = (0 : Int32) by decide), if_neg (show ¬ iI 2 = (1 : Int32) by decide), if_neg (show ¬ iI 2 = (0 : Int32) by decide), if_neg (show ¬ iI 2 = (1 : Int32) by decide), z_courierAt h i hi, t_isCourier u i hi h19]
      simp only [Option.bind_some, b0z]
      by_cases c2 : 0 ≤ i ∧ i ≤ vN u 19 - 1
      · have n2 : ¬ ¬ (0 ≤ i ∧ i ≤ vN u 19 - 1) := fun q => q c2
        obtain ⟨wt, g1, g2⟩ := (h.cou (i := i.toNat) (by omega)).1
        obtain ⟨u2, e2, w2⟩ := t_writeCourier hS (wr0 u) 4000 (by omega) i.toNat (by omega) (hI.spn i.toNat (by omega))
        rw [show ((i.toNat : Nat) : Int) = i by omega] at e2
        rw [if_pos c2, if_neg n2, if_neg (show ¬ iI 2 = (0 : Int32) by decide), if_neg (show ¬ iI 2 = (1 : Int32) by decide), e2, if_neg (by simp), gR_at g1.1]
        simp only [List.getElem?_cons_zero, List.getElem?_cons_succ, Option.bind_some, reduceCtorEq, if_false]
        exact ans_tell hL h hI w2 g2 k hk
      · rw [if_neg c2, if_pos c2, if_pos rfl]
        simp only [Option.bind_some, if_true, z_refuse1 h]
        exact ans_no hL h hI 1
  · rw [if_pos c1, z_refuse3 h]
    have : Ans B S L x0 sz (vN u 19).toNat (vN u 33).toNat (noK ad u x0 M 3) (f_X12_no u (3 : Int32)) := ans_no hL h hI 3
    (repeat' split) <;> first | exact this | (exfalso; omega)
end LET
