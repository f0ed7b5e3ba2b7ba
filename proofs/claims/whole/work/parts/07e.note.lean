/-! NOTE, both sides -/
theorem TxS.get {S : Nat → Nat} {L M : Mem} {rho : Nat → Nat} {id w : Nat} {t : List Int} (hS : LitOK S L) (hcon : ∀ y e, L y = some e → M y = some e) (h : TxS S M rho id w t) : ∃ (rho2 : Nat → Nat) (id2 : Nat), TxtR M rho2 id2 w t := by
  rcases h with h | ⟨rfl, rfl⟩
  · exact ⟨rho, id, h⟩
  · obtain ⟨bb, r, ff, t1, t2, t3, t4⟩ := hS 1 (by decide)
    exact ⟨fun _ => 0, 0, bb, r, ff, ⟨hcon _ _ t1.1, t1.2⟩, ⟨hcon _ _ t2.1, t2.2⟩, t3, t4⟩
section NOT
variable {B : Nat} {S : Nat → Nat} {L : Mem} {x0 : Nat} {ad rho : Nat → Nat} {xl : Nat → List Nat} {M : Mem} {u : MS} {sz : Nat}
theorem q_note (hL : LOK B L) (hS : LitOK S L) (h : RepK B S L x0 ad rho xl M u sz) (hI : Inv u xl) (t d k : Int) (ht : -2147483648 ≤ t ∧ t < 2147483648) (hd : -2147483648 ≤ d ∧ d < 2147483648) (hk : -2147483648 ≤ k ∧ k < 2147483648) : Ans B S L x0 sz (vN u 19).toNat (vN u 33).toNat (f_X11_note B 4000 M (some x0) (iI t) (iI d) (iI k)) (f_X12_note S 4000 L u (iI t) (iI d) (iI k)) := by
  have h5 := hI.n5
  have h33 := hI.n33
  unfold f_X11_note f_X12_note
  rw [isO_at h.book, if_pos rfl, z_thingAt h t ht, z_isDay M d hd, t_isThing u t ht h5, t_isDay u d hd]
  by_cases c0 : 0 ≤ t ∧ t ≤ vN u 5 - 1
  · have n0 : ¬ ¬ (0 ≤ t ∧ t ≤ vN u 5 - 1) := fun q => q c0
    simp only [if_pos c0, if_neg n0, Option.bind_some, reduceCtorEq, if_false, b0z, if_true, z_refuseAsked1 h, noKb]
    by_cases c1 : 0 ≤ d ∧ d ≤ 999
    · have n1 : ¬ ¬ (0 ≤ d ∧ d ≤ 999) := fun q => q c1
      simp only [if_pos c1, if_neg n1]
      have hti : t.toNat < (vN u 5).toNat := by omega
      have et : ((t.toNat : Nat) : Int) = t := by omega
      have hF := hI.rps _ hti
      obtain ⟨w, g1, -⟩ := (h.thi hti).1
      have hs := inS_rng u t d (by omega)
      have e0 : ((0 : Int32) ≤ iI (inS u t d)) ↔ 0 ≤ inS u t d := iI_le 0 _ (by omega)
      rw [t_inForce 4000 u t d ht hd h33 (by omega), Option.bind_some, z_latestReport h hti hF 4000 (by omega) d hd, Option.bind_some, isO_at g1.1]
      simp only [e0, if_true]
      have hl := inS_lat hF d
      rw [et] at hl
      rcases hl with ⟨e, q⟩ | ⟨kk, j, k1, e, k2, q, -⟩
      · rw [e, z_repNone h hti hF, q, if_neg (show ¬ (0 : Int) ≤ -1 by omega)]
        simp only [Option.bind_some, if_true, z_refuse1 h, noKb]
        exact ans_no hL h hI 1
      · have hj := (hF.mem j).mp (List.mem_of_getElem? k2)
        obtain ⟨wt, s, z, f, g, g2, g3', -⟩ := h.rpt hj.1
        obtain ⟨rho3, id3, g3⟩ := g3'.get hS h.1.1
        rw [e, z_repSome h hti hF k2, q, if_pos (show (0 : Int) ≤ (j : Int) by omega)]
        simp only [Option.bind_some, reduceCtorEq, if_false]
        rw [gR_at g2.1]
        simp only [List.getElem?_cons_zero, List.getElem?_cons_succ, Option.bind_some, bindS]
        have hsc : scr u (uI u 42 (0 : Int32)) = uI u 42 (0 : Int32) := scr_of (fun k h1 h2 => by
          show upd u.1 42 _ k = _
          unfold upd
          rw [if_neg (by omega)]) (fun k hk => rfl)
        have hI0 : Inv (uI u 42 (0 : Int32)) xl := by
          rw [← hsc]
          exact hI.scr
        have hj0 : j < (vN (uI u 42 (0 : Int32)) 33).toNat := hj.1
        have hlen := (hI0.harf j hj0).1.length_eq
        rw [List.length_range] at hlen
        have hrk := hI0.rptk j hj0
        obtain ⟨u2, x1, x2⟩ := t_note_out hS 4000 (by omega) (r := j) (xs := xl (10000 + j)) (u0 := uI u 42 (0 : Int32)) (by omega) hrk.1 (by have := hrk.2.2.2; omega) (hI0.harf j hj0).2 (hI0.har hj0) (fun q s hs => szL_siz hI0 j hj0 q s hs) 4000 0 0 (uI u 42 (0 : Int32)) (by omega) (by omega) (by omega) ⟨by omega, fun i jj hi => by omega, fun i jj _ hij => by
          have := hI0.har hj0 jj (List.mem_of_getElem? hij)
          unfold keyS
          omega⟩ (wr0 u)
        have e3 : f_X12_writeReport S 4000 L u (iI j) = some u2 := x1
        rw [e3, Option.bind_some]
        exact ans_tell hL h hI x2 g3 k hk
    · simp only [if_neg c1, if_pos c1, if_true, not_false_eq_true]
      exact ans_no hL h hI 3
  · simp only [if_neg c0, if_pos c0, Option.bind_some, if_true, z_refuseAsked0 h, noKb, b0z, not_false_eq_true]
    exact ans_no hL h hI 1
end NOT
