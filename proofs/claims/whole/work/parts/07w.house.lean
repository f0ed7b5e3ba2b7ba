/-! HOUSE: the text is read -/
def houOK (g : Nat → Int) (N : Nat) : Prop := (pcs g N 0).2.1 = 3 ∧ (pcs g N 1).2.1 = 3 ∧ (pcs g N 2).2.1 = 3 ∧ (pcs g N 3).2.1 = 3 ∧ (pcs g N 4).2.1 = 0
def houW (g : Nat → Int) (N : Nat) : Int := if (pcs g N 0).2.1 ≠ 3 then (pcs g N 0).1 else if (pcs g N 1).2.1 ≠ 3 then (pcs g N 1).1 else if (pcs g N 2).2.1 ≠ 3 then (pcs g N 2).1 else if (pcs g N 3).2.1 ≠ 3 then (pcs g N 3).1 else (pcs g N 4).1
section TSN
variable {S : Nat → Nat} {L : Mem} {u0 u : MS} {N j : Nat}
theorem TS.numT (hS : LitOK S L) (n : Nat) (hn : 2100 ≤ n) (hT : TapeOK u0 N) (h : TS u0 u N j true) (j1 : Nat) (hj : j1 = j + 1) : ∃ a u1, f_X12_number S n L u = some (a, u1) ∧ (((pcs (vR u0 0) N j).2.1 = 3 ∧ a = iI (pcs (vR u0 0) N j).2.2.1 ∧ TS u0 u1 N j1 true) ∨ ((pcs (vR u0 0) N j).2.1 ≠ 3 ∧ TS u0 u1 N j false)) := by
  subst hj
  rcases h.number hS n hn hT with ⟨-, q2, u1, q3, q4, -⟩ | ⟨q1, u1, q3, q4, -⟩
  · exact ⟨_, u1, q3, Or.inl ⟨q2, rfl, q4⟩⟩
  · exact ⟨_, u1, q3, Or.inr ⟨fun e => q1 ⟨rfl, e⟩, q4⟩⟩
theorem TS.numF (hS : LitOK S L) (n : Nat) (hn : 2100 ≤ n) (hT : TapeOK u0 N) (h : TS u0 u N j false) : ∃ a u1, f_X12_number S n L u = some (a, u1) ∧ TS u0 u1 N j false := by
  rcases h.number hS n hn hT with ⟨q1, -⟩ | ⟨-, u1, q3, q4, -⟩
  · cases q1
  · exact ⟨_, u1, q3, q4⟩
theorem TS.endF (h : TS u0 u N j false) : ∃ u1, f_X12_ends u = some (iI 0, u1) ∧ EndU u0 u1 (pcs (vR u0 0) N j).1 := by
  rcases h.ends with ⟨q1, -⟩ | ⟨-, u1, q3, q4, -⟩
  · cases q1
  · exact ⟨u1, q3, q4⟩
theorem TS.endT (h : TS u0 u N j true) : ∃ e u1, f_X12_ends u = some (e, u1) ∧ (((pcs (vR u0 0) N j).2.1 = 0 ∧ e = iI 1 ∧ EndU u0 u1 (-9999)) ∨ ((pcs (vR u0 0) N j).2.1 ≠ 0 ∧ e = iI 0 ∧ EndU u0 u1 (pcs (vR u0 0) N j).1)) := by
  rcases h.ends with ⟨-, q2, u1, q3, q4, -⟩ | ⟨q1, u1, q3, q4, -⟩
  · exact ⟨_, u1, q3, Or.inl ⟨q2, rfl, q4⟩⟩
  · exact ⟨_, u1, q3, Or.inr ⟨fun e => q1 ⟨rfl, e⟩, rfl, q4⟩⟩
theorem t_readsHouse (hS : LitOK S L) (n : Nat) (hn : 2100 ≤ n) (hT : TapeOK u0 N) : ∃ u1 a1 u2 a2 u3 a3 u4 a4 u5 e u6, f_X12_begins S n L u0 = some u1 ∧ f_X12_number S n L u1 = some (a1, u2) ∧ f_X12_number S n L u2 = some (a2, u3) ∧ f_X12_number S n L u3 = some (a3, u4) ∧ f_X12_number S n L u4 = some (a4, u5) ∧ f_X12_ends u5 = some (e, u6) ∧ ((houOK (vR u0 0) N ∧ e = iI 1 ∧ (a1 = iI (pcs (vR u0 0) N 0).2.2.1 ∧ a2 = iI (pcs (vR u0 0) N 1).2.2.1 ∧ a3 = iI (pcs (vR u0 0) N 2).2.2.1 ∧ a4 = iI (pcs (vR u0 0) N 3).2.2.1) ∧ EndU u0 u6 (-9999)) ∨ (¬ houOK (vR u0 0) N ∧ e = iI 0 ∧ EndU u0 u6 (houW (vR u0 0) N))) := by
  obtain ⟨u1, b1, s1, -⟩ := TS.begins (u0 := u0) hS n hn hT
  obtain ⟨a1, u2, b2, s2⟩ := s1.numT hS n hn hT 1 rfl
  rcases s2 with ⟨c1, d1, s2⟩ | ⟨c1, s2⟩
  · obtain ⟨a2, u3, b3, s3⟩ := s2.numT hS n hn hT 2 rfl
    rcases s3 with ⟨c2, d2, s3⟩ | ⟨c2, s3⟩
    · obtain ⟨a3, u4, b4, s4⟩ := s3.numT hS n hn hT 3 rfl
      rcases s4 with ⟨c3, d3, s4⟩ | ⟨c3, s4⟩
      · obtain ⟨a4, u5, b5, s5⟩ := s4.numT hS n hn hT 4 rfl
        rcases s5 with ⟨c4, d4, s5⟩ | ⟨c4, s5⟩
        · obtain ⟨e, u6, b6, s6⟩ := s5.endT
          refine ⟨u1, a1, u2, a2, u3, a3, u4, a4, u5, e, u6, b1, b2, b3, b4, b5, b6, ?_⟩
          rcases s6 with ⟨c5, d5, s6⟩ | ⟨c5, d5, s6⟩
          · exact Or.inl ⟨⟨c1, c2, c3, c4, c5⟩, d5, ⟨d1, d2, d3, d4⟩, s6⟩
          · refine Or.inr ⟨fun q => c5 q.2.2.2.2, d5, ?_⟩
            unfold houW
            rw [if_neg (fun q => q c1), if_neg (fun q => q c2), if_neg (fun q => q c3), if_neg (fun q => q c4)]
            exact s6
        · obtain ⟨u6, b6, s6⟩ := s5.endF
          refine ⟨u1, a1, u2, a2, u3, a3, u4, a4, u5, _, u6, b1, b2, b3, b4, b5, b6, Or.inr ⟨fun q => c4 q.2.2.2.1, rfl, ?_⟩⟩
          unfold houW
          rw [if_neg (fun q => q c1), if_neg (fun q => q c2), if_neg (fun q => q c3), if_pos c4]
          exact s6
      · obtain ⟨a4, u5, b5, s5⟩ := s4.numF hS n hn hT
        obtain ⟨u6, b6, s6⟩ := s5.endF
        refine ⟨u1, a1, u2, a2, u3, a3, u4, a4, u5, _, u6, b1, b2, b3, b4, b5, b6, Or.inr ⟨fun q => c3 q.2.2.1, rfl, ?_⟩⟩
        unfold houW
        rw [if_neg (fun q => q c1), if_neg (fun q => q c2), if_pos c3]
        exact s6
    · obtain ⟨a3, u4, b4, s4⟩ := s3.numF hS n hn hT
      obtain ⟨a4, u5, b5, s5⟩ := s4.numF hS n hn hT
      obtain ⟨u6, b6, s6⟩ := s5.endF
      refine ⟨u1, a1, u2, a2, u3, a3, u4, a4, u5, _, u6, b1, b2, b3, b4, b5, b6, Or.inr ⟨fun q => c2 q.2.1, rfl, ?_⟩⟩
      unfold houW
      rw [if_neg (fun q => q c1), if_pos c2]
      exact s6
  · obtain ⟨a2, u3, b3, s3⟩ := s2.numF hS n hn hT
    obtain ⟨a3, u4, b4, s4⟩ := s3.numF hS n hn hT
    obtain ⟨a4, u5, b5, s5⟩ := s4.numF hS n hn hT
    obtain ⟨u6, b6, s6⟩ := s5.endF
    refine ⟨u1, a1, u2, a2, u3, a3, u4, a4, u5, _, u6, b1, b2, b3, b4, b5, b6, Or.inr ⟨fun q => c1 q.1, rfl, ?_⟩⟩
    unfold houW
    rw [if_pos c1]
    exact s6
end TSN
section RH
theorem Rd.num {B : Nat} {ad rho : Nat → Nat} {M M1 : Mem} {N j : Nat} {g : Nat → Int} {t : List Int} {w : Int} (h : Rd B ad rho M M1 N g t j w) (hN : N ≤ 120) (hby : ∀ k, k < N → 0 ≤ g k ∧ g k ≤ 255) (j1 : Nat) (hj : j1 = j + 1) (t1 : List Int) (ht : t1 = t ++ [(pcs g N j).2.2.1]) : ((pcs g N j).2.1 = 3 ∧ ∃ M2, f_X7_takesNumber B M1 (some (ad 3)) = some (1, M2) ∧ Rd B ad rho M M2 N g t1 j1 w) ∨ ((pcs g N j).2.1 ≠ 3 ∧ ∃ M2, f_X7_takesNumber B M1 (some (ad 3)) = some (0, M2) ∧ Rd B ad rho M M2 N g t j (pcs g N j).1) := by
  subst hj ht
  exact h.number hN hby
variable {B : Nat} {S : Nat → Nat} {L : Mem} {x0 : Nat} {ad rho : Nat → Nat} {xl : Nat → List Nat} {M : Mem} {u : MS} {sz : Nat}
theorem z_readsHouse (hSL : LitOK S L) (hL : LOK B L) (h : RepK B S L x0 ad rho xl M u sz) (hI : Inv u xl) (n : Nat) (hn : 400 ≤ n) : ∃ Mk, Opn B S n ad x0 M Mk ∧ ((houOK (vR u 0) (vN u 1).toNat ∧ ∃ M1, f_X7_readsHouse B Mk (some (ad 3)) = some (1, M1) ∧ Rd B ad rho (kpM B ad M) M1 (vN u 1).toNat (vR u 0) [(pcs (vR u 0) (vN u 1).toNat 0).2.2.1, (pcs (vR u 0) (vN u 1).toNat 1).2.2.1, (pcs (vR u 0) (vN u 1).toNat 2).2.2.1, (pcs (vR u 0) (vN u 1).toNat 3).2.2.1] 4 (-9999)) ∨ (¬ houOK (vR u 0) (vN u 1).toNat ∧ ∃ M1 t j, f_X7_readsHouse B Mk (some (ad 3)) = some (0, M1) ∧ Rd B ad rho (kpM B ad M) M1 (vN u 1).toNat (vR u 0) t j (houW (vR u 0) (vN u 1).toNat))) := by
  obtain ⟨t1, t2, t3⟩ := h.tape hI
  obtain ⟨M1, ho, r1⟩ := Rd.opn hSL hL h hI n hn
  refine ⟨M1, ho, ?_⟩
  unfold f_X7_readsHouse
  rw [if_pos r1.is]
  rcases r1.num t2 t3 1 rfl [(pcs (vR u 0) (vN u 1).toNat 0).2.2.1] rfl with ⟨c1, M2, e2, r2⟩ | ⟨c1, M2, e2, r2⟩
  · rw [e2, Option.bind_some, if_neg (show ¬ (1 : Int32) = 0 by decide), if_pos r2.is]
    rcases r2.num t2 t3 2 rfl [(pcs (vR u 0) (vN u 1).toNat 0).2.2.1, (pcs (vR u 0) (vN u 1).toNat 1).2.2.1] rfl with ⟨c2, M3, e3, r3⟩ | ⟨c2, M3, e3, r3⟩
    · rw [e3, Option.bind_some, if_neg (show ¬ (1 : Int32) = 0 by decide), if_pos r3.is]
      rcases r3.num t2 t3 3 rfl [(pcs (vR u 0) (vN u 1).toNat 0).2.2.1, (pcs (vR u 0) (vN u 1).toNat 1).2.2.1, (pcs (vR u 0) (vN u 1).toNat 2).2.2.1] rfl with ⟨c3, M4, e4, r4⟩ | ⟨c3, M4, e4, r4⟩
      · rw [e4, Option.bind_some, if_neg (show ¬ (1 : Int32) = 0 by decide), if_pos r4.is]
        rcases r4.num t2 t3 4 rfl [(pcs (vR u 0) (vN u 1).toNat 0).2.2.1, (pcs (vR u 0) (vN u 1).toNat 1).2.2.1, (pcs (vR u 0) (vN u 1).toNat 2).2.2.1, (pcs (vR u 0) (vN u 1).toNat 3).2.2.1] rfl with ⟨c4, M5, e5, r5⟩ | ⟨c4, M5, e5, r5⟩
        · rw [e5, Option.bind_some, if_neg (show ¬ (1 : Int32) = 0 by decide), if_pos r5.is]
          rcases r5.atEnd t2 t3 with ⟨c5, e6⟩ | ⟨c5, M6, e6, r6⟩
          · refine Or.inl ⟨⟨c1, c2, c3, c4, c5⟩, M5, ?_, r5⟩
            rw [e6, Option.bind_some, if_neg (show ¬ (1 : Int32) = 0 by decide)]
          · have ew : houW (vR u 0) (vN u 1).toNat = ((pcs (vR u 0) (vN u 1).toNat 4).1 : Nat) := by
              unfold houW
              rw [if_neg (fun q => q c1), if_neg (fun q => q c2), if_neg (fun q => q c3), if_neg (fun q => q c4)]
            rw [← ew] at r6
            exact Or.inr ⟨fun q => c5 q.2.2.2.2, M6, _, _, by rw [e6, Option.bind_some, if_pos rfl], r6⟩
        · have ew : houW (vR u 0) (vN u 1).toNat = ((pcs (vR u 0) (vN u 1).toNat 3).1 : Nat) := by
            unfold houW
            rw [if_neg (fun q => q c1), if_neg (fun q => q c2), if_neg (fun q => q c3), if_pos c4]
          rw [← ew] at r5
          exact Or.inr ⟨fun q => c4 q.2.2.2.1, M5, _, _, by rw [e5, Option.bind_some, if_pos rfl], r5⟩
      · have ew : houW (vR u 0) (vN u 1).toNat = ((pcs (vR u 0) (vN u 1).toNat 2).1 : Nat) := by
          unfold houW
          rw [if_neg (fun q => q c1), if_neg (fun q => q c2), if_pos c3]
        rw [← ew] at r4
        exact Or.inr ⟨fun q => c3 q.2.2.1, M4, _, _, by rw [e4, Option.bind_some, if_pos rfl], r4⟩
    · have ew : houW (vR u 0) (vN u 1).toNat = ((pcs (vR u 0) (vN u 1).toNat 1).1 : Nat) := by
        unfold houW
        rw [if_neg (fun q => q c1), if_pos c2]
      rw [← ew] at r3
      exact Or.inr ⟨fun q => c2 q.2.1, M3, _, _, by rw [e3, Option.bind_some, if_pos rfl], r3⟩
  · have ew : houW (vR u 0) (vN u 1).toNat = ((pcs (vR u 0) (vN u 1).toNat 0).1 : Nat) := by
      unfold houW
      rw [if_pos c1]
    rw [← ew] at r2
    exact Or.inr ⟨fun q => c1 q.1, M2, _, _, by rw [e2, Option.bind_some, if_pos rfl], r2⟩
end RH
