/-! THING: the text is read, both sides -/
def bitsF (b : Int32) : List Int → Int32
  | [] => b
  | v :: l => bitsF (b ||| ((1 : Int32) <<< (iI v &&& 31))) l
def twF (b : Int32) : List Int → Bool
  | [] => false
  | v :: l => decide (((b >>> (iI v &&& 31)) &&& (1 : Int32)) = (1 : Int32)) || twF (b ||| ((1 : Int32) <<< (iI v &&& 31))) l
section THJ
variable {B : Nat} {S : Nat → Nat} {L : Mem} {x0 : Nat} {ad rho : Nat → Nat} {xl : Nat → List Nat} {M M1 : Mem} {u0 u : MS} {sz N j : Nat} {t : List Int}
theorem Jn.start (hSL : LitOK S L) (hL : LOK B L) (h : RepK B S L x0 ad rho xl M u sz) (hI : Inv u xl) (n : Nat) (hn : 2100 ≤ n) : ∃ u1 M1, f_X12_begins S n L u = some u1 ∧ Opn B S n ad x0 M M1 ∧ u1.2 = u.2 ∧ Jn B ad rho (kpM B ad M) u (vN u 1).toNat [] 0 u1 M1 := by
  obtain ⟨u1, q1, q2, q3⟩ := TS.begins (u0 := u) hSL n hn (h.tape hI)
  obtain ⟨M1, r1, r2⟩ := Rd.opn hSL hL h hI n (by omega)
  exact ⟨u1, M1, q1, r1, q3, q2, r2⟩
theorem Jf.bars (h : Jf B ad rho M u0 N u M1) (n : Nat) (y1 y2 y3 : Int32) (k : Nat) (hk : 1 ≤ k) (b f : Int32) : f_X12_thing_L27 S n L y1 y2 y3 k u b f = some (b, f, u) := by
  obtain ⟨k', rfl⟩ : ∃ k', k = k' + 1 := ⟨k - 1, by omega⟩
  unfold f_X12_thing_L27
  rw [h.gos n]
  simp only [Option.bind_some]
  rw [if_pos (show iI 0 = (0 : Int32) from rfl)]
theorem j_bars (hS : LitOK S L) (n : Nat) (hn : 2100 ≤ n) (hT : TapeOK u0 N) (y1 y2 y3 : Int32) : ∀ (m k k2 s j : Nat) (t : List Int) (u : MS) (M1 : Mem) (b : Int32) (f : Bool), 121 - j < m → m ≤ k → m ≤ k2 → s + 1 ≤ j → Jn B ad rho M u0 N t j u M1 → ∃ r M2 b2 f2 u2, f_X7_takesBars_L4 B n (some (ad 3)) k M1 1 (iI s) = some (r, M2) ∧ f_X12_thing_L27 S n L y1 y2 y3 k2 u b (iI (if f = true then 1 else 0)) = some (b2, f2, u2) ∧ ((∃ (l : List Int) (j2 : Nat), r = 1 ∧ (∀ x, x ∈ l → 0 ≤ x ∧ x ≤ 4) ∧ b2 = bitsF b l ∧ f2 = iI (if (f || twF b l) = true then 1 else 0) ∧ Jn B ad rho M u0 N (t ++ l) j2 u2 M2) ∨ (r = 0 ∧ Jf B ad rho M u0 N u2 M2)) := by
  intro m
  induction m with
  | zero => intro k k2 s j t u M1 b f hm; omega
  | succ m ih =>
    intro k k2 s j t u M1 b f hm hk hk2 hs h
    obtain ⟨k, rfl⟩ : ∃ k', k = k' + 1 := ⟨k - 1, by omega⟩
    obtain ⟨k2, rfl⟩ : ∃ k', k2 = k' + 1 := ⟨k2 - 1, by omega⟩
    have hj := h.jle
    have hs1 : ¬ (120 : Int32) ≤ iI s := by
      rw [show (120 : Int32) = iI 120 from rfl, iI_le _ _ (by omega)]
      omega
    rcases h.gos hS n hn hT 2 9 100 (by omega) with ⟨u2, M2, q1, q2, q3, q4, h2⟩ | ⟨q1, q3⟩
    · have hj2 := h2.jle
      have q1' : f_X12_goes S n L u (2 : Int32) (9 : Int32) = some (iI 1, u2) := q1
      have q3' : f_X7_skips B M1 (some (ad 3)) (100 : Int32) = some (1, M2) := q3
      obtain ⟨v, u3, M3, w1, w2, w3⟩ := h2.wrd hS n hn hT 102 5 0 (by omega)
      have w1' : f_X12_word S n L u2 (0 : Int32) (5 : Int32) = some (v, u3) := w1
      rcases w3 with ⟨w3, w4, rfl, w6, h3⟩ | ⟨w3, rfl, hf⟩
      · have w3' : f_X7_takesWord B M2 (some (ad 3)) (102 : Int32) (5 : Int32) = some (1, M3) := w3
        obtain ⟨r, M4, b2, f2, u4, z1, z2, z3⟩ := ih k k2 (s + 1) (j + 1 + 1) _ u3 M3 (b ||| ((1 : Int32) <<< (iI (pcs (vR u0 0) N (j + 1)).2.2.1 &&& 31))) (f || decide (((b >>> (iI (pcs (vR u0 0) N (j + 1)).2.2.1 &&& 31)) &&& (1 : Int32)) = (1 : Int32))) (by omega) (by omega) (by omega) (by omega) h3
        refine ⟨r, M4, b2, f2, u4, ?_, ?_, ?_⟩
        · unfold f_X7_takesBars_L4
          rw [if_neg hs1, if_neg (show ¬ (1 : Int32) = 0 by decide), if_pos h.is, q3']
          simp only [Option.bind_some]
          rw [if_neg (show ¬ (1 : Int32) = 0 by decide), if_pos h2.is, w3']
          simp only [Option.bind_some]
          rw [show iI (s : Int) + (1 : Int32) = iI ((s + 1 : Nat) : Int) by rw [show (1 : Int32) = iI 1 from rfl, iI_add]; congr 1]
          exact z1
        · unfold f_X12_thing_L27
          rw [q1']
          simp only [Option.bind_some]
          rw [if_neg (show ¬ iI 1 = (0 : Int32) by decide), w1']
          simp only [Option.bind_some]
          cases f
          · rw [if_pos (show iI (if false = true then 1 else 0) = (0 : Int32) from rfl)]
            by_cases c : ((b >>> (iI (pcs (vR u0 0) N (j + 1)).2.2.1 &&& 31)) &&& (1 : Int32)) = (1 : Int32)
            · rw [if_pos c]
              rw [decide_eq_true c] at z2
              exact z2
            · rw [if_neg c]
              rw [decide_eq_false c] at z2
              exact z2
          · rw [if_neg (show ¬ iI (if true = true then 1 else 0) = (0 : Int32) by decide)]
            exact z2
        · rcases z3 with ⟨l, j2, l1, l2, l3, l4, l5⟩ | z3
          · refine Or.inl ⟨(pcs (vR u0 0) N (j + 1)).2.2.1 :: l, j2, l1, fun x hx => ?_, l3, ?_, ?_⟩
            · rcases List.mem_cons.mp hx with e | e
              · rw [e]
                omega
              · exact l2 x e
            · rw [l4, twF, Bool.or_assoc]
            · rw [Int.sub_zero, List.append_assoc] at l5
              exact l5
          · exact Or.inr z3
      · have w3' : f_X7_takesWord B M2 (some (ad 3)) (102 : Int32) (5 : Int32) = some (0, M3) := w3
        obtain ⟨k, rfl⟩ : ∃ k', k = k' + 1 := ⟨k - 1, by omega⟩
        have hb := fun (bb ff : Int32) => hf.bars (S := S) (L := L) n y1 y2 y3 k2 (by omega) bb ff
        have e1 : f_X7_takesBars_L4 B n (some (ad 3)) (k + 1 + 1) M1 1 (iI s) = some (0, M3) := by
          unfold f_X7_takesBars_L4
          rw [if_neg hs1, if_neg (show ¬ (1 : Int32) = 0 by decide), if_pos h.is, q3']
          simp only [Option.bind_some]
          rw [if_neg (show ¬ (1 : Int32) = 0 by decide), if_pos h2.is, w3']
          simp only [Option.bind_some]
          unfold f_X7_takesBars_L4
          rw [if_pos (show (0 : Int32) = 0 ∨ (0 : Int32) = 1 from Or.inl rfl), if_pos (show (0 : Int32) = 0 from rfl)]
          split <;> rfl
        have e2 : ∃ b2 f2, f_X12_thing_L27 S n L y1 y2 y3 (k2 + 1) u b (iI (if f = true then 1 else 0)) = some (b2, f2, u3) := by
          unfold f_X12_thing_L27
          rw [q1']
          simp only [Option.bind_some]
          rw [if_neg (show ¬ iI 1 = (0 : Int32) by decide), w1']
          simp only [Option.bind_some, hb]
          (repeat' split) <;> exact ⟨_, _, rfl⟩
        obtain ⟨b2, f2, e2⟩ := e2
        exact ⟨0, M3, b2, f2, u3, e1, e2, Or.inr ⟨rfl, hf⟩⟩
    · have q1' : f_X12_goes S n L u (2 : Int32) (9 : Int32) = some (iI 0, u) := q1
      have q3' : f_X7_skips B M1 (some (ad 3)) (100 : Int32) = some (0, M1) := q3
      refine ⟨1, M1, b, iI (if f = true then 1 else 0), u, ?_, ?_, Or.inl ⟨[], j, rfl, fun x hx => (by cases hx), rfl, ?_, ?_⟩⟩
      · unfold f_X7_takesBars_L4
        rw [if_neg hs1, if_neg (show ¬ (1 : Int32) = 0 by decide), if_pos h.is, q3']
        simp only [Option.bind_some, if_true, or_true]
      · unfold f_X12_thing_L27
        rw [q1']
        simp only [Option.bind_some]
        rw [if_pos (show iI 0 = (0 : Int32) from rfl)]
      · simp [twF]
      · rw [List.append_nil]
        exact h
theorem j_thing (hSL : LitOK S L) (hL : LOK B L) (h : RepK B S L x0 ad rho xl M u sz) (hI : Inv u xl) (n : Nat) (hn : 2100 ≤ n) : ∃ u1 k u2 v u3 w u4 b f u5 e u6 r M6, f_X12_begins S n L u = some u1 ∧ f_X12_word S n L u1 (0 : Int32) (5 : Int32) = some (k, u2) ∧ f_X12_number S n L u2 = some (v, u3) ∧ f_X12_number S n L u3 = some (w, u4) ∧ f_X12_thing_L27 S n L k v w n u4 (0 : Int32) (0 : Int32) = some (b, f, u5) ∧ f_X12_ends u5 = some (e, u6) ∧ (∃ Mk, Opn B S n ad x0 M Mk ∧ f_X7_readsThing B n Mk (some (ad 3)) = some (r, M6)) ∧ ((∃ (K V W : Int) (l : List Int) (j : Nat), r = 1 ∧ e = iI 1 ∧ (k = iI K ∧ v = iI V ∧ w = iI W) ∧ (0 ≤ K ∧ K ≤ 4) ∧ (0 ≤ V ∧ V ≤ 9999) ∧ (0 ≤ W ∧ W ≤ 9999) ∧ (∀ x, x ∈ l → 0 ≤ x ∧ x ≤ 4) ∧ b = bitsF 0 l ∧ f = iI (if twF 0 l = true then 1 else 0) ∧ EndU u u6 (-9999) ∧ Rd B ad rho (kpM B ad M) M6 (vN u 1).toNat (vR u 0) (K :: V :: W :: l) j (-9999)) ∨ ∃ t j w, r = 0 ∧ e = iI 0 ∧ EndU u u6 w ∧ Rd B ad rho (kpM B ad M) M6 (vN u 1).toNat (vR u 0) t j w) := by
  have hT := h.tape hI
  obtain ⟨u1, M1, b1, c1, -, s1⟩ := Jn.start hSL hL h hI n hn
  have hd : ∀ R, (if isO M1 (some (ad 3)) 10 = true then ((f_X7_takesWord B M1 (some (ad 3)) (102 : Int32) (5 : Int32)).bind fun r4 => if r4.1 = 0 then (some ((0 : Int32), r4.2)) else (if isO r4.2 (some (ad 3)) 10 = true then ((f_X7_takesNumber B r4.2 (some (ad 3))).bind fun r7 => if r7.1 = 0 then (some ((0 : Int32), r7.2)) else (if isO r7.2 (some (ad 3)) 10 = true then ((f_X7_takesNumber B r7.2 (some (ad 3))).bind fun r10 => if r10.1 = 0 then (some ((0 : Int32), r10.2)) else (if isO r10.2 (some (ad 3)) 10 = true then ((f_X7_takesBars B n r10.2 (some (ad 3))).bind fun r13 => if r13.1 = 0 then (some ((0 : Int32), r13.2)) else (if isO r13.2 (some (ad 3)) 10 = true then ((f_X7_isAtEnd B r13.2 (some (ad 3))).bind fun r16 => if r16.1 = 0 then (some ((0 : Int32), r16.2)) else (some ((1 : Int32), r16.2))) else none)) else none)) else none)) else none)) else none) = R → f_X7_readsThing B n M1 (some (ad 3)) = R := fun R hR => by
    unfold f_X7_readsThing
    exact hR
  have nz : ¬ (1 : Int32) = 0 := by decide
  obtain ⟨k, u2, M2, b2, -, s2⟩ := s1.wrd hSL n hn hT 102 5 0 (by omega)
  have b2' : f_X12_word S n L u1 (0 : Int32) (5 : Int32) = some (k, u2) := b2
  rw [if_pos s1.is] at hd
  rcases s2 with ⟨c2, d2, rfl, g2, s2⟩ | ⟨c2, rfl, s2⟩
  · have c2' : f_X7_takesWord B M1 (some (ad 3)) (102 : Int32) (5 : Int32) = some (1, M2) := c2
    rw [c2'] at hd
    simp only [Option.bind_some] at hd
    rw [if_neg nz, if_pos s2.is] at hd
    obtain ⟨v, u3, M3, b3, -, s3⟩ := s2.num hSL n hn hT
    rcases s3 with ⟨c3, d3, rfl, g3, s3⟩ | ⟨c3, s3⟩
    · rw [c3] at hd
      simp only [Option.bind_some] at hd
      rw [if_neg nz, if_pos s3.is] at hd
      obtain ⟨w, u4, M4, b4, -, s4⟩ := s3.num hSL n hn hT
      rcases s4 with ⟨c4, d4, rfl, g4, s4⟩ | ⟨c4, s4⟩
      · rw [c4] at hd
        simp only [Option.bind_some] at hd
        rw [if_neg nz, if_pos s4.is] at hd
        have hj4 := s4.jle
        obtain ⟨r, M5, b, f, u5, c5, b5, s5⟩ := j_bars hSL n hn hT (iI (pcs (vR u 0) (vN u 1).toNat 0).2.2.1) (iI (pcs (vR u 0) (vN u 1).toNat (0 + 1)).2.2.1) (iI (pcs (vR u 0) (vN u 1).toNat (0 + 1 + 1)).2.2.1) n n n 0 (0 + 1 + 1 + 1) _ u4 M4 0 false (by omega) (Nat.le_refl _) (Nat.le_refl _) (by omega) s4
        have c5' : f_X7_takesBars B n M4 (some (ad 3)) = some (r, M5) := c5
        have b5' : f_X12_thing_L27 S n L (iI (pcs (vR u 0) (vN u 1).toNat 0).2.2.1) (iI (pcs (vR u 0) (vN u 1).toNat (0 + 1)).2.2.1) (iI (pcs (vR u 0) (vN u 1).toNat (0 + 1 + 1)).2.2.1) n u4 (0 : Int32) (0 : Int32) = some (b, f, u5) := b5
        rw [c5'] at hd
        simp only [Option.bind_some] at hd
        rcases s5 with ⟨l, j2, rfl, l2, rfl, rfl, s5⟩ | ⟨rfl, s5⟩
        · rw [if_neg nz, if_pos s5.is] at hd
          rcases s5.fin hT with ⟨u6, b6, E6, -, c6⟩ | ⟨u6, M6, w, b6, E6, c6, r6⟩
          · rw [c6] at hd
            simp only [Option.bind_some] at hd
            rw [if_neg nz] at hd
            refine ⟨u1, _, u2, _, u3, _, u4, _, _, u5, _, u6, 1, M5, b1, b2', b3, b4, b5', b6, ⟨M1, c1, hd _ rfl⟩, Or.inl ⟨_, _, _, l, j2, rfl, rfl, ⟨rfl, rfl, rfl⟩, by omega, g3, g4, l2, rfl, ?_, E6, ?_⟩⟩
            · rw [Bool.false_or]
            · have := s5.2
              simpa only [Int.sub_zero, List.nil_append, List.cons_append, List.append_assoc] using this
          · rw [c6] at hd
            simp only [Option.bind_some, if_true] at hd
            exact ⟨u1, _, u2, _, u3, _, u4, _, _, u5, _, u6, 0, M6, b1, b2', b3, b4, b5', b6, ⟨M1, c1, hd _ rfl⟩, Or.inr ⟨_, _, w, rfl, rfl, E6, r6⟩⟩
        · simp only [if_true] at hd
          obtain ⟨u6, t6, j6, w6, b6, E6, r6⟩ := s5.fin
          exact ⟨u1, _, u2, _, u3, _, u4, _, _, u5, _, u6, 0, M5, b1, b2', b3, b4, b5', b6, ⟨M1, c1, hd _ rfl⟩, Or.inr ⟨_, _, w6, rfl, rfl, E6, r6⟩⟩
      · rw [c4] at hd
        simp only [Option.bind_some, if_true] at hd
        have b5 := s4.bars (S := S) (L := L) n (iI (pcs (vR u 0) (vN u 1).toNat 0).2.2.1) (iI (pcs (vR u 0) (vN u 1).toNat (0 + 1)).2.2.1) w n (by omega) 0 0
        obtain ⟨u6, t6, j6, w6, b6, E6, r6⟩ := s4.fin
        exact ⟨u1, _, u2, _, u3, _, u4, _, _, u4, _, u6, 0, M4, b1, b2', b3, b4, b5, b6, ⟨M1, c1, hd _ rfl⟩, Or.inr ⟨_, _, w6, rfl, rfl, E6, r6⟩⟩
    · rw [c3] at hd
      simp only [Option.bind_some, if_true] at hd
      obtain ⟨w, u4, b4, s4⟩ := s3.num hSL n hn hT
      have b5 := s4.bars (S := S) (L := L) n (iI (pcs (vR u 0) (vN u 1).toNat 0).2.2.1) v w n (by omega) 0 0
      obtain ⟨u6, t6, j6, w6, b6, E6, r6⟩ := s4.fin
      exact ⟨u1, _, u2, _, u3, _, u4, _, _, u4, _, u6, 0, M3, b1, b2', b3, b4, b5, b6, ⟨M1, c1, hd _ rfl⟩, Or.inr ⟨_, _, w6, rfl, rfl, E6, r6⟩⟩
  · have c2' : f_X7_takesWord B M1 (some (ad 3)) (102 : Int32) (5 : Int32) = some (0, M2) := c2
    rw [c2'] at hd
    simp only [Option.bind_some, if_true] at hd
    obtain ⟨v, u3, b3, s3⟩ := s2.num hSL n hn hT
    obtain ⟨w, u4, b4, s4⟩ := s3.num hSL n hn hT
    have b5 := s4.bars (S := S) (L := L) n (iI 0) v w n (by omega) 0 0
    obtain ⟨u6, t6, j6, w6, b6, E6, r6⟩ := s4.fin
    exact ⟨u1, _, u2, _, u3, _, u4, _, _, u4, _, u6, 0, M2, b1, b2', b3, b4, b5, b6, ⟨M1, c1, hd _ rfl⟩, Or.inr ⟨_, _, w6, rfl, rfl, E6, r6⟩⟩
end THJ
