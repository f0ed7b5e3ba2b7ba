/-! LOAN: the text is read, both sides -/
section LOJ
variable {B : Nat} {S : Nat → Nat} {L : Mem} {x0 : Nat} {ad rho : Nat → Nat} {xl : Nat → List Nat} {M M1 : Mem} {u0 u : MS} {sz N j : Nat} {t : List Int}
def rowsL (u : MS) (i : Nat) (t : List Int) : Prop := ∀ q, q < i → u.2 48 q = iI (t.getD (2 + q) 0)
def allV (t : List Int) : Prop := ∀ x, x ∈ t → 0 ≤ x ∧ x ≤ 9999
theorem allV.add {v : Int} (h : allV t) (hv : 0 ≤ v ∧ v ≤ 9999) : allV (t ++ [v]) := fun x hx => by
  rcases List.mem_append.mp hx with q | q
  · exact h x q
  · simp only [List.mem_cons, List.not_mem_nil, or_false] at q
    rw [q]
    exact hv
theorem rowsL.add {u u2 : MS} {i : Nat} {v : Int} (h : rowsL u i t) (ht : t.length = 2 + i) (h8 : u2.2 48 = upd (u.2 48) i (iI v)) : rowsL u2 (i + 1) (t ++ [v]) := fun q hq => by
  rw [h8]
  unfold upd
  by_cases e : q = i
  · subst e
    rw [if_pos rfl, getD_r t [v] (2 + q) 0 (by omega)]
    rfl
  · rw [if_neg e, getD_l _ _ _ (by omega)]
    exact h q (by omega)
def LoEnd (B : Nat) (ad rho : Nat → Nat) (M : Mem) (u0 : MS) (N : Nat) (A Bv : Int) (i2 : Nat) (e : Int32) (u3 : MS) (r : Int32) (M2 : Mem) : Prop := (∃ (t2 : List Int) (j2 : Nat), r = 1 ∧ e = iI 1 ∧ (t2.getD 0 0 = A ∧ t2.getD 1 0 = Bv) ∧ t2.length = 2 + i2 ∧ (1 ≤ i2 ∧ i2 ≤ 118) ∧ allV t2 ∧ rowsL u3 i2 t2 ∧ EndU u0 u3 (-9999) ∧ Rd B ad rho M M2 N (vR u0 0) t2 j2 (-9999)) ∨ ∃ t2 j2 w, r = 0 ∧ e = iI 0 ∧ EndU u0 u3 w ∧ Rd B ad rho M M2 N (vR u0 0) t2 j2 w
theorem j_loa (hS : LitOK S L) (n : Nat) (hn : 2100 ≤ n) (hT : TapeOK u0 N) (y1 y2 y3 : Int32) (A Bv : Int) : ∀ (m k k2 s i j : Nat) (t : List Int) (u : MS) (M1 : Mem), 121 - j < m → m ≤ k → m ≤ k2 → s ≤ i → (t.getD 0 0 = A ∧ t.getD 1 0 = Bv) → t.length = 2 + i → allV t → rowsL u i t → Jn B ad rho M u0 N t j u M1 → ∃ (i2 : Nat) (u2 : MS) (e : Int32) (u3 : MS) (r : Int32) (M2 : Mem), f_X12_loan_L43 S n L y1 y2 y3 k2 u (iI i) = some (iI i2, u2) ∧ f_X12_ends u2 = some (e, u3) ∧ ((f_X7_takesNumber B M1 (some (ad 3))).bind fun r4 => f_X7_readsLoan_L47 B n (some (ad 3)) k r4.2 r4.1 (iI s)) = some (r, M2) ∧ LoEnd B ad rho M u0 N A Bv i2 e u3 r M2 := by
  have nz : ¬ (1 : Int32) = 0 := by decide
  intro m
  induction m with
  | zero => intro k k2 s i j t u M1 hm; omega
  | succ m ih =>
    intro k k2 s i j t u M1 hm hk hk2 hs hAB ht hv hr h
    obtain ⟨k, rfl⟩ : ∃ k', k = k' + 1 := ⟨k - 1, by omega⟩
    obtain ⟨k2, rfl⟩ : ∃ k', k2 = k' + 1 := ⟨k2 - 1, by omega⟩
    have hj := h.jle
    have hs1 : ¬ (120 : Int32) ≤ iI s := by
      rw [show (120 : Int32) = iI 120 from rfl, iI_le _ _ (by omega)]
      omega
    have qi : inb (iI (i : Int)) 120 := (iI_inb _ 120 (by omega)).mpr (by omega)
    have ec : (iI (i : Int)).toNatClampNeg = i := by rw [iI_clamp _ (by omega)]; omega
    obtain ⟨a, u2, M2, b1, d1, hh⟩ := h.num hS n hn hT
    have head : ∀ G, f_X12_goes S n L (uA u2 48 i a) (4 : Int32) (44 : Int32) = G → f_X12_loan_L43 S n L y1 y2 y3 (k2 + 1) u (iI i) = G.bind fun r7 => if r7.1 = 0 then (some (((iI (i : Int) + (1 : Int32)), r7.2))) else (f_X12_loan_L43 S n L y1 y2 y3 k2 r7.2 (iI (i : Int) + (1 : Int32))) := fun G hG => by
      conv => lhs; unfold f_X12_loan_L43
      simp only [b1, if_pos qi, ec, Option.bind_some, hG]
    rcases hh with ⟨c1, -, rfl, g1, h2⟩ | ⟨c1, h2⟩
    · have h2 := h2.arr 48 i (iI (pcs (vR u0 0) N j).2.2.1) (by omega)
      have hj2 := h2.jle
      have hv2 := hv.add g1
      have hr2 : rowsL (uA u2 48 i (iI (pcs (vR u0 0) N j).2.2.1)) (i + 1) (t ++ [(pcs (vR u0 0) N j).2.2.1]) := hr.add ht (by rw [uA_s, d1])
      have hl2 : (t ++ [(pcs (vR u0 0) N j).2.2.1]).length = 2 + (i + 1) := by rw [List.length_append]; simp; omega
      have hAB2 : (t ++ [(pcs (vR u0 0) N j).2.2.1]).getD 0 0 = A ∧ (t ++ [(pcs (vR u0 0) N j).2.2.1]).getD 1 0 = Bv := by
        rw [getD_l _ _ _ (by omega), getD_l _ _ _ (by omega)]
        exact hAB
      rcases h2.gos hS n hn hT 4 44 44 (by omega) with ⟨u5, M3, q1, q2, q3, -, h3⟩ | ⟨q1, q3⟩
      · have q3' : f_X7_skips B M2 (some (ad 3)) (44 : Int32) = some (1, M3) := q3
        have hj3 := h3.jle
        obtain ⟨i2, u6, e, u7, r2, M4, z1, z2, z3, z4⟩ := ih k k2 (s + 1) (i + 1) (j + 1 + 1) _ u5 M3 (by omega) (by omega) (by omega) (by omega) hAB2 hl2 hv2 (fun q hq => by rw [q2]; exact hr2 q hq) h3
        refine ⟨i2, u6, e, u7, r2, M4, ?_, z2, ?_, z4⟩
        · rw [head _ q1]
          simp only [Option.bind_some]
          rw [if_neg (show ¬ iI 1 = (0 : Int32) by decide), iI_s]
          exact z1
        · rw [c1]
          simp only [Option.bind_some]
          unfold f_X7_readsLoan_L47
          rw [if_neg hs1, if_neg nz, if_pos h2.is, q3']
          simp only [Option.bind_some]
          rw [if_neg nz, if_pos h3.is, iI_s]
          exact z3
      · have q3' : f_X7_skips B M2 (some (ad 3)) (44 : Int32) = some (0, M2) := q3
        have z1 : f_X12_loan_L43 S n L y1 y2 y3 (k2 + 1) u (iI i) = some (iI ((i + 1 : Nat) : Int), uA u2 48 i (iI (pcs (vR u0 0) N j).2.2.1)) := by
          rw [head _ q1]
          simp only [Option.bind_some]
          rw [if_pos (show iI 0 = (0 : Int32) from rfl), iI_s]
        rcases h2.fin hT with ⟨u5, p1, p2, p3, p4⟩ | ⟨u5, M3, w2, p1, p2, p4, p5⟩
        · refine ⟨i + 1, _, _, u5, 1, M2, z1, p1, ?_, Or.inl ⟨t ++ [(pcs (vR u0 0) N j).2.2.1], j + 1, rfl, rfl, hAB2, hl2, by omega, hv2, fun q hq => by rw [p3]; exact hr2 q hq, p2, h2.2⟩⟩
          rw [c1]
          simp only [Option.bind_some]
          unfold f_X7_readsLoan_L47
          rw [if_neg hs1, if_neg nz, if_pos h2.is, q3']
          simp only [Option.bind_some, if_true]
          rw [if_neg nz, if_pos h2.is, p4]
          simp only [Option.bind_some]
          rw [if_neg nz]
        · refine ⟨i + 1, _, _, u5, 0, M3, z1, p1, ?_, Or.inr ⟨_, _, w2, rfl, rfl, p2, p5⟩⟩
          rw [c1]
          simp only [Option.bind_some]
          unfold f_X7_readsLoan_L47
          rw [if_neg hs1, if_neg nz, if_pos h2.is, q3']
          simp only [Option.bind_some, if_true]
          rw [if_neg nz, if_pos h2.is, p4]
          simp only [Option.bind_some, if_true]
    · have h2 := h2.arr 48 i a (by omega)
      have z1 : f_X12_loan_L43 S n L y1 y2 y3 (k2 + 1) u (iI i) = some (iI ((i + 1 : Nat) : Int), uA u2 48 i a) := by
        rw [head _ (h2.gos n _ _)]
        simp only [Option.bind_some]
        rw [if_pos (show iI 0 = (0 : Int32) from rfl), iI_s]
      obtain ⟨u5, t5, j5, w5, p1, p2, p3⟩ := h2.fin
      refine ⟨i + 1, _, _, u5, 0, M2, z1, p1, ?_, Or.inr ⟨t5, j5, w5, rfl, rfl, p2, p3⟩⟩
      rw [c1]
      simp only [Option.bind_some]
      unfold f_X7_readsLoan_L47
      simp only [if_true]
      split <;> rfl
theorem Jf.loa (h : Jf B ad rho M u0 N u M1) (hS : LitOK S L) (n : Nat) (hn : 2100 ≤ n) (hT : TapeOK u0 N) (y1 y2 y3 : Int32) (k : Nat) (hk : 1 ≤ k) : ∃ (u2 : MS), f_X12_loan_L43 S n L y1 y2 y3 k u (0 : Int32) = some (iI 1, u2) ∧ Jf B ad rho M u0 N u2 M1 := by
  obtain ⟨k, rfl⟩ : ∃ k', k = k' + 1 := ⟨k - 1, by omega⟩
  obtain ⟨a, u2, b1, s1⟩ := h.num hS n hn hT
  have s2 := s1.arr 48 0 a (by omega)
  refine ⟨_, ?_, s2⟩
  unfold f_X12_loan_L43
  rw [b1, Option.bind_some, if_pos (show inb (0 : Int32) 120 by decide)]
  show ((f_X12_goes S n L (uA u2 48 0 a) (4 : Int32) (44 : Int32)).bind _) = _
  rw [s2.gos n]
  rfl
theorem L52_0 (B : Nat) (S : Nat → Nat) (n : Nat) (x : Option Nat) (k : Nat) (hk : 1 ≤ k) (Mz : Mem) (s : Int32) : f_X7_readsLoan_L47 B n x k Mz 0 s = some (0, Mz) := by
  obtain ⟨k, rfl⟩ : ∃ k', k = k' + 1 := ⟨k - 1, by omega⟩
  unfold f_X7_readsLoan_L47
  simp only [if_true]
  split <;> rfl
/-- the reference's and the class's reading of a loan -/
theorem j_loan (hSL : LitOK S L) (hL : LOK B L) (h : RepK B S L x0 ad rho xl M u sz) (hI : Inv u xl) (n : Nat) (hn : 2100 ≤ n) (y1 : Int32) : ∃ (u1 : MS) (a : Int32) (u2 u3 : MS) (b : Int32) (u4 u5 : MS) (i2 : Nat) (u6 : MS) (e : Int32) (u7 : MS) (r : Int32) (M2 : Mem), f_X12_begins S n L u = some u1 ∧ f_X12_number S n L u1 = some (a, u2) ∧ f_X12_must S n L u2 (43 : Int32) = some u3 ∧ f_X12_number S n L u3 = some (b, u4) ∧ f_X12_must S n L u4 (58 : Int32) = some u5 ∧ f_X12_loan_L43 S n L y1 a b n u5 (0 : Int32) = some (iI i2, u6) ∧ f_X12_ends u6 = some (e, u7) ∧ (∃ Mk, Opn B S n ad x0 M Mk ∧ f_X7_readsLoan B n Mk (some (ad 3)) = some (r, M2)) ∧ ((∃ (t2 : List Int) (j2 : Nat), r = 1 ∧ e = iI 1 ∧ (a = iI (t2.getD 0 0) ∧ b = iI (t2.getD 1 0)) ∧ t2.length = 2 + i2 ∧ (1 ≤ i2 ∧ i2 ≤ 118) ∧ allV t2 ∧ rowsL u7 i2 t2 ∧ EndU u u7 (-9999) ∧ Rd B ad rho (kpM B ad M) M2 (vN u 1).toNat (vR u 0) t2 j2 (-9999)) ∨ ∃ t2 j2 w, r = 0 ∧ e = iI 0 ∧ EndU u u7 w ∧ Rd B ad rho (kpM B ad M) M2 (vN u 1).toNat (vR u 0) t2 j2 w) := by
  have nz : ¬ (1 : Int32) = 0 := by decide
  have hT := h.tape hI
  obtain ⟨u1, M1, b1, c1, -, s1⟩ := Jn.start hSL hL h hI n hn
  have hd : ∀ R, (((f_X7_takesNumber B M1 (some (ad 3))).bind fun r4 => ((if r4.1 = 0 then (some ((0 : Int32), r4.2)) else (if isO r4.2 (some (ad 3)) 10 = true then ((f_X7_takesMark B r4.2 (some (ad 3)) (43 : Int32)).bind fun r8 => if r8.1 = 0 then (some ((0 : Int32), r8.2)) else (if isO r8.2 (some (ad 3)) 10 = true then ((f_X7_takesNumber B r8.2 (some (ad 3))).bind fun r11 => if r11.1 = 0 then (some ((0 : Int32), r11.2)) else (if isO r11.2 (some (ad 3)) 10 = true then ((f_X7_takesMark B r11.2 (some (ad 3)) (58 : Int32)).bind fun r14 => if r14.1 = 0 then (some ((0 : Int32), r14.2)) else (if isO r14.2 (some (ad 3)) 10 = true then ((f_X7_takesNumber B r14.2 (some (ad 3))).bind fun r17 => if r17.1 = 0 then (some ((0 : Int32), r17.2)) else (some ((1 : Int32), r17.2))) else none)) else none)) else none)) else none)) : Option (Int32 × Mem)).bind fun o19 => f_X7_readsLoan_L47 B n (some (ad 3)) n o19.2 o19.1 (0 : Int32))) = R → f_X7_readsLoan B n M1 (some (ad 3)) = R := fun R hR => by
    unfold f_X7_readsLoan
    rw [if_pos s1.is]
    exact hR
  have z0 : ∀ Mz, f_X7_readsLoan_L47 B n (some (ad 3)) n Mz 0 (0 : Int32) = some (0, Mz) := fun Mz => L52_0 B S n _ n (by omega) Mz 0
  obtain ⟨a, u2, M2, b2, d2, s2⟩ := s1.num hSL n hn hT
  rcases s2 with ⟨c2, -, rfl, g2, s2⟩ | ⟨c2, s2⟩
  · rw [c2] at hd
    simp only [Option.bind_some] at hd
    rw [if_neg nz, if_pos s2.is] at hd
    obtain ⟨u3, M3, b3, d3, s3⟩ := s2.must hSL n hn hT 43 (by omega)
    have b3' : f_X12_must S n L u2 (43 : Int32) = some u3 := b3
    rcases s3 with ⟨c3, -, s3⟩ | ⟨c3, s3⟩
    · have c3' : f_X7_takesMark B M2 (some (ad 3)) (43 : Int32) = some (1, M3) := c3
      rw [c3'] at hd
      simp only [Option.bind_some] at hd
      rw [if_neg nz, if_pos s3.is] at hd
      obtain ⟨b, u4, M4, b4, d4, s4⟩ := s3.num hSL n hn hT
      rcases s4 with ⟨c4, -, rfl, g4, s4⟩ | ⟨c4, s4⟩
      · rw [c4] at hd
        simp only [Option.bind_some] at hd
        rw [if_neg nz, if_pos s4.is] at hd
        obtain ⟨u5, M5, b5, d5, s5⟩ := s4.must hSL n hn hT 58 (by omega)
        have b5' : f_X12_must S n L u4 (58 : Int32) = some u5 := b5
        rcases s5 with ⟨c5, -, s5⟩ | ⟨c5, s5⟩
        · have c5' : f_X7_takesMark B M4 (some (ad 3)) (58 : Int32) = some (1, M5) := c5
          rw [c5'] at hd
          simp only [Option.bind_some] at hd
          rw [if_neg nz, if_pos s5.is] at hd
          have hj5 := s5.jle
          obtain ⟨i2, u6, e, u7, r, M6, w1, w2, w3, w4⟩ := j_loa hSL n hn hT y1 (iI (pcs (vR u 0) (vN u 1).toNat 0).2.2.1) (iI (pcs (vR u 0) (vN u 1).toNat (0 + 1 + 1)).2.2.1) (pcs (vR u 0) (vN u 1).toNat 0).2.2.1 (pcs (vR u 0) (vN u 1).toNat (0 + 1 + 1)).2.2.1 n n n 0 0 (0 + 1 + 1 + 1 + 1) _ u5 M5 (by omega) (Nat.le_refl _) (Nat.le_refl _) (by omega) ⟨rfl, rfl⟩ rfl (fun x hx => by
            simp only [List.nil_append, List.cons_append, List.mem_cons, List.not_mem_nil, or_false] at hx
            rcases hx with rfl | rfl
            · exact g2
            · exact g4) (fun q hq => by omega) s5
          have w1' : f_X12_loan_L43 S n L y1 (iI (pcs (vR u 0) (vN u 1).toNat 0).2.2.1) (iI (pcs (vR u 0) (vN u 1).toNat (0 + 1 + 1)).2.2.1) n u5 (0 : Int32) = some (iI i2, u6) := w1
          have hd2 : f_X7_readsLoan B n M1 (some (ad 3)) = some (r, M6) := by
            refine hd _ ?_
            rw [← w3]
            obtain ⟨a6, u6', M6', -, -, s6⟩ := s5.num hSL n hn hT
            rcases s6 with ⟨c6, -⟩ | ⟨c6, -⟩
            · rw [c6]
              simp only [Option.bind_some]
              rw [if_neg nz]
              rfl
            · rw [c6]
              simp only [Option.bind_some, if_true]
              rfl
          refine ⟨u1, _, u2, u3, _, u4, u5, i2, u6, e, u7, r, M6, b1, b2, b3', b4, b5', w1', w2, ⟨M1, c1, hd2⟩, ?_⟩
          rcases w4 with ⟨t2, j2, q1, q2, q3, q4⟩ | q
          · exact Or.inl ⟨t2, j2, q1, q2, ⟨by rw [q3.1], by rw [q3.2]⟩, q4⟩
          · exact Or.inr q
        · have c5' : f_X7_takesMark B M4 (some (ad 3)) (58 : Int32) = some (0, M5) := c5
          rw [c5'] at hd
          simp only [Option.bind_some, if_true] at hd
          obtain ⟨u6, b6, s6⟩ := s5.loa hSL n hn hT y1 (iI (pcs (vR u 0) (vN u 1).toNat 0).2.2.1) (iI (pcs (vR u 0) (vN u 1).toNat (0 + 1 + 1)).2.2.1) n (by omega)
          obtain ⟨u7, t7, j7, w7, b7, E7, r7⟩ := s6.fin
          exact ⟨u1, _, u2, u3, _, u4, u5, 1, u6, _, u7, 0, M5, b1, b2, b3', b4, b5', b6, b7, ⟨M1, c1, hd _ (z0 _)⟩, Or.inr ⟨_, _, w7, rfl, rfl, E7, r7⟩⟩
      · rw [c4] at hd
        simp only [Option.bind_some, if_true] at hd
        obtain ⟨u5, b5, s5⟩ := s4.must (S := S) (L := L) n 58
        obtain ⟨u6, b6, s6⟩ := s5.loa hSL n hn hT y1 (iI (pcs (vR u 0) (vN u 1).toNat 0).2.2.1) b n (by omega)
        obtain ⟨u7, t7, j7, w7, b7, E7, r7⟩ := s6.fin
        exact ⟨u1, _, u2, u3, _, u4, u5, 1, u6, _, u7, 0, M4, b1, b2, b3', b4, b5, b6, b7, ⟨M1, c1, hd _ (z0 _)⟩, Or.inr ⟨_, _, w7, rfl, rfl, E7, r7⟩⟩
    · have c3' : f_X7_takesMark B M2 (some (ad 3)) (43 : Int32) = some (0, M3) := c3
      rw [c3'] at hd
      simp only [Option.bind_some, if_true] at hd
      obtain ⟨b, u4, b4, s4⟩ := s3.num hSL n hn hT
      obtain ⟨u5, b5, s5⟩ := s4.must (S := S) (L := L) n 58
      obtain ⟨u6, b6, s6⟩ := s5.loa hSL n hn hT y1 (iI (pcs (vR u 0) (vN u 1).toNat 0).2.2.1) b n (by omega)
      obtain ⟨u7, t7, j7, w7, b7, E7, r7⟩ := s6.fin
      exact ⟨u1, _, u2, u3, b, u4, u5, 1, u6, _, u7, 0, M3, b1, b2, b3', b4, b5, b6, b7, ⟨M1, c1, hd _ (z0 _)⟩, Or.inr ⟨_, _, w7, rfl, rfl, E7, r7⟩⟩
  · rw [c2] at hd
    simp only [Option.bind_some, if_true] at hd
    obtain ⟨u3, b3, s3⟩ := s2.must (S := S) (L := L) n 43
    obtain ⟨b, u4, b4, s4⟩ := s3.num hSL n hn hT
    obtain ⟨u5, b5, s5⟩ := s4.must (S := S) (L := L) n 58
    obtain ⟨u6, b6, s6⟩ := s5.loa hSL n hn hT y1 a b n (by omega)
    obtain ⟨u7, t7, j7, w7, b7, E7, r7⟩ := s6.fin
    exact ⟨u1, a, u2, u3, b, u4, u5, 1, u6, _, u7, 0, M2, b1, b2, b3, b4, b5, b6, b7, ⟨M1, c1, hd _ (z0 _)⟩, Or.inr ⟨_, _, w7, rfl, rfl, E7, r7⟩⟩
end LOJ
