/-! COURIER: the text is read, both sides -/
theorem uA_s (u : MS) (k i : Nat) (v : Int32) : (uA u k i v).2 k = upd (u.2 k) i v := va_up_self ..
theorem uA_n (u : MS) (k i : Nat) (v : Int32) {q : Nat} (h : q ≠ k) : (uA u k i v).2 q = u.2 q := va_up_ne _ _ h
section COJ
variable {B : Nat} {S : Nat → Nat} {L : Mem} {x0 : Nat} {ad rho : Nat → Nat} {xl : Nat → List Nat} {M M1 : Mem} {u0 u : MS} {sz N j : Nat} {t : List Int}
theorem Jn.span (hS : LitOK S L) (n : Nat) (hn : 2100 ≤ n) (hT : TapeOK u0 N) (h : Jn B ad rho M u0 N t j u M1) (i : Nat) : ∃ a u2 u3 b u4 r M2, f_X12_number S n L u = some (a, u2) ∧ f_X12_must S n L (uA u2 48 i a) (45 : Int32) = some u3 ∧ f_X12_number S n L u3 = some (b, u4) ∧ f_X7_takesSpan B M1 (some (ad 3)) = some (r, M2) ∧ ((∃ v w : Int, r = 1 ∧ (0 ≤ v ∧ v ≤ 9999) ∧ (0 ≤ w ∧ w ≤ 9999) ∧ (uA u4 49 i b).2 48 = upd (u.2 48) i (iI v) ∧ (uA u4 49 i b).2 49 = upd (u.2 49) i (iI w) ∧ Jn B ad rho M u0 N (t ++ [v, w]) (j + 3) (uA u4 49 i b) M2) ∨ (r = 0 ∧ Jf B ad rho M u0 N (uA u4 49 i b) M2)) := by
  have nz : ¬ (1 : Int32) = 0 := by decide
  obtain ⟨a, u2, M2, b1, d1, s1⟩ := h.num hS n hn hT
  rcases s1 with ⟨c1, -, rfl, g1, s1⟩ | ⟨c1, s1⟩
  · have s1' := s1.arr 48 i (iI (pcs (vR u0 0) N j).2.2.1) (by omega)
    obtain ⟨u3, M3, b2, d2, s2⟩ := s1'.must hS n hn hT 45 (by omega)
    rcases s2 with ⟨c2, -, s2⟩ | ⟨c2, s2⟩
    · have c2' : f_X7_takesMark B M2 (some (ad 3)) (45 : Int32) = some (1, M3) := c2
      obtain ⟨b, u4, M4, b3, d3, s3⟩ := s2.num hS n hn hT
      rcases s3 with ⟨c3, -, rfl, g3, s3⟩ | ⟨c3, s3⟩
      · refine ⟨_, u2, u3, _, u4, 1, M4, b1, b2, b3, ?_, Or.inl ⟨_, _, rfl, g1, g3, ?_, ?_, ?_⟩⟩
        · unfold f_X7_takesSpan
          rw [if_pos h.is, c1]
          simp only [Option.bind_some]
          rw [if_neg nz, if_pos s1.is, c2']
          simp only [Option.bind_some]
          rw [if_neg nz, if_pos s2.is, c3]
          simp only [Option.bind_some]
          rw [if_neg nz]
        · rw [uA_n _ _ _ _ (by decide), d3, d2, uA_s, d1]
        · rw [uA_s, d3, d2, uA_n _ _ _ _ (by decide), d1]
        · have := s3.arr 49 i (iI (pcs (vR u0 0) N (j + 1 + 1)).2.2.1) (by omega)
          rw [List.append_assoc] at this
          exact this
      · refine ⟨_, u2, u3, _, u4, 0, M4, b1, b2, b3, ?_, Or.inr ⟨rfl, s3.arr 49 i b (by omega)⟩⟩
        unfold f_X7_takesSpan
        rw [if_pos h.is, c1]
        simp only [Option.bind_some]
        rw [if_neg nz, if_pos s1.is, c2']
        simp only [Option.bind_some]
        rw [if_neg nz, if_pos s2.is, c3]
        simp only [Option.bind_some, if_true]
    · have c2' : f_X7_takesMark B M2 (some (ad 3)) (45 : Int32) = some (0, M3) := c2
      obtain ⟨b, u4, b3, s3⟩ := s2.num hS n hn hT
      refine ⟨_, u2, u3, b, u4, 0, M3, b1, b2, b3, ?_, Or.inr ⟨rfl, s3.arr 49 i b (by omega)⟩⟩
      unfold f_X7_takesSpan
      rw [if_pos h.is, c1]
      simp only [Option.bind_some]
      rw [if_neg nz, if_pos s1.is, c2']
      simp only [Option.bind_some, if_true]
  · obtain ⟨u3, b2, s2⟩ := (s1.arr 48 i a (by omega)).must (S := S) (L := L) n 45
    obtain ⟨b, u4, b3, s3⟩ := s2.num hS n hn hT
    refine ⟨_, u2, u3, b, u4, 0, M2, b1, b2, b3, ?_, Or.inr ⟨rfl, s3.arr 49 i b (by omega)⟩⟩
    unfold f_X7_takesSpan
    rw [if_pos h.is, c1]
    simp only [Option.bind_some, if_true]
def rowsC (u : MS) (i : Nat) (t : List Int) : Prop := ∀ q, q < i → u.2 48 q = iI (t.getD (2 * q) 0) ∧ u.2 49 q = iI (t.getD (2 * q + 1) 0)
theorem getD_l (t t2 : List Int) (k : Nat) (h : k < t.length) : (t ++ t2).getD k 0 = t.getD k 0 := by
  simp only [List.getD, List.getElem?_append_left h]
theorem getD_r (t t2 : List Int) (k m : Nat) (h : k = t.length + m) : (t ++ t2).getD k 0 = t2.getD m 0 := by
  subst h
  simp only [List.getD, List.getElem?_append_right (Nat.le_add_right _ _), Nat.add_sub_cancel_left]
theorem rowsC.add {u u2 : MS} {i : Nat} {v w : Int} (h : rowsC u i t) (ht : t.length = 2 * i) (h8 : u2.2 48 = upd (u.2 48) i (iI v)) (h9 : u2.2 49 = upd (u.2 49) i (iI w)) : rowsC u2 (i + 1) (t ++ [v, w]) := fun q hq => by
  rw [h8, h9]
  unfold upd
  by_cases e : q = i
  · subst e
    rw [if_pos rfl, if_pos rfl, getD_r t [v, w] (2 * q) 0 (by omega), getD_r t [v, w] (2 * q + 1) 1 (by omega)]
    exact ⟨rfl, rfl⟩
  · rw [if_neg e, if_neg e, getD_l _ _ _ (by omega), getD_l _ _ _ (by omega)]
    exact h q (by omega)
theorem j_cour (hS : LitOK S L) (n : Nat) (hn : 2100 ≤ n) (hT : TapeOK u0 N) : ∀ (m k k2 s i j : Nat) (t : List Int) (u : MS) (M1 : Mem), 121 - j < m → m ≤ k → m ≤ k2 → s ≤ i → i * 4 ≤ j → t.length = 2 * i → (∀ x, x ∈ t → 0 ≤ x ∧ x ≤ 9999) → rowsC u i t → Jn B ad rho M u0 N t j u M1 → ∃ (i2 : Nat) (u2 : MS) (e : Int32) (u3 : MS) (r : Int32) (M2 : Mem), f_X12_courier_L6 S n L k2 u (iI i) = some (iI i2, u2) ∧ f_X12_ends u2 = some (e, u3) ∧ ((f_X7_takesSpan B M1 (some (ad 3))).bind fun r4 => f_X7_readsCourier_L7 B n (some (ad 3)) k r4.2 r4.1 (iI s)) = some (r, M2) ∧ ((∃ (t2 : List Int) (j2 : Nat), r = 1 ∧ e = iI 1 ∧ t2.length = 2 * i2 ∧ (1 ≤ i2 ∧ i2 ≤ 30) ∧ (∀ x, x ∈ t2 → 0 ≤ x ∧ x ≤ 9999) ∧ rowsC u3 i2 t2 ∧ EndU u0 u3 (-9999) ∧ Rd B ad rho M M2 N (vR u0 0) t2 j2 (-9999)) ∨ ∃ t2 j2 w, r = 0 ∧ e = iI 0 ∧ EndU u0 u3 w ∧ Rd B ad rho M M2 N (vR u0 0) t2 j2 w) := by
  have nz : ¬ (1 : Int32) = 0 := by decide
  intro m
  induction m with
  | zero => intro k k2 s i j t u M1 hm; omega
  | succ m ih =>
    intro k k2 s i j t u M1 hm hk hk2 hs hij ht hv hr h
    obtain ⟨k, rfl⟩ : ∃ k', k = k' + 1 := ⟨k - 1, by omega⟩
    obtain ⟨k2, rfl⟩ : ∃ k', k2 = k' + 1 := ⟨k2 - 1, by omega⟩
    have hj := h.jle
    have hs1 : ¬ (120 : Int32) ≤ iI s := by
      rw [show (120 : Int32) = iI 120 from rfl, iI_le _ _ (by omega)]
      omega
    have qi : inb (iI (i : Int)) 120 := (iI_inb _ 120 (by omega)).mpr (by omega)
    have ec : (iI (i : Int)).toNatClampNeg = i := by rw [iI_clamp _ (by omega)]; omega
    have ei : iI (i : Int) + (1 : Int32) = iI ((i + 1 : Nat) : Int) := by
      rw [show (1 : Int32) = iI 1 from rfl, iI_add]
      congr 1
    have es : iI (s : Int) + (1 : Int32) = iI ((s + 1 : Nat) : Int) := by
      rw [show (1 : Int32) = iI 1 from rfl, iI_add]
      congr 1
    obtain ⟨a, u2, u3, b, u4, r, M2, b1, b2, b3, c1, hh⟩ := h.span hS n hn hT i
    have head : ∀ G, f_X12_goes S n L (uA u4 49 i b) (4 : Int32) (44 : Int32) = G → f_X12_courier_L6 S n L (k2 + 1) u (iI i) = G.bind fun r7 => if r7.1 = 0 then (some (((iI (i : Int) + (1 : Int32)), r7.2))) else (f_X12_courier_L6 S n L k2 r7.2 (iI (i : Int) + (1 : Int32))) := fun G hG => by
      conv => lhs; unfold f_X12_courier_L6
      rw [b1]
      simp only [Option.bind_some]
      simp only [if_pos qi, ec, b2, b3, Option.bind_some, hG]
    rcases hh with ⟨v, w, rfl, hv1, hw1, h8, h9, h2⟩ | ⟨rfl, h2⟩
    · have hj2 := h2.jle
      have hr2 := hr.add ht h8 h9
      have hv2 : ∀ x, x ∈ t ++ [v, w] → 0 ≤ x ∧ x ≤ 9999 := fun x hx => by
        rcases List.mem_append.mp hx with q | q
        · exact hv x q
        · simp only [List.mem_cons, List.not_mem_nil, or_false] at q
          rcases q with rfl | rfl
          · exact hv1
          · exact hw1
      rcases h2.gos hS n hn hT 4 44 44 (by omega) with ⟨u5, M3, q1, q2, q3, -, h3⟩ | ⟨q1, q3⟩
      · have q3' : f_X7_skips B M2 (some (ad 3)) (44 : Int32) = some (1, M3) := q3
        have hj3 := h3.jle
        obtain ⟨i2, u6, e, u7, r2, M4, z1, z2, z3, z4⟩ := ih k k2 (s + 1) (i + 1) (j + 3 + 1) _ u5 M3 (by omega) (by omega) (by omega) (by omega) (by omega) (by rw [List.length_append]; simp; omega) hv2 (fun q hq => by rw [q2]; exact hr2 q hq) h3
        refine ⟨i2, u6, e, u7, r2, M4, ?_, z2, ?_, z4⟩
        · rw [head _ q1]
          simp only [Option.bind_some]
          rw [if_neg (show ¬ iI 1 = (0 : Int32) by decide), ei]
          exact z1
        · rw [c1]
          simp only [Option.bind_some]
          unfold f_X7_readsCourier_L7
          rw [if_neg hs1, if_neg nz, if_pos h2.is, q3']
          simp only [Option.bind_some]
          rw [if_neg nz, if_pos h3.is, es]
          exact z3
      · have q3' : f_X7_skips B M2 (some (ad 3)) (44 : Int32) = some (0, M2) := q3
        have z1 : f_X12_courier_L6 S n L (k2 + 1) u (iI i) = some (iI ((i + 1 : Nat) : Int), uA u4 49 i b) := by
          rw [head _ q1]
          simp only [Option.bind_some]
          rw [if_pos (show iI 0 = (0 : Int32) from rfl), ei]
        rcases h2.fin hT with ⟨u5, p1, p2, p3, p4⟩ | ⟨u5, M3, w2, p1, p2, p4, p5⟩
        · refine ⟨i + 1, uA u4 49 i b, _, u5, 1, M2, z1, p1, ?_, Or.inl ⟨t ++ [v, w], j + 3, rfl, rfl, by rw [List.length_append]; simp; omega, by omega, hv2, fun q hq => by rw [p3]; exact hr2 q hq, p2, h2.2⟩⟩
          rw [c1]
          simp only [Option.bind_some]
          unfold f_X7_readsCourier_L7
          rw [if_neg hs1, if_neg nz, if_pos h2.is, q3']
          simp only [Option.bind_some, if_true]
          rw [if_neg nz, if_pos h2.is, p4]
          simp only [Option.bind_some]
          rw [if_neg nz]
        · refine ⟨i + 1, uA u4 49 i b, _, u5, 0, M3, z1, p1, ?_, Or.inr ⟨_, _, w2, rfl, rfl, p2, p5⟩⟩
          rw [c1]
          simp only [Option.bind_some]
          unfold f_X7_readsCourier_L7
          rw [if_neg hs1, if_neg nz, if_pos h2.is, q3']
          simp only [Option.bind_some, if_true]
          rw [if_neg nz, if_pos h2.is, p4]
          simp only [Option.bind_some, if_true]
    · have z1 : f_X12_courier_L6 S n L (k2 + 1) u (iI i) = some (iI ((i + 1 : Nat) : Int), uA u4 49 i b) := by
        rw [head _ (h2.gos n _ _)]
        simp only [Option.bind_some]
        rw [if_pos (show iI 0 = (0 : Int32) from rfl), ei]
      obtain ⟨u5, t5, j5, w5, p1, p2, p3⟩ := h2.fin
      refine ⟨i + 1, uA u4 49 i b, _, u5, 0, M2, z1, p1, ?_, Or.inr ⟨t5, j5, w5, rfl, rfl, p2, p3⟩⟩
      rw [c1]
      simp only [Option.bind_some]
      unfold f_X7_readsCourier_L7
      simp only [if_true]
      split <;> rfl
theorem j_courier (hSL : LitOK S L) (hL : LOK B L) (h : RepK B S L x0 ad rho xl M u sz) (hI : Inv u xl) (n : Nat) (hn : 2100 ≤ n) : ∃ (u1 : MS) (i2 : Nat) (u2 : MS) (e : Int32) (u3 : MS) (r : Int32) (M2 : Mem), f_X12_begins S n L u = some u1 ∧ f_X12_courier_L6 S n L n u1 (0 : Int32) = some (iI i2, u2) ∧ f_X12_ends u2 = some (e, u3) ∧ (∃ Mk, Opn B S n ad x0 M Mk ∧ f_X7_readsCourier B n Mk (some (ad 3)) = some (r, M2)) ∧ ((∃ (t2 : List Int) (j2 : Nat), r = 1 ∧ e = iI 1 ∧ t2.length = 2 * i2 ∧ (1 ≤ i2 ∧ i2 ≤ 30) ∧ (∀ x, x ∈ t2 → 0 ≤ x ∧ x ≤ 9999) ∧ rowsC u3 i2 t2 ∧ EndU u u3 (-9999) ∧ Rd B ad rho (kpM B ad M) M2 (vN u 1).toNat (vR u 0) t2 j2 (-9999)) ∨ ∃ t2 j2 w, r = 0 ∧ e = iI 0 ∧ EndU u u3 w ∧ Rd B ad rho (kpM B ad M) M2 (vN u 1).toNat (vR u 0) t2 j2 w) := by
  have hT := h.tape hI
  obtain ⟨u1, M1, b1, c1, -, s1⟩ := Jn.start hSL hL h hI n hn
  obtain ⟨i2, u2, e, u3, r, M2, z1, z2, z3, z4⟩ := j_cour hSL n hn hT n n n 0 0 0 [] u1 M1 (by omega) (Nat.le_refl _) (Nat.le_refl _) (by omega) (by omega) rfl (fun x hx => by cases hx) (fun q hq => by omega) s1
  refine ⟨u1, i2, u2, e, u3, r, M2, b1, z1, z2, ?_, z4⟩
  refine ⟨M1, c1, ?_⟩
  unfold f_X7_readsCourier
  rw [if_pos s1.is]
  exact z3
end COJ
