/-! READING, BOTH SIDES AT ONCE: the reference's state u and the class's world M1, the first j pieces read, the values t told -/
theorem numF_stop (g : Nat → Int) (b : Nat) (c i : Nat) (x : Int) (hi : b + 4 ≤ i) : numF g b c i x = x := by
  induction c generalizing i x with
  | zero => rfl
  | succ c ih =>
    unfold numF
    rw [if_neg (by omega), ih (i + 1) x (by omega)]
theorem numF_split (g : Nat → Int) (b : Nat) (c d i : Nat) (x : Int) : numF g b (c + d) i x = numF g b d (i + c) (numF g b c i x) := by
  induction c generalizing i x with
  | zero =>
    rw [Nat.zero_add]
    rfl
  | succ c ih =>
    rw [show c + 1 + d = (c + d) + 1 by omega, numF, numF, ih, show i + 1 + c = i + (c + 1) by omega]
theorem tkB_v (g : Nat → Int) (N b : Nat) (hg : 0 ≤ g b ∧ g b ≤ 255) : -1 ≤ (tkB g N b).2.1 ∧ (tkB g N b).2.1 ≤ 9999 := by
  unfold tkB
  split
  · have := wvL_rng (segL g b (rowF g 97 122 (N - b) b - b))
    show -1 ≤ wvL _ ∧ wvL _ ≤ 9999
    omega
  · split
    · rename_i c
      have h1 := rowF_rng g 48 57 (N - b) b
      have h2 := rowF_all g 48 57 (N - b) b
      generalize hc : rowF g 48 57 (N - b) b - b = c
      show -1 ≤ numF g b c b 0 ∧ numF g b c b 0 ≤ 9999
      have key : ∀ c4 : Nat, c4 ≤ 4 → c4 ≤ c → 0 ≤ numF g b c4 b 0 ∧ numF g b c4 b 0 ≤ 9999 := fun c4 q1 q2 => by
        have := numF_rng g b c4 b 0 0 (by omega) (by omega) (fun k k1 k2 => h2 k k1 (by omega)) (by decide)
        have h10 : (10 : Int) ^ (0 + c4) ≤ 10000 := by
          rw [Nat.zero_add]
          have : c4 = 0 ∨ c4 = 1 ∨ c4 = 2 ∨ c4 = 3 ∨ c4 = 4 := by omega
          rcases this with rfl | rfl | rfl | rfl | rfl <;> decide
        omega
      by_cases q : c ≤ 4
      · have := key c q (Nat.le_refl _)
        omega
      · have := key 4 (Nat.le_refl _) (by omega)
        rw [show c = 4 + (c - 4) by omega, numF_split, numF_stop _ _ _ _ _ (Nat.le_refl _)]
        omega
    · show -1 ≤ g b ∧ g b ≤ 9999
      omega
theorem tok_v (g : Nat → Int) (N i : Nat) (hi : i ≤ N) (hby : ∀ k, k < N → 0 ≤ g k ∧ g k ≤ 255) : -1 ≤ (tok g N i).2.2.1 ∧ (tok g N i).2.2.1 ≤ 9999 := by
  have h1 := skF_rng g (N - i) i
  unfold tok
  split
  · show (-1 : Int) ≤ 0 ∧ (0 : Int) ≤ 9999
    omega
  · exact tkB_v g N _ (hby _ (by omega))
theorem pcs_v (g : Nat → Int) (N j : Nat) (hby : ∀ k, k < N → 0 ≤ g k ∧ g k ≤ 255) : -1 ≤ (pcs g N j).2.2.1 ∧ (pcs g N j).2.2.1 ≤ 9999 := by
  cases j with
  | zero => exact tok_v g N 0 (by omega) hby
  | succ j => exact tok_v g N _ (pcs_rng g N j).2 hby
section JOINT
variable {B : Nat} {S : Nat → Nat} {L : Mem} {ad rho : Nat → Nat} {M M1 : Mem} {u0 u : MS} {N j : Nat} {t : List Int}
def Jn (B : Nat) (ad rho : Nat → Nat) (M : Mem) (u0 : MS) (N : Nat) (t : List Int) (j : Nat) (u : MS) (M1 : Mem) : Prop := TS u0 u N j true ∧ Rd B ad rho M M1 N (vR u0 0) t j (-9999)
def Jf (B : Nat) (ad rho : Nat → Nat) (M : Mem) (u0 : MS) (N : Nat) (u : MS) (M1 : Mem) : Prop := ∃ t j, TS u0 u N j false ∧ Rd B ad rho M M1 N (vR u0 0) t j (pcs (vR u0 0) N j).1
theorem TS.arr {ok : Bool} (h : TS u0 u N j ok) (k i : Nat) (v : Int32) (hk : 48 ≤ k) : TS u0 (uA u k i v) N j ok := by
  obtain ⟨h1, h2, h3, h4, h5, h6, h7, h8⟩ := h
  refine ⟨h1, h2, h3, h4, h5, h6, h7, fun q hq => ?_⟩
  show va_up u.2 k _ q = _
  rw [va_up_ne _ _ (by omega)]
  exact h8 q hq
theorem Jn.arr (h : Jn B ad rho M u0 N t j u M1) (k i : Nat) (v : Int32) (hk : 48 ≤ k) : Jn B ad rho M u0 N t j (uA u k i v) M1 := ⟨h.1.arr k i v hk, h.2⟩
theorem Jf.arr (h : Jf B ad rho M u0 N u M1) (k i : Nat) (v : Int32) (hk : 48 ≤ k) : Jf B ad rho M u0 N (uA u k i v) M1 := by
  obtain ⟨t, j, h1, h2⟩ := h
  exact ⟨t, j, h1.arr k i v hk, h2⟩
theorem Rd.jle {g : Nat → Int} {w : Int} (h : Rd B ad rho M M1 N g t j w) : t.length ≤ j ∧ j ≤ 120 := by
  obtain ⟨p, row, s, c, m, -, -, ⟨-, -, r3, q, fs, fc, fm, r4, r5, -⟩, -⟩ := h
  omega
theorem Jn.jle (h : Jn B ad rho M u0 N t j u M1) : t.length ≤ j ∧ j ≤ 120 := h.2.jle
theorem Jn.is (h : Jn B ad rho M u0 N t j u M1) : isO M1 (some (ad 3)) 10 = true := h.2.is
theorem Jn.num (hS : LitOK S L) (n : Nat) (hn : 2100 ≤ n) (hT : TapeOK u0 N) (h : Jn B ad rho M u0 N t j u M1) : ∃ a u2 M2, f_X12_number S n L u = some (a, u2) ∧ u2.2 = u.2 ∧ ((f_X7_takesNumber B M1 (some (ad 3)) = some (1, M2) ∧ (pcs (vR u0 0) N j).2.1 = 3 ∧ a = iI (pcs (vR u0 0) N j).2.2.1 ∧ (0 ≤ (pcs (vR u0 0) N j).2.2.1 ∧ (pcs (vR u0 0) N j).2.2.1 ≤ 9999) ∧ Jn B ad rho M u0 N (t ++ [(pcs (vR u0 0) N j).2.2.1]) (j + 1) u2 M2) ∨ (f_X7_takesNumber B M1 (some (ad 3)) = some (0, M2) ∧ Jf B ad rho M u0 N u2 M2)) := by
  rcases h.1.number hS n hn hT with ⟨-, q2, u2, q3, q4, q5⟩ | ⟨q1, u2, q3, q4, q5⟩
  · rcases h.2.number hT.2.1 hT.2.2 with ⟨-, M2, r2, r3⟩ | ⟨r1, -⟩
    · exact ⟨_, u2, M2, q3, q5, Or.inl ⟨r2, q2, rfl, pcs_num _ _ _ q2, q4, r3⟩⟩
    · exact absurd q2 r1
  · rcases h.2.number hT.2.1 hT.2.2 with ⟨r1, -⟩ | ⟨-, M2, r2, r3⟩
    · exact absurd ⟨rfl, r1⟩ q1
    · exact ⟨_, u2, M2, q3, q5, Or.inr ⟨r2, t, j, q4, r3⟩⟩
theorem Jf.num (hS : LitOK S L) (n : Nat) (hn : 2100 ≤ n) (hT : TapeOK u0 N) (h : Jf B ad rho M u0 N u M1) : ∃ a u2, f_X12_number S n L u = some (a, u2) ∧ Jf B ad rho M u0 N u2 M1 := by
  obtain ⟨t, j, h1, h2⟩ := h
  obtain ⟨a, u2, q1, q2⟩ := h1.numF hS n hn hT
  exact ⟨a, u2, q1, t, j, q2, h2⟩
theorem Jn.wrd (hS : LitOK S L) (n : Nat) (hn : 2100 ≤ n) (hT : TapeOK u0 N) (h : Jn B ad rho M u0 N t j u M1) (a m b : Int) (ha : a = 102 ∧ m = 5 ∧ b = 0 ∨ a = 107 ∧ m = 4 ∧ b = 5) : ∃ v u2 M2, f_X12_word S n L u (iI b) (iI m) = some (v, u2) ∧ u2.2 = u.2 ∧ ((f_X7_takesWord B M1 (some (ad 3)) (iI a) (iI m) = some (1, M2) ∧ (pcs (vR u0 0) N j).2.1 = 2 ∧ v = iI (pcs (vR u0 0) N j).2.2.1 ∧ (b ≤ (pcs (vR u0 0) N j).2.2.1 ∧ (pcs (vR u0 0) N j).2.2.1 < b + m) ∧ Jn B ad rho M u0 N (t ++ [(pcs (vR u0 0) N j).2.2.1 - b]) (j + 1) u2 M2) ∨ (f_X7_takesWord B M1 (some (ad 3)) (iI a) (iI m) = some (0, M2) ∧ v = iI b ∧ Jf B ad rho M u0 N u2 M2)) := by
  rcases h.1.word hS n hn hT b m (by omega) with ⟨-, q2, q2', u2, q3, q4, q5⟩ | ⟨q1, u2, q3, q4, q5⟩
  · rcases h.2.word hT.2.1 hT.2.2 a m b ha with ⟨-, -, M2, r2, r3⟩ | ⟨r1, -⟩
    · exact ⟨_, u2, M2, q3, q5, Or.inl ⟨r2, q2, rfl, q2', q4, r3⟩⟩
    · exact absurd ⟨q2, q2'.1, q2'.2⟩ r1
  · rcases h.2.word hT.2.1 hT.2.2 a m b ha with ⟨r1, r1', -⟩ | ⟨-, M2, r2, r3⟩
    · exact absurd ⟨rfl, r1, r1'.1, r1'.2⟩ q1
    · exact ⟨_, u2, M2, q3, q5, Or.inr ⟨r2, rfl, t, j, q4, r3⟩⟩
theorem Jf.wrd (hS : LitOK S L) (n : Nat) (hn : 2100 ≤ n) (hT : TapeOK u0 N) (h : Jf B ad rho M u0 N u M1) (a m : Int) (ha : 0 ≤ a ∧ a ≤ 100 ∧ 1 ≤ m ∧ m ≤ 100) : ∃ u2, f_X12_word S n L u (iI a) (iI m) = some (iI a, u2) ∧ Jf B ad rho M u0 N u2 M1 := by
  obtain ⟨t, j, h1, h2⟩ := h
  rcases h1.word hS n hn hT a m ha with ⟨q1, -⟩ | ⟨-, u2, q3, q4, -⟩
  · cases q1
  · exact ⟨u2, q3, t, j, q4, h2⟩
theorem Rd.skips {g : Nat → Int} {w : Int} (h : Rd B ad rho M M1 N g t j w) (hby : ∀ k, k < N → 0 ≤ g k ∧ g k ≤ 255) (a : Int) (ha : 2 ≤ a ∧ a ≤ 255) : (codX g N j = a ∧ ∃ M2, f_X7_skips B M1 (some (ad 3)) (iI a) = some (1, M2) ∧ Rd B ad rho M M2 N g t (j + 1) w) ∨ (codX g N j ≠ a ∧ f_X7_skips B M1 (some (ad 3)) (iI a) = some (0, M1)) := by
  obtain ⟨p, row, s, c, m, hD, ho, r, fr⟩ := h
  obtain ⟨M2, f2, q⟩ := r.skips hD.1 hby a ha
  have fr2 : ∀ y, rho y ≠ 3 → M2 y = M y := fun y hy => by
    rw [f2 y (fun e => hy (by rw [e]; exact ho.1)) (fun e => hy (by rw [e]; exact ho.2.2.1)), fr y hy]
  rcases q with ⟨q1, q2, q3⟩ | ⟨q1, q2, q3⟩
  · exact Or.inl ⟨q1, M2, q2, p, row, s, c, m, hD, ho, q3, fr2⟩
  · exact Or.inr ⟨q1, by rw [q2, q3]⟩
theorem Jn.gos (hS : LitOK S L) (n : Nat) (hn : 2100 ≤ n) (hT : TapeOK u0 N) (h : Jn B ad rho M u0 N t j u M1) (b m a : Int) (ha : b = 4 ∧ m = 44 ∧ a = 44 ∨ b = 2 ∧ m = 9 ∧ a = 100 ∨ b = 2 ∧ m = 10 ∧ a = 101) : (∃ u2 M2, f_X12_goes S n L u (iI b) (iI m) = some (iI 1, u2) ∧ u2.2 = u.2 ∧ f_X7_skips B M1 (some (ad 3)) (iI a) = some (1, M2) ∧ ((pcs (vR u0 0) N j).2.1 = b ∧ (pcs (vR u0 0) N j).2.2.1 = m) ∧ Jn B ad rho M u0 N t (j + 1) u2 M2) ∨ (f_X12_goes S n L u (iI b) (iI m) = some (iI 0, u) ∧ f_X7_skips B M1 (some (ad 3)) (iI a) = some (0, M1)) := by
  have hv := pcs_v (vR u0 0) N j hT.2.2
  have hc := codX_fact (vR u0 0) N j
  have e : codX (vR u0 0) N j = a ↔ (pcs (vR u0 0) N j).2.1 = b ∧ (pcs (vR u0 0) N j).2.2.1 = m := by omega
  rcases h.1.goes hS n hn hT b m (by omega) (by omega) with ⟨-, q1, q2, u2, q3, q4, q5⟩ | ⟨q1, q3⟩
  · rcases h.2.skips hT.2.2 a (by omega) with ⟨-, M2, r2, r3⟩ | ⟨r1, -⟩
    · exact Or.inl ⟨u2, M2, q3, q5, r2, ⟨q1, q2⟩, q4, r3⟩
    · exact absurd (e.mpr ⟨q1, q2⟩) r1
  · rcases h.2.skips hT.2.2 a (by omega) with ⟨r1, -⟩ | ⟨-, r2⟩
    · exact absurd ⟨rfl, (e.mp r1).1, (e.mp r1).2⟩ q1
    · exact Or.inr ⟨q3, r2⟩
theorem TS.g0 (h : TS u0 u N j false) (n : Nat) (b m : Int32) : f_X12_goes S n L u b m = some (iI 0, u) := by
  have h47 : u.1 47 = 0 := h.2.2.2.2.1
  unfold f_X12_goes
  rw [if_pos h47]
  rfl
theorem Jf.gos (h : Jf B ad rho M u0 N u M1) (n : Nat) (b m : Int32) : f_X12_goes S n L u b m = some (iI 0, u) := by
  obtain ⟨t, j, h1, h2⟩ := h
  exact h1.g0 n b m
theorem Jn.must (hS : LitOK S L) (n : Nat) (hn : 2100 ≤ n) (hT : TapeOK u0 N) (h : Jn B ad rho M u0 N t j u M1) (m : Int) (hm : m = 43 ∨ m = 45 ∨ m = 58) : ∃ u2 M2, f_X12_must S n L u (iI m) = some u2 ∧ u2.2 = u.2 ∧ ((f_X7_takesMark B M1 (some (ad 3)) (iI m) = some (1, M2) ∧ ((pcs (vR u0 0) N j).2.1 = 4 ∧ (pcs (vR u0 0) N j).2.2.1 = m) ∧ Jn B ad rho M u0 N t (j + 1) u2 M2) ∨ (f_X7_takesMark B M1 (some (ad 3)) (iI m) = some (0, M2) ∧ Jf B ad rho M u0 N u2 M2)) := by
  have hv := pcs_v (vR u0 0) N j hT.2.2
  have h47 : ¬ u.1 47 = 0 := by
    rw [h.1.2.2.2.2.1, if_pos rfl]
    decide
  unfold f_X12_must
  rw [if_neg h47]
  rcases h.1.goes hS n hn hT 4 m (by omega) (by omega) with ⟨-, q1, q2, u2, q3, q4, q5⟩ | ⟨q1, q3⟩
  · rcases h.2.mark hT.2.1 hT.2.2 m (by omega) with ⟨-, -, M2, r2, r3⟩ | ⟨r1, -⟩
    · refine ⟨uI u2 47 1, M2, ?_, q5, Or.inl ⟨r2, ⟨q1, q2⟩, q4.fit true, r3⟩⟩
      rw [show (4 : Int32) = iI 4 from rfl, q3]
      rfl
    · exact absurd ⟨q1, q2⟩ r1
  · rcases h.2.mark hT.2.1 hT.2.2 m (by omega) with ⟨r1, r1', -⟩ | ⟨-, M2, r2, r3⟩
    · exact absurd ⟨rfl, r1, r1'⟩ q1
    · refine ⟨uI u 47 0, M2, ?_, rfl, Or.inr ⟨r2, t, j, h.1.fit false, r3⟩⟩
      rw [show (4 : Int32) = iI 4 from rfl, q3]
      rfl
theorem Jf.must (h : Jf B ad rho M u0 N u M1) (n : Nat) (m : Int32) : ∃ u2, f_X12_must S n L u m = some u2 ∧ Jf B ad rho M u0 N u2 M1 := by
  obtain ⟨t, j, h1, h2⟩ := h
  have h47 : u.1 47 = 0 := h1.2.2.2.2.1
  refine ⟨uI u 47 0, ?_, t, j, h1.fit false, h2⟩
  unfold f_X12_must
  rw [if_pos h47]
theorem Jn.fin (hT : TapeOK u0 N) (h : Jn B ad rho M u0 N t j u M1) : (∃ u2, f_X12_ends u = some (iI 1, u2) ∧ EndU u0 u2 (-9999) ∧ u2.2 = u.2 ∧ f_X7_isAtEnd B M1 (some (ad 3)) = some (1, M1)) ∨ ∃ u2 M2 w, f_X12_ends u = some (iI 0, u2) ∧ EndU u0 u2 w ∧ f_X7_isAtEnd B M1 (some (ad 3)) = some (0, M2) ∧ Rd B ad rho M M2 N (vR u0 0) t j w := by
  rcases h.1.ends with ⟨-, q2, u2, q3, q4, q5⟩ | ⟨q1, u2, q3, q4, q5⟩
  · rcases h.2.atEnd hT.2.1 hT.2.2 with ⟨-, r2⟩ | ⟨r1, -⟩
    · exact Or.inl ⟨u2, q3, q4, q5, r2⟩
    · exact absurd q2 r1
  · rcases h.2.atEnd hT.2.1 hT.2.2 with ⟨r1, -⟩ | ⟨-, M2, r2, r3⟩
    · exact absurd ⟨rfl, r1⟩ q1
    · exact Or.inr ⟨u2, M2, _, q3, q4, r2, r3⟩
theorem Jf.fin (h : Jf B ad rho M u0 N u M1) : ∃ u2 t j w, f_X12_ends u = some (iI 0, u2) ∧ EndU u0 u2 w ∧ Rd B ad rho M M1 N (vR u0 0) t j w := by
  obtain ⟨t, j, h1, h2⟩ := h
  obtain ⟨u2, q1, q2⟩ := h1.endF
  exact ⟨u2, t, j, _, q1, q2, h2⟩
end JOINT
