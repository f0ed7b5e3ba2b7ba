/-! REPORT: how many harms a tape holds -/
theorem rowF_stop (g : Nat → Int) (lo hi : Int) (c i : Nat) : rowF g lo hi c i < i + c → ¬ (lo ≤ g (rowF g lo hi c i) ∧ g (rowF g lo hi c i) ≤ hi) := by
  induction c generalizing i with
  | zero =>
    intro h
    simp [rowF] at h
  | succ c ih =>
    intro h
    by_cases q : lo ≤ g i ∧ g i ≤ hi
    · have e : rowF g lo hi (c + 1) i = rowF g lo hi c (i + 1) := by
        show (if lo ≤ g i ∧ g i ≤ hi then rowF g lo hi c (i + 1) else i) = _
        rw [if_pos q]
      rw [e] at h ⊢
      exact ih (i + 1) (by omega)
    · have e : rowF g lo hi (c + 1) i = i := by
        show (if lo ≤ g i ∧ g i ≤ hi then rowF g lo hi c (i + 1) else i) = _
        rw [if_neg q]
      rw [e]
      exact q
theorem wvL_len (W : List Int) (h : 5 ≤ wvL W ∧ wvL W ≤ 8) : 4 ≤ W.length := by
  unfold wvL at h
  by_cases c0 : W = kindT 0
  · rw [if_pos c0] at h; omega
  · rw [if_neg c0] at h
    by_cases c1 : W = kindT 1
    · rw [if_pos c1] at h; omega
    · rw [if_neg c1] at h
      by_cases c2 : W = kindT 2
      · rw [if_pos c2] at h; omega
      · rw [if_neg c2] at h
        by_cases c3 : W = kindT 3
        · rw [if_pos c3] at h; omega
        · rw [if_neg c3] at h
          by_cases c4 : W = kindT 4
          · rw [if_pos c4] at h; omega
          · rw [if_neg c4] at h
            by_cases c5 : W = sortT 0
            · rw [c5]; decide
            · rw [if_neg c5] at h
              by_cases c6 : W = sortT 1
              · rw [c6]; decide
              · rw [if_neg c6] at h
                by_cases c7 : W = sortT 2
                · rw [c7]; decide
                · rw [if_neg c7] at h
                  by_cases c8 : W = sortT 3
                  · rw [c8]; decide
                  · rw [if_neg c8] at h
                    exfalso
                    revert h
                    split
                    · omega
                    · split <;> omega
theorem tok_tk (g : Nat → Int) (N i : Nat) (hi : i ≤ N) : ((tok g N i).2.1 ≠ 0 → (tok g N i).1 < N ∧ (tok g N i).2 = tkB g N (tok g N i).1) := by
  intro h
  have h1 := skF_rng g (N - i) i
  unfold tok at *
  by_cases c : skF g (N - i) i = N
  · rw [if_pos c] at h
    exact absurd rfl h
  · rw [if_neg c]
    exact ⟨by show skF g (N - i) i < N; omega, rfl⟩
theorem pcs_tk (g : Nat → Int) (N j : Nat) (h : (pcs g N j).2.1 ≠ 0) : (pcs g N j).1 < N ∧ (pcs g N j).2 = tkB g N (pcs g N j).1 := by
  cases j with
  | zero => exact tok_tk g N 0 (by omega) h
  | succ j => exact tok_tk g N _ (pcs_rng g N j).2 h
theorem pcs_next (g : Nat → Int) (N j : Nat) : (pcs g N j).2.2.2 ≤ (pcs g N (j + 1)).1 := (tok_rng g N _ (pcs_rng g N j).2).2.2.1
theorem pcs_one (g : Nat → Int) (N j : Nat) (h : (pcs g N j).2.1 ≠ 0) : (pcs g N j).1 + 1 ≤ (pcs g N j).2.2.2 := by
  obtain ⟨h1, h2⟩ := pcs_tk g N j h
  have := tkB_rng g N _ h1
  rw [h2]
  omega
theorem pcs_sort (g : Nat → Int) (N j : Nat) (h : (pcs g N j).2.1 = 2) (hv : 5 ≤ (pcs g N j).2.2.1 ∧ (pcs g N j).2.2.1 ≤ 8) : (pcs g N j).1 + 4 ≤ (pcs g N j).2.2.2 := by
  obtain ⟨h1, h2⟩ := pcs_tk g N j (by omega)
  rw [h2] at h hv ⊢
  generalize (pcs g N j).1 = b at *
  unfold tkB at h hv ⊢
  by_cases c : 97 ≤ g b ∧ g b ≤ 122
  · rw [if_pos c] at hv ⊢
    have h3 := wvL_len _ hv
    rw [segL_len] at h3
    show b + 4 ≤ rowF g 97 122 (N - b) b
    omega
  · rw [if_neg c] at h
    exfalso
    by_cases c2 : 48 ≤ g b ∧ g b ≤ 57
    · rw [if_pos c2] at h
      have h : (if rowF g 48 57 (N - b) b - b > 4 then (1 : Int) else 3) = 2 := h
      revert h
      split <;> omega
    · rw [if_neg c2] at h
      have h : (if g b = 43 ∨ g b = 45 ∨ g b = 44 ∨ g b = 58 then (4 : Int) else 1) = 2 := h
      revert h
      split <;> omega
theorem tkB_3 (g : Nat → Int) (N b : Nat) (h : (tkB g N b).1 = 3) : (48 ≤ g b ∧ g b ≤ 57) ∧ (tkB g N b).2.2 = rowF g 48 57 (N - b) b := by
  unfold tkB at *
  by_cases c : 97 ≤ g b ∧ g b ≤ 122
  · rw [if_pos c] at h
    have h : (if wvL (segL g b (rowF g 97 122 (N - b) b - b)) < 0 then (1 : Int) else 2) = 3 := h
    exfalso
    revert h
    split <;> omega
  · rw [if_neg c] at h ⊢
    by_cases c2 : 48 ≤ g b ∧ g b ≤ 57
    · rw [if_pos c2]
      exact ⟨c2, rfl⟩
    · rw [if_neg c2] at h
      have h : (if g b = 43 ∨ g b = 45 ∨ g b = 44 ∨ g b = 58 then (4 : Int) else 1) = 3 := h
      exfalso
      revert h
      split <;> omega
theorem pcs_nums (g : Nat → Int) (N j : Nat) (h1 : (pcs g N j).2.1 = 3) (h2 : (pcs g N (j + 1)).2.1 = 3) : (pcs g N j).2.2.2 + 1 ≤ (pcs g N (j + 1)).1 := by
  have hn := pcs_next g N j
  obtain ⟨a1, a2⟩ := pcs_tk g N j (by omega)
  obtain ⟨b1, b2⟩ := pcs_tk g N (j + 1) (by omega)
  rw [a2] at h1
  rw [b2] at h2
  have k1 := tkB_3 g N _ h1
  have k2 := (tkB_3 g N _ h2).1
  rcases Nat.lt_or_ge (pcs g N j).2.2.2 (pcs g N (j + 1)).1 with q | q
  · omega
  · exfalso
    have e : (pcs g N (j + 1)).1 = (pcs g N j).2.2.2 := by omega
    rw [e] at k2 b1
    have e2 : (pcs g N j).2.2.2 = rowF g 48 57 (N - (pcs g N j).1) (pcs g N j).1 := by
      rw [← k1.2, ← a2]
    rw [e2] at k2 b1
    exact rowF_stop g 48 57 (N - (pcs g N j).1) (pcs g N j).1 (by omega) k2
/-- a harm takes seven bytes and, with what stands ahead of the next, eight -/
theorem pcs_harm (g : Nat → Int) (N j : Nat) (h : (pcs g N j).2.1 = 2) (hv : 5 ≤ (pcs g N j).2.2.1 ∧ (pcs g N j).2.2.1 ≤ 8) (h1 : (pcs g N (j + 1)).2.1 = 3) (h2 : (pcs g N (j + 1 + 1)).2.1 = 3) : (pcs g N j).1 + 7 ≤ N ∧ ((pcs g N (j + 1 + 1 + 1)).2.1 = 4 → (pcs g N j).1 + 8 ≤ (pcs g N (j + 1 + 1 + 1 + 1)).1) := by
  have a1 := pcs_sort g N j h hv
  have a2 := pcs_next g N j
  have a3 := pcs_one g N (j + 1) (by omega)
  have a4 := pcs_nums g N (j + 1) h1 h2
  have a5 := pcs_one g N (j + 1 + 1) (by omega)
  have a6 := pcs_next g N (j + 1 + 1)
  have a7 := pcs_next g N (j + 1 + 1 + 1)
  have a8 := (pcs_rng g N (j + 1 + 1)).2
  refine ⟨by omega, fun h4 => ?_⟩
  have a9 := pcs_one g N (j + 1 + 1 + 1) (by omega)
  omega
/-! REPORT: the text is read, both sides -/
section REJ
variable {B : Nat} {S : Nat → Nat} {L : Mem} {x0 : Nat} {ad rho : Nat → Nat} {xl : Nat → List Nat} {M M1 : Mem} {u0 u : MS} {sz N j : Nat} {t : List Int}
theorem Jn.harm (hS : LitOK S L) (n : Nat) (hn : 2100 ≤ n) (hT : TapeOK u0 N) (h : Jn B ad rho M u0 N t j u M1) (i : Nat) : ∃ a u2 b u3 c u4 r M2, f_X12_word S n L u (5 : Int32) (4 : Int32) = some (a, u2) ∧ f_X12_number S n L (uA u2 48 i (a - (5 : Int32))) = some (b, u3) ∧ f_X12_number S n L (uA u3 49 i b) = some (c, u4) ∧ f_X7_takesHarm B M1 (some (ad 3)) = some (r, M2) ∧ ((∃ q v w : Int, r = 1 ∧ (0 ≤ q ∧ q ≤ 3) ∧ (0 ≤ v ∧ v ≤ 9999) ∧ (0 ≤ w ∧ w ≤ 9999) ∧ (uA u4 50 i c).2 48 = upd (u.2 48) i (iI q) ∧ (uA u4 50 i c).2 49 = upd (u.2 49) i (iI v) ∧ (uA u4 50 i c).2 50 = upd (u.2 50) i (iI w) ∧ ((pcs (vR u0 0) N j).1 + 7 ≤ N ∧ ((pcs (vR u0 0) N (j + 1 + 1 + 1)).2.1 = 4 → (pcs (vR u0 0) N j).1 + 8 ≤ (pcs (vR u0 0) N (j + 1 + 1 + 1 + 1)).1)) ∧ Jn B ad rho M u0 N (t ++ [q, v, w]) (j + 1 + 1 + 1) (uA u4 50 i c) M2) ∨ (r = 0 ∧ Jf B ad rho M u0 N (uA u4 50 i c) M2)) := by
  have nz : ¬ (1 : Int32) = 0 := by decide
  obtain ⟨a, u2, M2, b1, d1, s1⟩ := h.wrd hS n hn hT 107 4 5 (by omega)
  have b1' : f_X12_word S n L u (5 : Int32) (4 : Int32) = some (a, u2) := b1
  rcases s1 with ⟨c1, p1, rfl, g1, s1⟩ | ⟨c1, -, s1⟩
  · have c1' : f_X7_takesWord B M1 (some (ad 3)) (107 : Int32) (4 : Int32) = some (1, M2) := c1
    have ea : iI (pcs (vR u0 0) N j).2.2.1 - (5 : Int32) = iI ((pcs (vR u0 0) N j).2.2.1 - 5) := by
      rw [show (5 : Int32) = iI 5 from rfl, iI_sub]
    have s1' := s1.arr 48 i (iI (pcs (vR u0 0) N j).2.2.1 - (5 : Int32)) (by omega)
    obtain ⟨b, u3, M3, b2, d2, s2⟩ := s1'.num hS n hn hT
    rcases s2 with ⟨c2, p2, rfl, g2, s2⟩ | ⟨c2, s2⟩
    · have s2' := s2.arr 49 i (iI (pcs (vR u0 0) N (j + 1)).2.2.1) (by omega)
      obtain ⟨c, u4, M4, b3, d3, s3⟩ := s2'.num hS n hn hT
      rcases s3 with ⟨c3, p3, rfl, g3, s3⟩ | ⟨c3, s3⟩
      · refine ⟨_, u2, _, u3, _, u4, 1, M4, b1', b2, b3, ?_, Or.inl ⟨(pcs (vR u0 0) N j).2.2.1 - 5, _, _, rfl, by omega, g2, g3, ?_, ?_, ?_, pcs_harm _ N j p1 (by omega) p2 p3, ?_⟩⟩
        · unfold f_X7_takesHarm
          rw [if_pos h.is, c1']
          simp only [Option.bind_some]
          rw [if_neg nz, if_pos s1.is, c2]
          simp only [Option.bind_some]
          rw [if_neg nz, if_pos s2.is, c3]
          simp only [Option.bind_some]
          rw [if_neg nz]
        · rw [uA_n _ _ _ _ (by decide), d3, uA_n _ _ _ _ (by decide), d2, uA_s, d1, ea]
        · rw [uA_n _ _ _ _ (by decide), d3, uA_s, d2, uA_n _ _ _ _ (by decide), d1]
        · rw [uA_s, d3, uA_n _ _ _ _ (by decide), d2, uA_n _ _ _ _ (by decide), d1]
        · have := s3.arr 50 i (iI (pcs (vR u0 0) N (j + 1 + 1)).2.2.1) (by omega)
          rw [List.append_assoc, List.append_assoc] at this
          exact this
      · refine ⟨_, u2, _, u3, _, u4, 0, M4, b1', b2, b3, ?_, Or.inr ⟨rfl, s3.arr 50 i c (by omega)⟩⟩
        unfold f_X7_takesHarm
        rw [if_pos h.is, c1']
        simp only [Option.bind_some]
        rw [if_neg nz, if_pos s1.is, c2]
        simp only [Option.bind_some]
        rw [if_neg nz, if_pos s2.is, c3]
        simp only [Option.bind_some, if_true]
    · obtain ⟨c, u4, b3, s3⟩ := (s2.arr 49 i b (by omega)).num hS n hn hT
      refine ⟨_, u2, _, u3, c, u4, 0, M3, b1', b2, b3, ?_, Or.inr ⟨rfl, s3.arr 50 i c (by omega)⟩⟩
      unfold f_X7_takesHarm
      rw [if_pos h.is, c1']
      simp only [Option.bind_some]
      rw [if_neg nz, if_pos s1.is, c2]
      simp only [Option.bind_some, if_true]
  · have c1' : f_X7_takesWord B M1 (some (ad 3)) (107 : Int32) (4 : Int32) = some (0, M2) := c1
    obtain ⟨b, u3, b2, s2⟩ := (s1.arr 48 i (a - (5 : Int32)) (by omega)).num hS n hn hT
    obtain ⟨c, u4, b3, s3⟩ := (s2.arr 49 i b (by omega)).num hS n hn hT
    refine ⟨_, u2, _, u3, c, u4, 0, M2, b1', b2, b3, ?_, Or.inr ⟨rfl, s3.arr 50 i c (by omega)⟩⟩
    unfold f_X7_takesHarm
    rw [if_pos h.is, c1']
    simp only [Option.bind_some, if_true]
def rowsH (u : MS) (i : Nat) (t : List Int) : Prop := ∀ q, q < i → u.2 48 q = iI (t.getD (3 * q) 0) ∧ u.2 49 q = iI (t.getD (3 * q + 1) 0) ∧ u.2 50 q = iI (t.getD (3 * q + 2) 0)
def valH (i : Nat) (t : List Int) : Prop := ∀ q, q < i → (0 ≤ t.getD (3 * q) 0 ∧ t.getD (3 * q) 0 ≤ 3) ∧ (0 ≤ t.getD (3 * q + 1) 0 ∧ t.getD (3 * q + 1) 0 ≤ 9999) ∧ (0 ≤ t.getD (3 * q + 2) 0 ∧ t.getD (3 * q + 2) 0 ≤ 9999)
theorem rowsH.add {u u2 : MS} {i : Nat} {x y z : Int} (h : rowsH u i t) (ht : t.length = 3 * i) (h8 : u2.2 48 = upd (u.2 48) i (iI x)) (h9 : u2.2 49 = upd (u.2 49) i (iI y)) (h50 : u2.2 50 = upd (u.2 50) i (iI z)) : rowsH u2 (i + 1) (t ++ [x, y, z]) := fun q hq => by
  rw [h8, h9, h50]
  unfold upd
  by_cases e : q = i
  · subst e
    rw [if_pos rfl, if_pos rfl, if_pos rfl, getD_r t [x, y, z] (3 * q) 0 (by omega), getD_r t [x, y, z] (3 * q + 1) 1 (by omega), getD_r t [x, y, z] (3 * q + 2) 2 (by omega)]
    exact ⟨rfl, rfl, rfl⟩
  · rw [if_neg e, if_neg e, if_neg e, getD_l _ _ _ (by omega), getD_l _ _ _ (by omega), getD_l _ _ _ (by omega)]
    exact h q (by omega)
theorem valH.add {i : Nat} {x y z : Int} (h : valH i t) (ht : t.length = 3 * i) (hx : 0 ≤ x ∧ x ≤ 3) (hy : 0 ≤ y ∧ y ≤ 9999) (hz : 0 ≤ z ∧ z ≤ 9999) : valH (i + 1) (t ++ [x, y, z]) := fun q hq => by
  by_cases e : q = i
  · subst e
    rw [getD_r t [x, y, z] (3 * q) 0 (by omega), getD_r t [x, y, z] (3 * q + 1) 1 (by omega), getD_r t [x, y, z] (3 * q + 2) 2 (by omega)]
    exact ⟨hx, hy, hz⟩
  · rw [getD_l _ _ _ (by omega), getD_l _ _ _ (by omega), getD_l _ _ _ (by omega)]
    exact h q (by omega)
def RpEnd (B : Nat) (ad rho : Nat → Nat) (M : Mem) (u0 : MS) (N : Nat) (i2 : Nat) (e : Int32) (u3 : MS) (r : Int32) (M2 : Mem) : Prop := (∃ (t2 : List Int) (j2 : Nat), r = 1 ∧ e = iI 1 ∧ t2.length = 3 * i2 ∧ i2 ≤ 15 ∧ valH i2 t2 ∧ rowsH u3 i2 t2 ∧ EndU u0 u3 (-9999) ∧ Rd B ad rho M M2 N (vR u0 0) t2 j2 (-9999)) ∨ ∃ t2 j2 w, r = 0 ∧ e = iI 0 ∧ EndU u0 u3 w ∧ Rd B ad rho M M2 N (vR u0 0) t2 j2 w
theorem j_rep (hS : LitOK S L) (n : Nat) (hn : 2100 ≤ n) (hT : TapeOK u0 N) (y1 y2 : Int32) : ∀ (m k k2 s i j : Nat) (t : List Int) (u : MS) (M1 : Mem), 121 - j < m → m ≤ k → m ≤ k2 → s ≤ i → i * 8 ≤ (pcs (vR u0 0) N j).1 → t.length = 3 * i → valH i t → rowsH u i t → Jn B ad rho M u0 N t j u M1 → ∃ (i2 : Nat) (u2 : MS) (e : Int32) (u3 : MS) (r : Int32) (M2 : Mem), f_X12_report_L43 S n L y1 y2 k2 u (iI i) = some (iI i2, u2) ∧ f_X12_ends u2 = some (e, u3) ∧ ((f_X7_takesHarm B M1 (some (ad 3))).bind fun r4 => f_X7_readsReport_L21 B n (some (ad 3)) k r4.2 r4.1 (iI s)) = some (r, M2) ∧ RpEnd B ad rho M u0 N i2 e u3 r M2 := by
  have nz : ¬ (1 : Int32) = 0 := by decide
  have hN := hT.2.1
  intro m
  induction m with
  | zero => intro k k2 s i j t u M1 hm; omega
  | succ m ih =>
    intro k k2 s i j t u M1 hm hk hk2 hs hij ht hv hr h
    obtain ⟨k, rfl⟩ : ∃ k', k = k' + 1 := ⟨k - 1, by omega⟩
    obtain ⟨k2, rfl⟩ : ∃ k', k2 = k' + 1 := ⟨k2 - 1, by omega⟩
    have hj := h.jle
    have hpr := pcs_rng (vR u0 0) N j
    have hs1 : ¬ (120 : Int32) ≤ iI s := by
      rw [show (120 : Int32) = iI 120 from rfl, iI_le _ _ (by omega)]
      omega
    have qi : inb (iI (i : Int)) 120 := (iI_inb _ 120 (by omega)).mpr (by omega)
    have ec : (iI (i : Int)).toNatClampNeg = i := by rw [iI_clamp _ (by omega)]; omega
    have ei : iI (i : Int) + (1 : Int32) = iI ((i + 1 : Nat) : Int) := by
      rw [show (1 : Int32) = iI 1 from rfl, iI_add]
      congr 1
    have es : iI (s : Int) + (1 : Int32) = iI ((s + 1 : Nat) : Int) := by
      rw [show (1 : Int32) = iI 1 from rfl, iI_add]
      congr 1
    obtain ⟨a, u2, b, u3, c, u4, r, M2, b1, b2, b3, c1, hh⟩ := h.harm hS n hn hT i
    have head : ∀ G, f_X12_goes S n L (uA u4 50 i c) (4 : Int32) (44 : Int32) = G → f_X12_report_L43 S n L y1 y2 (k2 + 1) u (iI i) = G.bind fun r7 => if r7.1 = 0 then (some (((iI (i : Int) + (1 : Int32)), r7.2))) else (f_X12_report_L43 S n L y1 y2 k2 r7.2 (iI (i : Int) + (1 : Int32))) := fun G hG => by
      conv => lhs; unfold f_X12_report_L43
      rw [b1]
      simp only [if_pos qi, ec, b2, b3, Option.bind_some, hG]
    rcases hh with ⟨x, y, z, rfl, hx1, hy1, hz1, h8, h9, h50, hp, h2⟩ | ⟨rfl, h2⟩
    · have hj2 := h2.jle
      have hr2 := hr.add ht h8 h9 h50
      have hv2 := hv.add ht hx1 hy1 hz1
      have hl2 : (t ++ [x, y, z]).length = 3 * (i + 1) := by rw [List.length_append]; simp; omega
      rcases h2.gos hS n hn hT 4 44 44 (by omega) with ⟨u5, M3, q1, q2, q3, q4, h3⟩ | ⟨q1, q3⟩
      · have q3' : f_X7_skips B M2 (some (ad 3)) (44 : Int32) = some (1, M3) := q3
        have hj3 := h3.jle
        have hp2 := hp.2 q4.1
        obtain ⟨i2, u6, e, u7, r2, M4, z1, z2, z3, z4⟩ := ih k k2 (s + 1) (i + 1) (j + 1 + 1 + 1 + 1) _ u5 M3 (by omega) (by omega) (by omega) (by omega) (by omega) hl2 hv2 (fun q hq => by rw [q2]; exact hr2 q hq) h3
        refine ⟨i2, u6, e, u7, r2, M4, ?_, z2, ?_, z4⟩
        · rw [head _ q1]
          simp only [Option.bind_some]
          rw [if_neg (show ¬ iI 1 = (0 : Int32) by decide), ei]
          exact z1
        · rw [c1]
          simp only [Option.bind_some]
          unfold f_X7_readsReport_L21
          rw [if_neg hs1, if_neg nz, if_pos h2.is, q3']
          simp only [Option.bind_some]
          rw [if_neg nz, if_pos h3.is, es]
          exact z3
      · have q3' : f_X7_skips B M2 (some (ad 3)) (44 : Int32) = some (0, M2) := q3
        have z1 : f_X12_report_L43 S n L y1 y2 (k2 + 1) u (iI i) = some (iI ((i + 1 : Nat) : Int), uA u4 50 i c) := by
          rw [head _ q1]
          simp only [Option.bind_some]
          rw [if_pos (show iI 0 = (0 : Int32) from rfl), ei]
        rcases h2.fin hT with ⟨u5, p1, p2, p3, p4⟩ | ⟨u5, M3, w2, p1, p2, p4, p5⟩
        · refine ⟨i + 1, uA u4 50 i c, _, u5, 1, M2, z1, p1, ?_, Or.inl ⟨t ++ [x, y, z], j + 1 + 1 + 1, rfl, rfl, hl2, by omega, hv2, fun q hq => by rw [p3]; exact hr2 q hq, p2, h2.2⟩⟩
          rw [c1]
          simp only [Option.bind_some]
          unfold f_X7_readsReport_L21
          rw [if_neg hs1, if_neg nz, if_pos h2.is, q3']
          simp only [Option.bind_some, if_true]
          rw [if_neg nz, if_pos h2.is, p4]
          simp only [Option.bind_some]
          rw [if_neg nz]
        · refine ⟨i + 1, uA u4 50 i c, _, u5, 0, M3, z1, p1, ?_, Or.inr ⟨_, _, w2, rfl, rfl, p2, p5⟩⟩
          rw [c1]
          simp only [Option.bind_some]
          unfold f_X7_readsReport_L21
          rw [if_neg hs1, if_neg nz, if_pos h2.is, q3']
          simp only [Option.bind_some, if_true]
          rw [if_neg nz, if_pos h2.is, p4]
          simp only [Option.bind_some, if_true]
    · have z1 : f_X12_report_L43 S n L y1 y2 (k2 + 1) u (iI i) = some (iI ((i + 1 : Nat) : Int), uA u4 50 i c) := by
        rw [head _ (h2.gos n _ _)]
        simp only [Option.bind_some]
        rw [if_pos (show iI 0 = (0 : Int32) from rfl), ei]
      obtain ⟨u5, t5, j5, w5, p1, p2, p3⟩ := h2.fin
      refine ⟨i + 1, uA u4 50 i c, _, u5, 0, M2, z1, p1, ?_, Or.inr ⟨t5, j5, w5, rfl, rfl, p2, p3⟩⟩
      rw [c1]
      simp only [Option.bind_some]
      unfold f_X7_readsReport_L21
      simp only [if_true]
      split <;> rfl
theorem j_report (hSL : LitOK S L) (hL : LOK B L) (h : RepK B S L x0 ad rho xl M u sz) (hI : Inv u xl) (n : Nat) (hn : 2100 ≤ n) (y1 y2 : Int32) : ∃ (u1 : MS) (f : Int32) (ug : MS) (i2 : Nat) (u2 : MS) (e : Int32) (u3 : MS) (r : Int32) (M2 : Mem), f_X12_begins S n L u = some u1 ∧ f_X12_goes S n L u1 (2 : Int32) (10 : Int32) = some (f, ug) ∧ ((if f = 0 then ((f_X12_report_L43 S n L y1 y2 n ug (0 : Int32)).bind fun o17 => some (o17.1, o17.2)) else (some ((0 : Int32), ug))) : Option (Int32 × MS)) = some (iI i2, u2) ∧ f_X12_ends u2 = some (e, u3) ∧ (∃ Mk, Opn B S n ad x0 M Mk ∧ f_X7_readsReport B n Mk (some (ad 3)) = some (r, M2)) ∧ RpEnd B ad rho (kpM B ad M) u (vN u 1).toNat i2 e u3 r M2 := by
  have hT := h.tape hI
  obtain ⟨u1, M1, b1, c1, -, s1⟩ := Jn.start hSL hL h hI n hn
  rcases s1.gos hSL n hn hT 2 10 101 (by omega) with ⟨u2, M2, q1, q2, q3, q4, h2⟩ | ⟨q1, q3⟩
  · have q1' : f_X12_goes S n L u1 (2 : Int32) (10 : Int32) = some (iI 1, u2) := q1
    have q3' : f_X7_skips B M1 (some (ad 3)) (101 : Int32) = some (1, M2) := q3
    rcases h2.fin hT with ⟨u5, p1, p2, p3, p4⟩ | ⟨u5, M3, w2, p1, p2, p4, p5⟩
    · refine ⟨u1, _, u2, 0, u2, _, u5, 1, M2, b1, q1', by rw [if_neg (show ¬ iI 1 = (0 : Int32) by decide)]; rfl, p1, ?_, Or.inl ⟨[], _, rfl, rfl, rfl, by omega, fun q hq => by omega, fun q hq => by omega, p2, h2.2⟩⟩
      refine ⟨M1, c1, ?_⟩
      unfold f_X7_readsReport
      rw [if_pos s1.is, q3']
      simp only [Option.bind_some]
      rw [if_neg (show ¬ (1 : Int32) = 0 by decide), if_pos h2.is, p4]
      simp only [Option.bind_some, or_true, true_or, if_true]
    · refine ⟨u1, _, u2, 0, u2, _, u5, 0, M3, b1, q1', by rw [if_neg (show ¬ iI 1 = (0 : Int32) by decide)]; rfl, p1, ?_, Or.inr ⟨_, _, w2, rfl, rfl, p2, p5⟩⟩
      refine ⟨M1, c1, ?_⟩
      unfold f_X7_readsReport
      rw [if_pos s1.is, q3']
      simp only [Option.bind_some]
      rw [if_neg (show ¬ (1 : Int32) = 0 by decide), if_pos h2.is, p4]
      simp only [Option.bind_some, or_true, true_or, if_true]
  · have q1' : f_X12_goes S n L u1 (2 : Int32) (10 : Int32) = some (iI 0, u1) := q1
    have q3' : f_X7_skips B M1 (some (ad 3)) (101 : Int32) = some (0, M1) := q3
    obtain ⟨i2, u2, e, u3, r, M2, z1, z2, z3, z4⟩ := j_rep hSL n hn hT y1 y2 n n n 0 0 0 [] u1 M1 (by omega) (Nat.le_refl _) (Nat.le_refl _) (by omega) (by omega) rfl (fun q hq => by omega) (fun q hq => by omega) s1
    refine ⟨u1, _, u1, i2, u2, e, u3, r, M2, b1, q1', ?_, z2, ?_, z4⟩
    · rw [if_pos (show iI 0 = (0 : Int32) from rfl)]
      have z1' : f_X12_report_L43 S n L y1 y2 n u1 (0 : Int32) = some (iI i2, u2) := z1
      rw [z1']
      rfl
    · refine ⟨M1, c1, ?_⟩
      unfold f_X7_readsReport
      rw [if_pos s1.is, q3']
      simp only [Option.bind_some, if_true]
      rw [if_pos s1.is]
      exact z3
end REJ
