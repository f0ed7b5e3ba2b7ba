/-! THING: the class makes one -/
theorem pF_ob {B : Nat} {M : Mem} {a ci : Nat} {fs : List Value} (hB : B ≤ a) (h : M a = some (.inl (ci, fs))) (k : Nat) (v : Value) (hk : k < fs.length) : ∃ M1, pF B M (some a) ci k v = some M1 ∧ M1 a = some (.inl (ci, fs.set k v)) ∧ ∀ y, y ≠ a → M1 y = M y := ⟨va_up M a (some (.inl (ci, fs.set k v))), by rw [pF_at hB h, if_pos hk], va_up_self .., fun y hy => va_up_ne _ _ hy⟩
section NEWS
variable {B : Nat} {S : Nat → Nat} {M : Mem} {c s : Nat}
theorem z_fillA_L (hB : B ≤ s) (n : Nat) (v : Int32) : ∀ (k i : Nat) (Mz : Mem) (g : Nat → Int32), i ≤ 1000 → 1000 - i < k → Mz s = some (.inr (.inl (0, 1000, g))) → (∀ q, q < i → g q = v) → ∃ M1 g1, f_J7_fill_53178_L5 B n (some s) v (iI 1000) k Mz (iI i) = some M1 ∧ M1 s = some (.inr (.inl (0, 1000, g1))) ∧ (∀ q, q < 1000 → g1 q = v) ∧ ∀ y, y ≠ s → M1 y = Mz y := by
  intro k
  induction k with
  | zero => intro i Mz g _ h; omega
  | succ k ih =>
    intro i Mz g hi hk hM hg
    unfold f_J7_fill_53178_L5
    rw [it_le _ _ (by omega)]
    by_cases e : i = 1000
    · rw [if_pos (by omega)]
      exact ⟨Mz, g, rfl, hM, fun q hq => hg q (by omega), fun _ _ => rfl⟩
    · rw [if_neg (by omega), sI_at hB hM (by omega) (by omega), Option.bind_some, Int.toNat_natCast, show (1 : Int32) = iI 1 from rfl, iI_add]
      obtain ⟨M1, g1, e1, e2, e3, e4⟩ := ih (i + 1) (va_up Mz s (some (.inr (.inl (0, 1000, upd g i v))))) (upd g i v) (by omega) (by omega) (va_up_self ..) (fun q hq => by
        unfold upd
        split
        · rfl
        · exact hg q (by omega))
      exact ⟨M1, g1, e1, e2, e3, fun y hy => by rw [e4 y hy, va_up_ne _ _ hy]⟩
theorem z_fillA (hB : B ≤ s) (n : Nat) (hn : 1100 ≤ n) (v : Int32) {g : Nat → Int32} (hM : M s = some (.inr (.inl (0, 1000, g)))) : ∃ M1 g1, f_J7_fill_53178 B n M (some s) v = some M1 ∧ M1 s = some (.inr (.inl (0, 1000, g1))) ∧ (∀ q, q < 1000 → g1 q = v) ∧ ∀ y, y ≠ s → M1 y = M y := by
  obtain ⟨M1, g1, e1, e2⟩ := z_fillA_L hB n v n 0 M g (by omega) (by omega) hM (fun q hq => by omega)
  refine ⟨M1, g1, ?_, e2⟩
  unfold f_J7_fill_53178
  rw [aL_i (by omega) hM]
  exact e1
theorem z_calNew (hB : B ≤ c) (hcs : c < s) (hc : M c = some (.inl (4, [.null, .int 0]))) (n : Nat) (hn : 1100 ≤ n) (a v : Int32) (ha : a = 1 ∧ v = -1 ∨ a = 0 ∧ v = -2) : ∃ M1 g, f_X1_init B n M s (some c) a = some (M1, s + 1) ∧ M1 c = some (.inl (4, [.ref s, .int 0])) ∧ M1 s = some (.inr (.inl (0, 1000, g))) ∧ (∀ k, k < 1000 → g k = v) ∧ ∀ y, y ≠ c → y ≠ s → M1 y = M y := by
  have h2 : (va_up M s (some (.inr (.inl (0, 1000, fun _ => 0))))) c = some (.inl (4, [.null, .int 0])) := by rw [va_up_ne _ _ (by omega)]; exact hc
  obtain ⟨M4, p4, q4, r4⟩ := pF_ob hB h2 0 (va_rf (some s)) (by simp)
  have q4' : M4 c = some (.inl (4, [.ref s, .int 0])) := q4
  obtain ⟨M5, p5, q5, r5⟩ := pF_ob hB q4' 1 (.int (0 : Int32)) (by simp)
  have q5' : M5 c = some (.inl (4, [.ref s, .int 0])) := q5
  have s5 : M5 s = some (.inr (.inl (0, 1000, fun _ => 0))) := by rw [r5 s (by omega), r4 s (by omega), va_up_self]
  obtain ⟨M6, g, e1, e2, e3, e4⟩ := z_fillA (show B ≤ s by omega) n hn v s5
  have g5 : gR M5 (some c) 4 0 = some (some s) := gR_at q5'
  refine ⟨M6, g, ?_, by rw [e4 c (by omega)]; exact q5', e2, e3, fun y y1 y2 => by rw [e4 y y2, r5 y y1, r4 y y1, va_up_ne _ _ y2]⟩
  unfold f_X1_init
  rw [if_pos (by simp), if_pos (show ¬ (1000 : Int32) < 0 ∧ ((1000 : Int32) : Int32).toNatClampNeg ≤ 1000 from by decide), show ((1000 : Int32) : Int32).toNatClampNeg = 1000 from by decide, Option.bind_some, p4, Option.bind_some, p5, Option.bind_some, g5, Option.bind_some]
  rcases ha with ⟨rfl, rfl⟩ | ⟨rfl, rfl⟩
  · rw [if_neg (by decide), e1]
    rfl
  · rw [if_pos rfl, e1]
    rfl
theorem z_appNew (hB : B ≤ c) (hcs : c < s) (hc : M c = some (.inl (3, [.null, .null, .int 0]))) : ∃ M1 f1 f2, f_X0_init B M s (some c) = some (M1, s + 1 + 1) ∧ M1 c = some (.inl (3, [.ref s, .ref (s + 1), .int 0])) ∧ M1 s = some (.inr (.inl (0, 48, f1))) ∧ M1 (s + 1) = some (.inr (.inl (0, 48, f2))) ∧ ∀ y, y ≠ c → y ≠ s → y ≠ s + 1 → M1 y = M y := by
  have h2 : (va_up M s (some (.inr (.inl (0, 48, fun _ => 0))))) c = some (.inl (3, [.null, .null, .int 0])) := by rw [va_up_ne _ _ (by omega)]; exact hc
  obtain ⟨M4, p4, q4, r4⟩ := pF_ob hB h2 0 (va_rf (some s)) (by simp)
  have q4' : (va_up M4 (s + 1) (some (.inr (.inl (0, 48, fun _ => 0))))) c = some (.inl (3, [.ref s, .null, .int 0])) := by rw [va_up_ne _ _ (by omega)]; exact q4
  obtain ⟨M7, p7, q7, r7⟩ := pF_ob hB q4' 1 (va_rf (some (s + 1))) (by simp)
  have q7' : M7 c = some (.inl (3, [.ref s, .ref (s + 1), .int 0])) := q7
  obtain ⟨M8, p8, q8, r8⟩ := pF_ob hB q7' 2 (.int (0 : Int32)) (by simp)
  refine ⟨M8, fun _ => 0, fun _ => 0, ?_, q8, by rw [r8 s (by omega), r7 s (by omega), va_up_ne _ _ (by omega), r4 s (by omega), va_up_self], by rw [r8 _ (by omega), r7 _ (by omega), va_up_self], fun y y1 y2 y3 => by rw [r8 y y1, r7 y y1, va_up_ne _ _ y3, r4 y y1, va_up_ne _ _ y2]⟩
  have e48 : ¬ (48 : Int32) < 0 ∧ ((48 : Int32) : Int32).toNatClampNeg ≤ 48 := by decide
  unfold f_X0_init
  rw [if_pos (by simp), if_pos e48, show ((48 : Int32) : Int32).toNatClampNeg = 48 from by decide, Option.bind_some, p4, Option.bind_some, if_pos (show ¬ (48 : Int32) < 0 ∧ 48 ≤ 48 from by decide), Option.bind_some, p7, Option.bind_some, p8]
  rfl
theorem z_lisNew (hB : B ≤ c) (hc : M c = some (.inl (2, [.int 0, .null, .int 0]))) : ∃ M1, f_Jx4a65c_init_da8c8 B S M (some c) = some M1 ∧ M1 c = some (.inl (2, [.int 0, .ref (S 20), .int 0])) ∧ ∀ y, y ≠ c → M1 y = M y := by
  obtain ⟨M3, p3, q3, r3⟩ := pF_ob hB hc 0 (.int (0 : Int32)) (by simp)
  have q3' : M3 c = some (.inl (2, [.int 0, .null, .int 0])) := q3
  obtain ⟨M4, p4, q4, r4⟩ := pF_ob hB q3' 1 (va_rf (some (S 20))) (by simp)
  refine ⟨M4, ?_, q4, fun y hy => (r4 y hy).trans (r3 y hy)⟩
  unfold f_Jx4a65c_init_da8c8 f_Jxc12de_init_da8c8 f_Jxa1e45_init_da8c8
  rw [if_pos (by simp), if_pos (by simp), if_pos (by simp), Option.bind_some, p3]
  simp only [Option.bind_some]
  rw [p4]
  rfl
end NEWS
theorem lit_kind (x : Int) (hx : 0 ≤ x ∧ x ≤ 4) : litT (2 + x).toNat = kindT x ∧ 1 ≤ (kindT x).length ∧ (kindT x).length ≤ 5 := by
  have : x = 0 ∨ x = 1 ∨ x = 2 ∨ x = 3 ∨ x = 4 := by omega
  rcases this with rfl | rfl | rfl | rfl | rfl <;> exact ⟨rfl, by decide, by decide⟩
section THW
variable {B : Nat} {S : Nat → Nat} {L : Mem} {ad rho : Nat → Nat} {M M1 : Mem} {sz sz0 x N j : Nat} {g : Nat → Int} {t l : List Int} {w K V W : Int}
theorem SBR.kind (hL : LOK B L) (hS : LitOK S L) (hcon : ∀ y e, L y = some e → M y = some e) (hB : B ≤ sz0) (h : SBR M sz0 sz x t t.length) (k : Int) (hk : 0 ≤ k ∧ k ≤ 4) (hl : t.length + 5 ≤ 286) : ∃ (M1 : Mem) (sz1 : Nat), f_X11_spelling S M ((102 : Int32) + iI k) = some (some (S (2 + k).toNat)) ∧ f_J4_append_15ec4 B M sz (some x) (some (S (2 + k).toNat)) = some (some x, M1, sz1) ∧ sz ≤ sz1 ∧ SBR M1 sz0 sz1 x (t ++ kindT k) (t ++ kindT k).length ∧ ∀ y, y < sz0 → M1 y = M y := by
  obtain ⟨k1, k2, k3⟩ := lit_kind k hk
  obtain ⟨M1, sz1, e1, e2, e3, e4⟩ := h.str hL hS hcon hB (2 + k).toNat (by omega) (by rw [k1]; exact k2) (by rw [k1]; omega)
  rw [k1] at e3
  refine ⟨M1, sz1, ?_, e1, e2, e3, e4⟩
  rw [show (102 : Int32) = iI 102 from rfl, iI_add, z_spelling S M (102 + k) (by omega), show (102 + k - 100).toNat = (2 + k).toNat by omega]
theorem SBR.lt (h : SBR M sz0 sz x t j) : sz0 ≤ x ∧ x < sz := by
  obtain ⟨b, ml, cap, f, -, -, h3, -⟩ := h
  omega
theorem z_thiWrite_L (hL : LOK B L) (hS : LitOK S L) (hB : B ≤ sz0) (n : Nat) (b : Int32) : ∀ (c k : Nat) (x5 : Int) (Mz : Mem) (zz : Nat) (t : List Int), x5 = 5 - (c : Int) → c ≤ 5 → c < k → SBR Mz sz0 zz x t t.length → (∀ y e, L y = some e → Mz y = some e) → t.length + 10 * c ≤ 286 → ∃ (wt : Nat) (M1 : Mem), f_X10_write_L43 B S n b (some x) k Mz zz (iI x5) = some (some wt, M1, wt + 2) ∧ zz ≤ wt ∧ (∀ y, y < sz0 → M1 y = Mz y) ∧ ∀ (rho : Nat → Nat) (id : Nat), rho wt = id → rho (wt + 1) = id → TxtR M1 rho id wt (t ++ barT b c x5) := by
  intro c
  induction c with
  | zero =>
    intro k x5 Mz zz t hx hc hk h hcon hl
    obtain ⟨k, rfl⟩ : ∃ k', k = k' + 1 := ⟨k - 1, by omega⟩
    obtain ⟨M1, e1, e2, e3⟩ := h.toStr hB
    have hlt := h.lt
    refine ⟨zz, M1, ?_, Nat.le_refl _, fun y hy => e2 y (by omega), fun rho id r1 r2 => ?_⟩
    · unfold f_X10_write_L43
      rw [show (5 : Int32) = iI 5 from rfl, it_le _ _ (by omega), if_pos (by omega), if_pos h.is, e1]
      rfl
    · rw [barT, List.append_nil]
      exact e3 rho id r1 r2
  | succ c ih =>
    intro k x5 Mz zz t hx hc hk h hcon hl
    obtain ⟨k, rfl⟩ : ∃ k', k = k' + 1 := ⟨k - 1, by omega⟩
    have hlt := h.lt
    by_cases cb : ((b >>> (iI x5 &&& 31)) &&& (1 : Int32)) = (1 : Int32)
    · have l12 : litT 12 = [32, 110, 111, 116, 32] := rfl
      obtain ⟨N1, z1, e1, l1, s1, f1⟩ := h.str hL hS hcon hB 12 (by omega) (by decide) (by rw [l12]; simp only [List.length_cons, List.length_nil]; omega)
      rw [l12] at s1
      have c1 := con_up hL hB hcon f1
      obtain ⟨N2, z2, e2, e2', l2, s2, f2⟩ := s1.kind hL hS c1 hB x5 (by omega) (by simp only [List.length_append, List.length_cons, List.length_nil]; omega)
      have c2 := con_up hL hB c1 f2
      obtain ⟨wt, M1, g1, g2, g3, g4⟩ := ih k (x5 + 1) N2 z2 _ (by omega) (by omega) (by omega) s2 c2 (by
        have := (lit_kind x5 (by omega)).2.2
        simp only [List.length_append, List.length_cons, List.length_nil]
        omega)
      refine ⟨wt, M1, ?_, by omega, fun y hy => by rw [g3 y hy, f2 y hy, f1 y hy], fun rho id r1 r2 => ?_⟩
      · unfold f_X10_write_L43 f_X10_holdsBit
        rw [show (5 : Int32) = iI 5 from rfl, it_le _ _ (by omega), if_neg (by omega), if_pos cb, Option.bind_some, if_neg (show ¬ (1 : Int32) = 0 by decide), if_pos h.is, e1]
        simp only [Option.bind_some]
        rw [e2, Option.bind_some, if_pos s1.is, e2']
        simp only [Option.bind_some]
        rw [show (1 : Int32) = iI 1 from rfl, iI_add]
        exact g1
      · have := g4 rho id r1 r2
        rw [barT, if_pos (show barB b x5 = true from decide_eq_true cb)]
        simpa only [List.append_assoc] using this
    · obtain ⟨wt, M1, g1, g2, g3, g4⟩ := ih k (x5 + 1) Mz zz t (by omega) (by omega) (by omega) h hcon (by omega)
      refine ⟨wt, M1, ?_, g2, g3, fun rho id r1 r2 => ?_⟩
      · unfold f_X10_write_L43 f_X10_holdsBit
        rw [show (5 : Int32) = iI 5 from rfl, it_le _ _ (by omega), if_neg (by omega), if_neg cb, Option.bind_some, if_pos (show (0 : Int32) = 0 from rfl), show (1 : Int32) = iI 1 from rfl, iI_add]
        exact g1
      · rw [barT, if_neg (show ¬ barB b x5 = true from fun q => cb (of_decide_eq_true q)), List.nil_append]
        exact g4 rho id r1 r2
theorem z_thiWrite (hL : LOK B L) (hS : LitOK S L) (hD : DigOK S L) (hcon : ∀ y e, L y = some e → M y = some e) (hBs : B ≤ sz) (hK : 0 ≤ K ∧ K ≤ 4) (hV : 0 ≤ V ∧ V < 10000) (hW : 0 ≤ W ∧ W < 10000) (b : Int32) (n : Nat) (hn : 60 ≤ n) : ∃ (wt : Nat) (M1 : Mem), f_X10_write B S n M sz (iI K) (iI V) (iI W) b = some (some wt, M1, wt + 2) ∧ sz ≤ wt ∧ (∀ y, y < sz → M1 y = M y) ∧ ∀ (rho : Nat → Nat) (id : Nat), rho wt = id → rho (wt + 1) = id → TxtR M1 rho id wt (kindT K ++ ([32] ++ (numL V ++ ([32] ++ (numL W ++ barT b 5 0))))) := by
  have n1 := numL_len V
  have n2 := numL_len W
  have n3 := (lit_kind K hK).2.2
  obtain ⟨N0, e0, s0, f0⟩ := z_sbNew hBs M
  have c0 := con_up hL hBs hcon f0
  obtain ⟨N1, z1, e1, e1', l1, s1, f1⟩ := SBR.kind hL hS c0 hBs s0 K hK (by simp)
  have c1 := con_up hL hBs c0 f1
  obtain ⟨N2, z2, e2, l2, s2, f2⟩ := s1.char hBs 32 (by omega) (by simp only [List.length_append, List.length_nil]; omega)
  have c2 := con_up hL hBs c1 f2
  obtain ⟨N3, z3, e3, l3, s3, f3⟩ := s2.num hL hD c2 hBs n hn V hV (by simp only [List.length_append, List.length_nil, List.length_cons]; omega)
  have c3 := con_up hL hBs c2 f3
  obtain ⟨N4, z4, e4, l4, s4, f4⟩ := s3.char hBs 32 (by omega) (by simp only [List.length_append, List.length_nil, List.length_cons]; omega)
  have c4 := con_up hL hBs c3 f4
  obtain ⟨N5, z5, e5, l5, s5, f5⟩ := s4.num hL hD c4 hBs n hn W hW (by simp only [List.length_append, List.length_nil, List.length_cons]; omega)
  have c5 := con_up hL hBs c4 f5
  obtain ⟨wt, M1, g1, g2, g3, g4⟩ := z_thiWrite_L (x := sz) hL hS hBs n b 5 7 0 N5 z5 _ (by omega) (by omega) (by omega) s5 c5 (by simp only [List.length_append, List.length_nil, List.length_cons]; omega)
  have hlt := s5.lt
  refine ⟨wt, M1, ?_, by omega, fun y hy => by rw [g3 y hy, f5 y hy, f4 y hy, f3 y hy, f2 y hy, f1 y hy, f0 y hy], fun rho id r1 r2 => ?_⟩
  · have e2' : f_J4_append_cf468 B N1 z1 (some sz) (32 : Int32) = _ := e2
    have e4' : f_J4_append_cf468 B N3 z3 (some sz) (32 : Int32) = _ := e4
    have g1' : f_X10_write_L43 B S n b (some sz) 7 N5 z5 (0 : Int32) = _ := g1
    unfold f_X10_write
    rw [Option.bind_some, e0]
    simp only [Option.bind_some]
    rw [e1, Option.bind_some, if_pos s0.is, e1']
    simp only [Option.bind_some]
    rw [if_pos s1.is, e2']
    simp only [Option.bind_some]
    rw [if_pos s2.is, e3]
    simp only [Option.bind_some]
    rw [if_pos s3.is, e4']
    simp only [Option.bind_some]
    rw [if_pos s4.is, e5]
    simp only [Option.bind_some]
    exact g1'
  · have := g4 rho id r1 r2
    simpa only [List.nil_append, List.append_assoc] using this
theorem Rd.thiFault_L (h : Rd B ad rho M M1 N g (K :: V :: W :: l) j w) (n : Nat) : ∀ (k i : Nat) (b : Int32), i ≤ l.length → l.length - i < k → f_X10_faultIn_L35 n M1 (some (ad 3)) k b (iI ((3 + i : Nat) : Int)) = some (iI (if twF b (l.drop i) = true then 2 else 0)) := by
  have hlen := h.tlen
  simp only [List.length_cons] at hlen
  intro k
  induction k with
  | zero => intro i b _ h; omega
  | succ k ih =>
    intro i b hi hk
    unfold f_X10_faultIn_L35
    rw [if_pos h.is, h.size, Option.bind_some, it_le _ _ (by simp only [List.length_cons]; omega)]
    simp only [List.length_cons]
    by_cases e : i = l.length
    · rw [if_pos (by omega), List.drop_eq_nil_of_le (by omega)]
      rfl
    · have hlt : i < l.length := by omega
      have hd : l.drop i = l[i] :: l.drop (i + 1) := List.drop_eq_getElem_cons hlt
      have ht := h.lit (3 + i) l[i] (by
        rw [show 3 + i = i + 1 + 1 + 1 by omega]
        simp only [List.getElem?_cons_succ]
        exact List.getElem?_eq_getElem hlt)
      rw [if_neg (by omega), if_pos h.is, ht, Option.bind_some, hd, twF]
      unfold f_X10_holdsBit
      by_cases c : ((b >>> (iI l[i] &&& 31)) &&& (1 : Int32)) = (1 : Int32)
      · rw [if_pos c, Option.bind_some, if_neg (show ¬ (1 : Int32) = 0 by decide), decide_eq_true c, Bool.true_or]
        rfl
      · rw [if_neg c, Option.bind_some, if_pos (show (0 : Int32) = 0 from rfl), if_pos h.is, Option.bind_some, decide_eq_false c, Bool.false_or, show (1 : Int32) = iI 1 from rfl, iI_add, show ((3 + i : Nat) : Int) + 1 = ((3 + (i + 1) : Nat) : Int) by omega]
        exact ih (i + 1) _ (by omega) (by omega)
theorem Rd.thiFault (h : Rd B ad rho M M1 N g (K :: V :: W :: l) j w) (hV : 0 ≤ V ∧ V ≤ 9999) (hW : 0 ≤ W ∧ W ≤ 9999) (n : Nat) (hn : 200 ≤ n) : f_X10_faultIn n M1 (some (ad 3)) = some (iI (if ¬ (1 ≤ V ∧ 1 ≤ W ∧ W ≤ 999) then 1 else if twF 0 l = true then 2 else 0)) := by
  have hlen := h.tlen
  simp only [List.length_cons] at hlen
  have t1 : f_X7_told M1 (some (ad 3)) (1 : Int32) = some (iI V) := h.lit 1 V rfl
  have t2 : f_X7_told M1 (some (ad 3)) (2 : Int32) = some (iI W) := h.lit 2 W rfl
  have tL : f_X10_faultIn_L35 n M1 (some (ad 3)) n (0 : Int32) (3 : Int32) = some (iI (if twF 0 l = true then 2 else 0)) := h.thiFault_L n n 0 0 (by omega) (by omega)
  unfold f_X10_faultIn
  simp only [if_pos h.is, t1, t2, tL, Option.bind_some]
  rw [show (1 : Int32) = iI 1 from rfl, show (999 : Int32) = iI 999 from rfl, it_lt _ _ (by omega), it_lt _ _ (by omega), it_le _ _ (by omega)]
  by_cases c1 : 1 ≤ V
  · rw [if_neg (by omega)]
    by_cases c2 : 1 ≤ W
    · rw [if_neg (by omega)]
      by_cases c3 : W ≤ 999
      · rw [if_pos c3, if_neg (show ¬ ¬ (1 ≤ V ∧ 1 ≤ W ∧ W ≤ 999) from fun q => q ⟨c1, c2, c3⟩)]
      · rw [if_neg c3, if_pos (show ¬ (1 ≤ V ∧ 1 ≤ W ∧ W ≤ 999) from fun q => c3 q.2.2)]
    · rw [if_pos (show W < 1 by omega), if_pos (show ¬ (1 ≤ V ∧ 1 ≤ W ∧ W ≤ 999) from fun q => c2 q.2.1)]
  · rw [if_pos (show V < 1 by omega), if_pos (show ¬ (1 ≤ V ∧ 1 ≤ W ∧ W ≤ 999) from fun q => c1 q.1)]
theorem Rd.bits_L (h : Rd B ad rho M M1 N g (K :: V :: W :: l) j w) (n zz : Nat) (x : Option Nat) : ∀ (k i : Nat) (b : Int32), i ≤ l.length → l.length - i < k → f_X10_init_L75 B S n M1 zz x (some (ad 3)) k b (iI ((3 + i : Nat) : Int)) = some (bitsF b (l.drop i)) := by
  have hlen := h.tlen
  simp only [List.length_cons] at hlen
  intro k
  induction k with
  | zero => intro i b _ h; omega
  | succ k ih =>
    intro i b hi hk
    unfold f_X10_init_L75
    rw [if_pos h.is, h.size, Option.bind_some, it_le _ _ (by simp only [List.length_cons]; omega)]
    simp only [List.length_cons]
    by_cases e : i = l.length
    · rw [if_pos (by omega), List.drop_eq_nil_of_le (by omega)]
      rfl
    · have hlt : i < l.length := by omega
      have hd : l.drop i = l[i] :: l.drop (i + 1) := List.drop_eq_getElem_cons hlt
      have ht := h.lit (3 + i) l[i] (by
        rw [show 3 + i = i + 1 + 1 + 1 by omega]
        simp only [List.getElem?_cons_succ]
        exact List.getElem?_eq_getElem hlt)
      rw [if_neg (by omega), if_pos h.is, ht, Option.bind_some, hd, bitsF, show iI ((3 + i : Nat) : Int) + (1 : Int32) = iI ((3 + (i + 1) : Nat) : Int) by rw [show (1 : Int32) = iI 1 from rfl, iI_add]; congr 1]
      exact ih (i + 1) _ (by omega) (by omega)
theorem Rd.bits (h : Rd B ad rho M M1 N g (K :: V :: W :: l) j w) (n zz : Nat) (hn : 200 ≤ n) (x : Option Nat) : f_X10_init_L75 B S n M1 zz x (some (ad 3)) n (0 : Int32) (3 : Int32) = some (bitsF 0 l) := by
  have hlen := h.tlen
  simp only [List.length_cons] at hlen
  exact h.bits_L n zz x n 0 0 (by omega) (by omega)
end THW
