/-! REPORT: the class makes one, its harms in order -/
section REI
variable {B : Nat} {S : Nat → Nat} {L : Mem} {ad rho : Nat → Nat} {M : Mem} {sz N j : Nat} {g : Nat → Int} {t : List Int} {w : Int} {c : Nat} {dv wv : Value}
/-- the report's cell and its two rows -/
def RO3 (M : Mem) (sz c : Nat) (dv wv : Value) (F G : Nat → Int32) : Prop := M sz = some (.inl (11, [dv, wv, .ref (sz + 1), .ref (sz + 1 + 1)])) ∧ M (sz + 1) = some (.inr (.inl (0, c, F))) ∧ M (sz + 1 + 1) = some (.inr (.inl (0, c, G)))
theorem RO3.setF {F G F1 : Nat → Int32} (h : RO3 M sz c dv wv F G) : RO3 (va_up M (sz + 1) (some (.inr (.inl (0, c, F1))))) sz c dv wv F1 G := ⟨by rw [va_up_ne _ _ (by omega)]; exact h.1, va_up_self .., by rw [va_up_ne _ _ (by omega)]; exact h.2.2⟩
theorem RO3.setG {F G G1 : Nat → Int32} (h : RO3 M sz c dv wv F G) : RO3 (va_up M (sz + 1 + 1) (some (.inr (.inl (0, c, G1))))) sz c dv wv F G1 := ⟨by rw [va_up_ne _ _ (by omega)]; exact h.1, by rw [va_up_ne _ _ (by omega)]; exact h.2.1, va_up_self ..⟩
theorem RO3.r2 {F G : Nat → Int32} (h : RO3 M sz c dv wv F G) : gR M (some sz) 11 2 = some (some (sz + 1)) ∧ gR M (some sz) 11 3 = some (some (sz + 1 + 1)) := ⟨gR_at h.1, gR_at h.1⟩
theorem z_shift (hBs : B ≤ sz) (n zz i : Nat) (hi : i < c) (hc : c ≤ 64) (a3 : Int32) (a4 : Int32) (x2 : Option Nat) (K : Int) (hK : -2147483648 ≤ K ∧ K < 2147483648) (F G : Nat → Int32) : ∀ (k x : Nat) (Mz : Mem), x ≤ i → x < k → RO3 Mz sz c dv wv (shf F x i) (shf G x i) → (∀ q, x ≤ q → q < i → K < (F q).toInt) → ∃ (q : Nat) (M1 : Mem), f_X8_init_L49 B S n zz (some sz) x2 a3 a4 (iI K) k Mz (iI x) = some (iI q, M1) ∧ q ≤ i ∧ (q = 0 ∨ (F (q - 1)).toInt ≤ K) ∧ (∀ q', q ≤ q' → q' < i → K < (F q').toInt) ∧ RO3 M1 sz c dv wv (shf F q i) (shf G q i) ∧ ∀ y, y < sz → M1 y = Mz y := by
  intro k
  induction k with
  | zero => intro x Mz _ h; omega
  | succ k ih =>
    intro x Mz hx hk h hq
    unfold f_X8_init_L49
    rw [iI_zero, it_le _ _ (by omega)]
    by_cases e : x = 0
    · rw [if_pos (by omega)]
      exact ⟨x, Mz, rfl, hx, Or.inl e, hq, h, fun _ _ => rfl⟩
    · have ex : iI (x : Int) - (1 : Int32) = iI ((x - 1 : Nat) : Int) := by
        rw [show (1 : Int32) = iI 1 from rfl, iI_sub]
        congr 1
        omega
      have sF : shf F x i (x - 1) = F (x - 1) := by
        unfold shf
        rw [if_neg (by omega)]
      have sG : shf G x i (x - 1) = G (x - 1) := by
        unfold shf
        rw [if_neg (by omega)]
      rw [if_neg (by omega), h.r2.1]
      simp only [Option.bind_some]
      rw [ex, aI_at h.2.1 (by omega) (by omega), Option.bind_some, Int.toNat_natCast, sF, ix_le _ _ hK]
      by_cases c1 : (F (x - 1)).toInt ≤ K
      · rw [if_pos c1]
        exact ⟨x, Mz, rfl, hx, Or.inr c1, hq, h, fun _ _ => rfl⟩
      · have h1 := h.setF (F1 := shf F (x - 1) i)
        have h2 := h1.setG (G1 := shf G (x - 1) i)
        have u1 : upd (shf F x i) x (F (x - 1)) = shf F (x - 1) i := by rw [← sF]; exact shf_step F x i (by omega)
        have u2 : upd (shf G x i) x (G (x - 1)) = shf G (x - 1) i := by rw [← sG]; exact shf_step G x i (by omega)
        rw [if_neg c1, Option.bind_some, sI_at (show B ≤ sz + 1 by omega) h.2.1 (by omega) (by omega), Option.bind_some, Int.toNat_natCast, u1, h1.r2.2]
        simp only [Option.bind_some]
        rw [aI_at h1.2.2 (by omega) (by omega), Option.bind_some, Int.toNat_natCast, sG, sI_at (show B ≤ sz + 1 + 1 by omega) h1.2.2 (by omega) (by omega), Option.bind_some, Int.toNat_natCast, u2, show iI (x : Int) + (-1 : Int32) = iI ((x - 1 : Nat) : Int) by rw [show (-1 : Int32) = iI (-1) from rfl, iI_add]; congr 1; omega]
        obtain ⟨q, M1, e1, e2, e3, e4, e5, e6⟩ := ih (x - 1) _ (by omega) (by omega) h2 (fun q' q1 q2 => by
          by_cases e : q' = x - 1
          · rw [e]
            omega
          · exact hq q' (by omega) q2)
        exact ⟨q, M1, e1, e2, e3, e4, e5, fun y hy => by rw [e6 y hy, va_up_ne _ _ (by omega), va_up_ne _ _ (by omega)]⟩
def SrtH (t : List Int) (xs : List Nat) (i : Nat) (F G : Nat → Int32) : Prop := xs.Perm (List.range i) ∧ xs.Pairwise (fun a b => kH t a < kH t b) ∧ ∀ k q, xs[k]? = some q → F k = iI (kH t q) ∧ G k = iI (t.getD (3 * q + 2) 0)
theorem SrtH.len {xs : List Nat} {i : Nat} {F G : Nat → Int32} (h : SrtH t xs i F G) : xs.length = i := by rw [h.1.length_eq, List.length_range]
theorem SrtH.ins {xs : List Nat} {i q : Nat} {F G : Nat → Int32} (h : SrtH t xs i F G) (hv : valH c t) (hi : i < c) (hnd : ∀ b, b < i → kH t i ≠ kH t b) (hq : q ≤ i) (q0 : q = 0 ∨ (F (q - 1)).toInt ≤ kH t i) (q1 : ∀ q', q ≤ q' → q' < i → kH t i < (F q').toInt) : SrtH t (xs.take q ++ i :: xs.drop q) (i + 1) (upd (shf F q i) q (iI (kH t i))) (upd (shf G q i) q (iI (t.getD (3 * i + 2) 0))) := by
  have hl := h.len
  obtain ⟨h1, h2, h3⟩ := h
  have vk : ∀ (k b : Nat), xs[k]? = some b → (F k).toInt = kH t b ∧ b < i := fun k b hb => by
    have hb2 : b < i := List.mem_range.mp (h1.mem_iff.mp (List.mem_of_getElem? hb))
    have := hv.key (show b < c by omega)
    rw [(h3 k b hb).1, toInt_iI _ (by omega) (by omega)]
    exact ⟨rfl, hb2⟩
  refine ⟨?_, pair_ins h2 (fun _ _ => rfl) (fun a ha => ?_) (fun a ha => ?_), fun k b hk => ?_⟩
  · refine (List.perm_middle).trans ?_
    rw [List.take_append_drop, List.range_succ]
    exact ((h1.cons i)).trans (List.perm_append_singleton i (List.range i)).symm
  · obtain ⟨k, hk1, hk2⟩ := List.mem_take_iff_getElem.mp ha
    have hkq : k < q := by omega
    have hk : k < xs.length := by omega
    have hlast : q - 1 < xs.length := by omega
    have eq1 := vk (q - 1) xs[q - 1] (List.getElem?_eq_getElem hlast)
    have h5 : kH t xs[q - 1] < kH t i := by
      have := hnd _ eq1.2
      rcases q0 with q0 | q0
      · omega
      · omega
    rw [← hk2]
    rcases Nat.lt_or_ge k (q - 1) with z | z
    · have := List.pairwise_iff_getElem.mp h2 k (q - 1) hk hlast z
      omega
    · have e : k = q - 1 := by omega
      subst e
      exact h5
  · obtain ⟨k, hk1, hk2⟩ := List.mem_drop_iff_getElem.mp ha
    have eq1 := vk (q + k) xs[q + k] (List.getElem?_eq_getElem (by omega))
    have := q1 (q + k) (by omega) (by omega)
    rw [← hk2]
    omega
  · rw [ins_get xs q i k (by omega)] at hk
    unfold upd
    by_cases k1 : k < q
    · rw [if_pos k1] at hk
      rw [if_neg (by omega), if_neg (by omega)]
      unfold shf
      rw [if_neg (by omega), if_neg (by omega)]
      exact h3 k b hk
    · rw [if_neg k1] at hk
      by_cases k2 : k = q
      · rw [if_pos k2] at hk
        cases hk
        rw [if_pos k2, if_pos k2]
        exact ⟨rfl, rfl⟩
      · rw [if_neg k2] at hk
        have := (List.getElem?_eq_some_iff.mp hk).1
        rw [if_neg k2, if_neg k2]
        unfold shf
        rw [if_pos (by omega), if_pos (by omega)]
        exact h3 (k - 1) b hk
theorem numL_len2 (x : Int) (h : x < 100) : (numL x).length ≤ 2 := by
  unfold numL
  by_cases c : x < 10
  · rw [if_pos c]
    simp
  · rw [if_neg c, if_pos h]
    simp
theorem lit_sort (x : Int) (hx : 0 ≤ x ∧ x ≤ 3) : litT (7 + x).toNat = sortT x ∧ 1 ≤ (sortT x).length ∧ (sortT x).length ≤ 5 := by
  have : x = 0 ∨ x = 1 ∨ x = 2 ∨ x = 3 := by omega
  rcases this with rfl | rfl | rfl | rfl <;> exact ⟨rfl, by decide, by decide⟩
/-- the harms' texts one behind another -/
theorem z_repWrite_L (hL : LOK B L) (hS : LitOK S L) (hD : DigOK S L) (hBs : B ≤ sz) (hcon : ∀ y e, L y = some e → M y = some e) {xs : List Nat} {F G : Nat → Int32} (hv : valH c t) (hok : hOK t c 0 = true) (hc : c ≤ 15) (hx : SrtH t xs c F G) (n : Nat) (hn : 60 ≤ n) (x : Nat) : ∀ (r i k : Nat) (Mz : Mem) (zz : Nat) (t0 : List Int), i + r = c → r < k → RO3 Mz sz c dv wv F G → SBR Mz (sz + 1 + 1 + 1) zz x t0 t0.length → t0.length ≤ 13 * i → (∀ y, y < sz → Mz y = M y) → ∃ (wt : Nat) (M1 : Mem), f_X8_write_L21 B S n (some (sz + 1)) (some (sz + 1 + 1)) (some x) k Mz zz (iI i) = some (some wt, M1, wt + 2) ∧ sz + 3 ≤ wt ∧ (∀ y, y < sz + 3 → M1 y = Mz y) ∧ ∀ (rho1 : Nat → Nat) (id : Nat), rho1 wt = id → rho1 (wt + 1) = id → TxtR M1 rho1 id wt (t0 ++ harT (kH t) (fun q => t.getD (3 * q + 2) 0) (xs.drop i) (decide (0 < i))) := by
  have hl := hx.len
  have hB3 : B ≤ sz + 1 + 1 + 1 := by omega
  intro r
  induction r with
  | zero =>
    intro i k Mz zz t0 hi hk h hs hl0 fr
    obtain ⟨k, rfl⟩ : ∃ k', k = k' + 1 := ⟨k - 1, by omega⟩
    have hlt := hs.lt
    obtain ⟨M1, e1, e2, e3⟩ := hs.toStr hB3
    refine ⟨zz, M1, ?_, by omega, fun y hy => e2 y (by omega), fun rho1 id r1 r2 => ?_⟩
    · unfold f_X8_write_L21
      rw [aL_i (by omega) h.2.1, Option.bind_some, it_le _ _ (by omega), if_pos (by omega), if_pos hs.is, e1]
      rfl
    · rw [List.drop_eq_nil_of_le (by omega), harT, List.append_nil]
      exact e3 rho1 id r1 r2
  | succ r ih =>
    intro i k Mz zz t0 hi hk h hs hl0 fr
    obtain ⟨k, rfl⟩ : ∃ k', k = k' + 1 := ⟨k - 1, by omega⟩
    have hilt : i < xs.length := by omega
    have hd : xs.drop i = xs[i] :: xs.drop (i + 1) := List.drop_eq_getElem_cons hilt
    have hgi : xs[i]? = some xs[i] := List.getElem?_eq_getElem hilt
    generalize xs[i] = b at hd hgi
    have hb : b < c := by
      have := hx.1.mem_iff.mp (List.mem_of_getElem? hgi)
      exact List.mem_range.mp this
    obtain ⟨hF, hG⟩ := hx.2.2 i b hgi
    have v := hv b hb
    have o := hOK_all 0 hok b (by omega) (by omega)
    have hkey : kH t b = t.getD (3 * b) 0 * 100 + t.getD (3 * b + 1) 0 := rfl
    have hq1 : kH t b / 100 = t.getD (3 * b) 0 := by omega
    have hq2 : kH t b % 100 = t.getD (3 * b + 1) 0 := by omega
    have n1 := numL_len2 (t.getD (3 * b + 1) 0) (by omega)
    have n2 := numL_len2 (t.getD (3 * b + 2) 0) (by omega)
    obtain ⟨s1, s2, s3⟩ := lit_sort (t.getD (3 * b) 0) v.1
    have c3 : ∀ y e, L y = some e → Mz y = some e := con_up hL hBs hcon fr
    obtain ⟨M4, z4, e4, l4, s4, f4⟩ : ∃ (M4 : Mem) (z4 : Nat), ((if iI (i : Int) ≤ 0 then (some (Mz, zz)) else (if isO Mz (some x) 1 = true then ((f_J4_append_15ec4 B Mz zz (some x) (some (S 13))).bind fun r16 => some (r16.2.1, r16.2.2)) else none)) : Option (Mem × Nat)) = some (M4, z4) ∧ zz ≤ z4 ∧ SBR M4 (sz + 1 + 1 + 1) z4 x (t0 ++ (if decide (0 < i) = true then [44, 32] else [])) (t0 ++ (if decide (0 < i) = true then [44, 32] else [])).length ∧ ∀ y, y < sz + 1 + 1 + 1 → M4 y = Mz y := by
      by_cases c0 : i = 0
      · subst c0
        refine ⟨Mz, zz, if_pos (by decide), Nat.le_refl _, ?_, fun _ _ => rfl⟩
        rw [if_neg (by decide), List.append_nil]
        exact hs
      · have l13 : litT 13 = [44, 32] := rfl
        obtain ⟨M4, z4, e4, l4, s4, f4⟩ := hs.str hL hS c3 hB3 13 (by omega) (by decide) (by rw [l13]; simp only [List.length_cons, List.length_nil]; omega)
        rw [l13] at s4
        refine ⟨M4, z4, ?_, l4, ?_, f4⟩
        · rw [iI_zero, it_le _ _ (by omega), if_neg (by omega), if_pos hs.is, e4]
          rfl
        · rw [if_pos (decide_eq_true (show 0 < i by omega))]
          exact s4
    have hcom : (if decide (0 < i) = true then [44, 32] else ([] : List Int)).length ≤ 2 := by split <;> simp
    have fr4 : ∀ y, y < sz → M4 y = M y := fun y hy => (f4 y (by omega)).trans (fr y hy)
    have c4 : ∀ y e, L y = some e → M4 y = some e := con_up hL hBs hcon fr4
    have h4 : RO3 M4 sz c dv wv F G := ⟨(f4 _ (by omega)).trans h.1, (f4 _ (by omega)).trans h.2.1, (f4 _ (by omega)).trans h.2.2⟩
    obtain ⟨M5, z5, e5, l5, s5, f5⟩ := s4.str hL hS c4 hB3 (7 + t.getD (3 * b) 0).toNat (by omega) (by rw [s1]; exact s2) (by rw [s1, List.length_append]; omega)
    rw [s1] at s5
    have fr5 : ∀ y, y < sz → M5 y = M y := fun y hy => (f5 y (by omega)).trans (fr4 y hy)
    have c5 : ∀ y e, L y = some e → M5 y = some e := con_up hL hBs hcon fr5
    obtain ⟨M6, z6, e6, l6, s6, f6⟩ := s5.char hB3 32 (by omega) (by simp only [List.length_append]; omega)
    have fr6 : ∀ y, y < sz → M6 y = M y := fun y hy => (f6 y (by omega)).trans (fr5 y hy)
    have c6 : ∀ y e, L y = some e → M6 y = some e := con_up hL hBs hcon fr6
    have h6 : RO3 M6 sz c dv wv F G := ⟨((f6 _ (by omega)).trans (f5 _ (by omega))).trans h4.1, ((f6 _ (by omega)).trans (f5 _ (by omega))).trans h4.2.1, ((f6 _ (by omega)).trans (f5 _ (by omega))).trans h4.2.2⟩
    obtain ⟨M7, z7, e7, l7, s7, f7⟩ := s6.num hL hD c6 hB3 n hn (t.getD (3 * b + 1) 0) (by omega) (by simp only [List.length_append, List.length_cons, List.length_nil]; omega)
    have fr7 : ∀ y, y < sz → M7 y = M y := fun y hy => (f7 y (by omega)).trans (fr6 y hy)
    obtain ⟨M8, z8, e8, l8, s8, f8⟩ := s7.char hB3 32 (by omega) (by simp only [List.length_append, List.length_cons, List.length_nil]; omega)
    have fr8 : ∀ y, y < sz → M8 y = M y := fun y hy => (f8 y (by omega)).trans (fr7 y hy)
    have c8 : ∀ y e, L y = some e → M8 y = some e := con_up hL hBs hcon fr8
    have h8 : RO3 M8 sz c dv wv F G := ⟨((f8 _ (by omega)).trans (f7 _ (by omega))).trans h6.1, ((f8 _ (by omega)).trans (f7 _ (by omega))).trans h6.2.1, ((f8 _ (by omega)).trans (f7 _ (by omega))).trans h6.2.2⟩
    obtain ⟨M9, z9, e9, l9, s9, f9⟩ := s8.num hL hD c8 hB3 n hn (t.getD (3 * b + 2) 0) (by omega) (by simp only [List.length_append, List.length_cons, List.length_nil]; omega)
    have fr9 : ∀ y, y < sz → M9 y = M y := fun y hy => (f9 y (by omega)).trans (fr8 y hy)
    have h9 : RO3 M9 sz c dv wv F G := ⟨(f9 _ (by omega)).trans h8.1, (f9 _ (by omega)).trans h8.2.1, (f9 _ (by omega)).trans h8.2.2⟩
    obtain ⟨wt, M10, w1, w2, w3, w4⟩ := ih (i + 1) k M9 z9 _ (by omega) (by omega) h9 s9 (by simp only [List.length_append, List.length_cons, List.length_nil]; omega) fr9
    refine ⟨wt, M10, ?_, w2, fun y hy => by rw [w3 y hy, f9 y (by omega), f8 y (by omega), f7 y (by omega), f6 y (by omega), f5 y (by omega), f4 y (by omega)], fun rho1 id r1 r2 => ?_⟩
    · have a4 : aI M4 0 (some (sz + 1)) (iI i) = some (iI (kH t b)) := by rw [aI_at h4.2.1 (by omega) (by omega), Int.toNat_natCast, hF]
      have a6 : aI M6 0 (some (sz + 1)) (iI i) = some (iI (kH t b)) := by rw [aI_at h6.2.1 (by omega) (by omega), Int.toNat_natCast, hF]
      have a8 : aI M8 0 (some (sz + 1 + 1)) (iI i) = some (iI (t.getD (3 * b + 2) 0)) := by rw [aI_at h8.2.2 (by omega) (by omega), Int.toNat_natCast, hG]
      have dv1 : iI (kH t b) / (100 : Int32) = iI (t.getD (3 * b) 0) := by
        rw [show (100 : Int32) = iI 100 from rfl, iI_div _ _ (by omega), Int.tdiv_eq_ediv_of_nonneg (by omega), hq1]
      have sp : f_X11_spelling S M4 ((107 : Int32) + iI (kH t b) / (100 : Int32)) = some (some (S (7 + t.getD (3 * b) 0).toNat)) := by
        rw [dv1, show (107 : Int32) = iI 107 from rfl, iI_add, z_spelling S M4 (107 + t.getD (3 * b) 0) (by omega), show (107 + t.getD (3 * b) 0 - 100).toNat = (7 + t.getD (3 * b) 0).toNat by omega]
      have md : iI (kH t b) - iI (kH t b) / (100 : Int32) * (100 : Int32) = iI (t.getD (3 * b + 1) 0) := by
        rw [dv1, show (100 : Int32) = iI 100 from rfl, iI_mul, iI_sub]
        congr 1
        omega
      have e6' : f_J4_append_cf468 B M5 z5 (some x) (32 : Int32) = _ := e6
      have e8' : f_J4_append_cf468 B M7 z7 (some x) (32 : Int32) = _ := e8
      unfold f_X8_write_L21
      rw [aL_i (by omega) h.2.1, Option.bind_some, it_le _ _ (by omega), if_neg (by omega), aL_i (by omega) h.2.2, Option.bind_some, it_le _ _ (by omega), if_neg (by omega), e4]
      simp only [Option.bind_some]
      rw [a4]
      simp only [Option.bind_some]
      rw [sp]
      simp only [Option.bind_some]
      rw [if_pos s4.is, e5]
      simp only [Option.bind_some]
      rw [if_pos s5.is, e6']
      simp only [Option.bind_some]
      rw [a6]
      simp only [Option.bind_some]
      rw [if_pos s6.is, md, e7]
      simp only [Option.bind_some]
      rw [if_pos s7.is, e8']
      simp only [Option.bind_some]
      rw [a8]
      simp only [Option.bind_some]
      rw [if_pos s8.is, e9]
      simp only [Option.bind_some]
      rw [iI_s]
      exact w1
    · have := w4 rho1 id r1 r2
      rw [hd, harT, hq1, hq2]
      rw [show decide (0 < i + 1) = true from decide_eq_true (by omega)] at this
      simp only [List.append_assoc] at this ⊢
      exact this
end REI
