/-! THE REFERENCE WRITES TEXTS -/
def litT (i : Nat) : List Int := if i = 0 then [110, 111, 116] else if i = 1 then [115, 111, 117, 110, 100] else if i = 2 then kindT 0 else if i = 3 then kindT 1 else if i = 4 then kindT 2 else if i = 5 then kindT 3 else if i = 6 then kindT 4 else if i = 7 then sortT 0 else if i = 8 then sortT 1 else if i = 9 then sortT 2 else if i = 10 then sortT 3 else if i = 11 then [] else if i = 12 then [32, 110, 111, 116, 32] else [44, 32]
/-- the constants' texts -/
def LitOK (S : Nat → Nat) (L : Mem) : Prop := ∀ i, i < 14 → TxtR L (fun _ => 0) 0 (S i) (litT i)
def WrU (u0 u1 : MS) (t : List Int) : Prop := vN u1 42 = t.length ∧ t.length ≤ 800 ∧ (∀ k, k < t.length → u1.2 41 k = iI (t.getD k 0)) ∧ (∀ k, k ≠ 42 → u1.1 k = u0.1 k) ∧ ∀ k, k ≠ 41 → u1.2 k = u0.2 k
theorem getD_app1 (t : List Int) (b : Int) (k : Nat) (h : k < t.length) : (t ++ [b]).getD k 0 = t.getD k 0 := by
  simp only [List.getD, List.getElem?_append_left h]
theorem getD_app2 (t : List Int) (b : Int) : (t ++ [b]).getD t.length 0 = b := by
  simp [List.getD]
section WR
variable {u0 u1 : MS} {t : List Int} {S : Nat → Nat} {L : Mem}
theorem WrU.one (h : WrU u0 u1 t) (hl : t.length < 800) (b : Int) : f_X12_write u1 (iI b) = some (wr u1 b) ∧ WrU u0 (wr u1 b) (t ++ [b]) := by
  obtain ⟨h1, h2, h3, h4, h5⟩ := h
  have hr : 0 ≤ vN u1 42 ∧ vN u1 42 < 800 := by omega
  refine ⟨t_write u1 b hr, ?_, ?_, fun k hk => ?_, fun k hk => ?_, fun k hk => ?_⟩
  · rw [vN_wr u1 b 42 hr, if_pos rfl, h1, List.length_append]
    rfl
  · rw [List.length_append]
    show t.length + 1 ≤ 800
    omega
  · show va_up u1.2 41 (upd (u1.2 41) (vN u1 42).toNat (iI b)) 41 k = _
    rw [va_up_self, h1, Int.toNat_natCast]
    unfold upd
    rw [List.length_append] at hk
    have hk : k < t.length + 1 := hk
    by_cases e : k = t.length
    · rw [if_pos e, e, getD_app2]
    · rw [if_neg e, h3 k (by omega), getD_app1 t b k (by omega)]
  · show upd u1.1 42 _ k = _
    unfold upd
    rw [if_neg hk, h4 k hk]
  · show va_up u1.2 41 _ k = _
    rw [va_up_ne _ _ hk, h5 k hk]
theorem WrU.wrL (h : WrU u0 u1 t) (bs : List Int) (hl : t.length + bs.length ≤ 800) : WrU u0 (wrL u1 bs) (t ++ bs) := by
  induction bs generalizing u1 t with
  | nil => rw [List.append_nil]; exact h
  | cons b bs ih =>
    rw [List.length_cons] at hl
    have := ih (h.one (by omega) b).2 (by rw [List.length_append]; show t.length + 1 + bs.length ≤ 800; omega)
    rw [List.append_assoc] at this
    exact this
theorem numL_len (x : Int) : (numL x).length ≤ 4 := by
  unfold numL
  (repeat' split) <;> simp
theorem WrU.num (h : WrU u0 u1 t) (n : Nat) (hf : 60 ≤ n) (x : Int) (hx : 0 ≤ x ∧ x < 10000) (hl : t.length + 4 ≤ 800) : ∃ u2, f_X12_writeNumber n u1 (iI x) = some u2 ∧ WrU u0 u2 (t ++ numL x) := by
  have := numL_len x
  exact ⟨_, t_writeNumber n u1 x hx (by rw [h.1]; omega) hf, h.wrL _ (by omega)⟩
theorem WrU.word_L (n : Nat) {a : Nat} {w : List Int} (hw : TxtR L (fun _ => 0) 0 a w) : ∀ (k i : Nat) (u1 : MS) (t : List Int), i ≤ w.length → w.length - i < k → WrU u0 u1 t → t.length + (w.length - i) ≤ 800 → ∃ u2, f_X12_writeWord_L2 n L (some a) k u1 (iI i) = some u2 ∧ WrU u0 u2 (t ++ w.drop i) := by
  have hsz := hw.size
  have hlen : w.length ≤ 300 := by obtain ⟨b, r, f, h1, h2, h3, h4⟩ := hw; exact h3
  intro k
  induction k with
  | zero => intro i u1 t _ h; omega
  | succ k ih =>
    intro i u1 t hi hk hW hl
    unfold f_X12_writeWord_L2
    rw [hw.is, if_pos rfl, hsz, Option.bind_some, it_le _ _ (by omega)]
    by_cases e : w.length ≤ i
    · rw [if_pos (by omega), List.drop_eq_nil_of_le e, List.append_nil]
      exact ⟨u1, rfl, hW⟩
    · have hlt : i < w.length := by omega
      obtain ⟨e1, e2⟩ := hW.one (by omega) (w.getD i 0)
      rw [if_neg (by omega), if_pos rfl, hw.chr i (by omega), Option.bind_some, Int.toNat_natCast, e1, Option.bind_some, show (1 : Int32) = iI 1 from rfl, iI_add]
      obtain ⟨u2, g1, g2⟩ := ih (i + 1) _ _ (by omega) (by omega) e2 (by rw [List.length_append]; show t.length + 1 + _ ≤ 800; omega)
      push_cast at g1
      refine ⟨u2, g1, ?_⟩
      rw [dropc w i hlt]
      have : w.getD i 0 = w[i] := by simp [List.getD, hlt]
      rw [this, List.append_assoc] at g2
      exact g2
theorem WrU.word (h : WrU u0 u1 t) (n : Nat) (hf : 400 ≤ n) {a : Nat} {w : List Int} (hw : TxtR L (fun _ => 0) 0 a w) (hl : t.length + w.length ≤ 800) : ∃ u2, f_X12_writeWord n L u1 (some a) = some u2 ∧ WrU u0 u2 (t ++ w) := by
  have hlen : w.length ≤ 300 := by obtain ⟨b, r, f, h1, h2, h3, h4⟩ := hw; exact h3
  obtain ⟨u2, g1, g2⟩ := WrU.word_L n hw n 0 u1 t (by omega) (by omega) h (by omega)
  rw [List.drop_zero] at g2
  exact ⟨u2, g1, g2⟩
theorem t_kindName (hS : LitOK S L) (u : MS) (k : Int) (hk : 0 ≤ k ∧ k ≤ 4) : ∃ a, f_X12_kindName S u (iI k) = some (some a) ∧ TxtR L (fun _ => 0) 0 a (kindT k) := by
  unfold f_X12_kindName
  rw [show (0 : Int32) = iI 0 from rfl, show (1 : Int32) = iI 1 from rfl, show (2 : Int32) = iI 2 from rfl, show (3 : Int32) = iI 3 from rfl, it_eq _ _ (by omega), it_eq _ _ (by omega), it_eq _ _ (by omega), it_eq _ _ (by omega)]
  rcases (by omega : k = 0 ∨ k = 1 ∨ k = 2 ∨ k = 3 ∨ k = 4) with rfl | rfl | rfl | rfl | rfl
  · exact ⟨_, rfl, hS 2 (by decide)⟩
  · exact ⟨_, rfl, hS 3 (by decide)⟩
  · exact ⟨_, rfl, hS 4 (by decide)⟩
  · exact ⟨_, rfl, hS 5 (by decide)⟩
  · exact ⟨_, rfl, hS 6 (by decide)⟩
theorem t_sortName (hS : LitOK S L) (u : MS) (k : Int) (hk : 0 ≤ k ∧ k ≤ 3) : ∃ a, f_X12_sortName S u (iI k) = some (some a) ∧ TxtR L (fun _ => 0) 0 a (sortT k) := by
  unfold f_X12_sortName
  rw [show (0 : Int32) = iI 0 from rfl, show (1 : Int32) = iI 1 from rfl, show (2 : Int32) = iI 2 from rfl, it_eq _ _ (by omega), it_eq _ _ (by omega), it_eq _ _ (by omega)]
  rcases (by omega : k = 0 ∨ k = 1 ∨ k = 2 ∨ k = 3) with rfl | rfl | rfl | rfl
  · exact ⟨_, rfl, hS 7 (by decide)⟩
  · exact ⟨_, rfl, hS 8 (by decide)⟩
  · exact ⟨_, rfl, hS 9 (by decide)⟩
  · exact ⟨_, rfl, hS 10 (by decide)⟩
theorem kindT_len (k : Int) : (kindT k).length ≤ 5 := by
  unfold kindT
  (repeat' split) <;> decide
theorem sortT_len (k : Int) : (sortT k).length ≤ 5 := by
  unfold sortT
  (repeat' split) <;> decide
theorem WrU.row (h : WrU u0 u1 t) {k : Nat} (hk : k ≠ 41) (i : Nat) : u1.2 k i = iI (vR u0 k i) := by rw [h.2.2.2.2 k hk, u2_iI]
theorem WrU.bars (hS : LitOK S L) (n : Nat) (hf : 400 ≤ n) (i : Nat) (hi : i < 16) : ∀ (k c : Nat) (x : Int) (u1 : MS) (t : List Int), x = 5 - c → c < k → c ≤ 5 → WrU u0 u1 t → t.length + 10 * c ≤ 800 → ∃ u2, f_X12_writeThing_L47 S n L (iI i) k u1 (iI x) = some u2 ∧ WrU u0 u2 (t ++ barT (u0.2 9 i) c x) := by
  intro k
  induction k with
  | zero => intro c x u1 t _ h; omega
  | succ k ih =>
    intro c x u1 t hx hk hc hW hl
    have q1 : inb (iI i) 16 := (iI_inb _ 16 (by omega)).mpr (by omega)
    unfold f_X12_writeThing_L47
    rw [show (5 : Int32) = iI 5 from rfl, it_le _ _ (by omega)]
    cases c with
    | zero =>
      rw [if_pos (by omega), barT, List.append_nil]
      exact ⟨u1, rfl, hW⟩
    | succ c =>
      rw [if_neg (by omega), if_pos q1, iI_clamp _ (by omega), Int.toNat_natCast, hW.2.2.2.2 9 (by decide), show (1 : Int32) = iI 1 from rfl, iI_add, barT]
      have hb := bit01 (u0.2 9 i >>> (iI x &&& 31))
      have e9 : ((x : Int) + 1) = 5 - (c : Nat) := by omega
      by_cases b : (u0.2 9 i >>> (iI x &&& 31)) &&& (1 : Int32) = 0
      · have b2 : barB (u0.2 9 i) x = false := by
          unfold barB
          rw [b]
          decide
        rw [if_pos (show (u0.2 9 i >>> (iI x &&& 31)) &&& iI 1 = 0 from b), b2, if_neg (by decide), List.nil_append]
        exact ih c (x + 1) u1 t e9 (by omega) (by omega) hW (by omega)
      · have b1 : (u0.2 9 i >>> (iI x &&& 31)) &&& (1 : Int32) = 1 := hb.resolve_left b
        have b2 : barB (u0.2 9 i) x = true := by
          unfold barB
          rw [b1]
          decide
        have hkl := kindT_len x
        obtain ⟨u2, g1, g2⟩ := hW.word n hf (hS 12 (by decide)) (by show t.length + 5 ≤ 800; omega)
        obtain ⟨a, k1, k2⟩ := t_kindName hS u2 x (by omega)
        obtain ⟨u3, g3, g4⟩ := g2.word n hf k2 (by rw [List.length_append]; show t.length + 5 + _ ≤ 800; omega)
        obtain ⟨u4, g5, g6⟩ := ih c (x + 1) u3 _ e9 (by omega) (by omega) g4 (by rw [List.length_append, List.length_append]; show t.length + 5 + _ + _ ≤ 800; omega)
        rw [if_neg (show ¬ (u0.2 9 i >>> (iI x &&& 31)) &&& iI 1 = 0 from b), g1, Option.bind_some, k1, Option.bind_some, g3, Option.bind_some, g5, b2, if_pos rfl]
        refine ⟨u4, rfl, ?_⟩
        have e : t ++ (([32, 110, 111, 116, 32] ++ kindT x) ++ barT (u0.2 9 i) c (x + 1)) = t ++ litT 12 ++ kindT x ++ barT (u0.2 9 i) c (x + 1) := by
          rw [show litT 12 = [32, 110, 111, 116, 32] from rfl]
          simp only [List.append_assoc]
        rw [e]
        exact g6
theorem barT_len (b : Int32) (c : Nat) (x : Int) : (barT b c x).length ≤ 10 * c := by
  induction c generalizing x with
  | zero => simp [barT]
  | succ c ih =>
    have := ih (x + 1)
    have hk := kindT_len x
    rw [barT, List.length_append]
    split
    · rw [List.length_append]
      show 5 + _ + _ ≤ _
      omega
    · simp only [List.length_nil]
      omega
theorem t_writeThing (hS : LitOK S L) (h : WrU u0 u1 []) (n : Nat) (hf : 400 ≤ n) (i : Nat) (hi : i < 16) (ht : ThiOK u0 i) : ∃ u2, f_X12_writeThing S n L u1 (iI i) = some u2 ∧ WrU u0 u2 (thiT u0 i) := by
  obtain ⟨t1, t2, t3⟩ := ht
  have q1 : inb (iI i) 16 := (iI_inb _ 16 (by omega)).mpr (by omega)
  have hkl := kindT_len (vR u0 6 i)
  have hn1 := numL_len (vR u0 7 i)
  have hn2 := numL_len (vR u0 8 i)
  obtain ⟨a, k1, k2⟩ := t_kindName hS u1 (vR u0 6 i) t1
  obtain ⟨v1, e1, w1⟩ := h.word n hf k2 (by simp; omega)
  obtain ⟨e2, w2⟩ := w1.one (by simp; omega) 32
  obtain ⟨v3, e3, w3⟩ := w2.num n (by omega) (vR u0 7 i) (by omega) (by simp; omega)
  obtain ⟨e4, w4⟩ := w3.one (by simp; omega) 32
  obtain ⟨v5, e5, w5⟩ := w4.num n (by omega) (vR u0 8 i) (by omega) (by simp; omega)
  obtain ⟨v6, e6, w6⟩ := WrU.bars hS n hf i hi n 5 0 v5 _ (by omega) (by omega) (by omega) w5 (by simp; omega)
  have ec : (iI (i : Int)).toNatClampNeg = i := by rw [iI_clamp _ (by omega), Int.toNat_natCast]
  unfold f_X12_writeThing
  simp only [if_pos q1, ec]
  rw [h.row (by decide), k1, Option.bind_some, e1, Option.bind_some, show (32 : Int32) = iI 32 from rfl, e2, Option.bind_some, w2.row (by decide), e3, Option.bind_some, e4, Option.bind_some, w4.row (by decide), e5, Option.bind_some, show (0 : Int32) = iI 0 from rfl, e6]
  refine ⟨v6, rfl, ?_⟩
  unfold thiT
  simp only [List.nil_append, List.append_assoc] at w6
  exact w6
theorem t_writeHouse (h : WrU u0 u1 []) (n : Nat) (hf : 400 ≤ n) (i : Nat) (hi : i < 6) (ht : HouK u0 i) : ∃ u2, f_X12_writeHouse n u1 (iI i) = some u2 ∧ WrU u0 u2 (houT u0 i) := by
  obtain ⟨t1, t2, t3, t4⟩ := ht
  have q1 : inb (iI i) 6 := (iI_inb _ 6 (by omega)).mpr (by omega)
  have hn1 := numL_len (vR u0 15 i)
  have hn2 := numL_len (vR u0 16 i)
  have hn3 := numL_len (vR u0 17 i)
  obtain ⟨v1, e1, w1⟩ := h.num n (by omega) (vR u0 15 i) (by omega) (by simp)
  obtain ⟨e2, w2⟩ := w1.one (by simp; omega) 32
  obtain ⟨v3, e3, w3⟩ := w2.num n (by omega) (vR u0 16 i) (by omega) (by simp; omega)
  obtain ⟨e4, w4⟩ := w3.one (by simp; omega) 32
  obtain ⟨v5, e5, w5⟩ := w4.num n (by omega) (vR u0 17 i) (by omega) (by simp; omega)
  obtain ⟨e6, w6⟩ := w5.one (by simp; omega) 32
  obtain ⟨v7, e7, w7⟩ := w6.num n (by omega) (vR u0 18 i) (by omega) (by simp; omega)
  have ec : (iI (i : Int)).toNatClampNeg = i := by rw [iI_clamp _ (by omega), Int.toNat_natCast]
  unfold f_X12_writeHouse
  simp only [if_pos q1, ec]
  rw [h.row (by decide), e1, Option.bind_some, show (32 : Int32) = iI 32 from rfl, e2, Option.bind_some, w2.row (by decide), e3, Option.bind_some, e4, Option.bind_some, w4.row (by decide), e5, Option.bind_some, e6, Option.bind_some, w6.row (by decide), e7, Option.bind_some]
  refine ⟨v7, rfl, ?_⟩
  unfold houT
  simp only [List.nil_append, List.append_assoc] at w7
  exact w7
theorem t_spans (hS : LitOK S L) (n : Nat) (hf : 400 ≤ n) (c : Nat) (hc : c < 8) (hs : SpnK u0 c) : ∀ (k m : Nat) (x : Int) (u1 : MS) (t : List Int), x = vR u0 20 c - m → m < k → (m : Int) ≤ vR u0 20 c → WrU u0 u1 t → t.length + 11 * m ≤ 800 → ∃ u2, f_X12_writeCourier_L2 S n L (iI c) k u1 (iI x) = some u2 ∧ WrU u0 u2 (t ++ spaT (fun k => vR u0 21 ((c : Int) * 40 + k).toNat) (fun k => vR u0 22 ((c : Int) * 40 + k).toNat) m x) := by
  obtain ⟨s1, s2⟩ := hs
  intro k
  induction k with
  | zero => intro m x u1 t _ h; omega
  | succ k ih =>
    intro m x u1 t hx hk hm hW hl
    have q1 : inb (iI c) 8 := (iI_inb _ 8 (by omega)).mpr (by omega)
    unfold f_X12_writeCourier_L2
    rw [if_pos q1, iI_clamp _ (by omega), Int.toNat_natCast, hW.row (by decide), it_le _ _ (by omega)]
    cases m with
    | zero =>
      rw [if_pos (by omega), spaT, List.append_nil]
      exact ⟨u1, rfl, hW⟩
    | succ m =>
      have q2 : inb (iI ((c : Int) * 40 + x)) 320 := (iI_inb _ 320 (by omega)).mpr (by omega)
      have hs2 := s2 x.toNat (by omega)
      rw [show c * 40 + x.toNat = ((c : Int) * 40 + x).toNat by omega] at hs2
      have e9 : ((x : Int) + 1) = vR u0 20 c - (m : Nat) := by omega
      have hn1 := numL_len (vR u0 21 ((c : Int) * 40 + x).toNat)
      have hn2 := numL_len (vR u0 22 ((c : Int) * 40 + x).toNat)
      have step : ∃ u2, ((if iI x ≤ 0 then (some u1) else ((f_X12_writeWord n L u1 (some (S 13))).bind fun r5 => some (r5))) : Option MS) = some u2 ∧ WrU u0 u2 (t ++ (if x > 0 then [44, 32] else [])) := by
        rw [show (0 : Int32) = iI 0 from rfl, it_le _ _ (by omega)]
        by_cases e : x ≤ 0
        · rw [if_pos e, if_neg (by omega), List.append_nil]
          exact ⟨u1, rfl, hW⟩
        · obtain ⟨u2, g1, g2⟩ := hW.word n hf (hS 13 (by decide)) (by show t.length + 2 ≤ 800; omega)
          rw [if_neg e, if_pos (by omega), g1]
          exact ⟨u2, rfl, g2⟩
      obtain ⟨v1, e1, w1⟩ := step
      have hl1 : (t ++ (if x > 0 then [44, 32] else [])).length ≤ t.length + 2 := by
        rw [List.length_append]
        split <;> simp
      obtain ⟨v2, e2, w2⟩ := w1.num n (by omega) (vR u0 21 ((c : Int) * 40 + x).toNat) (by omega) (by omega)
      have hl2 : (t ++ (if x > 0 then [44, 32] else []) ++ numL (vR u0 21 ((c : Int) * 40 + x).toNat)).length ≤ t.length + 6 := by
        rw [List.length_append]
        omega
      obtain ⟨e3, w3⟩ := w2.one (by omega) 45
      have hl3 : (t ++ (if x > 0 then [44, 32] else []) ++ numL (vR u0 21 ((c : Int) * 40 + x).toNat) ++ [45]).length ≤ t.length + 7 := by
        rw [List.length_append]
        show _ + 1 ≤ _
        omega
      obtain ⟨v4, e4, w4⟩ := w3.num n (by omega) (vR u0 22 ((c : Int) * 40 + x).toNat) (by omega) (by omega)
      obtain ⟨v5, e5, w5⟩ := ih m (x + 1) v4 _ e9 (by omega) (by omega) w4 (by rw [List.length_append]; omega)
      have ec : (iI ((c : Int) * 40 + x)).toNatClampNeg = ((c : Int) * 40 + x).toNat := iI_clamp _ (by omega)
      rw [if_neg (by omega), e1, Option.bind_some, show (40 : Int32) = iI 40 from rfl, iI_mul, iI_add]
      simp only [if_pos q2, ec]
      rw [w1.row (by decide), e2, Option.bind_some, show (45 : Int32) = iI 45 from rfl, e3, Option.bind_some, w3.row (by decide), e4, Option.bind_some, show (1 : Int32) = iI 1 from rfl, iI_add, e5]
      refine ⟨v5, rfl, ?_⟩
      rw [spaT]
      simp only [List.append_assoc] at w5
      exact w5
theorem t_writeCourier (hS : LitOK S L) (h : WrU u0 u1 []) (n : Nat) (hf : 400 ≤ n) (c : Nat) (hc : c < 8) (hs : SpnK u0 c) : ∃ u2, f_X12_writeCourier S n L u1 (iI c) = some u2 ∧ WrU u0 u2 (couT u0 c) := by
  have h1 := hs.1
  obtain ⟨u2, e, w⟩ := t_spans hS n hf c hc hs n (vR u0 20 c).toNat 0 u1 [] (by omega) (by omega) (by omega) h (by simp; omega)
  rw [List.nil_append] at w
  exact ⟨u2, e, w⟩
theorem t_tell (h : WrU u0 u1 t) (k : Int) (hk : -2147483648 ≤ k ∧ k < 2147483648) : f_X12_tell u1 (iI k) = if 0 ≤ k ∧ k < t.length then fineS u1 (t.getD k.toNat 0) else noS u1 1 := by
  obtain ⟨h1, h2, h3, h4, h5⟩ := h
  unfold f_X12_tell
  have e0 := t_isIn u1 k 0 ((t.length : Int) - 1) hk (by omega) (by omega)
  rw [u1_iI, h1, show (1 : Int32) = iI 1 from rfl, iI_sub, show f_X12_isIn u1 (iI k) 0 (iI ((t.length : Int) - 1)) = _ from e0, Option.bind_some]
  simp only [b0z]
  by_cases c : 0 ≤ k ∧ k < t.length
  · have q1 : inb (iI k) 800 := (iI_inb _ 800 (by omega)).mpr (by omega)
    rw [if_neg (by omega), if_pos q1, iI_clamp _ (by omega), h3 k.toNat (by omega), if_pos c]
    rfl
  · rw [if_pos (by omega), if_neg c]
    rfl
end WR
