/-! FEED -/
section FEED
variable {B : Nat} {S : Nat → Nat} {L : Mem} {x0 : Nat} {ad rho : Nat → Nat} {xl : Nat → List Nat} {M M1 : Mem} {u w : MS} {sz nc nr : Nat}
def byT (v c : Int32) : Int32 := (v >>> (c &&& 31)) &&& (255 : Int32)
def app4 (f : Nat → Int32) (s : Int) (v : Int32) : Nat → Int32 := upd (upd (upd (upd f s.toNat (byT v 24)) (s + 1).toNat (byT v 16)) (s + 1 + 1).toNat (byT v 8)) (s + 1 + 1 + 1).toNat (byT v 0)
theorem z_app1 {a b : Nat} {s : Int} {f : Nat → Int32} (h : TP M a b s f) (hB : B ≤ a ∧ B ≤ b) (hs : 0 ≤ s ∧ s < 120) (n k : Nat) (v : Int32) (c : Int) (hc : 0 ≤ c ∧ c ≤ 24) : ∃ M8, f_X9_append_L3 B n (some a) v (k + 1) M (iI c) = f_X9_append_L3 B n (some a) v k M8 (iI (c - 8)) ∧ TP M8 a b (s + 1) (upd f s.toNat ((v.toUInt32 >>> ((iI c).toUInt32 &&& Int32.toUInt32 31)).toInt32 &&& (255 : Int32))) ∧ ∀ q, q ≠ a → q ≠ b → M8 q = M q := by
  have hne := h.ne
  refine ⟨va_up (va_up M b (some (.inr (.inl (0, 120, upd f s.toNat ((v.toUInt32 >>> ((iI c).toUInt32 &&& Int32.toUInt32 31)).toInt32 &&& (255 : Int32))))))) a (some (.inl (12, [.ref b, .int (iI (s + 1))]))), ?_, ⟨va_up_self .., ?_⟩, ?_⟩
  · have h6 : (va_up M b (some (.inr (.inl (0, 120, upd f s.toNat ((v.toUInt32 >>> ((iI c).toUInt32 &&& Int32.toUInt32 31)).toInt32 &&& (255 : Int32))))))) a = some (.inl (12, [.ref b, .int (iI s)])) := by
      rw [va_up_ne _ _ hne]
      exact h.1
    conv => lhs; unfold f_X9_append_L3
    rw [iI_zero, it_lt _ _ (by omega), if_neg (by omega), gI_at h.1, gR_at h.1]
    simp only [List.getElem?_cons_zero, List.getElem?_cons_succ, Option.bind_some]
    rw [show (120 : Int32) = iI 120 from rfl, it_le _ _ (by omega), if_neg (by omega), sI_at hB.2 h.2 (by omega) (by omega), Option.bind_some, gI_at h6]
    simp only [List.getElem?_cons_zero, List.getElem?_cons_succ, Option.bind_some]
    rw [pF_at hB.1 h6, if_pos (by simp), Option.bind_some, show (1 : Int32) = iI 1 from rfl, iI_add, show (-8 : Int32) = iI (-8) from rfl, iI_add]
    rfl
  · rw [va_up_ne _ _ hne.symm, va_up_self]
  · intro q q1 q2
    rw [va_up_ne _ _ q1, va_up_ne _ _ q2]
theorem z_append {a b : Nat} {s : Int} {f : Nat → Int32} (h : TP M a b s f) (hB : B ≤ a ∧ B ≤ b) (hs : 0 ≤ s ∧ s + 4 ≤ 120) (n : Nat) (hn : 60 ≤ n) (v : Int32) : ∃ M8, f_X9_append B n M (some a) v = some M8 ∧ TP M8 a b (s + 1 + 1 + 1 + 1) (app4 f s v) ∧ ∀ q, q ≠ a → q ≠ b → M8 q = M q := by
  obtain ⟨k, rfl⟩ : ∃ k, n = k + 1 + 1 + 1 + 1 + 1 := ⟨n - 5, by omega⟩
  obtain ⟨N1, e1, h1, f1⟩ := z_app1 h hB (by omega) (k + 1 + 1 + 1 + 1 + 1) (k + 1 + 1 + 1 + 1) v 24 (by omega)
  obtain ⟨N2, e2, h2, f2⟩ := z_app1 h1 hB (by omega) (k + 1 + 1 + 1 + 1 + 1) (k + 1 + 1 + 1) v 16 (by omega)
  obtain ⟨N3, e3, h3, f3⟩ := z_app1 h2 hB (by omega) (k + 1 + 1 + 1 + 1 + 1) (k + 1 + 1) v 8 (by omega)
  obtain ⟨N4, e4, h4, f4⟩ := z_app1 h3 hB (by omega) (k + 1 + 1 + 1 + 1 + 1) (k + 1) v 0 (by omega)
  refine ⟨N4, ?_, ?_, fun q q1 q2 => by rw [f4 q q1 q2, f3 q q1 q2, f2 q q1 q2, f1 q q1 q2]⟩
  · unfold f_X9_append
    rw [show (24 : Int32) = iI 24 from rfl, e1, show (24 : Int) - 8 = 16 from rfl, e2, show (16 : Int) - 8 = 8 from rfl, e3, show (8 : Int) - 8 = 0 from rfl, e4]
    unfold f_X9_append_L3
    rw [if_pos (by decide)]
  · rw [sh_24, sh_16, sh_8, sh_0] at h4
    exact h4
theorem and255 (x : Int32) : 0 ≤ (x &&& (255 : Int32)).toInt ∧ (x &&& (255 : Int32)).toInt ≤ 255 := by
  have e : (x &&& (255 : Int32)).toInt = (x.toBitVec &&& 255#32).toInt := rfl
  have e2 : (x.toBitVec &&& 255#32).toNat ≤ 255 := by
    rw [BitVec.toNat_and]
    exact Nat.and_le_right
  rw [e, BitVec.toInt_eq_toNat_of_lt (by omega)]
  omega
theorem app4_byte {f : Nat → Int32} {s : Int} (v : Int32) (hs : 0 ≤ s) (hf : ∀ k : Nat, k < s.toNat → 0 ≤ (f k).toInt ∧ (f k).toInt ≤ 255) : ∀ k : Nat, k < (s + 1 + 1 + 1 + 1).toNat → 0 ≤ (app4 f s v k).toInt ∧ (app4 f s v k).toInt ≤ 255 := fun k hk => by
  unfold app4 upd
  by_cases c1 : k = (s + 1 + 1 + 1).toNat
  · rw [if_pos c1]
    exact and255 _
  · rw [if_neg c1]
    by_cases c2 : k = (s + 1 + 1).toNat
    · rw [if_pos c2]
      exact and255 _
    · rw [if_neg c2]
      by_cases c3 : k = (s + 1).toNat
      · rw [if_pos c3]
        exact and255 _
      · rw [if_neg c3]
        by_cases c4 : k = s.toNat
        · rw [if_pos c4]
          exact and255 _
        · rw [if_neg c4]
          exact hf k (by omega)
/-- the reference's step -/
def FdU (u0 uz : MS) (s : Int) (f : Nat → Int32) : Prop := vN uz 1 = s ∧ uz.2 0 = f ∧ (∀ k, k ≠ 1 → uz.1 k = u0.1 k) ∧ ∀ k, k ≠ 0 → uz.2 k = u0.2 k
theorem t_fd1 {u0 uz : MS} {s : Int} {f : Nat → Int32} (h : FdU u0 uz s f) (hs : 0 ≤ s ∧ s < 120) (n k : Nat) (x1 x2 x3 x4 x5 v c : Int32) (i : Int) (hi : 0 ≤ i ∧ i < 20) (hsel : (if (4 : Int32) ≤ iI i then (if (8 : Int32) ≤ iI i then (if (12 : Int32) ≤ iI i then (if (16 : Int32) ≤ iI i then (some (x5)) else (some (x4))) else (some (x3))) else (some (x2))) else (some (x1)) : Option Int32) = some v) (hc : ((24 : Int32) - ((8 : Int32) * (iI i - iI i / (4 : Int32) * (4 : Int32)))) = c) : ∃ u8, f_X12_feed_L22 n x1 x2 x3 x4 x5 (k + 1) uz (iI i) = f_X12_feed_L22 n x1 x2 x3 x4 x5 k u8 (iI (i + 1)) ∧ FdU u0 u8 (s + 1) (upd f s.toNat (byT v c)) := by
  obtain ⟨h1, h2, h3, h4⟩ := h
  have q1 : inb (iI s) 120 := (iI_inb s 120 (by omega)).mpr (by omega)
  refine ⟨uI (uA uz 0 s.toNat (byT v c)) 1 (iI (s + 1)), ?_, ?_, ?_, ?_, ?_⟩
  · conv => lhs; unfold f_X12_feed_L22
    rw [show (20 : Int32) = iI 20 from rfl, it_le _ _ (by omega), if_neg (by omega), hsel, Option.bind_some, hc, u1_iI uz 1, h1, if_pos q1, iI_clamp s (by omega)]
    rw [show (uA uz 0 s.toNat ((v >>> (c &&& 31)) &&& (255 : Int32))).1 1 = iI s from by rw [← h1]; exact u1_iI uz 1, show (1 : Int32) = iI 1 from rfl, iI_add, iI_add]
    rfl
  · rw [vN_uI _ _ _ _ (by omega), if_pos rfl]
  · show va_up uz.2 0 (upd (uz.2 0) s.toNat (byT v c)) 0 = _
    rw [va_up_self, h2]
  · intro k hk
    show upd uz.1 1 _ k = _
    rw [← h3 k hk]
    simp [upd, hk]
  · intro k hk
    show va_up uz.2 0 _ k = _
    rw [va_up_ne _ _ hk]
    exact h4 k hk
theorem t_feed (u : MS) (x1 x2 x3 x4 x5 : Int32) (h : NumOK u) (n : Nat) (hn : 2100 ≤ n) : (¬ vN u 1 + 20 ≤ 120 ∧ f_X12_feed n u x1 x2 x3 x4 x5 = noS u 9) ∨ ∃ u8, vN u 1 + 20 ≤ 120 ∧ f_X12_feed n u x1 x2 x3 x4 x5 = fineS u8 (vN u 1 + 20) ∧ FdU u u8 (vN u 1 + 1 + 1 + 1 + 1 + 1 + 1 + 1 + 1 + 1 + 1 + 1 + 1 + 1 + 1 + 1 + 1 + 1 + 1 + 1 + 1) (app4 (app4 (app4 (app4 (app4 (u.2 0) (vN u 1) x1) (vN u 1 + 1 + 1 + 1 + 1) x2) (vN u 1 + 1 + 1 + 1 + 1 + 1 + 1 + 1 + 1) x3) (vN u 1 + 1 + 1 + 1 + 1 + 1 + 1 + 1 + 1 + 1 + 1 + 1 + 1) x4) (vN u 1 + 1 + 1 + 1 + 1 + 1 + 1 + 1 + 1 + 1 + 1 + 1 + 1 + 1 + 1 + 1 + 1) x5) := by
  have h1 := h.1
  unfold f_X12_feed
  rw [u1_iI, show (20 : Int32) = iI 20 from rfl, iI_add, show (120 : Int32) = iI 120 from rfl, it_le _ _ (by omega)]
  by_cases c : vN u 1 + 20 ≤ 120
  · right
    rw [if_pos c]
    have g0 : FdU u u (vN u 1) (u.2 0) := ⟨rfl, rfl, fun _ _ => rfl, fun _ _ => rfl⟩
    obtain ⟨k, rfl⟩ : ∃ k, n = k + 21 := ⟨n - 21, by omega⟩
    obtain ⟨w1, e1, g1⟩ := t_fd1 g0 (by omega) (k + 21) (k + 20) x1 x2 x3 x4 x5 x1 24 0 (by omega) (by simp only [show ((4 : Int32) ≤ iI 0) = False from by decide, show ((8 : Int32) ≤ iI 0) = False from by decide, show ((12 : Int32) ≤ iI 0) = False from by decide, show ((16 : Int32) ≤ iI 0) = False from by decide, if_true, if_false]) (by decide)
    obtain ⟨w2, e2, g2⟩ := t_fd1 g1 (by omega) (k + 21) (k + 19) x1 x2 x3 x4 x5 x1 16 1 (by omega) (by simp only [show ((4 : Int32) ≤ iI 1) = False from by decide, show ((8 : Int32) ≤ iI 1) = False from by decide, show ((12 : Int32) ≤ iI 1) = False from by decide, show ((16 : Int32) ≤ iI 1) = False from by decide, if_true, if_false]) (by decide)
    obtain ⟨w3, e3, g3⟩ := t_fd1 g2 (by omega) (k + 21) (k + 18) x1 x2 x3 x4 x5 x1 8 2 (by omega) (by simp only [show ((4 : Int32) ≤ iI 2) = False from by decide, show ((8 : Int32) ≤ iI 2) = False from by decide, show ((12 : Int32) ≤ iI 2) = False from by decide, show ((16 : Int32) ≤ iI 2) = False from by decide, if_true, if_false]) (by decide)
    obtain ⟨w4, e4, g4⟩ := t_fd1 g3 (by omega) (k + 21) (k + 17) x1 x2 x3 x4 x5 x1 0 3 (by omega) (by simp only [show ((4 : Int32) ≤ iI 3) = False from by decide, show ((8 : Int32) ≤ iI 3) = False from by decide, show ((12 : Int32) ≤ iI 3) = False from by decide, show ((16 : Int32) ≤ iI 3) = False from by decide, if_true, if_false]) (by decide)
    obtain ⟨w5, e5, g5⟩ := t_fd1 g4 (by omega) (k + 21) (k + 16) x1 x2 x3 x4 x5 x2 24 4 (by omega) (by simp only [show ((4 : Int32) ≤ iI 4) = True from by decide, show ((8 : Int32) ≤ iI 4) = False from by decide, show ((12 : Int32) ≤ iI 4) = False from by decide, show ((16 : Int32) ≤ iI 4) = False from by decide, if_true, if_false]) (by decide)
    obtain ⟨w6, e6, g6⟩ := t_fd1 g5 (by omega) (k + 21) (k + 15) x1 x2 x3 x4 x5 x2 16 5 (by omega) (by simp only [show ((4 : Int32) ≤ iI 5) = True from by decide, show ((8 : Int32) ≤ iI 5) = False from by decide, show ((12 : Int32) ≤ iI 5) = False from by decide, show ((16 : Int32) ≤ iI 5) = False from by decide, if_true, if_false]) (by decide)
    obtain ⟨w7, e7, g7⟩ := t_fd1 g6 (by omega) (k + 21) (k + 14) x1 x2 x3 x4 x5 x2 8 6 (by omega) (by simp only [show ((4 : Int32) ≤ iI 6) = True from by decide, show ((8 : Int32) ≤ iI 6) = False from by decide, show ((12 : Int32) ≤ iI 6) = False from by decide, show ((16 : Int32) ≤ iI 6) = False from by decide, if_true, if_false]) (by decide)
    obtain ⟨w8, e8, g8⟩ := t_fd1 g7 (by omega) (k + 21) (k + 13) x1 x2 x3 x4 x5 x2 0 7 (by omega) (by simp only [show ((4 : Int32) ≤ iI 7) = True from by decide, show ((8 : Int32) ≤ iI 7) = False from by decide, show ((12 : Int32) ≤ iI 7) = False from by decide, show ((16 : Int32) ≤ iI 7) = False from by decide, if_true, if_false]) (by decide)
    obtain ⟨w9, e9, g9⟩ := t_fd1 g8 (by omega) (k + 21) (k + 12) x1 x2 x3 x4 x5 x3 24 8 (by omega) (by simp only [show ((4 : Int32) ≤ iI 8) = True from by decide, show ((8 : Int32) ≤ iI 8) = True from by decide, show ((12 : Int32) ≤ iI 8) = False from by decide, show ((16 : Int32) ≤ iI 8) = False from by decide, if_true, if_false]) (by decide)
    obtain ⟨w10, e10, g10⟩ := t_fd1 g9 (by omega) (k + 21) (k + 11) x1 x2 x3 x4 x5 x3 16 9 (by omega) (by simp only [show ((4 : Int32) ≤ iI 9) = True from by decide, show ((8 : Int32) ≤ iI 9) = True from by decide, show ((12 : Int32) ≤ iI 9) = False from by decide, show ((16 : Int32) ≤ iI 9) = False from by decide, if_true, if_false]) (by decide)
    obtain ⟨w11, e11, g11⟩ := t_fd1 g10 (by omega) (k + 21) (k + 10) x1 x2 x3 x4 x5 x3 8 10 (by omega) (by simp only [show ((4 : Int32) ≤ iI 10) = True from by decide, show ((8 : Int32) ≤ iI 10) = True from by decide, show ((12 : Int32) ≤ iI 10) = False from by decide, show ((16 : Int32) ≤ iI 10) = False from by decide, if_true, if_false]) (by decide)
    obtain ⟨w12, e12, g12⟩ := t_fd1 g11 (by omega) (k + 21) (k + 9) x1 x2 x3 x4 x5 x3 0 11 (by omega) (by simp only [show ((4 : Int32) ≤ iI 11) = True from by decide, show ((8 : Int32) ≤ iI 11) = True from by decide, show ((12 : Int32) ≤ iI 11) = False from by decide, show ((16 : Int32) ≤ iI 11) = False from by decide, if_true, if_false]) (by decide)
    obtain ⟨w13, e13, g13⟩ := t_fd1 g12 (by omega) (k + 21) (k + 8) x1 x2 x3 x4 x5 x4 24 12 (by omega) (by simp only [show ((4 : Int32) ≤ iI 12) = True from by decide, show ((8 : Int32) ≤ iI 12) = True from by decide, show ((12 : Int32) ≤ iI 12) = True from by decide, show ((16 : Int32) ≤ iI 12) = False from by decide, if_true, if_false]) (by decide)
    obtain ⟨w14, e14, g14⟩ := t_fd1 g13 (by omega) (k + 21) (k + 7) x1 x2 x3 x4 x5 x4 16 13 (by omega) (by simp only [show ((4 : Int32) ≤ iI 13) = True from by decide, show ((8 : Int32) ≤ iI 13) = True from by decide, show ((12 : Int32) ≤ iI 13) = True from by decide, show ((16 : Int32) ≤ iI 13) = False from by decide, if_true, if_false]) (by decide)
    obtain ⟨w15, e15, g15⟩ := t_fd1 g14 (by omega) (k + 21) (k + 6) x1 x2 x3 x4 x5 x4 8 14 (by omega) (by simp only [show ((4 : Int32) ≤ iI 14) = True from by decide, show ((8 : Int32) ≤ iI 14) = True from by decide, show ((12 : Int32) ≤ iI 14) = True from by decide, show ((16 : Int32) ≤ iI 14) = False from by decide, if_true, if_false]) (by decide)
    obtain ⟨w16, e16, g16⟩ := t_fd1 g15 (by omega) (k + 21) (k + 5) x1 x2 x3 x4 x5 x4 0 15 (by omega) (by simp only [show ((4 : Int32) ≤ iI 15) = True from by decide, show ((8 : Int32) ≤ iI 15) = True from by decide, show ((12 : Int32) ≤ iI 15) = True from by decide, show ((16 : Int32) ≤ iI 15) = False from by decide, if_true, if_false]) (by decide)
    obtain ⟨w17, e17, g17⟩ := t_fd1 g16 (by omega) (k + 21) (k + 4) x1 x2 x3 x4 x5 x5 24 16 (by omega) (by simp only [show ((4 : Int32) ≤ iI 16) = True from by decide, show ((8 : Int32) ≤ iI 16) = True from by decide, show ((12 : Int32) ≤ iI 16) = True from by decide, show ((16 : Int32) ≤ iI 16) = True from by decide, if_true, if_false]) (by decide)
    obtain ⟨w18, e18, g18⟩ := t_fd1 g17 (by omega) (k + 21) (k + 3) x1 x2 x3 x4 x5 x5 16 17 (by omega) (by simp only [show ((4 : Int32) ≤ iI 17) = True from by decide, show ((8 : Int32) ≤ iI 17) = True from by decide, show ((12 : Int32) ≤ iI 17) = True from by decide, show ((16 : Int32) ≤ iI 17) = True from by decide, if_true, if_false]) (by decide)
    obtain ⟨w19, e19, g19⟩ := t_fd1 g18 (by omega) (k + 21) (k + 2) x1 x2 x3 x4 x5 x5 8 18 (by omega) (by simp only [show ((4 : Int32) ≤ iI 18) = True from by decide, show ((8 : Int32) ≤ iI 18) = True from by decide, show ((12 : Int32) ≤ iI 18) = True from by decide, show ((16 : Int32) ≤ iI 18) = True from by decide, if_true, if_false]) (by decide)
    obtain ⟨w20, e20, g20⟩ := t_fd1 g19 (by omega) (k + 21) (k + 1) x1 x2 x3 x4 x5 x5 0 19 (by omega) (by simp only [show ((4 : Int32) ≤ iI 19) = True from by decide, show ((8 : Int32) ≤ iI 19) = True from by decide, show ((12 : Int32) ≤ iI 19) = True from by decide, show ((16 : Int32) ≤ iI 19) = True from by decide, if_true, if_false]) (by decide)
    refine ⟨w20, c, ?_, g20⟩
    show f_X12_feed_L22 (k + 21) x1 x2 x3 x4 x5 (k + 20 + 1) u (iI 0) = _
    rw [e1, show ((0 : Int) + 1) = 1 from rfl]
    show f_X12_feed_L22 (k + 21) x1 x2 x3 x4 x5 (k + 19 + 1) w1 (iI 1) = _
    rw [e2, show ((1 : Int) + 1) = 2 from rfl]
    show f_X12_feed_L22 (k + 21) x1 x2 x3 x4 x5 (k + 18 + 1) w2 (iI 2) = _
    rw [e3, show ((2 : Int) + 1) = 3 from rfl]
    show f_X12_feed_L22 (k + 21) x1 x2 x3 x4 x5 (k + 17 + 1) w3 (iI 3) = _
    rw [e4, show ((3 : Int) + 1) = 4 from rfl]
    show f_X12_feed_L22 (k + 21) x1 x2 x3 x4 x5 (k + 16 + 1) w4 (iI 4) = _
    rw [e5, show ((4 : Int) + 1) = 5 from rfl]
    show f_X12_feed_L22 (k + 21) x1 x2 x3 x4 x5 (k + 15 + 1) w5 (iI 5) = _
    rw [e6, show ((5 : Int) + 1) = 6 from rfl]
    show f_X12_feed_L22 (k + 21) x1 x2 x3 x4 x5 (k + 14 + 1) w6 (iI 6) = _
    rw [e7, show ((6 : Int) + 1) = 7 from rfl]
    show f_X12_feed_L22 (k + 21) x1 x2 x3 x4 x5 (k + 13 + 1) w7 (iI 7) = _
    rw [e8, show ((7 : Int) + 1) = 8 from rfl]
    show f_X12_feed_L22 (k + 21) x1 x2 x3 x4 x5 (k + 12 + 1) w8 (iI 8) = _
    rw [e9, show ((8 : Int) + 1) = 9 from rfl]
    show f_X12_feed_L22 (k + 21) x1 x2 x3 x4 x5 (k + 11 + 1) w9 (iI 9) = _
    rw [e10, show ((9 : Int) + 1) = 10 from rfl]
    show f_X12_feed_L22 (k + 21) x1 x2 x3 x4 x5 (k + 10 + 1) w10 (iI 10) = _
    rw [e11, show ((10 : Int) + 1) = 11 from rfl]
    show f_X12_feed_L22 (k + 21) x1 x2 x3 x4 x5 (k + 9 + 1) w11 (iI 11) = _
    rw [e12, show ((11 : Int) + 1) = 12 from rfl]
    show f_X12_feed_L22 (k + 21) x1 x2 x3 x4 x5 (k + 8 + 1) w12 (iI 12) = _
    rw [e13, show ((12 : Int) + 1) = 13 from rfl]
    show f_X12_feed_L22 (k + 21) x1 x2 x3 x4 x5 (k + 7 + 1) w13 (iI 13) = _
    rw [e14, show ((13 : Int) + 1) = 14 from rfl]
    show f_X12_feed_L22 (k + 21) x1 x2 x3 x4 x5 (k + 6 + 1) w14 (iI 14) = _
    rw [e15, show ((14 : Int) + 1) = 15 from rfl]
    show f_X12_feed_L22 (k + 21) x1 x2 x3 x4 x5 (k + 5 + 1) w15 (iI 15) = _
    rw [e16, show ((15 : Int) + 1) = 16 from rfl]
    show f_X12_feed_L22 (k + 21) x1 x2 x3 x4 x5 (k + 4 + 1) w16 (iI 16) = _
    rw [e17, show ((16 : Int) + 1) = 17 from rfl]
    show f_X12_feed_L22 (k + 21) x1 x2 x3 x4 x5 (k + 3 + 1) w17 (iI 17) = _
    rw [e18, show ((17 : Int) + 1) = 18 from rfl]
    show f_X12_feed_L22 (k + 21) x1 x2 x3 x4 x5 (k + 2 + 1) w18 (iI 18) = _
    rw [e19, show ((18 : Int) + 1) = 19 from rfl]
    show f_X12_feed_L22 (k + 21) x1 x2 x3 x4 x5 (k + 1 + 1) w19 (iI 19) = _
    rw [e20, show ((19 : Int) + 1) = 20 from rfl]
    show f_X12_feed_L22 (k + 21) x1 x2 x3 x4 x5 (k + 0 + 1) w20 (iI 20) = _
    unfold f_X12_feed_L22
    rw [if_pos (by decide), u1_iI w20 1, g20.1, t_fine]
    congr 1
    omega
  · left
    rw [if_neg c]
    exact ⟨c, rfl⟩
theorem q_feed (hL : LOK B L) (h : RepK B S L x0 ad rho xl M u sz) (hI : Inv u xl) (x1 x2 x3 x4 x5 : Int32) : Ans B S L x0 sz (vN u 19).toNat (vN u 33).toNat (f_X11_feed B 4000 M (some x0) x1 x2 x3 x4 x5) (f_X12_feed 4000 u x1 x2 x3 x4 x5) := by
  have h1 := hI.n1
  obtain ⟨b, tp, o1, o2⟩ := h.2.1.2.1.tp
  have hb2 : B ≤ ad 2 ∧ B ≤ b := ⟨(h.1.2 _ (by rw [o1]; decide)).1, (h.1.2 _ (by rw [o2]; decide)).1⟩
  have ox := h.2.1.1.2
  have hx : x0 ≠ ad 2 := fun e => by rw [e, o1] at ox; cases ox
  have hx2 : x0 ≠ b := fun e => by rw [e, o2] at ox; cases ox
  unfold f_X11_feed f_X9_hasRoomForFive f_X9_size
  rw [isO_at h.book, if_pos rfl, gR_at h.book]
  simp only [booF, List.getElem?_cons_zero, List.getElem?_cons_succ, Option.bind_some]
  rw [isO_at tp.1, if_pos rfl, gI_at tp.1]
  simp only [List.getElem?_cons_zero, List.getElem?_cons_succ, Option.bind_some, if_true]
  rw [show (20 : Int32) = iI 20 from rfl, iI_add, show (120 : Int32) = iI 120 from rfl, it_lt _ _ (by omega), z_refuse9 h, noKb]
  rcases t_feed u x1 x2 x3 x4 x5 hI.num 4000 (by omega) with ⟨c, e⟩ | ⟨u8, c, e, g⟩
  · rw [e, if_pos (by omega), Option.bind_some, if_pos rfl]
    exact ans_no hL h hI 9
  · rw [e, if_neg (by omega), Option.bind_some, if_neg (by decide)]
    obtain ⟨N1, z1, p1, f1⟩ := z_append tp hb2 (by omega) 4000 (by omega) x1
    have k1 : N1 x0 = M x0 := f1 x0 hx hx2
    obtain ⟨N2, z2, p2, f2⟩ := z_append p1 hb2 (by omega) 4000 (by omega) x2
    have k2 : N2 x0 = M x0 := (f2 x0 hx hx2).trans k1
    obtain ⟨N3, z3, p3, f3⟩ := z_append p2 hb2 (by omega) 4000 (by omega) x3
    have k3 : N3 x0 = M x0 := (f3 x0 hx hx2).trans k2
    obtain ⟨N4, z4, p4, f4⟩ := z_append p3 hb2 (by omega) 4000 (by omega) x4
    have k4 : N4 x0 = M x0 := (f4 x0 hx hx2).trans k3
    obtain ⟨N5, z5, p5, f5⟩ := z_append p4 hb2 (by omega) 4000 (by omega) x5
    have k5 : N5 x0 = M x0 := (f5 x0 hx hx2).trans k4
    have fr : ∀ q, q ≠ ad 2 → q ≠ b → N5 q = M q := fun q q1 q2 => by rw [f5 q q1 q2, f4 q q1 q2, f3 q q1 q2, f2 q q1 q2, f1 q q1 q2]
    rw [h.book] at k1 k2 k3 k4 k5
    have hw : topU u u8 = u8 := topU_self (fun k q _ _ _ _ => g.2.2.1 k q) (fun k q _ => g.2.2.2 k q)
    have hby8 : TapB u8 := by
      intro k hk
      rw [g.1] at hk
      unfold vR
      rw [g.2.1]
      exact app4_byte x5 (by omega) (app4_byte x4 (by omega) (app4_byte x3 (by omega) (app4_byte x2 (by omega) (app4_byte x1 (by omega) (fun q hq => h.2.1.2.1.1 q hq))))) k hk
    have hk : RepK B S L x0 ad rho xl N5 u8 sz := by
      rw [← hw]
      refine h.top hL (fun id hid a ha => ⟨fr a (fun e => ?_) (fun e => ?_), ha⟩) (fun a ha => fr a (by omega) (by omega)) ?_ ⟨hby8, b, ⟨?_, o1⟩, ⟨?_, o2⟩⟩ ?_
      · rw [e, o1] at ha; omega
      · rw [e, o2] at ha; omega
      · rw [g.2.2.1 4 (by decide), g.2.2.1 2 (by decide)]
        exact k5
      · rw [p5.1, u1_iI u8 1, g.1]
      · rw [p5.2, g.2.1]
      · have := h.2.1.2.2.1.fr (M1 := N5) (rho1 := rho) (fun a ha => ⟨fr a (fun e => by rw [e, o1] at ha; omega) (fun e => by rw [e, o2] at ha; omega), ha⟩)
        unfold ReaR at *
        rw [g.2.2.1 3 (by decide)]
        exact this
    have hI2 : Inv u8 xl := by
      rw [← hw]
      exact hI.top (by rw [g.1]; omega)
    have ec : vN u8 19 = vN u 19 ∧ vN u8 33 = vN u 33 := ⟨by unfold vN; rw [g.2.2.1 19 (by decide)], by unfold vN; rw [g.2.2.1 33 (by decide)]⟩
    rw [z1, Option.bind_some, gR_at k1]
    simp only [booF, List.getElem?_cons_zero, List.getElem?_cons_succ, Option.bind_some]
    rw [isO_at p1.1, if_pos rfl, z2, Option.bind_some, gR_at k2]
    simp only [booF, List.getElem?_cons_zero, List.getElem?_cons_succ, Option.bind_some]
    rw [isO_at p2.1, if_pos rfl, z3, Option.bind_some, gR_at k3]
    simp only [booF, List.getElem?_cons_zero, List.getElem?_cons_succ, Option.bind_some]
    rw [isO_at p3.1, if_pos rfl, z4, Option.bind_some, gR_at k4]
    simp only [booF, List.getElem?_cons_zero, List.getElem?_cons_succ, Option.bind_some]
    rw [isO_at p4.1, if_pos rfl, z5, Option.bind_some, gR_at k5]
    simp only [booF, List.getElem?_cons_zero, List.getElem?_cons_succ, Option.bind_some]
    rw [isO_at p5.1, if_pos rfl, gI_at p5.1]
    simp only [List.getElem?_cons_zero, List.getElem?_cons_succ, Option.bind_some]
    rw [isO_at k5, if_pos rfl, z_answer hk, fineKb, show vN u 1 + 1 + 1 + 1 + 1 + 1 + 1 + 1 + 1 + 1 + 1 + 1 + 1 + 1 + 1 + 1 + 1 + 1 + 1 + 1 + 1 = vN u 1 + 20 by omega, ← ec.1, ← ec.2]
    exact ans_fine hL hk hI2 _
end FEED
