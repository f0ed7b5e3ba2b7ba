/-! COURIER: the class makes one -/
theorem anyI_last (p : Int → Bool) (c : Nat) (i : Int) : anyI p (c + 1) i = (anyI p c i || p (i + c)) := by
  induction c generalizing i with
  | zero => simp [anyI]
  | succ c ih =>
    rw [anyI, ih (i + 1), anyI, Bool.or_assoc, show i + 1 + (c : Int) = i + ((c + 1 : Nat) : Int) by omega]
theorem numL_len3 (x : Int) (h : x < 1000) : (numL x).length ≤ 3 := by
  unfold numL
  rw [if_pos h]
  (repeat' split) <;> simp
theorem okS_all {t : List Int} {c : Nat} (ht : t.length = 2 * c) {a : Int} (h : okS a t = true) : ∀ i, i < c → t.getD (2 * i) 0 ≤ t.getD (2 * i + 1) 0 ∧ t.getD (2 * i + 1) 0 < 1000 := by
  have key : ∀ i, i ≤ c → ∃ b, okS b (t.drop (2 * i)) = true := by
    intro i
    induction i with
    | zero => exact fun _ => ⟨a, h⟩
    | succ i ih =>
      intro hi
      obtain ⟨b, hb⟩ := ih (by omega)
      rw [okS_drop t i b (by omega), Bool.and_eq_true] at hb
      exact ⟨_, hb.2⟩
  intro i hi
  obtain ⟨b, hb⟩ := key i (by omega)
  rw [okS_drop t i b (by omega), Bool.and_eq_true] at hb
  exact (of_decide_eq_true hb.1).2
section FILL
variable {B : Nat} {M M1 : Mem} {a b : Nat} {tk : Value} {sz0 sz x need : Nat} {t : List Int}
theorem z_fill_L (hB : B ≤ b) (n : Nat) (v : Int32) (f e : Int) (hf : 0 ≤ f) (he : e ≤ 999) (hne : a ≠ b) (g0 : Nat → Int32) : ∀ (k : Nat) (i : Int) (Mz : Mem) (g : Nat → Int32), f ≤ i → i ≤ e + 1 → (e + 1 - i).toNat < k → Mz a = some (.inl (4, [.ref b, tk])) → Mz b = some (.inr (.inl (0, 1000, g))) → (∀ d : Nat, g d = if f ≤ d ∧ (d : Int) < i then v else g0 d) → ∃ M1 g1, f_X1_fill_L7 B n (some a) (iI e) v k Mz (iI i) = some M1 ∧ M1 b = some (.inr (.inl (0, 1000, g1))) ∧ (∀ d : Nat, g1 d = if f ≤ d ∧ (d : Int) ≤ e then v else g0 d) ∧ ∀ y, y ≠ b → M1 y = Mz y := by
  intro k
  induction k with
  | zero => intro i Mz g _ _ h; omega
  | succ k ih =>
    intro i Mz g hi1 hi2 hk ha hb hg
    unfold f_X1_fill_L7
    rw [it_lt _ _ (by omega)]
    by_cases c : i = e + 1
    · rw [if_pos (by omega)]
      refine ⟨Mz, g, rfl, hb, fun d => ?_, fun _ _ => rfl⟩
      rw [hg d]
      by_cases q : f ≤ d ∧ (d : Int) ≤ e
      · rw [if_pos q, if_pos (by omega)]
      · rw [if_neg q, if_neg (by omega)]
    · rw [if_neg (by omega), show (1000 : Int32) = iI 1000 from rfl, it_le _ _ (by omega), if_neg (by omega), gR_at ha]
      simp only [List.getElem?_cons_zero, Option.bind_some]
      rw [sI_at hB hb (by omega) (by omega), Option.bind_some, show (1 : Int32) = iI 1 from rfl, iI_add]
      obtain ⟨M1, g1, e1, e2, e3, e4⟩ := ih (i + 1) (va_up Mz b (some (.inr (.inl (0, 1000, upd g i.toNat v))))) (upd g i.toNat v) (by omega) (by omega) (by omega) (by rw [va_up_ne _ _ hne]; exact ha) (va_up_self ..) (fun d => by
        unfold upd
        by_cases q : d = i.toNat
        · rw [if_pos q, if_pos (by omega)]
        · rw [if_neg q, hg d]
          by_cases q2 : f ≤ d ∧ (d : Int) < i
          · rw [if_pos q2, if_pos (by omega)]
          · rw [if_neg q2, if_neg (by omega)])
      exact ⟨M1, g1, e1, e2, e3, fun y hy => by rw [e4 y hy, va_up_ne _ _ hy]⟩
theorem z_fill (hB : B ≤ b) (hne : a ≠ b) {g : Nat → Int32} (ha : M a = some (.inl (4, [.ref b, tk]))) (hb : M b = some (.inr (.inl (0, 1000, g)))) (n : Nat) (hn : 1100 ≤ n) (f e : Int) (hf : 0 ≤ f ∧ f ≤ e + 1) (he : e ≤ 999) (v : Int32) : ∃ M1 g1, f_X1_fill B n M (some a) (iI f) (iI e) v = some M1 ∧ M1 b = some (.inr (.inl (0, 1000, g1))) ∧ (∀ d : Nat, g1 d = if f ≤ d ∧ (d : Int) ≤ e then v else g d) ∧ ∀ y, y ≠ b → M1 y = M y := by
  have e0 : (if iI f < (0 : Int32) then (0 : Int32) else iI f) = iI f := by
    rw [iI_zero, it_lt _ _ (by omega), if_neg (by omega)]
  unfold f_X1_fill
  rw [e0]
  exact z_fill_L hB n v f e hf.1 he hne g n f M g (Int.le_refl _) hf.2 (by omega) ha hb (fun d => by rw [if_neg (by omega)])
theorem z_open (hB : B ≤ b) (hne : a ≠ b) {g : Nat → Int32} (ha : M a = some (.inl (4, [.ref b, tk]))) (hb : M b = some (.inr (.inl (0, 1000, g)))) (n : Nat) (hn : 1100 ≤ n) (f e : Int) (hf : 0 ≤ f ∧ f ≤ e + 1) (he : e ≤ 999) : ∃ M1 g1, f_X1_open B n M (some a) (iI f) (iI e) = some M1 ∧ M1 b = some (.inr (.inl (0, 1000, g1))) ∧ (∀ d : Nat, g1 d = if f ≤ d ∧ (d : Int) ≤ e then -1 else g d) ∧ ∀ y, y ≠ b → M1 y = M y := by
  obtain ⟨M1, g1, e1, e2⟩ := z_fill hB hne ha hb n hn f e hf he (-1)
  refine ⟨M1, g1, ?_, e2⟩
  unfold f_X1_open
  rw [if_pos (isO_at ha), e1]
  rfl
theorem SBR.fr (h : SBR M sz0 sz x t need) (fr : ∀ y, sz0 ≤ y → M1 y = M y) : SBR M1 sz0 sz x t need := by
  obtain ⟨b, ml, cap, f, h1, h2, h3, h4⟩ := h
  exact ⟨b, ml, cap, f, (fr x h3.1).trans h1, (fr b h3.2.2.1).trans h2, h3, h4⟩
end FILL
def pS (t : List Int) (d q : Int) : Bool := decide (t.getD (2 * q.toNat) 0 ≤ d ∧ d ≤ t.getD (2 * q.toNat + 1) 0)
section COI
variable {B : Nat} {S : Nat → Nat} {L : Mem} {ad rho : Nat → Nat} {M : Mem} {sz N j : Nat} {g : Nat → Int} {t : List Int} {w : Int}
def cF (t : List Int) : Int → Int := fun k => t.getD (2 * k.toNat) 0
def cG (t : List Int) : Int → Int := fun k => t.getD (2 * k.toNat + 1) 0
theorem z_couInit_L (hL : LOK B L) (hS : LitOK S L) (hD : DigOK S L) (hcon : ∀ y e, L y = some e → M y = some e) (hBs : B ≤ sz) (hown : ∀ y, rho y = 3 → y < sz) (hR : Rd B ad rho M M N g t j w) (hv : ∀ x, x ∈ t → 0 ≤ x ∧ x ≤ 9999) {c : Nat} (ht : t.length = 2 * c) (hc : c ≤ 30) (hok : okS (-1) t = true) (nr : Int32) (n : Nat) (hn : 2100 ≤ n) : ∀ (r i k : Nat) (Mz : Mem) (zz : Nat) (gc : Nat → Int32) (t0 : List Int), i + r = c → r < k → Mz sz = some (.inl (5, [.int nr, .null, .ref (sz + 1)])) → Mz (sz + 1) = some (.inl (4, [.ref (sz + 2), .int 0])) → Mz (sz + 2) = some (.inr (.inl (0, 1000, gc))) → (∀ d : Nat, d < 1000 → gc d = iI (if anyI (pS t d) i 0 = true then -1 else -2)) → SBR Mz (sz + 3) zz (sz + 3) t0 t0.length → t0.length ≤ 9 * i → (∀ y, y < sz → Mz y = M y) → ∃ (wt : Nat) (M1 : Mem) (gd : Nat → Int32), f_X2_init_L32 B S n (some sz) (some (ad 3)) (some (sz + 3)) k Mz zz (iI ((2 * i : Nat) : Int)) = some (M1, wt + 2) ∧ sz + 3 < wt ∧ (∀ y, y < sz → M1 y = M y) ∧ M1 sz = some (.inl (5, [.int nr, .ref wt, .ref (sz + 1)])) ∧ M1 (sz + 1) = some (.inl (4, [.ref (sz + 2), .int 0])) ∧ M1 (sz + 2) = some (.inr (.inl (0, 1000, gd))) ∧ (∀ d : Nat, d < 1000 → gd d = iI (if anyI (pS t d) c 0 = true then -1 else -2)) ∧ ∀ (rho1 : Nat → Nat) (id : Nat), rho1 wt = id → rho1 (wt + 1) = id → TxtR M1 rho1 id wt (t0 ++ spaT (cF t) (cG t) r i) := by
  have all := okS_all ht hok
  intro r
  induction r with
  | zero =>
    intro i k Mz zz gc t0 hi hk m0 m1 m2 hg hs hl fr
    obtain ⟨k, rfl⟩ : ∃ k', k = k' + 1 := ⟨k - 1, by omega⟩
    have rd := hR.fr (M2 := Mz) (fun y hy => fr y (hown y hy))
    have hlt := hs.lt
    obtain ⟨M1, e1, e2, e3⟩ := hs.toStr (show B ≤ sz + 3 by omega)
    have m01 : M1 sz = some (.inl (5, [.int nr, .null, .ref (sz + 1)])) := (e2 sz (by omega)).trans m0
    obtain ⟨M2, p1, p2, p3⟩ := pF_ob hBs m01 1 (va_rf (some zz)) (by simp)
    refine ⟨zz, M2, gc, ?_, by omega, fun y hy => by rw [p3 y (by omega), e2 y (by omega), fr y hy], p2, by rw [p3 _ (by omega), e2 _ (by omega)]; exact m1, by rw [p3 _ (by omega), e2 _ (by omega)]; exact m2, fun d hd => ?_, fun rho1 id r1 r2 => ?_⟩
    · unfold f_X2_init_L32
      rw [if_pos rd.is, rd.size, Option.bind_some, show (1 : Int32) = iI 1 from rfl, iI_add, it_le _ _ (by omega), if_pos (by omega), if_pos hs.is, e1]
      simp only [Option.bind_some]
      rw [p1]
      rfl
    · rw [hg d hd, show i = c by omega]
    · rw [spaT, List.append_nil]
      exact txt_up e3 (p3 _ (by omega)) (p3 _ (by omega)) r1 r2
  | succ r ih =>
    intro i k Mz zz gc t0 hi hk m0 m1 m2 hg hs hl fr
    obtain ⟨k, rfl⟩ : ∃ k', k = k' + 1 := ⟨k - 1, by omega⟩
    have hilt : i < c := by omega
    have hB3 : B ≤ sz + 3 := by omega
    have r1 := getD_rng hv (2 * i)
    have r2 := getD_rng hv (2 * i + 1)
    obtain ⟨a1, a2⟩ := all i hilt
    have n1 := numL_len3 (t.getD (2 * i) 0) (by omega)
    have n2 := numL_len3 (t.getD (2 * i + 1) 0) (by omega)
    have rd := hR.fr (M2 := Mz) (fun y hy => fr y (hown y hy))
    have told1 : ∀ Mq : Mem, (∀ y, y < sz → Mq y = M y) → f_X7_told Mq (some (ad 3)) (iI ((2 * i : Nat) : Int)) = some (iI (t.getD (2 * i) 0)) ∧ f_X7_told Mq (some (ad 3)) (iI ((2 * i : Nat) : Int) + (1 : Int32)) = some (iI (t.getD (2 * i + 1) 0)) ∧ isO Mq (some (ad 3)) 10 = true := fun Mq hq => by
      have rq := hR.fr (M2 := Mq) (fun y hy => hq y (hown y hy))
      refine ⟨rq.getD (2 * i) (by omega), ?_, rq.is⟩
      rw [show iI ((2 * i : Nat) : Int) + (1 : Int32) = iI ((2 * i + 1 : Nat) : Int) by rw [show (1 : Int32) = iI 1 from rfl, iI_add]; congr 1]
      exact rq.getD (2 * i + 1) (by omega)
    obtain ⟨M3, g3, e3, x3, y3, f3⟩ := z_open (show B ≤ sz + 2 by omega) (show sz + 1 ≠ sz + 2 by omega) m1 m2 n (by omega) (t.getD (2 * i) 0) (t.getD (2 * i + 1) 0) (by omega) (by omega)
    have fr3 : ∀ y, y < sz → M3 y = M y := fun y hy => (f3 y (by omega)).trans (fr y hy)
    have s3 := hs.fr (M1 := M3) (fun y hy => f3 y (by omega))
    have c3 : ∀ y e, L y = some e → M3 y = some e := con_up hL hBs hcon fr3
    -- the comma
    obtain ⟨M4, z4, e4, l4, s4, f4⟩ : ∃ (M4 : Mem) (z4 : Nat), ((if iI ((2 * i : Nat) : Int) ≤ 0 then (some (M3, zz)) else (if isO M3 (some (sz + 3)) 1 = true then ((f_J4_append_15ec4 B M3 zz (some (sz + 3)) (some (S 13))).bind fun r24 => some (r24.2.1, r24.2.2)) else none)) : Option (Mem × Nat)) = some (M4, z4) ∧ zz ≤ z4 ∧ SBR M4 (sz + 3) z4 (sz + 3) (t0 ++ (if (i : Int) > 0 then [44, 32] else [])) (t0 ++ (if (i : Int) > 0 then [44, 32] else [])).length ∧ ∀ y, y < sz + 3 → M4 y = M3 y := by
      by_cases c0 : i = 0
      · subst c0
        refine ⟨M3, zz, if_pos (by decide), Nat.le_refl _, ?_, fun _ _ => rfl⟩
        rw [if_neg (by decide), List.append_nil]
        exact s3
      · have l13 : litT 13 = [44, 32] := rfl
        obtain ⟨M4, z4, e4, l4, s4, f4⟩ := s3.str hL hS c3 hB3 13 (by omega) (by decide) (by rw [l13]; simp only [List.length_cons, List.length_nil]; omega)
        rw [l13] at s4
        refine ⟨M4, z4, ?_, l4, ?_, f4⟩
        · rw [iI_zero, it_le _ _ (by omega), if_neg (by omega), if_pos s3.is, e4]
          rfl
        · rw [if_pos (show (i : Int) > 0 by omega)]
          exact s4
    have fr4 : ∀ y, y < sz → M4 y = M y := fun y hy => (f4 y (by omega)).trans (fr3 y hy)
    have c4 : ∀ y e, L y = some e → M4 y = some e := con_up hL hBs hcon fr4
    have hcom : (if (i : Int) > 0 then [44, 32] else ([] : List Int)).length ≤ 2 := by split <;> simp
    obtain ⟨M5, z5, e5, l5, s5, f5⟩ := s4.num hL hD c4 hB3 n (by omega) (t.getD (2 * i) 0) (by omega) (by rw [List.length_append]; omega)
    have fr5 : ∀ y, y < sz → M5 y = M y := fun y hy => (f5 y (by omega)).trans (fr4 y hy)
    have c5 : ∀ y e, L y = some e → M5 y = some e := con_up hL hBs hcon fr5
    obtain ⟨M6, z6, e6, l6, s6, f6⟩ := s5.char hB3 45 (by omega) (by simp only [List.length_append]; omega)
    have fr6 : ∀ y, y < sz → M6 y = M y := fun y hy => (f6 y (by omega)).trans (fr5 y hy)
    have c6 : ∀ y e, L y = some e → M6 y = some e := con_up hL hBs hcon fr6
    obtain ⟨M7, z7, e7, l7, s7, f7⟩ := s6.num hL hD c6 hB3 n (by omega) (t.getD (2 * i + 1) 0) (by omega) (by simp only [List.length_append, List.length_cons, List.length_nil]; omega)
    have fr7 : ∀ y, y < sz → M7 y = M y := fun y hy => (f7 y (by omega)).trans (fr6 y hy)
    have q7 : ∀ y, y < sz + 3 → M7 y = M3 y := fun y hy => by rw [f7 y hy, f6 y hy, f5 y hy, f4 y hy]
    have e6' : f_J4_append_cf468 B M5 z5 (some (sz + 3)) (45 : Int32) = _ := e6
    have g14 : gR Mz (some sz) 5 2 = some (some (sz + 1)) := gR_at m0
    obtain ⟨wt, M9, gd, w1, w2, w3, w4, w5, w6, w7, w8⟩ := ih (i + 1) k M7 z7 g3 _ (by omega) (by omega) (by rw [q7 _ (by omega), f3 _ (by omega)]; exact m0) (by rw [q7 _ (by omega), f3 _ (by omega)]; exact m1) (by rw [q7 _ (by omega)]; exact x3) (fun d hd => by
      rw [y3 d, anyI_last, Int.zero_add]
      by_cases q : t.getD (2 * i) 0 ≤ d ∧ (d : Int) ≤ t.getD (2 * i + 1) 0
      · have q2 : pS t d i = true := by
          unfold pS
          rw [Int.toNat_natCast]
          exact decide_eq_true q
        rw [if_pos q, q2, Bool.or_true]
        rfl
      · have q2 : pS t d i = false := by
          unfold pS
          rw [Int.toNat_natCast]
          exact decide_eq_false q
        rw [if_neg q, q2, Bool.or_false]
        exact hg d hd) s7 (by simp only [List.length_append, List.length_cons, List.length_nil]; omega) fr7
    refine ⟨wt, M9, gd, ?_, w2, w3, w4, w5, w6, w7, fun rho1 id q1 q2 => ?_⟩
    · obtain ⟨t1, t2, t3⟩ := told1 Mz fr
      obtain ⟨-, -, t6⟩ := told1 M3 fr3
      obtain ⟨t7, -, t9⟩ := told1 M4 fr4
      obtain ⟨-, t11, t12⟩ := told1 M6 fr6
      unfold f_X2_init_L32
      rw [if_pos rd.is, rd.size, Option.bind_some, show iI ((2 * i : Nat) : Int) + (1 : Int32) = iI ((2 * i : Nat) : Int) + (1 : Int32) from rfl, if_neg (show ¬ iI (t.length : Int) ≤ iI ((2 * i : Nat) : Int) + (1 : Int32) by rw [show (1 : Int32) = iI 1 from rfl, iI_add, iI_le _ _ (by omega)]; omega), g14]
      simp only [Option.bind_some]
      rw [if_pos t3, t1]
      simp only [Option.bind_some]
      rw [if_pos t3, t2]
      simp only [Option.bind_some]
      rw [if_pos (isO_at m1), e3]
      simp only [Option.bind_some]
      rw [e4]
      simp only [Option.bind_some]
      rw [if_pos t9, t7]
      simp only [Option.bind_some]
      rw [if_pos s4.is, e5]
      simp only [Option.bind_some]
      rw [if_pos s5.is, e6']
      simp only [Option.bind_some]
      rw [if_pos t12, t11]
      simp only [Option.bind_some]
      rw [if_pos s6.is, e7]
      simp only [Option.bind_some]
      rw [show iI ((2 * i : Nat) : Int) + (2 : Int32) = iI ((2 * (i + 1) : Nat) : Int) by rw [show (2 : Int32) = iI 2 from rfl, iI_add]; congr 1]
      exact w1
    · have := w8 rho1 id q1 q2
      have e1 : cF t i = t.getD (2 * i) 0 := by unfold cF; rw [Int.toNat_natCast]
      have e2 : cG t i = t.getD (2 * i + 1) 0 := by unfold cG; rw [Int.toNat_natCast]
      rw [spaT, e1, e2]
      simp only [List.append_assoc] at this ⊢
      exact this
theorem z_couInit (hL : LOK B L) (hS : LitOK S L) (hD : DigOK S L) (hcon : ∀ y e, L y = some e → M y = some e) (hBs : B ≤ sz) (hown : ∀ y, rho y = 3 → y < sz) (hR : Rd B ad rho M M N g t j w) (hv : ∀ x, x ∈ t → 0 ≤ x ∧ x ≤ 9999) {c : Nat} (ht : t.length = 2 * c) (hc : c ≤ 30) (hok : okS (-1) t = true) (nr : Int32) (n : Nat) (hn : 2100 ≤ n) : ∃ (wt : Nat) (M1 : Mem) (gd : Nat → Int32), f_X2_init B S n (va_up M sz (some (.inl (5, [.int 0, .null, .null])))) (sz + 1) (some sz) nr (some (ad 3)) = some (M1, wt + 2) ∧ sz + 3 < wt ∧ (∀ y, y < sz → M1 y = M y) ∧ M1 sz = some (.inl (5, [.int nr, .ref wt, .ref (sz + 1)])) ∧ M1 (sz + 1) = some (.inl (4, [.ref (sz + 2), .int 0])) ∧ M1 (sz + 2) = some (.inr (.inl (0, 1000, gd))) ∧ (∀ d : Nat, d < 1000 → gd d = iI (if anyI (pS t d) c 0 = true then -1 else -2)) ∧ ∀ (rho1 : Nat → Nat) (id : Nat), rho1 wt = id → rho1 (wt + 1) = id → TxtR M1 rho1 id wt (spaT (cF t) (cG t) c 0) := by
  have h0 : (va_up M sz (some (.inl (5, [.int 0, .null, .null])))) sz = some (.inl (5, [.int 0, .null, .null])) := va_up_self ..
  have f0 : ∀ y, y ≠ sz → (va_up M sz (some (.inl (5, [.int 0, .null, .null])))) y = M y := fun y hy => va_up_ne _ _ hy
  generalize va_up M sz (some (.inl (5, [.int 0, .null, .null]))) = M0 at *
  have h1 : (va_up M0 (sz + 1) (some (.inl (4, [.null, .int 0])))) (sz + 1) = some (.inl (4, [.null, .int 0])) := va_up_self ..
  have f1 : ∀ y, y ≠ sz + 1 → (va_up M0 (sz + 1) (some (.inl (4, [.null, .int 0])))) y = M0 y := fun y hy => va_up_ne _ _ hy
  obtain ⟨N2, g1, e2, a2, b2, c2, f2⟩ := z_calNew (B := B) (c := sz + 1) (s := sz + 1 + 1) (by omega) (by omega) h1 n (by omega) 0 (-2) (Or.inr ⟨rfl, rfl⟩)
  have t2 : N2 sz = some (.inl (5, [.int 0, .null, .null])) := by rw [f2 sz (by omega) (by omega), f1 sz (by omega)]; exact h0
  obtain ⟨N3, e3, t3, f3⟩ := pF_ob hBs t2 2 (va_rf (some (sz + 1))) (by simp)
  have t3' : N3 sz = some (.inl (5, [.int 0, .null, .ref (sz + 1)])) := t3
  obtain ⟨N4, e4, t4, f4⟩ := pF_ob hBs t3' 0 (.int nr) (by simp)
  have t4' : N4 sz = some (.inl (5, [.int nr, .null, .ref (sz + 1)])) := t4
  obtain ⟨N5, e5, s5, f5⟩ := z_sbNew (B := B) (sz := sz + 1 + 1 + 1) (by omega) N4
  obtain ⟨wt, M1, gd, w1, w2, w3, w4, w5, w6, w7, w8⟩ := z_couInit_L hL hS hD hcon hBs hown hR hv ht hc hok nr n hn c 0 32 N5 (sz + 1 + 1 + 1 + 2) g1 [] (by omega) (by omega) ((f5 sz (by omega)).trans t4') (by rw [f5 _ (by omega), f4 _ (by omega), f3 _ (by omega)]; exact a2) (by rw [f5 _ (by omega), f4 _ (by omega), f3 _ (by omega)]; exact b2) (fun d hd => by rw [c2 d hd]; rfl) s5 (by simp) (fun y hy => by rw [f5 y (by omega), f4 y (by omega), f3 y (by omega), f2 y (by omega) (by omega), f1 y (by omega), f0 y (by omega)])
  refine ⟨wt, M1, gd, ?_, w2, w3, w4, w5, w6, w7, fun rho1 id r1 r2 => ?_⟩
  · unfold f_X2_init
    rw [if_pos (by simp), Option.bind_some, e2]
    simp only [Option.bind_some]
    rw [e3]
    simp only [Option.bind_some]
    rw [e4]
    simp only [Option.bind_some]
    rw [e5]
    simp only [Option.bind_some]
    exact w1
  · have := w8 rho1 id r1 r2
    rw [List.nil_append] at this
    exact this
end COI
