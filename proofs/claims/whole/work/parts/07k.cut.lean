/-! THE CLASS CUTS THE TAPE INTO PIECES -/
def wcL (W : List Int) : Int := if W = litT 0 then 100 else if W = litT 1 then 101 else if W = litT 2 then 102 else if W = litT 3 then 103 else if W = litT 4 then 104 else if W = litT 5 then 105 else if W = litT 6 then 106 else if W = litT 7 then 107 else if W = litT 8 then 108 else if W = litT 9 then 109 else if W = litT 10 then 110 else 0
/-- a piece's code -/
def codP (tk v : Int) : Int := if tk = 2 then (if v = 9 then 100 else if v = 10 then 101 else 102 + v) else if tk = 3 then 1 else if tk = 4 then v else 0
theorem wcL_cod (W : List Int) : wcL W = codP (if wvL W < 0 then 1 else 2) (wvL W) := by
  unfold wcL wvL codP
  have l : litT 2 = kindT 0 ∧ litT 3 = kindT 1 ∧ litT 4 = kindT 2 ∧ litT 5 = kindT 3 ∧ litT 6 = kindT 4 ∧ litT 7 = sortT 0 ∧ litT 8 = sortT 1 ∧ litT 9 = sortT 2 ∧ litT 10 = sortT 3 := ⟨rfl, rfl, rfl, rfl, rfl, rfl, rfl, rfl, rfl⟩
  obtain ⟨l2, l3, l4, l5, l6, l7, l8, l9, l10⟩ := l
  rw [l2, l3, l4, l5, l6, l7, l8, l9, l10]
  by_cases k0 : W = kindT 0
  · subst k0; decide
  · by_cases k1 : W = kindT 1
    · subst k1; decide
    · by_cases k2 : W = kindT 2
      · subst k2; decide
      · by_cases k3 : W = kindT 3
        · subst k3; decide
        · by_cases k4 : W = kindT 4
          · subst k4; decide
          · by_cases s0 : W = sortT 0
            · subst s0; decide
            · by_cases s1 : W = sortT 1
              · subst s1; decide
              · by_cases s2 : W = sortT 2
                · subst s2; decide
                · by_cases s3 : W = sortT 3
                  · subst s3; decide
                  · by_cases n0 : W = litT 0
                    · subst n0; decide
                    · by_cases n1 : W = litT 1
                      · subst n1; decide
                      · rw [if_neg n0, if_neg n1, if_neg k0, if_neg k1, if_neg k2, if_neg k3, if_neg k4, if_neg s0, if_neg s1, if_neg s2, if_neg s3, if_neg k0, if_neg k1, if_neg k2, if_neg k3, if_neg k4, if_neg s0, if_neg s1, if_neg s2, if_neg s3, if_neg n0, if_neg n1]
                        decide
def PP (M : Mem) (p s c m : Nat) (sz en : Int) (fs fc fm : Nat → Int32) : Prop := M p = some (.inl (9, [.ref s, .ref c, .ref m, .int (iI sz), .int (iI en)])) ∧ M s = some (.inr (.inl (0, 120, fs))) ∧ M c = some (.inr (.inl (0, 120, fc))) ∧ M m = some (.inr (.inl (0, 120, fm)))
section CUT
variable {B : Nat} {S : Nat → Nat} {L : Mem} {M : Mem} {a b p s c m : Nat} {N : Nat} {f : Nat → Int32} {g : Nat → Int}
theorem z_byteAt (h : TP M a b N f) (hN : N ≤ 120) (hg : ∀ k, f k = iI (g k)) (i : Int) (hi : 0 ≤ i ∧ i ≤ 200) : f_X9_byteAt M (some a) (iI i) = some (iI (if i < N then g i.toNat else -1)) := by
  unfold f_X9_byteAt
  rw [iI_zero, it_lt _ _ (by omega), if_neg (by omega), gI_at h.1, gR_at h.1]
  simp only [List.getElem?_cons_zero, List.getElem?_cons_succ, Option.bind_some]
  rw [it_le _ _ (by omega)]
  by_cases e : i < N
  · rw [if_neg (by omega), aI_at h.2 (by omega) (by omega), Option.bind_some, hg, if_pos e]
  · rw [if_pos (by omega), if_neg e]
    rfl
theorem PP.ne {sz en : Int} {fs fc fm : Nat → Int32} (h : PP M p s c m sz en fs fc fm) : p ≠ s ∧ p ≠ c ∧ p ≠ m := by
  obtain ⟨h1, h2, h3, h4⟩ := h
  refine ⟨fun e => ?_, fun e => ?_, fun e => ?_⟩
  · rw [e, h2] at h1
    cases h1
  · rw [e, h3] at h1
    cases h1
  · rw [e, h4] at h1
    cases h1
theorem z_padd {fs fc fm : Nat → Int32} {en : Int} {q : Nat} (h : PP M p s c m q en fs fc fm) (hq : q < 120) (hd : s ≠ c ∧ s ≠ m ∧ c ≠ m) (hB : B ≤ p ∧ B ≤ s ∧ B ≤ c ∧ B ≤ m) (x y z : Int32) : ∃ M1, f_X6_add B M (some p) x y z = some M1 ∧ PP M1 p s c m (q + 1 : Nat) en (upd fs q x) (upd fc q y) (upd fm q z) ∧ ∀ k, k ≠ p → k ≠ s → k ≠ c → k ≠ m → M1 k = M k := by
  obtain ⟨n1, n2, n3⟩ := h.ne
  obtain ⟨h1, h2, h3, h4⟩ := h
  have a1 : (va_up M s (some (.inr (.inl (0, 120, upd fs q x))))) p = some (.inl (9, [.ref s, .ref c, .ref m, .int (iI q), .int (iI en)])) := by rw [va_up_ne _ _ n1]; exact h1
  have a3 : (va_up M s (some (.inr (.inl (0, 120, upd fs q x))))) c = some (.inr (.inl (0, 120, fc))) := by rw [va_up_ne _ _ hd.1.symm]; exact h3
  have b1 : (va_up (va_up M s (some (.inr (.inl (0, 120, upd fs q x))))) c (some (.inr (.inl (0, 120, upd fc q y))))) p = some (.inl (9, [.ref s, .ref c, .ref m, .int (iI q), .int (iI en)])) := by rw [va_up_ne _ _ n2]; exact a1
  have b4 : (va_up (va_up M s (some (.inr (.inl (0, 120, upd fs q x))))) c (some (.inr (.inl (0, 120, upd fc q y))))) m = some (.inr (.inl (0, 120, fm))) := by rw [va_up_ne _ _ hd.2.2.symm, va_up_ne _ _ hd.2.1.symm]; exact h4
  have c1 : (va_up (va_up (va_up M s (some (.inr (.inl (0, 120, upd fs q x))))) c (some (.inr (.inl (0, 120, upd fc q y))))) m (some (.inr (.inl (0, 120, upd fm q z))))) p = some (.inl (9, [.ref s, .ref c, .ref m, .int (iI q), .int (iI en)])) := by rw [va_up_ne _ _ n3]; exact b1
  refine ⟨va_up (va_up (va_up (va_up M s (some (.inr (.inl (0, 120, upd fs q x))))) c (some (.inr (.inl (0, 120, upd fc q y))))) m (some (.inr (.inl (0, 120, upd fm q z))))) p (some (.inl (9, [.ref s, .ref c, .ref m, .int (iI (q + 1 : Nat)), .int (iI en)]))), ?_, ⟨va_up_self .., ?_, ?_, ?_⟩, fun k k1 k2 k3 k4 => by rw [va_up_ne _ _ k1, va_up_ne _ _ k4, va_up_ne _ _ k3, va_up_ne _ _ k2]⟩
  · unfold f_X6_add
    rw [gI_at h1, gR_at h1]
    simp only [List.getElem?_cons_zero, List.getElem?_cons_succ, Option.bind_some]
    rw [show (120 : Int32) = iI 120 from rfl, it_le _ _ (by omega), if_neg (by omega), sI_at hB.2.1 h2 (by omega) (by omega), Option.bind_some, Int.toNat_natCast, gR_at a1, gI_at a1]
    simp only [List.getElem?_cons_zero, List.getElem?_cons_succ, Option.bind_some]
    rw [sI_at hB.2.2.1 a3 (by omega) (by omega), Option.bind_some, Int.toNat_natCast, gR_at b1, gI_at b1]
    simp only [List.getElem?_cons_zero, List.getElem?_cons_succ, Option.bind_some]
    rw [sI_at hB.2.2.2 b4 (by omega) (by omega), Option.bind_some, Int.toNat_natCast, gI_at c1]
    simp only [List.getElem?_cons_zero, List.getElem?_cons_succ, Option.bind_some]
    rw [show (1 : Int32) = iI 1 from rfl, iI_add, pF_at hB.1 c1, if_pos (by simp), Option.bind_some, show ((q : Int) + 1) = ((q + 1 : Nat) : Int) by omega]
    rfl
  · rw [va_up_ne _ _ n1.symm, va_up_ne _ _ hd.2.1, va_up_ne _ _ hd.1, va_up_self]
  · rw [va_up_ne _ _ n2.symm, va_up_ne _ _ hd.2.2, va_up_self]
  · rw [va_up_ne _ _ n3.symm, va_up_self]
theorem z_behind {fs fc fm : Nat → Int32} {q : Int} (h : TP M a b N f) (hP : PP M p s c m q N fs fc fm) (hN : N ≤ 120) (hg : ∀ k, f k = iI (g k)) (hby : ∀ k, k < N → 0 ≤ g k ∧ g k ≤ 255) (n : Nat) (lo hi : Int) (hl : 0 ≤ lo ∧ lo ≤ 255 ∧ 0 ≤ hi ∧ hi ≤ 255) : ∀ k i : Nat, i ≤ N → N - i < k → f_X6_behindRow_L3 n M (some p) (some a) (iI lo) (iI hi) k (iI i) = some (iI (rowF g lo hi (N - i) i)) := by
  intro k
  induction k with
  | zero => intro i _ h; omega
  | succ k ih =>
    intro i hi2 hk
    unfold f_X6_behindRow_L3
    rw [gI_at hP.1]
    simp only [List.getElem?_cons_zero, List.getElem?_cons_succ, Option.bind_some]
    rw [it_le _ _ (by omega)]
    by_cases e : i = N
    · rw [if_pos (by omega), show N - i = 0 by omega]
      rfl
    · have hb := hby i (by omega)
      rw [if_neg (by omega), isO_at h.1, if_pos rfl, z_byteAt h hN hg i (by omega), if_pos (by omega), Int.toNat_natCast, Option.bind_some, it_lt _ _ (by omega), show N - i = (N - (i + 1)) + 1 by omega, rowF]
      by_cases c1 : g i < lo
      · rw [if_pos c1, if_neg (by omega)]
      · rw [if_neg c1, if_pos rfl, Option.bind_some, it_lt _ _ (by omega)]
        by_cases c2 : hi < g i
        · rw [if_pos c2, if_neg (by omega)]
        · rw [if_neg c2, if_pos (by omega), show (1 : Int32) = iI 1 from rfl, iI_add]
          exact ih (i + 1) (by omega) (by omega)
theorem z_numIn (h : TP M a b N f) (hN : N ≤ 120) (hg : ∀ k, f k = iI (g k)) (n st e : Nat) (he : e ≤ N) (h4 : e ≤ st + 4) : ∀ (k i : Nat) (x : Int), st ≤ i → i ≤ e → e - i < k → f_X6_numberIn_L6 n M (some a) (iI e) k (iI x) (iI i) = some (iI (numF g st (e - i) i x)) := by
  intro k
  induction k with
  | zero => intro i x _ _ h; omega
  | succ k ih =>
    intro i x hs hi hk
    unfold f_X6_numberIn_L6
    rw [it_le _ _ (by omega)]
    by_cases c : i = e
    · rw [if_pos (by omega), show e - i = 0 by omega]
      rfl
    · rw [if_neg (by omega), isO_at h.1, if_pos rfl, z_byteAt h hN hg i (by omega), if_pos (by omega), Int.toNat_natCast, Option.bind_some, show (10 : Int32) = iI 10 from rfl, iI_mul, iI_add, show (48 : Int32) = iI 48 from rfl, iI_sub, show (1 : Int32) = iI 1 from rfl, iI_add, show e - i = (e - (i + 1)) + 1 by omega, numF, if_pos (by omega), show x * 10 + g i - 48 = 10 * x + g i - 48 by omega]
      exact ih (i + 1) _ (by omega) (by omega) (by omega)
/-- a word's letters against a text, in the class -/
theorem z_spelt_L (h : TP M a b N f) (hN : N ≤ 120) (hg : ∀ k, f k = iI (g k)) (hby : ∀ k, k < N → 0 ≤ g k ∧ g k ≤ 255) {w : List Int} {ws : Nat} (hw : TxtR M (fun _ => 0) 0 ws w) (n st : Nat) (hst : st + w.length ≤ N) : ∀ k i : Nat, i ≤ w.length → w.length - i < k → f_X6_isSpelt_L16 n M (some a) (some ws) (iI st) k (iI i) = some (iI (if segL g (st + i) (w.length - i) = w.drop i then 1 else 0)) := by
  have hsz := hw.size
  have hch : ∀ k, k < w.length → 0 ≤ w.getD k 0 ∧ w.getD k 0 ≤ 127 := by obtain ⟨b, r, f, h1, h2, h3, h4⟩ := hw; exact fun k hk => (h4 k hk).2
  intro k
  induction k with
  | zero => intro i _ h; omega
  | succ k ih =>
    intro i hi hk
    unfold f_X6_isSpelt_L16
    rw [hw.is, if_pos rfl, hsz, Option.bind_some, it_le _ _ (by omega)]
    by_cases e : w.length ≤ i
    · rw [if_pos (by omega), List.drop_eq_nil_of_le e, show w.length - i = 0 by omega]
      rfl
    · have hlt : i < w.length := by omega
      have hc := hch i hlt
      have hb := hby (st + i) (by omega)
      have ed : w.getD i 0 = w[i] := by simp [List.getD, hlt]
      rw [if_neg (by omega), if_pos rfl, hw.chr i (by omega), Option.bind_some, isO_at h.1, if_pos rfl, iI_add, z_byteAt h hN hg _ (by omega), if_pos (by omega), Option.bind_some, Int.toNat_natCast, show ((st : Int) + i).toNat = st + i by omega, it_eq _ _ (by omega), show (1 : Int32) = iI 1 from rfl, iI_add, dropc w i hlt, show w.length - i = (w.length - (i + 1)) + 1 by omega, segL, show st + i + 1 = st + (i + 1) by omega, ← ed]
      by_cases c : w.getD i 0 = g (st + i)
      · have := ih (i + 1) (by omega) (by omega)
        push_cast at this
        have e2 : (g (st + i) :: segL g (st + (i + 1)) (w.length - (i + 1)) = w.getD i 0 :: w.drop (i + 1)) ↔ (segL g (st + (i + 1)) (w.length - (i + 1)) = w.drop (i + 1)) := by
          rw [c]
          exact ⟨fun q => (List.cons.inj q).2, fun q => by rw [q]⟩
        rw [if_pos c, this]
        simp only [e2]
      · rw [if_neg c, if_neg]
        · rfl
        · intro q
          exact c (List.cons.inj q).1.symm
theorem z_isSpelt (h : TP M a b N f) (hN : N ≤ 120) (hg : ∀ k, f k = iI (g k)) (hby : ∀ k, k < N → 0 ≤ g k ∧ g k ≤ 255) {w : List Int} {ws : Nat} (hw : TxtR M (fun _ => 0) 0 ws w) (n : Nat) (hn : 400 ≤ n) (this : Option Nat) (st e : Nat) (he : st ≤ e ∧ e ≤ N) : f_X6_isSpelt n M this (some a) (some ws) (iI st) (iI e) = some (iI (if segL g st (e - st) = w then 1 else 0)) := by
  have hlen : w.length ≤ 300 := by obtain ⟨b, r, f, h1, h2, h3, h4⟩ := hw; exact h3
  unfold f_X6_isSpelt
  rw [hw.is, if_pos rfl, hw.size, Option.bind_some, iI_sub, it_eq _ _ (by omega)]
  by_cases c : (w.length : Int) = e - st
  · have := z_spelt_L h hN hg hby hw n st (by omega) n 0 (by omega) (by omega)
    rw [if_pos c]
    simp only [Nat.add_zero, Nat.sub_zero, List.drop_zero] at this
    rw [show e - st = w.length by omega]
    exact this
  · have h1 : ¬ segL g st (e - st) = w := fun q => by
      have := congrArg List.length q
      rw [segL_len] at this
      omega
    rw [if_neg c, if_neg h1]
    rfl
theorem z_spelling (S : Nat → Nat) (M : Mem) (x : Int) (hx : 100 ≤ x ∧ x ≤ 110) : f_X11_spelling S M (iI x) = some (some (S (x - 100).toNat)) := by
  unfold f_X11_spelling
  rw [show (100 : Int32) = iI 100 from rfl, show (101 : Int32) = iI 101 from rfl, show (102 : Int32) = iI 102 from rfl, show (103 : Int32) = iI 103 from rfl, show (104 : Int32) = iI 104 from rfl, show (105 : Int32) = iI 105 from rfl, show (106 : Int32) = iI 106 from rfl, show (107 : Int32) = iI 107 from rfl, show (108 : Int32) = iI 108 from rfl, show (109 : Int32) = iI 109 from rfl, show (110 : Int32) = iI 110 from rfl, it_eq _ _ (by omega), it_eq _ _ (by omega), it_eq _ _ (by omega), it_eq _ _ (by omega), it_eq _ _ (by omega), it_eq _ _ (by omega), it_eq _ _ (by omega), it_eq _ _ (by omega), it_eq _ _ (by omega), it_eq _ _ (by omega), it_eq _ _ (by omega)]
  rcases (by omega : x = 100 ∨ x = 101 ∨ x = 102 ∨ x = 103 ∨ x = 104 ∨ x = 105 ∨ x = 106 ∨ x = 107 ∨ x = 108 ∨ x = 109 ∨ x = 110) with rfl | rfl | rfl | rfl | rfl | rfl | rfl | rfl | rfl | rfl | rfl <;> rfl
theorem z_wordIn (hS : LitOK S M) (h : TP M a b N f) (hN : N ≤ 120) (hg : ∀ k, f k = iI (g k)) (hby : ∀ k, k < N → 0 ≤ g k ∧ g k ≤ 255) (hp : isO M (some p) 9 = true) (n : Nat) (hn : 400 ≤ n) (st e : Nat) (he : st ≤ e ∧ e ≤ N) : f_X6_wordIn S n M (some p) (some a) (iI st) (iI e) = some (iI (wcL (segL g st (e - st)))) := by
  have step : ∀ (k : Nat) (x : Int), 100 ≤ x → x ≤ 110 → f_X6_wordIn_L4 S n M (some p) (some a) (iI st) (iI e) (k + 1) (iI x) = if segL g st (e - st) = litT (x - 100).toNat then some (iI x) else f_X6_wordIn_L4 S n M (some p) (some a) (iI st) (iI e) k (iI (x + 1)) := by
    intro k x x0 x1
    conv => lhs; unfold f_X6_wordIn_L4
    rw [show (111 : Int32) = iI 111 from rfl, it_le _ _ (by omega), if_neg (by omega), z_spelling S M x ⟨x0, x1⟩, Option.bind_some, hp, if_pos rfl, z_isSpelt h hN hg hby (hS (x - 100).toNat (by omega)) n hn (some p) st e he, Option.bind_some, show (1 : Int32) = iI 1 from rfl, iI_add]
    by_cases q : segL g st (e - st) = litT (x - 100).toNat
    · rw [if_pos q, if_pos q, if_neg (by decide)]
    · rw [if_neg q, if_neg q, if_pos (by decide)]
  obtain ⟨k, rfl⟩ : ∃ k, n = k + 1 + 1 + 1 + 1 + 1 + 1 + 1 + 1 + 1 + 1 + 1 + 1 := ⟨n - 12, by omega⟩
  unfold f_X6_wordIn wcL
  rw [show (100 : Int32) = iI 100 from rfl, step _ 100 (by omega) (by omega), show (100 : Int) + 1 = 101 from rfl, step _ 101 (by omega) (by omega), show (101 : Int) + 1 = 102 from rfl, step _ 102 (by omega) (by omega), show (102 : Int) + 1 = 103 from rfl, step _ 103 (by omega) (by omega), show (103 : Int) + 1 = 104 from rfl, step _ 104 (by omega) (by omega), show (104 : Int) + 1 = 105 from rfl, step _ 105 (by omega) (by omega), show (105 : Int) + 1 = 106 from rfl, step _ 106 (by omega) (by omega), show (106 : Int) + 1 = 107 from rfl, step _ 107 (by omega) (by omega), show (107 : Int) + 1 = 108 from rfl, step _ 108 (by omega) (by omega), show (108 : Int) + 1 = 109 from rfl, step _ 109 (by omega) (by omega), show (109 : Int) + 1 = 110 from rfl, step _ 110 (by omega) (by omega), show (110 : Int) + 1 = 111 from rfl]
  have last : f_X6_wordIn_L4 S (k + 1 + 1 + 1 + 1 + 1 + 1 + 1 + 1 + 1 + 1 + 1 + 1) M (some p) (some a) (iI st) (iI e) (k + 1) (iI 111) = some (iI 0) := by
    unfold f_X6_wordIn_L4
    rw [if_pos (by decide)]
    rfl
  rw [last]
  simp only [show ((100 : Int) - 100).toNat = 0 from rfl, show ((101 : Int) - 100).toNat = 1 from rfl, show ((102 : Int) - 100).toNat = 2 from rfl, show ((103 : Int) - 100).toNat = 3 from rfl, show ((104 : Int) - 100).toNat = 4 from rfl, show ((105 : Int) - 100).toNat = 5 from rfl, show ((106 : Int) - 100).toNat = 6 from rfl, show ((107 : Int) - 100).toNat = 7 from rfl, show ((108 : Int) - 100).toNat = 8 from rfl, show ((109 : Int) - 100).toNat = 9 from rfl, show ((110 : Int) - 100).toNat = 10 from rfl]
  simp only [apply_ite iI, apply_ite some]
end CUT
