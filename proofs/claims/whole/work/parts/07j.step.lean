/-! THE REFERENCE READS: at its j-th piece, right so far or not -/
theorem rowF_all (g : Nat → Int) (lo hi : Int) (c i : Nat) : ∀ k, i ≤ k → k < rowF g lo hi c i → lo ≤ g k ∧ g k ≤ hi := by
  induction c generalizing i with
  | zero => intro k a b; rw [rowF] at b; omega
  | succ c ih =>
    intro k a b
    unfold rowF at b
    split at b
    · rename_i h
      by_cases e : k = i
      · rw [e]; exact h
      · exact ih (i + 1) k (by omega) b
    · omega
theorem numF_rng (g : Nat → Int) (b : Nat) (c i m : Nat) (x : Int) (hi : i = b + m) (hc : m + c ≤ 4) (hd : ∀ k, i ≤ k → k < i + c → 48 ≤ g k ∧ g k ≤ 57) (hx : 0 ≤ x ∧ x < (10 : Int) ^ m) : 0 ≤ numF g b c i x ∧ numF g b c i x < (10 : Int) ^ (m + c) := by
  induction c generalizing i m x with
  | zero => exact hx
  | succ c ih =>
    rw [numF, if_pos (by omega)]
    have h1 := hd i (by omega) (by omega)
    have := ih (i + 1) (m + 1) (10 * x + g i - 48) (by omega) (by omega) (fun k a b => hd k (by omega) (by omega)) (by rw [Int.pow_succ]; omega)
    rw [show m + 1 + c = m + (c + 1) by omega] at this
    exact this
theorem pcs_num (g : Nat → Int) (N j : Nat) (h : (pcs g N j).2.1 = 3) : 0 ≤ (pcs g N j).2.2.1 ∧ (pcs g N j).2.2.1 ≤ 9999 := by
  have key : ∀ i, (tok g N i).2.1 = 3 → 0 ≤ (tok g N i).2.2.1 ∧ (tok g N i).2.2.1 ≤ 9999 := fun i h => by
    unfold tok at *
    split at h
    · simp at h
    · rename_i c
      rw [if_neg c]
      simp only at h ⊢
      unfold tkB at *
      split at h
      · simp only at h
        split at h <;> simp at h
      · rename_i c2
        split at h
        · rename_i c3
          rw [if_neg c2, if_pos c3]
          simp only at h ⊢
          generalize skF g (N - i) i = b at *
          have hr := rowF_rng g 48 57 (N - b) b
          have ha := rowF_all g 48 57 (N - b) b
          split at h
          · simp at h
          · have := numF_rng g b (rowF g 48 57 (N - b) b - b) b 0 0 rfl (by omega) (fun k a b2 => ha k a (by omega)) (by decide)
            have hp : (10 : Int) ^ (0 + (rowF g 48 57 (N - b) b - b)) ≤ 10000 := by
              rcases (by omega : rowF g 48 57 (N - b) b - b = 0 ∨ rowF g 48 57 (N - b) b - b = 1 ∨ rowF g 48 57 (N - b) b - b = 2 ∨ rowF g 48 57 (N - b) b - b = 3 ∨ rowF g 48 57 (N - b) b - b = 4) with e | e | e | e | e <;> rw [e] <;> decide
            omega
        · simp only at h
          split at h <;> simp at h
  cases j with
  | zero => exact key 0 h
  | succ j => exact key _ h
theorem wvL_rng (W : List Int) : -1 ≤ wvL W ∧ wvL W ≤ 10 := by
  unfold wvL
  (repeat' split) <;> omega
theorem pcs_word (g : Nat → Int) (N j : Nat) (h : (pcs g N j).2.1 = 2) : 0 ≤ (pcs g N j).2.2.1 ∧ (pcs g N j).2.2.1 ≤ 10 := by
  have key : ∀ i, (tok g N i).2.1 = 2 → 0 ≤ (tok g N i).2.2.1 ∧ (tok g N i).2.2.1 ≤ 10 := fun i h => by
    unfold tok at *
    split at h
    · simp at h
    · rename_i c
      rw [if_neg c]
      simp only at h ⊢
      unfold tkB at *
      split at h
      · rename_i c2
        rw [if_pos c2]
        simp only at h ⊢
        have := wvL_rng (segL g (skF g (N - i) i) (rowF g 97 122 (N - skF g (N - i) i) (skF g (N - i) i) - skF g (N - i) i))
        split at h
        · simp at h
        · omega
      · split at h
        · simp only at h
          split at h <;> simp at h
        · simp only at h
          split at h <;> simp at h
  cases j with
  | zero => exact key 0 h
  | succ j => exact key _ h
def TS (u0 u : MS) (N j : Nat) (ok : Bool) : Prop := vN u 43 = (pcs (vR u0 0) N j).2.2.2 ∧ vN u 44 = (pcs (vR u0 0) N j).1 ∧ vN u 45 = (pcs (vR u0 0) N j).2.1 ∧ u.1 46 = iI (pcs (vR u0 0) N j).2.2.1 ∧ u.1 47 = iI (if ok = true then 1 else 0) ∧ (∀ k, k ≠ 4 → k < 43 → u.1 k = u0.1 k) ∧ u.1 4 = iI 0 ∧ ∀ k, k < 48 → u.2 k = u0.2 k
def TapeOK (u : MS) (N : Nat) : Prop := vN u 1 = N ∧ N ≤ 120 ∧ ∀ k, k < N → 0 ≤ vR u 0 k ∧ vR u 0 k ≤ 255
section TSS
variable {S : Nat → Nat} {L : Mem} {u0 u : MS} {N j : Nat}
theorem TS.next (hS : LitOK S L) (n : Nat) (hn : 2100 ≤ n) (hT : TapeOK u0 N) (h : TS u0 u N j true) : ∃ u1, f_X12_next S n L u = some u1 ∧ TS u0 u1 N (j + 1) true ∧ u1.2 = u.2 := by
  obtain ⟨h1, h2, h3, h4, h5, h6, h7, h8⟩ := h
  obtain ⟨t1, t2, t3⟩ := hT
  have hR : vR u 0 = vR u0 0 := by funext k; unfold vR; rw [h8 0 (by decide)]
  have hp := pcs_rng (vR u0 0) N j
  obtain ⟨u1, x1, x2, x3, x4, x5, x6, x7⟩ := t_next hS n hn u N (pcs (vR u0 0) N j).2.2.2 (by rw [← t1]; unfold vN; rw [h6 1 (by decide) (by decide)]) t2 h1 hp.2 (by rw [hR]; exact t3)
  rw [hR] at x2 x3 x4 x5
  exact ⟨u1, x1, ⟨x2, x3, x4, x5, by rw [x6 47 (by decide) (by decide) (by decide) (by decide)]; exact h5, fun k k1 k2 => by rw [x6 k (by omega) (by omega) (by omega) (by omega)]; exact h6 k k1 k2, by rw [x6 4 (by decide) (by decide) (by decide) (by decide)]; exact h7, fun k hk => by rw [x7]; exact h8 k hk⟩, x7⟩
theorem TS.fit {ok : Bool} (h : TS u0 u N j ok) (b : Bool) : TS u0 (uI u 47 (iI (if b = true then 1 else 0))) N j b := by
  obtain ⟨h1, h2, h3, h4, h5, h6, h7, h8⟩ := h
  refine ⟨h1, h2, h3, h4, by simp [uI, upd], fun k k1 k2 => ?_, h7, h8⟩
  show upd u.1 47 _ k = _
  simp only [upd, if_neg (show ¬ k = 47 by omega)]
  exact h6 k k1 k2
theorem TS.tk {ok : Bool} (h : TS u0 u N j ok) : u.1 45 = iI (pcs (vR u0 0) N j).2.1 := by rw [u1_iI, h.2.2.1]
theorem tk_rng (g : Nat → Int) (N j : Nat) : 0 ≤ (pcs g N j).2.1 ∧ (pcs g N j).2.1 ≤ 4 := by
  have key : ∀ i, 0 ≤ (tok g N i).2.1 ∧ (tok g N i).2.1 ≤ 4 := fun i => by
    unfold tok
    split
    · simp
    · simp only
      unfold tkB
      split
      · simp only
        split <;> omega
      · split
        · simp only
          split <;> omega
        · simp only
          split <;> omega
  cases j with
  | zero => exact key 0
  | succ j => exact key _
/-- begins -/
theorem TS.begins (hS : LitOK S L) (n : Nat) (hn : 2100 ≤ n) (hT : TapeOK u0 N) : ∃ u1, f_X12_begins S n L u0 = some u1 ∧ TS u0 u1 N 0 true ∧ u1.2 = u0.2 := by
  obtain ⟨t1, t2, t3⟩ := hT
  unfold f_X12_begins
  obtain ⟨u1, x1, x2, x3, x4, x5, x6, x7⟩ := t_next hS n hn (uI (uI (uI u0 43 (0 : Int32)) 47 (1 : Int32)) 4 (0 : Int32)) N 0 t1 t2 rfl (by omega) t3
  refine ⟨u1, by rw [x1]; rfl, ⟨x2, x3, x4, x5, by rw [x6 47 (by decide) (by decide) (by decide) (by decide)]; rfl, fun k k1 k2 => ?_, by rw [x6 4 (by decide) (by decide) (by decide) (by decide)]; rfl, fun k _ => by rw [x7]; rfl⟩, x7⟩
  rw [x6 k (by omega) (by omega) (by omega) (by omega)]
  show upd (upd (upd u0.1 43 _) 47 _) 4 _ k = _
  simp only [upd, if_neg k1, if_neg (show ¬ k = 47 by omega), if_neg (show ¬ k = 43 by omega)]
theorem fit_b (ok : Bool) : (iI (if ok = true then 1 else 0) = (0 : Int32)) ↔ ok = false := by
  cases ok
  · exact ⟨fun _ => rfl, fun _ => rfl⟩
  · exact ⟨fun h => absurd h (by decide), fun h => by cases h⟩
/-- a number -/
theorem TS.number (hS : LitOK S L) (n : Nat) (hn : 2100 ≤ n) (hT : TapeOK u0 N) {ok : Bool} (h : TS u0 u N j ok) : (ok = true ∧ (pcs (vR u0 0) N j).2.1 = 3 ∧ ∃ u1, f_X12_number S n L u = some (iI (pcs (vR u0 0) N j).2.2.1, u1) ∧ TS u0 u1 N (j + 1) true ∧ u1.2 = u.2) ∨ (¬ (ok = true ∧ (pcs (vR u0 0) N j).2.1 = 3) ∧ ∃ u1, f_X12_number S n L u = some (iI 0, u1) ∧ TS u0 u1 N j false ∧ u1.2 = u.2) := by
  have hk := tk_rng (vR u0 0) N j
  have e3 : (iI (pcs (vR u0 0) N j).2.1 = (3 : Int32)) ↔ (pcs (vR u0 0) N j).2.1 = 3 := iI_eq _ 3 (by omega)
  have hz : ((if u.1 47 = 0 then (some ((0 : Int32))) else (if u.1 45 = (3 : Int32) then (some ((1 : Int32))) else (some ((0 : Int32))))) : Option Int32) = some (iI (if (ok && decide ((pcs (vR u0 0) N j).2.1 = 3)) = true then 1 else 0)) := by
    rw [h.2.2.2.2.1, h.tk]
    simp only [fit_b, e3]
    cases ok
    · rfl
    · by_cases c : (pcs (vR u0 0) N j).2.1 = 3
      · simp [c]; rfl
      · simp [c]; rfl
  have h47 : ∀ x : Int32, (uI u 47 x).1 47 = x := fun x => by simp [uI, upd]
  unfold f_X12_number
  rw [hz, Option.bind_some, h47]
  have hf := h.fit (ok && decide ((pcs (vR u0 0) N j).2.1 = 3))
  by_cases c : ok = true ∧ (pcs (vR u0 0) N j).2.1 = 3
  · left
    have cb : (ok && decide ((pcs (vR u0 0) N j).2.1 = 3)) = true := by rw [c.1, decide_eq_true c.2]; rfl
    rw [cb] at hf ⊢
    obtain ⟨u1, x1, x2, x3⟩ := hf.next hS n hn hT
    refine ⟨c.1, c.2, u1, ?_, x2, x3⟩
    rw [if_pos (show iI (if true = true then 1 else 0) = (0 : Int32) ∨ iI (if true = true then 1 else 0) = (1 : Int32) from Or.inr rfl), if_neg (by decide), x1, Option.bind_some, hf.2.2.2.1]
  · right
    have cb : (ok && decide ((pcs (vR u0 0) N j).2.1 = 3)) = false := by
      cases ok
      · rfl
      · have : ¬ (pcs (vR u0 0) N j).2.1 = 3 := fun q => c ⟨rfl, q⟩
        simp [this]
    rw [cb] at hf ⊢
    refine ⟨c, _, ?_, hf, rfl⟩
    rw [if_pos (show iI (if false = true then 1 else 0) = (0 : Int32) ∨ iI (if false = true then 1 else 0) = (1 : Int32) from Or.inl rfl), if_pos (by decide)]
    rfl
/-- a word of some from one on -/
theorem TS.word (hS : LitOK S L) (n : Nat) (hn : 2100 ≤ n) (hT : TapeOK u0 N) {ok : Bool} (h : TS u0 u N j ok) (a m : Int) (ha : 0 ≤ a ∧ a ≤ 100 ∧ 1 ≤ m ∧ m ≤ 100) : (ok = true ∧ (pcs (vR u0 0) N j).2.1 = 2 ∧ (a ≤ (pcs (vR u0 0) N j).2.2.1 ∧ (pcs (vR u0 0) N j).2.2.1 < a + m) ∧ ∃ u1, f_X12_word S n L u (iI a) (iI m) = some (iI (pcs (vR u0 0) N j).2.2.1, u1) ∧ TS u0 u1 N (j + 1) true ∧ u1.2 = u.2) ∨ (¬ (ok = true ∧ (pcs (vR u0 0) N j).2.1 = 2 ∧ a ≤ (pcs (vR u0 0) N j).2.2.1 ∧ (pcs (vR u0 0) N j).2.2.1 < a + m) ∧ ∃ u1, f_X12_word S n L u (iI a) (iI m) = some (iI a, u1) ∧ TS u0 u1 N j false ∧ u1.2 = u.2) := by
  have hk := tk_rng (vR u0 0) N j
  have hw := pcs_word (vR u0 0) N j
  have e3 : (iI (pcs (vR u0 0) N j).2.1 = (2 : Int32)) ↔ (pcs (vR u0 0) N j).2.1 = 2 := iI_eq _ 2 (by omega)
  have hz : ((if u.1 47 = 0 then (some ((0 : Int32))) else (if u.1 45 = (2 : Int32) then ((f_X12_isIn u (u.1 46) (iI a) ((iI a + iI m) - (1 : Int32))).bind fun r4 => if r4 = 0 then (some ((0 : Int32))) else (some ((1 : Int32)))) else (some ((0 : Int32))))) : Option Int32) = some (iI (if (ok && decide ((pcs (vR u0 0) N j).2.1 = 2 ∧ a ≤ (pcs (vR u0 0) N j).2.2.1 ∧ (pcs (vR u0 0) N j).2.2.1 < a + m)) = true then 1 else 0)) := by
    rw [h.2.2.2.2.1, h.tk, h.2.2.2.1, show (1 : Int32) = iI 1 from rfl, iI_add, iI_sub]
    simp only [fit_b, e3]
    cases ok
    · rfl
    · by_cases c : (pcs (vR u0 0) N j).2.1 = 2
      · have hw2 := hw c
        rw [t_isIn u _ a (a + m - 1) (by omega) (by omega) (by omega), Option.bind_some]
        simp only [b0z]
        by_cases c2 : a ≤ (pcs (vR u0 0) N j).2.2.1 ∧ (pcs (vR u0 0) N j).2.2.1 ≤ a + m - 1
        · rw [if_neg (by decide), if_pos c, if_neg (fun q => q c2), if_pos (by simp [c]; omega)]
        · rw [if_neg (by decide), if_pos c, if_pos c2, if_neg (by simp [c]; omega)]
          rfl
      · simp [c]; rfl
  have h47 : ∀ x : Int32, (uI u 47 x).1 47 = x := fun x => by simp [uI, upd]
  unfold f_X12_word
  rw [hz, Option.bind_some, h47]
  have hf := h.fit (ok && decide ((pcs (vR u0 0) N j).2.1 = 2 ∧ a ≤ (pcs (vR u0 0) N j).2.2.1 ∧ (pcs (vR u0 0) N j).2.2.1 < a + m))
  by_cases c : ok = true ∧ (pcs (vR u0 0) N j).2.1 = 2 ∧ a ≤ (pcs (vR u0 0) N j).2.2.1 ∧ (pcs (vR u0 0) N j).2.2.1 < a + m
  · left
    have cb : (ok && decide ((pcs (vR u0 0) N j).2.1 = 2 ∧ a ≤ (pcs (vR u0 0) N j).2.2.1 ∧ (pcs (vR u0 0) N j).2.2.1 < a + m)) = true := by rw [c.1, decide_eq_true c.2]; rfl
    rw [cb] at hf ⊢
    obtain ⟨u1, x1, x2, x3⟩ := hf.next hS n hn hT
    refine ⟨c.1, c.2.1, c.2.2, u1, ?_, x2, x3⟩
    rw [if_pos (show iI (if true = true then 1 else 0) = (0 : Int32) ∨ iI (if true = true then 1 else 0) = (1 : Int32) from Or.inr rfl), if_neg (by decide), x1, Option.bind_some, hf.2.2.2.1]
  · right
    have cb : (ok && decide ((pcs (vR u0 0) N j).2.1 = 2 ∧ a ≤ (pcs (vR u0 0) N j).2.2.1 ∧ (pcs (vR u0 0) N j).2.2.1 < a + m)) = false := by
      cases ok
      · rfl
      · rw [decide_eq_false (fun q => c ⟨rfl, q⟩)]; rfl
    rw [cb] at hf ⊢
    refine ⟨c, _, ?_, hf, rfl⟩
    rw [if_pos (show iI (if false = true then 1 else 0) = (0 : Int32) ∨ iI (if false = true then 1 else 0) = (1 : Int32) from Or.inl rfl), if_pos (by decide)]
/-- what goes on if it is there -/
theorem TS.goes (hS : LitOK S L) (n : Nat) (hn : 2100 ≤ n) (hT : TapeOK u0 N) {ok : Bool} (h : TS u0 u N j ok) (a m : Int) (ha : a = 2 ∧ 0 ≤ m ∧ m ≤ 100 ∨ a = 4 ∧ 0 ≤ m ∧ m ≤ 255) (hv : -2147483648 ≤ (pcs (vR u0 0) N j).2.2.1 ∧ (pcs (vR u0 0) N j).2.2.1 < 2147483648) : (ok = true ∧ (pcs (vR u0 0) N j).2.1 = a ∧ (pcs (vR u0 0) N j).2.2.1 = m ∧ ∃ u1, f_X12_goes S n L u (iI a) (iI m) = some (iI 1, u1) ∧ TS u0 u1 N (j + 1) true ∧ u1.2 = u.2) ∨ (¬ (ok = true ∧ (pcs (vR u0 0) N j).2.1 = a ∧ (pcs (vR u0 0) N j).2.2.1 = m) ∧ f_X12_goes S n L u (iI a) (iI m) = some (iI 0, u)) := by
  have hk := tk_rng (vR u0 0) N j
  unfold f_X12_goes
  rw [h.2.2.2.2.1, h.tk, h.2.2.2.1, it_eq _ _ (by omega), it_eq _ _ (by omega)]
  simp only [fit_b]
  cases ok
  · right
    exact ⟨fun q => by simp at q, by rw [if_pos rfl]; rfl⟩
  · rw [if_neg (by decide)]
    by_cases c1 : (pcs (vR u0 0) N j).2.1 = a
    · by_cases c2 : (pcs (vR u0 0) N j).2.2.1 = m
      · left
        obtain ⟨u1, x1, x2, x3⟩ := h.next hS n hn hT
        rw [if_pos c1, if_pos c2, x1]
        exact ⟨rfl, c1, c2, u1, rfl, x2, x3⟩
      · right
        rw [if_pos c1, if_neg c2]
        exact ⟨fun q => c2 q.2.2, rfl⟩
    · right
      rw [if_neg c1]
      exact ⟨fun q => c1 q.2.1, rfl⟩
end TSS
