/-! THE CLASS READS: at its j-th piece, with what it has told so far -/
theorem pcs_end (g : Nat → Int) (N q : Nat) (h : (pcs g N q).2.1 = 0) : ∀ j, q ≤ j → pcs g N j = (N, 0, 0, N) := by
  have key : ∀ i, (tok g N i).2.1 = 0 → tok g N i = (N, 0, 0, N) := fun i h => by
    unfold tok at *
    split
    · rfl
    · rename_i c
      rw [if_neg c] at h
      exact absurd h (tkB_tk g N _)
  have h0 : pcs g N q = (N, 0, 0, N) := by
    cases q with
    | zero => exact key 0 h
    | succ q => exact key _ h
  intro j hj
  induction j with
  | zero =>
    have : q = 0 := by omega
    rw [← this]
    exact h0
  | succ j ih =>
    by_cases e : q = j + 1
    · rw [← e]; exact h0
    · show tok g N (pcs g N j).2.2.2 = _
      rw [ih (by omega)]
      exact skF_end g N
def codX (g : Nat → Int) (N j : Nat) : Int := if (pcs g N j).2.1 = 0 then -1 else codP (pcs g N j).2.1 (pcs g N j).2.2.1
def RDs (M : Mem) (rr p row s c m N : Nat) (g : Nat → Int) (t : List Int) (j : Nat) (w : Int) : Prop := M rr = some (.inl (10, [.ref p, .ref row, .int (iI t.length), .int (iI j), .int (iI w)])) ∧ (∃ fr, M row = some (.inr (.inl (0, 120, fr))) ∧ ∀ k x, t[k]? = some x → fr k = iI x) ∧ t.length ≤ j ∧ ∃ (q : Nat) (fs fc fm : Nat → Int32), j ≤ q ∧ q ≤ 120 ∧ PP M p s c m q N fs fc fm ∧ PcF g N q fs fc fm ∧ (pcs g N q).2.1 = 0
/-- the reader's cells are apart, and may be written -/
def RDd (B rr p row s c m : Nat) : Prop := (B ≤ rr ∧ B ≤ row) ∧ (row ≠ s ∧ row ≠ c ∧ row ≠ m) ∧ (rr ≠ p ∧ rr ≠ row ∧ rr ≠ s ∧ rr ≠ c ∧ rr ≠ m) ∧ row ≠ p
section RDR
variable {B : Nat} {M : Mem} {rr p row s c m N j : Nat} {g : Nat → Int} {t : List Int} {w : Int}
theorem v_rng (g : Nat → Int) (N : Nat) (hby : ∀ k, k < N → 0 ≤ g k ∧ g k ≤ 255) (j : Nat) : (pcs g N j).2.1 = 4 → 0 ≤ (pcs g N j).2.2.1 ∧ (pcs g N j).2.2.1 ≤ 255 := by
  have key : ∀ i, i ≤ N → (tok g N i).2.1 = 4 → 0 ≤ (tok g N i).2.2.1 ∧ (tok g N i).2.2.1 ≤ 255 := fun i hi h => by
    have hs := skF_rng g (N - i) i
    unfold tok at *
    split at h
    · simp at h
    · rename_i cc
      rw [if_neg cc]
      simp only at h ⊢
      have hb := hby (skF g (N - i) i) (by omega)
      unfold tkB at *
      split at h
      · simp only at h
        split at h <;> simp at h
      · rename_i c2
        split at h
        · simp only at h
          split at h <;> simp at h
        · rename_i c3
          rw [if_neg c2, if_neg c3]
          exact hb
  cases j with
  | zero => exact key 0 (by omega)
  | succ j => exact key _ (pcs_rng g N j).2
theorem codX_rng (g : Nat → Int) (N : Nat) (hby : ∀ k, k < N → 0 ≤ g k ∧ g k ≤ 255) (j : Nat) : -1 ≤ codX g N j ∧ codX g N j ≤ 255 := by
  have h1 := tk_rng g N j
  have h2 := pcs_word g N j
  have h4 := v_rng g N hby j
  unfold codX codP
  (repeat' split) <;> omega
theorem RDs.code (h : RDs M rr p row s c m N g t j w) : f_X6_codeAt M (some p) (iI j) = some (iI (codX g N j)) := by
  obtain ⟨h1, h2, h3, q, fs, fc, fm, h4, h5, h6, h7, h8⟩ := h
  unfold f_X6_codeAt codX
  rw [iI_zero, it_lt _ _ (by omega), if_neg (by omega), gI_at h6.1, gR_at h6.1]
  simp only [List.getElem?_cons_zero, List.getElem?_cons_succ, Option.bind_some]
  rw [it_le _ _ (by omega)]
  by_cases e : j = q
  · rw [if_pos (by omega), e, if_pos h8]
    rfl
  · have hf := h7 j (by omega)
    rw [if_neg (by omega), aI_at h6.2.2.1 (by omega) (by omega), Option.bind_some, Int.toNat_natCast, hf.2.1, if_neg hf.2.2.2]
theorem RDs.start (h : RDs M rr p row s c m N g t j w) (hN : N ≤ 120) : f_X6_startAt M (some p) (iI j) = some (iI (pcs g N j).1) := by
  obtain ⟨h1, h2, h3, q, fs, fc, fm, h4, h5, h6, h7, h8⟩ := h
  unfold f_X6_startAt
  rw [iI_zero, it_lt _ _ (by omega), if_neg (by omega), gI_at h6.1, gR_at h6.1]
  simp only [List.getElem?_cons_zero, List.getElem?_cons_succ, Option.bind_some]
  rw [it_le _ _ (by omega)]
  by_cases e : j = q
  · rw [if_pos (by omega), pcs_end g N q h8 j (by omega)]
    first | rfl | (rw [gI_at h6.1]; rfl)
  · have hf := h7 j (by omega)
    rw [if_neg (by omega), aI_at h6.2.1 (by omega) (by omega), Option.bind_some, Int.toNat_natCast, hf.1]
theorem RDs.num (h : RDs M rr p row s c m N g t j w) (h3 : (pcs g N j).2.1 = 3) : f_X6_numberAt M (some p) (iI j) = some (iI (pcs g N j).2.2.1) := by
  obtain ⟨h1, h2, h3', q, fs, fc, fm, h4, h5, h6, h7, h8⟩ := h
  have hq : j < q := by
    by_cases e : j = q
    · rw [e, h8] at h3
      omega
    · omega
  have hf := h7 j hq
  unfold f_X6_numberAt
  rw [iI_zero, it_lt _ _ (by omega), if_neg (by omega), gI_at h6.1, gR_at h6.1]
  simp only [List.getElem?_cons_zero, List.getElem?_cons_succ, Option.bind_some]
  rw [it_le _ _ (by omega), if_neg (by omega), aI_at h6.2.2.2 (by omega) (by omega), Option.bind_some, Int.toNat_natCast, hf.2.2.1, if_pos h3]
theorem PP.fr {M1 : Mem} {sz en : Int} {fs fc fm : Nat → Int32} (h : PP M p s c m sz en fs fc fm) (hp : M1 p = M p) (hs : M1 s = M s) (hc : M1 c = M c) (hm : M1 m = M m) : PP M1 p s c m sz en fs fc fm := ⟨hp.trans h.1, hs.trans h.2.1, hc.trans h.2.2.1, hm.trans h.2.2.2⟩
theorem RDs.wrong (hD : RDd B rr p row s c m) (h : RDs M rr p row s c m N g t j w) (hN : N ≤ 120) : ∃ M1, f_X7_isWrongHere B M (some rr) = some (0, M1) ∧ RDs M1 rr p row s c m N g t j (pcs g N j).1 ∧ ∀ y, y ≠ rr → M1 y = M y := by
  have hst := h.start hN
  obtain ⟨h1, ⟨fr, h2, h2b⟩, h3, q, fs, fc, fm, h4, h5, h6, h7, h8⟩ := h
  refine ⟨va_up M rr (some (.inl (10, [.ref p, .ref row, .int (iI t.length), .int (iI j), .int (iI (pcs g N j).1)]))), ?_, ⟨va_up_self .., ⟨fr, by rw [va_up_ne _ _ hD.2.2.1.2.1.symm]; exact h2, h2b⟩, h3, q, fs, fc, fm, h4, h5, h6.fr (va_up_ne _ _ hD.2.2.1.1.symm) (va_up_ne _ _ hD.2.2.1.2.2.1.symm) (va_up_ne _ _ hD.2.2.1.2.2.2.1.symm) (va_up_ne _ _ hD.2.2.1.2.2.2.2.symm), h7, h8⟩, fun y hy => va_up_ne _ _ hy⟩
  unfold f_X7_isWrongHere
  rw [gR_at h1, gI_at h1]
  simp only [List.getElem?_cons_zero, List.getElem?_cons_succ, Option.bind_some]
  rw [isO_at h6.1, if_pos rfl, hst, Option.bind_some, pF_at hD.1.1 h1, if_pos (by simp)]
  rfl
theorem RDs.push (hD : RDd B rr p row s c m) (h : RDs M rr p row s c m N g t j w) (hj : t.length < 120) (x : Int) : ∃ M1, f_X7_add B M (some rr) (iI x) = some M1 ∧ M1 rr = some (.inl (10, [.ref p, .ref row, .int (iI (t.length + 1 : Nat)), .int (iI j), .int (iI w)])) ∧ (∃ fr, M1 row = some (.inr (.inl (0, 120, fr))) ∧ ∀ k y, (t ++ [x])[k]? = some y → fr k = iI y) ∧ ∀ y, y ≠ rr → y ≠ row → M1 y = M y := by
  obtain ⟨h1, ⟨fr, h2, h2b⟩, h3, q, fs, fc, fm, h4, h5, h6, h7, h8⟩ := h
  have a1 : (va_up M row (some (.inr (.inl (0, 120, upd fr t.length (iI x)))))) rr = some (.inl (10, [.ref p, .ref row, .int (iI t.length), .int (iI j), .int (iI w)])) := by rw [va_up_ne _ _ hD.2.2.1.2.1]; exact h1
  refine ⟨va_up (va_up M row (some (.inr (.inl (0, 120, upd fr t.length (iI x)))))) rr (some (.inl (10, [.ref p, .ref row, .int (iI (t.length + 1 : Nat)), .int (iI j), .int (iI w)]))), ?_, va_up_self .., ⟨upd fr t.length (iI x), by rw [va_up_ne _ _ hD.2.2.1.2.1.symm, va_up_self], fun k y hk => ?_⟩, fun y y1 y2 => by rw [va_up_ne _ _ y1, va_up_ne _ _ y2]⟩
  · unfold f_X7_add
    rw [gI_at h1, gR_at h1]
    simp only [List.getElem?_cons_zero, List.getElem?_cons_succ, Option.bind_some]
    rw [show (120 : Int32) = iI 120 from rfl, it_le _ _ (by omega), if_neg (by omega), sI_at hD.1.2 h2 (by omega) (by omega), Option.bind_some, Int.toNat_natCast, gI_at a1]
    simp only [List.getElem?_cons_zero, List.getElem?_cons_succ, Option.bind_some]
    rw [show (1 : Int32) = iI 1 from rfl, iI_add, pF_at hD.1.1 a1, if_pos (by simp), Option.bind_some, show ((t.length : Int) + 1) = ((t.length + 1 : Nat) : Int) by omega]
    rfl
  · unfold upd
    by_cases e : k = t.length
    · subst e
      rw [List.getElem?_append_right (Nat.le_refl _), Nat.sub_self] at hk
      cases hk
      rw [if_pos rfl]
    · rw [if_neg e]
      by_cases c : k < t.length
      · rw [List.getElem?_append_left c] at hk
        exact h2b k y hk
      · rw [List.getElem?_eq_none (by rw [List.length_append]; show t.length + 1 ≤ k; omega)] at hk
        cases hk
/-- one piece on, with or without a word told -/
theorem RDs.step (hD : RDd B rr p row s c m) {M1 : Mem} {t1 : List Int} (h : RDs M rr p row s c m N g t j w) (hk : (pcs g N j).2.1 ≠ 0) (h1 : M1 rr = some (.inl (10, [.ref p, .ref row, .int (iI t1.length), .int (iI j), .int (iI w)]))) (h2 : ∃ fr, M1 row = some (.inr (.inl (0, 120, fr))) ∧ ∀ k y, t1[k]? = some y → fr k = iI y) (hl : t1.length ≤ j + 1) (hf : ∀ y, y ≠ rr → y ≠ row → M1 y = M y) : (pF B M1 (some rr) 10 3 (.int (iI (j + 1 : Nat)))) = some (va_up M1 rr (some (.inl (10, [.ref p, .ref row, .int (iI t1.length), .int (iI (j + 1 : Nat)), .int (iI w)])))) ∧ RDs (va_up M1 rr (some (.inl (10, [.ref p, .ref row, .int (iI t1.length), .int (iI (j + 1 : Nat)), .int (iI w)])))) rr p row s c m N g t1 (j + 1) w := by
  obtain ⟨k1, k2, k3, q, fs, fc, fm, h4, h5, h6, h7, h8⟩ := h
  obtain ⟨fr, g1, g2⟩ := h2
  have hq : j < q := by
    by_cases e : j = q
    · rw [e] at hk
      exact absurd h8 hk
    · omega
  refine ⟨?_, va_up_self .., ⟨fr, by rw [va_up_ne _ _ hD.2.2.1.2.1.symm]; exact g1, g2⟩, hl, q, fs, fc, fm, by omega, h5, ?_, h7, h8⟩
  · rw [pF_at hD.1.1 h1, if_pos (by simp)]
    rfl
  · refine h6.fr ?_ ?_ ?_ ?_
    · rw [va_up_ne _ _ hD.2.2.1.1.symm]; exact hf p hD.2.2.1.1.symm hD.2.2.2.symm
    · rw [va_up_ne _ _ hD.2.2.1.2.2.1.symm]; exact hf s hD.2.2.1.2.2.1.symm hD.2.1.1.symm
    · rw [va_up_ne _ _ hD.2.2.1.2.2.2.1.symm]; exact hf c hD.2.2.1.2.2.2.1.symm hD.2.1.2.1.symm
    · rw [va_up_ne _ _ hD.2.2.1.2.2.2.2.symm]; exact hf m hD.2.2.1.2.2.2.2.symm hD.2.1.2.2.symm
theorem RDs.jlt (h : RDs M rr p row s c m N g t j w) (hk : (pcs g N j).2.1 ≠ 0) : j < 120 ∧ t.length < 120 := by
  obtain ⟨k1, k2, k3, q, fs, fc, fm, h4, h5, h6, h7, h8⟩ := h
  have hq : j < q := by
    by_cases e : j = q
    · rw [e] at hk
      exact absurd h8 hk
    · omega
  omega
theorem RDs.number (hD : RDd B rr p row s c m) (h : RDs M rr p row s c m N g t j w) (hN : N ≤ 120) (hby : ∀ k, k < N → 0 ≤ g k ∧ g k ≤ 255) : ∃ M1, (∀ y, y ≠ rr → y ≠ row → M1 y = M y) ∧ (((pcs g N j).2.1 = 3 ∧ f_X7_takesNumber B M (some rr) = some (1, M1) ∧ RDs M1 rr p row s c m N g (t ++ [(pcs g N j).2.2.1]) (j + 1) w) ∨ ((pcs g N j).2.1 ≠ 3 ∧ f_X7_takesNumber B M (some rr) = some (0, M1) ∧ RDs M1 rr p row s c m N g t j (pcs g N j).1)) := by
  have hc := h.code
  have hx := codX_rng g N hby j
  have h0 := h
  obtain ⟨h1, h2, h3, q, fs, fc, fm, h4, h5, h6, h7, h8⟩ := h
  have hiff : codX g N j = 1 ↔ (pcs g N j).2.1 = 3 := by
    have q1 := tk_rng g N j
    have q2 := pcs_word g N j
    have q4 := v_rng g N hby j
    have mk : (pcs g N j).2.1 = 4 → (pcs g N j).2.2.1 = 43 ∨ (pcs g N j).2.2.1 = 45 ∨ (pcs g N j).2.2.1 = 44 ∨ (pcs g N j).2.2.1 = 58 := by
      have key : ∀ i, (tok g N i).2.1 = 4 → (tok g N i).2.2.1 = 43 ∨ (tok g N i).2.2.1 = 45 ∨ (tok g N i).2.2.1 = 44 ∨ (tok g N i).2.2.1 = 58 := fun i h => by
        unfold tok at *
        split at h
        · simp at h
        · rename_i cc
          rw [if_neg cc]
          simp only at h ⊢
          unfold tkB at *
          split at h
          · simp only at h
            split at h <;> simp at h
          · rename_i c2
            split at h
            · simp only at h
              split at h <;> simp at h
            · rename_i c3
              rw [if_neg c2, if_neg c3]
              simp only at h ⊢
              split at h
              · assumption
              · simp at h
      cases j with
      | zero => exact key 0
      | succ j => exact key _
    unfold codX codP
    constructor
    · intro e
      split at e
      · omega
      · split at e
        · (repeat' split at e) <;> omega
        · split at e
          · assumption
          · split at e
            · have := mk (by assumption)
              omega
            · omega
    · intro e
      rw [if_neg (by omega), if_neg (by omega), if_pos e]
  unfold f_X7_takesNumber
  rw [gR_at h1, gI_at h1]
  simp only [List.getElem?_cons_zero, List.getElem?_cons_succ, Option.bind_some]
  rw [isO_at h6.1, if_pos rfl, hc, Option.bind_some, isO_at h1]
  have e1 : (iI (codX g N j) = (1 : Int32)) ↔ (pcs g N j).2.1 = 3 := (iI_eq _ 1 (by omega)).trans hiff
  simp only [e1, if_true]
  by_cases k3 : (pcs g N j).2.1 = 3
  · have hk : (pcs g N j).2.1 ≠ 0 := by omega
    have hjl := h0.jlt hk
    obtain ⟨M1, a1, a2, a3, a4⟩ := h0.push hD hjl.2 (pcs g N j).2.2.1
    have hlen : (t ++ [(pcs g N j).2.2.1]).length = t.length + 1 := by rw [List.length_append]; rfl
    obtain ⟨b1, b2⟩ := h0.step hD (t1 := t ++ [(pcs g N j).2.2.1]) hk (by rw [hlen]; exact a2) a3 (by rw [hlen]; omega) a4
    refine ⟨_, fun y y1 y2 => ?_, Or.inl ⟨k3, ?_, b2⟩⟩
    · rw [va_up_ne _ _ y1]
      exact a4 y y1 y2
    · rw [if_pos k3, h0.num k3, Option.bind_some, a1, Option.bind_some, gI_at a2]
      simp only [List.getElem?_cons_zero, List.getElem?_cons_succ, Option.bind_some]
      rw [show (1 : Int32) = iI 1 from rfl, iI_add, show ((j : Int) + 1) = ((j + 1 : Nat) : Int) by omega, b1]
      rfl
  · obtain ⟨M1, a1, a2, a3⟩ := h0.wrong hD hN
    refine ⟨M1, fun y y1 _ => a3 y y1, Or.inr ⟨k3, ?_, a2⟩⟩
    rw [if_neg k3, a1, Option.bind_some, if_pos (Or.inl rfl)]
end RDR
