/-! THE CLASS READS: words, marks, what may be there, the end; the beginning -/
theorem codX_fact (g : Nat → Int) (N j : Nat) : ((pcs g N j).2.1 = 0 ∧ codX g N j = -1) ∨ ((pcs g N j).2.1 = 1 ∧ codX g N j = 0) ∨ ((pcs g N j).2.1 = 2 ∧ (0 ≤ (pcs g N j).2.2.1 ∧ (pcs g N j).2.2.1 ≤ 8) ∧ codX g N j = 102 + (pcs g N j).2.2.1) ∨ ((pcs g N j).2.1 = 2 ∧ (pcs g N j).2.2.1 = 9 ∧ codX g N j = 100) ∨ ((pcs g N j).2.1 = 2 ∧ (pcs g N j).2.2.1 = 10 ∧ codX g N j = 101) ∨ ((pcs g N j).2.1 = 3 ∧ codX g N j = 1) ∨ ((pcs g N j).2.1 = 4 ∧ codX g N j = (pcs g N j).2.2.1 ∧ ((pcs g N j).2.2.1 = 43 ∨ (pcs g N j).2.2.1 = 45 ∨ (pcs g N j).2.2.1 = 44 ∨ (pcs g N j).2.2.1 = 58)) := by
  have q1 := tk_rng g N j
  have q2 := pcs_word g N j
  have mk : (pcs g N j).2.1 = 4 → (pcs g N j).2.2.1 = 43 ∨ (pcs g N j).2.2.1 = 45 ∨ (pcs g N j).2.2.1 = 44 ∨ (pcs g N j).2.2.1 = 58 := by
    have key : ∀ i, (tok g N i).2.1 = 4 → (tok g N i).2.2.1 = 43 ∨ (tok g N i).2.2.1 = 45 ∨ (tok g N i).2.2.1 = 44 ∨ (tok g N i).2.2.1 = 58 := fun i h => by
      unfold tok at *
      split at h
      · simp at h
      · rename_i cc
        rw [if_neg cc]
        simp only at h ⊢
        unfold tkB at *
        split at h
        · simp only at h
          split at h <;> simp at h
        · rename_i c2
          split at h
          · simp only at h
            split at h <;> simp at h
          · rename_i c3
            rw [if_neg c2, if_neg c3]
            simp only at h ⊢
            split at h
            · assumption
            · simp at h
    cases j with
    | zero => exact key 0
    | succ j => exact key _
  unfold codX codP
  rcases (by omega : (pcs g N j).2.1 = 0 ∨ (pcs g N j).2.1 = 1 ∨ (pcs g N j).2.1 = 2 ∨ (pcs g N j).2.1 = 3 ∨ (pcs g N j).2.1 = 4) with e | e | e | e | e
  · left; rw [e]; exact ⟨rfl, rfl⟩
  · right; left; rw [e]; exact ⟨rfl, rfl⟩
  · have := q2 e
    rw [e]
    by_cases v9 : (pcs g N j).2.2.1 = 9
    · right; right; right; left; rw [v9]; exact ⟨rfl, rfl, rfl⟩
    · by_cases v10 : (pcs g N j).2.2.1 = 10
      · right; right; right; right; left; rw [v10]; exact ⟨rfl, rfl, rfl⟩
      · right; right; left
        rw [if_neg (by decide), if_pos rfl, if_neg v9, if_neg v10]
        exact ⟨rfl, ⟨by omega, by omega⟩, rfl⟩
  · right; right; right; right; right; left; rw [e]; exact ⟨rfl, rfl⟩
  · have := mk e
    right; right; right; right; right; right
    rw [e]
    exact ⟨rfl, rfl, this⟩
section RDS
variable {B : Nat} {M : Mem} {rr p row s c m N j : Nat} {g : Nat → Int} {t : List Int} {w : Int}
theorem RDs.word (hD : RDd B rr p row s c m) (h : RDs M rr p row s c m N g t j w) (hN : N ≤ 120) (hby : ∀ k, k < N → 0 ≤ g k ∧ g k ≤ 255) (a n b : Int) (ha : a = 102 ∧ n = 5 ∧ b = 0 ∨ a = 107 ∧ n = 4 ∧ b = 5) : ∃ M1, (∀ y, y ≠ rr → y ≠ row → M1 y = M y) ∧ (((pcs g N j).2.1 = 2 ∧ (b ≤ (pcs g N j).2.2.1 ∧ (pcs g N j).2.2.1 < b + n) ∧ f_X7_takesWord B M (some rr) (iI a) (iI n) = some (1, M1) ∧ RDs M1 rr p row s c m N g (t ++ [(pcs g N j).2.2.1 - b]) (j + 1) w) ∨ (¬ ((pcs g N j).2.1 = 2 ∧ b ≤ (pcs g N j).2.2.1 ∧ (pcs g N j).2.2.1 < b + n) ∧ f_X7_takesWord B M (some rr) (iI a) (iI n) = some (0, M1) ∧ RDs M1 rr p row s c m N g t j (pcs g N j).1)) := by
  have hc := h.code
  have hx := codX_rng g N hby j
  have hf := codX_fact g N j
  have h0 := h
  obtain ⟨h1, h2, h3, q, fs, fc, fm, h4, h5, h6, h7, h8⟩ := h
  obtain ⟨M2, a1, a2, a3⟩ := h0.wrong hD hN
  unfold f_X7_takesWord
  rw [gR_at h1, gI_at h1]
  simp only [List.getElem?_cons_zero, List.getElem?_cons_succ, Option.bind_some]
  rw [isO_at h6.1, if_pos rfl, hc, Option.bind_some, isO_at h1, iI_sub, a1, Option.bind_some, if_pos (show (0 : Int32) = 0 ∨ (0 : Int32) = 1 from Or.inl rfl)]
  have e0 : (iI (codX g N j - a) < (0 : Int32)) ↔ codX g N j - a < 0 := iI_lt _ 0 (by omega)
  simp only [e0, if_true]
  rw [it_lt _ _ (by omega)]
  by_cases k : (pcs g N j).2.1 = 2 ∧ b ≤ (pcs g N j).2.2.1 ∧ (pcs g N j).2.2.1 < b + n
  · have hcx : codX g N j = 102 + (pcs g N j).2.2.1 := by omega
    have hk : (pcs g N j).2.1 ≠ 0 := by omega
    have hjl := h0.jlt hk
    obtain ⟨M1, b1, b2, b3, b4⟩ := h0.push hD hjl.2 ((pcs g N j).2.2.1 - b)
    have hlen : (t ++ [(pcs g N j).2.2.1 - b]).length = t.length + 1 := by rw [List.length_append]; rfl
    obtain ⟨d1, d2⟩ := h0.step hD (t1 := t ++ [(pcs g N j).2.2.1 - b]) hk (by rw [hlen]; exact b2) b3 (by rw [hlen]; omega) b4
    refine ⟨_, fun y y1 y2 => ?_, Or.inl ⟨k.1, k.2, ?_, d2⟩⟩
    · rw [va_up_ne _ _ y1]
      exact b4 y y1 y2
    · rw [if_neg (by omega), if_pos (by omega), show codX g N j - a = (pcs g N j).2.2.1 - b by omega, b1, Option.bind_some, gI_at b2]
      simp only [List.getElem?_cons_zero, List.getElem?_cons_succ, Option.bind_some]
      rw [show (1 : Int32) = iI 1 from rfl, iI_add, show ((j : Int) + 1) = ((j + 1 : Nat) : Int) by omega, d1]
      rfl
  · refine ⟨M2, fun y y1 _ => a3 y y1, Or.inr ⟨k, ?_, a2⟩⟩
    by_cases k1 : codX g N j - a < 0
    · rw [if_pos k1]
    · rw [if_neg k1, if_neg (by omega)]
theorem RDs.skips (hD : RDd B rr p row s c m) (h : RDs M rr p row s c m N g t j w) (hby : ∀ k, k < N → 0 ≤ g k ∧ g k ≤ 255) (a : Int) (ha : 2 ≤ a ∧ a ≤ 255) : ∃ M1, (∀ y, y ≠ rr → y ≠ row → M1 y = M y) ∧ ((codX g N j = a ∧ f_X7_skips B M (some rr) (iI a) = some (1, M1) ∧ RDs M1 rr p row s c m N g t (j + 1) w) ∨ (codX g N j ≠ a ∧ f_X7_skips B M (some rr) (iI a) = some (0, M1) ∧ M1 = M)) := by
  have hc := h.code
  have hx := codX_rng g N hby j
  have hf := codX_fact g N j
  have h0 := h
  obtain ⟨h1, h2, h3, q, fs, fc, fm, h4, h5, h6, h7, h8⟩ := h
  unfold f_X7_skips
  rw [gR_at h1, gI_at h1]
  simp only [List.getElem?_cons_zero, List.getElem?_cons_succ, Option.bind_some]
  rw [isO_at h6.1, if_pos rfl, hc, Option.bind_some, it_eq _ _ (by omega)]
  by_cases k : codX g N j = a
  · have hk : (pcs g N j).2.1 ≠ 0 := by omega
    obtain ⟨d1, d2⟩ := h0.step hD (t1 := t) hk h1 h2 (by omega) (fun _ _ _ => rfl)
    refine ⟨_, fun y y1 y2 => va_up_ne _ _ y1, Or.inl ⟨k, ?_, d2⟩⟩
    rw [if_pos k, show (1 : Int32) = iI 1 from rfl, iI_add, show ((j : Int) + 1) = ((j + 1 : Nat) : Int) by omega, d1]
    rfl
  · exact ⟨M, fun _ _ _ => rfl, Or.inr ⟨k, by rw [if_neg k], rfl⟩⟩
theorem RDs.mark (hD : RDd B rr p row s c m) (h : RDs M rr p row s c m N g t j w) (hN : N ≤ 120) (hby : ∀ k, k < N → 0 ≤ g k ∧ g k ≤ 255) (a : Int) (ha : 2 ≤ a ∧ a ≤ 99) : ∃ M1, (∀ y, y ≠ rr → y ≠ row → M1 y = M y) ∧ (((pcs g N j).2.1 = 4 ∧ (pcs g N j).2.2.1 = a ∧ f_X7_takesMark B M (some rr) (iI a) = some (1, M1) ∧ RDs M1 rr p row s c m N g t (j + 1) w) ∨ (¬ ((pcs g N j).2.1 = 4 ∧ (pcs g N j).2.2.1 = a) ∧ f_X7_takesMark B M (some rr) (iI a) = some (0, M1) ∧ RDs M1 rr p row s c m N g t j (pcs g N j).1)) := by
  have hf := codX_fact g N j
  have hro := isO_at h.1
  unfold f_X7_takesMark
  obtain ⟨M1, x1, x2⟩ := h.skips hD hby a (by omega)
  rcases x2 with ⟨k, z1, z2⟩ | ⟨k, z1, z2⟩
  · refine ⟨M1, x1, Or.inl ⟨by omega, by omega, ?_, z2⟩⟩
    rw [hro, if_pos rfl, z1, Option.bind_some, if_neg (show ¬ (1 : Int32) = 0 by decide)]
  · subst z2
    obtain ⟨M2, a1, a2, a3⟩ := h.wrong hD hN
    refine ⟨M2, fun y y1 _ => a3 y y1, Or.inr ⟨fun q => by omega, ?_, a2⟩⟩
    rw [hro, if_pos rfl, z1, Option.bind_some, if_pos rfl, hro, if_pos rfl, a1, Option.bind_some, if_pos rfl]
theorem RDs.atEnd (hD : RDd B rr p row s c m) (h : RDs M rr p row s c m N g t j w) (hN : N ≤ 120) (hby : ∀ k, k < N → 0 ≤ g k ∧ g k ≤ 255) : ∃ M1, (∀ y, y ≠ rr → y ≠ row → M1 y = M y) ∧ (((pcs g N j).2.1 = 0 ∧ f_X7_isAtEnd B M (some rr) = some (1, M1) ∧ M1 = M) ∨ ((pcs g N j).2.1 ≠ 0 ∧ f_X7_isAtEnd B M (some rr) = some (0, M1) ∧ RDs M1 rr p row s c m N g t j (pcs g N j).1)) := by
  have hc := h.code
  have hx := codX_rng g N hby j
  have hf := codX_fact g N j
  have h0 := h
  obtain ⟨h1, h2, h3, q, fs, fc, fm, h4, h5, h6, h7, h8⟩ := h
  unfold f_X7_isAtEnd
  rw [gR_at h1, gI_at h1]
  simp only [List.getElem?_cons_zero, List.getElem?_cons_succ, Option.bind_some]
  rw [isO_at h6.1, if_pos rfl, hc, Option.bind_some, iI_m1, it_eq _ _ (by omega)]
  by_cases k : (pcs g N j).2.1 = 0
  · exact ⟨M, fun _ _ _ => rfl, Or.inl ⟨k, by rw [if_pos (by omega)], rfl⟩⟩
  · obtain ⟨M2, a1, a2, a3⟩ := h0.wrong hD hN
    refine ⟨M2, fun y y1 _ => a3 y y1, Or.inr ⟨k, ?_, a2⟩⟩
    rw [if_neg (by omega), isO_at h1, if_pos rfl, a1, Option.bind_some, if_pos rfl]
/-- the beginning: the tape is cut -/
theorem z_begin {S : Nat → Nat} {L : Mem} {a b : Nat} {f : Nat → Int32} {fs fc fm fr : Nat → Int32} {z1 z2 z3 z4 z5 : Int32} (hSL : LitOK S L) (hL : LOK B L) (hcon : ∀ y e, L y = some e → M y = some e) (hT : TP M a b N f) (hN : N ≤ 120) (hg : ∀ k, f k = iI (g k)) (hby : ∀ k, k < N → 0 ≤ g k ∧ g k ≤ 255) (hD : RDd B rr p row s c m) (hd : s ≠ c ∧ s ≠ m ∧ c ≠ m) (hB : B ≤ p ∧ B ≤ s ∧ B ≤ c ∧ B ≤ m) (hab : (a ≠ rr ∧ a ≠ p ∧ a ≠ s ∧ a ≠ c ∧ a ≠ m) ∧ (b ≠ rr ∧ b ≠ p ∧ b ≠ s ∧ b ≠ c ∧ b ≠ m)) (h1 : M rr = some (.inl (10, [.ref p, .ref row, .int z1, .int z2, .int z3]))) (h2 : M p = some (.inl (9, [.ref s, .ref c, .ref m, .int z4, .int z5]))) (h3 : M s = some (.inr (.inl (0, 120, fs)))) (h4 : M c = some (.inr (.inl (0, 120, fc)))) (h5 : M m = some (.inr (.inl (0, 120, fm)))) (h6 : M row = some (.inr (.inl (0, 120, fr)))) (n : Nat) (hn : 400 ≤ n) : ∃ M1, f_X7_begin B S n M (some rr) (some a) = some M1 ∧ RDs M1 rr p row s c m N g [] 0 (-9999) ∧ ∀ y, y ≠ rr → y ≠ p → y ≠ s → y ≠ c → y ≠ m → M1 y = M y := by
  have nps : p ≠ s ∧ p ≠ c ∧ p ≠ m := by
    refine ⟨fun e => ?_, fun e => ?_, fun e => ?_⟩
    · rw [e, h3] at h2; cases h2
    · rw [e, h4] at h2; cases h2
    · rw [e, h5] at h2; cases h2
  obtain ⟨⟨dB1, dB2⟩, ⟨d1, d2, d3⟩, ⟨d4, d5, d6, d7, d8⟩, d9⟩ := hD
  have a2 : (va_up M p (some (.inl (9, [.ref s, .ref c, .ref m, .int (iI 0), .int z5])))) a = some (.inl (12, [.ref b, .int (iI N)])) := by rw [va_up_ne _ _ hab.1.2.1]; exact hT.1
  generalize hM4 : va_up M p (some (.inl (9, [.ref s, .ref c, .ref m, .int (iI 0), .int (iI N)]))) = M4
  have f4 : ∀ y, y ≠ p → M4 y = M y := fun y hy => by rw [← hM4, va_up_ne _ _ hy]
  have hP4 : PP M4 p s c m (0 : Nat) N fs fc fm := ⟨by rw [← hM4, va_up_self]; rfl, by rw [f4 s nps.1.symm]; exact h3, by rw [f4 c nps.2.1.symm]; exact h4, by rw [f4 m nps.2.2.symm]; exact h5⟩
  have hT4 : TP M4 a b N f := ⟨by rw [f4 a hab.1.2.1]; exact hT.1, by rw [f4 b hab.2.2.1]; exact hT.2⟩
  obtain ⟨M5, q1, fs1, fc1, fm1, y1, y2, y3, y4, y5, y6⟩ := z_cut_L (B := B) hSL hL hN hg hby hd hB ⟨hab.1.2, hab.2.2⟩ n hn n M4 0 0 0 fs fc fm (by omega) (by omega) (by omega) (by omega) (fun y e hy => by
    rw [f4 y (fun q => by
      rw [q, hL p hB.1] at hy
      cases hy)]
    exact hcon y e hy) hT4 hP4 (fun k hk => by omega) rfl
  have hcut : f_X6_cut B S n M (some p) (some a) = some M5 := by
    unfold f_X6_cut f_X9_size
    rw [pF_at hB.1 h2, if_pos (by simp), Option.bind_some]
    rw [show (va_up M p (some (Sum.inl (9, [Value.ref s, Value.ref c, Value.ref m, Value.int z4, Value.int z5].set 3 (Value.int 0)))) : Mem) = va_up M p (some (.inl (9, [.ref s, .ref c, .ref m, .int (iI 0), .int z5]))) from rfl, isO_at a2, if_pos rfl, gI_at a2]
    simp only [List.getElem?_cons_zero, List.getElem?_cons_succ, Option.bind_some]
    rw [pF_at hB.1 (va_up_self ..), if_pos (by simp), Option.bind_some]
    have e : va_up (va_up M p (some (.inl (9, [Value.ref s, .ref c, .ref m, .int (iI 0), .int z5])))) p (some (.inl (9, ([Value.ref s, .ref c, .ref m, .int (iI 0), .int z5] : List Value).set 4 (.int (iI N))))) = M4 := by
      rw [← hM4]
      funext y
      unfold va_up
      split <;> rfl
    rw [e]
    exact y1
  have r5 : M5 rr = some (.inl (10, [.ref p, .ref row, .int z1, .int z2, .int z3])) := by
    rw [y6 rr d4 d6 d7 d8, f4 rr d4]
    exact h1
  have w5 : M5 row = some (.inr (.inl (0, 120, fr))) := by
    rw [y6 row d9 d1 d2 d3, f4 row d9]
    exact h6
  refine ⟨va_up M5 rr (some (.inl (10, [.ref p, .ref row, .int (iI 0), .int (iI 0), .int (iI (-9999))]))), ?_, ⟨va_up_self .., ⟨fr, by rw [va_up_ne _ _ d5.symm]; exact w5, fun k x hk => by simp at hk⟩, by simp, q1, fs1, fc1, fm1, by omega, y2, y3.fr (va_up_ne _ _ d4.symm) (va_up_ne _ _ d6.symm) (va_up_ne _ _ d7.symm) (va_up_ne _ _ d8.symm), y4, y5⟩, fun y k1 k2 k3 k4 k5 => by rw [va_up_ne _ _ k1, y6 y k2 k3 k4 k5, f4 y k2]⟩
  unfold f_X7_begin
  rw [gR_at h1]
  simp only [List.getElem?_cons_zero, Option.bind_some]
  rw [isO_at h2, if_pos rfl, hcut, Option.bind_some, pF_at dB1 r5, if_pos (by simp), Option.bind_some, pF_at dB1 (va_up_self ..), if_pos (by simp), Option.bind_some, pF_at dB1 (va_up_self ..), if_pos (by simp), Option.bind_some]
  congr 1
  funext y
  unfold va_up
  split <;> rfl
end RDS
