/-! the end of a text, told (reference) -/
def EndU (u0 u1 : MS) (w : Int) : Prop := u1.1 3 = iI w ∧ u1.1 1 = iI 0 ∧ u1.1 4 = iI 0 ∧ (∀ k, k ≠ 1 → k ≠ 3 → k ≠ 4 → k < 43 → u1.1 k = u0.1 k) ∧ ∀ k, k < 48 → u1.2 k = u0.2 k
section ENDS
variable {u0 u : MS} {N j : Nat} {ok : Bool}
theorem ends_pos (u : MS) (h1 : u.1 47 = 1) (h2 : u.1 45 = 0) : f_X12_ends u = some (iI 1, uI (uI (uI u 47 1) 3 (-9999)) 1 0) := by
  have e : (uI u 47 (1 : Int32)).1 47 = 1 := by simp [uI, upd]
  have e2 : (uI (uI (uI u 47 (1 : Int32)) 3 (-9999 : Int32)) 1 (0 : Int32)).1 47 = 1 := by simp [uI, upd]
  unfold f_X12_ends
  rw [h1, if_neg (by decide), if_pos h2, Option.bind_some, if_pos (Or.inr rfl), e, if_neg (by decide), e2, if_pos (Or.inr rfl)]
  rfl
theorem ends_neg (u : MS) (h : u.1 47 = 0 ∨ u.1 45 ≠ 0) : f_X12_ends u = some (iI 0, uI (uI (uI u 47 0) 3 (u.1 44)) 1 0) := by
  have e : (uI u 47 (0 : Int32)).1 47 = 0 := by simp [uI, upd]
  have e4 : (uI u 47 (0 : Int32)).1 44 = u.1 44 := by simp [uI, upd]
  have e2 : (uI (uI (uI u 47 (0 : Int32)) 3 (u.1 44)) 1 (0 : Int32)).1 47 = 0 := by simp [uI, upd]
  have e0 : ((if (u.1 47) = 0 then (some ((0 : Int32))) else (if (u.1 45) = 0 then (some ((1 : Int32))) else (some ((0 : Int32))))) : Option (Int32)) = some 0 := by
    rcases h with h | h
    · rw [if_pos h]
    · rw [if_neg h]
      split <;> rfl
  unfold f_X12_ends
  rw [e0, Option.bind_some, if_pos (Or.inl rfl), e, if_pos rfl, e4, e2, if_pos (Or.inl rfl)]
  rfl
theorem EndU.of {w : Int} {z : Int32} (h : TS u0 u N j ok) (x : Int32) (hx : x = iI w) : EndU u0 (uI (uI (uI u 47 z) 3 x) 1 0) w := by
  obtain ⟨-, -, -, -, -, h6, h7, h8⟩ := h
  refine ⟨?_, ?_, ?_, fun k k1 k3 k4 k43 => ?_, fun k hk => h8 k hk⟩
  · rw [← hx]
    simp [uI, upd]
  · simp [uI, upd]
    rfl
  · rw [← h7]
    simp [uI, upd]
  · have : k ≠ 47 := by omega
    simp [uI, upd, k1, k3, this]
    exact h6 k k4 k43
theorem TS.ends (h : TS u0 u N j ok) : (ok = true ∧ (pcs (vR u0 0) N j).2.1 = 0 ∧ ∃ u1, f_X12_ends u = some (iI 1, u1) ∧ EndU u0 u1 (-9999) ∧ u1.2 = u.2) ∨ (¬ (ok = true ∧ (pcs (vR u0 0) N j).2.1 = 0) ∧ ∃ u1, f_X12_ends u = some (iI 0, u1) ∧ EndU u0 u1 (pcs (vR u0 0) N j).1 ∧ u1.2 = u.2) := by
  have h45 := h.tk
  have h47 := h.2.2.2.2.1
  have r := tk_rng (vR u0 0) N j
  by_cases c : ok = true ∧ (pcs (vR u0 0) N j).2.1 = 0
  · refine Or.inl ⟨c.1, c.2, _, ends_pos u ?_ ?_, EndU.of h _ rfl, rfl⟩
    · rw [h47, if_pos c.1]
      rfl
    · rw [h45, c.2]
      rfl
  · refine Or.inr ⟨c, _, ends_neg u ?_, EndU.of h _ ?_, rfl⟩
    · by_cases c1 : ok = true
      · refine Or.inr (fun e => c ⟨c1, ?_⟩)
        rw [h45, iI_zero, iI_eq _ _ (by omega)] at e
        exact e
      · refine Or.inl ?_
        rw [h47, if_neg c1]
        rfl
    · rw [← h.2.1, ← u1_iI]
end ENDS
