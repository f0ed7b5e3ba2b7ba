/-! THE REFERENCE'S NEXT PIECE -/
section RN
variable {S : Nat → Nat} {L : Mem}
theorem t_wordK (hS : LitOK S L) (n : Nat) (hn : 400 ≤ n) (u : MS) (b e : Nat) (hb : vN u 44 = b) (he : vN u 43 = e) (hbe : b ≤ e ∧ e ≤ 120) : ∀ (k : Nat) (c : Nat) (x : Int), x = 5 - (c : Int) → c ≤ 5 → c < k → f_X12_wordHere_L2 S n L u k (iI x) = some (if fstI (fun q => decide (segL (vR u 0) b (e - b) = kindT q)) c x = -1 then Sum.inr () else Sum.inl (iI (fstI (fun q => decide (segL (vR u 0) b (e - b) = kindT q)) c x))) := by
  intro k
  induction k with
  | zero => intro c x _ _ h; omega
  | succ k ih =>
    intro c x hx hc hk
    unfold f_X12_wordHere_L2
    rw [show (5 : Int32) = iI 5 from rfl, it_le _ _ (by omega)]
    cases c with
    | zero => rw [if_pos (by omega)]; rfl
    | succ c =>
      obtain ⟨a, k1, k2⟩ := t_kindName hS u x (by omega)
      rw [if_neg (by omega), k1, Option.bind_some, t_isSpelled n hn u b e hb he hbe k2, Option.bind_some, show (1 : Int32) = iI 1 from rfl, iI_add, ih c (x + 1) (by omega) (by omega) (by omega)]
      simp only [fstI, decide_eq_true_eq]
      by_cases h : segL (vR u 0) b (e - b) = kindT x
      · simp only [if_pos h]
        rw [if_neg (by decide), if_neg (by omega)]
      · simp only [if_neg h]
        rw [if_pos (show iI 0 = (0 : Int32) from rfl)]
theorem t_wordS (hS : LitOK S L) (n : Nat) (hn : 400 ≤ n) (u : MS) (b e : Nat) (hb : vN u 44 = b) (he : vN u 43 = e) (hbe : b ≤ e ∧ e ≤ 120) : ∀ (k : Nat) (c : Nat) (x : Int), x = 4 - (c : Int) → c ≤ 4 → c < k → f_X12_wordHere_L28 S n L u k (iI x) = some (if fstI (fun q => decide (segL (vR u 0) b (e - b) = sortT q)) c x = -1 then Sum.inr () else Sum.inl (iI (5 + fstI (fun q => decide (segL (vR u 0) b (e - b) = sortT q)) c x))) := by
  intro k
  induction k with
  | zero => intro c x _ _ h; omega
  | succ k ih =>
    intro c x hx hc hk
    unfold f_X12_wordHere_L28
    rw [show (4 : Int32) = iI 4 from rfl, it_le _ _ (by omega)]
    cases c with
    | zero => rw [if_pos (by omega)]; rfl
    | succ c =>
      obtain ⟨a, k1, k2⟩ := t_sortName hS u x (by omega)
      rw [if_neg (by omega), k1, Option.bind_some, t_isSpelled n hn u b e hb he hbe k2, Option.bind_some, show (1 : Int32) = iI 1 from rfl, iI_add, ih c (x + 1) (by omega) (by omega) (by omega)]
      simp only [fstI, decide_eq_true_eq]
      by_cases h : segL (vR u 0) b (e - b) = sortT x
      · simp only [if_pos h]
        rw [if_neg (by decide), if_neg (by omega), show (5 : Int32) = iI 5 from rfl, iI_add]
      · simp only [if_neg h]
        rw [if_pos (show iI 0 = (0 : Int32) from rfl)]
theorem t_wordHere (hS : LitOK S L) (n : Nat) (hn : 400 ≤ n) (u : MS) (b e : Nat) (hb : vN u 44 = b) (he : vN u 43 = e) (hbe : b ≤ e ∧ e ≤ 120) : f_X12_wordHere S n L u = some (iI (wvL (segL (vR u 0) b (e - b)))) := by
  have hK := t_wordK hS n hn u b e hb he hbe n 5 0 (by omega) (by omega) (by omega)
  have hO := t_wordS hS n hn u b e hb he hbe n 4 0 (by omega) (by omega) (by omega)
  have h0 := t_isSpelled n hn u b e hb he hbe (hS 0 (by decide))
  have h1 := t_isSpelled n hn u b e hb he hbe (hS 1 (by decide))
  generalize segL (vR u 0) b (e - b) = W at hK hO h0 h1
  have eK : fstI (fun q => decide (W = kindT q)) 5 0 = (if W = kindT 0 then 0 else if W = kindT 1 then 1 else if W = kindT 2 then 2 else if W = kindT 3 then 3 else if W = kindT 4 then 4 else -1) := by
    simp only [fstI, decide_eq_true_eq]
    rfl
  have eS : fstI (fun q => decide (W = sortT q)) 4 0 = (if W = sortT 0 then 0 else if W = sortT 1 then 1 else if W = sortT 2 then 2 else if W = sortT 3 then 3 else -1) := by
    simp only [fstI, decide_eq_true_eq]
    rfl
  rw [eK] at hK
  rw [eS] at hO
  unfold f_X12_wordHere
  rw [show (0 : Int32) = iI 0 from rfl, hK, Option.bind_some, hO, h0, h1]
  unfold wvL
  by_cases k0 : W = kindT 0
  · simp only [if_pos k0]
    rfl
  · by_cases k1 : W = kindT 1
    · simp only [if_neg k0, if_pos k1]
      rfl
    · by_cases k2 : W = kindT 2
      · simp only [if_neg k0, if_neg k1, if_pos k2]
        rfl
      · by_cases k3 : W = kindT 3
        · simp only [if_neg k0, if_neg k1, if_neg k2, if_pos k3]
          rfl
        · by_cases k4 : W = kindT 4
          · simp only [if_neg k0, if_neg k1, if_neg k2, if_neg k3, if_pos k4]
            rfl
          · simp only [if_neg k0, if_neg k1, if_neg k2, if_neg k3, if_neg k4]
            rw [if_true]
            simp only [Sum.elim_inr, Option.bind_some]
            by_cases s0 : W = sortT 0
            · simp only [if_pos s0]
              rfl
            · by_cases s1 : W = sortT 1
              · simp only [if_neg s0, if_pos s1]
                rfl
              · by_cases s2 : W = sortT 2
                · simp only [if_neg s0, if_neg s1, if_pos s2]
                  rfl
                · by_cases s3 : W = sortT 3
                  · simp only [if_neg s0, if_neg s1, if_neg s2, if_pos s3]
                    rfl
                  · simp only [if_neg s0, if_neg s1, if_neg s2, if_neg s3]
                    rw [if_true]
                    simp only [Sum.elim_inr, Option.bind_some]
                    by_cases n0 : W = litT 0
                    · simp only [if_pos n0]
                      rfl
                    · by_cases n1 : W = litT 1
                      · simp only [if_neg n0, if_pos n1]
                        rfl
                      · simp only [if_neg n0, if_neg n1]
                        rfl
end RN
