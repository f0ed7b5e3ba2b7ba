/-! the reference's next -/
section RS2
variable {S : Nat → Nat} {L : Mem}
theorem t_next (hS : LitOK S L) (n : Nat) (hn : 2100 ≤ n) (u : MS) (N i : Nat) (hN : vN u 1 = N) (hN2 : N ≤ 120) (hi : vN u 43 = i) (hi2 : i ≤ N) (hby : ∀ k, k < N → 0 ≤ vR u 0 k ∧ vR u 0 k ≤ 255) : ∃ u1, f_X12_next S n L u = some u1 ∧ vN u1 43 = (tok (vR u 0) N i).2.2.2 ∧ vN u1 44 = (tok (vR u 0) N i).1 ∧ vN u1 45 = (tok (vR u 0) N i).2.1 ∧ u1.1 46 = iI (tok (vR u 0) N i).2.2.1 ∧ (∀ k, k ≠ 43 → k ≠ 44 → k ≠ 45 → k ≠ 46 → u1.1 k = u.1 k) ∧ u1.2 = u.2 := by
  obtain ⟨v, x1, a1, a2, a3⟩ := t_skip (S := S) (L := L) n u N hN hN2 n i u hi2 (by omega) ⟨hi, fun _ _ => rfl, rfl⟩
  have hsk := skF_rng (vR u 0) (N - i) i
  generalize hb : skF (vR u 0) (N - i) i = b at a1 hsk
  unfold f_X12_next
  rw [x1]
  simp only [Option.bind_some]
  generalize hw : uI (uI (uI v 44 (v.1 43)) 45 (0 : Int32)) 46 (0 : Int32) = w
  have w43 : vN w 43 = b := by rw [← hw, ← a1]; rfl
  have w44 : vN w 44 = b := by
    rw [← hw, ← a1]
    rfl
  have w45 : w.1 45 = iI 0 := by rw [← hw]; rfl
  have w46 : w.1 46 = iI 0 := by rw [← hw]; rfl
  have w2 : w.2 = u.2 := by rw [← hw]; exact a3
  have wr : ∀ k, k ≠ 43 → k ≠ 44 → k ≠ 45 → k ≠ 46 → w.1 k = u.1 k := fun k h1 h2 h3 h4 => by
    rw [← hw]
    show upd (upd (upd v.1 44 _) 45 _) 46 _ k = _
    simp only [upd, if_neg h2, if_neg h3, if_neg h4]
    exact a2 k h1
  have w1 : vN w 1 = N := by
    rw [← hN]
    unfold vN
    rw [wr 1 (by decide) (by decide) (by decide) (by decide)]
  have wR : ∀ k, vR w 0 k = vR u 0 k := fun k => by unfold vR; rw [w2]
  have wRf : vR w 0 = vR u 0 := funext wR
  have e43 : w.1 43 = iI b := by rw [u1_iI, w43]
  have e1 : w.1 1 = iI N := by rw [u1_iI, w1]
  rw [e43, e1, it_eq _ _ (by omega)]
  unfold tok
  rw [hb]
  by_cases cN : b = N
  · rw [if_pos (by omega), if_pos cN]
    refine ⟨w, rfl, by rw [w43, cN], by rw [w44, cN], ?_, w46, wr, w2⟩
    rw [vN, w45]
    rfl
  · rw [if_neg (by omega), if_neg cN]
    have q1 : inb (iI b) 120 := (iI_inb _ 120 (by omega)).mpr (by omega)
    have ec : (iI (b : Int)).toNatClampNeg = b := by rw [iI_clamp _ (by omega), Int.toNat_natCast]
    have hd : w.2 0 b = iI (vR u 0 b) := by rw [w2, u2_iI]
    have hr := hby b (by omega)
    have i1 := t_isIn w (vR u 0 b) 97 122 (by omega) (by omega) (by omega)
    have i2 := t_isIn w (vR u 0 b) 48 57 (by omega) (by omega) (by omega)
    simp only [if_pos q1, ec, hd]
    rw [show (97 : Int32) = iI 97 from rfl, show (122 : Int32) = iI 122 from rfl, i1, Option.bind_some, show (48 : Int32) = iI 48 from rfl, show (57 : Int32) = iI 57 from rfl, i2]
    simp only [b0z, Option.bind_some]
    unfold tkB
    by_cases cw : 97 ≤ vR u 0 b ∧ vR u 0 b ≤ 122
    · -- a word
      rw [if_neg (fun q => q cw)]
      simp only [if_pos cw]
      obtain ⟨y, y1, b1, b2, b3⟩ := t_row (S := S) (L := L) n w N w1 hN2 n b w (by omega) (by omega) ⟨w43, fun _ _ => rfl, rfl⟩
      have hrr := rowF_rng (vR u 0) 97 122 (N - b) b
      rw [wRf] at b1
      have y44 : vN y 44 = b := by unfold vN; rw [b2 44 (by decide)]; exact w44
      have yR : vR y 0 = vR u 0 := by funext k; unfold vR; rw [b3, w2]
      have hwh := t_wordHere hS n (by omega) y b (rowF (vR u 0) 97 122 (N - b) b) y44 b1 (by omega)
      rw [yR] at hwh
      rw [y1, Option.bind_some, hwh, Option.bind_some]
      generalize hW : wvL (segL (vR u 0) b (rowF (vR u 0) 97 122 (N - b) b - b)) = W
      have hWr : -1 ≤ W ∧ W ≤ 10 := by
        rw [← hW]
        unfold wvL
        (repeat' split) <;> omega
      have e46 : (uI y 46 (iI W)).1 46 = iI W := by simp [uI, upd]
      have e0 : ((0 : Int32) ≤ iI W) ↔ 0 ≤ W := iI_le 0 W (by omega)
      rw [e46]
      simp only [e0]
      have hfin : ∀ tk : Int, -2147483648 ≤ tk ∧ tk < 2147483648 → vN (uI (uI y 46 (iI W)) 45 (iI tk)) 43 = (rowF (vR u 0) 97 122 (N - b) b : Int) ∧ vN (uI (uI y 46 (iI W)) 45 (iI tk)) 44 = b ∧ vN (uI (uI y 46 (iI W)) 45 (iI tk)) 45 = tk ∧ (uI (uI y 46 (iI W)) 45 (iI tk)).1 46 = iI W ∧ (∀ k, k ≠ 43 → k ≠ 44 → k ≠ 45 → k ≠ 46 → (uI (uI y 46 (iI W)) 45 (iI tk)).1 k = u.1 k) ∧ (uI (uI y 46 (iI W)) 45 (iI tk)).2 = u.2 := fun tk htk => by
        refine ⟨b1, y44, by rw [vN_uI _ _ _ _ htk, if_pos rfl], by simp [uI, upd], fun k h1 h2 h3 h4 => ?_, by show y.2 = u.2; rw [b3, w2]⟩
        show upd (upd y.1 46 _) 45 _ k = _
        simp only [upd, if_neg h3, if_neg h4]
        rw [b2 k h1]
        exact wr k h1 h2 h3 h4
      by_cases cW : 0 ≤ W
      · rw [if_pos cW, if_neg (by omega)]
        exact ⟨_, rfl, hfin 2 (by omega)⟩
      · rw [if_neg cW, if_pos (by omega)]
        exact ⟨_, rfl, hfin 1 (by omega)⟩
    · rw [if_pos cw]
      simp only [if_neg cw]
      by_cases cd : 48 ≤ vR u 0 b ∧ vR u 0 b ≤ 57
      · -- a number
        rw [if_neg (fun q => q cd)]
        simp only [if_pos cd]
        obtain ⟨y, y1, ⟨b1, b2, b3⟩, b4⟩ := t_dig_row (S := S) (L := L) n w N b w1 hN2 w44 n b w 0 (by omega) (by omega) (by omega) ⟨w43, fun _ _ _ => rfl, rfl⟩ w46
        have hrr := rowF_rng (vR u 0) 48 57 (N - b) b
        rw [wRf] at b1 b4
        have y44 : vN y 44 = b := by unfold vN; rw [b2 44 (by decide) (by decide)]; exact w44
        rw [y1, Option.bind_some, u1_iI y 43, u1_iI y 44, b1, y44, iI_sub, show (4 : Int32) = iI 4 from rfl, it_le _ _ (by omega)]
        have hfin : ∀ tk : Int, -2147483648 ≤ tk ∧ tk < 2147483648 → vN (uI y 45 (iI tk)) 43 = (rowF (vR u 0) 48 57 (N - b) b : Int) ∧ vN (uI y 45 (iI tk)) 44 = b ∧ vN (uI y 45 (iI tk)) 45 = tk ∧ (uI y 45 (iI tk)).1 46 = iI (numF (vR u 0) b (rowF (vR u 0) 48 57 (N - b) b - b) b 0) ∧ (∀ k, k ≠ 43 → k ≠ 44 → k ≠ 45 → k ≠ 46 → (uI y 45 (iI tk)).1 k = u.1 k) ∧ (uI y 45 (iI tk)).2 = u.2 := fun tk htk => by
          refine ⟨b1, y44, by rw [vN_uI _ _ _ _ htk, if_pos rfl], b4, fun k h1 h2 h3 h4 => ?_, by show y.2 = u.2; rw [b3, w2]⟩
          show upd y.1 45 _ k = _
          simp only [upd, if_neg h3]
          rw [b2 k h1 h4]
          exact wr k h1 h2 h3 h4
        by_cases c4 : (rowF (vR u 0) 48 57 (N - b) b : Int) - b ≤ 4
        · rw [if_pos c4, if_neg (by omega)]
          exact ⟨_, rfl, hfin 3 (by omega)⟩
        · rw [if_neg c4, if_pos (by omega)]
          exact ⟨_, rfl, hfin 1 (by omega)⟩
      · -- a mark, or nothing
        rw [if_pos cd]
        simp only [if_neg cd]
        rw [show (43 : Int32) = iI 43 from rfl, show (45 : Int32) = iI 45 from rfl, show (44 : Int32) = iI 44 from rfl, show (58 : Int32) = iI 58 from rfl, it_eq _ _ (by omega), it_eq _ _ (by omega), it_eq _ _ (by omega), it_eq _ _ (by omega), show (1 : Int32) = iI 1 from rfl, iI_add]
        have hfin : ∀ tk : Int, -2147483648 ≤ tk ∧ tk < 2147483648 → vN (uI (uI (uI w 43 (iI ((b : Int) + 1))) 46 (iI (vR u 0 b))) 45 (iI tk)) 43 = ((b + 1 : Nat) : Int) ∧ vN (uI (uI (uI w 43 (iI ((b : Int) + 1))) 46 (iI (vR u 0 b))) 45 (iI tk)) 44 = b ∧ vN (uI (uI (uI w 43 (iI ((b : Int) + 1))) 46 (iI (vR u 0 b))) 45 (iI tk)) 45 = tk ∧ (uI (uI (uI w 43 (iI ((b : Int) + 1))) 46 (iI (vR u 0 b))) 45 (iI tk)).1 46 = iI (vR u 0 b) ∧ (∀ k, k ≠ 43 → k ≠ 44 → k ≠ 45 → k ≠ 46 → (uI (uI (uI w 43 (iI ((b : Int) + 1))) 46 (iI (vR u 0 b))) 45 (iI tk)).1 k = u.1 k) ∧ (uI (uI (uI w 43 (iI ((b : Int) + 1))) 46 (iI (vR u 0 b))) 45 (iI tk)).2 = u.2 := fun tk htk => by
          refine ⟨?_, w44, by rw [vN_uI _ _ _ _ htk, if_pos rfl], by simp [uI, upd], fun k h1 h2 h3 h4 => ?_, w2⟩
          · show (upd (upd (upd w.1 43 (iI ((b : Int) + 1))) 46 (iI (vR u 0 b))) 45 (iI tk) 43).toInt = _
            simp only [upd]
            rw [if_neg (by decide), if_neg (by decide), if_true, toInt_iI _ (by omega) (by omega)]
            omega
          · show upd (upd (upd w.1 43 _) 46 _) 45 _ k = _
            simp only [upd, if_neg h1, if_neg h3, if_neg h4]
            exact wr k h1 h2 h3 h4
        by_cases m1 : vR u 0 b = 43
        · rw [if_pos m1, if_pos (Or.inl m1)]
          exact ⟨_, rfl, hfin 4 (by omega)⟩
        · by_cases m2 : vR u 0 b = 45
          · rw [if_neg m1, if_pos m2, if_pos (Or.inr (Or.inl m2))]
            exact ⟨_, rfl, hfin 4 (by omega)⟩
          · by_cases m3 : vR u 0 b = 44
            · rw [if_neg m1, if_neg m2, if_pos m3, if_pos (Or.inr (Or.inr (Or.inl m3)))]
              exact ⟨_, rfl, hfin 4 (by omega)⟩
            · by_cases m4 : vR u 0 b = 58
              · rw [if_neg m1, if_neg m2, if_neg m3, if_pos m4, if_pos (Or.inr (Or.inr (Or.inr m4)))]
                exact ⟨_, rfl, hfin 4 (by omega)⟩
              · rw [if_neg m1, if_neg m2, if_neg m3, if_neg m4, if_neg (by rintro (q | q | q | q) <;> contradiction)]
                exact ⟨_, rfl, hfin 1 (by omega)⟩
end RS2
