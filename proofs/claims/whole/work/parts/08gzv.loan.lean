/-! LOAN: both answers alike -/
section LSU
variable {B : Nat} {S : Nat → Nat} {L : Mem} {x0 : Nat} {M : Mem} {u : MS} {sz : Nat}
theorem st_loan {nc nr : Nat} (hSL : LitOK S L) (hL : LOK B L) (hEm : EmpOK S L) (h : SimB B S L x0 M u sz nc nr) (a1 : Int32) : AnsZ B S L x0 sz nc nr (f_X11_loan B S 4000 M sz (some x0) a1) (f_X12_loan S 4000 L u a1) := by
  obtain ⟨ad, rho, xl, hK, hI, rfl, rfl⟩ := h
  rw [← iI_toInt a1]
  have t1 := rng_lo a1
  have t2 := rng_hi a1
  generalize a1.toInt = H at *
  have n14 := hI.n14
  by_cases cH : 0 ≤ H ∧ H ≤ vN u 14 - 1
  · obtain ⟨u1, a, u2, u3, b, u4, u5, i2, u6, e, u7, r, M2, b1, b2, b3, b4, b5, b6, b7, e1, hh⟩ := j_loan hSL hL hK hI 4000 (by omega) (iI H)
    rcases hh with ⟨t, j, rfl, rfl, ⟨rfl, rfl⟩, ht, hc, hv, hr, hE, hd⟩ | ⟨t, j, w, rfl, rfl, hE, hd⟩
    · obtain ⟨k4, k5, k6, k7⟩ := rep_read2 hL hK hI hd hE
      obtain ⟨K3, I3⟩ := k7 (iI 0)
      rw [hE.zero] at K3 I3
      have v14 : vN u7 14 = vN u 14 := hE.num 14 (by decide) (by decide) (by decide) (by decide)
      have hhh : H.toNat < (vN u7 14).toNat := by omega
      have href := t_loan (n := 4000) (by omega) n14 cH b1 b2 b3 b4 b5 b6 b7 I3 hr hv ht hc.2 hhh
      have hk := (I3.houk H.toNat hhh).1
      have a0 := getD_rng hv 0
      have hfl : ∀ M2, RepK B S L x0 ad rho xl M2 (uI u7 4 (u.1 4)) sz → Inv (uI u7 4 (u.1 4)) xl → Rd B ad rho M2 M2 (vN u 1).toNat (vR u 0) t j (-9999) → f_X11_faultInLoan 4000 M2 (some x0) (some (ad (5000 + H.toNat))) = some (iI (if (decide ((1 ≤ t.getD 1 0 ∧ t.getD 1 0 ≤ 300) ∧ t.getD 0 0 + (2 * vR u7 15 H.toNat + t.getD 1 0) ≤ 1000) && riS (vN u7 5) (-1) (t.drop 2)) = true then (if frA u7 (t.getD 0 0) (t.getD 0 0 + (2 * vR u7 15 H.toNat + t.getD 1 0) - 1) (t.drop 2) = true then (if lgA u7 (vR u7 16 H.toNat) (t.drop 2) = true then 0 else 7) else 6) else 5)) := fun M2 K2 I2 d2 => z_loFault K2 I2 d2 hv ht (hh := H.toNat) hhh 4000 (by omega)
      rw [href]
      by_cases c5 : (decide ((1 ≤ t.getD 1 0 ∧ t.getD 1 0 ≤ 300) ∧ t.getD 0 0 + (2 * vR u7 15 H.toNat + t.getD 1 0) ≤ 1000) && riS (vN u7 5) (-1) (t.drop 2)) = true
      · simp only [if_pos c5] at hfl ⊢
        by_cases c6 : frA u7 (t.getD 0 0) (t.getD 0 0 + (2 * vR u7 15 H.toNat + t.getD 1 0) - 1) (t.drop 2) = true
        · simp only [if_pos c6] at hfl ⊢
          by_cases c7 : lgA u7 (vR u7 16 H.toNat) (t.drop 2) = true
          · simp only [if_pos c7] at hfl ⊢
            rw [Bool.and_eq_true, decide_eq_true_eq] at c5
            exact q_loanT hL hEm hK hI (by omega) cH e1 hd hE hfl ht c5.2 rfl rfl (by omega) c5.1.1 c5.1.2 c6
          · simp only [if_neg c7] at hfl ⊢
            exact q_loanF hL hK hI (by omega) cH e1 hd hE (f := 7) (by omega) hfl
        · simp only [if_neg c6] at hfl ⊢
          exact q_loanF hL hK hI (by omega) cH e1 hd hE (f := 6) (by omega) hfl
      · simp only [if_neg c5] at hfl ⊢
        exact q_loanF hL hK hI (by omega) cH e1 hd hE (f := 5) (by omega) hfl
    · have e2 : f_X12_loan S 4000 L u (iI H) = noS u7 2 := by
        unfold f_X12_loan
        rw [t_isHouse u H (by omega) n14, Option.bind_some, if_pos cH, if_neg (show ¬ iI 1 = (0 : Int32) by decide), b1, Option.bind_some, b2]
        simp only [Option.bind_some]
        rw [b3]
        simp only [Option.bind_some]
        rw [b4]
        simp only [Option.bind_some]
        rw [b5]
        simp only [Option.bind_some]
        rw [b6]
        simp only [Option.bind_some]
        rw [b7]
        simp only [Option.bind_some]
        rw [if_pos (show iI 0 = (0 : Int32) from rfl)]
        rfl
      rw [e2]
      exact q_loanW hL hK hI (by omega) cH e1 hd hE
  · obtain ⟨M2, k1, k2, K2, I2⟩ := rep_keep hL hK hI
    have e2 : f_X12_loan S 4000 L u (iI H) = noS (uI u 1 (iI 0)) 1 := by
      unfold f_X12_loan
      rw [t_isHouse u H (by omega) n14, Option.bind_some, if_neg cH, if_pos (show iI 0 = (0 : Int32) from rfl)]
      rfl
    rw [e2]
    unfold f_X11_loan
    rw [if_pos (isO_at hK.book), z_houseAt hK H (by omega), if_neg cH]
    simp only [Option.bind_some, if_true]
    rw [(bk hK.book).1]
    simp only [Option.bind_some]
    rw [if_pos k2, k1]
    simp only [Option.bind_some]
    rw [show (1 : Int32) = iI 1 from rfl, z_refuseZ K2 1]
    exact ansz_no hL K2 I2 1 rfl rfl
end LSU
