/-! LOAN: both answers alike -/
section LST
variable {B : Nat} {S : Nat → Nat} {L : Mem} {x0 : Nat} {ad rho : Nat → Nat} {xl : Nat → List Nat} {M M1 : Mem} {u u6 : MS} {sz N j c : Nat} {g : Nat → Int} {t : List Int} {w H A D : Int}
theorem z_loFault (h : RepK B S L x0 ad rho xl M u sz) (hI : Inv u xl) (hd : Rd B ad rho M M N g t j w) (hv : allV t) (ht : t.length = 2 + c) {hh : Nat} (hhh : hh < (vN u 14).toNat) (n : Nat) (hn : 2100 ≤ n) : f_X11_faultInLoan n M (some x0) (some (ad (5000 + hh))) = some (iI (if (decide ((1 ≤ t.getD 1 0 ∧ t.getD 1 0 ≤ 300) ∧ t.getD 0 0 + (2 * vR u 15 hh + t.getD 1 0) ≤ 1000) && riS (vN u 5) (-1) (t.drop 2)) = true then (if frA u (t.getD 0 0) (t.getD 0 0 + (2 * vR u 15 hh + t.getD 1 0) - 1) (t.drop 2) = true then (if lgA u (vR u 16 hh) (t.drop 2) = true then 0 else 7) else 6) else 5)) := by
  have a0 := getD_rng hv 0
  have a1 := getD_rng hv 1
  have hk := (hI.houk hh hhh).1
  obtain ⟨wh, gh, -⟩ := h.hou hhh
  have g0 : gI M (some (ad (5000 + hh))) 6 0 = some (iI (vR u 15 hh)) := by
    have : gI M (some (ad (5000 + hh))) 6 0 = some (u.2 15 hh) := gI_at gh.1
    rw [this, u2_iI]
  have t0 : f_X7_told M (some (ad 3)) (0 : Int32) = some (iI (t.getD 0 0)) := hd.getD 0 (by omega)
  have t1 : f_X7_told M (some (ad 3)) (1 : Int32) = some (iI (t.getD 1 0)) := hd.getD 1 (by omega)
  have tl := hd.tlen
  have hr := z_rising h hI hd hv ht n n 0 (-1) (Nat.zero_le _) (by omega) (by omega)
  have hr' : f_X11_tellsThingsRising_L4 n M (some x0) n (-1 : Int32) (2 : Int32) = some (iI (if riS (vN u 5) (-1) (t.drop 2) = true then 1 else 0)) := hr
  generalize t.getD 0 0 = A at *
  generalize t.getD 1 0 = D at *
  unfold f_X11_faultInLoan
  rw [(bk h.book).2.1]
  simp only [Option.bind_some]
  rw [if_pos hd.is, t0]
  simp only [Option.bind_some]
  rw [if_pos hd.is, t1]
  simp only [Option.bind_some]
  rw [g0]
  simp only [Option.bind_some]
  rw [show (1 : Int32) = iI 1 from rfl, show (300 : Int32) = iI 300 from rfl, show (2 : Int32) = iI 2 from rfl, show (1000 : Int32) = iI 1000 from rfl, iI_mul, iI_add, iI_add, iI_sub, it_lt _ _ (by omega), it_lt _ _ (by omega), it_le _ _ (by omega)]
  by_cases c1 : D < 1
  · rw [if_pos c1, decide_eq_false (by omega), Bool.false_and]
    rfl
  · rw [if_neg c1]
    by_cases c2 : 300 < D
    · rw [if_pos c2, decide_eq_false (by omega), Bool.false_and]
      rfl
    · rw [if_neg c2]
      by_cases c3 : 1000 ≤ A + 2 * vR u 15 hh + D - 1
      · rw [if_pos c3, decide_eq_false (by omega), Bool.false_and]
        rfl
      · rw [if_neg c3, if_pos (isO_at h.book), decide_eq_true (by omega), Bool.true_and]
        unfold f_X11_tellsThingsRising
        rw [hr']
        simp only [Option.bind_some]
        by_cases c4 : riS (vN u 5) (-1) (t.drop 2) = true
        · obtain ⟨hin, -, -⟩ := riS_prs (vN u 5) (t.drop 2) (-1) c4
          have hz := z_lent h hI hd hv ht hhh (fun x hx => by
            have := hin x hx
            exact ⟨by omega, this.2⟩) n hn A (A + 2 * vR u 15 hh + D - 1) (by omega) (by omega) n 0 false (Nat.zero_le _) (by omega)
          have hz' : f_X11_faultInLoan_L67 n M (some x0) (some (ad (5000 + hh))) (iI A) (iI (A + 2 * vR u 15 hh + D - 1)) n (0 : Int32) (iI 2) = some (iI (if frA u A (A + 2 * vR u 15 hh + D - 1) (t.drop 2) = true then (if (false || !(lgA u (vR u 16 hh) (t.drop 2))) = true then 7 else 0) else 6)) := hz
          rw [if_pos c4, if_neg (show ¬ iI 1 = (0 : Int32) by decide), hz', c4]
          rw [show A + (2 * vR u 15 hh + D) - 1 = A + 2 * vR u 15 hh + D - 1 by omega, if_pos rfl]
          cases frA u A (A + 2 * vR u 15 hh + D - 1) (t.drop 2) <;> cases lgA u (vR u 16 hh) (t.drop 2) <;> rfl
        · rw [if_neg c4, if_pos (show iI 0 = (0 : Int32) from rfl), if_neg c4]
          rfl
/-- the reference, once the text is read -/
theorem t_loan {n : Nat} (hn : 2100 ≤ n) {u1 u2 u3 u4 u5 u6' u7 : MS} {i2 : Nat} (n14 : 0 ≤ vN u 14 ∧ vN u 14 ≤ 6) (cH : 0 ≤ H ∧ H ≤ vN u 14 - 1) (b1 : f_X12_begins S n L u = some u1) (b2 : f_X12_number S n L u1 = some (iI (t.getD 0 0), u2)) (b3 : f_X12_must S n L u2 (43 : Int32) = some u3) (b4 : f_X12_number S n L u3 = some (iI (t.getD 1 0), u4)) (b5 : f_X12_must S n L u4 (58 : Int32) = some u5) (b6 : f_X12_loan_L43 S n L (iI H) (iI (t.getD 0 0)) (iI (t.getD 1 0)) n u5 (0 : Int32) = some (iI i2, u6')) (b7 : f_X12_ends u6' = some (iI 1, u7)) (hI7 : Inv u7 xl) (hr : rowsL u7 i2 t) (hv : allV t) (ht : t.length = 2 + i2) (hc : i2 ≤ 118) (hhh : H.toNat < (vN u7 14).toNat) : f_X12_loan S n L u (iI H) = if (decide ((1 ≤ t.getD 1 0 ∧ t.getD 1 0 ≤ 300) ∧ t.getD 0 0 + (2 * vR u7 15 H.toNat + t.getD 1 0) ≤ 1000) && riS (vN u7 5) (-1) (t.drop 2)) = true then (if frA u7 (t.getD 0 0) (t.getD 0 0 + (2 * vR u7 15 H.toNat + t.getD 1 0) - 1) (t.drop 2) = true then (if lgA u7 (vR u7 16 H.toNat) (t.drop 2) = true then loTail n u7 (iI H) (iI (t.getD 0 0)) (iI (t.getD 1 0)) (bitsF 0 (t.drop 2)) else noS (uI u7 4 (iI 7)) 4) else noS (uI u7 4 (iI 6)) 4) else noS (uI u7 4 (iI 5)) 4 := by
  have n5 := hI7.n5
  have n147 := hI7.n14
  have a0 := getD_rng hv 0
  have a1 := getD_rng hv 1
  have hk := (hI7.houk H.toNat hhh).1
  have q6 : inb (iI H) 6 := (iI_inb _ 6 (by omega)).mpr (by omega)
  have c6 : (iI H).toNatClampNeg = H.toNat := iI_clamp _ (by omega)
  have e15 : u7.2 15 H.toNat = iI (vR u7 15 H.toNat) := u2_iI ..
  have eH : ((H.toNat : Nat) : Int) = H := by omega
  have h123 := fun (b : Bool) (y5 : Int32) => t_l123 (S := S) (L := L) hr hv ht hc n5 n (iI H) (iI (t.getD 0 0)) (iI (t.getD 1 0)) y5 n 0 b (Nat.zero_le _) (by omega)
  have l123 : ∀ (b : Bool) (y5 : Int32), f_X12_loan_L123 S n L u7 (iI H) (iI (t.getD 0 0)) (iI (t.getD 1 0)) (iI i2) y5 n (iI (if b = true then 1 else 0)) (0 : Int32) = some (iI (if (b && riS (vN u7 5) (-1) (t.drop 2)) = true then 1 else 0)) := fun b y5 => h123 b y5
  have hso : ((if iI (if 1 ≤ t.getD 1 0 ∧ t.getD 1 0 ≤ 300 then 1 else 0) = (0 : Int32) then (some ((0 : Int32))) else (if (1000 : Int32) < (iI (t.getD 0 0) + (((2 : Int32) * iI (vR u7 15 H.toNat)) + iI (t.getD 1 0))) then (some ((0 : Int32))) else (some ((1 : Int32))))) : Option (Int32)) = some (iI (if (decide ((1 ≤ t.getD 1 0 ∧ t.getD 1 0 ≤ 300) ∧ t.getD 0 0 + (2 * vR u7 15 H.toNat + t.getD 1 0) ≤ 1000)) = true then 1 else 0)) := by
    rw [show (2 : Int32) = iI 2 from rfl, show (1000 : Int32) = iI 1000 from rfl, iI_mul, iI_add, iI_add, it_lt _ _ (by omega)]
    by_cases c1 : 1 ≤ t.getD 1 0 ∧ t.getD 1 0 ≤ 300
    · rw [if_pos c1, if_neg (show ¬ iI 1 = (0 : Int32) by decide)]
      by_cases c2 : 1000 < t.getD 0 0 + (2 * vR u7 15 H.toNat + t.getD 1 0)
      · rw [if_pos c2, decide_eq_false (by omega)]
        rfl
      · rw [if_neg c2, decide_eq_true ⟨c1, by omega⟩]
        rfl
    · rw [if_neg c1, if_pos (show iI 0 = (0 : Int32) from rfl), decide_eq_false (fun z => c1 z.1)]
      rfl
  have hin : f_X12_isIn u7 (iI (t.getD 1 0)) (1 : Int32) (300 : Int32) = some (iI (if 1 ≤ t.getD 1 0 ∧ t.getD 1 0 ≤ 300 then 1 else 0)) := t_isIn u7 (t.getD 1 0) 1 300 (by omega) (by omega) (by omega)
  unfold f_X12_loan
  rw [t_isHouse u H (by omega) n14, Option.bind_some, if_pos cH, if_neg (show ¬ iI 1 = (0 : Int32) by decide), b1, Option.bind_some, b2]
  simp only [Option.bind_some]
  rw [b3]
  simp only [Option.bind_some]
  rw [b4]
  simp only [Option.bind_some]
  rw [b5]
  simp only [Option.bind_some]
  rw [b6]
  simp only [Option.bind_some]
  rw [b7]
  simp only [Option.bind_some]
  rw [if_neg (show ¬ iI 1 = (0 : Int32) by decide), if_pos q6, hin]
  simp only [Option.bind_some, c6, e15]
  rw [hso]
  simp only [Option.bind_some]
  rw [l123]
  simp only [Option.bind_some]
  by_cases c5 : (decide ((1 ≤ t.getD 1 0 ∧ t.getD 1 0 ≤ 300) ∧ t.getD 0 0 + (2 * vR u7 15 H.toNat + t.getD 1 0) ≤ 1000) && riS (vN u7 5) (-1) (t.drop 2)) = true
  · rw [if_pos c5, if_pos c5, if_neg (show ¬ iI 1 = (0 : Int32) by decide)]
    rw [Bool.and_eq_true, decide_eq_true_eq] at c5
    obtain ⟨hin2, -, -⟩ := riS_prs (vN u7 5) (t.drop 2) (-1) c5.2
    have hin3 : ∀ x, x ∈ t.drop 2 → 0 ≤ x ∧ x < vN u7 5 := fun x hx => by
      have := hin2 x hx
      exact ⟨by omega, this.2⟩
    have h203 := t_l203 (S := S) (L := L) hr ht hc hI7 hin3 n hn (iI H) (iI (t.getD 1 0)) (t.getD 0 0) (2 * vR u7 15 H.toNat + t.getD 1 0) (by omega) (by omega) n 0 true 0 (Nat.zero_le _) (by omega)
    have l203 : f_X12_loan_L203 S n L u7 (iI H) (iI (t.getD 0 0)) (iI (t.getD 1 0)) (iI i2) (((2 : Int32) * iI (vR u7 15 H.toNat)) + iI (t.getD 1 0)) n (iI 1) (0 : Int32) (0 : Int32) = some (iI (if frA u7 (t.getD 0 0) (t.getD 0 0 + (2 * vR u7 15 H.toNat + t.getD 1 0) - 1) (t.drop 2) = true then 1 else 0), bitsF 0 (t.drop 2)) := by
      rw [show (2 : Int32) = iI 2 from rfl, iI_mul, iI_add]
      exact h203
    rw [l203]
    simp only [Option.bind_some]
    by_cases c6f : frA u7 (t.getD 0 0) (t.getD 0 0 + (2 * vR u7 15 H.toNat + t.getD 1 0) - 1) (t.drop 2) = true
    · rw [if_pos c6f, if_pos c6f, if_neg (show ¬ iI 1 = (0 : Int32) by decide)]
      have h291 := t_l291 (S := S) (L := L) hr ht hc n5 (hh := H.toNat) (by omega) hin3 n (iI (t.getD 0 0)) (iI (t.getD 1 0)) (bitsF 0 (t.drop 2)) n 0 true (Nat.zero_le _) (by omega)
      rw [eH] at h291
      have l291 : f_X12_loan_L291 S n L u7 (iI H) (iI (t.getD 0 0)) (iI (t.getD 1 0)) (iI i2) (bitsF 0 (t.drop 2)) n (iI 1) (0 : Int32) = some (iI (if lgA u7 (vR u7 16 H.toNat) (t.drop 2) = true then 1 else 0)) := h291
      rw [l291]
      simp only [Option.bind_some]
      by_cases c7 : lgA u7 (vR u7 16 H.toNat) (t.drop 2) = true
      · rw [if_pos c7, if_pos c7, if_neg (show ¬ iI 1 = (0 : Int32) by decide)]
        rfl
      · rw [if_neg c7, if_neg c7, if_pos (show iI 0 = (0 : Int32) from rfl)]
        rfl
    · rw [if_neg c6f, if_neg c6f, if_pos (show iI 0 = (0 : Int32) from rfl)]
      rfl
  · rw [if_neg c5, if_neg c5, if_pos (show iI 0 = (0 : Int32) from rfl)]
    rfl
end LST
