section QS
variable {B : Nat} {S : Nat → Nat} {L : Mem} {x0 : Nat} {ad rho : Nat → Nat} {xl : Nat → List Nat} {M : Mem} {u : MS} {sz : Nat}
theorem q_value (h : RepK B S L x0 ad rho xl M u sz) (hI : Inv u xl) (n : Nat) (hf : 2100 ≤ n) (t d : Int) (ht : -2147483648 ≤ t ∧ t < 2147483648) (hd : -2147483648 ≤ d ∧ d < 2147483648) : f_X11_value B n M (some x0) (iI t) (iI d) = if ¬ (0 ≤ t ∧ t ≤ vN u 5 - 1) then noK ad u x0 M 1 else if ¬ (0 ≤ d ∧ d ≤ 999) then noK ad u x0 M 3 else fineK ad u x0 M (valS u t d) := by
  unfold f_X11_value
  rw [isO_at h.book, if_pos rfl, z_thingAt h t ht, z_isDay M d hd]
  by_cases c0 : 0 ≤ t ∧ t ≤ vN u 5 - 1
  · have n0 : ¬ ¬ (0 ≤ t ∧ t ≤ vN u 5 - 1) := fun q => q c0
    simp only [if_pos c0, if_neg n0, Option.bind_some, reduceCtorEq, if_false, b0z]
    by_cases c1 : 0 ≤ d ∧ d ≤ 999
    · have n1 : ¬ ¬ (0 ≤ d ∧ d ≤ 999) := fun q => q c1
      simp only [if_pos c1, if_neg n1, Option.bind_some, reduceCtorEq, if_false, b0z]
      have e : ((t.toNat : Nat) : Int) = t := by omega
      rw [z_valueOn (h.thi (i := t.toNat) (by omega)) (hI.app t.toNat (by omega)) (fun j hj => (hI.apday j hj).1) n (by omega) d hd, e]
      simp only [Option.bind_some, reduceCtorEq, if_false, if_true, b0z, noKb, fineKb, z_refuseAsked0 h, z_refuseAsked1 h, z_refuse1 h, z_answer h, isO_at h.book, isO_at (h.thi (i := t.toNat) (by omega)).1.choose_spec.1.1]
    · simp only [if_neg c1, if_pos c1, Option.bind_some, reduceCtorEq, if_false, if_true, b0z, noKb, fineKb, z_refuseAsked0 h, z_refuseAsked1 h, z_refuse1 h, z_answer h]
  · simp only [if_neg c0, if_pos c0, Option.bind_some, reduceCtorEq, if_false, if_true, b0z, noKb, fineKb, z_refuseAsked0 h, z_refuseAsked1 h, z_refuse1 h, z_answer h]
theorem q_where (h : RepK B S L x0 ad rho xl M u sz) (hI : Inv u xl) (n : Nat) (hf : 2100 ≤ n) (t d : Int) (ht : -2147483648 ≤ t ∧ t < 2147483648) (hd : -2147483648 ≤ d ∧ d < 2147483648) : f_X11_where B M (some x0) (iI t) (iI d) = if ¬ (0 ≤ t ∧ t ≤ vN u 5 - 1) then noK ad u x0 M 1 else if ¬ (0 ≤ d ∧ d ≤ 999) then noK ad u x0 M 3 else fineK ad u x0 M (loanS u t d) := by
  unfold f_X11_where
  rw [isO_at h.book, if_pos rfl, z_thingAt h t ht, z_isDay M d hd]
  by_cases c0 : 0 ≤ t ∧ t ≤ vN u 5 - 1
  · have n0 : ¬ ¬ (0 ≤ t ∧ t ≤ vN u 5 - 1) := fun q => q c0
    simp only [if_pos c0, if_neg n0, Option.bind_some, reduceCtorEq, if_false, b0z]
    by_cases c1 : 0 ≤ d ∧ d ≤ 999
    · have n1 : ¬ ¬ (0 ≤ d ∧ d ≤ 999) := fun q => q c1
      simp only [if_pos c1, if_neg n1, Option.bind_some, reduceCtorEq, if_false, b0z]
      obtain ⟨⟨w, g1, -⟩, ⟨tk, g2⟩, g3, g4⟩ := h.thi (i := t.toNat) (by omega)
      have e : ((t.toNat : Nat) : Int) = t := by omega
      rw [gR_at g1.1]
      simp only [List.getElem?_cons_zero, List.getElem?_cons_succ, Option.bind_some]
      have hr := loanS_rng u t d hI.n23
      rw [g2.is, if_pos rfl, g2.loanOn d c1 (by rw [e]; omega), e, if_neg (by omega)]
      simp only [Option.bind_some, reduceCtorEq, if_false, if_true, b0z, noKb, fineKb, z_refuseAsked0 h, z_refuseAsked1 h, z_refuse1 h, z_answer h]
    · simp only [if_neg c1, if_pos c1, Option.bind_some, reduceCtorEq, if_false, if_true, b0z, noKb, fineKb, z_refuseAsked0 h, z_refuseAsked1 h, z_refuse1 h, z_answer h]
  · simp only [if_neg c0, if_pos c0, Option.bind_some, reduceCtorEq, if_false, if_true, b0z, noKb, fineKb, z_refuseAsked0 h, z_refuseAsked1 h, z_refuse1 h, z_answer h]
theorem q_harms (h : RepK B S L x0 ad rho xl M u sz) (hI : Inv u xl) (n : Nat) (hf : 2100 ≤ n) (t d : Int) (ht : -2147483648 ≤ t ∧ t < 2147483648) (hd : -2147483648 ≤ d ∧ d < 2147483648) : f_X11_harms B n M (some x0) (iI t) (iI d) = if ¬ (0 ≤ t ∧ t ≤ vN u 5 - 1) then noK ad u x0 M 1 else if ¬ (0 ≤ d ∧ d ≤ 999) then noK ad u x0 M 3 else fineK ad u x0 M (harmsS u t d) := by
  unfold f_X11_harms
  rw [isO_at h.book, if_pos rfl, z_thingAt h t ht, z_isDay M d hd]
  by_cases c0 : 0 ≤ t ∧ t ≤ vN u 5 - 1
  · have n0 : ¬ ¬ (0 ≤ t ∧ t ≤ vN u 5 - 1) := fun q => q c0
    simp only [if_pos c0, if_neg n0, Option.bind_some, reduceCtorEq, if_false, b0z]
    by_cases c1 : 0 ≤ d ∧ d ≤ 999
    · have n1 : ¬ ¬ (0 ≤ d ∧ d ≤ 999) := fun q => q c1
      simp only [if_pos c1, if_neg n1, Option.bind_some, reduceCtorEq, if_false, b0z]
      obtain ⟨⟨w, g1, -⟩, ⟨tk, g2⟩, g3, g4⟩ := h.thi (i := t.toNat) (by omega)
      have e : ((t.toNat : Nat) : Int) = t := by omega
      rw [isO_at g1.1, if_pos rfl, z_harmsOn h hI (by omega) n (by omega) d hd, e]
      simp only [Option.bind_some, reduceCtorEq, if_false, if_true, b0z, noKb, fineKb, z_refuseAsked0 h, z_refuseAsked1 h, z_refuse1 h, z_answer h]
    · simp only [if_neg c1, if_pos c1, Option.bind_some, reduceCtorEq, if_false, if_true, b0z, noKb, fineKb, z_refuseAsked0 h, z_refuseAsked1 h, z_refuse1 h, z_answer h]
  · simp only [if_neg c0, if_pos c0, Option.bind_some, reduceCtorEq, if_false, if_true, b0z, noKb, fineKb, z_refuseAsked0 h, z_refuseAsked1 h, z_refuse1 h, z_answer h]
theorem q_stage (h : RepK B S L x0 ad rho xl M u sz) (hI : Inv u xl) (n : Nat) (hf : 2100 ≤ n) (t d : Int) (ht : -2147483648 ≤ t ∧ t < 2147483648) (hd : -2147483648 ≤ d ∧ d < 2147483648) : f_X11_stage B M (some x0) (iI t) (iI d) = if ¬ ((0 ≤ t ∧ t ≤ vN u 23 - 1) ∧ vR u 24 t.toNat ≠ 0) then noK ad u x0 M 1 else if ¬ (0 ≤ d ∧ d ≤ 999) then noK ad u x0 M 3 else fineK ad u x0 M (stageS u t d) := by
  unfold f_X11_stage
  rw [isO_at h.book, if_pos rfl, z_standingLoanAt h t ht, z_isDay M d hd]
  by_cases c0 : (0 ≤ t ∧ t ≤ vN u 23 - 1) ∧ vR u 24 t.toNat ≠ 0
  · have n0 : ¬ ¬ ((0 ≤ t ∧ t ≤ vN u 23 - 1) ∧ vR u 24 t.toNat ≠ 0) := fun q => q c0
    simp only [if_pos c0, if_neg n0, Option.bind_some, reduceCtorEq, if_false, b0z]
    by_cases c1 : 0 ≤ d ∧ d ≤ 999
    · have n1 : ¬ ¬ (0 ≤ d ∧ d ≤ 999) := fun q => q c1
      simp only [if_pos c1, if_neg n1, Option.bind_some, reduceCtorEq, if_false, b0z]
      obtain ⟨⟨q, g1, g2⟩, g3⟩ := h.loa (i := t.toNat) (by omega)
      have e : ((t.toNat : Nat) : Int) = t := by omega
      have gq := h.loaQ (l := t.toNat) (by omega) (hI.hof t.toNat (by omega))
      have go := hI.loan t.toNat (by omega)
      rw [isO_at g1.1, if_pos rfl, gq.stageOn go d hd, e]
      simp only [Option.bind_some, reduceCtorEq, if_false, if_true, b0z, noKb, fineKb, z_refuseAsked0 h, z_refuseAsked1 h, z_refuse1 h, z_answer h]
    · simp only [if_neg c1, if_pos c1, Option.bind_some, reduceCtorEq, if_false, if_true, b0z, noKb, fineKb, z_refuseAsked0 h, z_refuseAsked1 h, z_refuse1 h, z_answer h]
  · simp only [if_neg c0, if_pos c0, Option.bind_some, reduceCtorEq, if_false, if_true, b0z, noKb, fineKb, z_refuseAsked0 h, z_refuseAsked1 h, z_refuse1 h, z_answer h]
theorem q_cost (h : RepK B S L x0 ad rho xl M u sz) (hI : Inv u xl) (n : Nat) (hf : 2100 ≤ n) (t d : Int) (ht : -2147483648 ≤ t ∧ t < 2147483648) (hd : -2147483648 ≤ d ∧ d < 2147483648) : f_X11_cost B n M (some x0) (iI t) (iI d) = if ¬ ((0 ≤ t ∧ t ≤ vN u 23 - 1) ∧ vR u 24 t.toNat ≠ 0) then noK ad u x0 M 1 else if ¬ (0 ≤ d ∧ d ≤ 999) then noK ad u x0 M 3 else fineK ad u x0 M (costS u t d) := by
  unfold f_X11_cost
  rw [isO_at h.book, if_pos rfl, z_standingLoanAt h t ht, z_isDay M d hd]
  by_cases c0 : (0 ≤ t ∧ t ≤ vN u 23 - 1) ∧ vR u 24 t.toNat ≠ 0
  · have n0 : ¬ ¬ ((0 ≤ t ∧ t ≤ vN u 23 - 1) ∧ vR u 24 t.toNat ≠ 0) := fun q => q c0
    simp only [if_pos c0, if_neg n0, Option.bind_some, reduceCtorEq, if_false, b0z]
    by_cases c1 : 0 ≤ d ∧ d ≤ 999
    · have n1 : ¬ ¬ (0 ≤ d ∧ d ≤ 999) := fun q => q c1
      simp only [if_pos c1, if_neg n1, Option.bind_some, reduceCtorEq, if_false, b0z]
      obtain ⟨⟨q, g1, g2⟩, g3⟩ := h.loa (i := t.toNat) (by omega)
      have e : ((t.toNat : Nat) : Int) = t := by omega
      have gq := h.loaQ (l := t.toNat) (by omega) (hI.hof t.toNat (by omega))
      have go := hI.loan t.toNat (by omega)
      rw [isO_at g1.1, if_pos rfl, z_costOn h hI (by omega) n hf d hd, e]
      simp only [Option.bind_some, reduceCtorEq, if_false, if_true, b0z, noKb, fineKb, z_refuseAsked0 h, z_refuseAsked1 h, z_refuse1 h, z_answer h]
    · simp only [if_neg c1, if_pos c1, Option.bind_some, reduceCtorEq, if_false, if_true, b0z, noKb, fineKb, z_refuseAsked0 h, z_refuseAsked1 h, z_refuse1 h, z_answer h]
  · simp only [if_neg c0, if_pos c0, Option.bind_some, reduceCtorEq, if_false, if_true, b0z, noKb, fineKb, z_refuseAsked0 h, z_refuseAsked1 h, z_refuse1 h, z_answer h]
theorem q_parcels (h : RepK B S L x0 ad rho xl M u sz) (hI : Inv u xl) (n : Nat) (hf : 2100 ≤ n) (t : Int) (ht : -2147483648 ≤ t ∧ t < 2147483648) : f_X11_parcels B M (some x0) (iI t) = if ¬ ((0 ≤ t ∧ t ≤ vN u 23 - 1) ∧ vR u 24 t.toNat ≠ 0) then noK ad u x0 M 1 else fineK ad u x0 M (vR u 29 t.toNat) := by
  unfold f_X11_parcels
  rw [isO_at h.book, if_pos rfl, z_standingLoanAt h t ht]
  by_cases c0 : (0 ≤ t ∧ t ≤ vN u 23 - 1) ∧ vR u 24 t.toNat ≠ 0
  · have n0 : ¬ ¬ ((0 ≤ t ∧ t ≤ vN u 23 - 1) ∧ vR u 24 t.toNat ≠ 0) := fun q => q c0
    simp only [if_pos c0, if_neg n0, Option.bind_some, reduceCtorEq, if_false, b0z]
    obtain ⟨⟨q, g1, g2⟩, g3⟩ := h.loa (i := t.toNat) (by omega)
    have e : ((t.toNat : Nat) : Int) = t := by omega
    have gq := h.loaQ (l := t.toNat) (by omega) (hI.hof t.toNat (by omega))
    have go := hI.loan t.toNat (by omega)
    have hp := hI.par t.toNat (by omega)
    rw [gR_at g1.1]
    simp only [List.getElem?_cons_zero, List.getElem?_cons_succ, Option.bind_some]
    rw [g2.is, if_pos rfl, g2.size, seqA_len, show (((vR u 29 t.toNat).toNat : Nat) : Int) = vR u 29 t.toNat by omega]
    simp only [Option.bind_some, reduceCtorEq, if_false, if_true, b0z, noKb, fineKb, z_refuseAsked0 h, z_refuseAsked1 h, z_refuse1 h, z_answer h]
  · simp only [if_neg c0, if_pos c0, Option.bind_some, reduceCtorEq, if_false, if_true, b0z, noKb, fineKb, z_refuseAsked0 h, z_refuseAsked1 h, z_refuse1 h, z_answer h]
theorem q_busy (h : RepK B S L x0 ad rho xl M u sz) (hI : Inv u xl) (n : Nat) (hf : 2100 ≤ n) (t : Int) (ht : -2147483648 ≤ t ∧ t < 2147483648) : f_X11_busy B M (some x0) (iI t) = if ¬ (0 ≤ t ∧ t ≤ vN u 19 - 1) then noK ad u x0 M 1 else fineK ad u x0 M (takenS u t (vN u 23)) := by
  unfold f_X11_busy
  rw [isO_at h.book, if_pos rfl, z_courierAt h t ht]
  by_cases c0 : 0 ≤ t ∧ t ≤ vN u 19 - 1
  · have n0 : ¬ ¬ (0 ≤ t ∧ t ≤ vN u 19 - 1) := fun q => q c0
    simp only [if_pos c0, if_neg n0, Option.bind_some, reduceCtorEq, if_false, b0z]
    obtain ⟨⟨w, g1, -⟩, g2⟩ := h.cou (i := t.toNat) (by omega)
    have e : ((t.toNat : Nat) : Int) = t := by omega
    rw [gR_at g1.1]
    simp only [List.getElem?_cons_zero, List.getElem?_cons_succ, Option.bind_some]
    rw [g2.is, if_pos rfl, g2.taken, e]
    simp only [Option.bind_some, reduceCtorEq, if_false, if_true, b0z, noKb, fineKb, z_refuseAsked0 h, z_refuseAsked1 h, z_refuse1 h, z_answer h]
  · simp only [if_neg c0, if_pos c0, Option.bind_some, reduceCtorEq, if_false, if_true, b0z, noKb, fineKb, z_refuseAsked0 h, z_refuseAsked1 h, z_refuse1 h, z_answer h]
theorem q_with (h : RepK B S L x0 ad rho xl M u sz) (hI : Inv u xl) (n : Nat) (hf : 2100 ≤ n) (t d : Int) (ht : -2147483648 ≤ t ∧ t < 2147483648) (hd : -2147483648 ≤ d ∧ d < 2147483648) : f_X11_with B M (some x0) (iI t) (iI d) = if ¬ (0 ≤ t ∧ t ≤ vN u 19 - 1) then noK ad u x0 M 1 else if ¬ (0 ≤ d ∧ d ≤ 999) then noK ad u x0 M 3 else fineK ad u x0 M (busyS u t d (vN u 23)) := by
  unfold f_X11_with
  rw [isO_at h.book, if_pos rfl, z_courierAt h t ht, z_isDay M d hd]
  by_cases c0 : 0 ≤ t ∧ t ≤ vN u 19 - 1
  · have n0 : ¬ ¬ (0 ≤ t ∧ t ≤ vN u 19 - 1) := fun q => q c0
    simp only [if_pos c0, if_neg n0, Option.bind_some, reduceCtorEq, if_false, b0z]
    by_cases c1 : 0 ≤ d ∧ d ≤ 999
    · have n1 : ¬ ¬ (0 ≤ d ∧ d ≤ 999) := fun q => q c1
      simp only [if_pos c1, if_neg n1, Option.bind_some, reduceCtorEq, if_false, b0z]
      obtain ⟨⟨w, g1, -⟩, g2⟩ := h.cou (i := t.toNat) (by omega)
      have e : ((t.toNat : Nat) : Int) = t := by omega
      rw [gR_at g1.1]
      simp only [List.getElem?_cons_zero, List.getElem?_cons_succ, Option.bind_some]
      have hr := calS_rng u t.toNat (vN u 23) d (by have := hI.n23; omega)
      rw [g2.is, if_pos rfl, g2.loanOn d c1 (by omega), calS_busy u t.toNat (vN u 23) d (by have := hI.n23; omega), e]
      simp only [Option.bind_some, reduceCtorEq, if_false, if_true, b0z, noKb, fineKb, z_refuseAsked0 h, z_refuseAsked1 h, z_refuse1 h, z_answer h]
    · simp only [if_neg c1, if_pos c1, Option.bind_some, reduceCtorEq, if_false, if_true, b0z, noKb, fineKb, z_refuseAsked0 h, z_refuseAsked1 h, z_refuse1 h, z_answer h]
  · simp only [if_neg c0, if_pos c0, Option.bind_some, reduceCtorEq, if_false, if_true, b0z, noKb, fineKb, z_refuseAsked0 h, z_refuseAsked1 h, z_refuse1 h, z_answer h]
theorem q_dearest (h : RepK B S L x0 ad rho xl M u sz) (hI : Inv u xl) (n : Nat) (hf : 2100 ≤ n) (t : Int) (ht : -2147483648 ≤ t ∧ t < 2147483648) : f_X11_dearest B n M (some x0) (iI t) = if ¬ ((0 ≤ t ∧ t ≤ vN u 23 - 1) ∧ vR u 24 t.toNat ≠ 0) then noK ad u x0 M 1 else fineK ad u x0 M (dearG u t (lenS u t - 1).toNat (vR u 26 t.toNat) (costS u t (vR u 26 t.toNat)) (vR u 26 t.toNat + 1)) := by
  unfold f_X11_dearest
  rw [isO_at h.book, if_pos rfl, z_standingLoanAt h t ht]
  by_cases c0 : (0 ≤ t ∧ t ≤ vN u 23 - 1) ∧ vR u 24 t.toNat ≠ 0
  · have n0 : ¬ ¬ ((0 ≤ t ∧ t ≤ vN u 23 - 1) ∧ vR u 24 t.toNat ≠ 0) := fun q => q c0
    simp only [if_pos c0, if_neg n0, Option.bind_some, reduceCtorEq, if_false, b0z]
    obtain ⟨⟨q, g1, g2⟩, g3⟩ := h.loa (i := t.toNat) (by omega)
    have e : ((t.toNat : Nat) : Int) = t := by omega
    have gq := h.loaQ (l := t.toNat) (by omega) (hI.hof t.toNat (by omega))
    have go := hI.loan t.toNat (by omega)
    have hz := z_dearestDay h hI (l := t.toNat) (by omega) n hf
    rw [e] at hz
    rw [isO_at g1.1, if_pos rfl, hz]
    simp only [Option.bind_some, reduceCtorEq, if_false, if_true, b0z, noKb, fineKb, z_refuseAsked0 h, z_refuseAsked1 h, z_refuse1 h, z_answer h]
  · simp only [if_neg c0, if_pos c0, Option.bind_some, reduceCtorEq, if_false, if_true, b0z, noKb, fineKb, z_refuseAsked0 h, z_refuseAsked1 h, z_refuse1 h, z_answer h]
theorem q_charge (h : RepK B S L x0 ad rho xl M u sz) (hI : Inv u xl) (n : Nat) (hf : 2100 ≤ n) (t : Int) (ht : -2147483648 ≤ t ∧ t < 2147483648) : f_X11_charge B n M (some x0) (iI t) = if ¬ ((0 ≤ t ∧ t ≤ vN u 23 - 1) ∧ vR u 24 t.toNat ≠ 0) then noK ad u x0 M 1 else fineK ad u x0 M (chargS u t) := by
  unfold f_X11_charge
  rw [isO_at h.book, if_pos rfl, z_standingLoanAt h t ht]
  by_cases c0 : (0 ≤ t ∧ t ≤ vN u 23 - 1) ∧ vR u 24 t.toNat ≠ 0
  · have n0 : ¬ ¬ ((0 ≤ t ∧ t ≤ vN u 23 - 1) ∧ vR u 24 t.toNat ≠ 0) := fun q => q c0
    simp only [if_pos c0, if_neg n0, Option.bind_some, reduceCtorEq, if_false, b0z]
    rw [if_true, z_damagesBorneBy h hI n hf t ht]
    simp only [Option.bind_some, reduceCtorEq, if_false, if_true, b0z, noKb, fineKb, z_refuseAsked0 h, z_refuseAsked1 h, z_refuse1 h, z_answer h]
  · simp only [if_neg c0, if_pos c0, Option.bind_some, reduceCtorEq, if_false, if_true, b0z, noKb, fineKb, z_refuseAsked0 h, z_refuseAsked1 h, z_refuse1 h, z_answer h]
theorem q_free (h : RepK B S L x0 ad rho xl M u sz) (hI : Inv u xl) (n : Nat) (hf : 2100 ≤ n) (t d m : Int) (ht : -2147483648 ≤ t ∧ t < 2147483648) (hd : -2147483648 ≤ d ∧ d < 2147483648) (hm : -2147483648 ≤ m ∧ m < 2147483648) : f_X11_free B n M (some x0) (iI t) (iI d) (iI m) = if ¬ (0 ≤ t ∧ t ≤ vN u 5 - 1) then noK ad u x0 M 1 else if ¬ (0 ≤ d ∧ d ≤ 999) then noK ad u x0 M 3 else if ¬ (1 ≤ m ∧ m ≤ 1000) then noK ad u x0 M 3 else fineK ad u x0 M (freeG u t m (1000 - d).toNat 0 d) := by
  unfold f_X11_free
  rw [isO_at h.book, if_pos rfl, z_thingAt h t ht, z_isDay M d hd, z_isLength M m hm]
  by_cases c0 : 0 ≤ t ∧ t ≤ vN u 5 - 1
  · have n0 : ¬ ¬ (0 ≤ t ∧ t ≤ vN u 5 - 1) := fun q => q c0
    simp only [if_pos c0, if_neg n0, Option.bind_some, reduceCtorEq, if_false, b0z]
    by_cases c1 : 0 ≤ d ∧ d ≤ 999
    · have n1 : ¬ ¬ (0 ≤ d ∧ d ≤ 999) := fun q => q c1
      simp only [if_pos c1, if_neg n1, Option.bind_some, reduceCtorEq, if_false, b0z]
      by_cases c2 : 1 ≤ m ∧ m ≤ 1000
      · have n2 : ¬ ¬ (1 ≤ m ∧ m ≤ 1000) := fun q => q c2
        simp only [if_pos c2, if_neg n2, Option.bind_some, reduceCtorEq, if_false, b0z]
        obtain ⟨⟨w, g1, -⟩, ⟨tk, g2⟩, g3, g4⟩ := h.thi (i := t.toNat) (by omega)
        have e : ((t.toNat : Nat) : Int) = t := by omega
        rw [gR_at g1.1]
        simp only [List.getElem?_cons_zero, List.getElem?_cons_succ, Option.bind_some]
        rw [g2.is, if_pos rfl, g2.firstOpen n (by omega) m d c1 c2 (fun x => by have := loanS_rng u t.toNat x hI.n23; omega), openG_free u t.toNat m hI.n23, e]
        simp only [Option.bind_some, reduceCtorEq, if_false, if_true, b0z, noKb, fineKb, z_refuseAsked0 h, z_refuseAsked1 h, z_refuse1 h, z_answer h]
      · simp only [if_neg c2, if_pos c2, Option.bind_some, reduceCtorEq, if_false, if_true, b0z, noKb, fineKb, z_refuseAsked0 h, z_refuseAsked1 h, z_refuse1 h, z_answer h]
    · simp only [if_neg c1, if_pos c1, Option.bind_some, reduceCtorEq, if_false, if_true, b0z, noKb, fineKb, z_refuseAsked0 h, z_refuseAsked1 h, z_refuse1 h, z_answer h]
  · simp only [if_neg c0, if_pos c0, Option.bind_some, reduceCtorEq, if_false, if_true, b0z, noKb, fineKb, z_refuseAsked0 h, z_refuseAsked1 h, z_refuse1 h, z_answer h]
theorem q_ready (h : RepK B S L x0 ad rho xl M u sz) (hI : Inv u xl) (n : Nat) (hf : 2100 ≤ n) (t d m : Int) (ht : -2147483648 ≤ t ∧ t < 2147483648) (hd : -2147483648 ≤ d ∧ d < 2147483648) (hm : -2147483648 ≤ m ∧ m < 2147483648) : f_X11_ready B n M (some x0) (iI t) (iI d) (iI m) = if ¬ (0 ≤ t ∧ t ≤ vN u 19 - 1) then noK ad u x0 M 1 else if ¬ (0 ≤ d ∧ d ≤ 999) then noK ad u x0 M 3 else if ¬ (1 ≤ m ∧ m ≤ 1000) then noK ad u x0 M 3 else fineK ad u x0 M (rdG u t m (1000 - d).toNat 0 d) := by
  unfold f_X11_ready
  rw [isO_at h.book, if_pos rfl, z_courierAt h t ht, z_isDay M d hd, z_isLength M m hm]
  by_cases c0 : 0 ≤ t ∧ t ≤ vN u 19 - 1
  · have n0 : ¬ ¬ (0 ≤ t ∧ t ≤ vN u 19 - 1) := fun q => q c0
    simp only [if_pos c0, if_neg n0, Option.bind_some, reduceCtorEq, if_false, b0z]
    by_cases c1 : 0 ≤ d ∧ d ≤ 999
    · have n1 : ¬ ¬ (0 ≤ d ∧ d ≤ 999) := fun q => q c1
      simp only [if_pos c1, if_neg n1, Option.bind_some, reduceCtorEq, if_false, b0z]
      by_cases c2 : 1 ≤ m ∧ m ≤ 1000
      · have n2 : ¬ ¬ (1 ≤ m ∧ m ≤ 1000) := fun q => q c2
        simp only [if_pos c2, if_neg n2, Option.bind_some, reduceCtorEq, if_false, b0z]
        obtain ⟨⟨w, g1, -⟩, g2⟩ := h.cou (i := t.toNat) (by omega)
        have e : ((t.toNat : Nat) : Int) = t := by omega
        rw [gR_at g1.1]
        simp only [List.getElem?_cons_zero, List.getElem?_cons_succ, Option.bind_some]
        rw [g2.is, if_pos rfl, g2.firstOpen n (by omega) m d c1 c2 (fun x => by have := calS_rng u t.toNat (vN u 23) x (by have := hI.n23; omega); omega), openG_ready u t.toNat m hI.n23, e]
        simp only [Option.bind_some, reduceCtorEq, if_false, if_true, b0z, noKb, fineKb, z_refuseAsked0 h, z_refuseAsked1 h, z_refuse1 h, z_answer h]
      · simp only [if_neg c2, if_pos c2, Option.bind_some, reduceCtorEq, if_false, if_true, b0z, noKb, fineKb, z_refuseAsked0 h, z_refuseAsked1 h, z_refuse1 h, z_answer h]
    · simp only [if_neg c1, if_pos c1, Option.bind_some, reduceCtorEq, if_false, if_true, b0z, noKb, fineKb, z_refuseAsked0 h, z_refuseAsked1 h, z_refuse1 h, z_answer h]
  · simp only [if_neg c0, if_pos c0, Option.bind_some, reduceCtorEq, if_false, if_true, b0z, noKb, fineKb, z_refuseAsked0 h, z_refuseAsked1 h, z_refuse1 h, z_answer h]
theorem q_premium (h : RepK B S L x0 ad rho xl M u sz) (hI : Inv u xl) (n : Nat) (hf : 2100 ≤ n) (t d e : Int) (ht : -2147483648 ≤ t ∧ t < 2147483648) (hd : -2147483648 ≤ d ∧ d < 2147483648) (he : -2147483648 ≤ e ∧ e < 2147483648) : f_X11_premium B n M (some x0) (iI t) (iI d) (iI e) = if ¬ ((0 ≤ t ∧ t ≤ vN u 23 - 1) ∧ vR u 24 t.toNat ≠ 0) then noK ad u x0 M 1 else if ¬ (0 ≤ d ∧ d ≤ 999) then noK ad u x0 M 3 else if ¬ (0 ≤ e ∧ e ≤ 999) then noK ad u x0 M 3 else if ¬ (d ≤ e) then noK ad u x0 M 3 else fineK ad u x0 M ((sumI (costS u t) (e + 1 - d).toNat d).tdiv 10000) := by
  unfold f_X11_premium
  rw [isO_at h.book, if_pos rfl, z_standingLoanAt h t ht, z_isDay M d hd, z_isDay M e he]
  by_cases c0 : (0 ≤ t ∧ t ≤ vN u 23 - 1) ∧ vR u 24 t.toNat ≠ 0
  · have n0 : ¬ ¬ ((0 ≤ t ∧ t ≤ vN u 23 - 1) ∧ vR u 24 t.toNat ≠ 0) := fun q => q c0
    simp only [if_pos c0, if_neg n0, Option.bind_some, reduceCtorEq, if_false, b0z]
    by_cases c1 : 0 ≤ d ∧ d ≤ 999
    · have n1 : ¬ ¬ (0 ≤ d ∧ d ≤ 999) := fun q => q c1
      simp only [if_pos c1, if_neg n1, Option.bind_some, reduceCtorEq, if_false, b0z]
      by_cases c2 : 0 ≤ e ∧ e ≤ 999
      · have n2 : ¬ ¬ (0 ≤ e ∧ e ≤ 999) := fun q => q c2
        simp only [if_pos c2, if_neg n2, Option.bind_some, reduceCtorEq, if_false, b0z]
        rw [it_le _ _ (by omega)]
        by_cases c3 : d ≤ e
        · have n3 : ¬ ¬ (d ≤ e) := fun q => q c3
          simp only [if_pos c3, if_neg n3, Option.bind_some, reduceCtorEq, if_false, b0z]
          obtain ⟨⟨q, g1, g2⟩, g3⟩ := h.loa (i := t.toNat) (by omega)
          have e' : ((t.toNat : Nat) : Int) = t := by omega
          have hb := z_costBetween h hI (l := t.toNat) (by omega) n hf d e c1 c2
          rw [e'] at hb
          rw [isO_at g1.1, if_pos rfl, hb, Option.bind_some, show (10000 : Int64) = iL 10000 from rfl]
          have hs := sumI_bnd (costS u t) 1200000000 (e + 1 - d).toNat d (fun k _ _ => by have := costS_rng hI t.toNat (by omega) k; rwa [e'] at this)
          have hm : ((e + 1 - d).toNat : Int) * 1200000000 ≤ 1000 * 1200000000 := Int.mul_le_mul_of_nonneg_right (by omega) (by decide)
          have hq : (sumI (costS u t) (e + 1 - d).toNat d).tdiv 10000 = sumI (costS u t) (e + 1 - d).toNat d / 10000 := Int.tdiv_eq_ediv_of_nonneg hs.1
          rw [iL_div _ _ (by omega), iL_int _ (by omega)]
          simp only [Option.bind_some, reduceCtorEq, if_false, if_true, b0z, noKb, fineKb, z_refuseAsked0 h, z_refuseAsked1 h, z_refuse1 h, z_answer h]
        · simp only [if_neg c3, if_pos c3, Option.bind_some, reduceCtorEq, if_false, if_true, b0z, noKb, fineKb, z_refuseAsked0 h, z_refuseAsked1 h, z_refuse1 h, z_answer h]
      · simp only [if_neg c2, if_pos c2, Option.bind_some, reduceCtorEq, if_false, if_true, b0z, noKb, fineKb, z_refuseAsked0 h, z_refuseAsked1 h, z_refuse1 h, z_answer h]
    · simp only [if_neg c1, if_pos c1, Option.bind_some, reduceCtorEq, if_false, if_true, b0z, noKb, fineKb, z_refuseAsked0 h, z_refuseAsked1 h, z_refuse1 h, z_answer h]
  · simp only [if_neg c0, if_pos c0, Option.bind_some, reduceCtorEq, if_false, if_true, b0z, noKb, fineKb, z_refuseAsked0 h, z_refuseAsked1 h, z_refuse1 h, z_answer h]
end QS
