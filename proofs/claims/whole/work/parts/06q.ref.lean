/-! THE REFERENCE: count, guard, damage, bearer; end, cancel -/
theorem t_count (n : Nat) (u : MS) (t : Int) (ht : -2147483648 ≤ t ∧ t < 2147483648) (h : NumOK u) (hf : 2100 ≤ n) : f_X12_count n u (iI t) = if t = 0 then fineS u (vN u 5) else if t = 1 then fineS u (vN u 14) else if t = 2 then fineS u (vN u 19) else if t = 3 then fineS u (vN u 23) else if t = 4 then fineS u (stdS u) else if t = 5 then fineS u (vN u 33) else if t = 6 then fineS u (vN u 1) else noS u 3 := by
  obtain ⟨h1, h5, h10, h14, h19, h23, h33⟩ := h
  unfold f_X12_count
  rw [t_standing n u h23 (by omega), show (0 : Int32) = iI 0 from rfl, show (1 : Int32) = iI 1 from rfl, show (2 : Int32) = iI 2 from rfl, show (3 : Int32) = iI 3 from rfl, show (4 : Int32) = iI 4 from rfl, show (5 : Int32) = iI 5 from rfl, show (6 : Int32) = iI 6 from rfl, it_eq _ _ (by omega), it_eq _ _ (by omega), it_eq _ _ (by omega), it_eq _ _ (by omega), it_eq _ _ (by omega), it_eq _ _ (by omega), it_eq _ _ (by omega)]
  simp only [Option.bind_some, u1_iI, t_fine, t_no]
theorem t_guard (u : MS) (l p w : Int) (hl : -2147483648 ≤ l ∧ l < 2147483648) (hp : -2147483648 ≤ p ∧ p < 2147483648) (hw : -2147483648 ≤ w ∧ w < 2147483648) (h : NumOK u) (hP : ParsOK u) : f_X12_guard u (iI l) (iI p) (iI w) = if ¬ (((0 ≤ l ∧ l ≤ vN u 23 - 1) ∧ vR u 24 l.toNat ≠ 0) ∧ (0 ≤ p ∧ p ≤ vR u 29 l.toNat - 1)) then noS u 1 else if w = 0 then fineS u (vR u 31 (l * 16 + p).toNat) else if w = 1 then fineS u (vR u 32 (l * 16 + p).toNat) else noS u 3 := by
  unfold f_X12_guard
  have e0 : (iI w = (0 : Int32)) ↔ w = 0 := iI_eq w 0 (by omega)
  have e1 : (iI w = (1 : Int32)) ↔ w = 1 := iI_eq w 1 (by omega)
  have e2 : ((f_X12_no u (1 : Int32)).bind fun r => some (r.1, r.2)) = noS u 1 := rfl
  have e3 : ((f_X12_no u (3 : Int32)).bind fun r => some (r.1, r.2)) = noS u 3 := rfl
  rw [t_isParcel u l p hl hp h hP, Option.bind_some]
  obtain ⟨h1, h5, h10, h14, h19, h23, h33⟩ := h
  by_cases c : ((0 ≤ l ∧ l ≤ vN u 23 - 1) ∧ vR u 24 l.toNat ≠ 0) ∧ (0 ≤ p ∧ p ≤ vR u 29 l.toNat - 1)
  · have hq := hP l (by omega) (by omega)
    unfold ParOK at hq
    have q1 : inb (iI (l * 16 + p)) 272 := (iI_inb _ 272 (by omega)).mpr ⟨by omega, by omega⟩
    rw [if_pos c, if_neg (by decide), if_neg (show ¬ ¬ (((0 ≤ l ∧ l ≤ vN u 23 - 1) ∧ vR u 24 l.toNat ≠ 0) ∧ (0 ≤ p ∧ p ≤ vR u 29 l.toNat - 1)) from fun q => q c), show (16 : Int32) = iI 16 from rfl, iI_mul, iI_add, if_pos q1, if_pos q1, iI_clamp _ (by omega), u2_iI, u2_iI, t_fine, t_fine]
    simp only [e0, e1, e3]
  · rw [if_neg c, if_pos (show iI 0 = (0 : Int32) from rfl), if_pos c]
    rfl
theorem t_reportWhy (n : Nat) (u : MS) (t d : Int) (ht : -2147483648 ≤ t ∧ t < 2147483648) (hd : -2147483648 ≤ d ∧ d < 2147483648) (h : NumOK u) (hf : 2100 ≤ n) : f_X12_reportWhy n u (iI t) (iI d) = some (iI (if ¬ (0 ≤ t ∧ t ≤ vN u 5 - 1) then 1 else if ¬ (0 ≤ d ∧ d ≤ 999) then 3 else if 0 ≤ inS u t d ∧ vR u 35 (inS u t d).toNat = d then 0 else 1)) := by
  obtain ⟨h1, h5, h10, h14, h19, h23, h33⟩ := h
  have hs := inS_rng u t d (by omega)
  unfold f_X12_reportWhy
  rw [t_isThing u t ht h5, Option.bind_some, show (0 : Int32) = iI 0 from rfl, ib_z, t_isDay u d hd, Option.bind_some, ib_z, t_reportOn n u t d ht hd h33 (by omega), Option.bind_some, it_le _ _ (by split <;> omega)]
  (repeat' split) <;> first | rfl | (exfalso; omega)
theorem t_damage (n : Nat) (u : MS) (t d : Int) (ht : -2147483648 ≤ t ∧ t < 2147483648) (hd : -2147483648 ≤ d ∧ d < 2147483648) (h : NumOK u) (hR : RepsOK u) (hf : 2100 ≤ n) : f_X12_damage n u (iI t) (iI d) = if ¬ (0 ≤ t ∧ t ≤ vN u 5 - 1) then noS u 1 else if ¬ (0 ≤ d ∧ d ≤ 999) then noS u 3 else if ¬ (0 ≤ inS u t d ∧ vR u 35 (inS u t d).toNat = d) then noS u 1 else fineS u (damS u (inS u t d)) := by
  have h0 := h
  obtain ⟨h1, h5, h10, h14, h19, h23, h33⟩ := h
  have hs := inS_rng u t d (by omega)
  unfold f_X12_damage
  rw [t_reportWhy n u t d ht hd h0 hf, Option.bind_some, show (0 : Int32) = iI 0 from rfl, it_le _ _ (by (repeat' split) <;> omega), t_no]
  by_cases c1 : 0 ≤ t ∧ t ≤ vN u 5 - 1
  · by_cases c2 : 0 ≤ d ∧ d ≤ 999
    · by_cases c3 : 0 ≤ inS u t d ∧ vR u 35 (inS u t d).toNat = d
      · simp only [if_pos c1, if_pos c2, if_pos c3, not_true_eq_false, c1, c2, c3, and_self, if_false, if_true]
        rw [if_pos (by omega), t_reportOn n u t d ht hd h33 (by omega), Option.bind_some, if_pos c3, t_damageOf n u _ (by omega) h33 h10 hR.1 (by omega), Option.bind_some, t_fine]
      · have n1 : ¬ ¬ (0 ≤ t ∧ t ≤ vN u 5 - 1) := fun q => q c1
        have n2 : ¬ ¬ (0 ≤ d ∧ d ≤ 999) := fun q => q c2
        rw [if_neg n1, if_neg n2, if_neg c3, if_neg (by omega), if_neg n1, if_neg n2, if_pos c3]
    · have n1 : ¬ ¬ (0 ≤ t ∧ t ≤ vN u 5 - 1) := fun q => q c1
      rw [if_neg n1, if_pos c2, if_neg (by omega), if_neg n1, if_pos c2]
  · rw [if_pos c1, if_neg (by omega), if_pos c1]
theorem t_bearer (n : Nat) (u : MS) (t d : Int) (ht : -2147483648 ≤ t ∧ t < 2147483648) (hd : -2147483648 ≤ d ∧ d < 2147483648) (h : NumOK u) (hL : LoansOK u) (hR : RepsOK u) (hf : 2100 ≤ n) : f_X12_bearer n u (iI t) (iI d) = if ¬ (0 ≤ t ∧ t ≤ vN u 5 - 1) then noS u 1 else if ¬ (0 ≤ d ∧ d ≤ 999) then noS u 3 else if ¬ (0 ≤ inS u t d ∧ vR u 35 (inS u t d).toNat = d) then noS u 1 else fineS u (bearS u (inS u t d)) := by
  have h0 := h
  obtain ⟨h1, h5, h10, h14, h19, h23, h33⟩ := h
  have hs := inS_rng u t d (by omega)
  unfold f_X12_bearer
  rw [t_reportWhy n u t d ht hd h0 hf, Option.bind_some, show (0 : Int32) = iI 0 from rfl, it_le _ _ (by (repeat' split) <;> omega), t_no]
  by_cases c1 : 0 ≤ t ∧ t ≤ vN u 5 - 1
  · by_cases c2 : 0 ≤ d ∧ d ≤ 999
    · by_cases c3 : 0 ≤ inS u t d ∧ vR u 35 (inS u t d).toNat = d
      · simp only [if_pos c1, if_pos c2, if_pos c3, not_true_eq_false, c1, c2, c3, and_self, if_false, if_true]
        rw [if_pos (by omega), t_reportOn n u t d ht hd h33 (by omega), Option.bind_some, if_pos c3, t_bearerOf n u _ (by omega) h33 h23 hL hR.1 (by omega), Option.bind_some, t_fine]
      · have n1 : ¬ ¬ (0 ≤ t ∧ t ≤ vN u 5 - 1) := fun q => q c1
        have n2 : ¬ ¬ (0 ≤ d ∧ d ≤ 999) := fun q => q c2
        rw [if_neg n1, if_neg n2, if_neg c3, if_neg (by omega), if_neg n1, if_neg n2, if_pos c3]
    · have n1 : ¬ ¬ (0 ≤ t ∧ t ≤ vN u 5 - 1) := fun q => q c1
      rw [if_neg n1, if_pos c2, if_neg (by omega), if_neg n1, if_pos c2]
  · rw [if_pos c1, if_neg (by omega), if_pos c1]
section QP
variable {B : Nat} {S : Nat → Nat} {L : Mem} {x0 : Nat} {ad rho : Nat → Nat} {xl : Nat → List Nat} {M : Mem} {u : MS} {sz : Nat}
/-- the report of a thing and a day, on the class's side -/
theorem z_reportOn (h : RepK B S L x0 ad rho xl M u sz) (hI : Inv u xl) {i : Nat} (hi : i < (vN u 5).toNat) (n : Nat) (hf : 60 ≤ n) (d : Int) (hd : -2147483648 ≤ d ∧ d < 2147483648) : (¬ (0 ≤ inS u i d ∧ vR u 35 (inS u i d).toNat = d) ∧ f_X10_reportOn n M (some (ad (1000 + i))) (iI d) = some none) ∨ ∃ k j : Nat, (xl (4000 + i))[k]? = some j ∧ inS u i d = j ∧ vR u 35 j = d ∧ f_X10_latestReport n M (some (ad (1000 + i))) (iI d) = some (iI k) ∧ f_X10_reportOn n M (some (ad (1000 + i))) (iI d) = some (some (ad (10000 + j))) := by
  have hF := hI.rps i hi
  have h1 := z_latestReport h hi hF n hf d hd
  obtain ⟨w, g1, -⟩ := (h.thi hi).1
  unfold f_X10_reportOn
  rw [isO_at g1.1, if_pos rfl, h1, Option.bind_some, if_pos rfl]
  rcases inS_lat hF d with ⟨e, q⟩ | ⟨k, j, k1, e, k2, q, q2⟩
  · left
    rw [e, z_repNone h hi hF, Option.bind_some, if_pos rfl, q]
    exact ⟨by omega, rfl⟩
  · obtain ⟨w, s, z, f, g, g2, -⟩ := h.rpt ((hF.mem j).mp (List.mem_of_getElem? k2)).1
    rw [e, z_repSome h hi hF k2, Option.bind_some, if_neg (by simp), gI_at g2.1]
    simp only [List.getElem?_cons_zero, Option.bind_some]
    rw [ix_eq _ _ hd, q]
    show (_ ∧ (if vR u 35 j = d then _ else _) = _) ∨ _
    by_cases c : vR u 35 j = d
    · right
      refine ⟨k, j, k2, rfl, c, rfl, ?_⟩
      show (if vR u 35 j = d then _ else _) = _
      rw [if_pos c]
    · left
      rw [if_neg c, Int.toNat_natCast]
      exact ⟨fun q => c q.2, rfl⟩
theorem q_damage (h : RepK B S L x0 ad rho xl M u sz) (hI : Inv u xl) (n : Nat) (hf : 2100 ≤ n) (t d : Int) (ht : -2147483648 ≤ t ∧ t < 2147483648) (hd : -2147483648 ≤ d ∧ d < 2147483648) : f_X11_damage B n M (some x0) (iI t) (iI d) = if ¬ (0 ≤ t ∧ t ≤ vN u 5 - 1) then noK ad u x0 M 1 else if ¬ (0 ≤ d ∧ d ≤ 999) then noK ad u x0 M 3 else if ¬ (0 ≤ inS u t d ∧ vR u 35 (inS u t d).toNat = d) then noK ad u x0 M 1 else fineK ad u x0 M (damS u (inS u t d)) := by
  unfold f_X11_damage
  rw [isO_at h.book, if_pos rfl, z_thingAt h t ht, z_isDay M d hd]
  by_cases c0 : 0 ≤ t ∧ t ≤ vN u 5 - 1
  · have n0 : ¬ ¬ (0 ≤ t ∧ t ≤ vN u 5 - 1) := fun q => q c0
    simp only [if_pos c0, if_neg n0, Option.bind_some, reduceCtorEq, if_false, b0z]
    by_cases c1 : 0 ≤ d ∧ d ≤ 999
    · have n1 : ¬ ¬ (0 ≤ d ∧ d ≤ 999) := fun q => q c1
      simp only [if_pos c1, if_neg n1, Option.bind_some, reduceCtorEq, if_false, b0z]
      have e : ((t.toNat : Nat) : Int) = t := by omega
      obtain ⟨w, g1, -⟩ := (h.thi (i := t.toNat) (by omega)).1
      rw [isO_at g1.1]
      rcases z_reportOn h hI (i := t.toNat) (by omega) n (by omega) d hd with ⟨c2, z1⟩ | ⟨k, j, k1, k2, k3, z1, z2⟩
      · rw [e] at c2
        rw [z1, if_pos c2]
        simp only [if_true, Option.bind_some, z_refuse1 h, noKb]
      · rw [e] at k2
        have c2 : ¬ ¬ (0 ≤ inS u t d ∧ vR u 35 (inS u t d).toNat = d) := fun q => q (by rw [k2, Int.toNat_natCast]; exact ⟨by omega, k3⟩)
        rw [z2, if_neg c2, k2]
        simp only [if_true, Option.bind_some, reduceCtorEq, if_false]
        rw [z1, Option.bind_some, z_damageTold h hI (by omega) k1 n (by omega)]
        simp only [if_true, Option.bind_some, z_answer h, fineKb]
    · simp only [if_neg c1, if_pos c1, Option.bind_some, reduceCtorEq, if_false, if_true, noKb, z_refuseAsked1 h]
  · simp only [if_neg c0, if_pos c0, Option.bind_some, if_true, noKb, z_refuseAsked0 h]
theorem q_bearer (h : RepK B S L x0 ad rho xl M u sz) (hI : Inv u xl) (n : Nat) (hf : 2100 ≤ n) (t d : Int) (ht : -2147483648 ≤ t ∧ t < 2147483648) (hd : -2147483648 ≤ d ∧ d < 2147483648) : f_X11_bearer B n M (some x0) (iI t) (iI d) = if ¬ (0 ≤ t ∧ t ≤ vN u 5 - 1) then noK ad u x0 M 1 else if ¬ (0 ≤ d ∧ d ≤ 999) then noK ad u x0 M 3 else if ¬ (0 ≤ inS u t d ∧ vR u 35 (inS u t d).toNat = d) then noK ad u x0 M 1 else fineK ad u x0 M (bearS u (inS u t d)) := by
  unfold f_X11_bearer
  rw [isO_at h.book, if_pos rfl, z_thingAt h t ht, z_isDay M d hd]
  by_cases c0 : 0 ≤ t ∧ t ≤ vN u 5 - 1
  · have n0 : ¬ ¬ (0 ≤ t ∧ t ≤ vN u 5 - 1) := fun q => q c0
    simp only [if_pos c0, if_neg n0, Option.bind_some, reduceCtorEq, if_false, b0z]
    by_cases c1 : 0 ≤ d ∧ d ≤ 999
    · have n1 : ¬ ¬ (0 ≤ d ∧ d ≤ 999) := fun q => q c1
      simp only [if_pos c1, if_neg n1, Option.bind_some, reduceCtorEq, if_false, b0z]
      have e : ((t.toNat : Nat) : Int) = t := by omega
      obtain ⟨w, g1, -⟩ := (h.thi (i := t.toNat) (by omega)).1
      rw [isO_at g1.1]
      rcases z_reportOn h hI (i := t.toNat) (by omega) n (by omega) d hd with ⟨c2, z1⟩ | ⟨k, j, k1, k2, k3, z1, z2⟩
      · rw [e] at c2
        rw [z1, if_pos c2]
        simp only [if_true, Option.bind_some, z_refuse1 h, noKb]
      · rw [e] at k2
        have c2 : ¬ ¬ (0 ≤ inS u t d ∧ vR u 35 (inS u t d).toNat = d) := fun q => q (by rw [k2, Int.toNat_natCast]; exact ⟨by omega, k3⟩)
        rw [z2, if_neg c2, k2]
        simp only [if_true, Option.bind_some, reduceCtorEq, if_false]
        rw [z1, Option.bind_some, z_bearerOf h hI (by omega) k1 n (by omega)]
        simp only [if_true, Option.bind_some, z_answer h, fineKb]
    · simp only [if_neg c1, if_pos c1, Option.bind_some, reduceCtorEq, if_false, if_true, noKb, z_refuseAsked1 h]
  · simp only [if_neg c0, if_pos c0, Option.bind_some, if_true, noKb, z_refuseAsked0 h]
end QP
