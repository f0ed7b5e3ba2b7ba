/-! THE OTHER QUERIES OF THE CLASS -/
theorem bit01 (x : Int32) : x &&& (1 : Int32) = 0 ∨ x &&& (1 : Int32) = 1 := by
  have h : (x &&& (1 : Int32)).toBitVec = x.toBitVec &&& 1#32 := rfl
  have h2 : x.toBitVec &&& 1#32 = 0#32 ∨ x.toBitVec &&& 1#32 = 1#32 := by
    have e : (x.toBitVec &&& 1#32).toNat = x.toBitVec.toNat % 2 := by
      rw [BitVec.toNat_and]
      show x.toBitVec.toNat &&& 1 = _
      exact Nat.and_one_is_mod _
    rcases Nat.mod_two_eq_zero_or_one x.toBitVec.toNat with h | h
    · left
      apply BitVec.eq_of_toNat_eq
      rw [e, h]
      rfl
    · right
      apply BitVec.eq_of_toNat_eq
      rw [e, h]
      rfl
  rcases h2 with h2 | h2
  · left
    apply Int32.toBitVec_inj.mp
    rw [h, h2]
    rfl
  · right
    apply Int32.toBitVec_inj.mp
    rw [h, h2]
    rfl
section QO
variable {B : Nat} {S : Nat → Nat} {L : Mem} {x0 : Nat} {ad rho : Nat → Nat} {xl : Nat → List Nat} {M : Mem} {u : MS} {sz : Nat}
theorem z_holdsBit (M : Mem) (x y : Int32) : f_X10_holdsBit M x y = some (if (x >>> (y &&& 31)) &&& (1 : Int32) = 0 then (0 : Int32) else 1) := by
  unfold f_X10_holdsBit
  rcases bit01 (x >>> (y &&& 31)) with e | e
  · rw [if_neg (by rw [e]; decide), if_pos e]
  · rw [if_pos e, if_neg (by rw [e]; decide)]
theorem z_bars {M : Mem} {a : Nat} {fs : List Value} {b : Int32} (h1 : M a = some (.inl (13, fs))) (hb : fs[7]? = some (.int b)) (y : Int32) : f_X10_bars M (some a) y = some (if (b >>> (y &&& 31)) &&& (1 : Int32) = 0 then (0 : Int32) else 1) := by
  unfold f_X10_bars
  rw [gI_at h1, hb]
  simp only [Option.bind_some]
  rw [z_holdsBit, Option.bind_some, if_pos]
  split
  · exact Or.inl rfl
  · exact Or.inr rfl
theorem q_together (h : RepK B S L x0 ad rho xl M u sz) (hI : Inv u xl) (t d : Int) (ht : -2147483648 ≤ t ∧ t < 2147483648) (hd : -2147483648 ≤ d ∧ d < 2147483648) : f_X11_together B M (some x0) (iI t) (iI d) = if ¬ (0 ≤ t ∧ t ≤ vN u 5 - 1) then noK ad u x0 M 1 else if ¬ (0 ≤ d ∧ d ≤ vN u 5 - 1) then noK ad u x0 M 1 else fineK ad u x0 M (if togS u t d = true then 1 else 0) := by
  unfold f_X11_together
  rw [isO_at h.book, if_pos rfl, z_thingAt h t ht, z_thingAt h d hd]
  by_cases c0 : 0 ≤ t ∧ t ≤ vN u 5 - 1
  · have n0 : ¬ ¬ (0 ≤ t ∧ t ≤ vN u 5 - 1) := fun q => q c0
    simp only [if_pos c0, if_neg n0, Option.bind_some, reduceCtorEq, if_false, if_true]
    by_cases c1 : 0 ≤ d ∧ d ≤ vN u 5 - 1
    · have n1 : ¬ ¬ (0 ≤ d ∧ d ≤ vN u 5 - 1) := fun q => q c1
      simp only [if_pos c1, if_neg n1, reduceCtorEq, if_false]
      obtain ⟨w, g1, -⟩ := (h.thi (i := t.toNat) (by omega)).1
      obtain ⟨w2, g2, -⟩ := (h.thi (i := d.toNat) (by omega)).1
      rw [gI_at g2.1, gI_at g1.1]
      simp only [List.getElem?_cons_zero, List.getElem?_cons_succ, Option.bind_some]
      rw [isO_at g1.1, isO_at g2.1, z_bars g1.1 rfl, z_bars g2.1 rfl]
      unfold togS
      rw [show (0 : Int32) = iI 0 from rfl, show (1 : Int32) = iI 1 from rfl]
      simp only [if_true, Option.bind_some]
      by_cases b1 : (u.2 9 t.toNat >>> (u.2 6 d.toNat &&& 31)) &&& iI 1 = iI 0
      · by_cases b2 : (u.2 9 d.toNat >>> (u.2 6 t.toNat &&& 31)) &&& iI 1 = iI 0
        · simp only [if_pos b1, if_pos b2, if_true, z_answer h, fineKb]
          simp [b1, b2]
        · have b3 : ¬ iI 1 = iI 0 := by decide
          simp only [if_pos b1, if_neg b2, if_neg b3, if_true, z_answer h, fineKb]
          simp [b1, b2]
      · have b3 : ¬ iI 1 = iI 0 := by decide
        simp only [if_neg b1, if_neg b3, z_answer h, fineKb]
        simp [b1]
    · simp only [if_neg c1, if_pos c1, reduceCtorEq, if_false, if_true, noKb, z_refuse1 h]
  · simp only [if_neg c0, if_pos c0, Option.bind_some, reduceCtorEq, if_false, if_true, noKb, z_refuse1 h]
theorem q_parcel (h : RepK B S L x0 ad rho xl M u sz) (hI : Inv u xl) (n : Nat) (hf : 2100 ≤ n) (t d : Int) (ht : -2147483648 ≤ t ∧ t < 2147483648) (hd : -2147483648 ≤ d ∧ d < 2147483648) : f_X11_parcel B n M (some x0) (iI t) (iI d) = if ¬ ((0 ≤ t ∧ t ≤ vN u 23 - 1) ∧ vR u 24 t.toNat ≠ 0) then noK ad u x0 M 1 else if ¬ (0 ≤ d ∧ d ≤ vN u 5 - 1) then noK ad u x0 M 1 else if ¬ hadS u t d = true then noK ad u x0 M 1 else fineK ad u x0 M (vR u 30 (t * 16 + d).toNat) := by
  have h5 := hI.n5
  unfold f_X11_parcel
  rw [isO_at h.book, if_pos rfl, z_standingLoanAt h t ht]
  by_cases c0 : (0 ≤ t ∧ t ≤ vN u 23 - 1) ∧ vR u 24 t.toNat ≠ 0
  · have n0 : ¬ ¬ ((0 ≤ t ∧ t ≤ vN u 23 - 1) ∧ vR u 24 t.toNat ≠ 0) := fun q => q c0
    simp only [if_pos c0, if_neg n0, Option.bind_some, reduceCtorEq, if_false, if_true]
    have e : ((t.toNat : Nat) : Int) = t := by omega
    obtain ⟨⟨q, g1, -⟩, -⟩ := h.loa (i := t.toNat) (by omega)
    have hp := z_parcelOf h hI (l := t.toNat) (by omega) n (by omega) d hd
    rw [e] at hp
    rw [isO_at g1.1, if_pos rfl, hp]
    simp only [Option.bind_some]
    by_cases c1 : 0 ≤ d ∧ d ≤ vN u 5 - 1
    · by_cases c2 : hadS u t d = true
      · have hk := (hI.loak t.toNat (by omega)).2.2.2.2.1 d.toNat (by omega) (by rw [e, show ((d.toNat : Nat) : Int) = d by omega]; exact c2)
        have hpp := hI.par t.toNat (by omega)
        rw [if_pos (show (0 ≤ d ∧ d < vN u 5) ∧ hadS u t d = true from ⟨by omega, c2⟩), iI_m1, it_eq _ _ (by omega), if_neg (by omega), if_neg (fun q => q c1), if_neg (fun q => q c2), show (t * 16 + d).toNat = t.toNat * 16 + d.toNat by omega]
        simp only [z_answer h, fineKb]
      · rw [if_neg (show ¬ ((0 ≤ d ∧ d < vN u 5) ∧ hadS u t d = true) from fun q => c2 q.2), iI_m1, if_pos rfl, if_neg (fun q => q c1), if_pos c2]
        simp only [z_refuse1 h, noKb]
    · rw [if_neg (show ¬ ((0 ≤ d ∧ d < vN u 5) ∧ hadS u t d = true) from fun q => c1 ⟨q.1.1, by omega⟩), iI_m1, if_pos rfl, if_pos c1]
      simp only [z_refuse1 h, noKb]
  · simp only [if_neg c0, if_pos c0, Option.bind_some, if_true, z_refuse1 h, noKb]
theorem z_parcelOfLoan (h : RepK B S L x0 ad rho xl M u sz) {l : Nat} (hl : l < (vN u 23).toNat) (p : Int) (hp : -2147483648 ≤ p ∧ p < 2147483648) : f_X4_parcelAt M (some (ad (8000 + l))) (iI p) = some (if 0 ≤ p ∧ p ≤ vR u 29 l - 1 then some (ad (9000 + l * 16 + p.toNat)) else none) := by
  obtain ⟨⟨q, g1, g2⟩, g3⟩ := h.loa hl
  exact z_parcelAt g1.1 rfl g2 (fun p hp => h.parO hl hp) p hp
theorem q_weight (h : RepK B S L x0 ad rho xl M u sz) (hI : Inv u xl) (t d : Int) (ht : -2147483648 ≤ t ∧ t < 2147483648) (hd : -2147483648 ≤ d ∧ d < 2147483648) : f_X11_weight B M (some x0) (iI t) (iI d) = if ¬ (((0 ≤ t ∧ t ≤ vN u 23 - 1) ∧ vR u 24 t.toNat ≠ 0) ∧ (0 ≤ d ∧ d ≤ vR u 29 t.toNat - 1)) then noK ad u x0 M 1 else fineK ad u x0 M (weighS u t d) := by
  unfold f_X11_weight
  rw [isO_at h.book, if_pos rfl, z_standingLoanAt h t ht]
  by_cases c0 : (0 ≤ t ∧ t ≤ vN u 23 - 1) ∧ vR u 24 t.toNat ≠ 0
  · simp only [if_pos c0, Option.bind_some, reduceCtorEq, if_false, if_true]
    obtain ⟨⟨q, g1, -⟩, g3⟩ := h.loa (i := t.toNat) (by omega)
    rw [isO_at g1.1, if_pos rfl, z_parcelOfLoan h (by omega) d hd]
    simp only [Option.bind_some]
    by_cases c1 : 0 ≤ d ∧ d ≤ vR u 29 t.toNat - 1
    · obtain ⟨c, k1, -⟩ := g3 d.toNat (by omega)
      have n0 : ¬ ¬ (((0 ≤ t ∧ t ≤ vN u 23 - 1) ∧ vR u 24 t.toNat ≠ 0) ∧ (0 ≤ d ∧ d ≤ vR u 29 t.toNat - 1)) := fun q => q ⟨c0, c1⟩
      rw [show 9000 + (t.toNat * 16 + d.toNat) = 9000 + t.toNat * 16 + d.toNat by omega] at k1
      simp only [if_pos c1, if_neg n0, reduceCtorEq, if_false]
      rw [gI_at k1.1]
      simp only [List.getElem?_cons_zero, Option.bind_some, z_answer h, fineKb]
      rw [show ((t.toNat : Nat) : Int) = t by omega, show ((d.toNat : Nat) : Int) = d by omega]
    · have n0 : ¬ (((0 ≤ t ∧ t ≤ vN u 23 - 1) ∧ vR u 24 t.toNat ≠ 0) ∧ (0 ≤ d ∧ d ≤ vR u 29 t.toNat - 1)) := fun q => c1 q.2
      simp only [if_neg c1, if_pos n0, if_true, z_refuse1 h, noKb]
  · have n0 : ¬ (((0 ≤ t ∧ t ≤ vN u 23 - 1) ∧ vR u 24 t.toNat ≠ 0) ∧ (0 ≤ d ∧ d ≤ vR u 29 t.toNat - 1)) := fun q => c0 q.1
    simp only [if_neg c0, if_pos n0, Option.bind_some, if_true, z_refuse1 h, noKb]
theorem q_guard (h : RepK B S L x0 ad rho xl M u sz) (hI : Inv u xl) (t d m : Int) (ht : -2147483648 ≤ t ∧ t < 2147483648) (hd : -2147483648 ≤ d ∧ d < 2147483648) (hm : -2147483648 ≤ m ∧ m < 2147483648) : f_X11_guard B M (some x0) (iI t) (iI d) (iI m) = if ¬ (((0 ≤ t ∧ t ≤ vN u 23 - 1) ∧ vR u 24 t.toNat ≠ 0) ∧ (0 ≤ d ∧ d ≤ vR u 29 t.toNat - 1)) then noK ad u x0 M 1 else if m = 0 then fineK ad u x0 M (vR u 31 (t * 16 + d).toNat) else if m = 1 then fineK ad u x0 M (vR u 32 (t * 16 + d).toNat) else noK ad u x0 M 3 := by
  unfold f_X11_guard
  rw [isO_at h.book, if_pos rfl, z_standingLoanAt h t ht]
  by_cases c0 : (0 ≤ t ∧ t ≤ vN u 23 - 1) ∧ vR u 24 t.toNat ≠ 0
  · simp only [if_pos c0, Option.bind_some, reduceCtorEq, if_false, if_true]
    obtain ⟨⟨q, g1, -⟩, g3⟩ := h.loa (i := t.toNat) (by omega)
    rw [isO_at g1.1, if_pos rfl, z_parcelOfLoan h (by omega) d hd]
    simp only [Option.bind_some]
    by_cases c1 : 0 ≤ d ∧ d ≤ vR u 29 t.toNat - 1
    · obtain ⟨c, k1, -⟩ := g3 d.toNat (by omega)
      have n0 : ¬ ¬ (((0 ≤ t ∧ t ≤ vN u 23 - 1) ∧ vR u 24 t.toNat ≠ 0) ∧ (0 ≤ d ∧ d ≤ vR u 29 t.toNat - 1)) := fun q => q ⟨c0, c1⟩
      rw [show 9000 + (t.toNat * 16 + d.toNat) = 9000 + t.toNat * 16 + d.toNat by omega] at k1
      have e0 : (t * 16 + d).toNat = t.toNat * 16 + d.toNat := by omega
      simp only [if_pos c1, if_neg n0, reduceCtorEq, if_false]
      rw [isO_at k1.1, z_refuseAsked1 h, e0]
      by_cases m0 : m = 0
      · subst m0
        rw [show iI 0 = (0 : Int32) from rfl, if_pos rfl, if_pos rfl, if_pos rfl, show (0 : Int32) = iI 0 from rfl, z_courierOn k1.1 0 (by omega)]
        simp only [if_true, Option.bind_some]
        rw [u2_iI]
        simp only [z_answer h, fineKb]
      · rw [if_neg m0, show (0 : Int32) = iI 0 from rfl, it_eq _ _ (by omega), if_neg m0, show (1 : Int32) = iI 1 from rfl, it_eq _ _ (by omega)]
        by_cases m1 : m = 1
        · subst m1
          rw [if_pos rfl, if_pos rfl, if_pos rfl, z_courierOn k1.1 1 (by omega), if_neg (by omega)]
          simp only [Option.bind_some]
          rw [u2_iI]
          simp only [if_true, z_answer h, fineKb]
        · rw [if_neg m1, if_neg m1]
          simp only [if_true, noKb]
    · have n0 : ¬ (((0 ≤ t ∧ t ≤ vN u 23 - 1) ∧ vR u 24 t.toNat ≠ 0) ∧ (0 ≤ d ∧ d ≤ vR u 29 t.toNat - 1)) := fun q => c1 q.2
      simp only [if_neg c1, if_pos n0, if_true, z_refuseAsked0 h, noKb]
  · have n0 : ¬ (((0 ≤ t ∧ t ≤ vN u 23 - 1) ∧ vR u 24 t.toNat ≠ 0) ∧ (0 ≤ d ∧ d ≤ vR u 29 t.toNat - 1)) := fun q => c0 q.1
    simp only [if_neg c0, if_pos n0, Option.bind_some, if_true, z_refuseAsked0 h, noKb]
theorem q_home (h : RepK B S L x0 ad rho xl M u sz) (hI : Inv u xl) (n : Nat) (hf : 2100 ≤ n) : f_X11_home n M (some x0) = some (iI (chargS u (-1))) := by
  unfold f_X11_home
  rw [isO_at h.book, if_pos rfl, show (-1 : Int32) = iI (-1) from rfl, z_damagesBorneBy h hI n hf _ (by omega)]
  rfl
theorem q_place (h : RepK B S L x0 ad rho xl M u sz) : f_X11_place M (some x0) = some (u.1 3) := by
  obtain ⟨p, row, s, c, n, z1, z2, z3, z4, g1, -⟩ := h.2.1.2.2.1
  unfold f_X11_place f_X7_wrongAt
  rw [gR_at h.book]
  simp only [booF, List.getElem?_cons_zero, List.getElem?_cons_succ, Option.bind_some]
  rw [isO_at g1.1, if_pos rfl, gI_at g1.1]
  rfl
theorem q_fault (h : RepK B S L x0 ad rho xl M u sz) : f_X11_fault M (some x0) = some (u.1 4) := by
  unfold f_X11_fault
  rw [gI_at h.book]
  rfl
theorem q_status (h : RepK B S L x0 ad rho xl M u sz) : f_X11_status M (some x0) = some (u.1 2) := by
  unfold f_X11_status
  rw [gI_at h.book]
  rfl
theorem q_count (h : RepK B S L x0 ad rho xl M u sz) (hI : Inv u xl) (t : Int) (ht : -2147483648 ≤ t ∧ t < 2147483648) : f_X11_count B M (some x0) (iI t) = if t = 0 then fineK ad u x0 M (vN u 5) else if t = 1 then fineK ad u x0 M (vN u 14) else if t = 2 then fineK ad u x0 M (vN u 19) else if t = 3 then fineK ad u x0 M (vN u 23) else if t = 4 then fineK ad u x0 M (stdS u) else if t = 5 then fineK ad u x0 M (vN u 33) else if t = 6 then fineK ad u x0 M (vN u 1) else noK ad u x0 M 3 := by
  have h5 := hI.n5
  have h14 := hI.n14
  have h19 := hI.n19
  have h23 := hI.n23
  obtain ⟨r1, r2, r3, r4⟩ := h.rows
  obtain ⟨-, tb, t1, t2⟩ := h.2.1.2.1
  have s1 := r1.size
  have s2 := r2.size
  have s3 := r3.size
  have s4 := r4.size
  rw [seqA_len] at s1 s2 s3 s4
  unfold f_X11_count f_X9_size
  rw [isO_at h.book, z_refuse3 h, show (0 : Int32) = iI 0 from rfl, show (1 : Int32) = iI 1 from rfl, show (2 : Int32) = iI 2 from rfl, show (3 : Int32) = iI 3 from rfl, show (4 : Int32) = iI 4 from rfl, show (5 : Int32) = iI 5 from rfl, show (6 : Int32) = iI 6 from rfl, it_eq _ _ (by omega), it_eq _ _ (by omega), it_eq _ _ (by omega), it_eq _ _ (by omega), it_eq _ _ (by omega), it_eq _ _ (by omega), it_eq _ _ (by omega), gR_at h.book, gR_at h.book, gR_at h.book, gR_at h.book, gR_at h.book, gI_at h.book, gI_at h.book]
  simp only [booF, List.getElem?_cons_zero, List.getElem?_cons_succ, Option.bind_some]
  rw [r1.is, r2.is, r3.is, r4.is, s1, s2, s3, s4, isO_at t1.1, gI_at t1.1, show (((vN u 5).toNat : Nat) : Int) = vN u 5 by omega, show (((vN u 14).toNat : Nat) : Int) = vN u 14 by omega, show (((vN u 19).toNat : Nat) : Int) = vN u 19 by omega, show (((vN u 23).toNat : Nat) : Int) = vN u 23 by omega]
  simp only [List.getElem?_cons_zero, List.getElem?_cons_succ, Option.bind_some, if_true, u1_iI, z_answer h, fineKb, noKb]
end QO
