/-! LOAN: the joint state when a courier is taken -/
section GST
variable {B : Nat} {S : Nat → Nat} {L : Mem} {x0 : Nat} {ad rho rh pa : Nat → Nat} {xl : Nat → List Nat} {MK M1 M : Mem} {uS u1 u : MS} {sz zz l P a0 : Nat} {ct : Nat → List Nat}
theorem GS.inv (F : Fix B S L x0 ad rho xl MK M1 uS u1 sz zz rh ct l P) (h : GS S ad rho M1 u1 rh a0 pa ct l P u M) : Inv u xl ∧ vN u 23 = (l : Int) ∧ (∀ k, vN u k = vN uS k) ∧ Same uS u := by
  obtain ⟨-, ⟨f1, f2, f3⟩, ⟨f4, f5⟩, -⟩ := F
  have hv : ∀ k, vN u1 k = vN uS k := fun k => by
    unfold vN
    rw [f2]
  have hs := h.1.same (by rw [hv, f4]; omega)
  refine ⟨Inv.sm0 hs h.1.1 f3, ?_, fun k => by rw [h.1.vn, hv], f1.trans f2 hs⟩
  rw [h.1.vn, hv]
  exact f4
theorem GS.slot (F : Fix B S L x0 ad rho xl MK M1 uS u1 sz zz rh ct l P) (h : GS S ad rho M1 u1 rh a0 pa ct l P u M) : LoanOK u l ∧ vR u 24 l ≠ 0 ∧ vR u 29 l = P ∧ vR u 26 l + lenS u l ≤ 1000 := by
  obtain ⟨-, -, -, -, ⟨f1, f2, -⟩, ⟨f3, -⟩, -, f4, -⟩ := F
  refine ⟨h.1.loanOK f1, ?_, ?_, ?_⟩
  · rw [h.1.vr (by decide)]
    exact f2
  · rw [h.1.vr (by decide)]
    exact f3
  · rw [h.1.vr (by decide), h.1.len]
    exact f4
theorem day_rng {s : Int} (hs : s = 1 ∨ s = 3) (hk : LoanOK u l) (he : vR u 26 l + lenS u l ≤ 1000) : (0 ≤ dayS u l s ∧ dayS u l s + wayS u l ≤ 1000) ∧ 1 ≤ wayS u l ∧ wayS u l ≤ 30 := by
  obtain ⟨o1, o2, o3, o4⟩ := hk
  simp only [Int.toNat_natCast] at o1 o2 o3 o4
  have hlen : lenS u l = 2 * vR u 15 (vR u 25 l).toNat + vR u 27 l := by simp only [lenS, Int.toNat_natCast]
  have hway : wayS u l = vR u 15 (vR u 25 l).toNat := by simp only [wayS, Int.toNat_natCast]
  unfold dayS
  rw [hway]
  rcases hs with rfl | rfl
  · rw [if_pos rfl]
    omega
  · rw [if_neg (show ¬ (3 : Int) = 1 by decide)]
    omega
theorem GS.step (F : Fix B S L x0 ad rho xl MK M1 uS u1 sz zz rh ct l P) (h : GS S ad rho M1 u1 rh a0 pa ct l P u M) {w s : Int} (hs : (w = 0 ∧ s = 1) ∨ (w = 1 ∧ s = 3)) {o c : Nat} (ho : o < P) (hm : vR u (if s = 1 then 31 else 32) (l * 16 + o) = -1) (hc : c < (vN u1 19).toNat) (hr : readyS u c (dayS u l s) (wayS u l) ((l : Int) + 1) = true) (n : Nat) (hn : 1100 ≤ n) : ∃ Mx M2, f_X1_take B n M (some (ad (7000 + c))) (iI (dayS u l s)) (iI (dayS u l s + wayS u l - 1)) (iI l) = some Mx ∧ f_X5_guardBy B Mx (some (pa o)) (iI c) (iI w) = some M2 ∧ isO Mx (some (pa o)) 8 = true ∧ Mx (ad (6000 + c)) = M1 (ad (6000 + c)) ∧ GS S ad rho M1 u1 rh a0 pa ct l P (guU u l o s c) M2 := by
  have hs2 : s = 1 ∨ s = 3 := by omega
  obtain ⟨hI, h23, hv, hsm⟩ := h.inv F
  obtain ⟨k1, k2, k3, k4⟩ := h.slot F
  obtain ⟨⟨dr1, dr2⟩, dr3⟩ := day_rng (u := u) (l := l) hs2 k1 k4
  obtain ⟨⟨K, IS⟩, ⟨-, f2, f3⟩, ⟨f4, f5⟩, own, ⟨-, -, f6⟩, ⟨-, hP⟩, -⟩ := F
  have hvn := h.1.vn
  have n19 := hI.n19
  have hc' : c < (vN u 19).toNat := by rw [hvn]; exact hc
  obtain ⟨h1, h2, ⟨⟨q, d1, d2⟩, d3⟩, h4, h5, h6⟩ := h
  have hrh : ∀ y, rh y ≠ 0 → rho y = 0 := fun y hy => K.no0 (Or.inr (own y hy).1.1)
  obtain ⟨Mx, t1, t2, t3⟩ := (h4 c hc).take (B := B) (fun y hy => (K.1.2 y (by omega)).1) n hn (dayS u l s) (dayS u l s + wayS u l - 1) (by omega) (by omega) (l : Int)
  obtain ⟨cc, p1, p2⟩ := d3 o ho
  have hpo : rh (pa o) = 10 + 2 * o := p1.2
  have hpa := own (pa o) (by omega)
  have hxl := K.xlt
  have hMx : Mx (pa o) = some (.inl (8, [.int (iI (sumN (fun t => vR u 8 t) (ct o))), .ref cc, .int (u.2 31 (l * 16 + o)), .int (u.2 32 (l * 16 + o))])) := by
    rw [t2 _ (by rw [hrh _ (by omega)]; omega)]
    exact p1.1
  -- the guard's field
  obtain ⟨M2, g1, g2, g3⟩ : ∃ M2, f_X5_guardBy B Mx (some (pa o)) (iI c) (iI w) = some M2 ∧ M2 (pa o) = some (.inl (8, [.int (iI (sumN (fun t => vR u 8 t) (ct o))), .ref cc, .int ((guU u l o s c).2 31 (l * 16 + o)), .int ((guU u l o s c).2 32 (l * 16 + o))])) ∧ ∀ y, y ≠ pa o → M2 y = Mx y := by
    rcases hs with ⟨rfl, rfl⟩ | ⟨rfl, rfl⟩
    · obtain ⟨M2, e1, e2, e3⟩ := pF_ob (show B ≤ pa o by omega) hMx 2 (.int (iI c)) (by simp)
      refine ⟨M2, ?_, ?_, e3⟩
      · unfold f_X5_guardBy
        rw [if_pos (show iI 0 = (0 : Int32) from rfl), e1]
        rfl
      · rw [e2, guU_2, guU_2, if_pos ⟨rfl, rfl⟩, if_neg (by simp), if_neg (by simp)]
        rfl
    · obtain ⟨M2, e1, e2, e3⟩ := pF_ob (show B ≤ pa o by omega) hMx 3 (.int (iI c)) (by simp)
      refine ⟨M2, ?_, ?_, e3⟩
      · unfold f_X5_guardBy
        rw [if_neg (show ¬ iI 1 = (0 : Int32) by decide), e1]
        rfl
      · rw [e2, guU_2, guU_2, if_neg (by simp), if_neg (by simp), if_pos ⟨rfl, rfl⟩]
        rfl
  have fr : ∀ y, rho y ≠ 7000 + c → y ≠ pa o → M2 y = M y := fun y y1 y2 => by rw [g3 y y2, t2 y y1]
  have kp : ∀ id, id ≠ 0 → id ≠ 10 + 2 * o → Kept M rh id M2 rh := fun id i1 i2 y hy => ⟨fr y (by rw [hrh y (by omega)]; omega) (fun e => by rw [e, hpo] at hy; omega), hy⟩
  have ho' : (o : Int) < vR u 29 l := by omega
  refine ⟨Mx, M2, t1, g1, isO_at hMx, ?_, ⟨h1.1, fun k i e1 e2 => ?_⟩, fun y y1 y2 => ?_, ⟨⟨q, ?_, d2.fr (kp 2 (by omega) (by omega))⟩, fun p hp => ?_⟩, fun c1 hc1 => ?_, SlG_gu hI h23 k1 hs2 hc' k2 ho' hm h5 hr ⟨dr1, dr2⟩, fun p hp => ?_⟩
  · obtain ⟨⟨w6, q6, -⟩, -⟩ := K.cou (i := c) (by rw [← hv]; exact hc')
    have ho6 := K.own q6 (by omega)
    rw [t2 _ (by rw [q6.2]; omega)]
    exact h2 _ (own.lo (Or.inl ho6.2)) (fun c2 hc2 => by rw [q6.2]; omega)
  · rw [guU_2, if_neg (by rcases hs2 with rfl | rfl <;> simp <;> omega), if_neg (by omega)]
    exact h1.2 k i e1 e2
  · rw [fr y (y2 c hc) (fun e => by rw [e, hpo] at y1; omega)]
    exact h2 y y1 y2
  · rw [guU_row u l o s c (by decide), guU_row u l o s c (by decide), guU_row u l o s c (by decide), guU_r u l o s c (by decide)]
    exact d1.fr (kp 1 (by omega) (by omega))
  · have e8 : (fun t => vR (guU u l o s c) 8 t) = fun t => vR u 8 t := funext fun t => guU_r u l o s c (by decide) t
    obtain ⟨c2, q1, q2⟩ := d3 p hp
    rw [e8]
    by_cases e : p = o
    · subst e
      exact ⟨cc, ⟨g2, hpo⟩, p2.fr (kp _ (by omega) (by omega))⟩
    · rw [guU_2, guU_2, if_neg (by omega), if_neg (by omega), if_neg (by omega), if_neg (by omega)]
      exact ⟨c2, q1.fr (kp _ (by omega) (by omega)), q2.fr (kp _ (by omega) (by omega))⟩
  · have ecal : ∀ d, calS (guU u l o s c) c1 ((l : Int) + 1) d = if c1 = c ∧ (dayS u l s ≤ d ∧ d ≤ dayS u l s + wayS u l - 1) then (l : Int) else calS u c1 ((l : Int) + 1) d := fun d => calS_gu hI h23 k1 hs2 hc' k2 ho' hm hr (by rw [hvn]; exact hc1) d
    have etk := takenS_gu hI h23 hs2 hc' k2 ho' hm c1
    by_cases e : c1 = c
    · subst e
      have t4 := t3.fr (M1 := M2) (rho1 := rho) (fun y hy => ⟨g3 y (fun e => by rw [e, hrh _ (by omega)] at hy; omega), hy⟩)
      refine t4.congr (fun d => ?_) ?_
      · rw [ecal]
        by_cases z : dayS u l s ≤ d ∧ d ≤ dayS u l s + wayS u l - 1
        · rw [if_pos ⟨rfl, z⟩]
          exact (if_pos z).symm
        · rw [if_neg (fun y => z y.2)]
          exact (if_neg z).symm
      · rw [etk, if_pos rfl]
        omega
    · have t4 := (h4 c1 hc1).fr (M1 := M2) (rho1 := rho) (fun y hy => ⟨fr y (by omega) (fun e => by rw [e, hrh _ (by omega)] at hy; omega), hy⟩)
      refine t4.congr (fun d => ?_) ?_
      · rw [ecal, if_neg (fun y => e y.1)]
      · rw [etk, if_neg e]
        omega
  · obtain ⟨a1, a2⟩ := h6 p hp
    rw [hvn] at n19 hc'
    have key : ∀ k : Nat, k = 31 ∨ k = 32 → (-1 ≤ vR u k (l * 16 + p) ∧ vR u k (l * 16 + p) < vN u1 19) → (-1 ≤ vR (guU u l o s c) k (l * 16 + p) ∧ vR (guU u l o s c) k (l * 16 + p) < vN u1 19) := fun k hk hq => by
      by_cases z : k = (if s = 1 then 31 else 32) ∧ l * 16 + p = l * 16 + o
      · have : vR (guU u l o s c) k (l * 16 + p) = (c : Int) := vR_eq (by rw [guU_2, if_pos z]) (by omega)
        rw [this]
        omega
      · unfold vR at hq ⊢
        rw [guU_2, if_neg z, if_neg (by omega)]
        exact hq
    exact ⟨key 31 (by omega) a1, key 32 (by omega) a2⟩
end GST
