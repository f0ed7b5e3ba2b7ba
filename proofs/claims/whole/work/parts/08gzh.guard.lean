/-! LOAN: the joint state: what both sides read of it -/
section GSR
variable {B : Nat} {S : Nat → Nat} {L : Mem} {x0 : Nat} {ad rho rh pa : Nat → Nat} {xl : Nat → List Nat} {MK M1 M : Mem} {uS u1 u : MS} {sz zz l P a0 : Nat} {ct : Nat → List Nat}
theorem worthS_bnd {xl : Nat → List Nat} (hI : Inv u xl) (q p d : Int) : 0 ≤ worthS u q p d ∧ worthS u q p d ≤ 200000 := by
  have n5 := hI.n5
  have := sumI_bnd (fun t => if packP u q p t = true then valS u t d else 0) 9999 (vN u 5).toNat 0 (fun k k1 k2 => by
    have := valS_rng hI k.toNat (by omega) d
    rw [show ((k.toNat : Nat) : Int) = k by omega] at this
    show 0 ≤ (if packP u q p k = true then valS u k d else 0) ∧ (if packP u q p k = true then valS u k d else 0) ≤ 9999
    split <;> omega)
  have e : worthS u q p d = sumI (fun t => if packP u q p t = true then valS u t d else 0) (vN u 5).toNat 0 := rfl
  omega
theorem GS.frm (F : Fix B S L x0 ad rho xl MK M1 uS u1 sz zz rh ct l P) (h : GS S ad rho M1 u1 rh a0 pa ct l P u M) {y : Nat} (h0 : rho y ≠ 0) (h7 : rho y < 7000 ∨ 8000 ≤ rho y) : M y = M1 y := by
  obtain ⟨hI, h23, hv, hsm⟩ := h.inv F
  have n19 := hI.n19
  rw [h.1.vn] at n19
  obtain ⟨⟨K, IS⟩, -, -, own, -⟩ := F
  exact h.2.1 y (own.lo (Or.inl (K.1.2 y h0).2)) (fun c hc => by omega)
theorem GS.frK (F : Fix B S L x0 ad rho xl MK M1 uS u1 sz zz rh ct l P) (h : GS S ad rho M1 u1 rh a0 pa ct l P u M) {y : Nat} (h1 : 1 < rho y) (h7 : rho y < 7000 ∨ 8000 ≤ rho y) : M y = MK y := by
  rw [h.frm F (by omega) h7]
  exact (F.2.2.2.2.2.2.2.2.1 y (fun e => by
    have := F.1.1.2.1.1.2
    rw [e, this] at h1
    omega)).symm
theorem GS.thi (F : Fix B S L x0 ad rho xl MK M1 uS u1 sz zz rh ct l P) (h : GS S ad rho M1 u1 rh a0 pa ct l P u M) {i : Nat} (hi : i < (vN u 5).toNat) : ThiR S ad rho xl M u i := by
  obtain ⟨hI, h23, hv, hsm⟩ := h.inv F
  have n5 := hI.n5
  have kp : ∀ id, 1 < id → (id < 7000 ∨ 8000 ≤ id) → Kept MK rho id M rho := fun id i0 i1 y hy => ⟨h.frK F (by omega) (by omega), hy⟩
  obtain ⟨⟨K, IS⟩, -⟩ := F
  exact (K.thi (by rw [← hv]; exact hi)).sm hsm IS (hv 23) (by rw [← hv]; exact hi) (kp _ (by omega) (by omega)) (kp _ (by omega) (by omega)) (kp _ (by omega) (by omega)) (kp _ (by omega) (by omega)) ⟨rfl, rfl, rfl, rfl⟩ ⟨rfl, rfl⟩ (fun _ _ => rfl)
theorem GS.loaQ (F : Fix B S L x0 ad rho xl MK M1 uS u1 sz zz rh ct l P) (h : GS S ad rho M1 u1 rh a0 pa ct l P u M) : LoaQ M u l a0 ∧ ∃ b r, M a0 = some (.inl (7, .ref b :: r)) ∧ (gI M (some b) 6 0 = some (iI (wayS u l)) ∧ gI M (some b) 6 1 = some (iI (vR u 16 (vR u 25 l).toNat)) ∧ gI M (some b) 6 2 = some (iI (vR u 17 (vR u 25 l).toNat))) := by
  obtain ⟨hI, h23, hv, hsm⟩ := h.inv F
  have h25 : 0 ≤ vR u 25 l ∧ vR u 25 l < vN uS 14 := by
    rw [h.1.vr (by decide)]
    exact F.2.2.2.2.1.2.2
  have hfr := fun (y : Nat) h0 h7 => h.frK F (y := y) h0 h7
  obtain ⟨⟨K, IS⟩, -⟩ := F
  have n14 := IS.n14
  obtain ⟨q, d1, -⟩ := h.2.2.1.1
  have hi : (vR u 25 l).toNat < (vN uS 14).toNat := by omega
  obtain ⟨w, g1, -⟩ := K.hou hi
  have gM := (hfr _ (by rw [g1.2]; omega) (by rw [g1.2]; omega)).trans g1.1
  rw [← hsm.2.2.1 _ hi 15 (by omega) (by omega), ← hsm.2.2.1 _ hi 16 (by omega) (by omega), ← hsm.2.2.1 _ hi 17 (by omega) (by omega), ← hsm.2.2.1 _ hi 18 (by omega) (by omega)] at gM
  refine ⟨⟨_, _, _, _, d1.1, gM⟩, _, _, d1.1, ?_, ?_, ?_⟩
  · have : gI M (some (ad (5000 + (vR u 25 l).toNat))) 6 0 = some (u.2 15 (vR u 25 l).toNat) := gI_at gM
    rw [this, u2_iI]
    rfl
  · have : gI M (some (ad (5000 + (vR u 25 l).toNat))) 6 1 = some (u.2 16 (vR u 25 l).toNat) := gI_at gM
    rw [this, u2_iI]
  · have : gI M (some (ad (5000 + (vR u 25 l).toNat))) 6 2 = some (u.2 17 (vR u 25 l).toNat) := gI_at gM
    rw [this, u2_iI]
theorem GS.worth (F : Fix B S L x0 ad rho xl MK M1 uS u1 sz zz rh ct l P) (h : GS S ad rho M1 u1 rh a0 pa ct l P u M) {p : Nat} (hp : p < P) (n : Nat) (hn : 60 ≤ n) {d : Int} (hd : 0 ≤ d ∧ d ≤ 2000) : isO M (some (pa p)) 8 = true ∧ f_X5_worthOn n M (some (pa p)) (iI d) = some (iI (worthS u1 l p d)) ∧ f_X12_worthOf n u (iI l) (iI p) (iI d) = some (iI (worthS u1 l p d)) := by
  obtain ⟨hI, h23, hv, hsm⟩ := h.inv F
  have n5 := hI.n5
  have hT := fun (i : Nat) (hi : i < (vN u 5).toNat) => h.thi F hi
  have hF := h.1.parf (F.2.2.2.2.2.2.1 p)
  have hl := F.2.2.1.2
  have hP := F.2.2.2.2.2.1.2
  obtain ⟨c, c1, c2⟩ := h.2.2.1.2 p hp
  have ew : worthS u l p d = sumN (fun t => valS u t d) (ct p) := by
    have hF2 := hF
    unfold ParF at hF2
    rw [sumN_perm _ hF2, sumN_sel]
    unfold worthS
    exact sumI_congr (fun k h1 h2 => by rw [show ((k.toNat : Nat) : Int) = k by omega])
  refine ⟨isO_at c1.1, ?_, ?_⟩
  · rw [← h.1.worth, ew]
    refine z_worth c1.1 rfl c2 (fun t ht => ?_) n hn (iI d) (fun t => valS u t d) (fun t ht => ?_)
    · obtain ⟨⟨w, g1, -⟩, -⟩ := hT t ((hF.mem t).mp ht).1
      exact ⟨_, g1.1⟩
    · have ht2 := ((hF.mem t).mp ht).1
      exact z_valueOn (hT t ht2) (hI.app t ht2) (fun j hj => (hI.apday j hj).1) n hn d (by omega)
  · rw [← h.1.worth]
    exact t_worthOf n u l p d (by omega) (by omega) (by omega) n5 hI.n10 hn
theorem GS.next (F : Fix B S L x0 ad rho xl MK M1 uS u1 sz zz rh ct l P) (h : GS S ad rho M1 u1 rh a0 pa ct l P u M) {w s : Int} (hs : (w = 0 ∧ s = 1) ∨ (w = 1 ∧ s = 3)) (n : Nat) (hn : 2100 ≤ n) (x2 : Int32) (hG : ∀ p : Nat, p < P → (vR u 40 p = 0 ↔ (vR u (if s = 1 then 31 else 32) (l * 16 + p) = -1 ∧ vR u 17 (vR u 25 l).toNat < worthS u1 l p (dayS u l s)))) : ∃ r : Int, (r = -1 ∨ (0 ≤ r ∧ r < P ∧ vR u 40 r.toNat = 0)) ∧ f_X12_areGuarded_L67 n u (iI l) x2 (iI (dayS u l s)) n (-1 : Int32) (0 : Int32) = some (iI r) ∧ f_X4_nextToGuard n M (some a0) (iI w) = some (if r < 0 then none else some (pa r.toNat)) := by
  obtain ⟨hI, h23, hv, hsm⟩ := h.inv F
  obtain ⟨k1, k2, k3, k4⟩ := h.slot F
  obtain ⟨⟨dr1, dr2⟩, dr3⟩ := day_rng (u := u) (l := l) (s := s) (by omega) k1 k4
  obtain ⟨hq, b, r0, hb, -, -, b3⟩ := h.loaQ F
  have hI1 := F.2.1.2.2
  obtain ⟨q, d1, d2⟩ := h.2.2.1.1
  have hf := hq.firstOf w (by omega)
  have ed : (if w = 0 then vR u 26 l else vR u 26 l + wayS u l + vR u 27 l) = dayS u l s := by
    unfold dayS
    rcases hs with ⟨rfl, rfl⟩ | ⟨rfl, rfl⟩ <;> rfl
  rw [ed] at hf
  obtain ⟨r, z1, z2, z3⟩ := j_next (u := u) (M := M) (pa := pa) (d0 := dayS u l s) (lim := vR u 17 (vR u 25 l).toNat) (W := fun p => worthS u1 l p (dayS u l s)) (R := fun p => vR u (if s = 1 then 31 else 32) (l * 16 + p)) F.2.2.1.2 F.2.2.2.2.2.1.2 k3 d1.1 rfl d2 n w x2 hf (fun p hp => by
    obtain ⟨a1, a2, a3⟩ := h.worth F hp n (by omega) (d := dayS u l s) (by omega)
    refine ⟨a1, a2, ?_, a3⟩
    obtain ⟨c, c1, -⟩ := h.2.2.1.2 p hp
    rw [z_courierOn c1.1 w (by omega), u2_iI, u2_iI]
    rcases hs with ⟨rfl, rfl⟩ | ⟨rfl, rfl⟩ <;> rfl) (fun p => by
    have := worthS_bnd hI1 l p (dayS u l s)
    omega) (fun p => vR_rng _ _ _) (vR_rng _ _ _) hG n 0 (-1) (Nat.zero_le _) (by have := F.2.2.2.2.2.1.2; omega) (Or.inl rfl)
  refine ⟨r, z1, z2, ?_⟩
  have e0 : gR M (some a0) 7 0 = some (some b) := gR_at hb
  unfold f_X4_nextToGuard
  rw [e0]
  simp only [Option.bind_some]
  rw [b3]
  exact z3
end GSR
