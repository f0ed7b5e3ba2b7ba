/-! LOAN: couriers for one way, both sides, whole -/
section GSW
variable {B : Nat} {S : Nat → Nat} {L : Mem} {x0 : Nat} {ad rho rh pa : Nat → Nat} {xl : Nat → List Nat} {MK M1 M : Mem} {uS u1 u u2 : MS} {sz zz l P a0 : Nat} {ct : Nat → List Nat}
theorem t_l10 (F : Fix B S L x0 ad rho xl MK M1 uS u1 sz zz rh ct l P) {s : Int} (hs : s = 1 ∨ s = 3) (n : Nat) (hn : 2100 ≤ n) (x2 : Int32) : ∀ (k p : Nat) (u : MS), p ≤ P → P - p < k → GS S ad rho M1 u1 rh a0 pa ct l P u M → ∃ u', f_X12_areGuarded_L10 n (iI l) x2 (iI (dayS u1 l s)) k u (iI p) = some u' ∧ E40 u u' ∧ ∀ q : Nat, vR u' 40 q = if p ≤ q ∧ q < P then (if vR u 17 (vR u 25 l).toNat < worthS u1 l q (dayS u1 l s) then 0 else 1) else vR u 40 q := by
  have hl := F.2.2.1.2
  have hP := F.2.2.2.2.2.1.2
  have ql : inb (iI (l : Int)) 17 := (iI_inb _ 17 (by omega)).mpr (by omega)
  have cl : (iI (l : Int)).toNatClampNeg = l := by rw [iI_clamp _ (by omega)]; omega
  intro k
  induction k with
  | zero => intro p u _ h; omega
  | succ k ih =>
    intro p u hp hk h
    obtain ⟨k1, k2, k3, k4⟩ := h.slot F
    obtain ⟨⟨dr1, dr2⟩, dr3⟩ := day_rng (u := u) (l := l) (s := s) hs k1 k4
    rw [h.1.day, h.1.way] at dr2
    rw [h.1.day] at dr1
    rw [h.1.way] at dr3
    have hh := k1.1
    rw [Int.toNat_natCast] at hh
    have q25 : inb (u.2 25 l) 6 := by
      rw [u2_iI]
      exact (iI_inb _ 6 (by omega)).mpr (by omega)
    have c25 : (u.2 25 l).toNatClampNeg = (vR u 25 l).toNat := by
      rw [u2_iI, iI_clamp _ (by omega)]
    unfold f_X12_areGuarded_L10
    simp only [if_pos ql, cl, if_pos q25, c25]
    rw [u2_iI u 29, k3, it_le _ _ (by omega)]
    by_cases e : p = P
    · rw [if_pos (by omega)]
      exact ⟨u, rfl, ⟨rfl, fun _ _ => rfl⟩, fun q => by rw [if_neg (by omega)]⟩
    · have hlt : p < P := by omega
      have qp : inb (iI (p : Int)) 16 := (iI_inb _ 16 (by omega)).mpr (by omega)
      have cp : (iI (p : Int)).toNatClampNeg = p := by rw [iI_clamp _ (by omega)]; omega
      obtain ⟨-, -, a3⟩ := h.worth F hlt n (by omega) (d := dayS u1 l s) (by omega)
      have wb := worthS_bnd F.2.1.2.2 l p (dayS u1 l s)
      have v17 := vR_rng u 17 (vR u 25 l).toNat
      rw [if_neg (by omega), a3]
      simp only [if_pos qp, cp, Option.bind_some]
      rw [u2_iI u 17, it_lt _ _ (by omega), iI_s]
      have go : ∀ v : Int32, (v.toInt = if vR u 17 (vR u 25 l).toNat < worthS u1 l p (dayS u1 l s) then 0 else 1) → ∃ u', f_X12_areGuarded_L10 n (iI l) x2 (iI (dayS u1 l s)) k (uA u 40 p v) (iI ((p + 1 : Nat) : Int)) = some u' ∧ E40 u u' ∧ ∀ q : Nat, vR u' 40 q = if p ≤ q ∧ q < P then (if vR u 17 (vR u 25 l).toNat < worthS u1 l q (dayS u1 l s) then 0 else 1) else vR u 40 q := fun v hv => by
        have hE : E40 u (uA u 40 p v) := ⟨rfl, fun k hk => uA_n _ _ _ _ hk⟩
        obtain ⟨u', w1, w2, w3⟩ := ih (p + 1) (uA u 40 p v) (by omega) (by omega) (h.e40 hE)
        refine ⟨u', w1, ⟨w2.1.trans hE.1, fun k hk => (w2.2 k hk).trans (hE.2 k hk)⟩, fun q => ?_⟩
        rw [w3, hE.vr (by decide), hE.vr (by decide)]
        have e4 : vR (uA u 40 p v) 40 q = if q = p then v.toInt else vR u 40 q := by
          unfold vR
          rw [uA2]
          by_cases c : q = p
          · rw [if_pos ⟨rfl, c⟩, if_pos c]
          · rw [if_neg (fun z => c z.2), if_neg c]
        rw [e4]
        by_cases c : q = p
        · subst c
          rw [if_neg (by omega), if_pos rfl, if_pos (by omega)]
          exact hv
        · rw [if_neg c]
          by_cases d : p ≤ q ∧ q < P
          · rw [if_pos d, if_pos (by omega)]
          · rw [if_neg d, if_neg (by omega)]
      by_cases c : vR u 17 (vR u 25 l).toNat < worthS u1 l p (dayS u1 l s)
      · rw [if_pos c]
        exact go 0 (by rw [if_pos c]; rfl)
      · rw [if_neg c]
        exact go 1 (by rw [if_neg c]; rfl)
theorem j_way (F : Fix B S L x0 ad rho xl MK M1 uS u1 sz zz rh ct l P) {w s a : Int} (hs : (w = 0 ∧ s = 1 ∧ a = 1) ∨ (w = 1 ∧ s = 3 ∧ a = 0)) (n : Nat) (hn : 2100 ≤ n) (h : GS S ad rho M1 u1 rh a0 pa ct l P u M) (hR : ∀ p, p < P → vR u (if s = 1 then 31 else 32) (l * 16 + p) = -1) : ∃ (b : Int) (u' : MS) (M' : Mem), (b = 0 ∨ b = 1) ∧ f_X12_areGuarded n u (iI l) (iI a) = some (iI b, u') ∧ f_X11_findCouriers B n M (some x0) (some a0) (iI l) (iI w) = some (iI b, M') ∧ GS S ad rho M1 u1 rh a0 pa ct l P u' M' ∧ ∀ p : Nat, vR u' (if s = 1 then 32 else 31) (l * 16 + p) = vR u (if s = 1 then 32 else 31) (l * 16 + p) := by
  have hl := F.2.2.1.2
  have hP := F.2.2.2.2.2.1.2
  obtain ⟨k1, k2, k3, k4⟩ := h.slot F
  obtain ⟨⟨dr1, dr2⟩, dr3⟩ := day_rng (u := u) (l := l) (s := s) (by omega) k1 k4
  have hd := h.1.day s
  have hw := h.1.way l
  obtain ⟨u2, a1, a2, a3⟩ := t_l10 F (s := s) (by omega) n hn (iI a) n 0 u (Nat.zero_le _) (by omega) h
  have h2 := h.e40 a2
  have hHG : HG u1 u2 l P s := fun p hp => by
    rw [a3, if_pos ⟨Nat.zero_le _, hp⟩, a2.vr (by split <;> decide), hR p hp, a2.vr (by decide), a2.vr (by decide), a2.day, hd]
    constructor
    · intro z
      refine ⟨rfl, ?_⟩
      by_cases c : vR u 17 (vR u 25 l).toNat < worthS u1 l p (dayS u1 l s)
      · exact c
      · rw [if_neg c] at z
        omega
    · intro z
      rw [if_pos z.2]
  have hmz : mzS u2 P ≤ P := by
    have := sumI_bnd (fun p => if vR u2 40 p.toNat = 0 then 1 else 0) 1 P 0 (fun k _ _ => by
      show 0 ≤ (if vR u2 40 k.toNat = 0 then (1 : Int) else 0) ∧ (if vR u2 40 k.toNat = 0 then (1 : Int) else 0) ≤ 1
      split <;> omega)
    unfold mzS
    omega
  obtain ⟨b, u', M', w1, w2, w3, w4, w5⟩ := j_loop F hs n hn P 0 n n u2 M (by omega) hmz (by omega) (by omega) h2 hHG
  obtain ⟨hq, b0, r0, hb, b1, -, -⟩ := h.loaQ F
  refine ⟨b, u', M', w1, ?_, ?_, w4, fun p => by rw [w5, a2.vr (by split <;> decide)]⟩
  · have hf := t_firstOfWay u l a (by omega) (by omega) k1
    have ed : (if a = 0 then vR u 26 (l : Int).toNat + vR u 15 (vR u 25 (l : Int).toNat).toNat + vR u 27 (l : Int).toNat else vR u 26 (l : Int).toNat) = dayS u1 l s := by
      rw [← hd]
      unfold dayS wayS
      rw [Int.toNat_natCast]
      rcases hs with ⟨-, rfl, rfl⟩ | ⟨-, rfl, rfl⟩ <;> rfl
    rw [ed] at hf
    have a1' : f_X12_areGuarded_L10 n (iI l) (iI a) (iI (dayS u1 l s)) n u (0 : Int32) = some u2 := a1
    unfold f_X12_areGuarded
    rw [hf]
    simp only [Option.bind_some]
    rw [a1']
    simp only [Option.bind_some]
    exact w2
  · have hf := hq.firstOf w (by omega)
    have ed : (if w = 0 then vR u 26 l else vR u 26 l + wayS u l + vR u 27 l) = dayS u1 l s := by
      rw [← hd]
      unfold dayS
      rcases hs with ⟨rfl, rfl, -⟩ | ⟨rfl, rfl, -⟩ <;> rfl
    rw [ed] at hf
    have e0 : gR M (some a0) 7 0 = some (some b0) := gR_at hb
    unfold f_X11_findCouriers
    rw [if_pos hq.is, hf]
    simp only [Option.bind_some]
    rw [e0]
    simp only [Option.bind_some]
    rw [b1]
    simp only [Option.bind_some]
    rw [hw, iI_add, show (1 : Int32) = iI 1 from rfl, iI_sub]
    exact w3
end GSW
