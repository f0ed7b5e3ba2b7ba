/-! LOAN: one more loan: what holds of the reference's state -/
section GDN
variable {B : Nat} {S : Nat → Nat} {L : Mem} {x0 : Nat} {ad rho rh pa : Nat → Nat} {xl xl1 : Nat → List Nat} {MK M1 M M0 : Mem} {uS u1 u : MS} {sz zz l P a0 : Nat} {ct : Nat → List Nat}
def dnU (u : MS) (l : Nat) : MS := uI u 23 (iI ((l : Int) + 1))
theorem dnU_vn (u : MS) (l : Nat) (hl : l < 17) (k : Nat) : vN (dnU u l) k = if k = 23 then (l : Int) + 1 else vN u k := vN_uI _ _ _ _ (by omega)
def FreeF (u uS : MS) (l : Nat) : Prop := ∀ t : Nat, t < (vN uS 5).toNat → hadS u l t = true → ∀ d, vR u 26 l ≤ d → d ≤ vR u 26 l + lenS u l - 1 → loanS uS t d = -1
theorem GS.ln (F : Fix B S L x0 ad rho xl MK M1 uS u1 sz zz rh ct l P) (h : GS S ad rho M1 u1 rh a0 pa ct l P u M) (hfree : FreeF u uS l) {t : Nat} (ht : t < (vN uS 5).toNat) (d : Int) : loanS (dnU u l) t d = tkF u uS l t d := by
  obtain ⟨hI, h23, hv, hsm⟩ := h.inv F
  obtain ⟨k1, k2, k3, k4⟩ := h.slot F
  have IS := F.1.2
  have f4 := F.2.2.1.1
  have hl := F.2.2.1.2
  have hs : Same uS (dnU u l) := hsm
  have eo : fstI (onL (dnU u l) t d) l 0 = loanS uS t d := by
    unfold loanS
    rw [show (vN uS 23).toNat = l by omega]
    exact fstI_congr (fun k q1 q2 => by
      have := hs.onq IS (l := k.toNat) (by omega) t d
      rw [show ((k.toNat : Nat) : Int) = k by omega] at this
      exact this)
  have en : onL (dnU u l) t d l = (hadS u l t && decide (vR u 26 l ≤ d ∧ d ≤ vR u 26 l + lenS u l - 1)) := by
    have e : onL (dnU u l) t d l = onL u t d l := rfl
    rw [e]
    unfold onL
    rw [Int.toNat_natCast, decide_eq_true k2, Bool.true_and]
  have hr := fstI_rng (onL uS t d) (vN uS 23).toNat 0 (by omega)
  have er : loanS uS t d = fstI (onL uS t d) (vN uS 23).toNat 0 := rfl
  have e1 : loanS (dnU u l) t d = fstI (onL (dnU u l) t d) (l + 1) 0 := by
    unfold loanS
    rw [dnU_vn u l hl, if_pos rfl, show ((l : Int) + 1).toNat = l + 1 by omega]
  rw [e1, fstI_last _ _ _ (by omega), eo, Int.zero_add, en]
  unfold tkF
  by_cases c : hadS u l t = true ∧ vR u 26 l ≤ d ∧ d ≤ vR u 26 l + lenS u l - 1
  · have := hfree t ht c.1 d c.2.1 c.2.2
    rw [if_pos c, this, if_neg (by decide), c.1, decide_eq_true c.2, if_pos (by rfl)]
  · have e2 : (hadS u l t && decide (vR u 26 l ≤ d ∧ d ≤ vR u 26 l + lenS u l - 1)) = false := by
      rw [Bool.eq_false_iff]
      intro z
      rw [Bool.and_eq_true, decide_eq_true_eq] at z
      exact c z
    rw [if_neg c, e2, if_neg (show ¬ false = true by decide)]
    by_cases z : 0 ≤ loanS uS t d
    · rw [if_pos z]
    · rw [if_neg z]
      omega
theorem GS.calF (F : Fix B S L x0 ad rho xl MK M1 uS u1 sz zz rh ct l P) (h : GS S ad rho M1 u1 rh a0 pa ct l P u M) (hfree : FreeF u uS l) : CalF (dnU u l) ((l : Int) + 1) := by
  obtain ⟨hI, h23, hv, hsm⟩ := h.inv F
  obtain ⟨k1, k2, k3, k4⟩ := h.slot F
  obtain ⟨g1, g2, g3⟩ := h.2.2.2.2.1
  have IS := F.1.2
  have n5 := IS.n5
  have f4 := F.2.2.1.1
  have hl := F.2.2.1.2
  have hs : Same uS (dnU u l) := hsm
  have v5 : vN (dnU u l) 5 = vN uS 5 := (dnU_vn u l hl 5).trans (hv 5)
  have v19 : vN (dnU u l) 19 = vN uS 19 := (dnU_vn u l hl 19).trans (hv 19)
  obtain ⟨o1, o2, o3, o4⟩ := CalF.sm hs IS (by omega) (by omega)
  rw [f4] at o1 o2 o3 o4
  have hno : ∀ (t : Nat) (d q2 : Int), t < (vN uS 5).toNat → 0 ≤ q2 → q2 < l → onL (dnU u l) t d l = true → onL (dnU u l) t d q2 = false := fun t d q2 ht q0 q1 ho => by
    have e : onL (dnU u l) t d l = onL u t d l := rfl
    rw [e] at ho
    unfold onL at ho
    rw [Bool.and_eq_true, Bool.and_eq_true, decide_eq_true_eq, decide_eq_true_eq, Int.toNat_natCast] at ho
    have hf := hfree t ht ho.2.1 d ho.2.2.1 ho.2.2.2
    have := hs.onq IS (l := q2.toNat) (by omega) t d
    rw [show ((q2.toNat : Nat) : Int) = q2 by omega] at this
    rw [this]
    exact fstI_neg (by omega) hf q2 q0 (by omega)
  have eb : ∀ c d q, busyP (dnU u l) c d q = busyP u c d q := fun _ _ _ => rfl
  refine ⟨fun t d q q2 ht q0 q1 r0 r1 h1 h2 => ?_, fun c d q q2 hc q0 q1 r0 r1 h1 h2 => ?_, fun c d q hc q0 q1 h1 => ?_, fun c q hc q0 q1 => ?_⟩
  · by_cases e1 : q = l
    · by_cases e2 : q2 = l
      · rw [e1, e2]
      · rw [e1] at h1
        have := hno t d q2 (by omega) r0 (by omega) h1
        rw [h2] at this
        cases this
    · by_cases e2 : q2 = l
      · rw [e2] at h2
        have := hno t d q (by omega) q0 (by omega) h2
        rw [h1] at this
        cases this
      · exact o1 t d q q2 ht q0 (by omega) r0 (by omega) h1 h2
  · by_cases e1 : q = l
    · by_cases e2 : q2 = l
      · rw [e1, e2]
      · rw [e1] at h1
        have := g1 c d q2 (by rw [hv]; omega) r0 (by omega) h1
        have h2' : busyP u c d q2 = true := h2
        rw [h2'] at this
        cases this
    · by_cases e2 : q2 = l
      · rw [e2] at h2
        have := g1 c d q (by rw [hv]; omega) q0 (by omega) h2
        have h1' : busyP u c d q = true := h1
        rw [h1'] at this
        cases this
      · exact o2 c d q q2 hc q0 (by omega) r0 (by omega) h1 h2
  · by_cases e1 : q = l
    · rw [e1] at h1
      exact g2 c d (by rw [hv]; omega) h1
    · exact o3 c d q hc q0 (by omega) h1
  · by_cases e1 : q = l
    · rw [e1]
      exact g3 c (by rw [hv]; omega)
    · exact o4 c q hc q0 (by omega)
theorem GS.invD (F : Fix B S L x0 ad rho xl MK M1 uS u1 sz zz rh ct l P) (h : GS S ad rho M1 u1 rh a0 pa ct l P u M) (hl15 : l ≤ 15) (hfree : FreeF u uS l) (h24 : vR u 24 l = 1) (hpk : ∀ t : Nat, t < 16 → hadS u l t = true → t < (vN uS 5).toNat ∧ 0 ≤ vR u 30 (l * 16 + t) ∧ vR u 30 (l * 16 + t) < P) (hxO : ∀ id, ¬ (9000 + l * 16 ≤ id ∧ id < 9000 + l * 16 + 16) → xl1 id = xl id) (hxP : ∀ p, p < 16 → xl1 (9000 + (l * 16 + p)) = ct p) : Inv (dnU u l) xl1 := by
  obtain ⟨hI, h23, hv, hsm⟩ := h.inv F
  obtain ⟨k1, k2, k3, k4⟩ := h.slot F
  have hpf := fun p => h.1.parf (F.2.2.2.2.2.2.1 p)
  have hP := F.2.2.2.2.2.1.2
  have h6 := h.2.2.2.2.2
  have hcal := h.calF F hfree
  have IS := F.1.2
  have n5 := IS.n5
  have n14 := IS.n14
  have n19 := IS.n19
  have n33 := IS.n33
  have f4 := F.2.2.1.1
  have hl := F.2.2.1.2
  have hs : Same uS (dnU u l) := hsm
  have hvd : ∀ k, k ≠ 23 → vN (dnU u l) k = vN uS k := fun k hk => by
    rw [dnU_vn u l hl, if_neg hk, hv]
  have v23 : vN (dnU u l) 23 = (l : Int) + 1 := by rw [dnU_vn u l hl, if_pos rfl]
  have v5 := hvd 5 (by decide)
  have v14 := hvd 14 (by decide)
  have v19 := hvd 19 (by decide)
  have v33 := hvd 33 (by decide)
  have h25 : 0 ≤ vR u 25 l ∧ vR u 25 l < vN uS 14 := by
    rw [h.1.vr (by decide)]
    exact F.2.2.2.2.1.2.2
  have h19u : vN u1 19 = vN uS 19 := by rw [← h.1.vn, hv]
  refine ⟨⟨?_, fun i hi => ?_, fun j hj => ?_, fun i hi => ?_, fun c hc => ?_⟩, ⟨fun q hq => ?_, fun r hr => ?_⟩, ⟨fun i hi => ?_, fun q hq p hp => ?_, fun r hr => ?_⟩, by rw [v23]; exact hcal⟩
  · have := IS.num
    unfold NumOK at this ⊢
    rw [hvd 1 (by decide), v5, hvd 10 (by decide), v14, v19, v23, v33]
    refine ⟨this.1, this.2.1, this.2.2.1, this.2.2.2.1, this.2.2.2.2.1, by omega, this.2.2.2.2.2.2⟩
  · exact ThiOK.sm hs (by omega) (IS.thi i (by omega))
  · have := IS.apt j (by rw [← hvd 10 (by decide)]; exact hj)
    unfold AptOK vR at this ⊢
    rw [v5, hs.1.2.1, hs.1.2.2.1, hs.1.2.2.2]
    exact this
  · exact HouK.sm hs (by omega) (IS.houk i (by omega))
  · exact SpnK.sm hs (by omega) (IS.spn c (by omega))
  · rw [v23] at hq
    by_cases e : q = l
    · subst e
      refine ⟨k1, ?_, ⟨h25.1, by rw [v14]; exact h25.2⟩, Or.inr h24, fun t ht hh => ?_, fun p hp => ?_⟩
      · show 0 ≤ vR u 29 (q : Int).toNat ∧ vR u 29 (q : Int).toNat ≤ 16
        rw [Int.toNat_natCast, k3]
        omega
      · have := hpk t ht hh
        rw [v5]
        refine ⟨this.1, this.2.1, ?_⟩
        show vR u 30 (q * 16 + t) < vR u 29 q
        rw [k3]
        exact this.2.2
      · have hp2 : p < P := by
          have hp' : p < (vR u 29 q).toNat := hp
          rw [k3] at hp'
          omega
        have := h6 p hp2
        rw [v19, ← h19u]
        exact this
    · exact LoaK.sm hs IS (by omega) (by omega) (by omega) (by omega)
  · exact RptK.sm hs IS (by omega) (by omega)
  · rw [hxO _ (by omega), hxO _ (by omega)]
    exact ⟨(IS.app i (by omega)).sm hs, (IS.rps i (by omega)).sm hs v33⟩
  · rw [v23] at hq
    by_cases e : q = l
    · subst e
      have hp' : p < (vR u 29 q).toNat := hp
      rw [k3] at hp'
      rw [hxP p (by omega)]
      have hF := hpf p
      unfold ParF at hF ⊢
      rw [v5, ← hv]
      exact hF
    · have hq2 : q < (vN uS 23).toNat := by omega
      have h16 := IS.par q hq2
      have e29 : vR (dnU u l) 29 q = vR uS 29 q := hs.lo hq2 29 (by omega) (by omega)
      rw [e29] at hp
      rw [hxO _ (by omega)]
      exact (IS.parf q p hq2 hp).sm hs IS (by omega) hq2
  · rw [hxO _ (by omega)]
    exact (IS.harf r (by omega)).sm hs IS (by omega)
end GDN
