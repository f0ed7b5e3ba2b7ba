/-! LOAN: the things' calendars -/
section GTK
variable {B : Nat} {S : Nat → Nat} {L : Mem} {x0 : Nat} {ad rho rh pa : Nat → Nat} {xl : Nat → List Nat} {MK M1 M M0 : Mem} {uS u1 u : MS} {sz zz l P a0 : Nat} {ct : Nat → List Nat}
/-- a memory in which the draft and what was told stand -/
def NMm (ad rho rh : Nat → Nat) (MK M : Mem) (x0 : Nat) (bf : List Value) (Mz : Mem) : Prop := (∀ y, rh y ≠ 0 → Mz y = M y) ∧ (∀ y, 1 < rho y → rho y ≠ 7 → (rho y < 2000 ∨ 3000 ≤ rho y) → (rho y < 7000 ∨ 8000 ≤ rho y) → Mz y = MK y) ∧ Mz x0 = some (.inl (14, bf))
theorem NMm.loaQ {bf : List Value} {Mz : Mem} (F : Fix B S L x0 ad rho xl MK M1 uS u1 sz zz rh ct l P) (h : GS S ad rho M1 u1 rh a0 pa ct l P u M) (hN : NMm ad rho rh MK M x0 bf Mz) : LoaQ Mz u l a0 := by
  obtain ⟨hI, h23, hv, hsm⟩ := h.inv F
  have h25 : 0 ≤ vR u 25 l ∧ vR u 25 l < vN uS 14 := by
    rw [h.1.vr (by decide)]
    exact F.2.2.2.2.1.2.2
  obtain ⟨⟨K, IS⟩, -⟩ := F
  have n14 := IS.n14
  obtain ⟨q, d1, -⟩ := h.2.2.1.1
  have hi : (vR u 25 l).toNat < (vN uS 14).toNat := by omega
  obtain ⟨w, g1, -⟩ := K.hou hi
  have gM := (hN.2.1 _ (by rw [g1.2]; omega) (by rw [g1.2]; omega) (by rw [g1.2]; omega) (by rw [g1.2]; omega)).trans g1.1
  rw [← hsm.2.2.1 _ hi 15 (by omega) (by omega), ← hsm.2.2.1 _ hi 16 (by omega) (by omega), ← hsm.2.2.1 _ hi 17 (by omega) (by omega), ← hsm.2.2.1 _ hi 18 (by omega) (by omega)] at gM
  exact ⟨_, _, _, _, (hN.1 a0 (by rw [d1.2]; decide)).trans d1.1, gM⟩
theorem NMm.parcel {bf : List Value} {Mz : Mem} (F : Fix B S L x0 ad rho xl MK M1 uS u1 sz zz rh ct l P) (h : GS S ad rho M1 u1 rh a0 pa ct l P u M) (hN : NMm ad rho rh MK M x0 bf Mz) (hall : ∀ t : Nat, t < (vN uS 5).toNat → hadS u l t = true → ∃ p, p < P ∧ t ∈ ct p) (n : Nat) (hn : 60 ≤ n) {t : Nat} (ht : t < (vN uS 5).toNat) : ∃ r : Int, f_X4_parcelWith n Mz (some a0) (iI t) = some (iI r) ∧ ((r = -1 ∧ hadS u l t = false) ∨ (0 ≤ r ∧ r < 20 ∧ hadS u l t = true)) := by
  obtain ⟨hI, h23, hv, hsm⟩ := h.inv F
  have n5 := hI.n5
  rw [hv] at n5
  have hpf := fun p => h.1.parf (F.2.2.2.2.2.2.1 p)
  have hP := F.2.2.2.2.2.1.2
  obtain ⟨⟨K, IS⟩, -⟩ := F
  obtain ⟨⟨q, d1, d2⟩, d3⟩ := h.2.2.1
  have kp : ∀ id, id ≠ 0 → Kept M rh id Mz rh := fun id i0 y hy => ⟨hN.1 y (by omega), hy⟩
  have hl2 : LisR S Mz rh 2 q (seqA pa 0 (P : Int)) := by
    have e : seqA pa 0 (P : Int) = (List.range P).map pa := by
      unfold seqA
      rw [Int.toNat_natCast]
      exact List.map_congr_left (fun i _ => by rw [Nat.zero_add])
    rw [e]
    exact d2.fr (kp 2 (by decide))
  refine ⟨_, z_parcelWith (d1.fr (kp 1 (by decide))).1 rfl (by omega) hl2 n hn (iI t) (fun p => (ct p.toNat).any (fun x => decide ((x : Int) = t))) (fun p hp => ?_), ?_⟩
  · rw [Int.toNat_natCast] at hp
    obtain ⟨c, c1, c2⟩ := d3 p hp
    have c1' := c1.fr (kp _ (by omega))
    rw [Nat.zero_add]
    refine ⟨isO_at c1'.1, ?_⟩
    have := z_holds c1'.1 rfl (c2.fr (kp _ (by omega))) (fun x hx => ?_) (fun x hx => ?_) n hn t (by omega)
    · rw [this]
      rfl
    · have hx2 := ((hpf p).mem x).mp hx
      obtain ⟨⟨w, g1, -⟩, -⟩ := K.thi (i := x) (by rw [← hv]; exact hx2.1)
      have hxb := hx2.1
      rw [hv] at hxb
      exact ⟨_, (hN.2.1 _ (by rw [g1.2]; omega) (by rw [g1.2]; omega) (by rw [g1.2]; omega) (by rw [g1.2]; omega)).trans g1.1⟩
    · have := ((hpf p).mem x).mp hx
      rw [hv] at this
      omega
  · have hr := fstI_rng (fun p => (ct p.toNat).any (fun x => decide ((x : Int) = t))) (P : Int).toNat 0 (by omega)
    rcases hr with e | ⟨e1, e2, e3⟩
    · left
      refine ⟨e, ?_⟩
      by_cases c : hadS u l t = true
      · obtain ⟨p, hp, hx⟩ := hall t ht c
        have := fstI_neg (by omega) e p (by omega) (by omega)
        rw [Int.toNat_natCast] at this
        rw [Bool.eq_false_iff] at this
        exact absurd (List.any_eq_true.mpr ⟨t, hx, by simp⟩) this
      · simpa using c
    · right
      refine ⟨e1, by omega, ?_⟩
      obtain ⟨x, x1, x2⟩ := List.any_eq_true.mp e3
      have hx3 : x = t := by
        have := of_decide_eq_true x2
        omega
      rw [hx3] at x1
      have := (((hpf _).mem t).mp x1).2
      unfold packP at this
      rw [Bool.and_eq_true] at this
      exact this.1
def tkF (u uS : MS) (l t : Nat) : Int → Int := fun d => if hadS u l t = true ∧ vR u 26 l ≤ d ∧ d ≤ vR u 26 l + lenS u l - 1 then (l : Int) else loanS uS t d
theorem GS.take (F : Fix B S L x0 ad rho xl MK M1 uS u1 sz zz rh ct l P) (h : GS S ad rho M1 u1 rh a0 pa ct l P u M) (hall : ∀ t : Nat, t < (vN uS 5).toNat → hadS u l t = true → ∃ p, p < P ∧ t ∈ ct p) (n : Nat) (hn : 2100 ≤ n) {st rp ap lf ls : Int32} : ∀ (k i : Nat) (Mz : Mem), i ≤ (vN uS 5).toNat → (vN uS 5).toNat - i < k → NMm ad rho rh MK M x0 (booF ad st rp ap lf ls) Mz → (∀ t, t < i → ∃ tk, CalR Mz rho (2000 + t) (ad (2000 + t)) (tkF u uS l t) tk) → (∀ t, i ≤ t → t < (vN uS 5).toNat → ∃ tk, CalR Mz rho (2000 + t) (ad (2000 + t)) (loanS uS t) tk) → ∃ M2, f_X11_takeThings_L2 B n (some x0) (some a0) (iI l) k Mz (iI i) = some M2 ∧ (∀ t, t < (vN uS 5).toNat → ∃ tk, CalR M2 rho (2000 + t) (ad (2000 + t)) (tkF u uS l t) tk) ∧ ∀ y, (∀ t, t < (vN uS 5).toNat → rho y ≠ 2000 + t) → M2 y = Mz y := by
  obtain ⟨hI, h23, hv, hsm⟩ := h.inv F
  obtain ⟨k1, k2, k3, k4⟩ := h.slot F
  have n5 := hI.n5
  rw [hv] at n5
  have hK := F.1.1
  have hlo : 0 ≤ vR u 26 l ∧ 1 ≤ lenS u l := by
    obtain ⟨o1, o2, o3, o4⟩ := k1
    simp only [Int.toNat_natCast] at o1 o2 o3 o4
    have hlen : lenS u l = 2 * vR u 15 (vR u 25 l).toNat + vR u 27 l := by simp only [lenS, Int.toNat_natCast]
    omega
  intro k
  induction k with
  | zero => intro i Mz _ hk; omega
  | succ k ih =>
    intro i Mz hi hk hN hdone hold
    have hq := hN.loaQ F h
    have h4 : LisR S Mz rho 4 (ad 4) (seqA ad 1000 (vN uS 5)) := (hK.rows.1).fr (fun y hy => ⟨hN.2.1 y (by omega) (by omega) (by omega) (by omega), hy⟩)
    have es := h4.size
    rw [seqA_len] at es
    unfold f_X11_takeThings_L2
    rw [(bk hN.2.2).2.2.1]
    simp only [Option.bind_some]
    rw [if_pos h4.is, es]
    simp only [Option.bind_some]
    rw [it_le _ _ (by omega)]
    by_cases e : i = (vN uS 5).toNat
    · rw [if_pos (by omega)]
      exact ⟨Mz, rfl, fun t ht => hdone t (by omega), fun _ _ => rfl⟩
    · have hlt : i < (vN uS 5).toNat := by omega
      have hget := h4.get (i := (i : Int)) (x := ad (1000 + i)) (by omega) (by rw [Int.toNat_natCast]; exact seqA_get _ _ _ _ hlt)
      obtain ⟨⟨w, g1, -⟩, -⟩ := hK.thi hlt
      have hM := (hN.2.1 _ (by rw [g1.2]; omega) (by rw [g1.2]; omega) (by rw [g1.2]; omega) (by rw [g1.2]; omega)).trans g1.1
      obtain ⟨r, r1, r2⟩ := hN.parcel F h hall n (by omega) hlt
      rw [if_neg (by omega), if_pos h4.is, hget]
      simp only [Option.bind_some]
      rw [if_pos (Or.inr (isO_at hM)), if_pos hq.is, r1]
      simp only [Option.bind_some]
      rw [show (-1 : Int32) = iI (-1) from rfl, it_eq _ _ (by omega), iI_s]
      rcases r2 with ⟨e1, e2⟩ | ⟨e1, e3, e2⟩
      · rw [if_pos e1]
        refine ih (i + 1) Mz (by omega) (by omega) hN (fun t ht => ?_) (fun t t1 t2 => hold t (by omega) t2)
        by_cases et : t = i
        · obtain ⟨tk, hc⟩ := hold i (Nat.le_refl _) hlt
          rw [et]
          refine ⟨tk, hc.congr (fun d => ?_) rfl⟩
          unfold tkF
          rw [e2, if_neg (fun z => by cases z.1)]
        · exact hdone t (by omega)
      · obtain ⟨tk, hc⟩ := hold i (Nat.le_refl _) hlt
        obtain ⟨M2, t1, t2, t3⟩ := hc.take (B := B) (fun y hy => (hK.1.2 y (by omega)).1) n (by omega) (vR u 26 l) (vR u 26 l + lenS u l - 1) (by omega) (by omega) (l : Int)
        have g4 : gR Mz (some (ad (1000 + i))) 13 4 = some (some (ad (2000 + i))) := gR_at hM
        rw [if_neg (by omega), g4]
        simp only [Option.bind_some]
        rw [hq.start]
        simp only [Option.bind_some]
        rw [if_pos hq.is, hq.last]
        simp only [Option.bind_some]
        rw [if_pos hc.is, t1]
        simp only [Option.bind_some]
        have hrh : ∀ y, rh y ≠ 0 → rho y = 0 := fun y hy => hK.no0 (Or.inr (F.2.2.2.1 y hy).1.1)
        have hox : rho x0 = 1 := hK.2.1.1.2
        obtain ⟨M3, w1, w2, w3⟩ := ih (i + 1) M2 (by omega) (by omega) ⟨fun y hy => (t2 y (by rw [hrh y hy]; omega)).trans (hN.1 y hy), fun y y1 y2 y3 y4 => (t2 y (by omega)).trans (hN.2.1 y y1 y2 y3 y4), (t2 x0 (by omega)).trans hN.2.2⟩ (fun t ht => by
          by_cases et : t = i
          · rw [et]
            refine ⟨_, t3.congr (fun d => ?_) rfl⟩
            unfold tkF
            rw [e2]
            by_cases z : vR u 26 l ≤ d ∧ d ≤ vR u 26 l + lenS u l - 1
            · rw [if_pos ⟨rfl, z⟩]
              exact (if_pos z).symm
            · rw [if_neg (fun y => z y.2)]
              exact (if_neg z).symm
          · obtain ⟨tk2, hc2⟩ := hdone t (by omega)
            exact ⟨tk2, hc2.fr (fun y hy => ⟨t2 y (by omega), hy⟩)⟩) (fun t y1 y2 => by
          obtain ⟨tk2, hc2⟩ := hold t (by omega) y2
          exact ⟨tk2, hc2.fr (fun y hy => ⟨t2 y (by omega), hy⟩)⟩)
        exact ⟨M3, w1, w2, fun y hy => (w3 y hy).trans (t2 y (hy i hlt))⟩
end GTK
