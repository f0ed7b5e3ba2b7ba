/-! LOAN: a courier for a parcel: what it does to the calendars -/
section GUC
variable {u : MS} {l o : Nat} {s : Int} {xl : Nat → List Nat}
theorem ready_day {c : Int} {d0 w : Int} (h : readyS u c d0 w ((l : Int) + 1) = true) {d : Int} (h1 : d0 ≤ d) (h2 : d ≤ d0 + w - 1) : d < 1000 ∧ mayS u c d = true ∧ busyP u c d l = false ∧ ∀ l2 : Int, 0 ≤ l2 → l2 < l → busyP u c d l2 = false := by
  have := allI_iff.mp h d h1 (by omega)
  unfold rdyP at this
  rw [Bool.and_eq_true, Bool.and_eq_true] at this
  obtain ⟨a1, a2, a3⟩ := this
  have a3' := of_decide_eq_true a3
  rw [busyS_s] at a3'
  have hr := fstI_rng (busyP u c d) (l : Int).toNat 0 (by omega)
  have hn : busyS u c d l = -1 := by
    unfold busyS
    rcases hr with q | q
    · exact q
    · have e : busyS u c d l = fstI (busyP u c d) (l : Int).toNat 0 := rfl
      rw [if_pos (by omega)] at a3'
      omega
  rw [hn, if_neg (by omega)] at a3'
  refine ⟨of_decide_eq_true a1, a2, ?_, fun l2 q1 q2 => fstI_neg (by omega) hn l2 q1 (by omega)⟩
  by_cases q : busyP u c d l = true
  · rw [if_pos q] at a3'
    omega
  · simpa using q
theorem SlG_gu (hI : Inv u xl) (h23 : vN u 23 = (l : Int)) (hk : LoanOK u l) (hs : s = 1 ∨ s = 3) {c : Nat} (hc : c < (vN u 19).toNat) (h24 : vR u 24 l ≠ 0) (ho : (o : Int) < vR u 29 l) (hm : vR u (if s = 1 then 31 else 32) (l * 16 + o) = -1) (hG : SlG u l) (hr : readyS u c (dayS u l s) (wayS u l) ((l : Int) + 1) = true) (hd : 0 ≤ dayS u l s ∧ dayS u l s + wayS u l ≤ 1000) : SlG (guU u l o s c) l := by
  have n19 := hI.n19
  have hw : 1 ≤ wayS u l ∧ wayS u l ≤ 30 := hk.2.1
  have hsm := guU_same u l o s c (by omega : (vN u 23).toNat ≤ l)
  have hb := fun (c1 : Nat) (d : Int) => busyP_gu (c := c) hs (by omega) h24 ho hm c1 d (by omega)
  have h19 : vN (guU u l o s c) 19 = vN u 19 := rfl
  obtain ⟨g1, g2, g3⟩ := hG
  refine ⟨fun c1 d l2 hc1 h1 h2 hbz => ?_, fun c1 d hc1 hbz => ?_, fun c1 hc1 => ?_⟩
  · rw [hb, Bool.or_eq_true, Bool.and_eq_true, decide_eq_true_eq, decide_eq_true_eq] at hbz
    have e := hsm.bsyP hI (l := l2.toNat) (by omega) c1 d
    rw [show ((l2.toNat : Nat) : Int) = l2 by omega] at e
    rw [e]
    rcases hbz with q | ⟨q1, q2⟩
    · exact g1 c1 d l2 (by rw [← h19]; exact hc1) h1 h2 q
    · have hdd := (stage_days hk hs d).mp q2
      rw [q1]
      exact (ready_day hr hdd.1 hdd.2).2.2.2 l2 h1 h2
  · rw [hb, Bool.or_eq_true, Bool.and_eq_true, decide_eq_true_eq, decide_eq_true_eq] at hbz
    rw [hsm.may hI (by rw [← h19]; exact hc1)]
    rcases hbz with q | ⟨q1, q2⟩
    · exact g2 c1 d (by rw [← h19]; exact hc1) q
    · have hdd := (stage_days hk hs d).mp q2
      rw [q1]
      exact (ready_day hr hdd.1 hdd.2).2.1
  · rw [loaD_gu hs (by omega) h24 ho hm c1 (by omega), g3 c1 (by rw [← h19]; exact hc1)]
    have e1 : ∀ d : Int, (if busyP (guU u l o s c) c1 d l = true then (1 : Int) else 0) = (if busyP u c1 d l = true then 1 else 0) + (if c1 = c ∧ (dayS u l s ≤ d ∧ d ≤ dayS u l s + wayS u l - 1) then 1 else 0) := fun d => by
      rw [hb]
      by_cases q : busyP u c1 d l = true
      · rw [q, Bool.true_or, if_pos rfl, if_neg]
        · rfl
        · intro z
          have := (ready_day hr z.2.1 z.2.2).2.2.1
          rw [← z.1, q] at this
          cases this
      · rw [Bool.not_eq_true] at q
        rw [q, Bool.false_or, if_neg (show ¬ false = true by decide)]
        by_cases z : c1 = c ∧ stageS u l d = s
        · rw [if_pos, if_pos]
          · rfl
          · exact ⟨z.1, (stage_days hk hs d).mp z.2⟩
          · rw [z.1, z.2]
            simp
        · rw [if_neg, if_neg]
          · rfl
          · intro y
            exact z ⟨y.1, (stage_days hk hs d).mpr y.2⟩
          · intro y
            rw [Bool.and_eq_true, decide_eq_true_eq, decide_eq_true_eq] at y
            exact z ⟨by omega, y.2⟩
    rw [sumI_congr (fun d _ _ => e1 d), sumI_add]
    congr 1
    by_cases q : c1 = c
    · rw [if_pos (by omega), sumI_congr (g := fun d => if dayS u l s ≤ d ∧ d ≤ dayS u l s + wayS u l - 1 then 1 else 0) (fun d _ _ => by
        by_cases z : dayS u l s ≤ d ∧ d ≤ dayS u l s + wayS u l - 1
        · rw [if_pos ⟨q, z⟩, if_pos z]
        · rw [if_neg (fun y => z y.2), if_neg z]), sumI_ivl]
      omega
    · rw [if_neg (by omega), sumI_null (fun d _ _ => if_neg (fun y => q y.1))]
theorem calS_gu (hI : Inv u xl) (h23 : vN u 23 = (l : Int)) (hk : LoanOK u l) (hs : s = 1 ∨ s = 3) {c : Nat} (hc : c < (vN u 19).toNat) (h24 : vR u 24 l ≠ 0) (ho : (o : Int) < vR u 29 l) (hm : vR u (if s = 1 then 31 else 32) (l * 16 + o) = -1) (hr : readyS u c (dayS u l s) (wayS u l) ((l : Int) + 1) = true) {c1 : Nat} (hc1 : c1 < (vN u 19).toNat) (d : Int) : calS (guU u l o s c) c1 ((l : Int) + 1) d = if c1 = c ∧ (dayS u l s ≤ d ∧ d ≤ dayS u l s + wayS u l - 1) then (l : Int) else calS u c1 ((l : Int) + 1) d := by
  have n19 := hI.n19
  have hsm := guU_same u l o s c (by omega : (vN u 23).toNat ≤ l)
  have hbs := hsm.bsyS hI c1 d
  rw [h23] at hbs
  have hb := busyP_gu (c := c) hs (by omega) h24 ho hm c1 d (by omega)
  unfold calS
  rw [hsm.may hI hc1, busyS_s, busyS_s, hbs, hb]
  by_cases z : c1 = c ∧ (dayS u l s ≤ d ∧ d ≤ dayS u l s + wayS u l - 1)
  · rw [if_pos z]
    obtain ⟨r1, r2, r3, r4⟩ := ready_day hr z.2.1 z.2.2
    have hn : busyS u c1 d l = -1 := by
      unfold busyS
      rw [z.1]
      exact fstI_none _ _ _ (fun k k1 k2 => r4 k k1 (by omega))
    have e : (busyP u c1 d l || (decide ((c1 : Int) = c) && decide (stageS u l d = s))) = true := by
      rw [z.1, (stage_days hk hs d).mpr z.2]
      simp
    rw [hn, e]
    simp only [if_true, show ¬ (0 : Int) ≤ -1 by decide, if_false]
    rw [if_pos (by omega)]
  · rw [if_neg z]
    have e : (busyP u c1 d l || (decide ((c1 : Int) = c) && decide (stageS u l d = s))) = busyP u c1 d l := by
      by_cases y : (c1 : Int) = c ∧ stageS u l d = s
      · exact absurd ⟨by omega, (stage_days hk hs d).mp y.2⟩ z
      · have : (decide ((c1 : Int) = c) && decide (stageS u l d = s)) = false := by
          rw [Bool.eq_false_iff]
          intro x
          rw [Bool.and_eq_true, decide_eq_true_eq, decide_eq_true_eq] at x
          exact y x
        rw [this, Bool.or_false]
    rw [e]
theorem takenS_gu (hI : Inv u xl) (h23 : vN u 23 = (l : Int)) (hs : s = 1 ∨ s = 3) {c : Nat} (hc : c < (vN u 19).toNat) (h24 : vR u 24 l ≠ 0) (ho : (o : Int) < vR u 29 l) (hm : vR u (if s = 1 then 31 else 32) (l * 16 + o) = -1) (c1 : Nat) : takenS (guU u l o s c) c1 ((l : Int) + 1) = takenS u c1 ((l : Int) + 1) + if c1 = c then wayS u l else 0 := by
  have n19 := hI.n19
  have hsm := guU_same u l o s c (by omega : (vN u 23).toNat ≤ l)
  have ht := hsm.taken hI c1
  rw [h23] at ht
  rw [takenS_s, takenS_s, ht, loaD_gu hs (by omega) h24 ho hm c1 (by omega)]
  by_cases q : c1 = c
  · rw [if_pos q, if_pos (by omega)]
    omega
  · rw [if_neg q, if_neg (by omega)]
    omega
end GUC
