/-! LOAN: the joint state: the courier that both sides find -/
section GSC
variable {B : Nat} {S : Nat → Nat} {L : Mem} {x0 : Nat} {ad rho rh pa : Nat → Nat} {xl : Nat → List Nat} {MK M1 M : Mem} {uS u1 u : MS} {sz zz l P a0 : Nat} {ct : Nat → List Nat}
theorem GS.tkr (F : Fix B S L x0 ad rho xl MK M1 uS u1 sz zz rh ct l P) (h : GS S ad rho M1 u1 rh a0 pa ct l P u M) {c : Nat} (hc : c < (vN u 19).toNat) : 0 ≤ takenS u c ((l : Int) + 1) ∧ takenS u c ((l : Int) + 1) ≤ 100000 := by
  obtain ⟨hI, h23, hv, hsm⟩ := h.inv F
  have hl := F.2.2.1.2
  have h01 : ∀ (q : Int), 0 ≤ sumI (fun d => if busyP u c d q = true then 1 else 0) 1000 0 ∧ sumI (fun d => if busyP u c d q = true then 1 else 0) 1000 0 ≤ 1000 := fun q => by
    have := sumI_rng (fun d => if busyP u c d q = true then 1 else 0) (fun i => by
      show 0 ≤ (if busyP u c i q = true then (1 : Int) else 0) ∧ (if busyP u c i q = true then (1 : Int) else 0) ≤ 1
      split <;> omega) 1000 0
    omega
  rw [takenS_s, h.2.2.2.2.1.2.2 c hc]
  have h2 := h01 l
  have hb := sumI_bnd (loaD u c) 1000 (l : Int).toNat 0 (fun q q1 q2 => by
    rw [hI.2.2.2.2.2.2 c q hc q1 (by omega)]
    exact h01 q)
  have e : takenS u c l = sumI (loaD u c) (l : Int).toNat 0 := rfl
  omega
theorem ready_cal {c : Int} {m s w : Int} (hs : 0 ≤ s ∧ s + w ≤ 1000) : allI (fun d => decide (calS u c m d = -1)) (s + w - 1 + 1 - s).toNat s = readyS u c s w m := by
  unfold readyS
  rw [show (s + w - 1 + 1 - s).toNat = w.toNat by omega]
  refine allI_dec (fun d d1 d2 => ?_)
  unfold rdyP calS
  rw [decide_eq_true (show d < 1000 by omega), Bool.true_and]
  by_cases b : 0 ≤ busyS u c d m
  · rw [if_pos b, decide_eq_false (show ¬ busyS u c d m = -1 by omega), decide_eq_false (show ¬ busyS u c d m < 0 by omega), Bool.and_false]
  · rw [if_neg b, decide_eq_true (show busyS u c d m < 0 by omega), Bool.and_true]
    cases mayS u c d <;> rfl
theorem GS.courier (F : Fix B S L x0 ad rho xl MK M1 uS u1 sz zz rh ct l P) (h : GS S ad rho M1 u1 rh a0 pa ct l P u M) {s : Int} (hs : s = 1 ∨ s = 3) (n : Nat) (hn : 2100 ≤ n) (x2 x4 : Int32) : ∃ r : Int, (r = -1 ∨ (0 ≤ r ∧ r < (vN u 19).toNat ∧ readyS u r.toNat (dayS u l s) (wayS u l) ((l : Int) + 1) = true)) ∧ f_X12_areGuarded_L146 n u (iI l) x2 (iI (dayS u l s)) x4 n (-1 : Int32) (0 : Int32) (0 : Int32) = some (iI r) ∧ f_X11_leastBusyCourier n M (some x0) (iI (dayS u l s)) (iI (dayS u l s + wayS u l - 1)) = some (if r < 0 then none else some (ad (6000 + r.toNat))) := by
  obtain ⟨hI, h23, hv, hsm⟩ := h.inv F
  obtain ⟨k1, k2, k3, k4⟩ := h.slot F
  obtain ⟨⟨dr1, dr2⟩, dr3⟩ := day_rng (u := u) (l := l) (s := s) hs k1 k4
  have n19 := hI.n19
  have hl := F.2.2.1.2
  have hP := F.2.2.2.2.2.1.2
  have hfr := fun (y : Nat) h0 h7 => h.frK F (y := y) h0 h7
  obtain ⟨v4, hbk⟩ := F.2.2.2.2.2.2.2.2.2.1
  have hxf := h.frm F (y := x0) (by rw [F.1.1.2.1.1.2]; decide) (by rw [F.1.1.2.1.1.2]; decide)
  have htk := fun (c : Nat) hc => h.tkr F (c := c) hc
  obtain ⟨⟨K, IS⟩, -⟩ := F
  have hx : M x0 = some (.inl (14, booF ad (iI (stdS uS)) (uS.1 33) (uS.1 10) v4 (uS.1 2))) := hxf.trans hbk
  have h6 : LisR S M rho 6 (ad 6) ((List.range (vN u 19).toNat).map (fun c => ad (6000 + c))) := by
    have := (K.rows.2.2.1).fr (M1 := M) (rho1 := rho) (fun y hy => ⟨hfr y (by omega) (by omega), hy⟩)
    unfold seqA at this
    rw [hv]
    exact this
  have hL : ∀ q : Int, 0 ≤ q → q < (l : Int) + 1 → LoanOK u q := fun q q1 q2 => by
    by_cases e : q = l
    · rw [e]
      exact k1
    · have := hI.loan q.toNat (by omega)
      rw [show ((q.toNat : Nat) : Int) = q by omega] at this
      exact this
  have hPa : ∀ q : Int, 0 ≤ q → q < (l : Int) + 1 → ParOK u q := fun q q1 q2 => by
    unfold ParOK
    by_cases e : q = l
    · rw [e, Int.toNat_natCast]
      omega
    · exact hI.par q.toNat (by omega)
  have eway : u.2 15 (vR u 25 l).toNat = iI (wayS u l) := by
    rw [u2_iI]
    rfl
  have em : iI (l : Int) + (1 : Int32) = iI ((l : Int) + 1) := by
    rw [show (1 : Int32) = iI 1 from rfl, iI_add]
  obtain ⟨r, z1, z2, z3⟩ := j_busy (u := u) (M := M) (x0 := x0) (A := fun c => ad (6000 + c)) (Cc := fun c => ad (7000 + c)) (N := (vN u 19).toNat) (d0 := dayS u l s) (d1 := dayS u l s + wayS u l - 1) (T := fun c => takenS u c ((l : Int) + 1)) (rd := fun c => readyS u c (dayS u l s) (wayS u l) ((l : Int) + 1)) hl (by omega) (by omega) k1.1 (bk hx).2.2.2.2.1 h6 n x2 x4 (fun c hc => by
    obtain ⟨⟨w6, q6, -⟩, -⟩ := K.cou (i := c) (by rw [← hv]; exact hc)
    have hM6 := (hfr _ (by rw [q6.2]; omega) (by rw [q6.2]; omega)).trans q6.1
    have hcal := h.2.2.2.1 c (by rw [← h.1.vn]; exact hc)
    have hop := hcal.isOpen n (by omega) (dayS u l s) (dayS u l s + wayS u l - 1) (by omega) (by omega) (fun d => by
      have hr := fstI_rng (busyP u c d) ((l : Int) + 1).toNat 0 (by omega)
      have e : busyS u c d ((l : Int) + 1) = fstI (busyP u c d) ((l : Int) + 1).toNat 0 := rfl
      unfold calS
      (repeat' split) <;> omega)
    rw [ready_cal (by omega)] at hop
    refine ⟨isO_at hM6, gR_at hM6, hcal.is, hcal.taken, hop, ?_, ?_⟩
    · rw [eway, em]
      exact t_isReady n u c (dayS u l s) (wayS u l) ((l : Int) + 1) (by omega) (by omega) (by omega) (by omega) hL hPa (by
        have := (hI.spn c hc).1
        unfold SpaOK
        rw [Int.toNat_natCast]
        omega) (by omega)
    · rw [em]
      exact t_busyDays n u c ((l : Int) + 1) (by omega) (by omega) hL hPa (by omega)) (fun c hc => by
    have := htk c hc
    omega) n 0 (-1) (Nat.zero_le _) (by omega) (Or.inl rfl)
  exact ⟨r, z1, z2, z3⟩
end GSC
