/-! FRAMES: what stays of the class's state -/
section FRM
variable {S : Nat → Nat} {ad rho rho1 : Nat → Nat} {xl : Nat → List Nat} {M M1 : Mem} {u : MS}
theorem TapR.fr (h : TapR ad rho M u) (k : Kept M rho 2 M1 rho1) : TapR ad rho1 M1 u := by
  obtain ⟨hb, b, h1, h2⟩ := h
  exact ⟨hb, b, h1.fr k, h2.fr k⟩
theorem RowR.fr {id a n : Nat} (h : RowR rho M id a n) (k : Kept M rho id M1 rho1) : RowR rho1 M1 id a n := by
  obtain ⟨f, h1⟩ := h
  exact ⟨f, h1.fr k⟩
theorem ReaR.fr (h : ReaR ad rho M u) (k : Kept M rho 3 M1 rho1) : ReaR ad rho1 M1 u := by
  obtain ⟨p, row, s, c, n, z1, z2, z3, z4, h1, h2, h3, h4, h5, h6, h7⟩ := h
  exact ⟨p, row, s, c, n, z1, z2, z3, z4, h1.fr k, h2.fr k, h3.fr k, h4.fr k, h5.fr k, h6.fr k, h7⟩
theorem RowsR.fr (h : RowsR S ad rho M u) (k4 : Kept M rho 4 M1 rho1) (k5 : Kept M rho 5 M1 rho1) (k6 : Kept M rho 6 M1 rho1) (k7 : Kept M rho 7 M1 rho1) : RowsR S ad rho1 M1 u := ⟨h.1.fr k4, h.2.1.fr k5, h.2.2.1.fr k6, h.2.2.2.fr k7⟩
theorem ThiC.fr {i : Nat} (h : ThiC ad rho M u i) (k : Kept M rho (1000 + i) M1 rho1) : ThiC ad rho1 M1 u i := by
  obtain ⟨w, h1, h2⟩ := h
  exact ⟨w, h1.fr k, h2.fr k⟩
theorem ThiR.fr {i : Nat} (h : ThiR S ad rho xl M u i) (k1 : Kept M rho (1000 + i) M1 rho1) (k2 : Kept M rho (2000 + i) M1 rho1) (k3 : Kept M rho (3000 + i) M1 rho1) (k4 : Kept M rho (4000 + i) M1 rho1) : ThiR S ad rho1 xl M1 u i := by
  obtain ⟨h1, ⟨tk, h2⟩, h3, h4⟩ := h
  exact ⟨h1.fr k1, ⟨tk, h2.fr k2⟩, h3.fr k3, h4.fr k4⟩
theorem HouR.fr {i : Nat} (h : HouR ad rho M u i) (k : Kept M rho (5000 + i) M1 rho1) : HouR ad rho1 M1 u i := by
  obtain ⟨w, h1, h2⟩ := h
  exact ⟨w, h1.fr k, h2.fr k⟩
theorem CouC.fr {i : Nat} (h : CouC ad rho M u i) (k : Kept M rho (6000 + i) M1 rho1) : CouC ad rho1 M1 u i := by
  obtain ⟨w, h1, h2⟩ := h
  exact ⟨w, h1.fr k, h2.fr k⟩
theorem CouR.fr {m : Int} {i : Nat} (h : CouR ad rho M u m i) (k : Kept M rho (6000 + i) M1 rho1) (k2 : Kept M rho (7000 + i) M1 rho1) : CouR ad rho1 M1 u m i := ⟨h.1.fr k, h.2.fr k2⟩
theorem ParR.fr {l p : Nat} (h : ParR S ad rho xl M u l p) (k : Kept M rho (9000 + (l * 16 + p)) M1 rho1) : ParR S ad rho1 xl M1 u l p := by
  obtain ⟨c, h1, h2⟩ := h
  exact ⟨c, h1.fr k, h2.fr k⟩
theorem LoaR.fr {l : Nat} (h : LoaR S ad rho xl M u l) (k : Kept M rho (8000 + l) M1 rho1) (kp : ∀ p, p < (vR u 29 l).toNat → Kept M rho (9000 + (l * 16 + p)) M1 rho1) : LoaR S ad rho1 xl M1 u l := by
  obtain ⟨⟨q, h1, h2⟩, h3⟩ := h
  exact ⟨⟨q, h1.fr k, h2.fr k⟩, fun p hp => (h3 p hp).fr (kp p hp)⟩
theorem TxS.fr {id w : Nat} {t : List Int} (h : TxS S M rho id w t) (k : Kept M rho id M1 rho1) : TxS S M1 rho1 id w t := by
  rcases h with h | h
  · exact Or.inl (h.fr k)
  · exact Or.inr h
theorem RptR.fr {r : Nat} (h : RptR S ad rho xl M u r) (k : Kept M rho (10000 + r) M1 rho1) : RptR S ad rho1 xl M1 u r := by
  obtain ⟨w, s, z, f, g, h1, h2, h3, h4, h5⟩ := h
  exact ⟨w, s, z, f, g, h1.fr k, h2.fr k, h3.fr k, h4.fr k, h5⟩
end FRM
def LOK (B : Nat) (L : Mem) : Prop := ∀ a, B ≤ a → L a = none
section SIM
variable {B : Nat} {S : Nat → Nat} {L : Mem} {x0 : Nat} {ad rho : Nat → Nat} {xl : Nat → List Nat} {M : Mem} {u : MS} {sz : Nat}
/-- a state where the book alone is another: its own fields, in the reference its numbers -/
theorem RepK.setBook (hL : LOK B L) (h : RepK B S L x0 ad rho xl M u sz) {fs : List Value} {M1 : Mem} {u1 : MS} (hM : M1 = va_up M x0 (some (.inl (14, fs)))) (hfs : fs = booF ad (iI (stdS u1)) (u1.1 33) (u1.1 10) (u1.1 4) (u1.1 2)) (hu : ∀ M2 : Mem, TapR ad rho M2 u1 = TapR ad rho M2 u ∧ ReaR ad rho M2 u1 = ReaR ad rho M2 u ∧ RowsR S ad rho M2 u1 = RowsR S ad rho M2 u ∧ vN u1 5 = vN u 5 ∧ vN u1 14 = vN u 14 ∧ vN u1 19 = vN u 19 ∧ vN u1 23 = vN u 23 ∧ vN u1 33 = vN u 33 ∧ (∀ i, ThiR S ad rho xl M2 u1 i = ThiR S ad rho xl M2 u i) ∧ (∀ i, HouR ad rho M2 u1 i = HouR ad rho M2 u i) ∧ (∀ i m, CouR ad rho M2 u1 m i = CouR ad rho M2 u m i) ∧ (∀ i, LoaR S ad rho xl M2 u1 i = LoaR S ad rho xl M2 u i) ∧ ∀ i, RptR S ad rho xl M2 u1 i = RptR S ad rho xl M2 u i) : RepK B S L x0 ad rho xl M1 u1 sz := by
  have k : ∀ id, id ≠ 1 → Kept M rho id M1 rho := fun id hid a ha => by
    refine ⟨?_, ha⟩
    rw [hM, va_up_ne]
    intro e
    rw [e, h.2.1.1.2] at ha
    exact hid ha.symm
  obtain ⟨u1e, u2e, u3e, u5, u14, u19, u23, u33, ut, uh, uc, ul, ur⟩ := hu M1
  have hb := h.bookB
  obtain ⟨⟨c1, c2⟩, ⟨b1, b2, b3, b4⟩, t1, t2, t3, t4, t5⟩ := h
  refine ⟨⟨fun a e ha => ?_, c2⟩, ⟨⟨?_, b1.2⟩, ?_, ?_, ?_⟩, ?_, ?_, ?_, ?_, ?_⟩
  · rw [hM, va_up_ne]
    · exact c1 a e ha
    · intro q
      rw [q, hL x0 hb] at ha
      cases ha
  · rw [hM, va_up_self, hfs]
  · rw [u1e]; exact b2.fr (k 2 (by decide))
  · rw [u2e]; exact b3.fr (k 3 (by decide))
  · rw [u3e]; exact b4.fr (k 4 (by decide)) (k 5 (by decide)) (k 6 (by decide)) (k 7 (by decide))
  · intro i hi
    rw [ut]
    exact (t1 i (by rw [u5] at hi; exact hi)).fr (k _ (by omega)) (k _ (by omega)) (k _ (by omega)) (k _ (by omega))
  · intro i hi
    rw [uh]
    exact (t2 i (by rw [u14] at hi; exact hi)).fr (k _ (by omega))
  · intro i hi
    rw [uc, u23]
    exact (t3 i (by rw [u19] at hi; exact hi)).fr (k _ (by omega)) (k _ (by omega))
  · intro i hi
    rw [ul]
    exact (t4 i (by rw [u23] at hi; exact hi)).fr (k _ (by omega)) (fun p _ => k _ (by omega))
  · intro i hi
    rw [ur]
    exact (t5 i (by rw [u33] at hi; exact hi)).fr (k _ (by omega))
/-- the reference's scratch (numbers and rows from 40 on) and its status are another's -/
def scr (u w : MS) : MS := (fun k => if k = 2 then w.1 k else if k < 40 then u.1 k else w.1 k, fun k => if k < 40 then u.2 k else w.2 k)
theorem parP_scr (w : MS) : parP (scr u w) = parP u := by
  funext c s l p
  unfold parP
  by_cases e : s = 1
  · rw [if_pos e]
    rfl
  · rw [if_neg e]
    rfl
theorem busyP_scr (w : MS) : busyP (scr u w) = busyP u := by
  funext c d l
  unfold busyP
  rw [parP_scr]
  rfl
theorem calS_scr (w : MS) : calS (scr u w) = calS u := by
  funext c m d
  unfold calS busyS
  rw [busyP_scr]
  rfl
theorem CalF.scr {w : MS} {m : Int} (h : CalF u m) : CalF (scr u w) m := by
  unfold CalF at *
  rw [busyP_scr]
  exact h
theorem Inv.scr {w : MS} (h : Inv u xl) : Inv (scr u w) xl := ⟨h.1, h.2.1, h.2.2.1, h.2.2.2.scr⟩
theorem CouR_scr (w : MS) (M : Mem) (m : Int) (c : Nat) : CouR ad rho M (scr u w) m c = CouR ad rho M u m c := by
  unfold CouR
  rw [calS_scr]
  rfl
theorem RepK.scr (hL : LOK B L) (h : RepK B S L x0 ad rho xl M u sz) (w : MS) (z : Int) (hw : w.1 2 = iI z) : RepK B S L x0 ad rho xl (stM ad u x0 M z) (scr u w) sz :=
  h.setBook hL rfl (by show _ = booF ad (iI (stdS u)) (u.1 33) (u.1 10) (u.1 4) (w.1 2); rw [hw]) (fun M2 => ⟨rfl, rfl, rfl, rfl, rfl, rfl, rfl, rfl, fun _ => rfl, fun _ => rfl, fun _ _ => CouR_scr ..,  fun _ => rfl, fun _ => rfl⟩)
def SimB (B : Nat) (S : Nat → Nat) (L : Mem) (x0 : Nat) (M : Mem) (u : MS) (sz nc nr : Nat) : Prop := ∃ (ad rho : Nat → Nat) (xl : Nat → List Nat), RepK B S L x0 ad rho xl M u sz ∧ Inv u xl ∧ nc = (vN u 19).toNat ∧ nr = (vN u 33).toNat
theorem scr_st (u : MS) (z : Int) : uI u 2 (iI z) = scr u (uI u 2 (iI z)) := by
  unfold scr uI
  congr 1
  · funext k
    simp only [upd]
    (repeat' split) <;> first | rfl | (exfalso; omega) | (simp_all)
  · funext k
    split <;> rfl
theorem sim_st (hL : LOK B L) (h : RepK B S L x0 ad rho xl M u sz) (hI : Inv u xl) (z : Int) : SimB B S L x0 (stM ad u x0 M z) (uI u 2 (iI z)) sz (vN u 19).toNat (vN u 33).toNat := by
  rw [scr_st]
  exact ⟨ad, rho, xl, h.scr hL _ z (by simp [uI, upd]), hI.scr, rfl, rfl⟩
end SIM
