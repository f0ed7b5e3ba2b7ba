/-! LOAN: refused texts -/
section LRF
variable {B : Nat} {S : Nat → Nat} {L : Mem} {x0 : Nat} {ad rho : Nat → Nat} {xl : Nat → List Nat} {M M1 : Mem} {u u6 : MS} {sz N j : Nat} {g : Nat → Int} {t : List Int} {w H : Int}
theorem Same.refl (u : MS) : Same u u := ⟨⟨rfl, rfl, rfl, rfl⟩, fun _ _ _ _ _ => rfl, fun _ _ _ _ _ => rfl, fun _ _ => ⟨rfl, fun _ _ => ⟨rfl, rfl⟩⟩, fun _ _ => ⟨fun _ _ _ => rfl, fun _ _ _ _ _ => rfl⟩, fun _ _ => ⟨fun _ _ _ => rfl, fun _ _ _ _ _ => rfl⟩⟩
theorem RepK.rel (hL : LOK B L) (K : RepK B S L x0 ad rho xl M u sz) (hI : Inv u xl) (n : Nat) (hn : 2100 ≤ n) : ∃ M3, f_X11_releaseCouriers B n M (some x0) (iI (vN u 23)) = some M3 ∧ RepK B S L x0 ad rho xl M3 u sz := by
  have n19 := hI.n19
  have n23 := hI.n23
  have hxl := K.xlt
  have hox : rho x0 = 1 := K.2.1.1.2
  have hrg : ∀ (c : Nat) (d : Int), -2147483648 ≤ calS u c (vN u 23) d ∧ calS u c (vN u 23) d < vN u 23 := fun c d => by
    have hr := fstI_rng (busyP u c d) (vN u 23).toNat 0 (by omega)
    have e : busyS u c d (vN u 23) = fstI (busyP u c d) (vN u 23).toNat 0 := rfl
    unfold calS
    (repeat' split) <;> omega
  have hN : (((vN u 19).toNat : Nat) : Int) = vN u 19 := by omega
  obtain ⟨M3, e1, e2, e3⟩ := z_relCou_L (B := B) (x0 := x0) (ad := ad) (rho := rho) (S := S) (N := (vN u 19).toNat) (by omega) (fun c => calS u c (vN u 23)) (fun c d => by
    have := hrg c d
    show -2147483648 ≤ calS u c (vN u 23) d ∧ calS u c (vN u 23) d < 2147483648
    omega) (fun c => takenS u c (vN u 23)) n (by omega) (vN u 23) (by omega) (fun a ha => (K.1.2 a ha).1) (show (booF ad (iI (stdS u)) (u.1 33) (u.1 10) (u.1 4) (u.1 2))[4]? = some (.ref (ad 6)) from rfl) n 0 M (Nat.zero_le _) (by omega) K.book hox (by
      rw [hN]
      exact K.rows.2.2.1) (fun c hc => by
      obtain ⟨⟨w6, q6, -⟩, -⟩ := K.cou hc
      exact ⟨_, q6, rfl⟩) (fun c _ hc => (K.cou hc).2) (fun c hc => by omega)
  refine ⟨M3, e1, RepK.cal (Same.refl u) hI K (Nat.le_refl _) (fun _ _ => rfl) rfl (fun a e ha => ?_) (fun y y1 y2 => e3 y (fun c hc => by omega)) ?_ (fun c hc => ?_)⟩
  · have haB : a < B := by
      rcases Nat.lt_or_ge a B with q | q
      · exact q
      · rw [hL a q] at ha
        cases ha
    have h0 := K.no0 (Or.inl haB)
    rw [e3 a (fun c _ => by omega)]
    exact K.1.1 a e ha
  · rw [e3 x0 (fun c hc => by omega)]
    exact K.book
  · refine (e2 c hc).congr (fun d => ?_) ?_
    · have := hrg c d
      unfold relF
      rw [if_neg (by omega)]
    · show takenS u c (vN u 23) = takenS u c (vN u 23) - sumI (fun x => if calS u c (vN u 23) x = vN u 23 then 1 else 0) 1000 0
      rw [sumI_null (fun d _ _ => if_neg (by
        have := hrg c d
        omega))]
      omega
theorem refuse_end (hL : LOK B L) {Mr : Mem} {v : MS} (K : RepK B S L x0 ad rho xl Mr v sz) (I : Inv v xl) (n : Nat) (hn : 2100 ≤ n) (z : Int) {nc nr : Nat} (hc : nc = (vN v 19).toNat) (hr : nr = (vN v 33).toNat) : AnsZ B S L x0 sz nc nr (if isO Mr (some x0) 14 = true then ((f_X11_releaseCouriers B n Mr (some x0) (iI (vN v 23))).bind fun r41 => if isO r41 (some x0) 14 = true then ((f_X11_refuse B r41 (some x0) (iI z)).bind fun r43 => some (r43.1, r43.2, sz)) else none) else none) (noS v z) := by
  obtain ⟨M4, q1, K4⟩ := K.rel hL I n hn
  rw [if_pos (isO_at K.book), q1]
  simp only [Option.bind_some]
  rw [z_refuseZ K4 z]
  exact ansz_no hL K4 I z hc hr
theorem q_loanW (hL : LOK B L) (h : RepK B S L x0 ad rho xl M u sz) (hI : Inv u xl) {n : Nat} (hn : 2100 ≤ n) {t : List Int} (cH : 0 ≤ H ∧ H ≤ vN u 14 - 1) {M2 : Mem} (e1 : ∃ Mk, Opn B S n ad x0 M Mk ∧ f_X7_readsLoan B n Mk (some (ad 3)) = some (0, M2)) (r1 : Rd B ad rho (kpM B ad M) M2 N g t j w) (hE : EndU u u6 w) : AnsZ B S L x0 sz (vN u 19).toNat (vN u 33).toNat (f_X11_loan B S n M sz (some x0) (iI H)) (noS u6 2) := by
  have n14 := hI.n14
  have n23 := hI.n23
  obtain ⟨Mk, ⟨Mb, o1, o2, o3, o4, o5, o6⟩, e1⟩ := e1
  obtain ⟨k4, k5, k6, k7⟩ := rep_read2 hL h hI r1 hE
  have hbb : Mb x0 = some (.inl (14, booF ad (iI (stdS u)) (u.1 33) (u.1 10) (u.1 4) (u.1 2))) := o2.trans h.book
  have hbk : Mk x0 = some (.inl (14, booF ad (iI (stdS u)) (u.1 33) (u.1 10) (u.1 4) (u.1 2))) := o5.trans h.book
  have hb2 : M2 x0 = some (.inl (14, booF ad (iI (stdS u)) (u.1 33) (u.1 10) (u.1 4) (u.1 2))) := k4.trans h.book
  obtain ⟨K3, I3⟩ := k7 (iI 0)
  obtain ⟨K2, I2⟩ := k7 (u.1 4)
  rw [up_same hb2] at K2
  have v23 : vN (uI u6 4 (u.1 4)) 23 = vN u 23 := hE.numF 23 (by decide) (by decide) (by decide) (by decide) _
  have h7 := K2.rows.2.2.2
  have es := h7.size
  rw [seqA_len, v23, show (((vN u 23).toNat : Nat) : Int) = vN u 23 by omega] at es
  obtain ⟨R, hroom⟩ : ∃ R : Int32, ((if (16 : Int32) ≤ iI (vN u 23) then (some ((0 : Int32), (0 : Int32), (0 : Int32), some x0)) else (some ((1 : Int32), (0 : Int32), (0 : Int32), some x0))) : Option (Int32 × Int32 × Int32 × Option Nat)) = some (R, 0, 0, some x0) := by
    split
    · exact ⟨_, rfl⟩
    · exact ⟨_, rfl⟩
  unfold f_X11_loan
  rw [if_pos (isO_at h.book), z_houseAt h H (by omega), if_pos cH]
  simp only [Option.bind_some, reduceCtorEq, if_false]
  rw [(bk h.book).2.1]
  simp only [Option.bind_some]
  rw [(bk h.book).1]
  simp only [Option.bind_some]
  rw [if_pos h.reader, o1]
  simp only [Option.bind_some]
  rw [(bk hbb).1]
  simp only [Option.bind_some]
  rw [if_pos o3, o4]
  simp only [Option.bind_some]
  rw [(bk hbk).2.1]
  simp only [Option.bind_some]
  rw [if_pos o6, e1]
  simp only [Option.bind_some]
  rw [(bk hb2).2.2.2.2.2]
  simp only [Option.bind_some]
  rw [if_pos h7.is, es]
  simp only [Option.bind_some, if_true]
  rw [hroom]
  simp only [Option.bind_some]
  rw [if_pos (isO_at hb2), z_refusal h.bookB hb2]
  simp only [Option.bind_some, if_true]
  rw [if_neg (show ¬ (2 : Int32) = 0 by decide)]
  have v23' : vN u 23 = vN (uI u6 4 (iI 0)) 23 := (hE.numF 23 (by decide) (by decide) (by decide) (by decide) _).symm
  have := refuse_end hL K3 I3 n hn 2 (nc := (vN u 19).toNat) (nr := (vN u 33).toNat) (by rw [hE.numF 19 (by decide) (by decide) (by decide) (by decide)]) (by rw [hE.numF 33 (by decide) (by decide) (by decide) (by decide)])
  rw [← v23', hE.zero] at this
  exact this
theorem q_loanF (hL : LOK B L) (h : RepK B S L x0 ad rho xl M u sz) (hI : Inv u xl) {n : Nat} (hn : 2100 ≤ n) {t : List Int} (cH : 0 ≤ H ∧ H ≤ vN u 14 - 1) {M2 : Mem} (e1 : ∃ Mk, Opn B S n ad x0 M Mk ∧ f_X7_readsLoan B n Mk (some (ad 3)) = some (1, M2)) (r1 : Rd B ad rho (kpM B ad M) M2 N g t j w) (hE : EndU u u6 w) {f : Int} (hf : f = 5 ∨ f = 6 ∨ f = 7) (hfa : ∀ M2, RepK B S L x0 ad rho xl M2 (uI u6 4 (u.1 4)) sz → Inv (uI u6 4 (u.1 4)) xl → Rd B ad rho M2 M2 N g t j w → f_X11_faultInLoan n M2 (some x0) (some (ad (5000 + H.toNat))) = some (iI f)) : AnsZ B S L x0 sz (vN u 19).toNat (vN u 33).toNat (f_X11_loan B S n M sz (some x0) (iI H)) (noS (uI u6 4 (iI f)) 4) := by
  have n14 := hI.n14
  have n23 := hI.n23
  have nz : ¬ (1 : Int32) = 0 := by decide
  have hfz : ¬ iI f = (0 : Int32) := by
    rcases hf with rfl | rfl | rfl <;> decide
  obtain ⟨Mk, ⟨Mb, o1, o2, o3, o4, o5, o6⟩, e1⟩ := e1
  obtain ⟨k4, k5, k6, k7⟩ := rep_read2 hL h hI r1 hE
  have hbb : Mb x0 = some (.inl (14, booF ad (iI (stdS u)) (u.1 33) (u.1 10) (u.1 4) (u.1 2))) := o2.trans h.book
  have hbk : Mk x0 = some (.inl (14, booF ad (iI (stdS u)) (u.1 33) (u.1 10) (u.1 4) (u.1 2))) := o5.trans h.book
  have hb2 : M2 x0 = some (.inl (14, booF ad (iI (stdS u)) (u.1 33) (u.1 10) (u.1 4) (u.1 2))) := k4.trans h.book
  obtain ⟨K3, I3⟩ := k7 (iI f)
  obtain ⟨K2, I2⟩ := k7 (u.1 4)
  rw [up_same hb2] at K2
  have v23 : vN (uI u6 4 (u.1 4)) 23 = vN u 23 := hE.numF 23 (by decide) (by decide) (by decide) (by decide) _
  have h7 := K2.rows.2.2.2
  have es := h7.size
  rw [seqA_len, v23, show (((vN u 23).toNat : Nat) : Int) = vN u 23 by omega] at es
  have hfault := hfa M2 K2 I2 k5
  obtain ⟨R, hroom⟩ : ∃ R : Int32, ((if (16 : Int32) ≤ iI (vN u 23) then (some ((0 : Int32), iI f, (1 : Int32), some x0)) else (some ((1 : Int32), iI f, (1 : Int32), some x0))) : Option (Int32 × Int32 × Int32 × Option Nat)) = some (R, iI f, 1, some x0) := by
    split
    · exact ⟨_, rfl⟩
    · exact ⟨_, rfl⟩
  unfold f_X11_loan
  rw [if_pos (isO_at h.book), z_houseAt h H (by omega), if_pos cH]
  simp only [Option.bind_some, reduceCtorEq, if_false]
  rw [(bk h.book).2.1]
  simp only [Option.bind_some]
  rw [(bk h.book).1]
  simp only [Option.bind_some]
  rw [if_pos h.reader, o1]
  simp only [Option.bind_some]
  rw [(bk hbb).1]
  simp only [Option.bind_some]
  rw [if_pos o3, o4]
  simp only [Option.bind_some]
  rw [(bk hbk).2.1]
  simp only [Option.bind_some]
  rw [if_pos o6, e1]
  simp only [Option.bind_some]
  rw [(bk hb2).2.2.2.2.2]
  simp only [Option.bind_some]
  rw [if_pos h7.is, es]
  simp only [Option.bind_some]
  simp only [if_neg nz]
  rw [if_pos (isO_at hb2), hfault]
  simp only [Option.bind_some]
  rw [if_neg hfz]
  simp only [Option.bind_some]
  rw [hroom]
  simp only [Option.bind_some]
  rw [if_pos (isO_at hb2), z_refusal h.bookB hb2]
  simp only [Option.bind_some]
  rw [if_neg nz, if_neg hfz, if_neg (show ¬ (4 : Int32) = 0 by decide)]
  have v23' : vN u 23 = vN (uI u6 4 (iI f)) 23 := (hE.numF 23 (by decide) (by decide) (by decide) (by decide) _).symm
  have := refuse_end hL K3 I3 n hn 4 (nc := (vN u 19).toNat) (nr := (vN u 33).toNat) (by rw [hE.numF 19 (by decide) (by decide) (by decide) (by decide)]) (by rw [hE.numF 33 (by decide) (by decide) (by decide) (by decide)])
  rw [← v23'] at this
  exact this
end LRF
