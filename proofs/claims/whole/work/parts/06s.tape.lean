/-! THE TAPE: end, feed -/
def topU (u w : MS) : MS := (fun k => if k = 1 then w.1 k else if k = 2 then w.1 k else if k = 3 then w.1 k else if k = 4 then w.1 k else if k < 40 then u.1 k else w.1 k, fun k => if k = 0 then w.2 k else if k < 40 then u.2 k else w.2 k)
theorem topU_self {u w : MS} (h1 : ∀ k, k ≠ 1 → k ≠ 2 → k ≠ 3 → k ≠ 4 → k < 40 → w.1 k = u.1 k) (h2 : ∀ k, k ≠ 0 → k < 40 → w.2 k = u.2 k) : topU u w = w := by
  apply Prod.ext
  · funext k
    show (if k = 1 then w.1 k else if k = 2 then w.1 k else if k = 3 then w.1 k else if k = 4 then w.1 k else if k < 40 then u.1 k else w.1 k) = w.1 k
    (repeat' split) <;> first | rfl | exact (h1 k (by assumption) (by assumption) (by assumption) (by assumption) (by assumption)).symm
  · funext k
    show (if k = 0 then w.2 k else if k < 40 then u.2 k else w.2 k) = w.2 k
    (repeat' split) <;> first | rfl | exact (h2 k (by assumption) (by assumption)).symm
section TOP
variable {B : Nat} {S : Nat → Nat} {L : Mem} {x0 : Nat} {ad rho : Nat → Nat} {xl : Nat → List Nat} {M M1 : Mem} {u w : MS} {sz nc nr : Nat}
theorem parP_top : parP (topU u w) = parP u := by
  funext c s l p
  unfold parP
  by_cases e : s = 1
  · rw [if_pos e]
    rfl
  · rw [if_neg e]
    rfl
theorem busyP_top : busyP (topU u w) = busyP u := by
  funext c d l
  unfold busyP
  rw [parP_top]
  rfl
theorem calS_top : calS (topU u w) = calS u := by
  funext c m d
  unfold calS busyS
  rw [busyP_top]
  rfl
theorem CouR_top (M : Mem) (m : Int) (c : Nat) : CouR ad rho M (topU u w) m c = CouR ad rho M u m c := by
  unfold CouR
  rw [calS_top]
  rfl
theorem Inv.top (h : Inv u xl) (hw : 0 ≤ vN w 1 ∧ vN w 1 ≤ 120) : Inv (topU u w) xl := by
  refine ⟨⟨⟨hw, h.1.1.2⟩, h.1.2⟩, h.2.1, h.2.2.1, ?_⟩
  have := h.2.2.2
  unfold CalF at *
  rw [busyP_top]
  exact this
theorem RepK.top (h : RepK B S L x0 ad rho xl M u sz) (hL : LOK B L) (k : ∀ id, 3 < id → Kept M rho id M1 rho) (hc : ∀ a, a < B → M1 a = M a) (hb : M1 x0 = some (.inl (14, booF ad (iI (stdS u)) (u.1 33) (u.1 10) (w.1 4) (w.1 2)))) (ht : TapR ad rho M1 w) (hr : ReaR ad rho M1 w) : RepK B S L x0 ad rho xl M1 (topU u w) sz := by
  obtain ⟨⟨c1, c2⟩, ⟨b1, b2, b3, b4⟩, t1, t2, t3, t4, t5⟩ := h
  refine ⟨⟨fun a e ha => ?_, c2⟩, ⟨⟨hb, b1.2⟩, ht, hr, b4.fr (k 4 (by decide)) (k 5 (by decide)) (k 6 (by decide)) (k 7 (by decide))⟩, ?_, ?_, ?_, ?_, ?_⟩
  · rw [hc a]
    · exact c1 a e ha
    · rcases Nat.lt_or_ge a B with q | q
      · exact q
      · rw [hL a q] at ha
        cases ha
  · exact fun i hi => (t1 i hi).fr (k _ (by omega)) (k _ (by omega)) (k _ (by omega)) (k _ (by omega))
  · exact fun i hi => (t2 i hi).fr (k _ (by omega))
  · intro i hi
    rw [CouR_top]
    exact (t3 i hi).fr (k _ (by omega)) (k _ (by omega))
  · exact fun i hi => (t4 i hi).fr (k _ (by omega)) (fun p _ => k _ (by omega))
  · exact fun i hi => (t5 i hi).fr (k _ (by omega))
/-- the tape's two cells -/
def TP (M : Mem) (a b : Nat) (s : Int) (f : Nat → Int32) : Prop := M a = some (.inl (12, [.ref b, .int (iI s)])) ∧ M b = some (.inr (.inl (0, 120, f)))
theorem TP.ne {a b : Nat} {s : Int} {f : Nat → Int32} (h : TP M a b s f) : a ≠ b := by
  intro e
  have h1 := h.1
  rw [e, h.2] at h1
  cases h1
theorem TapR.tp (h : TapR ad rho M u) : ∃ b, TP M (ad 2) b (vN u 1) (u.2 0) ∧ rho (ad 2) = 2 ∧ rho b = 2 := by
  obtain ⟨-, b, h1, h2⟩ := h
  refine ⟨b, ⟨?_, h2.1⟩, h1.2, h2.2⟩
  rw [h1.1, u1_iI]
theorem TP.set {a b : Nat} {s s2 : Int} {f : Nat → Int32} (h : TP M a b s f) : TP (va_up M a (some (.inl (12, [.ref b, .int (iI s2)])))) a b s2 f := ⟨va_up_self .., by rw [va_up_ne _ _ h.ne.symm]; exact h.2⟩
theorem z_keep {a b : Nat} {s : Int} {f : Nat → Int32} (h : TP M a b s f) (hB : B ≤ a) (n : Int) (hn : 0 ≤ n ∧ n ≤ s) (hs : s ≤ 120) : f_X9_keep B M (some a) (iI n) = some (va_up M a (some (.inl (12, [.ref b, .int (iI n)])))) := by
  unfold f_X9_keep
  rw [iI_zero, it_lt _ _ (by omega), if_neg (by omega), gI_at h.1]
  simp only [List.getElem?_cons_zero, List.getElem?_cons_succ, Option.bind_some]
  rw [it_lt _ _ (by omega), if_neg (by omega), pF_at hB h.1, if_pos (by simp)]
  rfl
theorem t_end (u : MS) (n : Int) (hn : -2147483648 ≤ n ∧ n < 2147483648) (h : NumOK u) : f_X12_end u (iI n) = if ¬ (0 ≤ n ∧ n ≤ vN u 1) then noS u 3 else fineS (uI u 1 (iI n)) n := by
  have hr := vN_rng u 1
  have e0 := t_isIn u n 0 (vN u 1) hn (by omega) hr
  unfold f_X12_end
  rw [u1_iI, show (0 : Int32) = iI 0 from rfl, e0, Option.bind_some, ib_z]
  rfl
theorem q_end (hL : LOK B L) (h : RepK B S L x0 ad rho xl M u sz) (hI : Inv u xl) (n : Int) (hn : -2147483648 ≤ n ∧ n < 2147483648) : Ans B S L x0 sz (vN u 19).toNat (vN u 33).toNat (f_X11_end B M (some x0) (iI n)) (f_X12_end u (iI n)) := by
  have h1 := hI.n1
  obtain ⟨b, tp, o1, o2⟩ := h.2.1.2.1.tp
  rw [t_end u n hn hI.num]
  unfold f_X11_end f_X9_size
  rw [iI_zero, it_lt _ _ (by omega), isO_at h.book, if_pos rfl, gR_at h.book]
  simp only [booF, List.getElem?_cons_zero, List.getElem?_cons_succ, Option.bind_some]
  rw [isO_at tp.1, if_pos rfl, gI_at tp.1]
  simp only [List.getElem?_cons_zero, List.getElem?_cons_succ, Option.bind_some, if_true]
  rw [it_le _ _ (by omega), z_refuse3 h, noKb]
  by_cases c1 : 0 ≤ n ∧ n ≤ vN u 1
  · have hb2 : B ≤ ad 2 := (h.1.2 _ (by rw [o1]; decide)).1
    have hx : x0 ≠ ad 2 := by
      intro e
      have := h.2.1.1.2
      rw [e, o1] at this
      cases this
    rw [if_neg (by omega), if_pos c1.2, if_neg (show ¬ ¬ (0 ≤ n ∧ n ≤ vN u 1) from fun q => q c1), z_keep tp hb2 n c1 h1.2]
    simp only [Option.bind_some]
    have hbk : (va_up M (ad 2) (some (.inl (12, [.ref b, .int (iI n)])))) x0 = some (.inl (14, booF ad (iI (stdS u)) (u.1 33) (u.1 10) (u.1 4) (u.1 2))) := by
      rw [va_up_ne _ _ hx]
      exact h.book
    have hw : topU u (uI u 1 (iI n)) = uI u 1 (iI n) := topU_self (fun k k1 _ _ _ _ => by simp [uI, upd, k1]) (fun k _ _ => rfl)
    have hk : RepK B S L x0 ad rho xl (va_up M (ad 2) (some (.inl (12, [.ref b, .int (iI n)])))) (uI u 1 (iI n)) sz := by
      rw [← hw]
      refine h.top hL (fun id hid a ha => ⟨va_up_ne _ _ (fun e => ?_), ha⟩) (fun a ha => va_up_ne _ _ (by omega)) hbk ⟨fun k hk => h.2.1.2.1.1 k (by rw [vN_uI _ _ _ _ (by omega), if_pos rfl] at hk; omega), b, ⟨?_, o1⟩, ⟨tp.set.2, o2⟩⟩ (h.2.1.2.2.1.fr (fun a ha => ⟨va_up_ne _ _ (fun e => ?_), ha⟩))
      · rw [e, o1] at ha; omega
      · rw [va_up_self]; simp [uI, upd]
      · rw [e, o1] at ha; omega
    have hI2 : Inv (uI u 1 (iI n)) xl := by
      rw [← hw]
      exact hI.top (by rw [vN_uI _ _ _ _ (by omega), if_pos rfl]; omega)
    rw [isO_at hbk, if_pos rfl, z_answer hk, fineKb]
    exact ans_fine hL hk hI2 n
  · rw [if_pos c1]
    by_cases c2 : n < 0
    · rw [if_pos c2]
      exact ans_no hL h hI 3
    · rw [if_neg c2, if_neg (by omega)]
      exact ans_no hL h hI 3
/-! feed: a byte, a word, five words -/
theorem sh_gen (y : BitVec 32) (k : Nat) (hk : k ≤ 24) : (y >>> k) &&& 255#32 = (y.sshiftRight k) &&& 255#32 := by
  apply BitVec.eq_of_getLsbD_eq
  intro i hi
  rw [BitVec.getLsbD_and, BitVec.getLsbD_and, BitVec.getLsbD_ushiftRight, BitVec.getLsbD_sshiftRight]
  by_cases c : i < 8
  · rw [if_pos (by omega), decide_eq_false (by omega)]
    simp
  · have : (255#32).getLsbD i = false := by
      have h2 : ∀ j : Fin 32, ¬ j.1 < 8 → (255#32).getLsbD j.1 = false := by decide
      exact h2 ⟨i, hi⟩ c
    rw [this, Bool.and_false, Bool.and_false]
theorem sh_24 (x : Int32) : (x.toUInt32 >>> ((iI 24).toUInt32 &&& Int32.toUInt32 31)).toInt32 &&& (255 : Int32) = (x >>> ((24 : Int32) &&& 31)) &&& (255 : Int32) := by
  apply Int32.toBitVec_inj.mp
  have e1 : (x >>> ((24 : Int32) &&& 31)).toBitVec = x.toBitVec.sshiftRight 24 := rfl
  have e2 : (x.toUInt32 >>> ((iI 24).toUInt32 &&& Int32.toUInt32 31)).toInt32.toBitVec = x.toBitVec >>> 24 := rfl
  show (x.toUInt32 >>> ((iI 24).toUInt32 &&& Int32.toUInt32 31)).toInt32.toBitVec &&& 255#32 = (x >>> ((24 : Int32) &&& 31)).toBitVec &&& 255#32
  rw [e1, e2]
  exact sh_gen _ _ (by decide)
theorem sh_16 (x : Int32) : (x.toUInt32 >>> ((iI 16).toUInt32 &&& Int32.toUInt32 31)).toInt32 &&& (255 : Int32) = (x >>> ((16 : Int32) &&& 31)) &&& (255 : Int32) := by
  apply Int32.toBitVec_inj.mp
  have e1 : (x >>> ((16 : Int32) &&& 31)).toBitVec = x.toBitVec.sshiftRight 16 := rfl
  have e2 : (x.toUInt32 >>> ((iI 16).toUInt32 &&& Int32.toUInt32 31)).toInt32.toBitVec = x.toBitVec >>> 16 := rfl
  show (x.toUInt32 >>> ((iI 16).toUInt32 &&& Int32.toUInt32 31)).toInt32.toBitVec &&& 255#32 = (x >>> ((16 : Int32) &&& 31)).toBitVec &&& 255#32
  rw [e1, e2]
  exact sh_gen _ _ (by decide)
theorem sh_8 (x : Int32) : (x.toUInt32 >>> ((iI 8).toUInt32 &&& Int32.toUInt32 31)).toInt32 &&& (255 : Int32) = (x >>> ((8 : Int32) &&& 31)) &&& (255 : Int32) := by
  apply Int32.toBitVec_inj.mp
  have e1 : (x >>> ((8 : Int32) &&& 31)).toBitVec = x.toBitVec.sshiftRight 8 := rfl
  have e2 : (x.toUInt32 >>> ((iI 8).toUInt32 &&& Int32.toUInt32 31)).toInt32.toBitVec = x.toBitVec >>> 8 := rfl
  show (x.toUInt32 >>> ((iI 8).toUInt32 &&& Int32.toUInt32 31)).toInt32.toBitVec &&& 255#32 = (x >>> ((8 : Int32) &&& 31)).toBitVec &&& 255#32
  rw [e1, e2]
  exact sh_gen _ _ (by decide)
theorem sh_0 (x : Int32) : (x.toUInt32 >>> ((iI 0).toUInt32 &&& Int32.toUInt32 31)).toInt32 &&& (255 : Int32) = (x >>> ((0 : Int32) &&& 31)) &&& (255 : Int32) := by
  apply Int32.toBitVec_inj.mp
  have e1 : (x >>> ((0 : Int32) &&& 31)).toBitVec = x.toBitVec.sshiftRight 0 := rfl
  have e2 : (x.toUInt32 >>> ((iI 0).toUInt32 &&& Int32.toUInt32 31)).toInt32.toBitVec = x.toBitVec >>> 0 := rfl
  show (x.toUInt32 >>> ((iI 0).toUInt32 &&& Int32.toUInt32 31)).toInt32.toBitVec &&& 255#32 = (x >>> ((0 : Int32) &&& 31)).toBitVec &&& 255#32
  rw [e1, e2]
  exact sh_gen _ _ (by decide)
end TOP
