/-! LOAN: the joint state while couriers are found -/
def GEq (u1 u : MS) (l : Nat) : Prop := u.1 = u1.1 ∧ ∀ k i, k ≠ 40 → ¬ ((k = 31 ∨ k = 32) ∧ l * 16 ≤ i ∧ i < l * 16 + 16) → u.2 k i = u1.2 k i
section GEQ
variable {u1 u : MS} {l : Nat} {xl : Nat → List Nat}
theorem GEq.row (h : GEq u1 u l) {k : Nat} (hk : k ≠ 31 ∧ k ≠ 32 ∧ k ≠ 40) : u.2 k = u1.2 k := funext fun i => h.2 k i hk.2.2 (by omega)
theorem GEq.vr (h : GEq u1 u l) {k : Nat} (hk : k ≠ 31 ∧ k ≠ 32 ∧ k ≠ 40) (i : Nat) : vR u k i = vR u1 k i := by
  unfold vR
  rw [h.row hk]
theorem GEq.vn (h : GEq u1 u l) (k : Nat) : vN u k = vN u1 k := by
  unfold vN
  rw [h.1]
theorem GEq.same (h : GEq u1 u l) (hl : (vN u1 23).toNat ≤ l) : Same u1 u := by
  refine ⟨⟨by rw [h.1], h.row (by omega), h.row (by omega), h.row (by omega)⟩, fun i _ k k1 k2 => by rw [h.row (by omega)], fun i _ k k1 k2 => by rw [h.row (by omega)], fun i _ => ⟨by rw [h.row (by omega)], fun j _ => ⟨by rw [h.row (by omega)], by rw [h.row (by omega)]⟩⟩, fun q hq => ⟨fun k k1 k2 => by rw [h.row (by omega)], fun p hp k k1 k2 => h.2 k _ (by omega) (by omega)⟩, fun r _ => ⟨fun k k1 k2 => by rw [h.row (by omega)], fun j _ k k1 k2 => by rw [h.row (by omega)]⟩⟩
theorem GEq.way (h : GEq u1 u l) (q : Int) : wayS u q = wayS u1 q := by
  unfold wayS
  rw [h.vr (by decide), h.vr (by decide)]
theorem GEq.len (h : GEq u1 u l) (q : Int) : lenS u q = lenS u1 q := by
  unfold lenS
  rw [h.vr (by decide), h.vr (by decide), h.vr (by decide)]
theorem GEq.loanOK (h : GEq u1 u l) {q : Int} (hk : LoanOK u1 q) : LoanOK u q := by
  unfold LoanOK at hk ⊢
  rw [h.vr (by decide), h.vr (by decide), h.vr (by decide), h.vr (by decide)]
  exact hk
theorem GEq.val (h : GEq u1 u l) (t d : Int) : valS u t d = valS u1 t d := by
  have key : ∀ i, valF u t d i = valF u1 t d i := by
    intro i
    induction i with
    | zero =>
      unfold valF
      rw [h.vr (by decide)]
    | succ i ih =>
      unfold valF
      rw [ih, h.vr (by decide), h.vr (by decide), h.vr (by decide)]
  unfold valS
  rw [key, h.vn]
theorem GEq.pack (h : GEq u1 u l) (q p t : Int) : packP u q p t = packP u1 q p t := by
  unfold packP hadS
  rw [h.vr (by decide), h.row (by decide)]
theorem GEq.worth (h : GEq u1 u l) (q p d : Int) : worthS u q p d = worthS u1 q p d := by
  unfold worthS
  rw [h.vn]
  exact sumI_congr (fun t _ _ => by rw [h.pack, h.val])
theorem GEq.parf (h : GEq u1 u l) {xs : List Nat} {q p : Nat} (hF : ParF u1 xs q p) : ParF u xs q p := by
  unfold ParF at hF ⊢
  rw [h.vn, show (fun t : Nat => packP u q p t) = fun t : Nat => packP u1 q p t from funext fun t => h.pack q p t]
  exact hF
theorem Inv.sm0 (hs : Same u1 u) (h1 : u.1 = u1.1) (hI : Inv u1 xl) : Inv u xl := by
  have hv : ∀ k, vN u k = vN u1 k := fun k => by
    unfold vN
    rw [h1]
  refine hI.sm hs ?_ (by rw [hv]; omega) (by rw [hv]; omega) (by rw [hv]; omega) (hv 23) (fun i i1 i2 => by rw [hv] at i2; omega) (fun i i1 i2 => by rw [hv] at i2; omega) (fun i i1 i2 => by rw [hv] at i2; omega) (fun i i1 i2 => by rw [hv] at i2; omega) (ListsF.sm hs hI (hv 5) (hv 23) (hv 33))
  unfold NumOK
  simp only [hv]
  exact hI.num
theorem Same.trans {u0 : MS} (h : Same u0 u1) (h1 : u1.1 = u0.1) (h2 : Same u1 u) : Same u0 u := by
  have hv : ∀ k, vN u1 k = vN u0 k := fun k => by
    unfold vN
    rw [h1]
  obtain ⟨a1, a2, a3, a4, a5, a6⟩ := h
  obtain ⟨b1, b2, b3, b4, b5, b6⟩ := h2
  simp only [hv] at b2 b3 b4 b5 b6
  refine ⟨⟨b1.1.trans a1.1, b1.2.1.trans a1.2.1, b1.2.2.1.trans a1.2.2.1, b1.2.2.2.trans a1.2.2.2⟩, fun i hi k k1 k2 => (b2 i hi k k1 k2).trans (a2 i hi k k1 k2), fun i hi k k1 k2 => (b3 i hi k k1 k2).trans (a3 i hi k k1 k2), fun i hi => ⟨(b4 i hi).1.trans (a4 i hi).1, fun j hj => ⟨((b4 i hi).2 j hj).1.trans ((a4 i hi).2 j hj).1, ((b4 i hi).2 j hj).2.trans ((a4 i hi).2 j hj).2⟩⟩, fun q hq => ⟨fun k k1 k2 => ((b5 q hq).1 k k1 k2).trans ((a5 q hq).1 k k1 k2), fun p hp k k1 k2 => ((b5 q hq).2 p hp k k1 k2).trans ((a5 q hq).2 p hp k k1 k2)⟩, fun r hr => ⟨fun k k1 k2 => ((b6 r hr).1 k k1 k2).trans ((a6 r hr).1 k k1 k2), fun j hj k k1 k2 => ((b6 r hr).2 j hj k k1 k2).trans ((a6 r hr).2 j hj k k1 k2)⟩⟩
end GEQ
/-- only the row of marks differs -/
def E40 (u u2 : MS) : Prop := u2.1 = u.1 ∧ ∀ k, k ≠ 40 → u2.2 k = u.2 k
section E4
variable {u u2 : MS} {l : Nat}
theorem E40.vr (h : E40 u u2) {k : Nat} (hk : k ≠ 40) (i : Nat) : vR u2 k i = vR u k i := by
  unfold vR
  rw [h.2 k hk]
theorem E40.stage (h : E40 u u2) (q d : Int) : stageS u2 q d = stageS u q d := by
  unfold stageS lenS
  rw [h.vr (by decide), h.vr (by decide), h.vr (by decide), h.vr (by decide)]
theorem E40.par (h : E40 u u2) (c s q p : Int) : parP u2 c s q p = parP u c s q p := by
  unfold parP
  rw [h.vr (by split <;> decide)]
theorem E40.busy (h : E40 u u2) (c d q : Int) : busyP u2 c d q = busyP u c d q := by
  unfold busyP
  rw [h.vr (by decide), h.vr (by decide), h.stage, anyI_congr (fun p _ _ => h.par c _ q p)]
theorem E40.may (h : E40 u u2) (c d : Int) : mayS u2 c d = mayS u c d := by
  unfold mayS
  rw [h.vr (by decide)]
  refine anyI_congr (fun p _ _ => ?_)
  unfold spanP
  rw [h.vr (by decide), h.vr (by decide)]
theorem E40.load (h : E40 u u2) (c q : Int) : loaD u2 c q = loaD u c q := by
  unfold loaD
  rw [h.vr (by decide), h.vr (by decide)]
  have : ∀ p, parD u2 c q p = parD u c q p := fun p => by
    unfold parD wayS
    rw [h.vr (by decide), h.vr (by decide), h.vr (by decide), h.vr (by decide)]
  rw [sumI_congr (fun p _ _ => this p)]
theorem E40.cal (h : E40 u u2) (c m d : Int) : calS u2 c m d = calS u c m d := by
  have e : busyS u2 c d m = busyS u c d m := by
    unfold busyS
    exact fstI_congr (fun q _ _ => h.busy c d q)
  unfold calS
  rw [e, h.may]
theorem E40.taken (h : E40 u u2) (c m : Int) : takenS u2 c m = takenS u c m := by
  unfold takenS
  exact sumI_congr (fun q _ _ => h.load c q)
theorem E40.slg (h : E40 u u2) (hG : SlG u l) : SlG u2 l := by
  have hn : vN u2 19 = vN u 19 := by
    unfold vN
    rw [h.1]
  obtain ⟨g1, g2, g3⟩ := hG
  refine ⟨fun c d l2 hc h1 h2 hb => ?_, fun c d hc hb => ?_, fun c hc => ?_⟩
  · rw [h.busy] at hb ⊢
    exact g1 c d l2 (by rw [← hn]; exact hc) h1 h2 hb
  · rw [h.busy] at hb
    rw [h.may]
    exact g2 c d (by rw [← hn]; exact hc) hb
  · rw [h.load, g3 c (by rw [← hn]; exact hc)]
    exact sumI_congr (fun d _ _ => by rw [h.busy])
end E4
def DraG (S : Nat → Nat) (ad : Nat → Nat) (M : Mem) (rh : Nat → Nat) (u : MS) (l a0 : Nat) (pa : Nat → Nat) (ct : Nat → List Nat) (P : Nat) : Prop := (∃ q, At M rh 1 a0 (.inl (7, [.ref (ad (5000 + (vR u 25 l).toNat)), .int (u.2 26 l), .ref q, .int (u.2 24 l), .int (u.2 27 l)])) ∧ LisR S M rh 2 q ((List.range P).map pa)) ∧ ∀ p, p < P → ∃ c, At M rh (10 + 2 * p) (pa p) (.inl (8, [.int (iI (sumN (fun t => vR u 8 t) (ct p))), .ref c, .int (u.2 31 (l * 16 + p)), .int (u.2 32 (l * 16 + p))])) ∧ LisR S M rh (11 + 2 * p) c ((ct p).map (fun t => ad (1000 + t)))
def Fix (B : Nat) (S : Nat → Nat) (L : Mem) (x0 : Nat) (ad rho : Nat → Nat) (xl : Nat → List Nat) (MK M1 : Mem) (uS u1 : MS) (sz zz : Nat) (rh : Nat → Nat) (ct : Nat → List Nat) (l P : Nat) : Prop := (RepK B S L x0 ad rho xl MK uS sz ∧ Inv uS xl) ∧ (Same uS u1 ∧ u1.1 = uS.1 ∧ Inv u1 xl) ∧ (vN uS 23 = (l : Int) ∧ l < 17) ∧ OwnD rh sz zz P ∧ (LoanOK u1 l ∧ vR u1 24 l ≠ 0 ∧ (0 ≤ vR u1 25 l ∧ vR u1 25 l < vN uS 14)) ∧ (vR u1 29 l = P ∧ P ≤ 16) ∧ (∀ p, ParF u1 (ct p) l p) ∧ vR u1 26 l + lenS u1 l ≤ 1000 ∧ (∀ y, y ≠ x0 → MK y = M1 y) ∧ (∃ v, M1 x0 = some (.inl (14, booF ad (iI (stdS uS)) (uS.1 33) (uS.1 10) v (uS.1 2)))) ∧ u1.2 0 = uS.2 0
def GS (S : Nat → Nat) (ad rho : Nat → Nat) (M1 : Mem) (u1 : MS) (rh : Nat → Nat) (a0 : Nat) (pa : Nat → Nat) (ct : Nat → List Nat) (l P : Nat) (u : MS) (M : Mem) : Prop := GEq u1 u l ∧ (∀ y, rh y = 0 → (∀ c, c < (vN u1 19).toNat → rho y ≠ 7000 + c) → M y = M1 y) ∧ DraG S ad M rh u l a0 pa ct P ∧ (∀ c, c < (vN u1 19).toNat → CalR M rho (7000 + c) (ad (7000 + c)) (calS u c ((l : Int) + 1)) (takenS u c ((l : Int) + 1))) ∧ SlG u l ∧ ∀ p, p < P → (-1 ≤ vR u 31 (l * 16 + p) ∧ vR u 31 (l * 16 + p) < vN u1 19) ∧ (-1 ≤ vR u 32 (l * 16 + p) ∧ vR u 32 (l * 16 + p) < vN u1 19)
theorem GS.e40 {S : Nat → Nat} {ad rho rh pa : Nat → Nat} {M1 M : Mem} {u1 u u2 : MS} {a0 l P : Nat} {ct : Nat → List Nat} (h : GS S ad rho M1 u1 rh a0 pa ct l P u M) (e : E40 u u2) : GS S ad rho M1 u1 rh a0 pa ct l P u2 M := by
  obtain ⟨h1, h2, h3, h4, h5, h6⟩ := h
  refine ⟨⟨e.1.trans h1.1, fun k i k1 k2 => by rw [e.2 k k1]; exact h1.2 k i k1 k2⟩, h2, ?_, fun c hc => (h4 c hc).congr (fun d => e.cal c _ d) (e.taken c _), e.slg h5, fun p hp => ?_⟩
  · unfold DraG
    rw [e.2 24 (by decide), e.2 26 (by decide), e.2 27 (by decide), e.2 31 (by decide), e.2 32 (by decide), e.vr (by decide), show (fun t => vR u2 8 t) = fun t => vR u 8 t from funext fun t => e.vr (by decide) t]
    exact h3
  · rw [e.vr (by decide), e.vr (by decide)]
    exact h6 p hp
