/-! A STATE OF THE REFERENCE IN WHICH ALL THAT WAS TOLD STANDS STILL: the rows at lower numbers are the same -/
def Same (u u1 : MS) : Prop :=
  (u1.1 10 = u.1 10 ∧ u1.2 11 = u.2 11 ∧ u1.2 12 = u.2 12 ∧ u1.2 13 = u.2 13) ∧
  (∀ i, i < (vN u 5).toNat → ∀ k, 6 ≤ k → k ≤ 9 → u1.2 k i = u.2 k i) ∧
  (∀ i, i < (vN u 14).toNat → ∀ k, 15 ≤ k → k ≤ 18 → u1.2 k i = u.2 k i) ∧
  (∀ c, c < (vN u 19).toNat → u1.2 20 c = u.2 20 c ∧ ∀ j, j < 40 → u1.2 21 (c * 40 + j) = u.2 21 (c * 40 + j) ∧ u1.2 22 (c * 40 + j) = u.2 22 (c * 40 + j)) ∧
  (∀ l, l < (vN u 23).toNat → (∀ k, 24 ≤ k → k ≤ 29 → u1.2 k l = u.2 k l) ∧ ∀ p, p < 16 → ∀ k, 30 ≤ k → k ≤ 32 → u1.2 k (l * 16 + p) = u.2 k (l * 16 + p)) ∧
  ∀ r, r < (vN u 33).toNat → (∀ k, 34 ≤ k → k ≤ 36 → u1.2 k r = u.2 k r) ∧ ∀ j, j < 16 → ∀ k, 37 ≤ k → k ≤ 39 → u1.2 k (r * 16 + j) = u.2 k (r * 16 + j)
theorem fstI_congr {p q : Int → Bool} {c : Nat} {i : Int} (h : ∀ k, i ≤ k → k < i + c → p k = q k) : fstI p c i = fstI q c i := by
  induction c generalizing i with
  | zero => rfl
  | succ c ih =>
    unfold fstI
    rw [h i (by omega) (by omega), ih (fun k k1 k2 => h k (by omega) (by omega))]
theorem anyI_congr {p q : Int → Bool} {c : Nat} {i : Int} (h : ∀ k, i ≤ k → k < i + c → p k = q k) : anyI p c i = anyI q c i := by
  induction c generalizing i with
  | zero => rfl
  | succ c ih =>
    unfold anyI
    rw [h i (by omega) (by omega), ih (fun k k1 k2 => h k (by omega) (by omega))]
theorem anyI_false {p : Int → Bool} {c : Nat} {i : Int} (h : ∀ k, i ≤ k → k < i + c → p k = false) : anyI p c i = false := by
  induction c generalizing i with
  | zero => rfl
  | succ c ih =>
    unfold anyI
    rw [h i (by omega) (by omega), ih (fun k k1 k2 => h k (by omega) (by omega))]
    rfl
theorem spaT_congr {f f1 g g1 : Int → Int} {c : Nat} {i : Int} (h : ∀ k, i ≤ k → k < i + c → f1 k = f k ∧ g1 k = g k) : spaT f1 g1 c i = spaT f g c i := by
  induction c generalizing i with
  | zero => rfl
  | succ c ih =>
    unfold spaT
    rw [(h i (by omega) (by omega)).1, (h i (by omega) (by omega)).2, ih (fun k k1 k2 => h k (by omega) (by omega))]
theorem harT_congr {f f1 g g1 : Nat → Int} {l : List Nat} {b : Bool} (h : ∀ j, j ∈ l → f1 j = f j ∧ g1 j = g j) : harT f1 g1 l b = harT f g l b := by
  induction l generalizing b with
  | nil => rfl
  | cons a l ih =>
    unfold harT
    rw [(h a (by simp)).1, (h a (by simp)).2, ih (fun j hj => h j (by simp [hj]))]
theorem sumI_more {f : Int → Int} {n m : Nat} (h : n ≤ m) (h0 : ∀ k : Int, n ≤ k → k < m → f k = 0) : sumI f m 0 = sumI f n 0 := by
  obtain ⟨d, rfl⟩ : ∃ d, m = n + d := ⟨m - n, by omega⟩
  rw [sumI_split, sumI_null (c := d) (fun k k1 k2 => h0 k (by omega) (by omega)), Int.add_zero]
section SAME
variable {S : Nat → Nat} {ad rho : Nat → Nat} {M : Mem} {u u1 : MS} {xl : Nat → List Nat}
theorem Same.th (hs : Same u u1) {i : Nat} (hi : i < (vN u 5).toNat) (k : Nat) (h1 : 6 ≤ k) (h2 : k ≤ 9) : vR u1 k i = vR u k i := by
  unfold vR
  rw [hs.2.1 i hi k h1 h2]
theorem Same.ho (hs : Same u u1) {i : Nat} (hi : i < (vN u 14).toNat) (k : Nat) (h1 : 15 ≤ k) (h2 : k ≤ 18) : vR u1 k i = vR u k i := by
  unfold vR
  rw [hs.2.2.1 i hi k h1 h2]
theorem Same.lo (hs : Same u u1) {l : Nat} (hl : l < (vN u 23).toNat) (k : Nat) (h1 : 24 ≤ k) (h2 : k ≤ 29) : vR u1 k l = vR u k l := by
  unfold vR
  rw [(hs.2.2.2.2.1 l hl).1 k h1 h2]
theorem Same.lp (hs : Same u u1) {l : Nat} (hl : l < (vN u 23).toNat) {p : Nat} (hp : p < 16) (k : Nat) (h1 : 30 ≤ k) (h2 : k ≤ 32) : vR u1 k (l * 16 + p) = vR u k (l * 16 + p) := by
  unfold vR
  rw [(hs.2.2.2.2.1 l hl).2 p hp k h1 h2]
theorem Same.re (hs : Same u u1) {r : Nat} (hr : r < (vN u 33).toNat) (k : Nat) (h1 : 34 ≤ k) (h2 : k ≤ 36) : vR u1 k r = vR u k r := by
  unfold vR
  rw [(hs.2.2.2.2.2 r hr).1 k h1 h2]
theorem Same.rh (hs : Same u u1) {r : Nat} (hr : r < (vN u 33).toNat) {j : Nat} (hj : j < 16) (k : Nat) (h1 : 37 ≤ k) (h2 : k ≤ 39) : vR u1 k (r * 16 + j) = vR u k (r * 16 + j) := by
  unfold vR
  rw [(hs.2.2.2.2.2 r hr).2 j hj k h1 h2]
theorem Same.ap (hs : Same u u1) : vN u1 10 = vN u 10 := by
  unfold vN
  rw [hs.1.1]
theorem Same.tThi (hs : Same u u1) {i : Nat} (hi : i < (vN u 5).toNat) : thiT u1 i = thiT u i := by
  unfold thiT
  rw [hs.th hi 6 (by omega) (by omega), hs.th hi 7 (by omega) (by omega), hs.th hi 8 (by omega) (by omega), hs.2.1 i hi 9 (by omega) (by omega)]
theorem Same.tHou (hs : Same u u1) {i : Nat} (hi : i < (vN u 14).toNat) : houT u1 i = houT u i := by
  unfold houT
  rw [hs.ho hi 15 (by omega) (by omega), hs.ho hi 16 (by omega) (by omega), hs.ho hi 17 (by omega) (by omega), hs.ho hi 18 (by omega) (by omega)]
theorem Same.spn (hs : Same u u1) {c : Nat} (hc : c < (vN u 19).toNat) : vR u1 20 c = vR u 20 c := by
  unfold vR
  rw [(hs.2.2.2.1 c hc).1]
theorem Same.spa (hs : Same u u1) {c : Nat} (hc : c < (vN u 19).toNat) {j : Nat} (hj : j < 40) : vR u1 21 (c * 40 + j) = vR u 21 (c * 40 + j) ∧ vR u1 22 (c * 40 + j) = vR u 22 (c * 40 + j) := by
  unfold vR
  rw [((hs.2.2.2.1 c hc).2 j hj).1, ((hs.2.2.2.1 c hc).2 j hj).2]
  exact ⟨rfl, rfl⟩
theorem Same.tCou (hs : Same u u1) (hI : Inv u xl) {c : Nat} (hc : c < (vN u 19).toNat) : couT u1 c = couT u c := by
  have h1 := (hI.spn c hc).1
  unfold couT
  rw [hs.spn hc]
  refine spaT_congr (fun k k1 k2 => ?_)
  have := hs.spa hc (j := k.toNat) (by omega)
  rw [show ((c : Int) * 40 + k).toNat = c * 40 + k.toNat by omega]
  exact this
theorem Same.may (hs : Same u u1) (hI : Inv u xl) {c : Nat} (hc : c < (vN u 19).toNat) (d : Int) : mayS u1 c d = mayS u c d := by
  have h1 := (hI.spn c hc).1
  unfold mayS
  rw [Int.toNat_natCast, hs.spn hc]
  refine anyI_congr (fun k k1 k2 => ?_)
  have := hs.spa hc (j := k.toNat) (by omega)
  unfold spanP
  rw [show ((c : Int) * 40 + k).toNat = c * 40 + k.toNat by omega, this.1, this.2]
theorem Same.way (hs : Same u u1) (hI : Inv u xl) {l : Nat} (hl : l < (vN u 23).toNat) : vR u1 15 (vR u1 25 l).toNat = vR u 15 (vR u 25 l).toNat := by
  have h1 := hI.hof l hl
  rw [hs.lo hl 25 (by omega) (by omega), hs.ho (i := (vR u 25 l).toNat) (by omega) 15 (by omega) (by omega)]
theorem Same.len (hs : Same u u1) (hI : Inv u xl) {l : Nat} (hl : l < (vN u 23).toNat) : lenS u1 l = lenS u l := by
  unfold lenS
  rw [Int.toNat_natCast, hs.way hI hl, hs.lo hl 27 (by omega) (by omega)]
theorem Same.stage (hs : Same u u1) (hI : Inv u xl) {l : Nat} (hl : l < (vN u 23).toNat) (d : Int) : stageS u1 l d = stageS u l d := by
  unfold stageS
  rw [hs.len hI hl, Int.toNat_natCast, hs.way hI hl, hs.lo hl 27 (by omega) (by omega), hs.lo hl 26 (by omega) (by omega)]
theorem Same.had (hs : Same u u1) {l : Nat} (hl : l < (vN u 23).toNat) (t : Int) : hadS u1 l t = hadS u l t := by
  unfold hadS
  rw [Int.toNat_natCast, (hs.2.2.2.2.1 l hl).1 28 (by omega) (by omega)]
theorem Same.onq (hs : Same u u1) (hI : Inv u xl) {l : Nat} (hl : l < (vN u 23).toNat) (t d : Int) : onL u1 t d l = onL u t d l := by
  unfold onL
  rw [hs.len hI hl, hs.had hl, Int.toNat_natCast, hs.lo hl 26 (by omega) (by omega), hs.lo hl 24 (by omega) (by omega)]
theorem Same.pars (hs : Same u u1) {l : Nat} (hl : l < (vN u 23).toNat) (c s p : Int) (hp : 0 ≤ p ∧ p < 16) : parP u1 c s l p = parP u c s l p := by
  have e : ((l : Int) * 16 + p).toNat = l * 16 + p.toNat := by omega
  unfold parP
  rw [e]
  by_cases q : s = 1
  · rw [if_pos q, hs.lp hl (by omega) 31 (by omega) (by omega)]
  · rw [if_neg q, hs.lp hl (by omega) 32 (by omega) (by omega)]
theorem Same.bsyP (hs : Same u u1) (hI : Inv u xl) {l : Nat} (hl : l < (vN u 23).toNat) (c d : Int) : busyP u1 c d l = busyP u c d l := by
  have h1 := hI.par l hl
  unfold busyP
  rw [hs.stage hI hl, Int.toNat_natCast, hs.lo hl 24 (by omega) (by omega), hs.lo hl 29 (by omega) (by omega), anyI_congr (fun k k1 k2 => hs.pars hl c (stageS u l d) k (by omega))]
theorem Same.load (hs : Same u u1) (hI : Inv u xl) {l : Nat} (hl : l < (vN u 23).toNat) (c : Int) : loaD u1 c l = loaD u c l := by
  have h1 := hI.par l hl
  have e2 : sumI (parD u1 c l) (vR u 29 l).toNat 0 = sumI (parD u c l) (vR u 29 l).toNat 0 := sumI_congr (fun k k1 k2 => by
    have e : ((l : Int) * 16 + k).toNat = l * 16 + k.toNat := by omega
    unfold parD wayS
    rw [e, Int.toNat_natCast, hs.way hI hl, hs.lp hl (p := k.toNat) (by omega) 31 (by omega) (by omega), hs.lp hl (p := k.toNat) (by omega) 32 (by omega) (by omega)])
  unfold loaD
  rw [Int.toNat_natCast, hs.lo hl 24 (by omega) (by omega), hs.lo hl 29 (by omega) (by omega), e2]
theorem Same.lnS (hs : Same u u1) (hI : Inv u xl) (h23 : vN u1 23 = vN u 23) (t d : Int) : loanS u1 t d = loanS u t d := by
  have h0 := hI.n23
  unfold loanS
  rw [h23]
  refine fstI_congr (fun k k1 k2 => ?_)
  have := hs.onq hI (l := k.toNat) (by omega) t d
  rwa [show ((k.toNat : Nat) : Int) = k by omega] at this
theorem Same.bsyS (hs : Same u u1) (hI : Inv u xl) (c d : Int) : busyS u1 c d (vN u 23) = busyS u c d (vN u 23) := by
  have h0 := hI.n23
  unfold busyS
  refine fstI_congr (fun k k1 k2 => ?_)
  have := hs.bsyP hI (l := k.toNat) (by omega) c d
  rwa [show ((k.toNat : Nat) : Int) = k by omega] at this
theorem Same.clS (hs : Same u u1) (hI : Inv u xl) {c : Nat} (hc : c < (vN u 19).toNat) (d : Int) : calS u1 c (vN u 23) d = calS u c (vN u 23) d := by
  unfold calS
  rw [hs.bsyS hI, hs.may hI hc]
theorem Same.taken (hs : Same u u1) (hI : Inv u xl) (c : Int) : takenS u1 c (vN u 23) = takenS u c (vN u 23) := by
  have h0 := hI.n23
  unfold takenS
  refine sumI_congr (fun k k1 k2 => ?_)
  have := hs.load hI (l := k.toNat) (by omega) c
  rwa [show ((k.toNat : Nat) : Int) = k by omega] at this
theorem Same.std (hs : Same u u1) (hI : Inv u xl) (h23 : vN u1 23 = vN u 23) : stdS u1 = stdS u := by
  have h0 := hI.n23
  unfold stdS
  rw [h23]
  refine sumI_congr (fun k k1 k2 => ?_)
  rw [hs.lo (l := k.toNat) (by omega) 24 (by omega) (by omega)]
theorem Same.pack (hs : Same u u1) {l : Nat} (hl : l < (vN u 23).toNat) (p t : Int) (ht : 0 ≤ t ∧ t < 16) : packP u1 l p t = packP u l p t := by
  have e : ((l : Int) * 16 + t).toNat = l * 16 + t.toNat := by omega
  unfold packP
  rw [hs.had hl, e, hs.lp hl (by omega) 30 (by omega) (by omega)]
theorem pack_new (hI : Inv u xl) {l : Nat} (hl : l < (vN u 23).toNat) (p t : Int) (ht : vN u 5 ≤ t ∧ t < 16) : packP u l p t = false := by
  have h5 := hI.n5
  have hh : hadS u l t = false := by
    cases e : hadS u l t with
    | false => rfl
    | true =>
      have := ((hI.loak l hl).2.2.2.2.1 t.toNat (by omega) (by rw [show ((t.toNat : Nat) : Int) = t by omega]; exact e)).1
      omega
  unfold packP
  rw [hh]
  rfl
theorem Same.weigh (hs : Same u u1) (hI : Inv u xl) (h5 : vN u 5 ≤ vN u1 5 ∧ vN u1 5 ≤ 16) {l : Nat} (hl : l < (vN u 23).toNat) (p : Int) : weighS u1 l p = weighS u l p := by
  have h0 := hI.n5
  unfold weighS
  rw [sumI_more (n := (vN u 5).toNat) (m := (vN u1 5).toNat) (by omega) (fun k k1 k2 => by
    rw [hs.pack hl p k (by omega), pack_new hI hl p k (by omega)]
    rfl)]
  refine sumI_congr (fun k k1 k2 => ?_)
  rw [hs.pack hl p k (by omega), hs.th (i := k.toNat) (by omega) 8 (by omega) (by omega)]
theorem Same.key (hs : Same u u1) {r : Nat} (hr : r < (vN u 33).toNat) {j : Nat} (hj : j < 16) : keyS u1 r j = keyS u r j := by
  unfold keyS
  rw [hs.rh hr hj 37 (by omega) (by omega), hs.rh hr hj 38 (by omega) (by omega)]
theorem Same.tRep (hs : Same u u1) {r : Nat} (hr : r < (vN u 33).toNat) {l : List Nat} (hl : ∀ j, j ∈ l → j < 16) : repT u1 r l = repT u r l := by
  unfold repT
  rw [harT_congr (fun j hj => ⟨hs.key hr (hl j hj), hs.rh hr (hl j hj) 39 (by omega) (by omega)⟩)]
theorem har_lt (hI : Inv u xl) {r : Nat} (hr : r < (vN u 33).toNat) : ∀ j, j ∈ xl (10000 + r) → j < 16 := fun j hj => by
  have h1 := (hI.harf r hr).1.mem_iff.mp hj
  have h2 := (hI.rptk r hr).2.2.2
  rw [List.mem_range] at h1
  omega
end SAME
