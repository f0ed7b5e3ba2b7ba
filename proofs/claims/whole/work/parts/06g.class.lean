/-! WHAT HOLDS OF THE REFERENCE'S STATE IN EVERY RUN, and of the orders that the class keeps -/
def ThiOK (u : MS) (i : Nat) : Prop := (0 ≤ vR u 6 i ∧ vR u 6 i ≤ 4) ∧ (1 ≤ vR u 7 i ∧ vR u 7 i ≤ 9999) ∧ (1 ≤ vR u 8 i ∧ vR u 8 i ≤ 999)
def AptOK (u : MS) (j : Nat) : Prop := (0 ≤ vR u 11 j ∧ vR u 11 j < vN u 5) ∧ (0 ≤ vR u 12 j ∧ vR u 12 j ≤ 999) ∧ (1 ≤ vR u 13 j ∧ vR u 13 j ≤ 9999)
def HouK (u : MS) (h : Nat) : Prop := (1 ≤ vR u 15 h ∧ vR u 15 h ≤ 30) ∧ (1 ≤ vR u 16 h ∧ vR u 16 h ≤ 9999) ∧ (0 ≤ vR u 17 h ∧ vR u 17 h ≤ 9999) ∧ (1 ≤ vR u 18 h ∧ vR u 18 h ≤ 99)
def SpnK (u : MS) (c : Nat) : Prop := (0 ≤ vR u 20 c ∧ vR u 20 c ≤ 30) ∧ ∀ k : Nat, k < (vR u 20 c).toNat → (0 ≤ vR u 21 (c * 40 + k) ∧ vR u 21 (c * 40 + k) ≤ vR u 22 (c * 40 + k)) ∧ vR u 22 (c * 40 + k) ≤ 999
def LoaK (u : MS) (l : Nat) : Prop := LoanOK u l ∧ ParOK u l ∧ (0 ≤ vR u 25 l ∧ vR u 25 l < vN u 14) ∧ (vR u 24 l = 0 ∨ vR u 24 l = 1) ∧ (∀ t : Nat, t < 16 → hadS u l t = true → t < (vN u 5).toNat ∧ 0 ≤ vR u 30 (l * 16 + t) ∧ vR u 30 (l * 16 + t) < vR u 29 l) ∧ ∀ p : Nat, p < (vR u 29 l).toNat → (-1 ≤ vR u 31 (l * 16 + p) ∧ vR u 31 (l * 16 + p) < vN u 19) ∧ (-1 ≤ vR u 32 (l * 16 + p) ∧ vR u 32 (l * 16 + p) < vN u 19)
def RptK (u : MS) (r : Nat) : Prop := RepOK u r ∧ HarOK u r ∧ vR u 34 r < vN u 5 ∧ vR u 36 r ≤ 15
def ParF (u : MS) (xs : List Nat) (l p : Nat) : Prop := xs.Perm ((List.range (vN u 5).toNat).filter (fun t => packP u l p t))
def HarF (u : MS) (xs : List Nat) (r : Nat) : Prop := xs.Perm (List.range (vR u 36 r).toNat) ∧ xs.Pairwise (fun a b => keyS u r a < keyS u r b)
def ListsF (u : MS) (xl : Nat → List Nat) : Prop := (∀ i, i < (vN u 5).toNat → AppF u (xl (3000 + i)) i ∧ RpsF u (xl (4000 + i)) i) ∧ (∀ l, l < (vN u 23).toNat → ∀ p, p < (vR u 29 l).toNat → ParF u (xl (9000 + (l * 16 + p))) l p) ∧ ∀ r, r < (vN u 33).toNat → HarF u (xl (10000 + r)) r
/-- no two loans at once: of a thing, of a courier; a courier is busy only where it may travel; how many days -/
def CalF (u : MS) (m : Int) : Prop := (∀ (t : Nat) (d l l2 : Int), t < (vN u 5).toNat → 0 ≤ l → l < m → 0 ≤ l2 → l2 < m → onL u t d l = true → onL u t d l2 = true → l = l2) ∧ (∀ (c : Nat) (d l l2 : Int), c < (vN u 19).toNat → 0 ≤ l → l < m → 0 ≤ l2 → l2 < m → busyP u c d l = true → busyP u c d l2 = true → l = l2) ∧ (∀ (c : Nat) (d l : Int), c < (vN u 19).toNat → 0 ≤ l → l < m → busyP u c d l = true → mayS u c d = true) ∧ ∀ (c : Nat) (l : Int), c < (vN u 19).toNat → 0 ≤ l → l < m → loaD u c l = sumI (fun d => if busyP u c d l = true then 1 else 0) 1000 0
def Inv (u : MS) (xl : Nat → List Nat) : Prop := (NumOK u ∧ (∀ i, i < (vN u 5).toNat → ThiOK u i) ∧ (∀ j, j < (vN u 10).toNat → AptOK u j) ∧ (∀ h, h < (vN u 14).toNat → HouK u h) ∧ (∀ c, c < (vN u 19).toNat → SpnK u c)) ∧ ((∀ l, l < (vN u 23).toNat → LoaK u l) ∧ (∀ r, r < (vN u 33).toNat → RptK u r)) ∧ ListsF u xl ∧ CalF u (vN u 23)
section INV
variable {u : MS} {xl : Nat → List Nat}
theorem Inv.num (h : Inv u xl) : NumOK u := h.1.1
theorem Inv.n1 (h : Inv u xl) : 0 ≤ vN u 1 ∧ vN u 1 ≤ 120 := h.1.1.1
theorem Inv.n5 (h : Inv u xl) : 0 ≤ vN u 5 ∧ vN u 5 ≤ 16 := h.1.1.2.1
theorem Inv.n10 (h : Inv u xl) : 0 ≤ vN u 10 ∧ vN u 10 ≤ 48 := h.1.1.2.2.1
theorem Inv.n14 (h : Inv u xl) : 0 ≤ vN u 14 ∧ vN u 14 ≤ 6 := h.1.1.2.2.2.1
theorem Inv.n19 (h : Inv u xl) : 0 ≤ vN u 19 ∧ vN u 19 ≤ 8 := h.1.1.2.2.2.2.1
theorem Inv.n23 (h : Inv u xl) : 0 ≤ vN u 23 ∧ vN u 23 ≤ 16 := h.1.1.2.2.2.2.2.1
theorem Inv.n33 (h : Inv u xl) : 0 ≤ vN u 33 ∧ vN u 33 ≤ 48 := h.1.1.2.2.2.2.2.2
theorem Inv.thi (h : Inv u xl) (i : Nat) (hi : i < (vN u 5).toNat) : ThiOK u i := h.1.2.1 i hi
theorem Inv.apt (h : Inv u xl) (j : Nat) (hj : j < (vN u 10).toNat) : AptOK u j := h.1.2.2.1 j hj
theorem Inv.apday (h : Inv u xl) (j : Nat) (hj : j < (vN u 10).toNat) : 0 ≤ vR u 12 j ∧ vR u 12 j ≤ 999 := (h.apt j hj).2.1
theorem Inv.houk (h : Inv u xl) (i : Nat) (hi : i < (vN u 14).toNat) : HouK u i := h.1.2.2.2.1 i hi
theorem Inv.spn (h : Inv u xl) (i : Nat) (hi : i < (vN u 19).toNat) : SpnK u i := h.1.2.2.2.2 i hi
theorem Inv.loak (h : Inv u xl) (i : Nat) (hi : i < (vN u 23).toNat) : LoaK u i := h.2.1.1 i hi
theorem Inv.loan (h : Inv u xl) (i : Nat) (hi : i < (vN u 23).toNat) : LoanOK u i := (h.loak i hi).1
theorem Inv.par (h : Inv u xl) (i : Nat) (hi : i < (vN u 23).toNat) : 0 ≤ vR u 29 i ∧ vR u 29 i ≤ 16 := by
  have := (h.loak i hi).2.1
  unfold ParOK at this
  simpa only [Int.toNat_natCast] using this
theorem Inv.hof (h : Inv u xl) (i : Nat) (hi : i < (vN u 23).toNat) : vR u 25 i < vN u 14 ∧ 0 ≤ vR u 25 i := ⟨(h.loak i hi).2.2.1.2, (h.loak i hi).2.2.1.1⟩
theorem Inv.rptk (h : Inv u xl) (i : Nat) (hi : i < (vN u 33).toNat) : RptK u i := h.2.1.2 i hi
theorem Inv.app (h : Inv u xl) (i : Nat) (hi : i < (vN u 5).toNat) : AppF u (xl (3000 + i)) i := (h.2.2.1.1 i hi).1
theorem Inv.rps (h : Inv u xl) (i : Nat) (hi : i < (vN u 5).toNat) : RpsF u (xl (4000 + i)) i := (h.2.2.1.1 i hi).2
theorem Inv.parf (h : Inv u xl) (l p : Nat) (hl : l < (vN u 23).toNat) (hp : p < (vR u 29 l).toNat) : ParF u (xl (9000 + (l * 16 + p))) l p := h.2.2.1.2.1 l hl p hp
theorem Inv.harf (h : Inv u xl) (r : Nat) (hr : r < (vN u 33).toNat) : HarF u (xl (10000 + r)) r := h.2.2.1.2.2 r hr
theorem Inv.cal (h : Inv u xl) : CalF u (vN u 23) := h.2.2.2
theorem Inv.loansOK (h : Inv u xl) : LoansOK u := fun l h0 h1 => by
  have := h.loan l.toNat (by omega)
  rwa [show ((l.toNat : Nat) : Int) = l by omega] at this
theorem Inv.parsOK (h : Inv u xl) : ParsOK u := fun l h0 h1 => by
  have := (h.loak l.toNat (by omega)).2.1
  rwa [show ((l.toNat : Nat) : Int) = l by omega] at this
theorem Inv.spasOK (h : Inv u xl) : SpasOK u := fun c h0 h1 => by
  have := (h.spn c.toNat (by omega)).1
  exact ⟨this.1, by omega⟩
theorem Inv.pof (h : Inv u xl) : ∀ l, 0 ≤ l → l < vN u 23 → PofOK u l := fun l h0 h1 t t0 t1 ht => by
  have h5 := h.n5
  have hp := h.par l.toNat (by omega)
  have := (h.loak l.toNat (by omega)).2.2.2.2.1 t.toNat (by omega) (by rw [show ((l.toNat : Nat) : Int) = l by omega, show ((t.toNat : Nat) : Int) = t by omega]; exact ht)
  rw [show (l * 16 + t).toNat = l.toNat * 16 + t.toNat by omega]
  omega
end INV
theorem b0z (p : Prop) [Decidable p] : (iI (if p then 1 else 0) = (0 : Int32)) ↔ ¬ p := b0 p
section QB
variable {B : Nat} {S : Nat → Nat} {L : Mem} {x0 : Nat} {ad rho : Nat → Nat} {xl : Nat → List Nat} {M : Mem} {u : MS} {sz : Nat}
theorem noKb (z : Int) : ((noK ad u x0 M z).bind fun r => some (r.1, r.2)) = noK ad u x0 M z := rfl
theorem fineKb (z : Int) : ((fineK ad u x0 M z).bind fun r => some (r.1, r.2)) = fineK ad u x0 M z := rfl
theorem z_refuse1 (h : RepK B S L x0 ad rho xl M u sz) : f_X11_refuse B M (some x0) (1 : Int32) = noK ad u x0 M 1 := z_refuse h 1
theorem z_refuse3 (h : RepK B S L x0 ad rho xl M u sz) : f_X11_refuse B M (some x0) (3 : Int32) = noK ad u x0 M 3 := z_refuse h 3
theorem z_refuse9 (h : RepK B S L x0 ad rho xl M u sz) : f_X11_refuse B M (some x0) (9 : Int32) = noK ad u x0 M 9 := z_refuse h 9
theorem busyS_rng (u : MS) (c d m : Int) (h : 0 ≤ m ∧ m ≤ 17) : -1 ≤ busyS u c d m ∧ busyS u c d m < m ∨ busyS u c d m = -1 := by
  have := fstI_rng (busyP u c d) m.toNat 0 (by omega)
  unfold busyS
  omega
theorem calS_rng (u : MS) (c : Nat) (m d : Int) (h : 0 ≤ m ∧ m ≤ 17) : -2 ≤ calS u c m d ∧ calS u c m d ≤ 17 := by
  have := busyS_rng u c d m h
  unfold calS
  (repeat' split) <;> omega
theorem calS_busy (u : MS) (c : Nat) (m d : Int) (h : 0 ≤ m ∧ m ≤ 17) : (if calS u c m d < -1 then -1 else calS u c m d) = busyS u c d m := by
  have := busyS_rng u c d m h
  unfold calS
  (repeat' split) <;> omega
theorem openG_free (u : MS) (t : Nat) (m : Int) (h : 0 ≤ vN u 23 ∧ vN u 23 ≤ 16) (c : Nat) (w i : Int) : openG (loanS u t) m c w i = freeG u t m c w i := by
  induction c generalizing w i with
  | zero => rfl
  | succ c ih =>
    have hr := loanS_rng u t i h
    unfold openG freeG
    have e : (if loanS u t i = -1 then w + 1 else 0) = (if 0 ≤ loanS u t i then 0 else w + 1) := by
      (repeat' split) <;> omega
    rw [e, ih]
theorem openG_ready (u : MS) (c0 : Nat) (m : Int) (h : 0 ≤ vN u 23 ∧ vN u 23 ≤ 16) (c : Nat) (w i : Int) : openG (calS u c0 (vN u 23)) m c w i = rdG u c0 m c w i := by
  induction c generalizing w i with
  | zero => rfl
  | succ c ih =>
    have hr := busyS_rng u c0 i (vN u 23) (by omega)
    unfold openG rdG
    have e : (if calS u c0 (vN u 23) i = -1 then w + 1 else 0) = rdW u c0 w i := by
      unfold calS rdW
      (repeat' split) <;> omega
    rw [e, ih]
theorem z_repNone (h : RepK B S L x0 ad rho xl M u sz) {i : Nat} (hi : i < (vN u 5).toNat) (hF : RpsF u (xl (4000 + i)) i) : f_X10_reportAt M (some (ad (1000 + i))) (iI (-1)) = some none := by
  rw [z_reportAt h hi hF _ (by omega), if_neg (by omega)]
theorem z_repSome (h : RepK B S L x0 ad rho xl M u sz) {i : Nat} (hi : i < (vN u 5).toNat) (hF : RpsF u (xl (4000 + i)) i) {k r : Nat} (hk : (xl (4000 + i))[k]? = some r) : f_X10_reportAt M (some (ad (1000 + i))) (iI k) = some (some (ad (10000 + r))) := by
  have hlen := (h.thi hi).2.2.2.len
  rw [List.length_map] at hlen
  have hlt := (List.getElem?_eq_some_iff.mp hk).1
  rw [z_reportAt h hi hF _ (by omega), if_pos (by omega), Int.toNat_natCast, hk]
  rfl
theorem z_harmsOn (h : RepK B S L x0 ad rho xl M u sz) (hI : Inv u xl) {i : Nat} (hi : i < (vN u 5).toNat) (n : Nat) (hf : 60 ≤ n) (d : Int) (hd : -2147483648 ≤ d ∧ d < 2147483648) : f_X10_harmsOn n M (some (ad (1000 + i))) (iI d) = some (iI (harmsS u i d)) := by
  have hF := hI.rps i hi
  have h1 := z_latestReport h hi hF n hf d hd
  have hr := latF_rng (fun k => vR u 35 ((xl (4000 + i)).getD k 0)) d (xl (4000 + i)).length
  have hlen := (h.thi hi).2.2.2.len
  rw [List.length_map] at hlen
  obtain ⟨⟨w, g1, -⟩, -⟩ := h.thi hi
  unfold f_X10_harmsOn
  rw [isO_at g1.1, if_pos rfl, h1, Option.bind_some, if_pos rfl]
  unfold harmsS
  rcases inS_lat hF d with ⟨e, q⟩ | ⟨k, j, k1, e, k2, q, -⟩
  · rw [e, q, z_repNone h hi hF, Option.bind_some, if_pos rfl, if_neg (by omega)]
    rfl
  · have hj := (hF.mem j).mp (List.mem_of_getElem? k2)
    obtain ⟨w, s, z, f, g, g2, -, g3, -⟩ := h.rpt hj.1
    have hp := (hI.harf j hj.1).1.length_eq
    have hk := hI.rptk j hj.1
    have hk2 := hk.1.1
    simp only [Int.toNat_natCast] at hk2
    rw [List.length_range] at hp
    rw [e, q, z_repSome h hi hF k2, Option.bind_some, if_neg (by simp), if_pos (show (0 : Int) ≤ (j : Int) by omega)]
    rw [isO_at g2.1, if_pos rfl]
    unfold f_X8_harmsTold
    rw [gR_at g2.1]
    simp only [List.getElem?_cons_zero, List.getElem?_cons_succ, Option.bind_some]
    rw [aL_i (by decide) g3.1, hp, show (((vR u 36 j).toNat : Nat) : Int) = vR u 36 j by omega]
    rfl
end QB
