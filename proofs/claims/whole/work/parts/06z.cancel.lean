/-! CANCEL: a loan that stands no more, in the reference -/
theorem fstI_neg {p : Int → Bool} {c : Nat} {i : Int} (h0 : 0 ≤ i) (h : fstI p c i = -1) : ∀ k, i ≤ k → k < i + c → p k = false := by
  induction c generalizing i with
  | zero => intro k a b; omega
  | succ c ih =>
    intro k a b
    unfold fstI at h
    by_cases e : p i = true
    · rw [if_pos e] at h
      omega
    · rw [if_neg e] at h
      by_cases c2 : k = i
      · rw [c2]
        simpa using e
      · exact ih (by omega) h k (by omega) (by omega)
theorem fstI_drop {p p1 : Int → Bool} {c : Nat} {q : Int} (hq : 0 ≤ q) (h1 : ∀ k : Int, 0 ≤ k → k < c → p1 k = if k = q then false else p k) (hu : ∀ k k2 : Int, 0 ≤ k → k < c → 0 ≤ k2 → k2 < c → p k = true → p k2 = true → k = k2) : fstI p1 c 0 = if fstI p c 0 = q then -1 else fstI p c 0 := by
  rcases fstI_rng p c 0 (by omega) with e | ⟨r1, r2, r3⟩
  · rw [e, if_neg (by omega)]
    refine fstI_none _ _ _ (fun k k0 k1 => ?_)
    rw [h1 k k0 (by omega)]
    split
    · rfl
    · exact fstI_neg (by omega) e k k0 (by omega)
  · by_cases c2 : fstI p c 0 = q
    · rw [if_pos c2]
      refine fstI_none _ _ _ (fun k k0 k1 => ?_)
      rw [h1 k k0 (by omega)]
      by_cases c3 : k = q
      · rw [if_pos c3]
      · rw [if_neg c3]
        cases hp : p k with
        | false => rfl
        | true => exact absurd ((hu k (fstI p c 0) k0 (by omega) r1 (by omega) hp r3).trans c2) c3
    · rw [if_neg c2]
      refine fstI_uniq _ _ _ _ ⟨r1, r2⟩ (fun k k0 k1 => ?_)
      rw [h1 k k0 (by omega)]
      constructor
      · intro hp
        split at hp
        · cases hp
        · exact hu k _ k0 (by omega) r1 (by omega) hp r3
      · intro e
        rw [e, if_neg c2]
        exact r3
def caU (u : MS) (l : Nat) : MS := uA u 24 l (iI 0)
section CAN
variable {u : MS} {xl : Nat → List Nat} {l0 : Nat}
theorem caU_24 (k : Nat) : vR (caU u l0) 24 k = if k = l0 then 0 else vR u 24 k := by
  unfold vR caU uA
  show (va_up u.2 24 (upd (u.2 24) l0 (iI 0)) 24 k).toInt = _
  rw [va_up_self]
  unfold upd
  split
  · rfl
  · rfl
theorem onL_ca (t d : Int) (k : Int) (hk : 0 ≤ k) : onL (caU u l0) t d k = if k = l0 then false else onL u t d k := by
  have e : onL (caU u l0) t d k = (decide (vR (caU u l0) 24 k.toNat ≠ 0) && (hadS u k t && decide (vR u 26 k.toNat ≤ d ∧ d ≤ vR u 26 k.toNat + lenS u k - 1))) := rfl
  rw [e, caU_24]
  by_cases c : k = l0
  · rw [if_pos c, if_pos (by omega)]
    simp
  · rw [if_neg c, if_neg (by omega)]
    rfl
theorem busyP_ca (c d : Int) (k : Int) (hk : 0 ≤ k) : busyP (caU u l0) c d k = if k = l0 then false else busyP u c d k := by
  have e : busyP (caU u l0) c d k = (decide (vR (caU u l0) 24 k.toNat ≠ 0) && (decide (stageS u k d = 1 ∨ stageS u k d = 3) && anyI (parP u c (stageS u k d) k) (vR u 29 k.toNat).toNat 0)) := by
    unfold busyP
    rw [parP_of (u := u) (w := caU u l0) rfl rfl]
    rfl
  rw [e, caU_24]
  by_cases c : k = l0
  · rw [if_pos c, if_pos (by omega)]
    simp
  · rw [if_neg c, if_neg (by omega)]
    rfl
theorem loanS_ca (hI : Inv u xl) {t : Nat} (ht : t < (vN u 5).toNat) (d : Int) : loanS (caU u l0) t d = relF (loanS u t) l0 d := by
  have h23 := hI.n23
  have hc := hI.cal.1
  show fstI (onL (caU u l0) t d) (vN u 23).toNat 0 = if fstI (onL u t d) (vN u 23).toNat 0 = l0 then -1 else fstI (onL u t d) (vN u 23).toNat 0
  exact fstI_drop (by omega) (fun k k0 _ => onL_ca t d k k0) (fun k k2 a b c e f g => hc t d k k2 ht a (by omega) c (by omega) f g)
theorem busyS_ca (hI : Inv u xl) {c : Nat} (hc : c < (vN u 19).toNat) (d : Int) : busyS (caU u l0) c d (vN u 23) = if busyS u c d (vN u 23) = l0 then -1 else busyS u c d (vN u 23) := by
  have h23 := hI.n23
  have hcal := hI.cal.2.1
  unfold busyS
  exact fstI_drop (by omega) (fun k k0 _ => busyP_ca c d k k0) (fun k k2 a b c1 e f g => hcal c d k k2 hc a (by omega) c1 (by omega) f g)
/-- a courier's day is a loan's just when it is busy for it -/
theorem calS_iff (hI : Inv u xl) {c : Nat} (hc : c < (vN u 19).toNat) (d : Int) (l : Int) (hl : 0 ≤ l ∧ l < vN u 23) : calS u c (vN u 23) d = l ↔ busyP u c d l = true := by
  have h23 := hI.n23
  have hr := fstI_rng (busyP u c d) (vN u 23).toNat 0 (by omega)
  have hcal := hI.cal.2.1
  have e : calS u c (vN u 23) d = l ↔ busyS u c d (vN u 23) = l := by
    unfold calS
    constructor
    · intro h
      split at h
      · exact h
      · split at h <;> omega
    · intro h
      rw [if_pos (by omega)]
      exact h
  rw [e]
  unfold busyS
  constructor
  · intro h
    rcases hr with q | q
    · omega
    · rw [h] at q
      exact q.2.2
  · intro h
    rcases hr with q | q
    · have := fstI_neg (by omega) q l (by omega) (by omega)
      rw [h] at this
      cases this
    · exact hcal c d _ l hc (by omega) (by omega) (by omega) (by omega) q.2.2 h
theorem calS_ca (hI : Inv u xl) {c : Nat} (hc : c < (vN u 19).toNat) (hl : l0 < (vN u 23).toNat) (d : Int) : calS (caU u l0) c (vN u 23) d = relF (calS u c (vN u 23)) l0 d := by
  have h23 := hI.n23
  have hi := calS_iff hI hc d l0 (by omega)
  have hb := busyS_ca (l0 := l0) hI hc d
  unfold relF
  by_cases e : calS u c (vN u 23) d = l0
  · have hm := hI.cal.2.2.1 c d l0 hc (by omega) (by omega) (hi.mp e)
    rw [if_pos e]
    have e2 : busyS u c d (vN u 23) = l0 := by
      unfold calS at e
      split at e
      · exact e
      · first | omega | (split at e <;> omega)
    unfold calS
    rw [hb, if_pos e2, if_neg (by omega)]
    show (if mayS u c d = true then (-1 : Int) else -2) = -1
    rw [if_pos hm]
  · rw [if_neg e]
    have e2 : busyS u c d (vN u 23) ≠ l0 := by
      intro q
      apply e
      unfold calS
      rw [if_pos (by omega)]
      exact q
    unfold calS
    rw [hb, if_neg e2]
    rfl
theorem loaD_ca (c k : Int) (hk : 0 ≤ k) : loaD (caU u l0) c k = if k = l0 then 0 else loaD u c k := by
  have e : loaD (caU u l0) c k = if vR (caU u l0) 24 k.toNat = 0 then 0 else sumI (parD u c k) (vR u 29 k.toNat).toNat 0 := rfl
  rw [e, caU_24]
  by_cases c1 : k = l0
  · rw [if_pos c1, if_pos (show k.toNat = l0 by omega), if_pos rfl]
  · rw [if_neg c1, if_neg (show ¬ k.toNat = l0 by omega)]
    rfl
theorem sumI_sub (f g : Int → Int) (q z : Int) (c : Nat) (i : Int) (h1 : i ≤ q ∧ q < i + c) (h2 : ∀ k, i ≤ k → k < i + c → g k = if k = q then f k - z else f k) : sumI g c i = sumI f c i - z := by
  induction c generalizing i with
  | zero => omega
  | succ c ih =>
    rw [sumI, sumI, h2 i (by omega) (by omega)]
    by_cases e : i = q
    · rw [if_pos e, sumI_congr (f := g) (g := f) (fun k a b => by rw [h2 k (by omega) (by omega), if_neg (by omega)])]
      omega
    · rw [if_neg e, ih (i + 1) (by omega) (fun k a b => h2 k (by omega) (by omega))]
      omega
theorem takenS_ca (hI : Inv u xl) {c : Nat} (hc : c < (vN u 19).toNat) (hl : l0 < (vN u 23).toNat) : takenS (caU u l0) c (vN u 23) = takenS u c (vN u 23) - sumI (fun d => if calS u c (vN u 23) d = l0 then 1 else 0) 1000 0 := by
  have h23 := hI.n23
  have h1 := hI.cal.2.2.2 c l0 hc (by omega) (by omega)
  have h2 : sumI (fun d => if calS u c (vN u 23) d = l0 then 1 else 0) 1000 0 = loaD u c l0 := by
    rw [h1]
    apply sumI_congr
    intro d _ _
    have := calS_iff hI hc d l0 (by omega)
    by_cases e : calS u c (vN u 23) d = l0
    · rw [if_pos e, if_pos (this.mp e)]
    · rw [if_neg e, if_neg (fun q => e (this.mpr q))]
  rw [h2]
  unfold takenS
  refine sumI_sub _ _ l0 _ _ _ (by omega) (fun k k0 k1 => ?_)
  rw [loaD_ca c k k0]
  by_cases e : k = l0
  · rw [if_pos e, if_pos e, e]
    omega
  · rw [if_neg e, if_neg e]
theorem stdS_ca (hl : l0 < (vN u 23).toNat) (hs : vR u 24 l0 ≠ 0) : stdS (caU u l0) = stdS u - 1 := by
  unfold stdS
  show sumI (fun l => if vR (caU u l0) 24 l.toNat = 0 then 0 else 1) (vN u 23).toNat 0 = _
  refine sumI_sub _ _ l0 _ _ _ (by omega) (fun k k0 k1 => ?_)
  rw [caU_24]
  by_cases e : k = l0
  · rw [if_pos e, if_pos (show k.toNat = l0 by omega), if_pos rfl, e, Int.toNat_natCast, if_neg hs]
    rfl
  · rw [if_neg e, if_neg (show ¬ k.toNat = l0 by omega)]
theorem CalF_ca {m : Int} (h : CalF u m) : CalF (caU u l0) m := by
  obtain ⟨h1, h2, h3, h4⟩ := h
  refine ⟨fun t d l l2 a b c e f g i => ?_, fun t d l l2 a b c e f g i => ?_, fun t d l a b c g => ?_, fun c l a b e => ?_⟩
  · rw [onL_ca _ _ _ b] at g
    rw [onL_ca _ _ _ e] at i
    split at g
    · cases g
    · split at i
      · cases i
      · exact h1 t d l l2 a b c e f g i
  · rw [busyP_ca _ _ _ b] at g
    rw [busyP_ca _ _ _ e] at i
    split at g
    · cases g
    · split at i
      · cases i
      · exact h2 t d l l2 a b c e f g i
  · rw [busyP_ca _ _ _ b] at g
    split at g
    · cases g
    · exact h3 t d l a b c g
  · rw [loaD_ca _ _ b]
    have e1 : sumI (fun d => if busyP (caU u l0) c d l = true then 1 else 0) 1000 0 = sumI (fun d => if (if l = l0 then false else busyP u c d l) = true then 1 else 0) 1000 0 := by
      apply sumI_congr
      intro d _ _
      rw [busyP_ca _ _ _ b]
    rw [e1]
    by_cases q : l = l0
    · simp only [if_pos q]
      exact (sumI_zero 1000 0).symm
    · simp only [if_neg q]
      exact h4 c l a b e
theorem LoaK_ca {l : Nat} (h : LoaK u l) : LoaK (caU u l0) l := by
  obtain ⟨h1, h2, h3, h4, h5, h6⟩ := h
  refine ⟨h1, h2, h3, ?_, h5, h6⟩
  rw [caU_24]
  split
  · exact Or.inl rfl
  · exact h4
theorem Inv.cancel (hI : Inv u xl) : Inv (caU u l0) xl := ⟨hI.1, ⟨fun l hl => LoaK_ca (hI.2.1.1 l hl), hI.2.1.2⟩, hI.2.2.1, CalF_ca hI.2.2.2⟩
theorem t_cancel (n : Nat) (u : MS) (l : Int) (hl : -2147483648 ≤ l ∧ l < 2147483648) (h : NumOK u) (hf : 2100 ≤ n) : f_X12_cancel n u (iI l) = if ¬ ((0 ≤ l ∧ l ≤ vN u 23 - 1) ∧ vR u 24 l.toNat ≠ 0) then noS u 1 else fineS (caU u l.toNat) (stdS (caU u l.toNat)) := by
  obtain ⟨h1, h5, h10, h14, h19, h23, h33⟩ := h
  unfold f_X12_cancel
  rw [t_isLoan u l hl h23, Option.bind_some]
  simp only [b0z]
  by_cases c : (0 ≤ l ∧ l ≤ vN u 23 - 1) ∧ vR u 24 l.toNat ≠ 0
  · have n0 : ¬ ¬ ((0 ≤ l ∧ l ≤ vN u 23 - 1) ∧ vR u 24 l.toNat ≠ 0) := fun q => q c
    have q1 : inb (iI l) 17 := (iI_inb l 17 hl).mpr (by omega)
    rw [if_neg n0, if_neg n0, if_pos q1, iI_clamp l hl]
    have := t_standing n (caU u l.toNat) h23 (by omega)
    rw [show (0 : Int32) = iI 0 from rfl]
    show (f_X12_standing n (caU u l.toNat)).bind _ = _
    rw [this, Option.bind_some]
    rfl
  · rw [if_pos c, if_pos c]
    rfl
end CAN
