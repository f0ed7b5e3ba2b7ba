/-! LOAN: a courier for a parcel, the reference's rows -/
theorem fstI_last (p : Int → Bool) (c : Nat) (i : Int) (h : 0 ≤ i) : fstI p (c + 1) i = if 0 ≤ fstI p c i then fstI p c i else if p (i + c) = true then i + c else -1 := by
  induction c generalizing i with
  | zero =>
    by_cases q : p i = true
    · simp [fstI, q]
    · simp [fstI, q]
  | succ c ih =>
    have e1 : fstI p (c + 1 + 1) i = if p i = true then i else fstI p (c + 1) (i + 1) := rfl
    have e2 : fstI p (c + 1) i = if p i = true then i else fstI p c (i + 1) := rfl
    rw [e1, e2]
    by_cases q : p i = true
    · simp only [if_pos q]
      rw [if_pos h]
    · simp only [if_neg q]
      rw [ih (i + 1) (by omega), show i + 1 + (c : Int) = i + ((c + 1 : Nat) : Int) by omega]
theorem busyS_s (u : MS) (c d : Int) (l : Nat) : busyS u c d ((l : Int) + 1) = if 0 ≤ busyS u c d l then busyS u c d l else if busyP u c d l = true then (l : Int) else -1 := by
  unfold busyS
  rw [show ((l : Int) + 1).toNat = l + 1 by omega, fstI_last _ _ _ (by omega), Int.toNat_natCast, Int.zero_add]
theorem takenS_s (u : MS) (c : Int) (l : Nat) : takenS u c ((l : Int) + 1) = takenS u c l + loaD u c l := by
  unfold takenS
  rw [show ((l : Int) + 1).toNat = l + 1 by omega, sumI_last, Int.toNat_natCast, Int.zero_add]
def SlG (u : MS) (l : Nat) : Prop := (∀ (c : Nat) (d l2 : Int), c < (vN u 19).toNat → 0 ≤ l2 → l2 < l → busyP u c d l = true → busyP u c d l2 = false) ∧ (∀ (c : Nat) (d : Int), c < (vN u 19).toNat → busyP u c d l = true → mayS u c d = true) ∧ ∀ c : Nat, c < (vN u 19).toNat → loaD u c l = sumI (fun d => if busyP u c d l = true then 1 else 0) 1000 0
def guU (u : MS) (l o : Nat) (s c : Int) : MS := uA (uA u 40 o 1) (if s = 1 then 31 else 32) (l * 16 + o) (iI c)
section GUU
variable {u : MS} {l o : Nat} {s c : Int} {xl : Nat → List Nat}
theorem guU_2 (u : MS) (l o : Nat) (s c : Int) (k i : Nat) : (guU u l o s c).2 k i = if k = (if s = 1 then 31 else 32) ∧ i = l * 16 + o then iI c else if k = 40 ∧ i = o then 1 else u.2 k i := by
  unfold guU
  rw [uA2, uA2]
theorem guU_r (u : MS) (l o : Nat) (s c : Int) {k : Nat} (hk : k ≠ 31 ∧ k ≠ 32 ∧ k ≠ 40) (i : Nat) : vR (guU u l o s c) k i = vR u k i := by
  unfold vR
  rw [guU_2, if_neg (by split <;> omega), if_neg (by omega)]
theorem guU_row (u : MS) (l o : Nat) (s c : Int) {k : Nat} (hk : k ≠ 31 ∧ k ≠ 32 ∧ k ≠ 40) : (guU u l o s c).2 k = u.2 k := funext fun i => by
  rw [guU_2, if_neg (by split <;> omega), if_neg (by omega)]
theorem guU_same (u : MS) (l o : Nat) (s c : Int) (hl : (vN u 23).toNat ≤ l) : Same u (guU u l o s c) := by
  refine ⟨⟨rfl, guU_row _ _ _ _ _ (by omega), guU_row _ _ _ _ _ (by omega), guU_row _ _ _ _ _ (by omega)⟩, fun i _ k k1 k2 => by rw [guU_row _ _ _ _ _ (by omega)], fun i _ k k1 k2 => by rw [guU_row _ _ _ _ _ (by omega)], fun i _ => ⟨by rw [guU_row _ _ _ _ _ (by omega)], fun j _ => ⟨by rw [guU_row _ _ _ _ _ (by omega)], by rw [guU_row _ _ _ _ _ (by omega)]⟩⟩, fun q hq => ⟨fun k k1 k2 => by rw [guU_row _ _ _ _ _ (by omega)], fun p hp k k1 k2 => ?_⟩, fun r _ => ⟨fun k k1 k2 => by rw [guU_row _ _ _ _ _ (by omega)], fun j _ k k1 k2 => by rw [guU_row _ _ _ _ _ (by omega)]⟩⟩
  rw [guU_2, if_neg (by omega), if_neg (by omega)]
theorem guU_stage (d : Int) : stageS (guU u l o s c) l d = stageS u l d := by
  unfold stageS lenS
  simp only [guU_r u l o s c (show (25 : Nat) ≠ 31 ∧ 25 ≠ 32 ∧ 25 ≠ 40 by decide), guU_r u l o s c (show (26 : Nat) ≠ 31 ∧ 26 ≠ 32 ∧ 26 ≠ 40 by decide), guU_r u l o s c (show (27 : Nat) ≠ 31 ∧ 27 ≠ 32 ∧ 27 ≠ 40 by decide), guU_r u l o s c (show (15 : Nat) ≠ 31 ∧ 15 ≠ 32 ∧ 15 ≠ 40 by decide)]
theorem guU_pr (hs : s = 1 ∨ s = 3) (hc : -2147483648 ≤ c ∧ c < 2147483648) (r : Int) (hr : r = 1 ∨ r = 3) (p : Int) (hp : 0 ≤ p) : vR (guU u l o s c) (if r = 1 then 31 else 32) ((l : Int) * 16 + p).toNat = if r = s ∧ p = o then c else vR u (if r = 1 then 31 else 32) ((l : Int) * 16 + p).toNat := by
  by_cases e : r = s ∧ p = o
  · rw [if_pos e]
    refine vR_eq ?_ hc
    rw [guU_2, if_pos ⟨by rw [e.1], by omega⟩]
  · rw [if_neg e]
    unfold vR
    rw [guU_2, if_neg (by rcases hs with rfl | rfl <;> rcases hr with rfl | rfl <;> simp <;> omega), if_neg (by rcases hr with rfl | rfl <;> simp)]
theorem anyI_iff {p : Int → Bool} {c : Nat} {i : Int} : anyI p c i = true ↔ ∃ k, i ≤ k ∧ k < i + c ∧ p k = true := by
  induction c generalizing i with
  | zero => exact ⟨fun h => by simp [anyI] at h, fun ⟨k, h1, h2, _⟩ => by omega⟩
  | succ c ih =>
    rw [anyI, Bool.or_eq_true, ih]
    constructor
    · intro h
      rcases h with h | ⟨k, h1, h2, h3⟩
      · exact ⟨i, by omega, by omega, h⟩
      · exact ⟨k, by omega, by omega, h3⟩
    · intro ⟨k, h1, h2, h3⟩
      by_cases e : k = i
      · rw [e] at h3
        exact Or.inl h3
      · exact Or.inr ⟨k, by omega, by omega, h3⟩
theorem busyP_gu (hs : s = 1 ∨ s = 3) (hc : 0 ≤ c ∧ c < 2147483648) (h24 : vR u 24 l ≠ 0) (ho : (o : Int) < vR u 29 l) (hm : vR u (if s = 1 then 31 else 32) (l * 16 + o) = -1) (c1 d : Int) (h1 : 0 ≤ c1) : busyP (guU u l o s c) c1 d l = (busyP u c1 d l || (decide (c1 = c) && decide (stageS u l d = s))) := by
  unfold busyP
  rw [Int.toNat_natCast, guU_r u l o s c (by decide), guU_r u l o s c (by decide), guU_stage, decide_eq_true h24, Bool.true_and, Bool.true_and]
  by_cases e : stageS u l d = 1 ∨ stageS u l d = 3
  · rw [decide_eq_true e, Bool.true_and, Bool.true_and, Bool.eq_iff_iff, Bool.or_eq_true, Bool.and_eq_true, anyI_iff, anyI_iff, decide_eq_true_eq, decide_eq_true_eq]
    unfold parP
    simp only [decide_eq_true_eq]
    constructor
    · intro ⟨k, k1, k2, k3⟩
      rw [guU_pr hs (by omega) _ e k k1] at k3
      by_cases q : stageS u l d = s ∧ k = o
      · rw [if_pos q] at k3
        exact Or.inr ⟨k3.symm, q.1⟩
      · rw [if_neg q] at k3
        exact Or.inl ⟨k, k1, k2, k3⟩
    · intro h
      rcases h with ⟨k, k1, k2, k3⟩ | ⟨q1, q2⟩
      · refine ⟨k, k1, k2, ?_⟩
        rw [guU_pr hs (by omega) _ e k k1, if_neg]
        · exact k3
        · intro q
          rw [q.1, q.2, show ((l : Int) * 16 + (o : Int)).toNat = l * 16 + o by omega, hm] at k3
          omega
      · refine ⟨o, by omega, by omega, ?_⟩
        rw [guU_pr hs (by omega) _ e o (by omega), if_pos ⟨q2, rfl⟩, q1]
  · rw [decide_eq_false e, Bool.false_and, Bool.false_and, Bool.false_or, decide_eq_false (show ¬ stageS u l d = s by omega), Bool.and_false]
theorem loaD_gu (hs : s = 1 ∨ s = 3) (hc : 0 ≤ c ∧ c < 2147483648) (h24 : vR u 24 l ≠ 0) (ho : (o : Int) < vR u 29 l) (hm : vR u (if s = 1 then 31 else 32) (l * 16 + o) = -1) (c1 : Int) (h1 : 0 ≤ c1) : loaD (guU u l o s c) c1 l = loaD u c1 l + if c1 = c then wayS u l else 0 := by
  unfold loaD
  rw [Int.toNat_natCast, guU_r u l o s c (by decide), guU_r u l o s c (by decide), if_neg h24, if_neg h24]
  have ew : wayS (guU u l o s c) l = wayS u l := by
    unfold wayS
    rw [guU_r u l o s c (by decide), guU_r u l o s c (by decide)]
  have key : ∀ p : Int, 0 ≤ p → parD (guU u l o s c) c1 l p = parD u c1 l p + if (o : Int) = p then (if c1 = c then wayS u l else 0) else 0 := fun p hp => by
    have g1 := guU_pr (u := u) (l := l) (o := o) hs (show -2147483648 ≤ c ∧ c < 2147483648 by omega) 1 (by omega) p hp
    have g3 := guU_pr (u := u) (l := l) (o := o) hs (show -2147483648 ≤ c ∧ c < 2147483648 by omega) 3 (by omega) p hp
    rw [if_pos rfl] at g1
    rw [if_neg (show ¬ (3 : Int) = 1 by decide)] at g3
    unfold parD
    by_cases e : p = o
    · have em : ((l : Int) * 16 + p).toNat = l * 16 + o := by omega
      rcases hs with rfl | rfl
      · rw [if_pos rfl] at hm
        rw [if_pos ⟨rfl, e⟩] at g1
        rw [if_neg (show ¬ ((3 : Int) = 1 ∧ p = o) by omega)] at g3
        rw [ew, g1, g3, em, hm, if_neg (show ¬ (-1 : Int) = c1 by omega), if_pos e.symm]
        by_cases q : c1 = c
        · rw [if_pos q.symm, if_pos q]
          omega
        · rw [if_neg (fun z : c = c1 => q z.symm), if_neg q]
          omega
      · rw [if_neg (show ¬ (3 : Int) = 1 by decide)] at hm
        rw [if_neg (show ¬ ((1 : Int) = 3 ∧ p = o) by omega)] at g1
        rw [if_pos ⟨rfl, e⟩] at g3
        rw [ew, g1, g3, em, hm, if_neg (show ¬ (-1 : Int) = c1 by omega), if_pos e.symm]
        by_cases q : c1 = c
        · rw [if_pos q.symm, if_pos q]
          omega
        · rw [if_neg (fun z : c = c1 => q z.symm), if_neg q]
          omega
    · rw [if_neg (show ¬ ((1 : Int) = s ∧ p = o) by omega)] at g1
      rw [if_neg (show ¬ ((3 : Int) = s ∧ p = o) by omega)] at g3
      rw [ew, g1, g3, if_neg (show ¬ (o : Int) = p by omega)]
      omega
  rw [sumI_congr (fun k k1 k2 => key k k1), sumI_add, sumI_one (fun _ => if c1 = c then wayS u l else 0) (o : Int), if_pos (by omega)]
def dayS (u : MS) (l : Nat) (s : Int) : Int := if s = 1 then vR u 26 l else vR u 26 l + wayS u l + vR u 27 l
theorem stage_days (hk : LoanOK u l) (hs : s = 1 ∨ s = 3) (d : Int) : stageS u l d = s ↔ dayS u l s ≤ d ∧ d ≤ dayS u l s + wayS u l - 1 := by
  obtain ⟨o1, o2, o3, o4⟩ := hk
  simp only [Int.toNat_natCast] at o1 o2 o3 o4
  have hlen : lenS u l = 2 * vR u 15 (vR u 25 l).toNat + vR u 27 l := by simp only [lenS, Int.toNat_natCast]
  have hway : wayS u l = vR u 15 (vR u 25 l).toNat := by simp only [wayS, Int.toNat_natCast]
  unfold stageS dayS
  rw [hlen, hway, Int.toNat_natCast]
  rcases hs with rfl | rfl
  · rw [if_pos rfl]
    (repeat' split) <;> omega
  · rw [if_neg (show ¬ (3 : Int) = 1 by decide)]
    (repeat' split) <;> omega
end GUU
