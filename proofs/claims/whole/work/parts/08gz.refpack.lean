/-! LOAN: the reference packs -/
theorem allI_iff {p : Int → Bool} {c : Nat} {i : Int} : allI p c i = true ↔ ∀ k, i ≤ k → k < i + c → p k = true := by
  induction c generalizing i with
  | zero => exact ⟨fun _ k h1 h2 => by omega, fun _ => rfl⟩
  | succ c ih =>
    rw [allI, Bool.and_eq_true, ih]
    constructor
    · intro h k h1 h2
      by_cases e : k = i
      · rw [e]
        exact h.1
      · exact h.2 k (by omega) (by omega)
    · intro h
      exact ⟨h i (by omega) (by omega), fun k h1 h2 => h k (by omega) (by omega)⟩
theorem uA2 (u : MS) (k i : Nat) (v : Int32) (q j : Nat) : (uA u k i v).2 q j = if q = k ∧ j = i then v else u.2 q j := by
  by_cases e : q = k
  · subst e
    rw [uA_s]
    unfold upd
    by_cases e2 : j = i
    · rw [if_pos e2, if_pos ⟨rfl, e2⟩]
    · rw [if_neg e2, if_neg (fun h => e2 h.2)]
  · rw [uA_n _ _ _ _ e, if_neg (fun h => e h.1)]
theorem vR_eq {u : MS} {k i : Nat} {z : Int} (h : u.2 k i = iI z) (hz : -2147483648 ≤ z ∧ z < 2147483648) : vR u k i = z := by
  unfold vR
  rw [h, toInt_iI _ hz.1 hz.2]
/-- the reference's rows of a loan that is being packed -/
def RefP (u0 u : MS) (l : Nat) (ct : Nat → List Nat) (P : Nat) : Prop := u.1 = u0.1 ∧ (∀ k i, ¬ (k = 29 ∧ i = l) → ¬ ((k = 30 ∨ k = 31 ∨ k = 32) ∧ l * 16 ≤ i ∧ i < l * 16 + 16) → u.2 k i = u0.2 k i) ∧ vR u 29 l = P ∧ (∀ t, t < 16 → (-1 ≤ vR u 30 (l * 16 + t) ∧ vR u 30 (l * 16 + t) < P) ∧ ∀ p : Nat, t ∈ ct p ↔ vR u 30 (l * 16 + t) = (p : Int)) ∧ (∀ p, (ct p).Nodup) ∧ ∀ p, p < P → vR u 31 (l * 16 + p) = -1 ∧ vR u 32 (l * 16 + p) = -1
section RFP
variable {u0 u : MS} {l : Nat} {ct : Nat → List Nat} {P cnt : Nat}
theorem RefP.row (h : RefP u0 u l ct P) {k : Nat} (hk : k < 29 ∨ 32 < k) : u.2 k = u0.2 k := funext fun i => h.2.1 k i (by omega) (by omega)
theorem RefP.vr (h : RefP u0 u l ct P) {k : Nat} (hk : k < 29 ∨ 32 < k) (i : Nat) : vR u k i = vR u0 k i := by
  unfold vR
  rw [h.row hk]
theorem RefP.vn (h : RefP u0 u l ct P) (k : Nat) : vN u k = vN u0 k := by
  unfold vN
  rw [h.1]
theorem RefP.had (h : RefP u0 u l ct P) (t : Int) : hadS u l t = hadS u0 l t := by
  unfold hadS
  rw [h.row (by omega)]
theorem RefP.parf (h : RefP u0 u l ct P) (n5 : 0 ≤ vN u0 5 ∧ vN u0 5 ≤ 16) (hc : CtOK u0 (vN u0 5).toNat ct P cnt) (hh : ∀ p x, x ∈ ct p → hadS u0 l x = true) (p : Nat) : ParF u (ct p) l p := by
  unfold ParF
  refine (List.perm_ext_iff_of_nodup (h.2.2.2.2.1 p) (List.nodup_range.filter _)).mpr (fun a => ?_)
  rw [List.mem_filter, List.mem_range, h.vn]
  have e : ((l : Int) * 16 + (a : Int)).toNat = l * 16 + a := by omega
  constructor
  · intro ha
    have hT := (hc.1 p).1 a ha
    refine ⟨hT, ?_⟩
    unfold packP
    rw [h.had, hh p a ha, e, ((h.2.2.2.1 a (by omega)).2 p).mp ha]
    simp
  · intro ha
    have hp := ha.2
    unfold packP at hp
    rw [Bool.and_eq_true, e] at hp
    exact ((h.2.2.2.1 a (by omega)).2 p).mpr (of_decide_eq_true hp.2)
theorem RefP.weigh (h : RefP u0 u l ct P) (n5 : 0 ≤ vN u0 5 ∧ vN u0 5 ≤ 16) (hc : CtOK u0 (vN u0 5).toNat ct P cnt) (hh : ∀ p x, x ∈ ct p → hadS u0 l x = true) (p : Nat) : weighS u l p = sumN (fun t => vR u0 8 t) (ct p) := by
  have hF := h.parf n5 hc hh p
  unfold ParF at hF
  rw [sumN_perm _ hF, sumN_sel]
  unfold weighS
  refine sumI_congr (fun k h1 h2 => ?_)
  rw [show ((k.toNat : Nat) : Int) = k by omega, h.vr (by omega)]
theorem RefP.fit (h : RefP u0 u l ct P) (n5 : 0 ≤ vN u0 5 ∧ vN u0 5 ≤ 16) (hc : CtOK u0 (vN u0 5).toNat ct P cnt) (hh : ∀ p x, x ∈ ct p → hadS u0 l x = true) (m p : Nat) : fitS u l m p = fitL u0 (vR u0 16 (vR u0 25 l).toNat) (ct p) m := by
  have hF := h.parf n5 hc hh p
  unfold fitS fitL
  rw [h.weigh n5 hc hh, Int.toNat_natCast, Int.toNat_natCast, h.vr (by omega), h.vr (by omega), h.vr (by omega)]
  congr 1
  rw [Bool.eq_iff_iff, allI_iff, List.all_eq_true]
  have et : ∀ a b : Int, togS u a b = togS u0 a b := fun a b => by
    unfold togS
    rw [h.row (by omega), h.row (by omega)]
  constructor
  · intro q x hx
    obtain ⟨x1, x2⟩ := (hF.mem x).mp hx
    have := q x (by omega) (by omega)
    unfold togP at this
    rw [x2, Bool.not_true, Bool.false_or, et] at this
    exact this
  · intro q k k1 k2
    unfold togP
    by_cases c : packP u l p k = true
    · rw [c, Bool.not_true, Bool.false_or, et]
      have := q k.toNat ((hF.mem k.toNat).mpr ⟨by omega, by rw [show ((k.toNat : Nat) : Int) = k by omega]; exact c⟩)
      rw [show ((k.toNat : Nat) : Int) = k by omega] at this
      exact this
    · rw [Bool.not_eq_true] at c
      rw [c]
      rfl
theorem RefP.fps (h : RefP u0 u l ct P) (n5 : 0 ≤ vN u0 5 ∧ vN u0 5 ≤ 16) (hc : CtOK u0 (vN u0 5).toNat ct P cnt) (hh : ∀ p x, x ∈ ct p → hadS u0 l x = true) (m : Nat) : ∀ c p : Nat, fpS u l m c p = fpL u0 (vR u0 16 (vR u0 25 l).toNat) ct m c p := by
  intro c
  induction c with
  | zero => exact fun p => rfl
  | succ c ih =>
    intro p
    unfold fpS fpL
    rw [h.fit n5 hc hh, ih]
/-- one thing more -/
def pkU (u : MS) (l m p P : Nat) : MS := if p = P then uA (uA (uA (uA u 30 (l * 16 + m) (iI p)) 31 (l * 16 + p) (iI (-1))) 32 (l * 16 + p) (iI (-1))) 29 l (iI ((P : Int) + 1)) else uA u 30 (l * 16 + m) (iI p)
theorem pkU_1 (u : MS) (l m p P : Nat) : (pkU u l m p P).1 = u.1 := by
  unfold pkU
  split <;> rfl
theorem pkU_2 (u : MS) (l m p P k i : Nat) : (pkU u l m p P).2 k i = if k = 30 ∧ i = l * 16 + m then iI p else if p = P ∧ (k = 31 ∨ k = 32) ∧ i = l * 16 + p then iI (-1) else if p = P ∧ k = 29 ∧ i = l then iI ((P : Int) + 1) else u.2 k i := by
  unfold pkU
  by_cases e : p = P
  · rw [if_pos e]
    simp only [uA2]
    by_cases c1 : k = 29 ∧ i = l
    · rw [if_pos c1, if_neg (by omega), if_neg (by omega), if_pos (by omega)]
    · rw [if_neg c1]
      by_cases c2 : k = 32 ∧ i = l * 16 + p
      · rw [if_pos c2, if_neg (by omega), if_pos (by omega)]
      · rw [if_neg c2]
        by_cases c3 : k = 31 ∧ i = l * 16 + p
        · rw [if_pos c3, if_neg (by omega), if_pos (by omega)]
        · rw [if_neg c3]
          by_cases c4 : k = 30 ∧ i = l * 16 + m
          · rw [if_pos c4, if_pos c4]
          · rw [if_neg c4, if_neg c4, if_neg (by omega), if_neg (by omega)]
  · rw [if_neg e, uA2]
    by_cases c4 : k = 30 ∧ i = l * 16 + m
    · rw [if_pos c4, if_pos c4]
    · rw [if_neg c4, if_neg c4, if_neg (by omega), if_neg (by omega)]
theorem RefP.put (h : RefP u0 u l ct P) (hc : CtOK u0 (vN u0 5).toNat ct P cnt) {m p : Nat} (hm : m < 16) (hp : p ≤ P) (hP : P ≤ 15) (hn : ∀ q, m ∉ ct q) : RefP u0 (pkU u l m p P) l (putC ct p m) (if p = P then P + 1 else P) := by
  obtain ⟨h1, h2, h3, h4, h5, h6⟩ := h
  have g := pkU_2 u l m p P
  refine ⟨(pkU_1 ..).trans h1, fun k i k1 k2 => ?_, ?_, fun t ht => ?_, fun q => ?_, fun q hq => ?_⟩
  · rw [g, if_neg (by omega), if_neg (by omega), if_neg (by omega)]
    exact h2 k i k1 k2
  · by_cases e : p = P
    · rw [if_pos e]
      refine vR_eq ?_ (by omega)
      rw [g, if_neg (by omega), if_neg (by omega), if_pos (by omega)]
      congr 1
    · rw [if_neg e, ← h3]
      unfold vR
      rw [g, if_neg (by omega), if_neg (by omega), if_neg (by omega)]
  · obtain ⟨t1, t2⟩ := h4 t ht
    by_cases e : t = m
    · subst e
      have ev : vR (pkU u l t p P) 30 (l * 16 + t) = p := by
        refine vR_eq ?_ (by omega)
        rw [g, if_pos ⟨rfl, rfl⟩]
      rw [ev]
      refine ⟨⟨by omega, by split <;> omega⟩, fun q => ?_⟩
      by_cases eq : q = p
      · subst eq
        rw [putC_p]
        simp
      · rw [putC_o eq]
        constructor
        · intro hx
          exact absurd hx (hn q)
        · intro hx
          exact absurd (by omega : q = p) eq
    · have ev : vR (pkU u l m p P) 30 (l * 16 + t) = vR u 30 (l * 16 + t) := by
        unfold vR
        rw [g, if_neg (by omega), if_neg (by omega), if_neg (by omega)]
      rw [ev]
      refine ⟨⟨t1.1, by split <;> omega⟩, fun q => ?_⟩
      rw [← t2 q]
      by_cases eq : q = p
      · subst eq
        rw [putC_p]
        simp [e]
      · rw [putC_o eq]
  · by_cases eq : q = p
    · subst eq
      rw [putC_p]
      refine List.nodup_append.mpr ⟨h5 q, by simp, fun a ha b hb => ?_⟩
      simp only [List.mem_cons, List.not_mem_nil, or_false] at hb
      intro e
      rw [e, hb] at ha
      exact hn q ha
    · rw [putC_o eq]
      exact h5 q
  · by_cases c : p = P ∧ q = p
    · exact ⟨vR_eq (by rw [g, if_neg (by omega), if_pos (by omega)]) (by omega), vR_eq (by rw [g, if_neg (by omega), if_pos (by omega)]) (by omega)⟩
    · have hq2 : q < P := by
        by_cases e : p = P
        · rw [if_pos e] at hq
          omega
        · rw [if_neg e] at hq
          exact hq
      have := h6 q hq2
      unfold vR at this ⊢
      rw [g, g, if_neg (by omega), if_neg (by omega), if_neg (by omega), if_neg (by omega), if_neg (by omega), if_neg (by omega)]
      exact this
end RFP
