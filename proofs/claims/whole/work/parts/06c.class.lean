/-! THE LATEST OF RISING DAYS, on both sides -/
theorem x_le (x : Int32) (d : Int) (h : -2147483648 ≤ d ∧ d < 2147483648) : x ≤ iI d ↔ x.toInt ≤ d := by
  have h1 := rng_lo x
  have h2 := rng_hi x
  rw [← iI_toInt x, iI_le _ _ (by omega), iI_toInt]
theorem le_x (x : Int32) (d : Int) (h : -2147483648 ≤ d ∧ d < 2147483648) : iI d ≤ x ↔ d ≤ x.toInt := by
  have h1 := rng_lo x
  have h2 := rng_hi x
  rw [← iI_toInt x, iI_le _ _ (by omega), iI_toInt]
theorem x_eq (x : Int32) (d : Int) (h : -2147483648 ≤ d ∧ d < 2147483648) : x = iI d ↔ x.toInt = d := by
  have h1 := rng_lo x
  have h2 := rng_hi x
  constructor
  · intro e
    rw [e, toInt_iI d h.1 h.2]
  · intro e
    rw [← e, iI_toInt]
theorem latF_congr {f g : Nat → Int} {d : Int} {n : Nat} (h : ∀ k, k < n → f k = g k) : latF f d n = latF g d n := by
  induction n with
  | zero => rfl
  | succ n ih =>
    unfold latF
    rw [h n (by omega), ih (fun k hk => h k (by omega))]
theorem latF_spec (f : Nat → Int) (d : Int) (n : Nat) : (latF f d n = -1 ∧ ∀ k, k < n → d < f k) ∨ ∃ k, k < n ∧ latF f d n = k ∧ f k ≤ d ∧ ∀ k', k < k' → k' < n → d < f k' := by
  induction n with
  | zero => exact Or.inl ⟨rfl, fun k hk => by omega⟩
  | succ n ih =>
    unfold latF
    by_cases c : f n ≤ d
    · rw [if_pos c]
      exact Or.inr ⟨n, by omega, rfl, c, fun k' h1 h2 => by omega⟩
    · rw [if_neg c]
      rcases ih with ⟨h1, h2⟩ | ⟨k, h1, h2, h3, h4⟩
      · refine Or.inl ⟨h1, fun k hk => ?_⟩
        by_cases e : k = n
        · subst e; omega
        · exact h2 k (by omega)
      · refine Or.inr ⟨k, by omega, h2, h3, fun k' h5 h6 => ?_⟩
        by_cases e : k' = n
        · subst e; omega
        · exact h4 k' h5 (by omega)
theorem lat_spec (f : Nat → Int) (l : List Nat) (d : Int) (hs : l.Pairwise (fun a b => f a < f b)) : (latF (fun k => f (l.getD k 0)) d l.length = -1 ∧ ∀ j, j ∈ l → d < f j) ∨ ∃ k j, k < l.length ∧ latF (fun k => f (l.getD k 0)) d l.length = (k : Int) ∧ l[k]? = some j ∧ f j ≤ d ∧ ∀ j', j' ∈ l → f j' ≤ d → f j' ≤ f j ∧ (f j' = f j → j' = j) := by
  have hp := List.pairwise_iff_getElem.mp hs
  have hg : ∀ k (hk : k < l.length), l.getD k 0 = l[k] := fun k hk => by simp [List.getD, hk]
  rcases latF_spec (fun k => f (l.getD k 0)) d l.length with ⟨h1, h2⟩ | ⟨k, h1, h2, h3, h4⟩
  · refine Or.inl ⟨h1, fun j hj => ?_⟩
    obtain ⟨k, hk, rfl⟩ := List.getElem_of_mem hj
    have := h2 k hk
    simp only [hg k hk] at this
    exact this
  · simp only [hg k h1] at h3
    refine Or.inr ⟨k, l[k], h1, h2, List.getElem?_eq_getElem h1, h3, fun j' hj hd => ?_⟩
    obtain ⟨k', hk', rfl⟩ := List.getElem_of_mem hj
    have q : ¬ k < k' := fun q => by
      have := h4 k' q hk'
      simp only [hg k' hk'] at this
      omega
    by_cases e : k' = k
    · subst e
      exact ⟨Int.le_refl _, fun _ => rfl⟩
    · have := hp k' k hk' h1 (by omega)
      exact ⟨by omega, fun q => by omega⟩
/-- a thing's appraisals, its reports: which, in which order -/
def AppF (u : MS) (l : List Nat) (i : Nat) : Prop := l.Perm ((List.range (vN u 10).toNat).filter (fun j => decide (vR u 11 j = i))) ∧ l.Pairwise (fun a b => vR u 12 a < vR u 12 b)
def RpsF (u : MS) (l : List Nat) (i : Nat) : Prop := l.Perm ((List.range (vN u 33).toNat).filter (fun j => decide (vR u 34 j = i))) ∧ l.Pairwise (fun a b => vR u 35 a < vR u 35 b)
theorem AppF.mem {u : MS} {l : List Nat} {i : Nat} (h : AppF u l i) (j : Nat) : j ∈ l ↔ j < (vN u 10).toNat ∧ vR u 11 j = i := by
  rw [h.1.mem_iff, List.mem_filter, List.mem_range, decide_eq_true_eq]
theorem RpsF.mem {u : MS} {l : List Nat} {i : Nat} (h : RpsF u l i) (j : Nat) : j ∈ l ↔ j < (vN u 33).toNat ∧ vR u 34 j = i := by
  rw [h.1.mem_iff, List.mem_filter, List.mem_range, decide_eq_true_eq]
theorem valF_spec (u : MS) (t d : Int) (m : Nat) (h0 : ∀ j, j < m → 0 ≤ vR u 12 j) : (valF u t d m = (vR u 7 t.toNat, -1) ∧ ∀ j, j < m → vR u 11 j = t → d < vR u 12 j) ∨ ∃ j, j < m ∧ vR u 11 j = t ∧ vR u 12 j ≤ d ∧ valF u t d m = (vR u 13 j, vR u 12 j) ∧ ∀ j', j' < m → vR u 11 j' = t → vR u 12 j' ≤ d → vR u 12 j' ≤ vR u 12 j := by
  induction m with
  | zero => exact Or.inl ⟨rfl, fun j hj => by omega⟩
  | succ m ih =>
    have h1 := h0 m (by omega)
    unfold valF
    rcases ih (fun j hj => h0 j (by omega)) with ⟨e, h2⟩ | ⟨j, h2, h3, h4, e, h5⟩
    · rw [e]
      by_cases c : vR u 11 m = t ∧ vR u 12 m ≤ d
      · rw [if_pos ⟨c.1, c.2, by omega⟩]
        refine Or.inr ⟨m, by omega, c.1, c.2, rfl, fun j' h6 h7 h8 => ?_⟩
        by_cases q : j' = m
        · subst q; omega
        · have := h2 j' (by omega) h7
          omega
      · rw [if_neg (fun q => c ⟨q.1, q.2.1⟩)]
        refine Or.inl ⟨rfl, fun j' h6 h7 => ?_⟩
        by_cases q : j' = m
        · subst q
          exact Int.not_le.mp (fun q => c ⟨h7, q⟩)
        · exact h2 j' (by omega) h7
    · rw [e]
      by_cases c : vR u 11 m = t ∧ vR u 12 m ≤ d ∧ vR u 12 j ≤ vR u 12 m
      · rw [if_pos c]
        refine Or.inr ⟨m, by omega, c.1, c.2.1, rfl, fun j' h6 h7 h8 => ?_⟩
        by_cases q : j' = m
        · subst q; omega
        · have := h5 j' (by omega) h7 h8
          omega
      · rw [if_neg c]
        refine Or.inr ⟨j, by omega, h3, h4, rfl, fun j' h6 h7 h8 => ?_⟩
        by_cases q : j' = m
        · subst q
          exact Int.not_lt.mp (fun q => c ⟨h7, h8, by omega⟩)
        · exact h5 j' (by omega) h7 h8
theorem valS_lat {u : MS} {l : List Nat} {i : Nat} (h : AppF u l i) (h0 : ∀ j, j < (vN u 10).toNat → 0 ≤ vR u 12 j) (d : Int) : (latF (fun k => vR u 12 (l.getD k 0)) d l.length = -1 ∧ valS u i d = vR u 7 i) ∨ ∃ k j, k < l.length ∧ latF (fun k => vR u 12 (l.getD k 0)) d l.length = (k : Int) ∧ l[k]? = some j ∧ valS u i d = vR u 13 j := by
  unfold valS
  rcases lat_spec (vR u 12) l d h.2 with ⟨h1, h2⟩ | ⟨k, j, h1, h2, h3, h4, h5⟩
  · refine Or.inl ⟨h1, ?_⟩
    rcases valF_spec u i d (vN u 10).toNat h0 with ⟨e, -⟩ | ⟨j, g1, g2, g3, -, -⟩
    · rw [e, Int.toNat_natCast]
    · have := h2 j ((h.mem j).mpr ⟨g1, g2⟩)
      omega
  · have hj := (h.mem j).mp (List.mem_of_getElem? h3)
    refine Or.inr ⟨k, j, h1, h2, h3, ?_⟩
    rcases valF_spec u i d (vN u 10).toNat h0 with ⟨e, g⟩ | ⟨j2, g1, g2, g3, e, g4⟩
    · have := g j hj.1 hj.2
      omega
    · have q1 := g4 j hj.1 hj.2 h4
      obtain ⟨q2, q3⟩ := h5 j2 ((h.mem j2).mpr ⟨g1, g2⟩) g3
      rw [e, q3 (by omega)]
theorem inF_spec (u : MS) (t d : Int) (m : Nat) : (inF u t d m = -1 ∧ ∀ j, j < m → vR u 34 j = t → d < vR u 35 j) ∨ ∃ j, j < m ∧ vR u 34 j = t ∧ vR u 35 j ≤ d ∧ inF u t d m = (j : Int) ∧ ∀ j', j' < m → vR u 34 j' = t → vR u 35 j' ≤ d → vR u 35 j' ≤ vR u 35 j := by
  induction m with
  | zero => exact Or.inl ⟨rfl, fun j hj => by omega⟩
  | succ m ih =>
    unfold inF
    rcases ih with ⟨e, h2⟩ | ⟨j, h2, h3, h4, e, h5⟩
    · rw [e]
      by_cases c : vR u 34 m = t ∧ vR u 35 m ≤ d
      · rw [if_pos ⟨c.1, c.2, by omega⟩]
        refine Or.inr ⟨m, by omega, c.1, c.2, rfl, fun j' h6 h7 h8 => ?_⟩
        by_cases q : j' = m
        · subst q; omega
        · have := h2 j' (by omega) h7
          omega
      · rw [if_neg (fun q => c ⟨q.1, q.2.1⟩)]
        refine Or.inl ⟨rfl, fun j' h6 h7 => ?_⟩
        by_cases q : j' = m
        · subst q
          exact Int.not_le.mp (fun q => c ⟨h7, q⟩)
        · exact h2 j' (by omega) h7
    · rw [e, Int.toNat_natCast]
      by_cases c : vR u 34 m = t ∧ vR u 35 m ≤ d ∧ vR u 35 j < vR u 35 m
      · rw [if_pos ⟨c.1, c.2.1, Or.inr c.2.2⟩]
        refine Or.inr ⟨m, by omega, c.1, c.2.1, rfl, fun j' h6 h7 h8 => ?_⟩
        by_cases q : j' = m
        · subst q; omega
        · have := h5 j' (by omega) h7 h8
          omega
      · rw [if_neg (fun q => c ⟨q.1, q.2.1, q.2.2.resolve_left (by omega)⟩)]
        refine Or.inr ⟨j, by omega, h3, h4, rfl, fun j' h6 h7 h8 => ?_⟩
        by_cases q : j' = m
        · subst q
          exact Int.not_lt.mp (fun q => c ⟨h7, h8, q⟩)
        · exact h5 j' (by omega) h7 h8
theorem inS_lat {u : MS} {l : List Nat} {i : Nat} (h : RpsF u l i) (d : Int) : (latF (fun k => vR u 35 (l.getD k 0)) d l.length = -1 ∧ inS u i d = -1) ∨ ∃ k j, k < l.length ∧ latF (fun k => vR u 35 (l.getD k 0)) d l.length = (k : Int) ∧ l[k]? = some j ∧ inS u i d = (j : Int) ∧ vR u 35 j ≤ d := by
  unfold inS
  rcases lat_spec (vR u 35) l d h.2 with ⟨h1, h2⟩ | ⟨k, j, h1, h2, h3, h4, h5⟩
  · refine Or.inl ⟨h1, ?_⟩
    rcases inF_spec u i d (vN u 33).toNat with ⟨e, -⟩ | ⟨j, g1, g2, g3, -, -⟩
    · exact e
    · have := h2 j ((h.mem j).mpr ⟨g1, g2⟩)
      omega
  · have hj := (h.mem j).mp (List.mem_of_getElem? h3)
    refine Or.inr ⟨k, j, h1, h2, h3, ?_, h4⟩
    rcases inF_spec u i d (vN u 33).toNat with ⟨e, g⟩ | ⟨j2, g1, g2, g3, e, g4⟩
    · have := g j hj.1 hj.2
      omega
    · have q1 := g4 j hj.1 hj.2 h4
      obtain ⟨q2, q3⟩ := h5 j2 ((h.mem j2).mpr ⟨g1, g2⟩) g3
      rw [e, q3 (by omega)]
