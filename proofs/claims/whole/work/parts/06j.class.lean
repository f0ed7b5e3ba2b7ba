/-! REPORTS: sizes, damages, bearers -/
theorem ahead_lat (f : Nat → Int) (l : List Nat) (hs : l.Pairwise (fun a b => f a < f b)) (k : Nat) (hk : k < l.length) : latF (fun k => f (l.getD k 0)) (f l[k] - 1) l.length = (k : Int) - 1 := by
  have hp := List.pairwise_iff_getElem.mp hs
  have hg : ∀ k (hk : k < l.length), l.getD k 0 = l[k] := fun k hk => by simp [List.getD, hk]
  rcases latF_spec (fun k => f (l.getD k 0)) (f l[k] - 1) l.length with ⟨h1, h2⟩ | ⟨k', h1, h2, h3, h4⟩
  · have : k = 0 := by
      by_cases e : k = 0
      · exact e
      · have q1 := h2 0 (by omega)
        have q2 := hp 0 k (by omega) hk (by omega)
        simp only [hg 0 (by omega)] at q1
        omega
    omega
  · simp only [hg k' h1] at h3
    have q1 : k' < k := by
      by_cases e : k' < k
      · exact e
      · by_cases e2 : k = k'
        · subst e2; omega
        · have := hp k k' hk h1 (by omega)
          omega
    by_cases e : k' = k - 1
    · omega
    · have q2 := h4 (k - 1) (by omega) (by omega)
      have q3 := hp (k - 1) k (by omega) hk (by omega)
      simp only [hg (k - 1) (by omega)] at q2
      omega
theorem own_lat (f : Nat → Int) (l : List Nat) (hs : l.Pairwise (fun a b => f a < f b)) (k : Nat) (hk : k < l.length) : latF (fun k => f (l.getD k 0)) (f l[k]) l.length = (k : Int) := by
  have hp := List.pairwise_iff_getElem.mp hs
  have hg : ∀ k (hk : k < l.length), l.getD k 0 = l[k] := fun k hk => by simp [List.getD, hk]
  rcases latF_spec (fun k => f (l.getD k 0)) (f l[k]) l.length with ⟨h1, h2⟩ | ⟨k', h1, h2, h3, h4⟩
  · have q1 := h2 k hk
    simp only [hg k hk] at q1
    omega
  · simp only [hg k' h1] at h3
    have q1 : k' = k := by
      by_cases e : k' < k
      · have q2 := h4 k e hk
        simp only [hg k hk] at q2
        omega
      · by_cases e2 : k = k'
        · omega
        · have := hp k k' hk h1 (by omega)
          omega
    omega
/-- the size of a harm, by its number, in a row -/
def szL (u : MS) (r : Nat) (x : Int) : List Nat → Int
  | [] => 0
  | j :: l => if keyS u r j = x then vR u 39 (r * 16 + j) else szL u r x l
theorem szL_none (u : MS) (r : Nat) (x : Int) (l : List Nat) (h : ∀ j, j ∈ l → keyS u r j ≠ x) : szL u r x l = 0 := by
  induction l with
  | nil => rfl
  | cons a l ih => rw [szL, if_neg (h a (List.mem_cons_self ..)), ih (fun j hj => h j (List.mem_cons_of_mem _ hj))]
theorem szL_some (u : MS) (r : Nat) (x : Int) (l : List Nat) (j : Nat) (hj : j ∈ l) (hx : keyS u r j = x) (h : ∀ j', j' ∈ l → keyS u r j' = x → j' = j) : szL u r x l = vR u 39 (r * 16 + j) := by
  induction l with
  | nil => cases hj
  | cons a l ih =>
    rw [szL]
    by_cases e : keyS u r a = x
    · rw [if_pos e, h a (List.mem_cons_self ..) e]
    · rw [if_neg e]
      rcases List.mem_cons.mp hj with rfl | hj
      · exact absurd hx e
      · exact ih hj (fun j' q => h j' (List.mem_cons_of_mem _ q))
theorem sizG_none (u : MS) (r q s : Int) (c : Nat) (i x : Int) (h : ∀ j, i ≤ j → j < i + c → ¬ (vR u 37 (r * 16 + j).toNat = q ∧ vR u 38 (r * 16 + j).toNat = s)) : sizG u r q s c i x = x := by
  induction c generalizing i with
  | zero => rfl
  | succ c ih =>
    rw [sizG, if_neg (h i (by omega) (by omega))]
    exact ih (i + 1) (fun j a b => h j (by omega) (by omega))
theorem sizG_some (u : MS) (r q s : Int) (c : Nat) (i x j : Int) (hj : i ≤ j ∧ j < i + c) (hm : vR u 37 (r * 16 + j).toNat = q ∧ vR u 38 (r * 16 + j).toNat = s) (h : ∀ j', i ≤ j' → j' < i + c → vR u 37 (r * 16 + j').toNat = q ∧ vR u 38 (r * 16 + j').toNat = s → j' = j) : sizG u r q s c i x = vR u 39 (r * 16 + j).toNat := by
  induction c generalizing i x with
  | zero => omega
  | succ c ih =>
    rw [sizG]
    by_cases e : i = j
    · subst e
      rw [if_pos hm]
      exact sizG_none u r q s c (i + 1) _ (fun j' a b hh => by have := h j' (by omega) (by omega) hh; omega)
    · rw [if_neg (fun hh => e (h i (by omega) (by omega) hh))]
      exact ih (i + 1) _ (by omega) (fun j' a b hh => h j' (by omega) (by omega) hh)
theorem key_inj {q s q2 s2 : Int} (hs : 0 ≤ s ∧ s ≤ 99) (hs2 : 0 ≤ s2 ∧ s2 ≤ 99) : q * 100 + s = q2 * 100 + s2 ↔ q = q2 ∧ s = s2 := by omega
theorem szL_siz {u : MS} {xl : Nat → List Nat} (hI : Inv u xl) (r : Nat) (hr : r < (vN u 33).toNat) (q s : Int) (hs : 0 ≤ s ∧ s ≤ 99) : szL u r (q * 100 + s) (xl (10000 + r)) = sizS u r q s := by
  obtain ⟨hF, hS⟩ := hI.harf r hr
  have hk := hI.rptk r hr
  have hH := hk.2.1
  have hn := hk.1.1
  unfold HarOK at hH
  simp only [Int.toNat_natCast] at hH hn
  have hm : ∀ j, j ∈ xl (10000 + r) ↔ j < (vR u 36 r).toNat := fun j => by rw [hF.mem_iff, List.mem_range]
  have hkey : ∀ j : Nat, j < (vR u 36 r).toNat → (keyS u r j = q * 100 + s ↔ vR u 37 (r * 16 + j) = q ∧ vR u 38 (r * 16 + j) = s) := fun j hj => by
    have := hH j (by omega) (by omega)
    rw [show (((r : Nat) : Int) * 16 + (j : Int)).toNat = r * 16 + j by omega] at this
    exact key_inj this.2.1 hs
  have huniq : ∀ j j' : Nat, j ∈ xl (10000 + r) → j' ∈ xl (10000 + r) → keyS u r j = keyS u r j' → j = j' := fun j j' h1 h2 e => by
    obtain ⟨a, ha, rfl⟩ := List.getElem_of_mem h1
    obtain ⟨b, hb, rfl⟩ := List.getElem_of_mem h2
    have hp := List.pairwise_iff_getElem.mp hS
    by_cases c1 : a < b
    · have := hp a b ha hb c1
      omega
    · by_cases c2 : b < a
      · have := hp b a hb ha c2
        omega
      · have : a = b := by omega
        subst this
        rfl
  unfold sizS
  simp only [Int.toNat_natCast]
  by_cases c : ∃ j : Nat, j < (vR u 36 r).toNat ∧ keyS u r j = q * 100 + s
  · obtain ⟨j, h1, h2⟩ := c
    have e := (hkey j h1).mp h2
    have e0 : (((r : Nat) : Int) * 16 + (j : Int)).toNat = r * 16 + j := by omega
    rw [szL_some u r _ _ j ((hm j).mpr h1) h2 (fun j' q1 q2 => huniq _ _ q1 ((hm j).mpr h1) (q2.trans h2.symm)), sizG_some u r q s _ 0 0 j (by omega) (by rw [e0]; exact e) (fun j' a b hh => ?_), e0]
    have e1 : (((r : Nat) : Int) * 16 + j').toNat = r * 16 + j'.toNat := by omega
    rw [e1] at hh
    have := huniq j'.toNat j ((hm _).mpr (by omega)) ((hm _).mpr h1) (((hkey j'.toNat (by omega)).mpr hh).trans h2.symm)
    omega
  · rw [szL_none u r _ _ (fun j hj hx => c ⟨j, (hm j).mp hj, hx⟩), sizG_none u r q s _ 0 0 (fun j a b hh => c ⟨j.toNat, by omega, (hkey j.toNat (by omega)).mpr ?_⟩)]
    rw [show (((r : Nat) : Int) * 16 + j).toNat = r * 16 + j.toNat by omega] at hh
    exact hh
def RpO (M : Mem) (u : MS) (r a : Nat) (xs : List Nat) : Prop := ∃ (w : Value) (s z : Nat) (f g : Nat → Int32), M a = some (.inl (11, [.int (u.2 35 r), w, .ref s, .ref z])) ∧ M s = some (.inr (.inl (0, xs.length, f))) ∧ M z = some (.inr (.inl (0, xs.length, g))) ∧ xs.length ≤ 15 ∧ ∀ k j, xs[k]? = some j → f k = iI (keyS u r j) ∧ g k = u.2 39 (r * 16 + j)
theorem RepK.rpo {B : Nat} {S : Nat → Nat} {L : Mem} {x0 : Nat} {ad rho : Nat → Nat} {xl : Nat → List Nat} {M : Mem} {u : MS} {sz : Nat} (h : RepK B S L x0 ad rho xl M u sz) (hI : Inv u xl) {r : Nat} (hr : r < (vN u 33).toNat) : RpO M u r (ad (10000 + r)) (xl (10000 + r)) := by
  obtain ⟨w, s, z, f, g, h1, h2, h3, h4, h5⟩ := h.rpt hr
  have hk := hI.rptk r hr
  have hl := (hI.harf r hr).1.length_eq
  rw [List.length_range] at hl
  exact ⟨_, s, z, f, g, h1.1, h3.1, h4.1, by have := hk.2.2.2; omega, h5⟩
section RO
variable {M : Mem} {u : MS} {r a : Nat} {xs : List Nat}
theorem RpO.is (h : RpO M u r a xs) : isO M (some a) 11 = true := by
  obtain ⟨w, s, z, f, g, h1, -⟩ := h
  exact isO_at h1
theorem RpO.size_L (h : RpO M u r a xs) (n : Nat) (x : Int) (hx : -2147483648 ≤ x ∧ x < 2147483648) (hk : ∀ j, j ∈ xs → -2147483648 ≤ keyS u r j ∧ keyS u r j < 2147483648) : ∀ k i : Nat, i ≤ xs.length → xs.length - i < k → f_X8_sizeAt_L2 n M (some a) (iI x) k (iI i) = some (iI (szL u r x (xs.drop i))) := by
  obtain ⟨w, s, z, f, g, h1, h2, h3, h4, h5⟩ := h
  intro k
  induction k with
  | zero => intro i _ h; omega
  | succ k ih =>
    intro i hi hki
    unfold f_X8_sizeAt_L2
    rw [gR_at h1, gR_at h1]
    simp only [List.getElem?_cons_zero, List.getElem?_cons_succ, Option.bind_some]
    rw [aL_i (by decide) h2, aL_i (by decide) h3, Option.bind_some, Option.bind_some, it_le _ _ (by omega)]
    by_cases e : xs.length ≤ i
    · rw [if_pos (by omega), List.drop_eq_nil_of_le e]
      rfl
    · have hlt : i < xs.length := by omega
      have hx5 := h5 i xs[i] (List.getElem?_eq_getElem hlt)
      have hkk := hk _ (List.getElem_mem hlt)
      rw [if_neg (by omega), it_le _ _ (by omega), if_neg (by omega), aI_at h2 (by omega) (by omega), aI_at h3 (by omega) (by omega), Option.bind_some, Option.bind_some, Int.toNat_natCast, hx5.1, hx5.2, it_eq _ _ (by omega), dropc xs i hlt, szL]
      by_cases c : keyS u r xs[i] = x
      · rw [if_pos c, if_pos c, u2_iI]
      · rw [if_neg c, if_neg c, show (1 : Int32) = iI 1 from rfl, iI_add]
        have := ih (i + 1) (by omega) (by omega)
        push_cast at this
        exact this
theorem RpO.size (h : RpO M u r a xs) (n : Nat) (hf : 60 ≤ n) (x : Int) (hx : -2147483648 ≤ x ∧ x < 2147483648) (hk : ∀ j, j ∈ xs → -2147483648 ≤ keyS u r j ∧ keyS u r j < 2147483648) : f_X8_sizeAt n M (some a) (iI x) = some (iI (szL u r x xs)) := by
  have := h.size_L n x hx hk n 0 (by omega) (by obtain ⟨w, s, z, f, g, h1, h2, h3, h4, h5⟩ := h; omega)
  exact this
theorem z_gravity (M : Mem) (q : Int) (hq : 0 ≤ q ∧ q ≤ 3) : f_X11_gravity M (iI q) = some (iI (gravS q)) := by
  unfold f_X11_gravity gravS
  simp (disch := omega) only [iI_ofNat, iI_zero, iI_eq]
  (repeat' split) <;> rfl
theorem RpO.worse_L (h : RpO M u r a xs) {r2 a2 : Nat} {ys : List Nat} (h2 : RpO M u r2 a2 ys) (n : Nat) (hf : 60 ≤ n) (hk : ∀ j, j ∈ xs → (0 ≤ vR u 37 (r * 16 + j) ∧ vR u 37 (r * 16 + j) ≤ 3) ∧ (0 ≤ vR u 38 (r * 16 + j) ∧ vR u 38 (r * 16 + j) ≤ 99) ∧ (1 ≤ vR u 39 (r * 16 + j) ∧ vR u 39 (r * 16 + j) ≤ 99)) (hk2 : ∀ j, j ∈ ys → -2147483648 ≤ keyS u r2 j ∧ keyS u r2 j < 2147483648) (hz : ∀ q s : Int, 0 ≤ s ∧ s ≤ 99 → szL u r2 (q * 100 + s) ys = sizS u r2 q s ∧ 0 ≤ sizS u r2 q s ∧ sizS u r2 q s ≤ 99) : ∀ (k i : Nat) (w : Int), i ≤ xs.length → xs.length - i < k → f_X8_worseThan_L4 n M (some a) (some a2) k (iI w) (iI i) = some (iI (w + sumN (fun j => growS u r r2 j) (xs.drop i))) := by
  obtain ⟨wv, s, z, f, g, h1, g2, h3, h4, h5⟩ := h
  intro k
  induction k with
  | zero => intro i w _ h; omega
  | succ k ih =>
    intro i w hi hki
    unfold f_X8_worseThan_L4
    rw [gR_at h1, gR_at h1]
    simp only [List.getElem?_cons_zero, List.getElem?_cons_succ, Option.bind_some]
    rw [aL_i (by decide) g2, aL_i (by decide) h3, Option.bind_some, Option.bind_some, it_le _ _ (by omega)]
    by_cases e : xs.length ≤ i
    · rw [if_pos (by omega), List.drop_eq_nil_of_le e, sumN, Int.add_zero]
    · have hlt : i < xs.length := by omega
      have hx5 := h5 i xs[i] (List.getElem?_eq_getElem hlt)
      obtain ⟨k1, k2, k3⟩ := hk _ (List.getElem_mem hlt)
      have hky : keyS u r xs[i] = vR u 37 (r * 16 + xs[i]) * 100 + vR u 38 (r * 16 + xs[i]) := rfl
      obtain ⟨z1, z2, z3⟩ := hz (vR u 37 (r * 16 + xs[i])) (vR u 38 (r * 16 + xs[i])) k2
      have e0 : ((r : Int) * 16 + (xs[i] : Int)).toNat = r * 16 + xs[i] := by omega
      rw [if_neg (by omega), it_le _ _ (by omega), if_neg (by omega), aI_at g2 (by omega) (by omega), aI_at h3 (by omega) (by omega), Option.bind_some, Option.bind_some, Int.toNat_natCast, hx5.1, hx5.2, h2.is, if_pos rfl, h2.size n hf _ (by omega) hk2, Option.bind_some, Option.bind_some, show (100 : Int32) = iI 100 from rfl, iI_div _ _ (by omega), Int.tdiv_eq_ediv_of_nonneg (by omega), show keyS u r xs[i] / 100 = vR u 37 (r * 16 + xs[i]) by omega, z_gravity M _ k1, Option.bind_some, hky, z1, u2_iI, iI_sub, iI_zero, it_lt _ _ (by omega)]
      have e1 : (if vR u 39 (r * 16 + xs[i]) - sizS u r2 (vR u 37 (r * 16 + xs[i])) (vR u 38 (r * 16 + xs[i])) < 0 then iI 0 else iI (vR u 39 (r * 16 + xs[i]) - sizS u r2 (vR u 37 (r * 16 + xs[i])) (vR u 38 (r * 16 + xs[i])))) * iI (gravS (vR u 37 (r * 16 + xs[i]))) = iI (growS u r r2 xs[i]) := by
        unfold growS
        rw [e0]
        by_cases c : vR u 39 (r * 16 + xs[i]) - sizS u r2 (vR u 37 (r * 16 + xs[i])) (vR u 38 (r * 16 + xs[i])) < 0
        · rw [if_pos c, if_pos (by omega), iI_mul, Int.zero_mul]
        · rw [if_neg c, iI_mul]
          by_cases c2 : vR u 39 (r * 16 + xs[i]) - sizS u r2 (vR u 37 (r * 16 + xs[i])) (vR u 38 (r * 16 + xs[i])) ≤ 0
          · rw [if_pos c2, show vR u 39 (r * 16 + xs[i]) - sizS u r2 (vR u 37 (r * 16 + xs[i])) (vR u 38 (r * 16 + xs[i])) = 0 by omega, Int.zero_mul]
          · rw [if_neg c2]
      rw [e1, iI_add, show (1 : Int32) = iI 1 from rfl, iI_add, dropc xs i hlt, sumN]
      have := ih (i + 1) (w + growS u r r2 xs[i]) (by omega) (by omega)
      push_cast at this
      rw [this, Int.add_assoc]
end RO
