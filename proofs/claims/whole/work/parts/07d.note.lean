/-! A REPORT AS IT IS WRITTEN: the reference's grid, the class's row; NOTE -/
theorem harT_snoc (f g : Nat → Int) (l : List Nat) (j : Nat) (b : Bool) : harT f g (l ++ [j]) b = harT f g l b ++ ((if (b || !l.isEmpty) = true then [44, 32] else []) ++ (sortT (f j / 100) ++ ([32] ++ (numL (f j % 100) ++ ([32] ++ numL (g j)))))) := by
  induction l generalizing b with
  | nil =>
    simp only [List.nil_append, harT, List.append_nil]
    cases b <;> rfl
  | cons a l ih =>
    rw [List.cons_append, harT, ih, harT]
    have e : ((b || !(a :: l).isEmpty)) = (true || !l.isEmpty) := by cases b <;> rfl
    rw [e]
    simp only [List.append_assoc]
theorem harT_len (f g : Nat → Int) (l : List Nat) (b : Bool) : (harT f g l b).length ≤ 17 * l.length := by
  induction l generalizing b with
  | nil => simp [harT]
  | cons a l ih =>
    have h1 := ih true
    have h2 := sortT_len (f a / 100)
    have h3 := numL_len (f a % 100)
    have h4 := numL_len (g a)
    rw [harT]
    simp only [List.length_append, List.length_cons, List.length_nil]
    have h5 : (if b = true then ([44, 32] : List Int) else []).length ≤ 2 := by split <;> simp
    omega
theorem sortT_pos (k : Int) : 4 ≤ (sortT k).length := by
  unfold sortT
  (repeat' split) <;> decide
theorem harT_pos (f g : Nat → Int) (l : List Nat) (b : Bool) (h : l ≠ []) : 0 < (harT f g l b).length := by
  cases l with
  | nil => exact absurd rfl h
  | cons a l =>
    have h2 := sortT_pos (f a / 100)
    rw [harT]
    simp only [List.length_append]
    omega
theorem sizG_congr {u v : MS} (h7 : v.2 37 = u.2 37) (h8 : v.2 38 = u.2 38) (h9 : v.2 39 = u.2 39) (r q s : Int) (c : Nat) (i x : Int) : sizG v r q s c i x = sizG u r q s c i x := by
  induction c generalizing i x with
  | zero => rfl
  | succ c ih =>
    rw [sizG, sizG]
    unfold vR
    rw [h7, h8, h9]
    split
    · exact ih _ _
    · exact ih _ _
section NOTE
variable {u0 : MS} {S : Nat → Nat} {L : Mem} {r : Nat} {xs : List Nat}
def NP (u : MS) (r : Nat) (xs : List Nat) (K : Int) (m : Nat) : Prop := m ≤ xs.length ∧ (∀ i j, i < m → xs[i]? = some j → keyS u r j < K) ∧ ∀ i j, m ≤ i → xs[i]? = some j → K ≤ keyS u r j
def hT (u : MS) (r : Nat) (l : List Nat) : List Int := harT (keyS u r) (fun j => vR u 39 (r * 16 + j)) l false
theorem t_siz {u1 : MS} {t : List Int} (hW : WrU u0 u1 t) (n : Nat) (hn : 60 ≤ n) (hr : r < 48) (ho : RepOK u0 r) (q s : Int) (hq : 0 ≤ q ∧ q ≤ 100) (hs : 0 ≤ s ∧ s ≤ 100) : f_X12_sizeIn n u1 (iI r) (iI q) (iI s) = some (iI (sizS u0 r q s)) := by
  have e := hW.2.2.2.2
  have ho1 : RepOK u1 r := by
    unfold RepOK vR at *
    rw [e 36 (by decide), e 34 (by decide), e 35 (by decide)]
    exact ho
  rw [t_sizeIn n u1 r q s (by omega) (by omega) (by omega) ho1 hn]
  unfold sizS
  rw [sizG_congr (u := u0) (v := u1) (e 37 (by decide)) (e 38 (by decide)) (e 39 (by decide))]
  unfold vR
  rw [e 36 (by decide)]
theorem t_note_in (hS : LitOK S L) (n : Nat) (hn : 400 ≤ n) (hr : r < 48) (ho : RepOK u0 r) (hx : xs.length ≤ 15) (hs : xs.Pairwise (fun a b => keyS u0 r a < keyS u0 r b)) (hh : ∀ j, j ∈ xs → (0 ≤ vR u0 37 (r * 16 + j) ∧ vR u0 37 (r * 16 + j) ≤ 3) ∧ (0 ≤ vR u0 38 (r * 16 + j) ∧ vR u0 38 (r * 16 + j) ≤ 99) ∧ (1 ≤ vR u0 39 (r * 16 + j) ∧ vR u0 39 (r * 16 + j) ≤ 99)) (hz : ∀ q s : Int, 0 ≤ s ∧ s ≤ 99 → szL u0 r (q * 100 + s) xs = sizS u0 r q s) (q : Int) (hq : 0 ≤ q ∧ q ≤ 3) : ∀ (k : Nat) (s : Int) (m : Nat) (u1 : MS), 0 ≤ s → s ≤ 100 → (100 - s).toNat < k → NP u0 r xs (q * 100 + s) m → WrU u0 u1 (hT u0 r (xs.take m)) → ∃ (m2 : Nat) (u2 : MS), f_X12_writeReport_L14 S n L (iI r) (iI q) k u1 (iI s) = some u2 ∧ NP u0 r xs (q * 100 + 100) m2 ∧ WrU u0 u2 (hT u0 r (xs.take m2)) := by
  intro k
  induction k with
  | zero => intro s m u1 _ _ h; omega
  | succ k ih =>
    intro s m u1 s0 s1 hk hN hW
    unfold f_X12_writeReport_L14
    rw [show (100 : Int32) = iI 100 from rfl, it_le _ _ (by omega)]
    by_cases e : 100 ≤ s
    · rw [if_pos e]
      have : s = 100 := by omega
      subst this
      exact ⟨m, u1, rfl, hN, hW⟩
    · have hsz := hz q s (by omega)
      have hlen := harT_len (keyS u0 r) (fun j => vR u0 39 (r * 16 + j)) (xs.take m) false
      have htl : (xs.take m).length = m := by rw [List.length_take]; have := hN.1; omega
      rw [htl] at hlen
      have hlen2 : (hT u0 r (xs.take m)).length ≤ 17 * m := hlen
      rw [if_neg e, t_siz hW n (by omega) hr ho q s (by omega) (by omega), Option.bind_some]
      by_cases c : m < xs.length ∧ keyS u0 r (xs.getD m 0) = q * 100 + s
      · obtain ⟨c1, c2⟩ := c
        have ej : xs.getD m 0 = xs[m] := by simp [List.getD, c1]
        rw [ej] at c2
        have hj := hh _ (List.getElem_mem c1)
        have hsome : szL u0 r (q * 100 + s) xs = vR u0 39 (r * 16 + xs[m]) := szL_some u0 r _ xs xs[m] (List.getElem_mem c1) c2 (fun j' h1 h2 => by
          obtain ⟨i, hi, e3⟩ := List.getElem_of_mem h1
          exact (sort_inj hs (List.getElem?_eq_some_iff.mpr ⟨hi, e3⟩) (List.getElem?_eq_getElem c1) (by rw [h2, c2])).2)
        have hv : sizS u0 r q s = vR u0 39 (r * 16 + xs[m]) := by rw [← hsz]; exact hsome
        have e0 : ¬ iI (sizS u0 r q s) = (0 : Int32) := by
          intro x
          have := (iI_eq (sizS u0 r q s) 0 (by omega)).mp x
          omega
        have hky : vR u0 37 (r * 16 + xs[m]) = q ∧ vR u0 38 (r * 16 + xs[m]) = s := by
          unfold keyS at c2
          omega
        have step : ∃ u2, ((if (u1.1 42) ≤ 0 then (some u1) else ((f_X12_writeWord n L u1 (some (S 13))).bind fun r5 => some (r5))) : Option MS) = some u2 ∧ WrU u0 u2 (hT u0 r (xs.take m) ++ (if (false || !(xs.take m).isEmpty) = true then [44, 32] else [])) := by
          rw [u1_iI, hW.1, show (0 : Int32) = iI 0 from rfl, it_le _ _ (by omega)]
          by_cases e : xs.take m = []
          · rw [e]
            rw [if_pos (by show ((hT u0 r []).length : Int) ≤ 0; exact Int.le_refl _), if_neg (by simp), List.append_nil]
            rw [e] at hW
            exact ⟨u1, rfl, hW⟩
          · have hp := harT_pos (keyS u0 r) (fun j => vR u0 39 (r * 16 + j)) (xs.take m) false e
            have hp2 : 0 < (hT u0 r (xs.take m)).length := hp
            obtain ⟨u2, g1, g2⟩ := hW.word n hn (hS 13 (by decide)) (by show _ + 2 ≤ 800; omega)
            have hne : (false || !(xs.take m).isEmpty) = true := by
              cases hq : xs.take m with
              | nil => exact absurd hq e
              | cons => rfl
            rw [if_neg (by omega), if_pos hne, g1]
            exact ⟨u2, rfl, g2⟩
        obtain ⟨v1, e1, w1⟩ := step
        have l1 : (hT u0 r (xs.take m) ++ (if (false || !(xs.take m).isEmpty) = true then [44, 32] else [])).length ≤ 17 * m + 2 := by
          rw [List.length_append]
          split <;> simp <;> omega
        obtain ⟨a, k1, k2⟩ := t_sortName hS v1 q hq
        have hsl := sortT_len q
        obtain ⟨v2, e2, w2⟩ := w1.word n hn k2 (by omega)
        have l2 : (hT u0 r (xs.take m) ++ (if (false || !(xs.take m).isEmpty) = true then [44, 32] else []) ++ sortT q).length ≤ 17 * m + 7 := by
          rw [List.length_append]; omega
        obtain ⟨e3, w3⟩ := w2.one (by omega) 32
        have l3 : (hT u0 r (xs.take m) ++ (if (false || !(xs.take m).isEmpty) = true then [44, 32] else []) ++ sortT q ++ [32]).length ≤ 17 * m + 8 := by
          rw [List.length_append]; show _ + 1 ≤ _; omega
        have hn1 := numL_len s
        have hn2 := numL_len (vR u0 39 (r * 16 + xs[m]))
        obtain ⟨v4, e4, w4⟩ := w3.num n (by omega) s (by omega) (by omega)
        have l4 : (hT u0 r (xs.take m) ++ (if (false || !(xs.take m).isEmpty) = true then [44, 32] else []) ++ sortT q ++ [32] ++ numL s).length ≤ 17 * m + 12 := by
          rw [List.length_append]; omega
        obtain ⟨e5, w5⟩ := w4.one (by omega) 32
        have l5 : (hT u0 r (xs.take m) ++ (if (false || !(xs.take m).isEmpty) = true then [44, 32] else []) ++ sortT q ++ [32] ++ numL s ++ [32]).length ≤ 17 * m + 13 := by
          rw [List.length_append]; show _ + 1 ≤ _; omega
        obtain ⟨v6, e6, w6⟩ := w5.num n (by omega) (vR u0 39 (r * 16 + xs[m])) (by omega) (by omega)
        have htk : xs.take (m + 1) = xs.take m ++ [xs[m]] := by rw [List.take_succ, List.getElem?_eq_getElem c1]; rfl
        have hsn := harT_snoc (keyS u0 r) (fun j => vR u0 39 (r * 16 + j)) (xs.take m) xs[m] false
        have hw7 : WrU u0 v6 (hT u0 r (xs.take (m + 1))) := by
          unfold hT at *
          rw [htk, hsn, c2, show (q * 100 + s) / 100 = q by omega, show (q * 100 + s) % 100 = s by omega]
          simp only [List.append_assoc] at w6
          exact w6
        obtain ⟨m2, u2, x1, x2, x3⟩ := ih (s + 1) (m + 1) v6 (by omega) (by omega) (by omega) ⟨by omega, fun i j hi hij => by
          by_cases e : i = m
          · subst e
            rw [List.getElem?_eq_getElem c1] at hij
            cases hij
            omega
          · have := hN.2.1 i j (by omega) hij
            omega, fun i j hi hij => by
          have hp := List.pairwise_iff_getElem.mp hs
          obtain ⟨i1, i2⟩ := List.getElem?_eq_some_iff.mp hij
          have := hp m i c1 i1 (by omega)
          rw [i2] at this
          omega⟩ hw7
        rw [if_neg e0, e1, Option.bind_some, k1, Option.bind_some, e2, Option.bind_some, show (32 : Int32) = iI 32 from rfl, e3, Option.bind_some, e4, Option.bind_some, e5, Option.bind_some, hv, e6, Option.bind_some, show (1 : Int32) = iI 1 from rfl, iI_add, x1]
        exact ⟨m2, u2, rfl, x2, x3⟩
      · have hno : ∀ i j, xs[i]? = some j → keyS u0 r j ≠ q * 100 + s := fun i j hij hk2 => by
          obtain ⟨i1, i2⟩ := List.getElem?_eq_some_iff.mp hij
          by_cases c1 : i < m
          · have := hN.2.1 i j c1 hij
            omega
          · have hm : m < xs.length := by omega
            have ej : xs.getD m 0 = xs[m] := by simp [List.getD, hm]
            by_cases c2 : i = m
            · subst c2
              exact c ⟨hm, by rw [ej, i2]; exact hk2⟩
            · have hp := List.pairwise_iff_getElem.mp hs
              have q1 := hp m i hm i1 (by omega)
              have q2 := hN.2.2 m xs[m] (Nat.le_refl _) (List.getElem?_eq_getElem hm)
              rw [i2] at q1
              omega
        have h0 : sizS u0 r q s = 0 := by
          rw [← hsz]
          exact szL_none u0 r _ xs (fun j hj hx => by
            obtain ⟨i, hi, e3⟩ := List.getElem_of_mem hj
            exact hno i j (List.getElem?_eq_some_iff.mpr ⟨hi, e3⟩) hx)
        rw [h0, if_pos (show iI 0 = (0 : Int32) from rfl), show (1 : Int32) = iI 1 from rfl, iI_add]
        exact ih (s + 1) m u1 (by omega) (by omega) (by omega) ⟨hN.1, fun i j hi hij => by have := hN.2.1 i j hi hij; omega, fun i j hi hij => by
          have q1 := hN.2.2 i j hi hij
          have q2 := hno i j hij
          omega⟩ hW
theorem t_note_out (hS : LitOK S L) (n : Nat) (hn : 400 ≤ n) (hr : r < 48) (ho : RepOK u0 r) (hx : xs.length ≤ 15) (hs : xs.Pairwise (fun a b => keyS u0 r a < keyS u0 r b)) (hh : ∀ j, j ∈ xs → (0 ≤ vR u0 37 (r * 16 + j) ∧ vR u0 37 (r * 16 + j) ≤ 3) ∧ (0 ≤ vR u0 38 (r * 16 + j) ∧ vR u0 38 (r * 16 + j) ≤ 99) ∧ (1 ≤ vR u0 39 (r * 16 + j) ∧ vR u0 39 (r * 16 + j) ≤ 99)) (hz : ∀ q s : Int, 0 ≤ s ∧ s ≤ 99 → szL u0 r (q * 100 + s) xs = sizS u0 r q s) : ∀ (k : Nat) (q : Int) (m : Nat) (u1 : MS), 0 ≤ q → q ≤ 4 → (4 - q).toNat < k → NP u0 r xs (q * 100) m → WrU u0 u1 (hT u0 r (xs.take m)) → ∃ u2 : MS, f_X12_writeReport_L7 S n L (iI r) k u1 (iI q) = some u2 ∧ WrU u0 u2 (repT u0 r xs) := by
  intro k
  induction k with
  | zero => intro q m u1 _ _ h; omega
  | succ k ih =>
    intro q m u1 q0 q1 hk hN hW
    unfold f_X12_writeReport_L7
    rw [show (4 : Int32) = iI 4 from rfl, it_le _ _ (by omega)]
    by_cases e : 4 ≤ q
    · have hm : m = xs.length := by
        have := hN.1
        by_cases c : m < xs.length
        · have h1 := hN.2.2 m xs[m] (Nat.le_refl _) (List.getElem?_eq_getElem c)
          have h2 := hh _ (List.getElem_mem c)
          unfold keyS at h1
          omega
        · omega
      rw [if_pos e, u1_iI, hW.1]
      rw [hm, List.take_length] at hW
      by_cases c : xs = []
      · subst c
        obtain ⟨u2, g1, g2⟩ := hW.word n hn (hS 1 (by decide)) (by show 0 + 5 ≤ 800; omega)
        rw [if_pos (by rw [hm]; rfl), g1]
        exact ⟨u2, rfl, g2⟩
      · have hp : 0 < (hT u0 r xs).length := harT_pos _ _ _ _ c
        have hl : (hT u0 r xs).length ≤ 17 * xs.length := harT_len _ _ _ _
        rw [hm, List.take_length, show (0 : Int32) = iI 0 from rfl, it_eq _ _ (by omega), if_neg (by omega)]
        refine ⟨u1, rfl, ?_⟩
        unfold repT
        rw [if_neg c]
        exact hW
    · rw [if_neg e]
      obtain ⟨m2, u2, x1, x2, x3⟩ := t_note_in hS n hn hr ho hx hs hh hz q (by omega) n 0 m u1 (by omega) (by omega) (by omega) (by rw [Int.add_zero]; exact hN) hW
      rw [show (0 : Int32) = iI 0 from rfl, x1, Option.bind_some, show (1 : Int32) = iI 1 from rfl, iI_add]
      exact ih (q + 1) m2 u2 (by omega) (by omega) (by omega) (by rw [Int.add_mul]; exact x2) x3
end NOTE
