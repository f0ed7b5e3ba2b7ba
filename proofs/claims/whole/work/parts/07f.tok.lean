/-! PIECES OF A TEXT: what stands at a place, and how the reference reads it -/
def skF (g : Nat → Int) : Nat → Nat → Nat
  | 0, i => i
  | c + 1, i => if g i = 32 then skF g c (i + 1) else i
def rowF (g : Nat → Int) (lo hi : Int) : Nat → Nat → Nat
  | 0, i => i
  | c + 1, i => if lo ≤ g i ∧ g i ≤ hi then rowF g lo hi c (i + 1) else i
def numF (g : Nat → Int) (b : Nat) : Nat → Nat → Int → Int
  | 0, _, x => x
  | c + 1, i, x => numF g b c (i + 1) (if i < b + 4 then 10 * x + g i - 48 else x)
def segL (g : Nat → Int) : Nat → Nat → List Int
  | _, 0 => []
  | b, c + 1 => g b :: segL g (b + 1) c
theorem skF_rng (g : Nat → Int) (c i : Nat) : i ≤ skF g c i ∧ skF g c i ≤ i + c := by
  induction c generalizing i with
  | zero => simp [skF]
  | succ c ih =>
    unfold skF
    split
    · have := ih (i + 1)
      omega
    · omega
theorem rowF_rng (g : Nat → Int) (lo hi : Int) (c i : Nat) : i ≤ rowF g lo hi c i ∧ rowF g lo hi c i ≤ i + c := by
  induction c generalizing i with
  | zero => simp [rowF]
  | succ c ih =>
    unfold rowF
    split
    · have := ih (i + 1)
      omega
    · omega
theorem segL_len (g : Nat → Int) (b c : Nat) : (segL g b c).length = c := by
  induction c generalizing b with
  | zero => rfl
  | succ c ih => rw [segL, List.length_cons, ih]
def wvL (W : List Int) : Int := if W = kindT 0 then 0 else if W = kindT 1 then 1 else if W = kindT 2 then 2 else if W = kindT 3 then 3 else if W = kindT 4 then 4 else if W = sortT 0 then 5 else if W = sortT 1 then 6 else if W = sortT 2 then 7 else if W = sortT 3 then 8 else if W = litT 0 then 9 else if W = litT 1 then 10 else -1
/-- the piece at a byte that is no blank: token, value, its end -/
def tkB (g : Nat → Int) (N b : Nat) : Int × Int × Nat :=
  if 97 ≤ g b ∧ g b ≤ 122 then (if wvL (segL g b (rowF g 97 122 (N - b) b - b)) < 0 then 1 else 2, wvL (segL g b (rowF g 97 122 (N - b) b - b)), rowF g 97 122 (N - b) b)
  else if 48 ≤ g b ∧ g b ≤ 57 then (if rowF g 48 57 (N - b) b - b > 4 then 1 else 3, numF g b (rowF g 48 57 (N - b) b - b) b 0, rowF g 48 57 (N - b) b)
  else (if g b = 43 ∨ g b = 45 ∨ g b = 44 ∨ g b = 58 then 4 else 1, g b, b + 1)
/-- begin, token, value, end of the piece behind a place -/
def tok (g : Nat → Int) (N i : Nat) : Nat × Int × Int × Nat :=
  if skF g (N - i) i = N then (N, 0, 0, N) else (skF g (N - i) i, tkB g N (skF g (N - i) i))
/-- the pieces one behind another -/
def pcs (g : Nat → Int) (N : Nat) : Nat → Nat × Int × Int × Nat
  | 0 => tok g N 0
  | j + 1 => tok g N (pcs g N j).2.2.2
theorem tkB_rng (g : Nat → Int) (N b : Nat) (h : b < N) : b < (tkB g N b).2.2 ∧ (tkB g N b).2.2 ≤ N := by
  have h1 := rowF_rng g 97 122 (N - b) b
  have h2 := rowF_rng g 48 57 (N - b) b
  unfold tkB
  split
  · rename_i c
    refine ⟨?_, by show rowF g 97 122 (N - b) b ≤ N; omega⟩
    show b < rowF g 97 122 (N - b) b
    rw [show N - b = (N - b - 1) + 1 by omega]
    unfold rowF
    rw [if_pos c]
    have := rowF_rng g 97 122 (N - b - 1) (b + 1)
    omega
  · split
    · rename_i c
      refine ⟨?_, by show rowF g 48 57 (N - b) b ≤ N; omega⟩
      show b < rowF g 48 57 (N - b) b
      rw [show N - b = (N - b - 1) + 1 by omega]
      unfold rowF
      rw [if_pos c]
      have := rowF_rng g 48 57 (N - b - 1) (b + 1)
      omega
    · show b < b + 1 ∧ b + 1 ≤ N
      omega
theorem tok_rng (g : Nat → Int) (N i : Nat) (h : i ≤ N) : (tok g N i).1 ≤ N ∧ (tok g N i).2.2.2 ≤ N ∧ i ≤ (tok g N i).1 ∧ (tok g N i).1 ≤ (tok g N i).2.2.2 := by
  have h1 := skF_rng g (N - i) i
  unfold tok
  split
  · show N ≤ N ∧ N ≤ N ∧ i ≤ N ∧ N ≤ N
    omega
  · have h2 := tkB_rng g N (skF g (N - i) i) (by omega)
    show skF g (N - i) i ≤ N ∧ (tkB g N (skF g (N - i) i)).2.2 ≤ N ∧ i ≤ skF g (N - i) i ∧ skF g (N - i) i ≤ (tkB g N (skF g (N - i) i)).2.2
    omega
theorem pcs_rng (g : Nat → Int) (N j : Nat) : (pcs g N j).1 ≤ N ∧ (pcs g N j).2.2.2 ≤ N := by
  induction j with
  | zero =>
    have := tok_rng g N 0 (by omega)
    exact ⟨this.1, this.2.1⟩
  | succ j ih =>
    have := tok_rng g N (pcs g N j).2.2.2 ih.2
    exact ⟨this.1, this.2.1⟩
section RT
variable {S : Nat → Nat} {L : Mem}
/-- a state of the reference whose reading numbers are another's -/
def NX (u u1 : MS) (b tk v e : Int) : Prop := vN u1 43 = e ∧ vN u1 44 = b ∧ vN u1 45 = tk ∧ vN u1 46 = v ∧ (∀ k, k ≠ 43 → k ≠ 44 → k ≠ 45 → k ≠ 46 → u1.1 k = u.1 k) ∧ u1.2 = u.2
/-- only the place moves -/
def AtU (u u1 : MS) (i : Int) : Prop := vN u1 43 = i ∧ (∀ k, k ≠ 43 → u1.1 k = u.1 k) ∧ u1.2 = u.2
theorem AtU.set (u : MS) (i : Int) (h : -2147483648 ≤ i ∧ i < 2147483648) : AtU u (uI u 43 (iI i)) i := ⟨by rw [vN_uI _ _ _ _ h, if_pos rfl], fun k hk => by show upd u.1 43 _ k = _; simp [upd, hk], rfl⟩
theorem t_skip (n : Nat) (u : MS) (N : Nat) (hN : vN u 1 = N) (hN2 : N ≤ 120) : ∀ (k i : Nat) (u1 : MS), i ≤ N → N - i < k → AtU u u1 i → ∃ u2, f_X12_next_L0 S n L k u1 = some u2 ∧ AtU u u2 (skF (vR u 0) (N - i) i) := by
  intro k
  induction k with
  | zero => intro i u1 _ h; omega
  | succ k ih =>
    intro i u1 hi hk hA
    obtain ⟨a1, a2, a3⟩ := hA
    have b1 : u1.1 1 = iI N := by rw [a2 1 (by decide), u1_iI, hN]
    have b2 : u1.1 43 = iI i := by rw [u1_iI, a1]
    unfold f_X12_next_L0
    rw [b1, b2, it_le _ _ (by omega)]
    by_cases e : i = N
    · rw [if_pos (by omega), show N - i = 0 by omega]
      exact ⟨u1, rfl, by rw [skF]; exact ⟨a1, a2, a3⟩⟩
    · have q1 : inb (iI i) 120 := (iI_inb _ 120 (by omega)).mpr (by omega)
      rw [if_neg (by omega), if_pos q1]
      have ec : (iI (i : Int)).toNatClampNeg = i := by rw [iI_clamp _ (by omega), Int.toNat_natCast]
      have hr := vR_rng u 0 i
      have e32 : (u1.2 0 i = (32 : Int32)) ↔ vR u 0 i = 32 := by
        rw [a3, u2_iI]
        exact iI_eq _ 32 (by omega)
      simp only [ec, e32]
      rw [show N - i = (N - (i + 1)) + 1 by omega, skF]
      by_cases c : vR u 0 i = 32
      · rw [if_pos c, if_pos c, show (1 : Int32) = iI 1 from rfl, iI_add]
        obtain ⟨u2, x1, x2⟩ := ih (i + 1) (uI u1 43 (iI ((i : Int) + 1))) (by omega) (by omega) ⟨by rw [vN_uI _ _ _ _ (by omega), if_pos rfl]; omega, fun k hk => by
          show upd u1.1 43 _ k = _
          rw [← a2 k hk]
          simp [upd, hk], a3⟩
        exact ⟨u2, x1, x2⟩
      · rw [if_neg c, if_neg c]
        exact ⟨u1, rfl, a1, a2, a3⟩
theorem t_row (n : Nat) (u : MS) (N : Nat) (hN : vN u 1 = N) (hN2 : N ≤ 120) : ∀ (k i : Nat) (u1 : MS), i ≤ N → N - i < k → AtU u u1 i → ∃ u2, f_X12_next_L89 S n L k u1 = some u2 ∧ AtU u u2 (rowF (vR u 0) 97 122 (N - i) i) := by
  intro k
  induction k with
  | zero => intro i u1 _ h; omega
  | succ k ih =>
    intro i u1 hi hk hA
    obtain ⟨a1, a2, a3⟩ := hA
    have b1 : u1.1 1 = iI N := by rw [a2 1 (by decide), u1_iI, hN]
    have b2 : u1.1 43 = iI i := by rw [u1_iI, a1]
    unfold f_X12_next_L89
    rw [b1, b2, it_le _ _ (by omega)]
    by_cases e : i = N
    · rw [if_pos (by omega), show N - i = 0 by omega]
      exact ⟨u1, rfl, by rw [rowF]; exact ⟨a1, a2, a3⟩⟩
    · have q1 : inb (iI i) 120 := (iI_inb _ 120 (by omega)).mpr (by omega)
      rw [if_neg (by omega), if_pos q1]
      have ec : (iI (i : Int)).toNatClampNeg = i := by rw [iI_clamp _ (by omega), Int.toNat_natCast]
      have hr := vR_rng u 0 i
      have e1 := t_isIn u1 (vR u 0 i) 97 122 hr (by omega) (by omega)
      simp only [ec]
      rw [a3, u2_iI, show (97 : Int32) = iI 97 from rfl, show (122 : Int32) = iI 122 from rfl, e1, Option.bind_some, show N - i = (N - (i + 1)) + 1 by omega, rowF]
      simp only [b0z]
      by_cases c : 97 ≤ vR u 0 i ∧ vR u 0 i ≤ 122
      · rw [if_neg (fun q => q c), if_pos c, show (1 : Int32) = iI 1 from rfl, iI_add]
        obtain ⟨u2, x1, x2⟩ := ih (i + 1) (uI u1 43 (iI ((i : Int) + 1))) (by omega) (by omega) ⟨by rw [vN_uI _ _ _ _ (by omega), if_pos rfl]; omega, fun k hk => by
          show upd u1.1 43 _ k = _
          rw [← a2 k hk]
          simp [upd, hk], a3⟩
        exact ⟨u2, x1, x2⟩
      · rw [if_pos c, if_neg c]
        exact ⟨u1, rfl, a1, a2, a3⟩
/-- a word's letters against a text -/
theorem t_spell_L (n : Nat) (u : MS) (b : Nat) (hb : vN u 44 = b) {a : Nat} {w : List Int} (hw : TxtR L (fun _ => 0) 0 a w) (hbw : b + w.length ≤ 120) : ∀ (k i : Nat) (f : Bool), i ≤ w.length → w.length - i < k → f_X12_isSpelled_L24 n L u (some a) k (iI (if f = true then 1 else 0)) (iI i) = some (iI (if f = true ∧ segL (vR u 0) (b + i) (w.length - i) = w.drop i then 1 else 0)) := by
  have hsz := hw.size
  have hlen : w.length ≤ 300 := by obtain ⟨b, r, f, h1, h2, h3, h4⟩ := hw; exact h3
  have hch : ∀ k, k < w.length → 0 ≤ w.getD k 0 ∧ w.getD k 0 ≤ 127 := by obtain ⟨b, r, f, h1, h2, h3, h4⟩ := hw; exact fun k hk => (h4 k hk).2
  intro k
  induction k with
  | zero => intro i f _ h; omega
  | succ k ih =>
    intro i f hi hk
    unfold f_X12_isSpelled_L24
    rw [hw.is, if_pos rfl, hsz, Option.bind_some, it_le _ _ (by omega)]
    have g01 : (iI (if f = true then 1 else 0) = 0 ∨ iI (if f = true then 1 else 0) = 1) := by
      cases f
      · exact Or.inl rfl
      · exact Or.inr rfl
    rw [if_pos g01]
    by_cases e : w.length ≤ i
    · rw [if_pos (by omega), List.drop_eq_nil_of_le e, show w.length - i = 0 by omega]
      simp [segL]
    · have hlt : i < w.length := by omega
      have q1 : inb (iI ((b : Int) + i)) 120 := (iI_inb _ 120 (by omega)).mpr (by omega)
      have ec : (iI ((b : Int) + i)).toNatClampNeg = b + i := by rw [iI_clamp _ (by omega)]; omega
      have hr := vR_rng u 0 (b + i)
      have hc := hch i hlt
      have ihT := ih (i + 1) true (by omega) (by omega)
      have ihF := ih (i + 1) false (by omega) (by omega)
      push_cast at ihT ihF
      simp only [if_true, Bool.false_eq_true, if_false, true_and, false_and] at ihT ihF
      have ed : w.getD i 0 = w[i] := by simp [List.getD, hlt]
      rw [if_neg (by omega), u1_iI, hb, iI_add]
      simp only [if_pos q1, ec]
      rw [if_true, hw.chr i (by omega), Option.bind_some, Int.toNat_natCast, u2_iI, it_eq _ _ (by omega), show (1 : Int32) = iI 1 from rfl, show (0 : Int32) = iI 0 from rfl, iI_add, ihT, ihF, dropc w i hlt, show w.length - i = (w.length - (i + 1)) + 1 by omega, segL, show b + i + 1 = b + (i + 1) by omega, ← ed]
      cases f
      · rw [if_pos (by rfl)]
        simp
      · rw [if_neg (by decide)]
        by_cases c : vR u 0 (b + i) = w.getD i 0
        · rw [if_pos c]
          simp [c]
        · rw [if_neg c, if_neg]
          rintro ⟨_, q⟩
          exact c (List.cons.inj q).1
theorem t_isSpelled (n : Nat) (hn : 400 ≤ n) (u : MS) (b e : Nat) (hb : vN u 44 = b) (he : vN u 43 = e) (hbe : b ≤ e ∧ e ≤ 120) {a : Nat} {w : List Int} (hw : TxtR L (fun _ => 0) 0 a w) : f_X12_isSpelled n L u (some a) = some (iI (if segL (vR u 0) b (e - b) = w then 1 else 0)) := by
  have hlen : w.length ≤ 300 := by obtain ⟨b, r, f, h1, h2, h3, h4⟩ := hw; exact h3
  unfold f_X12_isSpelled
  rw [hw.is, if_pos rfl, hw.size, Option.bind_some, u1_iI, u1_iI, he, hb, iI_sub, it_eq _ _ (by omega)]
  by_cases c : (e : Int) - b = w.length
  · have := t_spell_L n u b hb hw (by omega) n 0 true (by omega) (by omega)
    rw [if_pos c, Option.bind_some]
    simp only [if_true, true_and, Nat.add_zero, Nat.sub_zero, List.drop_zero] at this
    rw [show e - b = w.length by omega]
    exact this
  · have h1 : ¬ segL (vR u 0) b (e - b) = w := fun q => by
      have := congrArg List.length q
      rw [segL_len] at this
      omega
    rw [if_neg c, Option.bind_some, if_neg h1]
    obtain ⟨k, rfl⟩ : ∃ k, n = k + 1 := ⟨n - 1, by omega⟩
    unfold f_X12_isSpelled_L24
    rw [hw.is, if_pos rfl, hw.size, Option.bind_some]
    split
    · rfl
    · rfl
end RT
