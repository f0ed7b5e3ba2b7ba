/-! A ROW THAT TAKES A NEW ONE IN ITS ORDER -/
theorem perm_ins {p p1 : Nat → Bool} {n q : Nat} {l : List Nat} (hl : l.Perm ((List.range n).filter p)) (h1 : ∀ j, j < n → p1 j = p j) (hn : p1 n = true) : (l.take q ++ n :: l.drop q).Perm ((List.range (n + 1)).filter p1) := by
  have e : (List.range n).filter p1 = (List.range n).filter p := List.filter_congr (fun j hj => h1 j (List.mem_range.mp hj))
  rw [List.range_succ, List.filter_append, e, List.filter_cons, if_pos hn, List.filter_nil]
  refine List.perm_middle.trans ?_
  rw [List.take_append_drop]
  exact (hl.cons n).trans (List.perm_append_singleton ..).symm
theorem perm_out {p p1 : Nat → Bool} {n : Nat} {l : List Nat} (hl : l.Perm ((List.range n).filter p)) (h1 : ∀ j, j < n → p1 j = p j) (hn : p1 n = false) : l.Perm ((List.range (n + 1)).filter p1) := by
  have e : (List.range n).filter p1 = (List.range n).filter p := List.filter_congr (fun j hj => h1 j (List.mem_range.mp hj))
  rw [List.range_succ, List.filter_append, e, List.filter_cons, if_neg (by rw [hn]; decide), List.filter_nil, List.append_nil]
  exact hl
theorem pair_ins {f f1 : Nat → Int} {x q : Nat} {l : List Nat} (hl : l.Pairwise (fun a b => f a < f b)) (h1 : ∀ a, a ∈ l → f1 a = f a) (ht : ∀ a, a ∈ l.take q → f a < f1 x) (hd : ∀ a, a ∈ l.drop q → f1 x < f a) : (l.take q ++ x :: l.drop q).Pairwise (fun a b => f1 a < f1 b) := by
  have hp : l.Pairwise (fun a b => f1 a < f1 b) := hl.imp_of_mem (fun ha hb h => by rw [h1 _ ha, h1 _ hb]; exact h)
  have hs : (l.take q ++ l.drop q).Pairwise (fun a b => f1 a < f1 b) := by rw [List.take_append_drop]; exact hp
  rw [List.pairwise_append] at hs
  rw [List.pairwise_append]
  refine ⟨hs.1, List.pairwise_cons.mpr ⟨fun a ha => ?_, hs.2.1⟩, fun a ha b hb => ?_⟩
  · rw [h1 a (List.mem_of_mem_drop ha)]
    exact hd a ha
  · rcases List.mem_cons.mp hb with rfl | hb
    · rw [h1 a (List.mem_of_mem_take ha)]
      exact ht a ha
    · exact hs.2.2 a ha b hb
theorem ins_len (l : List Nat) (q x : Nat) (hq : q ≤ l.length) : (l.take q ++ x :: l.drop q).length = l.length + 1 := by
  rw [List.length_append, List.length_cons, List.length_take, List.length_drop]
  omega
theorem ins_get (l : List Nat) (q x k : Nat) (hq : q ≤ l.length) : (l.take q ++ x :: l.drop q)[k]? = if k < q then l[k]? else if k = q then some x else l[k - 1]? := by
  have hl : (l.take q).length = q := by rw [List.length_take]; omega
  by_cases c1 : k < q
  · rw [if_pos c1, List.getElem?_append_left (by omega), List.getElem?_take, if_pos c1]
  · rw [if_neg c1, List.getElem?_append_right (by omega), hl]
    by_cases c2 : k = q
    · rw [if_pos c2, show k - q = 0 by omega]
      rfl
    · rw [if_neg c2, show k - q = (k - 1 - q) + 1 by omega, List.getElem?_cons_succ, List.getElem?_drop, show q + (k - 1 - q) = k - 1 by omega]
theorem ins_mem (l : List Nat) (q x a : Nat) : a ∈ l.take q ++ x :: l.drop q ↔ a = x ∨ a ∈ l := by
  rw [List.perm_middle.mem_iff, List.mem_cons, List.take_append_drop]
/-- the place behind the latest day parts the row -/
theorem lat_parts (f : Nat → Int) (l : List Nat) (d : Int) (hs : l.Pairwise (fun a b => f a < f b)) (hno : ∀ a, a ∈ l → f a ≠ d) : ∃ q : Nat, q ≤ l.length ∧ latF (fun k => f (l.getD k 0)) d l.length = (q : Int) - 1 ∧ (∀ a, a ∈ l.take q → f a < d) ∧ ∀ a, a ∈ l.drop q → d < f a := by
  have hp := List.pairwise_iff_getElem.mp hs
  have hg : ∀ k (hk : k < l.length), l.getD k 0 = l[k] := fun k hk => by simp [List.getD, hk]
  rcases latF_spec (fun k => f (l.getD k 0)) d l.length with ⟨h1, h2⟩ | ⟨k, h1, h2, h3, h4⟩
  · refine ⟨0, by omega, by omega, fun a ha => by simp at ha, fun a ha => ?_⟩
    rw [List.drop_zero] at ha
    obtain ⟨k, hk, rfl⟩ := List.getElem_of_mem ha
    have := h2 k hk
    simp only [hg k hk] at this
    exact this
  · simp only [hg k h1] at h3
    refine ⟨k + 1, by omega, by omega, fun a ha => ?_, fun a ha => ?_⟩
    · obtain ⟨i, hi, e⟩ := List.mem_take_iff_getElem.mp ha
      have hne := hno a (List.mem_of_mem_take ha)
      subst e
      by_cases c : i = k
      · subst c
        omega
      · have := hp i k (by omega) h1 (by omega)
        omega
    · obtain ⟨i, hi, e⟩ := List.mem_drop_iff_getElem.mp ha
      subst e
      have := h4 (k + 1 + i) (by omega) (by omega)
      simp only [hg (k + 1 + i) (by omega)] at this
      exact this
/-! the class's appraisals take one in -/
def AP (M : Mem) (a d v : Nat) (n : Int) (f g : Nat → Int32) : Prop := M a = some (.inl (3, [.ref d, .ref v, .int (iI n)])) ∧ M d = some (.inr (.inl (0, 48, f))) ∧ M v = some (.inr (.inl (0, 48, g)))
def shf (f : Nat → Int32) (i n : Nat) : Nat → Int32 := fun k => if i < k ∧ k ≤ n then f (k - 1) else f k
theorem shf_step (f : Nat → Int32) (i n : Nat) (hi : 0 < i ∧ i ≤ n) : upd (shf f i n) i (shf f i n (i - 1)) = shf f (i - 1) n := by
  funext k
  unfold upd shf
  by_cases e : k = i
  · subst e
    rw [if_pos rfl, if_neg (by omega), if_pos (by omega)]
  · rw [if_neg e]
    by_cases c : i < k ∧ k ≤ n
    · rw [if_pos c, if_pos (by omega)]
    · rw [if_neg c, if_neg (by omega)]
section AI
variable {B : Nat} {M : Mem} {a d v : Nat}
theorem AP.setD {n : Int} {f g : Nat → Int32} (h : AP M a d v n f g) (hd : d ≠ v) (f1 : Nat → Int32) : AP (va_up M d (some (.inr (.inl (0, 48, f1))))) a d v n f1 g := by
  have e : a ≠ d := fun e => by
    have h1 := h.1
    rw [e, h.2.1] at h1
    cases h1
  exact ⟨by rw [va_up_ne _ _ e]; exact h.1, va_up_self .., by rw [va_up_ne _ _ hd.symm]; exact h.2.2⟩
theorem AP.setV {n : Int} {f g : Nat → Int32} (h : AP M a d v n f g) (hd : d ≠ v) (g1 : Nat → Int32) : AP (va_up M v (some (.inr (.inl (0, 48, g1))))) a d v n f g1 := by
  have e : a ≠ v := fun e => by
    have h1 := h.1
    rw [e, h.2.2] at h1
    cases h1
  exact ⟨by rw [va_up_ne _ _ e]; exact h.1, by rw [va_up_ne _ _ hd]; exact h.2.1, va_up_self ..⟩
theorem AP.setN {n n1 : Int} {f g : Nat → Int32} (h : AP M a d v n f g) : AP (va_up M a (some (.inl (3, [.ref d, .ref v, .int (iI n1)])))) a d v n1 f g := by
  have e : d ≠ a := fun e => by
    have h1 := h.1
    rw [← e, h.2.1] at h1
    cases h1
  have e2 : v ≠ a := fun e => by
    have h1 := h.1
    rw [← e, h.2.2] at h1
    cases h1
  exact ⟨va_up_self .., by rw [va_up_ne _ _ e]; exact h.2.1, by rw [va_up_ne _ _ e2]; exact h.2.2⟩
theorem z_ins_L (hd : d ≠ v) (hB : B ≤ a ∧ B ≤ d ∧ B ≤ v) (n : Nat) (f g : Nat → Int32) (q m : Nat) (hq : q ≤ m ∧ m < 48) (x : Int32) : ∀ (k i : Nat) (Mz : Mem), q ≤ i → i ≤ m → i - q < k → AP Mz a d v m (shf f i m) (shf g i m) → ∃ M1, f_X0_insertAt_L27 B n (some a) (iI q) x k Mz (iI i) = some M1 ∧ AP M1 a d v (m + 1) (upd (shf f q m) q x) (shf g q m) ∧ ∀ y, y ≠ a → y ≠ d → y ≠ v → M1 y = Mz y := by
  intro k
  induction k with
  | zero => intro i Mz _ _ h; omega
  | succ k ih =>
    intro i Mz h0 h1 hk hA
    unfold f_X0_insertAt_L27
    rw [it_le _ _ (by omega)]
    by_cases e : i = q
    · subst e
      have hA2 := hA.setD hd (upd (shf f i m) i x)
      rw [if_pos (by omega), gR_at hA.1]
      simp only [List.getElem?_cons_zero, Option.bind_some]
      rw [sI_at hB.2.1 hA.2.1 (by omega) (by omega), Option.bind_some, Int.toNat_natCast, gI_at hA2.1]
      simp only [List.getElem?_cons_zero, List.getElem?_cons_succ, Option.bind_some]
      rw [show (1 : Int32) = iI 1 from rfl, iI_add, pF_at hB.1 hA2.1, if_pos (by simp)]
      refine ⟨_, rfl, hA2.setN, fun y y1 y2 _ => ?_⟩
      rw [va_up_ne _ _ y1, va_up_ne _ _ y2]
    · have hA2 := hA.setD hd (shf f (i - 1) m)
      have hA3 := hA2.setV hd (shf g (i - 1) m)
      rw [if_neg (by omega), gR_at hA.1]
      simp only [List.getElem?_cons_zero, Option.bind_some]
      rw [show (1 : Int32) = iI 1 from rfl, iI_sub, aI_at hA.2.1 (by omega) (by omega), Option.bind_some, sI_at hB.2.1 hA.2.1 (by omega) (by omega), Option.bind_some, Int.toNat_natCast, show ((i : Int) - 1).toNat = i - 1 by omega, shf_step f i m (by omega), gR_at hA2.1]
      simp only [List.getElem?_cons_zero, List.getElem?_cons_succ, Option.bind_some]
      rw [aI_at hA2.2.2 (by omega) (by omega), Option.bind_some, sI_at hB.2.2 hA2.2.2 (by omega) (by omega), Option.bind_some, Int.toNat_natCast, show ((i : Int) - 1).toNat = i - 1 by omega, shf_step g i m (by omega), iI_neg, iI_add, show ((i : Int) + -1) = ((i - 1 : Nat) : Int) by omega]
      obtain ⟨M1, e1, e2, e3⟩ := ih (i - 1) _ (by omega) (by omega) (by omega) hA3
      refine ⟨M1, e1, e2, fun y y1 y2 y3 => ?_⟩
      rw [e3 y y1 y2 y3, va_up_ne _ _ y3, va_up_ne _ _ y2]
theorem shf_id (f : Nat → Int32) (n : Nat) : shf f n n = f := by
  funext k
  unfold shf
  rw [if_neg (by omega)]
theorem z_insertAt (hd : d ≠ v) (hB : B ≤ a ∧ B ≤ d ∧ B ≤ v) (n : Nat) (hn : 60 ≤ n) {f g : Nat → Int32} (q m : Nat) (hq : q ≤ m ∧ m < 48) (x : Int32) (hA : AP M a d v m f g) : ∃ M1, f_X0_insertAt B n M (some a) (iI q) x = some M1 ∧ AP M1 a d v (m + 1) (upd (shf f q m) q x) (shf g q m) ∧ ∀ y, y ≠ a → y ≠ d → y ≠ v → M1 y = M y := by
  unfold f_X0_insertAt
  rw [gI_at hA.1]
  simp only [List.getElem?_cons_zero, List.getElem?_cons_succ, Option.bind_some]
  rw [show (48 : Int32) = iI 48 from rfl, it_le _ _ (by omega), if_neg (by omega), show (0 : Int32) = iI 0 from rfl, it_lt _ _ (by omega), if_neg (by omega), it_le _ _ (by omega), if_pos (by omega)]
  exact z_ins_L hd hB n f g q m hq x n m M (by omega) (by omega) (by omega) (by rw [shf_id, shf_id]; exact hA)
end AI
