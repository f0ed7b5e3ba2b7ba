/-! SUMS: over rows, over rearranged rows, over parcels -/
def sumN (f : Nat → Int) : List Nat → Int
  | [] => 0
  | a :: l => f a + sumN f l
theorem sumN_append (f : Nat → Int) (l l2 : List Nat) : sumN f (l ++ l2) = sumN f l + sumN f l2 := by
  induction l with
  | nil => simp [sumN]
  | cons a l ih => simp only [List.cons_append, sumN, ih]; omega
theorem sumN_perm (f : Nat → Int) {l l2 : List Nat} (h : l.Perm l2) : sumN f l = sumN f l2 := by
  induction h with
  | nil => rfl
  | cons a _ ih => simp only [sumN, ih]
  | swap a b l => simp only [sumN]; omega
  | trans _ _ h1 h2 => exact h1.trans h2
theorem sumN_congr {f g : Nat → Int} {l : List Nat} (h : ∀ a, a ∈ l → f a = g a) : sumN f l = sumN g l := by
  induction l with
  | nil => rfl
  | cons a l ih => rw [sumN, sumN, h a (List.mem_cons_self ..), ih (fun b hb => h b (List.mem_cons_of_mem _ hb))]
theorem sumI_last (f : Int → Int) (c : Nat) (i : Int) : sumI f (c + 1) i = sumI f c i + f (i + c) := by
  induction c generalizing i with
  | zero => simp [sumI]
  | succ c ih =>
    rw [sumI, ih (i + 1), sumI]
    rw [show i + 1 + (c : Int) = i + ((c + 1 : Nat) : Int) by omega]
    omega
theorem sumI_congr {f g : Int → Int} {c : Nat} {i : Int} (h : ∀ k, i ≤ k → k < i + c → f k = g k) : sumI f c i = sumI g c i := by
  induction c generalizing i with
  | zero => rfl
  | succ c ih => rw [sumI, sumI, h i (by omega) (by omega), ih (fun k h1 h2 => h k (by omega) (by omega))]
theorem sumI_add (f g : Int → Int) (c : Nat) (i : Int) : sumI (fun k => f k + g k) c i = sumI f c i + sumI g c i := by
  induction c generalizing i with
  | zero => rfl
  | succ c ih => rw [sumI, sumI, sumI, ih]; omega
theorem sumI_zero (c : Nat) (i : Int) : sumI (fun _ => 0) c i = 0 := by
  induction c generalizing i with
  | zero => rfl
  | succ c ih => rw [sumI, ih]; rfl
theorem sumI_mul (f : Int → Int) (m : Int) (c : Nat) (i : Int) : sumI (fun k => f k * m) c i = sumI f c i * m := by
  induction c generalizing i with
  | zero => simp [sumI]
  | succ c ih => rw [sumI, sumI, ih, Int.add_mul]
theorem sumI_swap (f : Int → Int → Int) (c : Nat) (i : Int) (d : Nat) (j : Int) : sumI (fun a => sumI (fun b => f a b) d j) c i = sumI (fun b => sumI (fun a => f a b) c i) d j := by
  induction c generalizing i with
  | zero => rw [sumI]; exact (sumI_zero d j).symm
  | succ c ih => rw [sumI, ih, ← sumI_add]; rfl
theorem sumI_one (g : Int → Int) (q : Int) (c : Nat) (i : Int) : sumI (fun a => if q = a then g a else 0) c i = if i ≤ q ∧ q < i + c then g q else 0 := by
  induction c generalizing i with
  | zero => rw [sumI, if_neg (by omega)]
  | succ c ih =>
    rw [sumI, ih]
    by_cases e : q = i
    · rw [if_pos e, if_neg (by omega), if_pos (by omega), e]; omega
    · rw [if_neg e]
      by_cases e2 : i + 1 ≤ q ∧ q < i + 1 + c
      · rw [if_pos e2, if_pos (by omega)]; omega
      · rw [if_neg e2, if_neg (by omega)]; rfl
theorem sumI_bnd (f : Int → Int) (m : Int) (c : Nat) (i : Int) (h : ∀ k, i ≤ k → k < i + c → 0 ≤ f k ∧ f k ≤ m) : 0 ≤ sumI f c i ∧ sumI f c i ≤ c * m := by
  induction c generalizing i with
  | zero => simp [sumI]
  | succ c ih =>
    have h1 := h i (by omega) (by omega)
    have h2 := ih (i + 1) (fun k a b => h k (by omega) (by omega))
    rw [sumI]
    have : ((c + 1 : Nat) : Int) * m = c * m + m := by push_cast; rw [Int.add_mul]; omega
    omega
/-- a rearranged selection of a row -/
theorem sumN_sel (f : Nat → Int) (p : Nat → Bool) (n : Nat) : sumN f ((List.range n).filter p) = sumI (fun i => if p i.toNat = true then f i.toNat else 0) n 0 := by
  induction n with
  | zero => rfl
  | succ n ih =>
    rw [List.range_succ, List.filter_append, sumN_append, ih, sumI_last]
    simp only [List.filter_cons, List.filter_nil, Int.zero_add, Int.toNat_natCast]
    split <;> simp [sumN]
theorem sumI_ivl (a b : Int) (c : Nat) (i : Int) : sumI (fun d => if a ≤ d ∧ d ≤ b then 1 else 0) c i = max 0 (min (i + c - 1) b - max i a + 1) := by
  induction c generalizing i with
  | zero => rw [sumI]; omega
  | succ c ih =>
    rw [sumI, ih]
    split <;> omega
/-! LOANS AND PARCELS, as they stand -/
def LoaQ (M : Mem) (u : MS) (l a : Nat) : Prop := ∃ (b : Nat) (q st : Value) (r : List Value), M a = some (.inl (7, [.ref b, .int (u.2 26 l), q, st, .int (u.2 27 l)])) ∧ M b = some (.inl (6, .int (u.2 15 (vR u 25 l).toNat) :: .int (u.2 16 (vR u 25 l).toNat) :: .int (u.2 17 (vR u 25 l).toNat) :: .int (u.2 18 (vR u 25 l).toNat) :: r))
section LQ
variable {M : Mem} {u : MS} {l a : Nat}
theorem LoaQ.is (h : LoaQ M u l a) : isO M (some a) 7 = true := by
  obtain ⟨b, q, st, r, h1, h2⟩ := h
  exact isO_at h1
theorem LoaQ.last (h : LoaQ M u l a) : f_X4_last M (some a) = some (iI (vR u 26 l + lenS u l - 1)) := by
  obtain ⟨b, q, st, r, h1, h2⟩ := h
  unfold f_X4_last lenS
  rw [gI_at h1, gR_at h1]
  simp only [List.getElem?_cons_zero, List.getElem?_cons_succ, Option.bind_some]
  rw [gI_at h2, gI_at h1]
  simp only [List.getElem?_cons_zero, List.getElem?_cons_succ, Option.bind_some, u2_iI, iI_ofNat, iI_mul, iI_add, iI_sub, Int.toNat_natCast, Int.add_assoc]
theorem LoaQ.start (h : LoaQ M u l a) : gI M (some a) 7 1 = some (iI (vR u 26 l)) := by
  obtain ⟨b, q, st, r, h1, h2⟩ := h
  rw [gI_at h1]
  simp only [List.getElem?_cons_zero, List.getElem?_cons_succ, u2_iI]
theorem LoaQ.firstOf (h : LoaQ M u l a) (w : Int) (hw : w = 0 ∨ w = 1) : f_X4_firstOf M (some a) (iI w) = some (iI (if w = 0 then vR u 26 l else vR u 26 l + wayS u l + vR u 27 l)) := by
  have hs := h.start
  obtain ⟨b, q, st, r, h1, h2⟩ := h
  unfold f_X4_firstOf
  rw [iI_zero, it_eq _ _ (by omega), hs]
  by_cases c : w = 0
  · rw [if_pos c, if_pos c]; rfl
  · rw [if_neg c, if_neg c, gR_at h1]
    simp only [List.getElem?_cons_zero, List.getElem?_cons_succ, Option.bind_some]
    rw [gI_at h2, gI_at h1]
    simp only [List.getElem?_cons_zero, List.getElem?_cons_succ, Option.bind_some, u2_iI, iI_add, wayS, Int.toNat_natCast]
theorem LoaQ.stageOn (h : LoaQ M u l a) (ho : LoanOK u l) (d : Int) (hd : -2147483648 ≤ d ∧ d < 2147483648) : f_X4_stageOn M (some a) (iI d) = some (iI (stageS u l d)) := by
  have hs := h.start
  have hi := h.is
  have hf := h.firstOf 1 (by omega)
  rw [if_neg (show ¬ (1 : Int) = 0 by omega)] at hf
  have hl := h.last
  obtain ⟨o1, o2, o3, o4⟩ := ho
  simp only [Int.toNat_natCast] at o1 o2 o3 o4
  obtain ⟨b, q, st, r, h1, h2⟩ := h
  have hlen : lenS u l = 2 * vR u 15 (vR u 25 l).toNat + vR u 27 l := by simp only [lenS, Int.toNat_natCast]
  have hway : wayS u l = vR u 15 (vR u 25 l).toNat := by simp only [wayS, Int.toNat_natCast]
  unfold f_X4_stageOn stageS
  rw [hs, Option.bind_some, it_lt _ _ (by omega), hi, if_pos rfl, if_pos rfl, hl, Option.bind_some, it_le _ _ (by omega), gR_at h1]
  simp only [List.getElem?_cons_zero, List.getElem?_cons_succ, Option.bind_some, Int.toNat_natCast]
  rw [gI_at h2]
  simp only [List.getElem?_cons_zero, List.getElem?_cons_succ, Option.bind_some]
  rw [u2_iI, iI_add, it_le _ _ (by omega), show (1 : Int32) = iI 1 from rfl, hf, Option.bind_some, it_le _ _ (by omega)]
  rw [hlen, hway]
  (repeat' split) <;> first | rfl | omega | (exfalso; omega)
theorem LoaQ.daysBetween (h : LoaQ M u l a) (ho : LoanOK u l) (s e : Int) (hs : 0 ≤ s ∧ s ≤ 2000) (he : 0 ≤ e ∧ e ≤ 2000) : f_X4_daysBetween M (some a) (iI s) (iI e) = some (iI (daysS u l s e)) := by
  have h1 := h.start
  have h2 := h.is
  have h3 := h.last
  obtain ⟨o1, o2, o3, o4⟩ := ho
  simp only [Int.toNat_natCast] at o1 o2 o3 o4
  have hlen : lenS u l = 2 * vR u 15 (vR u 25 l).toNat + vR u 27 l := by simp only [lenS, Int.toNat_natCast]
  have hd : daysS u l s e = max 0 (min e (vR u 26 l + lenS u l - 1) - max s (vR u 26 l) + 1) := by
    unfold daysS dayP
    simp only [decide_eq_true_eq, Int.toNat_natCast]
    rw [sumI_ivl]
    omega
  unfold f_X4_daysBetween
  rw [h2, if_pos rfl, h3, Option.bind_some, h1, Option.bind_some, hd, it_lt _ _ (by omega), it_lt _ _ (by omega)]
  have e1 : (if vR u 26 l + lenS u l - 1 < e then iI (vR u 26 l + lenS u l - 1) else iI e) = iI (min e (vR u 26 l + lenS u l - 1)) := by
    split <;> congr 1 <;> omega
  have e2 : (if s < vR u 26 l then iI (vR u 26 l) else iI s) = iI (max s (vR u 26 l)) := by
    split <;> congr 1 <;> omega
  rw [e1, e2, iI_sub, show (1 : Int32) = iI 1 from rfl, iI_add, iI_zero, it_lt _ _ (by omega)]
  congr 1
  split <;> congr 1 <;> omega
end LQ
theorem RepK.loaQ {B : Nat} {S : Nat → Nat} {L : Mem} {x0 : Nat} {ad rho : Nat → Nat} {xl : Nat → List Nat} {M : Mem} {u : MS} {sz : Nat} (h : RepK B S L x0 ad rho xl M u sz) {l : Nat} (hl : l < (vN u 23).toNat) (hh : vR u 25 l < vN u 14 ∧ 0 ≤ vR u 25 l) : LoaQ M u l (ad (8000 + l)) := by
  obtain ⟨⟨q, h1, -⟩, -⟩ := h.loa hl
  obtain ⟨w, h2, -⟩ := h.hou (i := (vR u 25 l).toNat) (by omega)
  exact ⟨_, _, _, _, h1.1, h2.1⟩
