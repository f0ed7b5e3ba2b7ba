/-! COURIER: what is wrong with its spans; the reference keeps one -/
def okS (a : Int) : List Int → Bool
  | f :: g :: l => decide (a < f ∧ f ≤ g ∧ g < 1000) && okS g l
  | _ => true
theorem okS_drop (t : List Int) (i : Nat) (a : Int) (h : 2 * i + 1 < t.length) : okS a (t.drop (2 * i)) = (decide (a < t.getD (2 * i) 0 ∧ t.getD (2 * i) 0 ≤ t.getD (2 * i + 1) 0 ∧ t.getD (2 * i + 1) 0 < 1000) && okS (t.getD (2 * i + 1) 0) (t.drop (2 * (i + 1)))) := by
  have h1 : t.drop (2 * i) = t[2 * i] :: t.drop (2 * i + 1) := List.drop_eq_getElem_cons (by omega)
  have h2 : t.drop (2 * i + 1) = t[2 * i + 1] :: t.drop (2 * i + 2) := List.drop_eq_getElem_cons (by omega)
  have e1 : t.getD (2 * i) 0 = t[2 * i] := by simp [List.getD, show 2 * i < t.length by omega]
  have e2 : t.getD (2 * i + 1) 0 = t[2 * i + 1] := by simp [List.getD, h]
  rw [h1, h2, okS, e1, e2, show 2 * (i + 1) = 2 * i + 2 by omega]
theorem okS_end (t : List Int) (i : Nat) (a : Int) (h : t.length ≤ 2 * i) : okS a (t.drop (2 * i)) = true := by
  rw [List.drop_eq_nil_of_le h]
  rfl
section COF
variable {B : Nat} {S : Nat → Nat} {L : Mem} {ad rho : Nat → Nat} {M M1 : Mem} {u : MS} {sz N j : Nat} {g : Nat → Int} {t : List Int} {w : Int}
theorem Rd.getD (h : Rd B ad rho M M1 N g t j w) (i : Nat) (hi : i < t.length) : f_X7_told M1 (some (ad 3)) (iI i) = some (iI (t.getD i 0)) := h.lit i _ (by simp [List.getD, hi])
theorem getD_rng (hv : ∀ x, x ∈ t → 0 ≤ x ∧ x ≤ 9999) (i : Nat) : 0 ≤ t.getD i 0 ∧ t.getD i 0 ≤ 9999 := by
  rcases Nat.lt_or_ge i t.length with q | q
  · have e : t.getD i 0 = t[i] := by simp [List.getD, q]
    rw [e]
    exact hv _ (List.getElem_mem q)
  · have e : t.getD i 0 = 0 := by simp [List.getD, q]
    rw [e]
    omega
theorem Rd.couFault_L (h : Rd B ad rho M M1 N g t j w) (hv : ∀ x, x ∈ t → 0 ≤ x ∧ x ≤ 9999) (n c : Nat) (ht : t.length = 2 * c) : ∀ (k i : Nat) (a : Int), i ≤ c → c - i < k → -1 ≤ a ∧ a ≤ 9999 → f_X2_faultIn_L4 n M1 (some (ad 3)) k (iI a) (iI ((2 * i : Nat) : Int)) = some (iI (if okS a (t.drop (2 * i)) = true then 0 else 4)) := by
  have hlen := h.tlen
  intro k
  induction k with
  | zero => intro i a _ h; omega
  | succ k ih =>
    intro i a hi hk ha
    unfold f_X2_faultIn_L4
    rw [if_pos h.is, h.size, Option.bind_some, show (1 : Int32) = iI 1 from rfl, iI_add, it_le _ _ (by omega)]
    by_cases e : i = c
    · rw [if_pos (by omega), okS_end t i a (by omega)]
      rfl
    · have t1 := h.getD (2 * i) (by omega)
      have t2 := h.getD (2 * i + 1) (by omega)
      have r1 := getD_rng hv (2 * i)
      have r2 := getD_rng hv (2 * i + 1)
      rw [if_neg (by omega), if_pos h.is, t1, Option.bind_some, if_pos h.is, show ((2 * i : Nat) : Int) + 1 = ((2 * i + 1 : Nat) : Int) by omega, t2, Option.bind_some, okS_drop t i a (by omega), it_le _ _ (by omega)]
      by_cases c1 : a < t.getD (2 * i) 0
      · rw [if_neg (by omega), it_lt _ _ (by omega)]
        by_cases c2 : t.getD (2 * i) 0 ≤ t.getD (2 * i + 1) 0
        · rw [if_neg (by omega), show (1000 : Int32) = iI 1000 from rfl, it_lt _ _ (by omega)]
          by_cases c3 : t.getD (2 * i + 1) 0 < 1000
          · rw [if_pos c3, decide_eq_true ⟨c1, c2, c3⟩, Bool.true_and, show iI ((2 * i : Nat) : Int) + (2 : Int32) = iI ((2 * (i + 1) : Nat) : Int) by rw [show (2 : Int32) = iI 2 from rfl, iI_add]; congr 1]
            exact ih (i + 1) _ (by omega) (by omega) (by omega)
          · rw [if_neg c3, decide_eq_false (fun q => c3 q.2.2), Bool.false_and]
            rfl
        · rw [if_pos (by omega), decide_eq_false (fun q => c2 q.2.1), Bool.false_and]
          rfl
      · rw [if_pos (by omega), decide_eq_false (fun q => c1 q.1), Bool.false_and]
        rfl
theorem Rd.couFault (h : Rd B ad rho M M1 N g t j w) (hv : ∀ x, x ∈ t → 0 ≤ x ∧ x ≤ 9999) (n c : Nat) (ht : t.length = 2 * c) (hn : 200 ≤ n) : f_X2_faultIn n M1 (some (ad 3)) = some (iI (if okS (-1) t = true then 0 else 4)) := by
  have hlen := h.tlen
  exact h.couFault_L hv n c ht n 0 (-1) (by omega) (by omega) (by omega)
/-- the reference's test of the spans -/
theorem t_spans_L {c : Nat} (hr : rowsC u c t) (hv : ∀ x, x ∈ t → 0 ≤ x ∧ x ≤ 9999) (ht : t.length = 2 * c) (hc : c ≤ 30) (n : Nat) : ∀ (k i : Nat) (b : Bool), i ≤ c → c - i < k → f_X12_courier_L62 S n L u (iI c) k (iI (if b = true then 1 else 0)) (iI i) = some (iI (if (b && okS (if i = 0 then -1 else t.getD (2 * i - 1) 0) (t.drop (2 * i))) = true then 1 else 0)) := by
  intro k
  induction k with
  | zero => intro i b _ h; omega
  | succ k ih =>
    intro i b hi hk
    have ei : iI (i : Int) + (1 : Int32) = iI ((i + 1 : Nat) : Int) := by
      rw [show (1 : Int32) = iI 1 from rfl, iI_add]
      congr 1
    unfold f_X12_courier_L62
    rw [it_le _ _ (by omega), ei]
    by_cases e : i = c
    · rw [if_pos (by omega), okS_end t i _ (by omega), Bool.and_true]
    · have hlt : i < c := by omega
      rw [if_neg (by omega)]
      have nx : (if i + 1 = 0 then (-1 : Int) else t.getD (2 * (i + 1) - 1) 0) = t.getD (2 * i + 1) 0 := by
        rw [if_neg (by omega), show 2 * (i + 1) - 1 = 2 * i + 1 by omega]
      have ihT := ih (i + 1) true (by omega) (by omega)
      have ihF := ih (i + 1) false (by omega) (by omega)
      rw [nx] at ihT ihF
      rw [Bool.true_and] at ihT
      rw [Bool.false_and] at ihF
      have ihF' : f_X12_courier_L62 S n L u (iI c) k (0 : Int32) (iI ((i + 1 : Nat) : Int)) = some (iI 0) := ihF
      have ihT' : f_X12_courier_L62 S n L u (iI c) k (1 : Int32) (iI ((i + 1 : Nat) : Int)) = _ := ihT
      cases b
      · rw [if_pos (show iI (if false = true then 1 else 0) = (0 : Int32) from rfl), Bool.false_and, ihF']
        rfl
      · have qi : inb (iI (i : Int)) 120 := (iI_inb _ 120 (by omega)).mpr (by omega)
        have ec : (iI (i : Int)).toNatClampNeg = i := by rw [iI_clamp _ (by omega)]; omega
        obtain ⟨r1, r2⟩ := hr i hlt
        have v1 := getD_rng hv (2 * i)
        have v2 := getD_rng hv (2 * i + 1)
        rw [if_neg (show ¬ iI (if true = true then 1 else 0) = (0 : Int32) by decide)]
        simp only [if_pos qi, ec, r1, r2]
        rw [it_lt _ _ (by omega), Bool.true_and, okS_drop t i _ (by omega)]
        by_cases c2 : t.getD (2 * i) 0 ≤ t.getD (2 * i + 1) 0
        · rw [if_neg (by omega), show (1000 : Int32) = iI 1000 from rfl, it_le _ _ (by omega)]
          by_cases c3 : t.getD (2 * i + 1) 0 < 1000
          · rw [if_neg (by omega)]
            by_cases c0 : i = 0
            · subst c0
              rw [if_pos (show iI ((0 : Nat) : Int) = (0 : Int32) from rfl), ihT', if_pos rfl, decide_eq_true ⟨by omega, c2, c3⟩, Bool.true_and]
            · have z0 : ¬ iI (i : Int) = (0 : Int32) := by
                rw [iI_zero, iI_eq _ _ (by omega)]
                omega
              have q1 : inb (iI (i : Int) - (1 : Int32)) 120 := by
                rw [show (1 : Int32) = iI 1 from rfl, iI_sub]
                exact (iI_inb _ 120 (by omega)).mpr (by omega)
              have ec1 : (iI (i : Int) - (1 : Int32)).toNatClampNeg = i - 1 := by
                rw [show (1 : Int32) = iI 1 from rfl, iI_sub, iI_clamp _ (by omega)]
                omega
              have v3 := getD_rng hv (2 * (i - 1) + 1)
              rw [if_neg z0]
              simp only [if_pos q1, ec1, (hr (i - 1) (by omega)).2]
              rw [it_le _ _ (by omega), if_neg c0, show 2 * i - 1 = 2 * (i - 1) + 1 by omega]
              by_cases c1 : t.getD (2 * (i - 1) + 1) 0 < t.getD (2 * i) 0
              · rw [if_neg (by omega), ihT', decide_eq_true ⟨c1, c2, c3⟩, Bool.true_and]
              · rw [if_pos (by omega), ihF', decide_eq_false (fun q => c1 q.1), Bool.false_and]
                rfl
          · rw [if_pos (by omega), ihF', decide_eq_false (fun q => c3 q.2.2), Bool.false_and]
            rfl
        · rw [if_pos (by omega), ihF', decide_eq_false (fun q => c2 q.2.1), Bool.false_and]
          rfl
theorem t_spansOK {c : Nat} (hr : rowsC u c t) (hv : ∀ x, x ∈ t → 0 ≤ x ∧ x ≤ 9999) (ht : t.length = 2 * c) (hc : c ≤ 30) (n : Nat) (hn : 200 ≤ n) : f_X12_courier_L62 S n L u (iI c) n (1 : Int32) (0 : Int32) = some (iI (if okS (-1) t = true then 1 else 0)) := by
  have := t_spans_L (S := S) (L := L) hr hv ht hc n n 0 true (by omega) (by omega)
  rw [Bool.true_and] at this
  exact this
/-- the rows of a courier more: its spans -/
def CoU (u u1 : MS) (c m : Nat) (t : List Int) : Prop := u1.1 = u.1 ∧ (∀ k, k ≠ 21 → k ≠ 22 → u1.2 k = u.2 k) ∧ (∀ q, q < c * 40 ∨ c * 40 + m ≤ q → u1.2 21 q = u.2 21 q ∧ u1.2 22 q = u.2 22 q) ∧ ∀ q, q < m → u1.2 21 (c * 40 + q) = iI (t.getD (2 * q) 0) ∧ u1.2 22 (c * 40 + q) = iI (t.getD (2 * q + 1) 0)
theorem t_copy_L {c : Nat} {m : Nat} (hm : m ≤ 30) (hc : vN u 19 = c) (hc8 : c < 8) (hr : rowsC u m t) (n : Nat) : ∀ (k i : Nat) (uz : MS), i ≤ m → m - i < k → CoU u uz c i t → ∃ u1, f_X12_courier_L159 S n L (iI m) k uz (iI i) = some u1 ∧ CoU u u1 c m t := by
  intro k
  induction k with
  | zero => intro i uz _ h; omega
  | succ k ih =>
    intro i uz hi hk h
    obtain ⟨h1, h2, h3, h4⟩ := h
    unfold f_X12_courier_L159
    rw [it_le _ _ (by omega)]
    by_cases e : i = m
    · rw [if_pos (by omega)]
      subst e
      exact ⟨uz, rfl, h1, h2, h3, h4⟩
    · have hlt : i < m := by omega
      have qi : inb (iI (i : Int)) 120 := (iI_inb _ 120 (by omega)).mpr (by omega)
      have ec : (iI (i : Int)).toNatClampNeg = i := by rw [iI_clamp _ (by omega)]; omega
      have w19 : uz.1 19 * (40 : Int32) + iI (i : Int) = iI ((c * 40 + i : Nat) : Int) := by
        rw [h1, u1_iI, hc, show (40 : Int32) = iI 40 from rfl, iI_mul, iI_add]
        congr 1
      have q2 : inb (iI ((c * 40 + i : Nat) : Int)) 320 := (iI_inb _ 320 (by omega)).mpr (by omega)
      have ec2 : (iI ((c * 40 + i : Nat) : Int)).toNatClampNeg = c * 40 + i := by rw [iI_clamp _ (by omega)]; omega
      have r48 : uz.2 48 i = iI (t.getD (2 * i) 0) := by rw [h2 48 (by omega) (by omega)]; exact (hr i hlt).1
      have r49 : uz.2 49 i = iI (t.getD (2 * i + 1) 0) := by rw [h2 49 (by omega) (by omega)]; exact (hr i hlt).2
      have w19' : ∀ v, (uA uz 21 (c * 40 + i) v).1 19 * (40 : Int32) + iI (i : Int) = iI ((c * 40 + i : Nat) : Int) := fun v => w19
      have r49' : ∀ v, (uA uz 21 (c * 40 + i) v).2 49 i = iI (t.getD (2 * i + 1) 0) := fun v => by
        rw [uA_n _ _ _ _ (by decide)]
        exact r49
      rw [if_neg (by omega)]
      simp only [if_pos qi, w19, w19', if_pos q2, ec, ec2, r48, r49']
      rw [show iI (i : Int) + (1 : Int32) = iI ((i + 1 : Nat) : Int) by rw [show (1 : Int32) = iI 1 from rfl, iI_add]; congr 1]
      refine ih (i + 1) _ (by omega) (by omega) ⟨h1, fun k k1 k2 => ?_, fun q hq => ?_, fun q hq => ?_⟩
      · rw [uA_n _ _ _ _ k2, uA_n _ _ _ _ k1]
        exact h2 k k1 k2
      · have hne : q ≠ c * 40 + i := by omega
        rw [uA_n _ _ _ _ (by decide), uA_s, uA_s, uA_n _ _ _ _ (by decide)]
        unfold upd
        rw [if_neg hne, if_neg hne]
        exact h3 q (by omega)
      · rw [uA_n _ _ _ _ (by decide), uA_s, uA_s, uA_n _ _ _ _ (by decide)]
        unfold upd
        by_cases eq : q = i
        · subst eq
          rw [if_pos rfl, if_pos rfl]
          exact ⟨rfl, rfl⟩
        · have hne : c * 40 + q ≠ c * 40 + i := by omega
          rw [if_neg hne, if_neg hne]
          exact h4 q (by omega)
end COF
