/-! REPORT: what is wrong with its harms -/
def hP (t : List Int) (i : Nat) : Bool := decide (t.getD (3 * i + 1) 0 ≤ 99 ∧ 1 ≤ t.getD (3 * i + 2) 0 ∧ t.getD (3 * i + 2) 0 ≤ 99)
def hOK (t : List Int) : Nat → Nat → Bool
  | 0, _ => true
  | c + 1, i => hP t i && hOK t c (i + 1)
def kH (t : List Int) (i : Nat) : Int := t.getD (3 * i) 0 * 100 + t.getD (3 * i + 1) 0
def nd1 (t : List Int) (i : Nat) : Nat → Nat → Bool
  | 0, _ => true
  | m + 1, k => decide (kH t i ≠ kH t k) && nd1 t i m (k + 1)
def ndA (t : List Int) : Nat → Nat → Bool
  | 0, _ => true
  | m + 1, i => nd1 t i i 0 && ndA t m (i + 1)
theorem hOK_all {t : List Int} {c : Nat} : ∀ i, hOK t c i = true → ∀ q, i ≤ q → q < i + c → t.getD (3 * q + 1) 0 ≤ 99 ∧ 1 ≤ t.getD (3 * q + 2) 0 ∧ t.getD (3 * q + 2) 0 ≤ 99 := by
  induction c with
  | zero => intro i _ q h1 h2; omega
  | succ c ih =>
    intro i h q h1 h2
    rw [hOK, Bool.and_eq_true] at h
    by_cases e : q = i
    · rw [e]
      exact of_decide_eq_true h.1
    · exact ih (i + 1) h.2 q (by omega) (by omega)
theorem nd1_all {t : List Int} {i m : Nat} : ∀ k, nd1 t i m k = true → ∀ q, k ≤ q → q < k + m → kH t i ≠ kH t q := by
  induction m with
  | zero => intro k _ q h1 h2; omega
  | succ m ih =>
    intro k h q h1 h2
    rw [nd1, Bool.and_eq_true] at h
    by_cases e : q = k
    · rw [e]
      exact of_decide_eq_true h.1
    · exact ih (k + 1) h.2 q (by omega) (by omega)
theorem ndA_all {t : List Int} {m : Nat} : ∀ i, ndA t m i = true → ∀ a q, i ≤ a → a < i + m → q < a → kH t a ≠ kH t q := by
  induction m with
  | zero => intro i _ a q h1 h2; omega
  | succ m ih =>
    intro i h a q h1 h2 h3
    rw [ndA, Bool.and_eq_true] at h
    by_cases e : a = i
    · subst e
      exact nd1_all 0 h.1 q (by omega) (by omega)
    · exact ih (i + 1) h.2 a q (by omega) (by omega) h3
theorem i3 (i : Nat) : (3 : Int32) * iI (i : Int) = iI ((3 * i : Nat) : Int) := by
  rw [show (3 : Int32) = iI 3 from rfl, iI_mul]
  congr 1
theorem i31 (i : Nat) : ((3 : Int32) * iI (i : Int)) + (1 : Int32) = iI ((3 * i + 1 : Nat) : Int) := by
  rw [i3, show (1 : Int32) = iI 1 from rfl, iI_add]
  congr 1
theorem i32 (i : Nat) : ((3 : Int32) * iI (i : Int)) + (2 : Int32) = iI ((3 * i + 2 : Nat) : Int) := by
  rw [i3, show (2 : Int32) = iI 2 from rfl, iI_add]
  congr 1
theorem iI_s (i : Nat) : iI (i : Int) + (1 : Int32) = iI ((i + 1 : Nat) : Int) := by
  rw [show (1 : Int32) = iI 1 from rfl, iI_add]
  congr 1
section REF
variable {B : Nat} {S : Nat → Nat} {L : Mem} {ad rho : Nat → Nat} {M M1 : Mem} {u : MS} {sz N j : Nat} {g : Nat → Int} {t : List Int} {w : Int} {c : Nat}
theorem valH.key {i q : Nat} (hv : valH i t) (hq : q < i) : 0 ≤ kH t q ∧ kH t q ≤ 10299 := by
  have := hv q hq
  unfold kH
  omega
theorem Rd.spot (h : Rd B ad rho M M1 N g t j w) (hv : valH c t) (ht : t.length = 3 * c) (i : Nat) (hi : i < c) : f_X8_spotIn M1 (some (ad 3)) (iI i) = some (iI (kH t i)) := by
  unfold f_X8_spotIn
  rw [if_pos h.is, i3, h.getD (3 * i) (by omega), Option.bind_some, if_pos h.is, ← i3, i31, h.getD (3 * i + 1) (by omega), Option.bind_some, show (100 : Int32) = iI 100 from rfl, iI_mul, iI_add]
  rfl
theorem Rd.harms (h : Rd B ad rho M M1 N g t j w) (ht : t.length = 3 * c) : f_X8_harmsIn M1 (some (ad 3)) = some (iI c) := by
  have hl := h.tlen
  unfold f_X8_harmsIn
  have e : iI (t.length : Int) / (3 : Int32) = iI (c : Int) := by
    rw [show (3 : Int32) = iI 3 from rfl, iI_div _ _ (by omega), ht]
    congr 1
    rw [Int.tdiv_eq_ediv_of_nonneg (by omega)]
    omega
  rw [if_pos h.is, h.size, Option.bind_some, e, iI_zero]
  congr 1
  exact if_neg (by rw [iI_lt _ _ (by omega)]; omega)
theorem Rd.f7 (h : Rd B ad rho M M1 N g t j w) (hv : valH c t) (ht : t.length = 3 * c) (n : Nat) : ∀ (k i : Nat), i ≤ c → c - i < k → f_X8_faultIn_L7 n M1 (some (ad 3)) (iI c) k (iI i) = some (if hOK t (c - i) i = true then Sum.inr () else Sum.inl (9 : Int32)) := by
  have hl := h.tlen
  intro k
  induction k with
  | zero => intro i _ h; omega
  | succ k ih =>
    intro i hi hk
    unfold f_X8_faultIn_L7
    rw [it_le _ _ (by omega)]
    by_cases e : i = c
    · rw [if_pos (by omega), show c - i = 0 by omega, hOK, if_pos rfl]
    · have hlt : i < c := by omega
      have v := hv i hlt
      rw [if_neg (by omega), if_pos h.is, i32, h.getD (3 * i + 2) (by omega), Option.bind_some, if_pos h.is, i31, h.getD (3 * i + 1) (by omega), Option.bind_some, show (100 : Int32) = iI 100 from rfl, it_le _ _ (by omega), show c - i = (c - (i + 1)) + 1 by omega, hOK]
      by_cases c1 : t.getD (3 * i + 1) 0 ≤ 99
      · rw [if_neg (by omega), show (1 : Int32) = iI 1 from rfl, it_lt _ _ (by omega)]
        by_cases c2 : 1 ≤ t.getD (3 * i + 2) 0
        · rw [if_neg (by omega), show (99 : Int32) = iI 99 from rfl, it_le _ _ (by omega)]
          by_cases c3 : t.getD (3 * i + 2) 0 ≤ 99
          · rw [if_pos c3, show hP t i = true from decide_eq_true ⟨c1, c2, c3⟩, Bool.true_and, ← show (1 : Int32) = iI 1 from rfl, iI_s]
            exact ih (i + 1) (by omega) (by omega)
          · rw [if_neg c3, show hP t i = false from decide_eq_false (fun q => c3 q.2.2), Bool.false_and]
            rfl
        · rw [if_pos (by omega), show hP t i = false from decide_eq_false (fun q => c2 q.2.1), Bool.false_and]
          rfl
      · rw [if_pos (by omega), show hP t i = false from decide_eq_false (fun q => c1 q.1), Bool.false_and]
        rfl
theorem Rd.f65 (h : Rd B ad rho M M1 N g t j w) (hv : valH c t) (ht : t.length = 3 * c) (hc : c ≤ 15) (n i : Nat) (hi : i < c) : ∀ (k q : Nat), q ≤ i → i - q < k → f_X8_faultIn_L65 n M1 (some (ad 3)) (iI c) (iI i) k (iI q) = some (if nd1 t i (i - q) q = true then Sum.inr () else Sum.inl (10 : Int32)) := by
  intro k
  induction k with
  | zero => intro q _ h; omega
  | succ k ih =>
    intro q hq hk
    unfold f_X8_faultIn_L65
    rw [it_le _ _ (by omega)]
    by_cases e : q = i
    · rw [if_pos (by omega), show i - q = 0 by omega, nd1, if_pos rfl]
    · have v1 := hv.key hi
      have v2 := hv.key (show q < c by omega)
      rw [if_neg (by omega), h.spot hv ht i hi, Option.bind_some, h.spot hv ht q (by omega), Option.bind_some, it_eq _ _ (by omega), show i - q = (i - (q + 1)) + 1 by omega, nd1, iI_s]
      by_cases c1 : kH t i = kH t q
      · rw [if_pos c1, decide_eq_false (fun x => x c1), Bool.false_and]
        rfl
      · rw [if_neg c1, decide_eq_true c1, Bool.true_and]
        exact ih (q + 1) (by omega) (by omega)
theorem Rd.f58 (h : Rd B ad rho M M1 N g t j w) (hv : valH c t) (ht : t.length = 3 * c) (hc : c ≤ 15) (n : Nat) (hn : 60 ≤ n) : ∀ (k i : Nat), i ≤ c → c - i < k → f_X8_faultIn_L58 n M1 (some (ad 3)) (iI c) k (iI i) = some (iI (if ndA t (c - i) i = true then 0 else 10)) := by
  intro k
  induction k with
  | zero => intro i _ h; omega
  | succ k ih =>
    intro i hi hk
    unfold f_X8_faultIn_L58
    rw [it_le _ _ (by omega)]
    by_cases e : i = c
    · rw [if_pos (by omega), show c - i = 0 by omega, ndA, if_pos rfl]
      rfl
    · have z := h.f65 hv ht hc n i (by omega) n 0 (by omega) (by omega)
      have z' : f_X8_faultIn_L65 n M1 (some (ad 3)) (iI c) (iI i) n (0 : Int32) = _ := z
      rw [if_neg (by omega), z', Option.bind_some, show c - i = (c - (i + 1)) + 1 by omega, ndA, iI_s, Nat.sub_zero]
      by_cases c1 : nd1 t i i 0 = true
      · rw [if_pos c1, c1, Bool.true_and]
        exact ih (i + 1) (by omega) (by omega)
      · rw [if_neg c1, show nd1 t i i 0 = false by simpa using c1, Bool.false_and]
        rfl
theorem Rd.repFault (h : Rd B ad rho M M1 N g t j w) (hv : valH c t) (ht : t.length = 3 * c) (hc : c ≤ 15) (n : Nat) (hn : 60 ≤ n) : f_X8_faultIn n M1 (some (ad 3)) = some (iI (if hOK t c 0 = true then (if ndA t c 0 = true then 0 else 10) else 9)) := by
  have z1 := h.f7 hv ht n n 0 (by omega) (by omega)
  have z2 := h.f58 hv ht hc n hn n 0 (by omega) (by omega)
  have z1' : f_X8_faultIn_L7 n M1 (some (ad 3)) (iI c) n (0 : Int32) = _ := z1
  have z2' : f_X8_faultIn_L58 n M1 (some (ad 3)) (iI c) n (0 : Int32) = _ := z2
  unfold f_X8_faultIn
  rw [h.harms ht, Option.bind_some, z1', Option.bind_some, Nat.sub_zero]
  by_cases c1 : hOK t c 0 = true
  · rw [if_pos c1, if_pos c1]
    exact z2'
  · rw [if_neg c1, if_neg c1]
    rfl
/-! the reference's tests -/
theorem t_h109 (hr : rowsH u c t) (hv : valH c t) (hc : c ≤ 15) (n : Nat) (y1 y2 : Int32) : ∀ (k i : Nat) (b : Bool), i ≤ c → c - i < k → f_X12_report_L109 S n L u y1 y2 (iI c) k (iI (if b = true then 1 else 0)) (iI i) = some (iI (if (b && hOK t (c - i) i) = true then 1 else 0)) := by
  intro k
  induction k with
  | zero => intro i b _ h; omega
  | succ k ih =>
    intro i b hi hk
    unfold f_X12_report_L109
    rw [it_le _ _ (by omega), iI_s]
    by_cases e : i = c
    · rw [if_pos (by omega), show c - i = 0 by omega, hOK, Bool.and_true]
    · have hlt : i < c := by omega
      have ihT := ih (i + 1) true (by omega) (by omega)
      have ihF := ih (i + 1) false (by omega) (by omega)
      rw [Bool.true_and] at ihT
      rw [Bool.false_and] at ihF
      have ihF' : f_X12_report_L109 S n L u y1 y2 (iI c) k (0 : Int32) (iI ((i + 1 : Nat) : Int)) = some (iI 0) := ihF
      have ihT' : f_X12_report_L109 S n L u y1 y2 (iI c) k (1 : Int32) (iI ((i + 1 : Nat) : Int)) = _ := ihT
      rw [if_neg (by omega)]
      cases b
      · rw [if_pos (show iI (if false = true then 1 else 0) = (0 : Int32) from rfl), Bool.false_and, ihF']
        rfl
      · have qi : inb (iI (i : Int)) 120 := (iI_inb _ 120 (by omega)).mpr (by omega)
        have ec : (iI (i : Int)).toNatClampNeg = i := by rw [iI_clamp _ (by omega)]; omega
        obtain ⟨-, r1, r2⟩ := hr i hlt
        have v := hv i hlt
        have hin : f_X12_isIn u (iI (t.getD (3 * i + 2) 0)) (1 : Int32) (99 : Int32) = some (iI (if 1 ≤ t.getD (3 * i + 2) 0 ∧ t.getD (3 * i + 2) 0 ≤ 99 then 1 else 0)) := t_isIn u _ 1 99 (by omega) (by omega) (by omega)
        rw [if_neg (show ¬ iI (if true = true then 1 else 0) = (0 : Int32) by decide)]
        simp only [if_pos qi, ec, r1, r2, hin, Option.bind_some, b0z]
        rw [show (99 : Int32) = iI 99 from rfl, it_lt _ _ (by omega), Bool.true_and, show c - i = (c - (i + 1)) + 1 by omega, hOK]
        by_cases c1 : t.getD (3 * i + 1) 0 ≤ 99
        · rw [if_neg (by omega)]
          by_cases c2 : 1 ≤ t.getD (3 * i + 2) 0 ∧ t.getD (3 * i + 2) 0 ≤ 99
          · rw [if_neg (fun q => q c2), ihT', show hP t i = true from decide_eq_true ⟨c1, c2⟩, Bool.true_and]
          · rw [if_pos c2, ihF', show hP t i = false from decide_eq_false (fun q => c2 q.2), Bool.false_and]
            rfl
        · rw [if_pos (by omega), ihF', show hP t i = false from decide_eq_false (fun q => c1 q.1), Bool.false_and]
          rfl
theorem t_h185 (hr : rowsH u c t) (hv : valH c t) (hc : c ≤ 15) (hok : hOK t c 0 = true) (n : Nat) (y1 y2 : Int32) (i : Nat) (hi : i < c) : ∀ (k q : Nat) (b : Bool), q ≤ i → i - q < k → f_X12_report_L185 S n L u y1 y2 (iI c) (iI i) k (iI (if b = true then 1 else 0)) (iI q) = some (iI (if (b && nd1 t i (i - q) q) = true then 1 else 0)) := by
  intro k
  induction k with
  | zero => intro q b _ h; omega
  | succ k ih =>
    intro q b hq hk
    unfold f_X12_report_L185
    rw [it_le _ _ (by omega), iI_s]
    by_cases e : q = i
    · rw [if_pos (by omega), show i - q = 0 by omega, nd1, Bool.and_true]
    · have hlt : q < c := by omega
      have ihT := ih (q + 1) true (by omega) (by omega)
      have ihF := ih (q + 1) false (by omega) (by omega)
      rw [Bool.true_and] at ihT
      rw [Bool.false_and] at ihF
      have ihF' : f_X12_report_L185 S n L u y1 y2 (iI c) (iI i) k (0 : Int32) (iI ((q + 1 : Nat) : Int)) = some (iI 0) := ihF
      have ihT' : f_X12_report_L185 S n L u y1 y2 (iI c) (iI i) k (1 : Int32) (iI ((q + 1 : Nat) : Int)) = _ := ihT
      rw [if_neg (by omega)]
      cases b
      · rw [if_pos (show iI (if false = true then 1 else 0) = (0 : Int32) from rfl), Bool.false_and, ihF']
        rfl
      · have q1 : inb (iI (q : Int)) 120 := (iI_inb _ 120 (by omega)).mpr (by omega)
        have e1 : (iI (q : Int)).toNatClampNeg = q := by rw [iI_clamp _ (by omega)]; omega
        have q2 : inb (iI (i : Int)) 120 := (iI_inb _ 120 (by omega)).mpr (by omega)
        have e2 : (iI (i : Int)).toNatClampNeg = i := by rw [iI_clamp _ (by omega)]; omega
        obtain ⟨a0, a1, -⟩ := hr q hlt
        obtain ⟨b0, b1, -⟩ := hr i hi
        have v1 := hv q hlt
        have v2 := hv i hi
        have o1 := hOK_all 0 hok q (by omega) (by omega)
        have o2 := hOK_all 0 hok i (by omega) (by omega)
        have ki : kH t i = kH t q ↔ t.getD (3 * i) 0 = t.getD (3 * q) 0 ∧ t.getD (3 * i + 1) 0 = t.getD (3 * q + 1) 0 := key_inj (by omega) (by omega)
        rw [if_neg (show ¬ iI (if true = true then 1 else 0) = (0 : Int32) by decide)]
        simp only [if_pos q1, if_pos q2, e1, e2, a0, a1, b0, b1]
        rw [it_eq _ _ (by omega), it_eq _ _ (by omega), Bool.true_and, show i - q = (i - (q + 1)) + 1 by omega, nd1]
        by_cases c1 : t.getD (3 * q) 0 = t.getD (3 * i) 0
        · rw [if_pos c1]
          by_cases c2 : t.getD (3 * q + 1) 0 = t.getD (3 * i + 1) 0
          · rw [if_pos c2, ihF', decide_eq_false (fun x => x (ki.mpr ⟨c1.symm, c2.symm⟩)), Bool.false_and]
            rfl
          · rw [if_neg c2, ihT', decide_eq_true (show kH t i ≠ kH t q from fun x => c2 (ki.mp x).2.symm), Bool.true_and]
        · rw [if_neg c1, ihT', decide_eq_true (show kH t i ≠ kH t q from fun x => c1 (ki.mp x).1.symm), Bool.true_and]
theorem t_h176 (hr : rowsH u c t) (hv : valH c t) (hc : c ≤ 15) (hok : hOK t c 0 = true) (n : Nat) (hn : 60 ≤ n) (y1 y2 : Int32) : ∀ (k i : Nat) (b : Bool), i ≤ c → c - i < k → f_X12_report_L176 S n L u y1 y2 (iI c) k (iI (if b = true then 1 else 0)) (iI i) = some (iI (if (b && ndA t (c - i) i) = true then 1 else 0)) := by
  intro k
  induction k with
  | zero => intro i b _ h; omega
  | succ k ih =>
    intro i b hi hk
    unfold f_X12_report_L176
    rw [it_le _ _ (by omega), iI_s]
    by_cases e : i = c
    · rw [if_pos (by omega), show c - i = 0 by omega, ndA, Bool.and_true]
    · have z := t_h185 (S := S) (L := L) hr hv hc hok n y1 y2 i (by omega) n 0 b (by omega) (by omega)
      have z' : f_X12_report_L185 S n L u y1 y2 (iI c) (iI i) n (iI (if b = true then 1 else 0)) (0 : Int32) = _ := z
      rw [if_neg (by omega), z', Option.bind_some, show c - i = (c - (i + 1)) + 1 by omega, ndA, Nat.sub_zero, ← Bool.and_assoc]
      exact ih (i + 1) (b && nd1 t i i 0) (by omega) (by omega)
end REF
