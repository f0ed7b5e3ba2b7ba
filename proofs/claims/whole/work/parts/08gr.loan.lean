/-! LOAN: what is wrong with it -/
def riS (m : Int) : Int → List Int → Bool
  | _, [] => true
  | a, x :: l => decide (a < x ∧ x < m) && riS m x l
def frD (u : MS) (s e x : Int) : Bool := allI (fun d => decide (loanS u x d = -1)) (e + 1 - s).toNat s
def frA (u : MS) (s e : Int) (l : List Int) : Bool := l.all (fun x => frD u s e x)
def lgA (u : MS) (lim : Int) (l : List Int) : Bool := l.all (fun x => decide (vR u 8 x.toNat ≤ lim))
theorem riS_all {m : Int} : ∀ {l : List Int} {a : Int}, riS m a l = true → l.Pairwise (fun x y => x < y) ∧ ∀ x, x ∈ l → a < x ∧ x < m := by
  intro l
  induction l with
  | nil => exact fun _ => ⟨List.Pairwise.nil, fun x hx => by cases hx⟩
  | cons y l ih =>
    intro a h
    rw [riS, Bool.and_eq_true] at h
    obtain ⟨h1, h2⟩ := h
    have h1 := of_decide_eq_true h1
    obtain ⟨p, q⟩ := ih h2
    refine ⟨List.pairwise_cons.mpr ⟨fun z hz => (q z hz).1, p⟩, fun x hx => ?_⟩
    rcases List.mem_cons.mp hx with e | e
    · rw [e]
      exact h1
    · have := q x e
      omega
theorem dropD (t : List Int) (k : Nat) (h : k < t.length) : t.drop k = t.getD k 0 :: t.drop (k + 1) := by
  rw [List.drop_eq_getElem_cons h]
  simp [List.getD, h]
theorem allI_dec {p q : Int → Bool} {c : Nat} {i : Int} (h : ∀ k, i ≤ k → k < i + c → p k = q k) : allI p c i = allI q c i := by
  induction c generalizing i with
  | zero => rfl
  | succ c ih =>
    unfold allI
    rw [h i (by omega) (by omega), ih (fun k k1 k2 => h k (by omega) (by omega))]
theorem loanS_neg (u : MS) (t d : Int) : decide (loanS u t d < 0) = decide (loanS u t d = -1) := by
  have h : loanS u t d = -1 ∨ (0 ≤ loanS u t d ∧ loanS u t d < 0 + (vN u 23).toNat ∧ onL u t d (loanS u t d) = true) := fstI_rng (onL u t d) (vN u 23).toNat 0 (by omega)
  rcases h with h | h
  · rw [h]
    rfl
  · rw [decide_eq_false (by omega), decide_eq_false (by omega)]
section LOT
variable {B : Nat} {S : Nat → Nat} {L : Mem} {x0 : Nat} {ad rho : Nat → Nat} {xl : Nat → List Nat} {M : Mem} {u : MS} {sz N j : Nat} {g : Nat → Int} {t : List Int} {w : Int} {c : Nat}
theorem CalR.isOpen {id a : Nat} {f : Int → Int} {tk : Int} (h : CalR M rho id a f tk) (n : Nat) (hn : 1100 ≤ n) (s e : Int) (hs : 0 ≤ s ∧ s ≤ 999) (he : 0 ≤ e ∧ e ≤ 999) (hf : ∀ d, -2147483648 ≤ f d ∧ f d < 2147483648) : f_X1_isOpen n M (some a) (iI s) (iI e) = some (iI (if allI (fun d => decide (f d = -1)) (e + 1 - s).toNat s = true then 1 else 0)) := by
  have key : ∀ (k : Nat) (i : Int), 0 ≤ i → i ≤ 2000 → (e + 1 - i).toNat < k → f_X1_isOpen_L18 n M (some a) (iI e) k (iI i) = some (iI (if allI (fun d => decide (f d = -1)) (e + 1 - i).toNat i = true then 1 else 0)) := by
    intro k
    induction k with
    | zero => intro i _ _ h; omega
    | succ k ih =>
      intro i hi hi2 hk
      unfold f_X1_isOpen_L18
      rw [it_lt _ _ (by omega)]
      by_cases c1 : e < i
      · rw [if_pos c1, show (e + 1 - i).toNat = 0 by omega, allI]
        rfl
      · have hat := h.at i (by omega)
        have hfi := hf i
        rw [if_neg c1]
        obtain ⟨dd, g, h1, h2, h3⟩ := h
        rw [gR_at h1.1] at hat ⊢
        simp only [List.getElem?_cons_zero, Option.bind_some] at hat ⊢
        rw [hat, Option.bind_some, show (-1 : Int32) = iI (-1) from rfl, it_eq _ _ (by omega), show (e + 1 - i).toNat = (e + 1 - (i + 1)).toNat + 1 by omega, allI]
        by_cases c2 : f i = -1
        · rw [if_pos c2, decide_eq_true c2, Bool.true_and, show (1 : Int32) = iI 1 from rfl, iI_add]
          exact ih (i + 1) (by omega) (by omega) (by omega)
        · rw [if_neg c2, decide_eq_false c2, Bool.false_and]
          rfl
  unfold f_X1_isOpen
  rw [z_isDay M s (by omega), Option.bind_some, if_pos (show 0 ≤ s ∧ s ≤ 999 by omega), if_neg (show ¬ iI 1 = (0 : Int32) by decide), z_isDay M e (by omega), Option.bind_some, if_pos (show 0 ≤ e ∧ e ≤ 999 by omega), if_neg (show ¬ iI 1 = (0 : Int32) by decide)]
  exact key n s hs.1 (by omega) (by omega)
theorem z_rising (h : RepK B S L x0 ad rho xl M u sz) (hI : Inv u xl) (hd : Rd B ad rho M M N g t j w) (hv : allV t) (ht : t.length = 2 + c) (n : Nat) : ∀ (k q : Nat) (a : Int), q ≤ c → c - q < k → -1 ≤ a ∧ a ≤ 9999 → f_X11_tellsThingsRising_L4 n M (some x0) k (iI a) (iI ((2 + q : Nat) : Int)) = some (iI (if riS (vN u 5) a (t.drop (2 + q)) = true then 1 else 0)) := by
  have hl := hd.tlen
  have n5 := hI.n5
  intro k
  induction k with
  | zero => intro q a _ h; omega
  | succ k ih =>
    intro q a hq hk ha
    unfold f_X11_tellsThingsRising_L4
    rw [(bk h.book).2.1]
    simp only [Option.bind_some]
    rw [if_pos hd.is, hd.size]
    simp only [Option.bind_some]
    rw [it_le _ _ (by omega)]
    by_cases e : q = c
    · rw [if_pos (by omega), List.drop_eq_nil_of_le (by omega), riS]
      rfl
    · have hv1 := getD_rng hv (2 + q)
      rw [if_neg (by omega), if_pos hd.is, hd.getD (2 + q) (by omega)]
      simp only [Option.bind_some]
      rw [dropD t (2 + q) (by omega), riS, it_le _ _ (by omega)]
      by_cases c1 : a < t.getD (2 + q) 0
      · rw [if_neg (by omega), (bk h.book).2.2.1]
        simp only [Option.bind_some]
        rw [if_pos h.rows.1.is, h.rows.1.size]
        simp only [Option.bind_some]
        rw [seqA_len, it_lt _ _ (by omega), iI_s]
        by_cases c2 : t.getD (2 + q) 0 < vN u 5
        · rw [if_pos (by omega), decide_eq_true ⟨c1, c2⟩, Bool.true_and]
          exact ih (q + 1) _ (by omega) (by omega) (by omega)
        · rw [if_neg (by omega), decide_eq_false (fun x => c2 x.2), Bool.false_and]
          rfl
      · rw [if_pos (by omega), decide_eq_false (fun x => c1 x.1), Bool.false_and]
        rfl
theorem z_lent (h : RepK B S L x0 ad rho xl M u sz) (hI : Inv u xl) (hd : Rd B ad rho M M N g t j w) (hv : allV t) (ht : t.length = 2 + c) {hh : Nat} (hhh : hh < (vN u 14).toNat) (hin : ∀ x, x ∈ t.drop 2 → 0 ≤ x ∧ x < vN u 5) (n : Nat) (hn : 2100 ≤ n) (s e : Int) (hs : 0 ≤ s ∧ s ≤ 999) (he : 0 ≤ e ∧ e ≤ 999) : ∀ (k q : Nat) (b : Bool), q ≤ c → c - q < k → f_X11_faultInLoan_L67 n M (some x0) (some (ad (5000 + hh))) (iI s) (iI e) k (iI (if b = true then 1 else 0)) (iI ((2 + q : Nat) : Int)) = some (iI (if frA u s e (t.drop (2 + q)) = true then (if (b || !(lgA u (vR u 16 hh) (t.drop (2 + q)))) = true then 7 else 0) else 6)) := by
  have hl := hd.tlen
  have n5 := hI.n5
  intro k
  induction k with
  | zero => intro q b _ h; omega
  | succ k ih =>
    intro q b hq hk
    unfold f_X11_faultInLoan_L67
    rw [(bk h.book).2.1]
    simp only [Option.bind_some]
    rw [if_pos hd.is, hd.size]
    simp only [Option.bind_some]
    rw [it_le _ _ (by omega)]
    by_cases e1 : q = c
    · rw [if_pos (by omega), List.drop_eq_nil_of_le (by omega)]
      cases b
      · rfl
      · rfl
    · have hdr := dropD t (2 + q) (by omega)
      have hx := hin (t.getD (2 + q) 0) (by
        have : t.getD (2 + q) 0 ∈ t.drop (2 + q) := by rw [hdr]; simp
        have h2 : t.drop (2 + q) = (t.drop 2).drop q := by rw [List.drop_drop]
        rw [h2] at this
        exact List.mem_of_mem_drop this)
      rw [if_neg (by omega), if_pos hd.is, hd.getD (2 + q) (by omega)]
      simp only [Option.bind_some]
      have hxi : (t.getD (2 + q) 0).toNat < (vN u 5).toNat := by omega
      have hxe : (((t.getD (2 + q) 0).toNat : Nat) : Int) = t.getD (2 + q) 0 := by omega
      generalize t.getD (2 + q) 0 = x at *
      obtain ⟨⟨wq, gq, -⟩, ⟨tk, hcal⟩, -⟩ := h.thi hxi
      obtain ⟨wh, gh, -⟩ := h.hou hhh
      have g4 : gR M (some (ad (1000 + x.toNat))) 13 4 = some (some (ad (2000 + x.toNat))) := gR_at gq.1
      have g2 : gI M (some (ad (1000 + x.toNat))) 13 2 = some (u.2 8 x.toNat) := gI_at gq.1
      have g1 : gI M (some (ad (5000 + hh))) 6 1 = some (u.2 16 hh) := gI_at gh.1
      have hop := hcal.isOpen n (by omega) s e hs he (fun d => by
        have := fstI_rng (onL u ((x.toNat : Nat) : Int) d) (vN u 23).toNat 0 (by omega)
        have h23 := hI.n23
        unfold loanS
        omega)
      rw [hxe] at hop
      have v8 := vR_rng u 8 x.toNat
      have v16 := vR_rng u 16 hh
      rw [if_pos (isO_at h.book), z_thingAt h x (by omega), if_pos (show 0 ≤ x ∧ x ≤ vN u 5 - 1 by omega)]
      simp only [Option.bind_some, reduceCtorEq, if_false]
      rw [g4]
      simp only [Option.bind_some]
      rw [if_pos hcal.is, hop]
      simp only [Option.bind_some]
      rw [hdr]
      have efr : frA u s e (x :: t.drop (2 + q + 1)) = (frD u s e x && frA u s e (t.drop (2 + (q + 1)))) := rfl
      have elg : lgA u (vR u 16 hh) (x :: t.drop (2 + q + 1)) = (decide (vR u 8 x.toNat ≤ vR u 16 hh) && lgA u (vR u 16 hh) (t.drop (2 + (q + 1)))) := rfl
      rw [efr, elg]
      by_cases c1 : frD u s e x = true
      · have c1' : allI (fun d => decide (loanS u x d = -1)) (e + 1 - s).toNat s = true := c1
        rw [if_pos c1', if_neg (show ¬ iI 1 = (0 : Int32) by decide), g2, g1]
        simp only [Option.bind_some]
        rw [u2_iI u 8, u2_iI u 16, it_le _ _ (by omega), c1, Bool.true_and, iI_s]
        by_cases c2 : vR u 8 x.toNat ≤ vR u 16 hh
        · rw [if_pos c2, decide_eq_true c2, Bool.true_and]
          exact ih (q + 1) b (by omega) (by omega)
        · rw [if_neg c2, decide_eq_false c2, Bool.false_and, Bool.not_false, Bool.or_true]
          have := ih (q + 1) true (by omega) (by omega)
          rw [Bool.true_or] at this
          exact this
      · have c1' : ¬ allI (fun d => decide (loanS u x d = -1)) (e + 1 - s).toNat s = true := c1
        rw [if_neg c1', if_pos (show iI 0 = (0 : Int32) from rfl), show frD u s e x = false by simpa using c1, Bool.false_and]
        rfl
/-! the reference's tests -/
theorem t_l123 (hr : rowsL u c t) (hv : allV t) (ht : t.length = 2 + c) (hc : c ≤ 118) (n5 : 0 ≤ vN u 5 ∧ vN u 5 ≤ 16) (n : Nat) (y1 y2 y3 y5 : Int32) : ∀ (k q : Nat) (b : Bool), q ≤ c → c - q < k → f_X12_loan_L123 S n L u y1 y2 y3 (iI c) y5 k (iI (if b = true then 1 else 0)) (iI q) = some (iI (if (b && riS (vN u 5) (if q = 0 then -1 else t.getD (2 + q - 1) 0) (t.drop (2 + q))) = true then 1 else 0)) := by
  intro k
  induction k with
  | zero => intro q b _ h; omega
  | succ k ih =>
    intro q b hq hk
    unfold f_X12_loan_L123
    rw [it_le _ _ (by omega), iI_s]
    by_cases e : q = c
    · rw [if_pos (by omega), List.drop_eq_nil_of_le (by omega), riS, Bool.and_true]
    · have hlt : q < c := by omega
      have nx : (if q + 1 = 0 then (-1 : Int) else t.getD (2 + (q + 1) - 1) 0) = t.getD (2 + q) 0 := by
        rw [if_neg (by omega), show 2 + (q + 1) - 1 = 2 + q by omega]
      have ihT := ih (q + 1) true (by omega) (by omega)
      have ihF := ih (q + 1) false (by omega) (by omega)
      rw [nx] at ihT ihF
      rw [Bool.true_and] at ihT
      rw [Bool.false_and] at ihF
      have ihF' : f_X12_loan_L123 S n L u y1 y2 y3 (iI c) y5 k (0 : Int32) (iI ((q + 1 : Nat) : Int)) = some (iI 0) := ihF
      have ihT' : f_X12_loan_L123 S n L u y1 y2 y3 (iI c) y5 k (1 : Int32) (iI ((q + 1 : Nat) : Int)) = _ := ihT
      rw [if_neg (by omega)]
      cases b
      · rw [if_pos (show iI (if false = true then 1 else 0) = (0 : Int32) from rfl), Bool.false_and, ihF']
        rfl
      · have qi : inb (iI (q : Int)) 120 := (iI_inb _ 120 (by omega)).mpr (by omega)
        have ec : (iI (q : Int)).toNatClampNeg = q := by rw [iI_clamp _ (by omega)]; omega
        have r1 := hr q hlt
        have v1 := getD_rng hv (2 + q)
        rw [if_neg (show ¬ iI (if true = true then 1 else 0) = (0 : Int32) by decide), Bool.true_and, dropD t (2 + q) (by omega), riS]
        simp only [if_pos qi, ec, r1]
        rw [t_isThing u _ (by omega) n5]
        simp only [Option.bind_some, b0z]
        by_cases c1 : 0 ≤ t.getD (2 + q) 0 ∧ t.getD (2 + q) 0 ≤ vN u 5 - 1
        · rw [if_neg (fun z => z c1)]
          by_cases c0 : q = 0
          · subst c0
            rw [if_pos (show iI ((0 : Nat) : Int) = (0 : Int32) from rfl), if_pos rfl, ihT', decide_eq_true ⟨by omega, by omega⟩, Bool.true_and]
          · have z0 : ¬ iI (q : Int) = (0 : Int32) := by
              rw [iI_zero, iI_eq _ _ (by omega)]
              omega
            have q1 : inb (iI (q : Int) - (1 : Int32)) 120 := by
              rw [show (1 : Int32) = iI 1 from rfl, iI_sub]
              exact (iI_inb _ 120 (by omega)).mpr (by omega)
            have ec1 : (iI (q : Int) - (1 : Int32)).toNatClampNeg = q - 1 := by
              rw [show (1 : Int32) = iI 1 from rfl, iI_sub, iI_clamp _ (by omega)]
              omega
            have v3 := getD_rng hv (2 + (q - 1))
            rw [if_neg z0, if_neg c0]
            simp only [if_pos q1, ec1, hr (q - 1) (by omega)]
            rw [it_le _ _ (by omega), show 2 + q - 1 = 2 + (q - 1) by omega]
            by_cases c2 : t.getD (2 + (q - 1)) 0 < t.getD (2 + q) 0
            · rw [if_neg (by omega), ihT', decide_eq_true ⟨c2, by omega⟩, Bool.true_and]
              rfl
            · rw [if_pos (by omega), ihF', decide_eq_false (fun z => c2 z.1), Bool.false_and]
              rfl
        · rw [if_pos c1, ihF', decide_eq_false (fun z => c1 ⟨by omega, by omega⟩), Bool.false_and]
          rfl
theorem t_l227 (hr : rowsL u c t) (hc : c ≤ 118) (hI : Inv u xl) (n : Nat) (hn : 2100 ≤ n) (y1 y3 y4 y7 : Int32) (s len : Int) (hs : 0 ≤ s) (hlen : 0 ≤ len ∧ s + len ≤ 1000) (q : Nat) (hq : q < c) (hx : 0 ≤ t.getD (2 + q) 0 ∧ t.getD (2 + q) 0 < vN u 5) : ∀ (k : Nat) (d : Int) (b : Bool), 0 ≤ d → d ≤ s + len → (s + len - d).toNat < k → f_X12_loan_L227 S n L u y1 (iI s) y3 y4 (iI len) y7 (iI q) k (iI (if b = true then 1 else 0)) (iI d) = some (iI (if (b && allI (fun d => decide (loanS u (t.getD (2 + q) 0) d = -1)) (s + len - d).toNat d) = true then 1 else 0)) := by
  have n5 := hI.n5
  intro k
  induction k with
  | zero => intro d b _ _ h; omega
  | succ k ih =>
    intro d b hd0 hd hk
    unfold f_X12_loan_L227
    rw [iI_add, it_le _ _ (by omega), show (1 : Int32) = iI 1 from rfl, iI_add]
    by_cases e : d = s + len
    · rw [if_pos (by omega), show (s + len - d).toNat = 0 by omega, allI, Bool.and_true]
    · have ihT := ih (d + 1) true (by omega) (by omega) (by omega)
      have ihF := ih (d + 1) false (by omega) (by omega) (by omega)
      rw [Bool.true_and] at ihT
      rw [Bool.false_and] at ihF
      have ihF' : f_X12_loan_L227 S n L u y1 (iI s) y3 y4 (iI len) y7 (iI q) k (0 : Int32) (iI (d + 1)) = some (iI 0) := ihF
      have ihT' : f_X12_loan_L227 S n L u y1 (iI s) y3 y4 (iI len) y7 (iI q) k (iI 1) (iI (d + 1)) = _ := ihT
      rw [if_neg (by omega)]
      cases b
      · rw [if_pos (show iI (if false = true then 1 else 0) = (0 : Int32) from rfl), Bool.false_and, ihF']
        rfl
      · have qi : inb (iI (q : Int)) 120 := (iI_inb _ 120 (by omega)).mpr (by omega)
        have ec : (iI (q : Int)).toNatClampNeg = q := by rw [iI_clamp _ (by omega)]; omega
        have hl := t_loanOf n u (t.getD (2 + q) 0) d (by omega) (by omega) hI.n23 hI.loansOK (by omega)
        have hrg := fstI_rng (onL u (t.getD (2 + q) 0) d) (vN u 23).toNat 0 (by omega)
        have h23 := hI.n23
        have hrg2 : -1 ≤ loanS u (t.getD (2 + q) 0) d ∧ loanS u (t.getD (2 + q) 0) d < 17 := by
          unfold loanS
          omega
        rw [if_neg (show ¬ iI (if true = true then 1 else 0) = (0 : Int32) by decide), Bool.true_and, show (s + len - d).toNat = (s + len - (d + 1)).toNat + 1 by omega, allI]
        simp only [if_pos qi, ec, hr q hq]
        rw [hl]
        simp only [Option.bind_some]
        rw [iI_zero, it_le _ _ (by omega)]
        by_cases c1 : loanS u (t.getD (2 + q) 0) d = -1
        · rw [if_neg (by omega), ihT', decide_eq_true c1, Bool.true_and]
        · rw [if_pos (by omega), decide_eq_false c1, Bool.false_and]
          exact ihF'
theorem t_l203 (hr : rowsL u c t) (ht : t.length = 2 + c) (hc : c ≤ 118) (hI : Inv u xl) (hin : ∀ x, x ∈ t.drop 2 → 0 ≤ x ∧ x < vN u 5) (n : Nat) (hn : 2100 ≤ n) (y1 y3 : Int32) (s len : Int) (hs : 0 ≤ s) (hlen : 0 ≤ len ∧ s + len ≤ 1000) : ∀ (k q : Nat) (b : Bool) (bits : Int32), q ≤ c → c - q < k → f_X12_loan_L203 S n L u y1 (iI s) y3 (iI c) (iI len) k (iI (if b = true then 1 else 0)) bits (iI q) = some (iI (if (b && frA u s (s + len - 1) (t.drop (2 + q))) = true then 1 else 0), bitsF bits (t.drop (2 + q))) := by
  intro k
  induction k with
  | zero => intro q b bits _ h; omega
  | succ k ih =>
    intro q b bits hq hk
    unfold f_X12_loan_L203
    rw [it_le _ _ (by omega), iI_s]
    by_cases e : q = c
    · rw [if_pos (by omega), List.drop_eq_nil_of_le (by omega)]
      cases b <;> rfl
    · have hlt : q < c := by omega
      have hdr := dropD t (2 + q) (by omega)
      have hx := hin (t.getD (2 + q) 0) (by
        have : t.getD (2 + q) 0 ∈ t.drop (2 + q) := by rw [hdr]; simp
        have h2 : t.drop (2 + q) = (t.drop 2).drop q := by rw [List.drop_drop]
        rw [h2] at this
        exact List.mem_of_mem_drop this)
      have qi : inb (iI (q : Int)) 120 := (iI_inb _ 120 (by omega)).mpr (by omega)
      have ec : (iI (q : Int)).toNatClampNeg = q := by rw [iI_clamp _ (by omega)]; omega
      rw [if_neg (by omega)]
      simp only [if_pos qi, ec, hr q hlt]
      rw [t_l227 hr hc hI n hn y1 y3 (iI c) _ s len hs hlen q hlt hx n s b (by omega) (by omega) (by omega)]
      simp only [Option.bind_some]
      have efr : frA u s (s + len - 1) (t.getD (2 + q) 0 :: t.drop (2 + q + 1)) = (frD u s (s + len - 1) (t.getD (2 + q) 0) && frA u s (s + len - 1) (t.drop (2 + (q + 1)))) := rfl
      have efd : allI (fun d => decide (loanS u (t.getD (2 + q) 0) d = -1)) (s + len - s).toNat s = frD u s (s + len - 1) (t.getD (2 + q) 0) := by
        unfold frD
        rw [show (s + len - 1 + 1 - s).toNat = (s + len - s).toNat by omega]
      rw [efd, hdr, efr, bitsF, ← Bool.and_assoc]
      exact ih (q + 1) (b && frD u s (s + len - 1) (t.getD (2 + q) 0)) _ (by omega) (by omega)
theorem t_l291 (hr : rowsL u c t) (ht : t.length = 2 + c) (hc : c ≤ 118) (n5 : 0 ≤ vN u 5 ∧ vN u 5 ≤ 16) {hh : Nat} (hhh : hh < 6) (hin : ∀ x, x ∈ t.drop 2 → 0 ≤ x ∧ x < vN u 5) (n : Nat) (y2 y3 y7 : Int32) : ∀ (k q : Nat) (b : Bool), q ≤ c → c - q < k → f_X12_loan_L291 S n L u (iI hh) y2 y3 (iI c) y7 k (iI (if b = true then 1 else 0)) (iI q) = some (iI (if (b && lgA u (vR u 16 hh) (t.drop (2 + q))) = true then 1 else 0)) := by
  intro k
  induction k with
  | zero => intro q b _ h; omega
  | succ k ih =>
    intro q b hq hk
    unfold f_X12_loan_L291
    rw [it_le _ _ (by omega), iI_s]
    by_cases e : q = c
    · rw [if_pos (by omega), List.drop_eq_nil_of_le (by omega)]
      cases b <;> rfl
    · have hlt : q < c := by omega
      have hdr := dropD t (2 + q) (by omega)
      have hx := hin (t.getD (2 + q) 0) (by
        have : t.getD (2 + q) 0 ∈ t.drop (2 + q) := by rw [hdr]; simp
        have h2 : t.drop (2 + q) = (t.drop 2).drop q := by rw [List.drop_drop]
        rw [h2] at this
        exact List.mem_of_mem_drop this)
      have ihT := ih (q + 1) true (by omega) (by omega)
      have ihF := ih (q + 1) false (by omega) (by omega)
      rw [Bool.true_and] at ihT
      rw [Bool.false_and] at ihF
      have ihF' : f_X12_loan_L291 S n L u (iI hh) y2 y3 (iI c) y7 k (0 : Int32) (iI ((q + 1 : Nat) : Int)) = some (iI 0) := ihF
      have ihT' : f_X12_loan_L291 S n L u (iI hh) y2 y3 (iI c) y7 k (1 : Int32) (iI ((q + 1 : Nat) : Int)) = _ := ihT
      have elg : lgA u (vR u 16 hh) (t.getD (2 + q) 0 :: t.drop (2 + q + 1)) = (decide (vR u 8 (t.getD (2 + q) 0).toNat ≤ vR u 16 hh) && lgA u (vR u 16 hh) (t.drop (2 + (q + 1)))) := rfl
      rw [if_neg (by omega), hdr, elg]
      cases b
      · rw [if_pos (show iI (if false = true then 1 else 0) = (0 : Int32) from rfl), Bool.false_and, ihF']
        rfl
      · have qi : inb (iI (q : Int)) 120 := (iI_inb _ 120 (by omega)).mpr (by omega)
        have ec : (iI (q : Int)).toNatClampNeg = q := by rw [iI_clamp _ (by omega)]; omega
        have q2 : inb (iI (t.getD (2 + q) 0)) 16 := (iI_inb _ 16 (by omega)).mpr (by omega)
        have ec2 : (iI (t.getD (2 + q) 0)).toNatClampNeg = (t.getD (2 + q) 0).toNat := iI_clamp _ (by omega)
        have q3 : inb (iI (hh : Int)) 6 := (iI_inb _ 6 (by omega)).mpr (by omega)
        have ec3 : (iI (hh : Int)).toNatClampNeg = hh := by rw [iI_clamp _ (by omega)]; omega
        have v8 := vR_rng u 8 (t.getD (2 + q) 0).toNat
        have v16 := vR_rng u 16 hh
        rw [if_neg (show ¬ iI (if true = true then 1 else 0) = (0 : Int32) by decide), Bool.true_and]
        simp only [if_pos qi, ec, hr q hlt, if_pos q2, ec2, if_pos q3, ec3]
        rw [u2_iI u 8, u2_iI u 16, it_lt _ _ (by omega)]
        by_cases c1 : vR u 8 (t.getD (2 + q) 0).toNat ≤ vR u 16 hh
        · rw [if_neg (by omega), ihT', decide_eq_true c1, Bool.true_and]
        · rw [if_pos (by omega), ihF', decide_eq_false c1, Bool.false_and]
          rfl
end LOT
