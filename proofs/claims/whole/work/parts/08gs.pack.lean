/-! LOAN: sets of things as bits (rows on bits begun from the kit's), the heaviest first -/
def bt (x : Int32) (i : Nat) : Bool := x.toBitVec.getLsbD i
theorem b_ext {x y : Int32} (h : ∀ i, i < 32 → bt x i = bt y i) : x = y := Int32.toBitVec_inj.mp (BitVec.eq_of_getLsbD_eq (fun i hi => h i hi))
theorem b_or (x y : Int32) (i : Nat) : bt (x ||| y) i = (bt x i || bt y i) := by unfold bt; rw [Int32.toBitVec_or, BitVec.getLsbD_or]
theorem b_and (x y : Int32) (i : Nat) : bt (x &&& y) i = (bt x i && bt y i) := by unfold bt; rw [Int32.toBitVec_and, BitVec.getLsbD_and]
theorem b_xor (x y : Int32) (i : Nat) : bt (x ^^^ y) i = (bt x i ^^ bt y i) := by unfold bt; rw [Int32.toBitVec_xor, BitVec.getLsbD_xor]
theorem b_m1 : ∀ i, i < 32 → bt (-1) i = true := by decide +kernel
theorem b_one : ∀ i, i < 32 → bt 1 i = decide (i = 0) := by decide +kernel
theorem b_nul (i : Nat) : bt 0 i = false := BitVec.getLsbD_zero
theorem s_il : ∀ n : Nat, n < 32 → ((iI (n : Int) &&& 31).toBitVec.smod 32).toNat = n := by decide +kernel
theorem b_shl (n : Nat) (hn : n < 32) (x : Int32) {i : Nat} (hi : i < 32) : bt (x <<< (iI (n : Int) &&& 31)) i = (decide (n ≤ i) && bt x (i - n)) := by
  unfold bt
  rw [Int32.toBitVec_shiftLeft]
  show (x.toBitVec <<< ((iI (n : Int) &&& 31).toBitVec.smod 32).toNat).getLsbD i = _
  rw [s_il n hn, BitVec.getLsbD_shiftLeft]
  rcases Nat.lt_or_ge i n with h | h
  · simp [h, Nat.not_le.mpr h]
  · simp [hi, h, Nat.not_lt.mpr h]
theorem b_sshr (n : Nat) (hn : n < 32) (x : Int32) {i : Nat} (hi : i < 32) : bt (x >>> (iI (n : Int) &&& 31)) i = if n + i < 32 then bt x (n + i) else bt x 31 := by
  unfold bt
  rw [Int32.toBitVec_shiftRight]
  show (x.toBitVec.sshiftRight ((iI (n : Int) &&& 31).toBitVec.smod 32).toNat).getLsbD i = _
  rw [s_il n hn, BitVec.getLsbD_sshiftRight, BitVec.msb_eq_getLsbD_last]
  simp [hi]
theorem bit_iff (x : Int32) (i : Nat) (hi : i < 32) : ((x >>> (iI (i : Int) &&& 31)) &&& (1 : Int32)) = (1 : Int32) ↔ bt x i = true := by
  have h0 : bt (x >>> (iI (i : Int) &&& 31)) 0 = bt x i := by
    rw [b_sshr i hi x (by omega), if_pos (by omega)]
    rfl
  constructor
  · intro h
    have := congrArg (fun y => bt y 0) h
    simp only [b_and, b_one 0 (by omega), h0] at this
    simpa using this
  · intro h
    refine b_ext (fun j hj => ?_)
    rw [b_and, b_one j hj]
    by_cases c : j = 0
    · subst c
      rw [h0, h]
      rfl
    · rw [decide_eq_false c, Bool.and_false]
theorem bit_k (k : Nat) (hk : k < 32) (i : Nat) (hi : i < 32) : bt ((1 : Int32) <<< (iI (k : Int) &&& 31)) i = decide (i = k) := by
  rw [b_shl k hk _ hi, b_one _ (by omega)]
  by_cases c : i = k
  · subst c
    simp
  · by_cases d : k ≤ i
    · rw [decide_eq_true d, decide_eq_false c, decide_eq_false (by omega)]
      rfl
    · rw [decide_eq_false d, decide_eq_false c]
      rfl
theorem bit_set (x : Int32) (k : Nat) (hk : k < 32) (i : Nat) (hi : i < 32) : bt (x ||| ((1 : Int32) <<< (iI (k : Int) &&& 31))) i = (bt x i || decide (i = k)) := by
  rw [b_or, bit_k k hk i hi]
theorem bit_clr (x : Int32) (k : Nat) (hk : k < 32) (i : Nat) (hi : i < 32) : bt (x &&& (((1 : Int32) <<< (iI (k : Int) &&& 31)) ^^^ (-1 : Int32))) i = (bt x i && !decide (i = k)) := by
  rw [b_and, b_xor, bit_k k hk i hi, b_m1 i hi]
  cases decide (i = k) <;> rfl
def HasB (x : Int32) (l : List Nat) : Prop := ∀ i, i < 32 → bt x i = decide (i ∈ l)
theorem HasB.zero {x : Int32} {l : List Nat} (h : HasB x l) (hl : ∀ a, a ∈ l → a < 32) : x = 0 ↔ l = [] := by
  constructor
  · intro e
    cases l with
    | nil => rfl
    | cons a l =>
      have := h a (hl a (by simp))
      rw [e, b_nul] at this
      simp at this
  · intro e
    refine b_ext (fun i hi => ?_)
    rw [h i hi, e, b_nul]
    simp
theorem HasB.clr {x : Int32} {l : List Nat} {m : Nat} (h : HasB x (m :: l)) (hm : m < 32) (hn : m ∉ l) : HasB (x &&& (((1 : Int32) <<< (iI (m : Int) &&& 31)) ^^^ (-1 : Int32))) l := fun i hi => by
  rw [bit_clr x m hm i hi, h i hi]
  by_cases c : i = m
  · subst c
    simp [hn]
  · simp [c]
theorem bitsF_has (l : List Int) (hl : ∀ x, x ∈ l → 0 ≤ x ∧ x < 16) : ∀ (b : Int32) (i : Nat), i < 32 → bt (bitsF b l) i = (bt b i || decide (i ∈ l.map Int.toNat)) := by
  induction l with
  | nil =>
    intro b i hi
    simp [bitsF]
  | cons y l ih =>
    intro b i hi
    have hy := hl y (by simp)
    have e : iI y = iI ((y.toNat : Nat) : Int) := by
      congr 1
      omega
    rw [bitsF, ih (fun x hx => hl x (by simp [hx])) _ i hi, e, bit_set b y.toNat (by omega) i hi, Bool.or_assoc]
    congr 1
    by_cases c : i = y.toNat <;> simp [c]
/-- the order of packing -/
def Bst (hv : Nat → Int) (a b : Nat) : Prop := hv b < hv a ∨ (hv a = hv b ∧ a < b)
def insW (hv : Nat → Int) (x : Nat) : List Nat → List Nat
  | [] => [x]
  | a :: l => if hv a < hv x then x :: a :: l else a :: insW hv x l
def ordW (hv : Nat → Int) : List Nat → List Nat → List Nat
  | acc, [] => acc
  | acc, x :: l => ordW hv (insW hv x acc) l
theorem insW_perm (hv : Nat → Int) (x : Nat) (l : List Nat) : (insW hv x l).Perm (x :: l) := by
  induction l with
  | nil => exact List.Perm.refl _
  | cons a l ih =>
    unfold insW
    split
    · exact List.Perm.refl _
    · exact (ih.cons a).trans (List.Perm.swap x a l)
theorem insW_pair (hv : Nat → Int) (x : Nat) (l : List Nat) (hp : l.Pairwise (Bst hv)) (hx : ∀ a, a ∈ l → a < x) : (insW hv x l).Pairwise (Bst hv) := by
  induction l with
  | nil => exact List.pairwise_singleton _ _
  | cons a l ih =>
    have hp2 := List.pairwise_cons.mp hp
    unfold insW
    split
    · rename_i c
      refine List.pairwise_cons.mpr ⟨fun b hb => ?_, hp⟩
      rcases List.mem_cons.mp hb with e | e
      · rw [e]
        exact Or.inl c
      · have := hp2.1 b e
        unfold Bst at this ⊢
        omega
    · rename_i c
      refine List.pairwise_cons.mpr ⟨fun b hb => ?_, ih hp2.2 (fun b hb => hx b (by simp [hb]))⟩
      rcases List.mem_cons.mp ((insW_perm hv x l).mem_iff.mp hb) with e | e
      · rw [e]
        have := hx a (by simp)
        unfold Bst
        omega
      · exact hp2.1 b e
theorem ordW_perm (hv : Nat → Int) : ∀ (l acc : List Nat), (ordW hv acc l).Perm (acc ++ l) := by
  intro l
  induction l with
  | nil =>
    intro acc
    rw [ordW, List.append_nil]
  | cons x l ih =>
    intro acc
    rw [ordW]
    refine (ih _).trans (((insW_perm hv x acc).append_right l).trans ?_)
    exact (List.perm_middle).symm
theorem ordW_pair (hv : Nat → Int) : ∀ (l acc : List Nat), acc.Pairwise (Bst hv) → l.Pairwise (fun a b => a < b) → (∀ a, a ∈ acc → ∀ b, b ∈ l → a < b) → (ordW hv acc l).Pairwise (Bst hv) := by
  intro l
  induction l with
  | nil => exact fun acc h _ _ => h
  | cons x l ih =>
    intro acc h hl hb
    have hl2 := List.pairwise_cons.mp hl
    rw [ordW]
    refine ih _ (insW_pair hv x acc h (fun a ha => hb a ha x (by simp))) hl2.2 (fun a ha b hb2 => ?_)
    rcases List.mem_cons.mp ((insW_perm hv x acc).mem_iff.mp ha) with e | e
    · rw [e]
      exact hl2.1 b hb2
    · exact hb a e b (by simp [hb2])
/-- where it goes among the heavier ones -/
def posW (hv : Nat → Int) (x : Nat) : List Nat → Nat
  | [] => 0
  | a :: l => if hv a < hv x then 0 else posW hv x l + 1
theorem posW_le (hv : Nat → Int) (x : Nat) (l : List Nat) : posW hv x l ≤ l.length := by
  induction l with
  | nil => exact Nat.le_refl _
  | cons a l ih =>
    unfold posW
    split
    · exact Nat.zero_le _
    · rw [List.length_cons]
      omega
theorem insW_pos (hv : Nat → Int) (x : Nat) (l : List Nat) : insW hv x l = l.take (posW hv x l) ++ x :: l.drop (posW hv x l) := by
  induction l with
  | nil => rfl
  | cons a l ih =>
    unfold insW posW
    split
    · rfl
    · rw [ih]
      rfl
theorem posW_lt (hv : Nat → Int) (x : Nat) : ∀ (l : List Nat) (k a : Nat), k < posW hv x l → l[k]? = some a → hv x ≤ hv a := by
  intro l
  induction l with
  | nil => intro k a h; simp [posW] at h
  | cons b l ih =>
    intro k a h hk
    unfold posW at h
    by_cases c : hv b < hv x
    · rw [if_pos c] at h
      omega
    · rw [if_neg c] at h
      cases k with
      | zero =>
        have e : b = a := by simpa using hk
        rw [← e]
        omega
      | succ k => exact ih k a (by omega) (by simpa using hk)
theorem posW_at (hv : Nat → Int) (x : Nat) : ∀ (l : List Nat) (a : Nat), l[posW hv x l]? = some a → hv a < hv x := by
  intro l
  induction l with
  | nil => intro a h; simp [posW] at h
  | cons b l ih =>
    intro a h
    unfold posW at h
    by_cases c : hv b < hv x
    · rw [if_pos c] at h
      have e : b = a := by simpa using h
      rw [← e]
      exact c
    · rw [if_neg c] at h
      exact ih a (by simpa using h)
section PKR
variable {u : MS}
/-- the heaviest of those left -/
theorem t_l49 {x : Int32} {m : Nat} {rest : List Nat} (n5 : 0 ≤ vN u 5 ∧ vN u 5 ≤ 16) (hb : HasB x (m :: rest)) (hp : (m :: rest).Pairwise (Bst (fun t => vR u 8 t))) (hl : ∀ a, a ∈ m :: rest → a < (vN u 5).toNat) (n : Nat) (y1 : Int32) : ∀ (k i : Nat) (cur : Int), i ≤ (vN u 5).toNat → (vN u 5).toNat - i < k → ((cur = -1 ∧ ∀ a, a ∈ m :: rest → i ≤ a) ∨ ∃ b, b ∈ m :: rest ∧ cur = (b : Int) ∧ b < i ∧ ∀ a, a ∈ m :: rest → a < i → a = b ∨ Bst (fun t => vR u 8 t) b a) → f_X12_pack_L49 n u y1 x k (iI cur) (iI i) = some (iI m) := by
  intro k
  induction k with
  | zero => intro i cur _ h; omega
  | succ k ih =>
    intro i cur hi hk hc
    unfold f_X12_pack_L49
    rw [u1_iI u 5, it_le _ _ (by omega), iI_s]
    by_cases e : i = (vN u 5).toNat
    · rw [if_pos (by omega)]
      rcases hc with ⟨-, h⟩ | ⟨b, h1, h2, h3, h4⟩
      · have := h m (by simp)
        have := hl m (by simp)
        omega
      · have hbm : b = m := by
          rcases List.mem_cons.mp h1 with q | q
          · exact q
          · have q1 := (List.pairwise_cons.mp hp).1 b q
            have q2 := h4 m (by simp) (by have := hl m (by simp); omega)
            rcases q2 with q2 | q2
            · exact q2.symm
            · simp only [Bst] at q1 q2
              omega
        rw [h2, hbm]
    · have hi16 : i < 16 := by omega
      have hbi := bit_iff x i (by omega)
      have hin := hb i (by omega)
      rw [if_neg (by omega)]
      by_cases cin : i ∈ m :: rest
      · rw [decide_eq_true cin] at hin
        rw [if_pos (hbi.mpr hin)]
        rcases hc with ⟨h0, h⟩ | ⟨b, h1, h2, h3, h4⟩
        · rw [h0, if_pos (show iI (-1) < (0 : Int32) by decide)]
          exact ih (i + 1) i (by omega) (by omega) (Or.inr ⟨i, cin, rfl, by omega, fun a ha hai => by
            have := h a ha
            exact Or.inl (by omega)⟩)
        · have q1 : inb (iI (i : Int)) 16 := (iI_inb _ 16 (by omega)).mpr (by omega)
          have e1 : (iI (i : Int)).toNatClampNeg = i := by rw [iI_clamp _ (by omega)]; omega
          have q2 : inb (iI cur) 16 := (iI_inb _ 16 (by omega)).mpr (by omega)
          have e2 : (iI cur).toNatClampNeg = b := by rw [iI_clamp _ (by omega)]; omega
          have v1 := vR_rng u 8 i
          have v2 := vR_rng u 8 b
          rw [if_neg (show ¬ iI cur < (0 : Int32) by rw [iI_zero, iI_lt _ _ (by omega)]; omega)]
          simp only [if_pos q1, if_pos q2, e1, e2]
          rw [u2_iI, u2_iI, it_le _ _ (by omega)]
          by_cases c3 : vR u 8 i ≤ vR u 8 b
          · rw [if_pos c3]
            refine ih (i + 1) cur (by omega) (by omega) (Or.inr ⟨b, h1, h2, by omega, fun a ha hai => ?_⟩)
            by_cases ea : a = i
            · right
              rw [ea]
              simp only [Bst]
              omega
            · exact h4 a ha (by omega)
          · rw [if_neg c3]
            refine ih (i + 1) i (by omega) (by omega) (Or.inr ⟨i, cin, rfl, by omega, fun a ha hai => ?_⟩)
            by_cases ea : a = i
            · exact Or.inl ea
            · right
              rcases h4 a ha (by omega) with q | q
              · rw [q]
                simp only [Bst]
                omega
              · simp only [Bst] at q ⊢
                omega
      · rw [decide_eq_false cin] at hin
        rw [if_neg (fun q => by
          have := hbi.mp q
          rw [hin] at this
          cases this)]
        refine ih (i + 1) cur (by omega) (by omega) ?_
        rcases hc with ⟨h0, h⟩ | ⟨b, h1, h2, h3, h4⟩
        · refine Or.inl ⟨h0, fun a ha => ?_⟩
          have := h a ha
          have : a ≠ i := fun e => cin (by rw [← e]; exact ha)
          omega
        · refine Or.inr ⟨b, h1, h2, by omega, fun a ha hai => h4 a ha ?_⟩
          have : a ≠ i := fun e => cin (by rw [← e]; exact ha)
          omega
/-- the first parcel into which a thing goes, or one more -/
def fpS (u : MS) (l t : Int) : Nat → Nat → Nat
  | 0, p => p
  | c + 1, p => if fitS u l t p = true then p else fpS u l t c (p + 1)
theorem fpS_rng (u : MS) (l t : Int) : ∀ (c p : Nat), p ≤ fpS u l t c p ∧ fpS u l t c p ≤ p + c ∧ (fpS u l t c p < p + c → fitS u l t (fpS u l t c p) = true) ∧ ∀ q, p ≤ q → q < fpS u l t c p → fitS u l t q = false := by
  intro c
  induction c with
  | zero =>
    intro p
    unfold fpS
    exact ⟨Nat.le_refl _, Nat.le_refl _, fun h => by omega, fun q h1 h2 => by omega⟩
  | succ c ih =>
    intro p
    unfold fpS
    by_cases e : fitS u l t p = true
    · rw [if_pos e]
      exact ⟨Nat.le_refl _, by omega, fun _ => e, fun q h1 h2 => by omega⟩
    · rw [if_neg e]
      obtain ⟨h1, h2, h3, h4⟩ := ih (p + 1)
      refine ⟨by omega, by omega, fun h => h3 (by omega), fun q q1 q2 => ?_⟩
      by_cases eq : q = p
      · rw [eq]
        simpa using e
      · exact h4 q (by omega) q2
theorem t_l108 {l : Nat} (hl : l < 17) {t : Nat} (ht : t < 16) (n5 : 0 ≤ vN u 5 ∧ vN u 5 ≤ 16) (hh : HouOK u l) (hP : 0 ≤ vR u 29 l ∧ vR u 29 l ≤ 16) (hw : ∀ p : Nat, 0 ≤ weighS u l p ∧ weighS u l p ≤ 100000) (hw2 : 0 ≤ vR u 8 t ∧ vR u 8 t ≤ 100000) (n : Nat) (hn : 60 ≤ n) (y2 : Int32) : ∀ (k p : Nat), p ≤ (vR u 29 l).toNat → (vR u 29 l).toNat - p < k → f_X12_pack_L108 n u (iI l) y2 (iI t) k (iI p) = some (iI (fpS u l t ((vR u 29 l).toNat - p) p)) := by
  intro k
  induction k with
  | zero => intro p _ h; omega
  | succ k ih =>
    intro p hp hk
    have ql : inb (iI (l : Int)) 17 := (iI_inb _ 17 (by omega)).mpr (by omega)
    have el : (iI (l : Int)).toNatClampNeg = l := by rw [iI_clamp _ (by omega)]; omega
    unfold f_X12_pack_L108
    simp only [if_pos ql, el]
    rw [u2_iI, it_le _ _ (by omega)]
    by_cases e : p = (vR u 29 l).toNat
    · rw [if_pos (by omega), show (vR u 29 l).toNat - p = 0 by omega, fpS]
    · have hg := t_goesInto n u l t p (by omega) (by omega) (by omega) n5 hn hh (hw p) (by rw [Int.toNat_natCast]; exact hw2)
      rw [if_neg (by omega), hg, Option.bind_some, show (vR u 29 l).toNat - p = ((vR u 29 l).toNat - (p + 1)) + 1 by omega, fpS, iI_s]
      by_cases c : fitS u l t p = true
      · rw [if_pos c, if_pos c, if_neg (show ¬ iI 1 = (0 : Int32) by decide)]
      · rw [if_neg c, if_neg c, if_pos (show iI 0 = (0 : Int32) from rfl)]
        exact ih (p + 1) (by omega) (by omega)
end PKR
