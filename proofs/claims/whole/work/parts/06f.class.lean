/-! PARCELS: what they hold, what they come to; what a loan costs -/
def ThO (ad : Nat → Nat) (M : Mem) (xs : List Nat) : Prop := ∀ t, t ∈ xs → ∃ r, M (ad (1000 + t)) = some (.inl (13, .int (iI t) :: r))
theorem dropc {α : Type} (xs : List α) (i : Nat) (h : i < xs.length) : xs.drop i = xs[i] :: xs.drop (i + 1) := List.drop_eq_getElem_cons h
section PC
variable {S : Nat → Nat} {M : Mem} {ad rho : Nat → Nat} {id a c : Nat} {xs : List Nat} {fs : List Value}
theorem z_holds_L (h1 : M a = some (.inl (8, fs))) (hc : fs[1]? = some (.ref c)) (hl : LisR S M rho id c (xs.map (fun t => ad (1000 + t)))) (ht : ThO ad M xs) (hb : ∀ t, t ∈ xs → t < 16) (n : Nat) (t : Int) (htr : -2147483648 ≤ t ∧ t < 2147483648) : ∀ k i : Nat, i ≤ xs.length → xs.length - i < k → f_X5_holds_L2 n M (some a) (iI t) k (iI i) = some (iI (if (xs.drop i).any (fun x => decide ((x : Int) = t)) = true then 1 else 0)) := by
  have hlen := hl.len
  have hs := hl.size
  rw [List.length_map] at hlen hs
  intro k
  induction k with
  | zero => intro i _ h; omega
  | succ k ih =>
    intro i hi hk
    unfold f_X5_holds_L2
    rw [gR_at h1, hc]
    simp only [Option.bind_some]
    rw [hl.is, if_pos rfl, hs, Option.bind_some, it_le _ _ (by omega)]
    by_cases e : xs.length ≤ i
    · rw [if_pos (by omega), List.drop_eq_nil_of_le e]
      rfl
    · have hlt : i < xs.length := by omega
      have hm := List.getElem_mem hlt
      obtain ⟨r, hr⟩ := ht _ hm
      have hb1 := hb _ hm
      rw [if_neg (by omega), if_pos rfl, hl.get (x := ad (1000 + xs[i])) (by omega) (by rw [Int.toNat_natCast, List.getElem?_map, List.getElem?_eq_getElem hlt]; rfl), Option.bind_some, if_pos (Or.inr (isO_at hr)), gI_at hr]
      simp only [List.getElem?_cons_zero, Option.bind_some]
      rw [it_eq _ _ (by omega), dropc xs i hlt, List.any_cons]
      by_cases c1 : ((xs[i] : Nat) : Int) = t
      · rw [if_pos c1]
        simp [c1]
        rfl
      · rw [if_neg c1, show (1 : Int32) = iI 1 from rfl, iI_add]
        have := ih (i + 1) (by omega) (by omega)
        push_cast at this
        rw [this]
        simp [c1]
theorem z_holds (h1 : M a = some (.inl (8, fs))) (hc : fs[1]? = some (.ref c)) (hl : LisR S M rho id c (xs.map (fun t => ad (1000 + t)))) (ht : ThO ad M xs) (hb : ∀ t, t ∈ xs → t < 16) (n : Nat) (hf : 60 ≤ n) (t : Int) (htr : -2147483648 ≤ t ∧ t < 2147483648) : f_X5_holds n M (some a) (iI t) = some (iI (if xs.any (fun x => decide ((x : Int) = t)) = true then 1 else 0)) := by
  have hlen := hl.len
  rw [List.length_map] at hlen
  exact z_holds_L h1 hc hl ht hb n t htr n 0 (by omega) (by omega)
theorem z_worth_L (h1 : M a = some (.inl (8, fs))) (hc : fs[1]? = some (.ref c)) (hl : LisR S M rho id c (xs.map (fun t => ad (1000 + t)))) (ht : ThO ad M xs) (n : Nat) (d : Int32) (v : Nat → Int) (hv : ∀ t, t ∈ xs → f_X10_valueOn n M (some (ad (1000 + t))) d = some (iI (v t))) : ∀ (k i : Nat) (w : Int), i ≤ xs.length → xs.length - i < k → f_X5_worthOn_L4 n M (some a) d k (iI w) (iI i) = some (iI (w + sumN v (xs.drop i))) := by
  have hlen := hl.len
  have hs := hl.size
  rw [List.length_map] at hlen hs
  intro k
  induction k with
  | zero => intro i w _ h; omega
  | succ k ih =>
    intro i w hi hk
    unfold f_X5_worthOn_L4
    rw [gR_at h1, hc]
    simp only [Option.bind_some]
    rw [hl.is, if_pos rfl, hs, Option.bind_some, it_le _ _ (by omega)]
    by_cases e : xs.length ≤ i
    · rw [if_pos (by omega), List.drop_eq_nil_of_le e, sumN, Int.add_zero]
    · have hlt : i < xs.length := by omega
      have hm := List.getElem_mem hlt
      obtain ⟨r, hr⟩ := ht _ hm
      rw [if_neg (by omega), if_pos rfl, hl.get (x := ad (1000 + xs[i])) (by omega) (by rw [Int.toNat_natCast, List.getElem?_map, List.getElem?_eq_getElem hlt]; rfl), Option.bind_some, if_pos (Or.inr (isO_at hr)), if_pos (isO_at hr), hv _ hm, Option.bind_some, iI_add, show (1 : Int32) = iI 1 from rfl, iI_add, dropc xs i hlt, sumN]
      have := ih (i + 1) (w + v xs[i]) (by omega) (by omega)
      push_cast at this
      rw [this, Int.add_assoc]
theorem z_worth (h1 : M a = some (.inl (8, fs))) (hc : fs[1]? = some (.ref c)) (hl : LisR S M rho id c (xs.map (fun t => ad (1000 + t)))) (ht : ThO ad M xs) (n : Nat) (hf : 60 ≤ n) (d : Int32) (v : Nat → Int) (hv : ∀ t, t ∈ xs → f_X10_valueOn n M (some (ad (1000 + t))) d = some (iI (v t))) : f_X5_worthOn n M (some a) d = some (iI (sumN v xs)) := by
  have hlen := hl.len
  rw [List.length_map] at hlen
  have := z_worth_L h1 hc hl ht n d v hv n 0 0 (by omega) (by omega)
  rw [Int.zero_add] at this
  exact this
theorem z_risk_L (h1 : M a = some (.inl (8, fs))) (hc : fs[1]? = some (.ref c)) (hl : LisR S M rho id c (xs.map (fun t => ad (1000 + t)))) (ht : ThO ad M xs) (n : Nat) (d : Int32) (v g : Nat → Int) (hv : ∀ t, t ∈ xs → f_X10_valueOn n M (some (ad (1000 + t))) d = some (iI (v t)) ∧ f_X10_harmsOn n M (some (ad (1000 + t))) d = some (iI (g t))) : ∀ (k i : Nat) (w : Int), i ≤ xs.length → xs.length - i < k → f_X5_riskOn_L4 n M (some a) d k (iI w) (iI i) = some (iI (w + sumN (fun t => v t * (10 + g t)) (xs.drop i))) := by
  have hlen := hl.len
  have hs := hl.size
  rw [List.length_map] at hlen hs
  intro k
  induction k with
  | zero => intro i w _ h; omega
  | succ k ih =>
    intro i w hi hk
    unfold f_X5_riskOn_L4
    rw [gR_at h1, hc]
    simp only [Option.bind_some]
    rw [hl.is, if_pos rfl, hs, Option.bind_some, it_le _ _ (by omega)]
    by_cases e : xs.length ≤ i
    · rw [if_pos (by omega), List.drop_eq_nil_of_le e, sumN, Int.add_zero]
    · have hlt : i < xs.length := by omega
      have hm := List.getElem_mem hlt
      obtain ⟨r, hr⟩ := ht _ hm
      obtain ⟨hv1, hv2⟩ := hv _ hm
      rw [if_neg (by omega), if_pos rfl, hl.get (x := ad (1000 + xs[i])) (by omega) (by rw [Int.toNat_natCast, List.getElem?_map, List.getElem?_eq_getElem hlt]; rfl), Option.bind_some, if_pos (Or.inr (isO_at hr)), if_pos (isO_at hr), hv1, Option.bind_some, if_pos (isO_at hr), hv2, Option.bind_some, show (10 : Int32) = iI 10 from rfl, iI_add, iI_mul, iI_add, show (1 : Int32) = iI 1 from rfl, iI_add, dropc xs i hlt, sumN]
      have := ih (i + 1) (w + v xs[i] * (10 + g xs[i])) (by omega) (by omega)
      push_cast at this
      rw [this, Int.add_assoc]
theorem z_risk (h1 : M a = some (.inl (8, fs))) (hc : fs[1]? = some (.ref c)) (hl : LisR S M rho id c (xs.map (fun t => ad (1000 + t)))) (ht : ThO ad M xs) (n : Nat) (hf : 60 ≤ n) (d : Int32) (v g : Nat → Int) (hv : ∀ t, t ∈ xs → f_X10_valueOn n M (some (ad (1000 + t))) d = some (iI (v t)) ∧ f_X10_harmsOn n M (some (ad (1000 + t))) d = some (iI (g t))) : f_X5_riskOn n M (some a) d = some (iI (sumN (fun t => v t * (10 + g t)) xs)) := by
  have hlen := hl.len
  rw [List.length_map] at hlen
  have := z_risk_L h1 hc hl ht n d v g hv n 0 0 (by omega) (by omega)
  rw [Int.zero_add] at this
  exact this
theorem z_courierOn {x y : Int32} {w q : Value} (h1 : M a = some (.inl (8, [w, q, .int x, .int y]))) (s : Int) (hs : s = 0 ∨ s = 1) : f_X5_courierOn M (some a) (iI s) = some (if s = 0 then x else y) := by
  unfold f_X5_courierOn
  rw [iI_zero, it_eq _ _ (by omega), gI_at h1, gI_at h1]
  simp only [List.getElem?_cons_zero, List.getElem?_cons_succ, Option.bind_some]
  split <;> rfl
theorem z_danger {x y : Int32} {w q : Value} (h1 : M a = some (.inl (8, [w, q, .int x, .int y]))) (s : Int) (hs : 1 ≤ s ∧ s ≤ 3) : f_X4_dangerOf M (some a) (iI s) = some (iI (if s = 2 then 1 else if (if s = 1 then x else y).toInt = -1 then 3 else 2)) := by
  have e0 := z_courierOn h1 0 (by omega)
  have e1 := z_courierOn h1 1 (by omega)
  rw [if_pos rfl] at e0
  rw [if_neg (by omega)] at e1
  unfold f_X4_dangerOf
  rw [isO_at h1, if_pos rfl, if_pos rfl, show (2 : Int32) = iI 2 from rfl, it_eq _ _ (by omega), show (1 : Int32) = iI 1 from rfl, it_eq _ _ (by omega), iI_zero, e0, e1]
  simp only [Option.bind_some]
  rw [iI_neg, ix_eq _ _ (by omega), ix_eq _ _ (by omega)]
  by_cases c1 : s = 2
  · rw [if_pos c1, if_pos c1]
  · rw [if_neg c1, if_neg c1]
    by_cases c2 : s = 1
    · simp only [if_pos c2]
      split <;> rfl
    · simp only [if_neg c2]
      split <;> rfl
end PC
section LP
variable {S : Nat → Nat} {M : Mem} {ad rho : Nat → Nat} {id a c q : Nat} {fs : List Value}
theorem z_parcelAt (h1 : M a = some (.inl (7, fs))) (hq : fs[2]? = some (.ref q)) {b : Nat} {P : Int} (hl : LisR S M rho id q (seqA ad b P)) (ho : ∀ p, p < P.toNat → isO M (some (ad (b + p))) 8 = true) (t : Int) (ht : -2147483648 ≤ t ∧ t < 2147483648) : f_X4_parcelAt M (some a) (iI t) = some (if 0 ≤ t ∧ t ≤ P - 1 then some (ad (b + t.toNat)) else none) := by
  have := z_at hl (ci := 8) (fun x hx => by
    simp only [seqA, List.mem_map, List.mem_range] at hx
    obtain ⟨i, hi, rfl⟩ := hx
    exact ho i hi) t ht
  unfold f_X4_parcelAt
  rw [gR_at h1, hq]
  simp only [Option.bind_some]
  rw [this]
  by_cases c : 0 ≤ t ∧ t ≤ P - 1
  · rw [if_pos c, if_pos c.1, seqA_get _ _ _ _ (by omega)]
  · rw [if_neg c]
    by_cases c1 : 0 ≤ t
    · rw [if_pos c1, List.getElem?_eq_none (by rw [seqA_len]; omega)]
    · rw [if_neg c1]
theorem z_parcelWith_L (h1 : M a = some (.inl (7, fs))) (hq : fs[2]? = some (.ref q)) {b : Nat} {P : Int} (hP : 0 ≤ P) (hl : LisR S M rho id q (seqA ad b P)) (n : Nat) (t : Int32) (g : Int → Bool) (ho : ∀ p : Nat, p < P.toNat → isO M (some (ad (b + p))) 8 = true ∧ f_X5_holds n M (some (ad (b + p))) t = some (iI (if g p = true then 1 else 0))) : ∀ (k : Nat) (i : Int), 0 ≤ i → i ≤ P → (P - i).toNat < k → f_X4_parcelWith_L2 n M (some a) t k (iI i) = some (iI (fstI g (P - i).toNat i)) := by
  have hlen := hl.len
  have hs := hl.size
  rw [seqA_len] at hlen hs
  intro k
  induction k with
  | zero => intro i _ _ h; omega
  | succ k ih =>
    intro i h0 hi hk
    unfold f_X4_parcelWith_L2
    rw [gR_at h1, hq]
    simp only [Option.bind_some]
    rw [hl.is, if_pos rfl, hs, Option.bind_some, it_le _ _ (by omega)]
    by_cases e : P ≤ i
    · rw [if_pos (by omega), show (P - i).toNat = 0 by omega]
      rfl
    · obtain ⟨g1, g2⟩ := ho i.toNat (by omega)
      rw [show ((i.toNat : Nat) : Int) = i by omega] at g2
      rw [if_neg (by omega), if_pos rfl, hl.get h0 (seqA_get _ _ _ _ (by omega)), Option.bind_some, if_pos (Or.inr g1), if_pos g1, g2, Option.bind_some, iI_zero, ib_z, show (P - i).toNat = (P - (i + 1)).toNat + 1 by omega, fstI]
      by_cases c1 : g i = true
      · rw [if_neg (by simp [c1]), if_pos c1]
      · rw [if_pos c1, if_neg c1, show (1 : Int32) = iI 1 from rfl, iI_add]
        exact ih (i + 1) (by omega) (by omega) (by omega)
theorem z_parcelWith (h1 : M a = some (.inl (7, fs))) (hq : fs[2]? = some (.ref q)) {b : Nat} {P : Int} (hP : 0 ≤ P) (hl : LisR S M rho id q (seqA ad b P)) (n : Nat) (hf : 60 ≤ n) (t : Int32) (g : Int → Bool) (ho : ∀ p : Nat, p < P.toNat → isO M (some (ad (b + p))) 8 = true ∧ f_X5_holds n M (some (ad (b + p))) t = some (iI (if g p = true then 1 else 0))) : f_X4_parcelWith n M (some a) t = some (iI (fstI g P.toNat 0)) := by
  have hlen := hl.len
  rw [seqA_len] at hlen
  have := z_parcelWith_L h1 hq hP hl n t g ho n 0 (by omega) (by omega) (by omega)
  rw [Int.sub_zero] at this
  exact this
theorem z_cost_L (h1 : M a = some (.inl (7, fs))) (hq : fs[2]? = some (.ref q)) {b : Nat} {P : Int} (hP : 0 ≤ P) (hl : LisR S M rho id q (seqA ad b P)) {h : Nat} {hs : List Value} (hb : fs[0]? = some (.ref h)) (hh : M h = some (.inl (6, hs))) {rt : Int} (hr : hs[3]? = some (.int (iI rt))) (n : Nat) (d st : Int32) (g w : Int → Int) (ho : ∀ p : Nat, p < P.toNat → isO M (some (ad (b + p))) 8 = true ∧ f_X5_riskOn n M (some (ad (b + p))) d = some (iI (g p)) ∧ f_X4_dangerOf M (some (ad (b + p))) st = some (iI (w p))) : ∀ (k : Nat) (x i : Int), 0 ≤ i → i ≤ P → (P - i).toNat < k → f_X4_costOn_L17 n M (some a) d st k (iI x) (iI i) = some (iI ((x + sumI (fun p => g p * w p) (P - i).toNat i) * rt)) := by
  have hlen := hl.len
  have hsz := hl.size
  rw [seqA_len] at hlen hsz
  intro k
  induction k with
  | zero => intro x i _ _ h; omega
  | succ k ih =>
    intro x i h0 hi hk
    unfold f_X4_costOn_L17
    rw [gR_at h1, hq]
    simp only [Option.bind_some]
    rw [hl.is, if_pos rfl, hsz, Option.bind_some, it_le _ _ (by omega)]
    by_cases e : P ≤ i
    · rw [if_pos (by omega), show (P - i).toNat = 0 by omega, gR_at h1, hb]
      simp only [Option.bind_some]
      rw [gI_at hh, hr]
      simp only [Option.bind_some]
      rw [iI_mul, sumI, Int.add_zero]
    · obtain ⟨g1, g2, g3⟩ := ho i.toNat (by omega)
      rw [show ((i.toNat : Nat) : Int) = i by omega] at g2 g3
      rw [if_neg (by omega), if_pos rfl, hl.get h0 (seqA_get _ _ _ _ (by omega)), Option.bind_some, if_pos (Or.inr g1), if_pos g1, g2, Option.bind_some, g3, Option.bind_some, iI_mul, iI_add, show (1 : Int32) = iI 1 from rfl, iI_add, show (P - i).toNat = (P - (i + 1)).toNat + 1 by omega, sumI, ih (x + g i * w i) (i + 1) (by omega) (by omega) (by omega), Int.add_assoc]
end LP
