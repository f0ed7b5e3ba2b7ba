/-! LOAN: the draft: whether a thing fits into a parcel, how it goes in -/
def fitL (u : MS) (lim : Int) (xs : List Nat) (m : Nat) : Bool := decide (sumN (fun t => vR u 8 t) xs + vR u 8 m ≤ lim) && xs.all (fun x => togS u m x)
/-- what is known of the things in a memory -/
def ThK (ad : Nat → Nat) (M : Mem) (u : MS) (T : Nat) : Prop := ∀ i, i < T → ∃ (v3 v4 v5 v6 v8 : Value), M (ad (1000 + i)) = some (.inl (13, [.int (iI i), .int (u.2 6 i), .int (u.2 8 i), v3, v4, v5, v6, .int (u.2 9 i), v8]))
section PAC
variable {B : Nat} {S : Nat → Nat} {M : Mem} {u : MS} {ad rh : Nat → Nat} {a c m T zz : Nat} {xs : List Nat} {fs : List Value}
theorem z_fits_L {id : Nat} (h1 : M a = some (.inl (8, fs))) (hc : fs[1]? = some (.ref c)) (hl : LisR S M rh id c (xs.map (fun t => ad (1000 + t)))) (hT : ThK ad M u T) (hxs : ∀ x, x ∈ xs → x < T) (hm : m < T) (n : Nat) : ∀ (k i : Nat), i ≤ xs.length → xs.length - i < k → f_X5_fits_L17 n M (some a) (some (ad (1000 + m))) k (iI i) = some (iI (if (xs.drop i).all (fun x => togS u m x) = true then 1 else 0)) := by
  have hlen := hl.len
  have hs := hl.size
  rw [List.length_map] at hlen hs
  intro k
  induction k with
  | zero => intro i _ h; omega
  | succ k ih =>
    intro i hi hk
    unfold f_X5_fits_L17
    rw [gR_at h1, hc]
    simp only [Option.bind_some]
    rw [hl.is, if_pos rfl, hs, Option.bind_some, it_le _ _ (by omega)]
    by_cases e : xs.length ≤ i
    · rw [if_pos (by omega), List.drop_eq_nil_of_le e]
      rfl
    · have hlt : i < xs.length := by omega
      have hmm := List.getElem_mem hlt
      obtain ⟨v3, v4, v5, v6, v8, q1⟩ := hT _ (hxs _ hmm)
      obtain ⟨w3, w4, w5, w6, w8, q2⟩ := hT _ hm
      have g1 : gI M (some (ad (1000 + m))) 13 1 = some (u.2 6 m) := gI_at q2
      have g2 : gI M (some (ad (1000 + xs[i]))) 13 1 = some (u.2 6 xs[i]) := gI_at q1
      rw [if_neg (by omega), if_pos rfl, hl.get (x := ad (1000 + xs[i])) (by omega) (by rw [Int.toNat_natCast, List.getElem?_map, List.getElem?_eq_getElem hlt]; rfl), Option.bind_some, if_pos (Or.inr (isO_at q1)), g1, Option.bind_some, if_pos (isO_at q1), z_bars q1 rfl, Option.bind_some, dropc xs i hlt, List.all_cons]
      have et : togS u (m : Int) ((xs[i] : Nat) : Int) = (decide (((u.2 9 m >>> (u.2 6 xs[i] &&& 31)) &&& (1 : Int32)) = 0) && decide (((u.2 9 xs[i] >>> (u.2 6 m &&& 31)) &&& (1 : Int32)) = 0)) := by
        unfold togS
        rw [Int.toNat_natCast, Int.toNat_natCast]
      rw [et]
      by_cases c1 : ((u.2 9 xs[i] >>> (u.2 6 m &&& 31)) &&& (1 : Int32)) = 0
      · rw [if_pos c1, if_pos rfl, g2, Option.bind_some, if_pos (isO_at q2), z_bars q2 rfl, Option.bind_some, decide_eq_true c1, Bool.and_true]
        by_cases c2 : ((u.2 9 m >>> (u.2 6 xs[i] &&& 31)) &&& (1 : Int32)) = 0
        · rw [if_pos c2, if_pos rfl, decide_eq_true c2, Bool.true_and, iI_s]
          exact ih (i + 1) (by omega) (by omega)
        · rw [if_neg c2, if_neg (by decide), decide_eq_false c2, Bool.false_and]
          rfl
      · rw [if_neg c1, if_neg (by decide), decide_eq_false c1, Bool.and_false, Bool.false_and]
        rfl
theorem z_fits {id : Nat} {W : Int} (h1 : M a = some (.inl (8, fs))) (hc : fs[1]? = some (.ref c)) (hw : fs[0]? = some (.int (iI W))) (hW : W = sumN (fun t => vR u 8 t) xs) (hr : 0 ≤ W ∧ W ≤ 100000) (hr2 : 0 ≤ vR u 8 m ∧ vR u 8 m ≤ 100000) (hl : LisR S M rh id c (xs.map (fun t => ad (1000 + t)))) (hT : ThK ad M u T) (hxs : ∀ x, x ∈ xs → x < T) (hm : m < T) (n : Nat) (hn : 60 ≤ n) (lim : Int) (hlim : -2147483648 ≤ lim ∧ lim < 2147483648) : f_X5_fits n M (some a) (some (ad (1000 + m))) (iI lim) = some (iI (if fitL u lim xs m = true then 1 else 0)) := by
  obtain ⟨w3, w4, w5, w6, w8, q2⟩ := hT _ hm
  have g1 : gI M (some a) 8 0 = some (iI W) := by rw [gI_at h1, hw]
  have g2 : gI M (some (ad (1000 + m))) 13 2 = some (u.2 8 m) := gI_at q2
  have hlen := hl.len
  rw [List.length_map] at hlen
  have hq := z_fits_L h1 hc hl hT hxs hm n n 0 (Nat.zero_le _) (by omega)
  rw [List.drop_zero] at hq
  have hq' : f_X5_fits_L17 n M (some a) (some (ad (1000 + m))) n (0 : Int32) = _ := hq
  unfold f_X5_fits fitL
  rw [g1, Option.bind_some, g2, Option.bind_some, u2_iI, iI_add, it_le _ _ (by omega), hq', ← hW]
  by_cases c1 : W + vR u 8 m ≤ lim
  · rw [if_pos c1, decide_eq_true c1, Bool.true_and]
  · rw [if_neg c1, decide_eq_false c1, Bool.false_and]
    rfl
theorem z_put {id1 id2 : Nat} {W : Int} {x y : Value} (hp : At M rh id1 a (.inl (8, [.int (iI W), .ref c, x, y]))) (hl : LisR S M rh id2 c (xs.map (fun t => ad (1000 + t)))) (hid : id1 ≠ id2) (hS : EmpOK S M) (hS2 : S 20 < B) (hBz : B ≤ zz) (hBa : B ≤ a ∧ a < zz) (hw : ∀ y, rh y = id2 → B ≤ y ∧ y < zz) (hn : xs.length < 49) (hT : ThK ad M u T) (hTo : ∀ i, i < T → ad (1000 + i) < zz ∧ rh (ad (1000 + i)) ≠ id1 ∧ rh (ad (1000 + i)) ≠ id2) (hxs : ∀ x, x ∈ xs → x < T) (hm : m < T) : ∃ (M1 : Mem) (zz1 : Nat), f_X5_put B S M zz (some a) (some (ad (1000 + m))) = some (M1, zz1) ∧ (zz1 = zz ∨ zz1 = zz + 1) ∧ (∀ y, rh y ≠ id1 → rh y ≠ id2 → y < zz → M1 y = M y) ∧ ∀ rh1 : Nat → Nat, (∀ y, rh y = id1 → rh1 y = id1) → (∀ y, rh y = id2 → rh1 y = id2) → (zz < zz1 → rh1 zz = id2) → At M1 rh1 id1 a (.inl (8, [.int (iI (W + vR u 8 m)), .ref c, x, y])) ∧ LisR S M1 rh1 id2 c ((xs ++ [m]).map (fun t => ad (1000 + t))) := by
  have hE : ∀ i, i < T → isE M (some (ad (1000 + i))) = true ∧ ad (1000 + i) ≠ c ∧ ad (1000 + i) < zz := fun i hi => by
    obtain ⟨v3, v4, v5, v6, v8, q1⟩ := hT i hi
    refine ⟨isE_at q1 (by omega), fun q => ?_, (hTo i hi).1⟩
    have := (hTo i hi).2.2
    rw [q] at this
    exact this hl.own
  obtain ⟨M1, zz1, e1, e2, e3, e4⟩ := hl.add (B := B) (sz := zz) (x := ad (1000 + m)) hS hS2 hBz hw (by rw [List.length_map]; exact hn) (fun y hy => by
    obtain ⟨i, hi, rfl⟩ := List.mem_map.mp hy
    exact hE i (hxs i hi)) (hE m hm)
  have ha1 : M1 a = some (.inl (8, [.int (iI W), .ref c, x, y])) := by
    rw [e3 a (by rw [hp.2]; exact hid) hBa.2]
    exact hp.1
  obtain ⟨w3, w4, w5, w6, w8, q2⟩ := hT _ hm
  have hm1 : M1 (ad (1000 + m)) = M (ad (1000 + m)) := e3 _ (hTo m hm).2.2 (hTo m hm).1
  obtain ⟨M6, e6, t6, f6⟩ := pF_ob hBa.1 ha1 0 (.int (iI W + u.2 8 m)) (by simp)
  have ec : gR M (some a) 8 1 = some (some c) := gR_at hp.1
  have g4 : gI M1 (some a) 8 0 = some (iI W) := gI_at ha1
  have g5 : gI M1 (some (ad (1000 + m))) 13 2 = some (u.2 8 m) := gI_at (hm1.trans q2)
  refine ⟨M6, zz1, ?_, e2, fun z h1 h2 h3 => ?_, fun rh1 r1 r2 r3 => ⟨⟨?_, r1 a hp.2⟩, ?_⟩⟩
  · unfold f_X5_put
    rw [ec]
    simp only [Option.bind_some]
    rw [if_pos hl.is, e1]
    simp only [Option.bind_some]
    rw [g4, Option.bind_some, g5, Option.bind_some, e6]
    rfl
  · rw [f6 z (fun q => h1 (by rw [q]; exact hp.2))]
    exact e3 z h2 h3
  · rw [t6, u2_iI, iI_add]
    rfl
  · have := e4 rh1 r2 r3
    rw [List.map_append]
    refine this.fr (fun z hz => ⟨f6 z (fun q => ?_), hz⟩)
    rw [q, r1 a hp.2] at hz
    exact hid hz
end PAC
