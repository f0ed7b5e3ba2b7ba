/-! LOAN: the draft: one more thing is packed, class -/
def fpL (u : MS) (lim : Int) (ct : Nat → List Nat) (m : Nat) : Nat → Nat → Nat
  | 0, p => p
  | c + 1, p => if fitL u lim (ct p) m = true then p else fpL u lim ct m c (p + 1)
theorem fpL_rng (u : MS) (lim : Int) (ct : Nat → List Nat) (m : Nat) : ∀ (c p : Nat), p ≤ fpL u lim ct m c p ∧ fpL u lim ct m c p ≤ p + c := by
  intro c
  induction c with
  | zero => exact fun p => ⟨Nat.le_refl _, Nat.le_refl _⟩
  | succ c ih =>
    intro p
    unfold fpL
    split
    · exact ⟨Nat.le_refl _, by omega⟩
    · have := ih (p + 1)
      omega
def putC (ct : Nat → List Nat) (p m : Nat) : Nat → List Nat := fun q => if q = p then ct p ++ [m] else ct q
theorem putC_o {ct : Nat → List Nat} {p m q : Nat} (h : q ≠ p) : putC ct p m q = ct q := if_neg h
theorem putC_p {ct : Nat → List Nat} {p m : Nat} : putC ct p m p = ct p ++ [m] := if_pos rfl
/-- the draft as the class has it: the loan 1, its row 2, a parcel 10+2p, its row 11+2p -/
def DraC (S : Nat → Nat) (ad : Nat → Nat) (M : Mem) (rh : Nat → Nat) (u : MS) (a0 ha : Nat) (A st D : Int32) (pa : Nat → Nat) (ct : Nat → List Nat) (P : Nat) : Prop := (∃ q, At M rh 1 a0 (.inl (7, [.ref ha, .int A, .ref q, .int st, .int D])) ∧ LisR S M rh 2 q ((List.range P).map pa)) ∧ ∀ p, p < P → ∃ c, At M rh (10 + 2 * p) (pa p) (.inl (8, [.int (iI (sumN (fun t => vR u 8 t) (ct p))), .ref c, .int (-1), .int (-1)])) ∧ LisR S M rh (11 + 2 * p) c ((ct p).map (fun t => ad (1000 + t)))
section PK1
variable {B : Nat} {S : Nat → Nat} {M : Mem} {u : MS} {ad rh pa : Nat → Nat} {ct : Nat → List Nat} {a0 ha sz m T P zz : Nat} {A st D : Int32} {lim : Int}
theorem rangeP_get (pa : Nat → Nat) {P p : Nat} (h : p < P) : ((List.range P).map pa)[p]? = some (pa p) := by simp [h]
theorem z_packL2 (d : DraC S ad M rh u a0 ha A st D pa ct P) (hh : gI M (some ha) 6 1 = some (iI lim)) (hlim : -2147483648 ≤ lim ∧ lim < 2147483648) (hT : ThK ad M u T) (hct : ∀ p, p < P → (∀ x, x ∈ ct p → x < T) ∧ 0 ≤ sumN (fun t => vR u 8 t) (ct p) ∧ sumN (fun t => vR u 8 t) (ct p) ≤ 100000) (hm : m < T) (hr2 : 0 ≤ vR u 8 m ∧ vR u 8 m ≤ 100000) (n : Nat) (hn : 60 ≤ n) : ∀ (k p : Nat), p ≤ P → P - p < k → f_X4_pack_L2 B S n (some a0) (some (ad (1000 + m))) k M zz (iI p) = if fpL u lim ct m (P - p) p < P then (f_X5_put B S M zz (some (pa (fpL u lim ct m (P - p) p))) (some (ad (1000 + m)))).bind fun r => some (Sum.inl (r.1, r.2)) else some (Sum.inr (M, zz)) := by
  obtain ⟨⟨q, d1, d2⟩, d3⟩ := d
  have hlen := d2.len
  rw [List.length_map, List.length_range] at hlen
  have e0 : gR M (some a0) 7 0 = some (some ha) := gR_at d1.1
  have e2 : gR M (some a0) 7 2 = some (some q) := gR_at d1.1
  have es := d2.size
  rw [List.length_map, List.length_range] at es
  intro k
  induction k with
  | zero => intro p _ h; omega
  | succ k ih =>
    intro p hp hk
    unfold f_X4_pack_L2
    simp only [e2, e0, Option.bind_some]
    rw [if_pos d2.is, es]
    simp only [Option.bind_some]
    rw [it_le _ _ (by omega)]
    by_cases e : p = P
    · rw [if_pos (by omega), show P - p = 0 by omega, fpL, if_neg (by omega)]
    · have hlt : p < P := by omega
      obtain ⟨c, c1, c2⟩ := d3 p hlt
      obtain ⟨b1, b2, b3⟩ := hct p hlt
      have hget := d2.get (i := (p : Int)) (x := pa p) (by omega) (by rw [Int.toNat_natCast]; exact rangeP_get pa hlt)
      rw [if_neg (by omega), if_pos d2.is, hget]
      simp only [Option.bind_some]
      rw [if_pos (Or.inr (isO_at c1.1)), hh]
      simp only [Option.bind_some]
      rw [if_pos (isO_at c1.1), z_fits c1.1 rfl rfl rfl ⟨b2, b3⟩ hr2 c2 hT b1 hm n hn lim hlim]
      simp only [Option.bind_some]
      rw [show P - p = (P - (p + 1)) + 1 by omega, fpL]
      by_cases cf : fitL u lim (ct p) m = true
      · rw [if_pos cf, if_neg (show ¬ iI 1 = (0 : Int32) by decide), if_pos d2.is]
        simp only [if_pos cf]
        rw [if_pos hlt, if_pos (Or.inr (isO_at c1.1)), if_pos (isO_at c1.1)]
      · rw [if_neg cf, if_pos (show iI 0 = (0 : Int32) from rfl), iI_s]
        simp only [if_neg cf]
        exact ih (p + 1) (by omega) (by omega)
theorem z_parNew (hB : B ≤ zz) : ∃ M1, f_X5_init B S (va_up M zz (some (.inl (8, [.int 0, .null, .int 0, .int 0])))) (zz + 1) (some zz) = some (M1, zz + 2) ∧ M1 zz = some (.inl (8, [.int (iI 0), .ref (zz + 1), .int (-1), .int (-1)])) ∧ M1 (zz + 1) = some (.inl (2, [.int 0, .ref (S 20), .int 0])) ∧ ∀ y, y ≠ zz → y ≠ zz + 1 → M1 y = M y := by
  have h0 : (va_up M zz (some (.inl (8, [.int 0, .null, .int 0, .int 0])))) zz = some (.inl (8, [.int 0, .null, .int 0, .int 0])) := va_up_self ..
  have f0 : ∀ y, y ≠ zz → (va_up M zz (some (.inl (8, [.int 0, .null, .int 0, .int 0])))) y = M y := fun y hy => va_up_ne _ _ hy
  generalize va_up M zz (some (.inl (8, [.int 0, .null, .int 0, .int 0]))) = M0 at *
  obtain ⟨M2, e2, t2, f2⟩ := pF_ob hB h0 0 (.int (0 : Int32)) (by simp)
  have h3 : (va_up M2 (zz + 1) (some (.inl (2, [.int 0, .null, .int 0])))) (zz + 1) = some (.inl (2, [.int 0, .null, .int 0])) := va_up_self ..
  have f3 : ∀ y, y ≠ zz + 1 → (va_up M2 (zz + 1) (some (.inl (2, [.int 0, .null, .int 0])))) y = M2 y := fun y hy => va_up_ne _ _ hy
  obtain ⟨M4, e4, a4, f4⟩ := z_lisNew (B := B) (S := S) (c := zz + 1) (by omega) h3
  have t4 : M4 zz = some (.inl (8, [.int 0, .null, .int 0, .int 0])) := by rw [f4 zz (by omega), f3 zz (by omega)]; exact t2
  obtain ⟨M5, e5, t5, f5⟩ := pF_ob hB t4 1 (va_rf (some (zz + 1))) (by simp)
  have t5' : M5 zz = some (.inl (8, [.int 0, .ref (zz + 1), .int 0, .int 0])) := t5
  obtain ⟨M6, e6, t6, f6⟩ := pF_ob hB t5' 2 (.int (-1 : Int32)) (by simp)
  have t6' : M6 zz = some (.inl (8, [.int 0, .ref (zz + 1), .int (-1), .int 0])) := t6
  obtain ⟨M7, e7, t7, f7⟩ := pF_ob hB t6' 3 (.int (-1 : Int32)) (by simp)
  refine ⟨M7, ?_, t7, ?_, fun y h1 h2 => ?_⟩
  · unfold f_X5_init
    rw [if_pos (by simp), e2]
    simp only [Option.bind_some]
    rw [e4]
    simp only [Option.bind_some]
    rw [e5]
    simp only [Option.bind_some]
    rw [e6]
    simp only [Option.bind_some]
    rw [e7]
    rfl
  · rw [f7 _ (by omega), f6 _ (by omega), f5 _ (by omega)]
    exact a4
  · rw [f7 _ h1, f6 _ h1, f5 _ h1, f4 _ h2, f3 _ h2, f2 _ h1, f0 _ h1]
end PK1
