/-! LOAN: the draft: one more thing is packed, class: the two ends -/
def OwnD (rh : Nat → Nat) (sz zz P : Nat) : Prop := ∀ y, rh y ≠ 0 → (sz ≤ y ∧ y < zz) ∧ rh y < 10 + 2 * P
def PkO (S : Nat → Nat) (ad : Nat → Nat) (sz : Nat) (M : Mem) (rh : Nat → Nat) (zz : Nat) (u : MS) (a0 ha : Nat) (A st D : Int32) (pa : Nat → Nat) (ct : Nat → List Nat) (P p m : Nat) (M1 : Mem) (zz1 : Nat) : Prop := ∃ (rh1 pa1 : Nat → Nat), zz ≤ zz1 ∧ (∀ y, rh y = 0 → y < zz → M1 y = M y) ∧ (∀ y, y < zz → rh1 y = rh y) ∧ OwnD rh1 sz zz1 (if p = P then P + 1 else P) ∧ DraC S ad M1 rh1 u a0 ha A st D pa1 (putC ct p m) (if p = P then P + 1 else P)
theorem own_one {rh : Nat → Nat} {sz zz zz1 P : Nat} (own : OwnD rh sz zz P) (hz : sz ≤ zz) (h1 : zz1 = zz ∨ zz1 = zz + 1) (id Q : Nat) (hid : id < 10 + 2 * Q) (hQ : P ≤ Q) : ∃ rA : Nat → Nat, (∀ y, y < zz → rA y = rh y) ∧ (zz < zz1 → rA zz = id) ∧ OwnD rA sz zz1 Q := by
  refine ⟨fun y => if y = zz ∧ zz < zz1 then id else rh y, fun y hy => if_neg (by omega), fun h => if_pos ⟨rfl, h⟩, fun y hy => ?_⟩
  by_cases c : y = zz ∧ zz < zz1
  · refine ⟨by omega, ?_⟩
    show (if y = zz ∧ zz < zz1 then id else rh y) < _
    rw [if_pos c]
    exact hid
  · have e : (fun y => if y = zz ∧ zz < zz1 then id else rh y) y = rh y := if_neg c
    rw [e] at hy ⊢
    have := own y hy
    omega
section PK2
variable {B : Nat} {S : Nat → Nat} {M : Mem} {u : MS} {ad rh pa : Nat → Nat} {ct : Nat → List Nat} {a0 ha sz m T P zz : Nat} {A st D : Int32} {lim : Int}
theorem sumN_put (f : Nat → Int) (l : List Nat) (m : Nat) : sumN f (l ++ [m]) = sumN f l + f m := by
  rw [sumN_append, sumN, sumN, Int.add_zero]
theorem OwnD.lo (own : OwnD rh sz zz P) {y : Nat} (hy : y < sz ∨ zz ≤ y) : rh y = 0 := by
  rcases Nat.eq_zero_or_pos (rh y) with q1 | q1
  · exact q1
  · have := own y (by omega)
    omega
theorem z_pkE (d : DraC S ad M rh u a0 ha A st D pa ct P) (own : OwnD rh sz zz P) (hBs : B ≤ sz) (hz : sz ≤ zz) (hS : EmpOK S M) (hS2 : S 20 < B) (hT : ThK ad M u T) (hTo : ∀ i, i < T → ad (1000 + i) < sz) (hct : ∀ p, p < P → (∀ x, x ∈ ct p → x < T) ∧ (ct p).length ≤ 16) (hm : m < T) {p : Nat} (hp : p < P) : ∃ (M1 : Mem) (zz1 : Nat), f_X5_put B S M zz (some (pa p)) (some (ad (1000 + m))) = some (M1, zz1) ∧ PkO S ad sz M rh zz u a0 ha A st D pa ct P p m M1 zz1 := by
  obtain ⟨⟨q, d1, d2⟩, d3⟩ := d
  obtain ⟨c, c1, c2⟩ := d3 p hp
  obtain ⟨b1, b2⟩ := hct p hp
  have hpa := own (pa p) (by rw [c1.2]; omega)
  obtain ⟨M1, zz1, e1, e2, e3, e4⟩ := z_put (B := B) (T := T) (u := u) (m := m) (zz := zz) c1 c2 (by omega) hS hS2 (by omega) (by omega) (fun y hy => by have := own y (by omega); omega) (by omega) hT (fun i hi => by
    have := hTo i hi
    rw [own.lo (Or.inl this)]
    omega) b1 hm
  obtain ⟨rA, k1, k2, k3⟩ := own_one own hz e2 (11 + 2 * p) P (by omega) (Nat.le_refl _)
  have keep : ∀ y, rh y ≠ 0 → rA y = rh y := fun y hy => k1 y (by have := own y hy; omega)
  obtain ⟨w1, w2⟩ := e4 rA (fun y hy => (keep y (by omega)).trans hy) (fun y hy => (keep y (by omega)).trans hy) k2
  have kp : ∀ id, id ≠ 0 → id ≠ 10 + 2 * p → id ≠ 11 + 2 * p → Kept M rh id M1 rA := fun id i0 i1 i2 y hy => ⟨e3 y (by omega) (by omega) (by have := own y (by omega); omega), (keep y (by omega)).trans hy⟩
  refine ⟨M1, zz1, e1, rA, pa, by omega, fun y h1 h2 => e3 y (by omega) (by omega) h2, k1, ?_, ?_⟩
  · rw [if_neg (by omega)]
    exact k3
  · rw [if_neg (by omega)]
    refine ⟨⟨q, d1.fr (kp 1 (by omega) (by omega) (by omega)), d2.fr (kp 2 (by omega) (by omega) (by omega))⟩, fun r hr => ?_⟩
    by_cases er : r = p
    · subst er
      rw [putC_p, sumN_put]
      exact ⟨c, w1, w2⟩
    · obtain ⟨c', y1, y2⟩ := d3 r hr
      rw [putC_o er]
      exact ⟨c', y1.fr (kp _ (by omega) (by omega) (by omega)), y2.fr (kp _ (by omega) (by omega) (by omega))⟩
theorem rangeP_s (pa : Nat → Nat) (P zz : Nat) : (List.range (P + 1)).map (fun p => if p = P then zz else pa p) = (List.range P).map pa ++ [zz] := by
  rw [List.range_succ, List.map_append]
  congr 1
  · refine List.map_congr_left (fun p hp => ?_)
    have := List.mem_range.mp hp
    exact if_neg (by omega)
  · simp
theorem z_pkN (d : DraC S ad M rh u a0 ha A st D pa ct P) (own : OwnD rh sz zz P) (hBs : B ≤ sz) (hz : sz ≤ zz) (hS : EmpOK S M) (hS2 : S 20 < B) (hT : ThK ad M u T) (hTo : ∀ i, i < T → ad (1000 + i) < sz) (hP : P < 40) (hc0 : ct P = []) (hm : m < T) : ∃ (M1 : Mem) (zz1 : Nat), (((some (va_up M zz (some (.inl (8, [.int 0, .null, .int 0, .int 0]))))) : Option Mem).bind fun M21 => (f_X5_init B S M21 (zz + 1) (some zz)).bind fun r22 => if isO r22.1 (some zz) 8 = true then ((f_X5_put B S r22.1 r22.2 (some zz) (some (ad (1000 + m)))).bind fun r24 => (gR r24.1 (some a0) 7 2).bind fun v25 => if isO r24.1 v25 2 = true then ((f_Jx4a65c_add_9ea2d B S r24.1 r24.2 v25 (some zz)).bind fun r27 => some (r27.2.1, r27.2.2)) else none) else none) = some (M1, zz1) ∧ PkO S ad sz M rh zz u a0 ha A st D pa ct P P m M1 zz1 := by
  obtain ⟨⟨q, d1, d2⟩, d3⟩ := d
  obtain ⟨Ma, a1, a2, a3, a4⟩ := z_parNew (B := B) (S := S) (M := M) (zz := zz) (by omega)
  have fa : ∀ y, y < zz → Ma y = M y := fun y hy => a4 y (by omega) (by omega)
  -- the owners with the new parcel
  obtain ⟨r0, y1, y2, y3⟩ := own_one own hz (Or.inr rfl) (10 + 2 * P) (P + 1) (by omega) (by omega)
  obtain ⟨rA, z1, z2, z3⟩ := own_one (zz1 := zz + 2) y3 (by omega) (Or.inr rfl) (11 + 2 * P) (P + 1) (by omega) (Nat.le_refl _)
  have rA1 : rA zz = 10 + 2 * P := (z1 zz (by omega)).trans (y2 (by omega))
  have rA2 : rA (zz + 1) = 11 + 2 * P := z2 (by omega)
  have rA3 : ∀ y, y < zz → rA y = rh y := fun y hy => (z1 y (by omega)).trans (y1 y hy)
  have rlt : ∀ y, y < zz → rA y < 10 + 2 * P := fun y hy => by
    rw [rA3 y hy]
    rcases Nat.eq_zero_or_pos (rh y) with q1 | q1
    · omega
    · exact (own y (by omega)).2
  have hl0 : LisR S Ma rA (11 + 2 * P) (zz + 1) (([] : List Nat).map (fun t => ad (1000 + t))) := ⟨0, S 20, 0, fun _ => none, ⟨a3, rA2⟩, Or.inl ⟨rfl, rfl⟩, Nat.le_refl _, fun k hk => by simp at hk⟩
  have hTa : ThK ad Ma u T := fun i hi => by
    obtain ⟨v3, v4, v5, v6, v8, q1⟩ := hT i hi
    exact ⟨v3, v4, v5, v6, v8, (fa _ (by have := hTo i hi; omega)).trans q1⟩
  have hSa : EmpOK S Ma := by
    obtain ⟨w, hw⟩ := hS
    exact ⟨w, (fa _ (by omega)).trans hw⟩
  obtain ⟨Mb, zb, p1, p2, p3, p4⟩ := z_put (B := B) (T := T) (u := u) (m := m) (zz := zz + 2) (W := 0) ⟨a2, rA1⟩ hl0 (by omega) hSa hS2 (by omega) (by omega) (fun y hy => by have := z3 y (by omega); omega) (by simp) hTa (fun i hi => by
    have := hTo i hi
    have := rlt (ad (1000 + i)) (by omega)
    omega) (fun x hx => by simp at hx) hm
  have fb : ∀ y, y < zz → Mb y = M y := fun y hy => by
    have := rlt y hy
    rw [p3 y (by omega) (by omega) (by omega)]
    exact fa y hy
  obtain ⟨rB, b1, b2, b3⟩ := own_one (zz1 := zb) z3 (by omega) (by omega) (11 + 2 * P) (P + 1) (by omega) (Nat.le_refl _)
  have rB3 : ∀ y, y < zz → rB y = rh y := fun y hy => (b1 y (by omega)).trans (rA3 y hy)
  have keepA : ∀ y, rA y ≠ 0 → rB y = rA y := fun y hy => b1 y (by have := z3 y hy; omega)
  obtain ⟨w1, w2⟩ := p4 rB (fun y hy => (keepA y (by omega)).trans hy) (fun y hy => (keepA y (by omega)).trans hy) b2
  have kB : ∀ id, id ≠ 0 → id < 10 + 2 * P → Kept M rh id Mb rB := fun id i0 i1 y hy => by
    have := own y (by omega)
    exact ⟨fb y (by omega), (rB3 y (by omega)).trans hy⟩
  have dB1 := d1.fr (kB 1 (by omega) (by omega))
  have dB2 := d2.fr (kB 2 (by omega) (by omega))
  have hSb : EmpOK S Mb := by
    obtain ⟨w, hw⟩ := hS
    exact ⟨w, (fb _ (by omega)).trans hw⟩
  have hq := own q (by rw [d2.own]; omega)
  obtain ⟨Mc, zc, c1, c2, c3, c4⟩ := dB2.add (B := B) (sz := zb) (x := zz) hSb hS2 (by omega) (fun y hy => by have := b3 y (by omega); omega) (by rw [List.length_map, List.length_range]; omega) (fun y hy => by
    obtain ⟨p, hp, rfl⟩ := List.mem_map.mp hy
    have hp2 := List.mem_range.mp hp
    obtain ⟨c', y1, -⟩ := d3 p hp2
    have hpp := own (pa p) (by rw [y1.2]; omega)
    refine ⟨isE_at ((fb _ (by omega)).trans y1.1) (by omega), fun e => ?_, by omega⟩
    have h1 := y1.2
    rw [e, d2.own] at h1
    omega) ⟨isE_at w1.1 (by omega), by omega, by omega⟩
  obtain ⟨rC, k1, k2, k3⟩ := own_one (zz1 := zc) b3 (by omega) c2 2 (P + 1) (by omega) (Nat.le_refl _)
  have keepB : ∀ y, rB y ≠ 0 → rC y = rB y := fun y hy => k1 y (by have := b3 y hy; omega)
  have g1 := c4 rC (fun y hy => (keepB y (by omega)).trans hy) k2
  have kC : ∀ id, id ≠ 0 → id ≠ 2 → Kept Mb rB id Mc rC := fun id i0 i2 y hy => ⟨c3 y (by omega) (by have := b3 y (by omega); omega), (keepB y (by omega)).trans hy⟩
  refine ⟨Mc, zc, ?_, rC, fun p => if p = P then zz else pa p, by omega, fun y h1 h2 => ?_, fun y hy => (k1 y (by omega)).trans (rB3 y hy), ?_, ?_⟩
  · simp only [Option.bind_some]
    rw [a1]
    simp only [Option.bind_some]
    have g2 : gR Mb (some a0) 7 2 = some (some q) := gR_at dB1.1
    rw [if_pos (isO_at a2), p1]
    simp only [Option.bind_some]
    rw [g2]
    simp only [Option.bind_some]
    rw [if_pos dB2.is, c1]
    rfl
  · rw [c3 y (by rw [rB3 y h2]; omega) (by omega)]
    exact fb y h2
  · rw [if_pos rfl]
    exact k3
  · rw [if_pos rfl]
    refine ⟨⟨q, dB1.fr (kC 1 (by omega) (by omega)), ?_⟩, fun r hr => ?_⟩
    · rw [rangeP_s]
      exact g1
    · by_cases er : r = P
      · subst er
        rw [putC_p, hc0, show (fun p => if p = r then zz else pa p) r = zz from if_pos rfl]
        have w1' := w1.fr (kC _ (by omega) (by omega))
        have es : sumN (fun t => vR u 8 t) ([] ++ [m]) = 0 + vR u 8 m := sumN_put _ [] m
        rw [es]
        exact ⟨zz + 1, w1', w2.fr (kC _ (by omega) (by omega))⟩
      · obtain ⟨c', y1, y2⟩ := d3 r (by omega)
        rw [putC_o er, show (fun p => if p = P then zz else pa p) r = pa r from if_neg er]
        exact ⟨c', (y1.fr (kB _ (by omega) (by omega))).fr (kC _ (by omega) (by omega)), (y2.fr (kB _ (by omega) (by omega))).fr (kC _ (by omega) (by omega))⟩
end PK2
