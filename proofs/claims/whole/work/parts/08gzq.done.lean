/-! LOAN: one more loan: the class takes it up -/
section GDO
variable {B : Nat} {S : Nat → Nat} {L : Mem} {x0 : Nat} {ad rho rh pa : Nat → Nat} {xl : Nat → List Nat} {MK M1 M : Mem} {uS u1 u : MS} {sz zz l P a0 : Nat} {ct : Nat → List Nat}
theorem booF_set6 (A : Nat → Nat) (st rp ap lf ls z : Int32) : (booF A st rp ap lf ls).set 6 (.int z) = booF A z rp ap lf ls := rfl
theorem GS.done (hL : LOK B L) (hEm : EmpOK S L) (F : Fix B S L x0 ad rho xl MK M1 uS u1 sz zz rh ct l P) (h : GS S ad rho M1 u1 rh a0 pa ct l P u M) (hz : sz ≤ zz) (hl15 : l ≤ 15) (hfree : FreeF u uS l) (h24 : vR u 24 l = 1) (hpk : ∀ t : Nat, t < 16 → hadS u l t = true → t < (vN uS 5).toNat ∧ 0 ≤ vR u 30 (l * 16 + t) ∧ vR u 30 (l * 16 + t) < P) (hall : ∀ t : Nat, t < (vN uS 5).toNat → hadS u l t = true → ∃ p, p < P ∧ t ∈ ct p) (n : Nat) (hn : 2100 ≤ n) {Mr : Mem} (hMr : Mr = va_up M x0 (some (.inl (14, booF ad (iI (stdS uS)) (uS.1 33) (uS.1 10) (uS.1 4) (uS.1 2))))) : ∃ (M47 : Mem) (z47 : Nat) (v48 : Int32) (M49 M51 : Mem) (ad1 rho1 : Nat → Nat) (xl1 : Nat → List Nat), gR Mr (some x0) 14 5 = some (some (ad 7)) ∧ isO Mr (some (ad 7)) 2 = true ∧ f_Jx4a65c_add_9ea2d B S Mr zz (some (ad 7)) (some a0) = some (1, M47, z47) ∧ gI M47 (some x0) 14 6 = some v48 ∧ pF B M47 (some x0) 14 6 (.int (v48 + (1 : Int32))) = some M49 ∧ isO M49 (some x0) 14 = true ∧ f_X11_takeThings B n M49 (some x0) (some a0) (iI l) = some M51 ∧ RepK B S L x0 ad1 rho1 xl1 M51 (dnU u l) z47 ∧ Inv (dnU u l) xl1 := by
  have hcon := h.con hL F
  have hfk := fun (y : Nat) y1 y2 => h.frK F (y := y) y1 y2
  have K := F.1.1
  have IS := F.1.2
  have own := F.2.2.2.1
  have n5 := IS.n5
  have n23 := IS.n23
  have hxl := K.xlt
  have hox : rho x0 = 1 := K.2.1.1.2
  have hrh : ∀ y, rh y ≠ 0 → rho y = 0 := fun y hy => K.no0 (Or.inr (own y hy).1.1)
  have hself : Mr x0 = some (.inl (14, booF ad (iI (stdS uS)) (uS.1 33) (uS.1 10) (uS.1 4) (uS.1 2))) := by
    rw [hMr]
    exact va_up_self ..
  have upx : ∀ y, y ≠ x0 → Mr y = M y := fun y hy => by
    rw [hMr]
    exact va_up_ne _ _ hy
  have upn : ∀ y, rho y ≠ 1 → Mr y = M y := fun y hy => upx y (fun e => hy (by rw [e]; exact hox))
  clear hMr
  have h7 : LisR S Mr rho 7 (ad 7) (seqA ad 8000 (vN uS 23)) := (K.rows.2.2.2).fr (fun y hy => ⟨(upn y (by omega)).trans (hfk y (by omega) (by omega)), hy⟩)
  have hES : EmpOK S Mr ∧ S 20 < B := by
    obtain ⟨w, hw⟩ := hEm
    have hB : S 20 < B := by
      rcases Nat.lt_or_ge (S 20) B with q | q
      · exact q
      · rw [hL _ q] at hw
        cases hw
    exact ⟨⟨w, by rw [upx _ (by omega)]; exact hcon _ _ hw⟩, hB⟩
  obtain ⟨⟨q, d1, d2⟩, d3⟩ := h.2.2.1
  have ha0 := own a0 (by rw [d1.2]; decide)
  have o7 := h7.own
  have hMa0 : Mr a0 = some (.inl (7, [.ref (ad (5000 + (vR u 25 l).toNat)), .int (u.2 26 l), .ref q, .int (u.2 24 l), .int (u.2 27 l)])) := (upn a0 (by rw [hrh a0 (by rw [d1.2]; decide)]; decide)).trans d1.1
  obtain ⟨M47, z47, e1, e2, e3, e4⟩ := h7.add (B := B) (sz := zz) (x := a0) hES.1 hES.2 (by omega) (fun y hy => by have := K.1.2 y (by omega); omega) (by rw [seqA_len]; omega) (fun y hy => by
    unfold seqA at hy
    obtain ⟨i, hi, rfl⟩ := List.mem_map.mp hy
    have hi2 := List.mem_range.mp hi
    obtain ⟨⟨q2, g1, -⟩, -⟩ := K.loa hi2
    have ho := K.own g1 (by omega)
    refine ⟨isE_at (((upn _ (by rw [g1.2]; omega)).trans (hfk _ (by rw [g1.2]; omega) (by rw [g1.2]; omega))).trans g1.1) (by omega), fun e => ?_, by omega⟩
    have := g1.2
    rw [e, o7] at this
    omega) ⟨isE_at hMa0 (by omega), fun e => by rw [e] at d1; have := hrh (ad 7) (by rw [d1.2]; decide); omega, by omega⟩
  have hb47 : M47 x0 = some (.inl (14, booF ad (iI (stdS uS)) (uS.1 33) (uS.1 10) (uS.1 4) (uS.1 2))) := by
    rw [e3 x0 (by rw [hox]; decide) (by omega)]
    exact hself
  obtain ⟨M49, p1, p2, p3⟩ := pF_ob hxl.1 hb47 6 (.int (iI (stdS uS) + (1 : Int32))) (by simp [booF])
  rw [booF_set6, show (1 : Int32) = iI 1 from rfl, iI_add] at p2
  have f49 : ∀ y, rho y ≠ 1 → rho y ≠ 7 → y < zz → M49 y = M y := fun y y1 y2 y3 => by
    rw [p3 y (fun e => y1 (by rw [e]; exact hox)), e3 y y2 y3]
    exact upn y y1
  have hN : NMm ad rho rh MK M x0 (booF ad (iI (stdS uS + 1)) (uS.1 33) (uS.1 10) (uS.1 4) (uS.1 2)) M49 := ⟨fun y hy => f49 y (by rw [hrh y hy]; decide) (by rw [hrh y hy]; decide) (own y hy).1.2, fun y y1 y2 y3 y4 => (f49 y (by omega) y2 (by have := K.1.2 y (by omega); omega)).trans (hfk y y1 y4), p2⟩
  obtain ⟨M51, w1, w2, w3⟩ := h.take F hall n hn n 0 M49 (Nat.zero_le _) (by omega) hN (fun t ht => by omega) (fun t _ ht => by
    obtain ⟨-, ⟨tk, hc⟩, -⟩ := K.thi ht
    exact ⟨tk, hc.fr (fun y hy => ⟨(f49 y (by omega) (by omega) (by have := K.1.2 y (by omega); omega)).trans (hfk y (by omega) (by omega)), hy⟩)⟩)
  -- the new owners and addresses
  obtain ⟨rho1, a1, a2, a3, a4, a5⟩ : ∃ rho1 : Nat → Nat, (∀ y, rho y ≠ 0 → rho1 y = rho y) ∧ (∀ y, (rh y = 1 ∨ rh y = 2) → rho1 y = 8000 + l) ∧ (∀ y p, p < 16 → (rh y = 10 + 2 * p ∨ rh y = 11 + 2 * p) → rho1 y = 9000 + (l * 16 + p)) ∧ (∀ y, rho1 y ≠ 0 → B ≤ y ∧ y < z47) ∧ ((zz < z47 → rho1 zz = 7) ∧ ∀ y, rho1 y = 7 → rho y = 7 ∨ y = zz) := by
    have def1 : ∀ y, (fun y => if y < sz then rho y else if y < zz then (if rh y = 0 then 0 else if rh y ≤ 2 then 8000 + l else 9000 + (l * 16 + (rh y - 10) / 2)) else if y = zz ∧ zz < z47 then 7 else 0) y = if y < sz then rho y else if y < zz then (if rh y = 0 then 0 else if rh y ≤ 2 then 8000 + l else 9000 + (l * 16 + (rh y - 10) / 2)) else if y = zz ∧ zz < z47 then 7 else 0 := fun _ => rfl
    refine ⟨fun y => if y < sz then rho y else if y < zz then (if rh y = 0 then 0 else if rh y ≤ 2 then 8000 + l else 9000 + (l * 16 + (rh y - 10) / 2)) else if y = zz ∧ zz < z47 then 7 else 0, fun y hy => ?_, fun y hy => ?_, fun y p hp hy => ?_, fun y hy => ?_, fun hh => ?_, fun y hy => ?_⟩
    · rw [def1, if_pos (K.1.2 y hy).2]
    · have := own y (by omega)
      rw [def1, if_neg (by omega), if_pos (by omega), if_neg (by omega), if_pos (by omega)]
    · have := own y (by omega)
      rw [def1, if_neg (by omega), if_pos (by omega), if_neg (by omega), if_neg (by omega)]
      omega
    · rw [def1] at hy
      by_cases c1 : y < sz
      · rw [if_pos c1] at hy
        have := K.1.2 y hy
        omega
      · rw [if_neg c1] at hy
        by_cases c2 : y < zz
        · omega
        · rw [if_neg c2] at hy
          by_cases c3 : y = zz ∧ zz < z47
          · omega
          · rw [if_neg c3] at hy
            exact absurd rfl hy
    · rw [def1, if_neg (by omega), if_neg (by omega), if_pos ⟨rfl, hh⟩]
    · rw [def1] at hy
      by_cases c1 : y < sz
      · rw [if_pos c1] at hy
        exact Or.inl hy
      · rw [if_neg c1] at hy
        by_cases c2 : y < zz
        · rw [if_pos c2] at hy
          exfalso
          split at hy
          · omega
          · split at hy <;> omega
        · rw [if_neg c2] at hy
          by_cases c3 : y = zz ∧ zz < z47
          · exact Or.inr c3.1
          · rw [if_neg c3] at hy
            cases hy
  obtain ⟨xl1, x1, x2⟩ : ∃ xl1 : Nat → List Nat, (∀ id, ¬ (9000 + l * 16 ≤ id ∧ id < 9000 + l * 16 + 16) → xl1 id = xl id) ∧ ∀ p, p < 16 → xl1 (9000 + (l * 16 + p)) = ct p := by
    refine ⟨fun id => if 9000 + l * 16 ≤ id ∧ id < 9000 + l * 16 + 16 then ct (id - (9000 + l * 16)) else xl id, fun id hid => if_neg hid, fun p hp => ?_⟩
    show (if 9000 + l * 16 ≤ 9000 + (l * 16 + p) ∧ 9000 + (l * 16 + p) < 9000 + l * 16 + 16 then ct (9000 + (l * 16 + p) - (9000 + l * 16)) else xl (9000 + (l * 16 + p))) = ct p
    rw [if_pos (by omega), show 9000 + (l * 16 + p) - (9000 + l * 16) = p by omega]
  obtain ⟨ad1, y1, y2, y3⟩ : ∃ ad1 : Nat → Nat, (∀ id, id ≠ 8000 + l → ¬ (9000 + l * 16 ≤ id ∧ id < 9000 + l * 16 + 16) → ad1 id = ad id) ∧ ad1 (8000 + l) = a0 ∧ ∀ p, p < 16 → ad1 (9000 + (l * 16 + p)) = pa p := by
    refine ⟨fun id => if id = 8000 + l then a0 else if 9000 + l * 16 ≤ id ∧ id < 9000 + l * 16 + 16 then pa (id - (9000 + l * 16)) else ad id, fun id h1 h2 => ?_, if_pos rfl, fun p hp => ?_⟩
    · show (if id = 8000 + l then a0 else if 9000 + l * 16 ≤ id ∧ id < 9000 + l * 16 + 16 then pa (id - (9000 + l * 16)) else ad id) = ad id
      rw [if_neg h1, if_neg h2]
    · show (if 9000 + (l * 16 + p) = 8000 + l then a0 else if 9000 + l * 16 ≤ 9000 + (l * 16 + p) ∧ 9000 + (l * 16 + p) < 9000 + l * 16 + 16 then pa (9000 + (l * 16 + p) - (9000 + l * 16)) else ad (9000 + (l * 16 + p))) = pa p
      rw [if_neg (by omega), if_pos (by omega), show 9000 + (l * 16 + p) - (9000 + l * 16) = p by omega]
  have g6 : gI M47 (some x0) 14 6 = some (iI (stdS uS)) := gI_at hb47
  refine ⟨M47, z47, _, M49, M51, ad1, rho1, xl1, (bk hself).2.2.2.2.2, h7.is, e1, g6, p1, isO_at p2, w1, ?_, h.invD F hl15 hfree h24 hpk x1 x2⟩
  have w3' : ∀ y, (rho y < 2000 ∨ 3000 ≤ rho y) → M51 y = M49 y := fun y hy => w3 y (fun t ht => by omega)
  refine h.repD F hl15 hfree h24 ⟨hz, by omega⟩ x1 x2 y1 y2 y3 a1 a2 a3 a4 (fun a e ha => ?_) ((w3' x0 (by omega)).trans p2) w2 (fun y q1 q2 q3 q4 => (w3' y q3).trans (hN.2.1 y q1 q2 q3 q4)) (fun y hy => (w3' y (by rw [hrh y hy]; omega)).trans (hN.1 y hy)) (fun y q1 q2 => (w3' y (by omega)).trans (f49 y (by omega) (by omega) (by have := K.1.2 y (by omega); omega))) ?_
  · have haB : a < B := by
      rcases Nat.lt_or_ge a B with q1 | q1
      · exact q1
      · rw [hL a q1] at ha
        cases ha
    have h0 := K.no0 (Or.inl haB)
    rw [w3' a (by omega), f49 a (by omega) (by omega) (by omega)]
    exact hcon a e ha
  · refine (e4 rho1 (fun y hy => (a1 y (by omega)).trans hy) a5.1).fr (fun y hy => ⟨?_, hy⟩)
    rcases a5.2 y hy with q1 | q1
    · rw [w3' y (by omega), p3 y (fun e => by rw [e, hox] at q1; omega)]
    · have h0 := K.no0 (a := y) (Or.inr (by omega))
      rw [w3' y (by omega), p3 y (by omega)]
end GDO
