/-! LOAN: which parcel needs a courier next, both sides -/
section JNX
variable {u : MS} {M : Mem} {S : Nat → Nat} {rh pa : Nat → Nat} {l P a0 q : Nat} {fs : List Value} {d0 lim : Int} {W R : Nat → Int}
theorem j_next (hl : l < 17) (hP : P ≤ 16) (h29 : vR u 29 l = P) (hM : M a0 = some (.inl (7, fs))) (hq : fs[2]? = some (.ref q)) (hlis : LisR S M rh 2 q ((List.range P).map pa)) (n : Nat) (w : Int) (x2 : Int32) (hf : f_X4_firstOf M (some a0) (iI w) = some (iI d0)) (hc : ∀ p, p < P → isO M (some (pa p)) 8 = true ∧ f_X5_worthOn n M (some (pa p)) (iI d0) = some (iI (W p)) ∧ f_X5_courierOn M (some (pa p)) (iI w) = some (iI (R p)) ∧ f_X12_worthOf n u (iI l) (iI p) (iI d0) = some (iI (W p))) (hW : ∀ p, -2147483648 ≤ W p ∧ W p < 2147483648) (hR : ∀ p, -2147483648 ≤ R p ∧ R p < 2147483648) (hlim : -2147483648 ≤ lim ∧ lim < 2147483648) (hG : ∀ p, p < P → (vR u 40 p = 0 ↔ (R p = -1 ∧ lim < W p))) : ∀ (k p : Nat) (cur : Int), p ≤ P → P - p < k → (cur = -1 ∨ (0 ≤ cur ∧ cur < P ∧ vR u 40 cur.toNat = 0)) → ∃ r : Int, (r = -1 ∨ (0 ≤ r ∧ r < P ∧ vR u 40 r.toNat = 0)) ∧ f_X12_areGuarded_L67 n u (iI l) x2 (iI d0) k (iI cur) (iI p) = some (iI r) ∧ f_X4_nextToGuard_L13 n M (some a0) (iI w) k (if cur < 0 then none else some (pa cur.toNat)) (iI (if cur < 0 then lim else W cur.toNat)) (iI p) = some (if r < 0 then none else some (pa r.toNat)) := by
  have ql : inb (iI (l : Int)) 17 := (iI_inb _ 17 (by omega)).mpr (by omega)
  have cl : (iI (l : Int)).toNatClampNeg = l := by rw [iI_clamp _ (by omega)]; omega
  have e2 : gR M (some a0) 7 2 = some (some q) := by rw [gR_at hM, hq]
  have es := hlis.size
  rw [List.length_map, List.length_range] at es
  intro k
  induction k with
  | zero => intro p cur _ h; omega
  | succ k ih =>
    intro p cur hp hk hcur
    unfold f_X12_areGuarded_L67 f_X4_nextToGuard_L13
    simp only [if_pos ql, cl, e2, Option.bind_some]
    rw [if_pos hlis.is, es]
    simp only [Option.bind_some]
    rw [u2_iI, h29, it_le _ _ (by omega), it_le _ _ (by omega)]
    by_cases e : p = P
    · rw [if_pos (by omega), if_pos (by omega)]
      refine ⟨cur, hcur, rfl, rfl⟩
    · have hlt : p < P := by omega
      obtain ⟨c1, c2, c3, c4⟩ := hc p hlt
      have hget := hlis.get (i := (p : Int)) (x := pa p) (by omega) (by rw [Int.toNat_natCast]; exact rangeP_get pa hlt)
      have qp : inb (iI (p : Int)) 16 := (iI_inb _ 16 (by omega)).mpr (by omega)
      have cp : (iI (p : Int)).toNatClampNeg = p := by rw [iI_clamp _ (by omega)]; omega
      have v40 := vR_rng u 40 p
      have wp := hW p
      have rp := hR p
      have hnp : ¬ (P : Int) ≤ (p : Int) := by omega
      rw [if_neg hnp, if_neg hnp, if_pos hlis.is, hget]
      simp only [if_pos qp, cp, Option.bind_some]
      rw [if_pos (Or.inr c1), if_pos (isO_at hM), hf]
      simp only [Option.bind_some]
      rw [if_pos c1, c2]
      simp only [Option.bind_some]
      rw [if_pos c1, c3]
      simp only [Option.bind_some]
      rw [u2_iI u 40, iI_zero, it_eq _ _ (by omega), it_lt cur 0 (by omega), show (-1 : Int32) = iI (-1) from rfl, it_eq (R p) (-1) (by omega), iI_s, c4]
      simp only [Option.bind_some]
      by_cases g : vR u 40 p = 0
      · obtain ⟨g1, g2⟩ := (hG p hlt).mp g
        rw [if_pos g, if_pos g1]
        rcases hcur with h0 | ⟨h0, h1, h2⟩
        · rw [if_pos (show cur < 0 by omega), if_pos (show cur < 0 by omega), it_le _ _ (by omega), if_neg (by omega)]
          obtain ⟨r, r1, r2, r3⟩ := ih (p + 1) p (by omega) (by omega) (Or.inr ⟨by omega, by omega, by rw [Int.toNat_natCast]; exact g⟩)
          refine ⟨r, r1, r2, ?_⟩
          rw [if_neg (show ¬ (p : Int) < 0 by omega), if_neg (show ¬ (p : Int) < 0 by omega), Int.toNat_natCast] at r3
          exact r3
        · have c5 := (hc cur.toNat (by omega)).2.2.2
          rw [show ((cur.toNat : Nat) : Int) = cur by omega] at c5
          have wc := hW cur.toNat
          rw [if_neg (show ¬ cur < 0 by omega), if_neg (show ¬ cur < 0 by omega), c5]
          simp only [Option.bind_some]
          rw [it_le _ _ (by omega), it_le _ _ (by omega)]
          by_cases c6 : W p ≤ W cur.toNat
          · rw [if_pos c6, if_pos c6]
            obtain ⟨r, r1, r2, r3⟩ := ih (p + 1) cur (by omega) (by omega) (Or.inr ⟨h0, h1, h2⟩)
            refine ⟨r, r1, r2, ?_⟩
            rw [if_neg (show ¬ cur < 0 by omega), if_neg (show ¬ cur < 0 by omega)] at r3
            rw [if_neg (show ¬ cur < 0 by omega)]
            exact r3
          · rw [if_neg c6, if_neg c6]
            obtain ⟨r, r1, r2, r3⟩ := ih (p + 1) p (by omega) (by omega) (Or.inr ⟨by omega, by omega, by rw [Int.toNat_natCast]; exact g⟩)
            refine ⟨r, r1, r2, ?_⟩
            rw [if_neg (show ¬ (p : Int) < 0 by omega), if_neg (show ¬ (p : Int) < 0 by omega), Int.toNat_natCast] at r3
            exact r3
      · rw [if_neg g]
        obtain ⟨r, r1, r2, r3⟩ := ih (p + 1) cur (by omega) (by omega) hcur
        refine ⟨r, r1, r2, ?_⟩
        by_cases c7 : R p = -1
        · have hx : W p ≤ (if cur < 0 then lim else W cur.toNat) := by
            have g2 : ¬ lim < W p := fun z => g ((hG p hlt).mpr ⟨c7, z⟩)
            rcases hcur with h0 | ⟨h0, h1, h2⟩
            · rw [if_pos (by omega)]
              omega
            · have := ((hG cur.toNat (by omega)).mp h2).2
              rw [if_neg (by omega)]
              omega
          rw [if_pos c7, it_le _ _ (by
            have := hW cur.toNat
            split <;> omega), if_pos hx]
          exact r3
        · rw [if_neg c7]
          exact r3
end JNX
