/-! LOAN: couriers for one way, both sides -/
section GSL
variable {B : Nat} {S : Nat → Nat} {L : Mem} {x0 : Nat} {ad rho rh pa : Nat → Nat} {xl : Nat → List Nat} {MK M1 M : Mem} {uS u1 u u2 : MS} {sz zz l P a0 : Nat} {ct : Nat → List Nat}
theorem E40.ready (h : E40 u u2) (c s e m : Int) : readyS u2 c s e m = readyS u c s e m := by
  unfold readyS
  refine allI_dec (fun d _ _ => ?_)
  unfold rdyP
  have eb : busyS u2 c d m = busyS u c d m := by
    unfold busyS
    exact fstI_congr (fun q _ _ => h.busy c d q)
  rw [h.may, eb]
theorem E40.way (h : E40 u u2) (q : Int) : wayS u2 q = wayS u q := by
  unfold wayS
  rw [h.vr (by decide), h.vr (by decide)]
theorem E40.day (h : E40 u u2) (s : Int) : dayS u2 l s = dayS u l s := by
  unfold dayS
  rw [h.vr (by decide), h.vr (by decide), h.way]
theorem GEq.day (h : GEq u1 u l) (s : Int) : dayS u l s = dayS u1 l s := by
  unfold dayS
  rw [h.vr (by decide), h.vr (by decide), h.way]
def mzS (u : MS) (P : Nat) : Int := sumI (fun p => if vR u 40 p.toNat = 0 then 1 else 0) P 0
theorem mz_pos {r : Nat} (hr : r < P) (h : vR u 40 r = 0) : 1 ≤ mzS u P := by
  have e := sumI_sub (fun p => if vR u 40 p.toNat = 0 then 1 else 0) (fun p => if p = (r : Int) then (if vR u 40 p.toNat = 0 then 1 else 0) - 1 else (if vR u 40 p.toNat = 0 then 1 else 0)) (r : Int) 1 P 0 (by omega) (fun k _ _ => rfl)
  have b := sumI_bnd (fun p => if p = (r : Int) then (if vR u 40 p.toNat = 0 then 1 else 0) - 1 else (if vR u 40 p.toNat = 0 then 1 else 0)) 1 P 0 (fun k _ _ => by
    show 0 ≤ (if k = (r : Int) then (if vR u 40 k.toNat = 0 then (1 : Int) else 0) - 1 else (if vR u 40 k.toNat = 0 then 1 else 0)) ∧ (if k = (r : Int) then (if vR u 40 k.toNat = 0 then (1 : Int) else 0) - 1 else (if vR u 40 k.toNat = 0 then 1 else 0)) ≤ 1
    by_cases c : k = r
    · rw [if_pos c, if_pos (by rw [c, Int.toNat_natCast]; exact h)]
      omega
    · rw [if_neg c]
      split <;> omega)
  unfold mzS
  omega
theorem mz_gu {o : Nat} (ho : o < P) (h : vR u 40 o = 0) (s c : Int) : mzS (guU u l o s c) P = mzS u P - 1 := by
  refine sumI_sub (fun p => if vR u 40 p.toNat = 0 then 1 else 0) (fun p => if vR (guU u l o s c) 40 p.toNat = 0 then 1 else 0) (o : Int) 1 P 0 (by omega) (fun k k1 _ => ?_)
  by_cases e : k = o
  · have ev : vR (guU u l o s c) 40 k.toNat = 1 := vR_eq (by
      rw [guU_2, if_neg (by split <;> omega), if_pos (by omega)]
      rfl) (by omega)
    rw [if_pos e]
    show (if vR (guU u l o s c) 40 k.toNat = 0 then (1 : Int) else 0) = (if vR u 40 k.toNat = 0 then 1 else 0) - 1
    rw [ev, if_neg (by omega), if_pos (by rw [e, Int.toNat_natCast]; exact h)]
    rfl
  · have ev : vR (guU u l o s c) 40 k.toNat = vR u 40 k.toNat := by
      unfold vR
      rw [guU_2, if_neg (by split <;> omega), if_neg (by omega)]
    rw [if_neg e]
    show (if vR (guU u l o s c) 40 k.toNat = 0 then (1 : Int) else 0) = _
    rw [ev]
def HG (u1 u : MS) (l P : Nat) (s : Int) : Prop := ∀ p : Nat, p < P → (vR u 40 p = 0 ↔ (vR u (if s = 1 then 31 else 32) (l * 16 + p) = -1 ∧ vR u 17 (vR u 25 l).toNat < worthS u1 l p (dayS u l s)))
theorem j_loop (F : Fix B S L x0 ad rho xl MK M1 uS u1 sz zz rh ct l P) {w s a : Int} (hs : (w = 0 ∧ s = 1 ∧ a = 1) ∨ (w = 1 ∧ s = 3 ∧ a = 0)) (n : Nat) (hn : 2100 ≤ n) : ∀ (m x6 k k2 : Nat) (u : MS) (M : Mem), x6 + m = P → mzS u P ≤ m → m < k → m < k2 → GS S ad rho M1 u1 rh a0 pa ct l P u M → HG u1 u l P s → ∃ (b : Int) (u' : MS) (M' : Mem), (b = 0 ∨ b = 1) ∧ f_X12_areGuarded_L61 n (iI l) (iI a) (iI (dayS u1 l s)) k u = some (iI b, u') ∧ f_X11_findCouriers_L24 B n (some x0) (some a0) (iI l) (iI w) (iI (dayS u1 l s)) (iI (dayS u1 l s + wayS u1 l - 1)) k2 M (iI x6) = some (iI b, M') ∧ GS S ad rho M1 u1 rh a0 pa ct l P u' M' ∧ ∀ p : Nat, vR u' (if s = 1 then 32 else 31) (l * 16 + p) = vR u (if s = 1 then 32 else 31) (l * 16 + p) := by
  have hw2 : (w = 0 ∧ s = 1) ∨ (w = 1 ∧ s = 3) := by omega
  have hs2 : s = 1 ∨ s = 3 := by omega
  intro m
  induction m with
  | zero =>
    intro x6 k k2 u M hx hmz hk hk2 h hG
    obtain ⟨k, rfl⟩ : ∃ k', k = k' + 1 := ⟨k - 1, by omega⟩
    obtain ⟨k2, rfl⟩ : ∃ k', k2 = k' + 1 := ⟨k2 - 1, by omega⟩
    have hP := F.2.2.2.2.2.1.2
    obtain ⟨r, r1, r2, -⟩ := h.next F hw2 n hn (iI a) hG
    obtain ⟨⟨q, d1, d2⟩, -⟩ := h.2.2.1
    have e2 : gR M (some a0) 7 2 = some (some q) := gR_at d1.1
    have es := d2.size
    rw [List.length_map, List.length_range] at es
    have hr : r = -1 := by
      rcases r1 with q1 | ⟨q1, q2, q3⟩
      · exact q1
      · have := mz_pos (P := P) (show r.toNat < P by omega) q3
        omega
    rw [h.1.day] at r2
    refine ⟨1, u, M, Or.inr rfl, ?_, ?_, h, fun _ => rfl⟩
    · unfold f_X12_areGuarded_L61
      rw [r2]
      simp only [Option.bind_some]
      rw [if_neg (show ¬ (0 : Int32) ≤ iI r by rw [hr]; decide)]
      rfl
    · unfold f_X11_findCouriers_L24
      rw [e2]
      simp only [Option.bind_some]
      rw [if_pos d2.is, es]
      simp only [Option.bind_some]
      rw [it_le _ _ (by omega), if_pos (by omega)]
      rfl
  | succ m ih =>
    intro x6 k k2 u M hx hmz hk hk2 h hG
    obtain ⟨k, rfl⟩ : ∃ k', k = k' + 1 := ⟨k - 1, by omega⟩
    obtain ⟨k2, rfl⟩ : ∃ k', k2 = k' + 1 := ⟨k2 - 1, by omega⟩
    have hP := F.2.2.2.2.2.1.2
    have hl := F.2.2.1.2
    obtain ⟨r, r1, r2, r3⟩ := h.next F hw2 n hn (iI a) hG
    have hd := h.1.day s
    have hwy := h.1.way l
    have hM0 := h.2.2.1
    obtain ⟨⟨q, d1, d2⟩, d3⟩ := hM0
    have e2 : gR M (some a0) 7 2 = some (some q) := gR_at d1.1
    have es := d2.size
    rw [List.length_map, List.length_range] at es
    have hx0 : isO M (some x0) 14 = true := by
      have hb := F.1.1.2.1.1
      obtain ⟨v4, hbk⟩ := F.2.2.2.2.2.2.2.2.2.1
      exact isO_at ((h.frm F (y := x0) (by rw [hb.2]; decide) (by rw [hb.2]; decide)).trans hbk)
    have hcl : ∀ R, (if r < 0 then (some (iI 1, M)) else R) = (if r < 0 then (some (iI 1, M)) else R) := fun _ => rfl
    rw [hd] at r2
    by_cases hr : r < 0
    · have hr1 : r = -1 := by omega
      rw [if_pos hr] at r3
      refine ⟨1, u, M, Or.inr rfl, ?_, ?_, h, fun _ => rfl⟩
      · unfold f_X12_areGuarded_L61
        rw [r2]
        simp only [Option.bind_some]
        rw [if_neg (show ¬ (0 : Int32) ≤ iI r by rw [hr1]; decide)]
        rfl
      · unfold f_X11_findCouriers_L24
        rw [e2]
        simp only [Option.bind_some]
        rw [if_pos d2.is, es]
        simp only [Option.bind_some]
        rw [it_le _ _ (by omega), if_neg (by omega), if_pos (isO_at d1.1), r3]
        simp only [Option.bind_some, if_true]
        rfl
    · obtain ⟨o, rfl⟩ : ∃ o : Nat, r = (o : Int) := ⟨r.toNat, by omega⟩
      rcases r1 with q1 | ⟨-, q2, q3⟩
      · omega
      rw [Int.toNat_natCast] at q3 r3
      rw [if_neg hr] at r3
      have ho : o < P := by omega
      obtain ⟨hm, -⟩ := (hG o ho).mp q3
      have hE : E40 u (uA u 40 o 1) := ⟨rfl, fun k hk => uA_n _ _ _ _ hk⟩
      have h2 := h.e40 hE
      obtain ⟨c, c1, c2, c3⟩ := h2.courier F hs2 n hn (iI a) (iI o)
      rw [hE.day, hE.way] at c1 c3
      rw [hE.day] at c2
      rw [hd] at c2
      rw [hd, hwy] at c3
      have qo : inb (iI (o : Int)) 16 := (iI_inb _ 16 (by omega)).mpr (by omega)
      have co : (iI (o : Int)).toNatClampNeg = o := by rw [iI_clamp _ (by omega)]; omega
      have hRef : ∀ X, f_X12_areGuarded_L146 n (uA u 40 o 1) (iI l) (iI a) (iI (dayS u1 l s)) (iI o) n (-1 : Int32) (0 : Int32) (0 : Int32) = some (iI c) → (if 0 ≤ iI c then (if iI a = 0 then (if inb ((iI l * (16 : Int32)) + iI o) 272 then (f_X12_areGuarded_L61 n (iI l) (iI a) (iI (dayS u1 l s)) k (uA (uA u 40 o 1) 32 ((iI l * (16 : Int32)) + iI o).toNatClampNeg (iI c))) else none) else (if inb ((iI l * (16 : Int32)) + iI o) 272 then (f_X12_areGuarded_L61 n (iI l) (iI a) (iI (dayS u1 l s)) k (uA (uA u 40 o 1) 31 ((iI l * (16 : Int32)) + iI o).toNatClampNeg (iI c))) else none)) else some ((0 : Int32), uA u 40 o 1)) = X → f_X12_areGuarded_L61 n (iI l) (iI a) (iI (dayS u1 l s)) (k + 1) u = X := fun X hX1 hX2 => by
        conv => lhs; unfold f_X12_areGuarded_L61
        rw [r2]
        simp only [Option.bind_some]
        rw [if_pos (show (0 : Int32) ≤ iI o by rw [iI_zero, iI_le _ _ (by omega)]; omega), if_pos qo]
        simp only [co]
        rw [hX1]
        exact hX2
      by_cases hc : c < 0
      · have hc1 : c = -1 := by omega
        rw [if_pos hc] at c3
        refine ⟨0, uA u 40 o 1, M, Or.inl rfl, hRef _ c2 ?_, ?_, h2, fun p => hE.vr (by split <;> decide) _⟩
        · rw [if_neg (show ¬ (0 : Int32) ≤ iI c by rw [hc1]; decide)]
          rfl
        · unfold f_X11_findCouriers_L24
          rw [e2]
          simp only [Option.bind_some]
          rw [if_pos d2.is, es]
          simp only [Option.bind_some]
          rw [it_le _ _ (by omega), if_neg (by omega), if_pos (isO_at d1.1), r3]
          simp only [Option.bind_some, reduceCtorEq, if_false]
          rw [if_pos hx0, c3]
          simp only [Option.bind_some, if_true]
          rfl
      · obtain ⟨c, rfl⟩ : ∃ c' : Nat, c = (c' : Int) := ⟨c.toNat, by omega⟩
        rcases c1 with q1 | ⟨-, q4, q5⟩
        · omega
        rw [Int.toNat_natCast] at q5 c3
        rw [hE.ready] at q5
        rw [if_neg hc] at c3
        have hvn : vN (uA u 40 o 1) 19 = vN u1 19 := h2.1.vn 19
        have hcN : c < (vN u1 19).toNat := by
          rw [hvn] at q4
          omega
        obtain ⟨Mx, M2, t1, t2, t3, t4, t5⟩ := h.step F hw2 ho hm hcN q5 n (by omega)
        rw [hd, hwy] at t1
        have hv := h.inv F
        obtain ⟨⟨w6, q6, -⟩, -⟩ := F.1.1.cou (i := c) (by rw [← hv.2.2.1, h.1.vn]; exact hcN)
        have hM6 : M (ad (6000 + c)) = some (.inl (5, [.int (iI c), .ref w6, .ref (ad (7000 + c))])) := (h.frK F (by rw [q6.2]; omega) (by rw [q6.2]; have := hv.1.n19; rw [h.1.vn] at this; omega)).trans q6.1
        have hX6 : Mx (ad (6000 + c)) = some (.inl (5, [.int (iI c), .ref w6, .ref (ad (7000 + c))])) := t4.trans ((F.2.2.2.2.2.2.2.2.1 _ (fun e => by
          have := F.1.1.2.1.1.2
          rw [← e, q6.2] at this
          omega)).symm.trans q6.1)
        have g7 : gR M (some (ad (6000 + c))) 5 2 = some (some (ad (7000 + c))) := gR_at hM6
        have g0 : gI Mx (some (ad (6000 + c))) 5 0 = some (iI c) := gI_at hX6
        have hcal := (h.2.2.2.1 c hcN).is
        have hG2 : HG u1 (guU u l o s c) l P s := fun p hp => by
          have e17 : vR (guU u l o s c) 17 (vR (guU u l o s c) 25 l).toNat = vR u 17 (vR u 25 l).toNat := by
            rw [guU_r u l o s c (by decide), guU_r u l o s c (by decide)]
          have ed : dayS (guU u l o s c) l s = dayS u l s := by rw [t5.1.day, hd]
          rw [e17, ed]
          by_cases e : p = o
          · subst e
            have v40 : vR (guU u l p s c) 40 p = 1 := vR_eq (by
              rw [guU_2, if_neg (by split <;> omega), if_pos ⟨rfl, rfl⟩]
              rfl) (by omega)
            have n19 := hv.1.n19
            rw [h.1.vn] at n19
            have v31 : vR (guU u l p s c) (if s = 1 then 31 else 32) (l * 16 + p) = c := vR_eq (by rw [guU_2, if_pos ⟨rfl, rfl⟩]) (by omega)
            rw [v40, v31]
            constructor
            · intro z
              omega
            · intro z
              omega
          · have v40 : vR (guU u l o s c) 40 p = vR u 40 p := by
              unfold vR
              rw [guU_2, if_neg (by split <;> omega), if_neg (by omega)]
            have v31 : vR (guU u l o s c) (if s = 1 then 31 else 32) (l * 16 + p) = vR u (if s = 1 then 31 else 32) (l * 16 + p) := by
              unfold vR
              rw [guU_2, if_neg (by omega), if_neg (by split <;> omega)]
            rw [v40, v31]
            exact hG p hp
        obtain ⟨b, u', M', w1, w2, w3, w4, w5⟩ := ih (x6 + 1) k k2 (guU u l o s c) M2 (by omega) (by rw [mz_gu ho q3]; omega) (by omega) (by omega) t5 hG2
        refine ⟨b, u', M', w1, hRef _ c2 ?_, ?_, w4, fun p => ?_⟩
        · have e16 : iI (l : Int) * (16 : Int32) + iI (o : Int) = iI ((l * 16 + o : Nat) : Int) := by
            rw [show (16 : Int32) = iI 16 from rfl, iI_mul, iI_add]
            congr 1
          have qx : inb (iI ((l * 16 + o : Nat) : Int)) 272 := (iI_inb _ 272 (by omega)).mpr (by omega)
          have cx : (iI ((l * 16 + o : Nat) : Int)).toNatClampNeg = l * 16 + o := by rw [iI_clamp _ (by omega)]; omega
          have n19 := hv.1.n19
          rw [h.1.vn] at n19
          rw [if_pos (show (0 : Int32) ≤ iI c by rw [iI_zero, iI_le _ _ (by omega)]; omega), e16, if_pos qx, if_pos qx, cx, ← w2]
          rcases hs with ⟨-, rfl, rfl⟩ | ⟨-, rfl, rfl⟩
          · rw [if_neg (show ¬ iI 1 = (0 : Int32) by decide)]
            rfl
          · rw [if_pos (show iI 0 = (0 : Int32) from rfl)]
            rfl
        · conv => lhs; unfold f_X11_findCouriers_L24
          rw [e2]
          simp only [Option.bind_some]
          rw [if_pos d2.is, es]
          simp only [Option.bind_some]
          rw [it_le _ _ (by omega), if_neg (by omega), if_pos (isO_at d1.1), r3]
          simp only [Option.bind_some, reduceCtorEq, if_false]
          rw [if_pos hx0, c3]
          simp only [Option.bind_some, reduceCtorEq, if_false]
          rw [g7]
          simp only [Option.bind_some]
          rw [if_pos hcal, t1]
          simp only [Option.bind_some]
          rw [g0]
          simp only [Option.bind_some]
          rw [if_pos t3, t2]
          simp only [Option.bind_some]
          rw [iI_s]
          exact w3
        · rw [w5]
          unfold vR
          rw [guU_2, if_neg (by rcases hs2 with rfl | rfl <;> simp), if_neg (by rcases hs2 with rfl | rfl <;> simp)]
end GSL
