/-! LOAN: which courier, both sides; a courier taken -/
section JBU
variable {u : MS} {M : Mem} {S : Nat → Nat} {rho A Cc : Nat → Nat} {l N x0 b6 id : Nat} {d0 d1 : Int} {T : Nat → Int} {rd : Nat → Bool}
theorem j_busy (hl : l < 17) (hN : N ≤ 8) (h19 : vN u 19 = N) (hh : HouOK u l) (hb : gR M (some x0) 14 4 = some (some b6)) (hlis : LisR S M rho id b6 ((List.range N).map A)) (n : Nat) (x2 x4 : Int32) (hc : ∀ c, c < N → isO M (some (A c)) 5 = true ∧ gR M (some (A c)) 5 2 = some (some (Cc c)) ∧ isO M (some (Cc c)) 4 = true ∧ f_X1_daysTaken M (some (Cc c)) = some (iI (T c)) ∧ f_X1_isOpen n M (some (Cc c)) (iI d0) (iI d1) = some (iI (if rd c = true then 1 else 0)) ∧ f_X12_isReady n u (iI c) (iI d0) (u.2 15 (vR u 25 l).toNat) (iI l + (1 : Int32)) = some (iI (if rd c = true then 1 else 0)) ∧ f_X12_busyDays n u (iI c) (iI l + (1 : Int32)) = some (iI (T c))) (hT : ∀ c, c < N → -2147483648 ≤ T c ∧ T c < 2147483648) : ∀ (k c : Nat) (cur : Int), c ≤ N → N - c < k → (cur = -1 ∨ (0 ≤ cur ∧ cur < N ∧ rd cur.toNat = true)) → ∃ r : Int, (r = -1 ∨ (0 ≤ r ∧ r < N ∧ rd r.toNat = true)) ∧ f_X12_areGuarded_L146 n u (iI l) x2 (iI d0) x4 k (iI cur) (iI (if cur < 0 then 0 else T cur.toNat)) (iI c) = some (iI r) ∧ f_X11_leastBusyCourier_L5 n M (some x0) (iI d0) (iI d1) k (if cur < 0 then none else some (A cur.toNat)) (iI c) = some (if r < 0 then none else some (A r.toNat)) := by
  obtain ⟨hh1, hh2⟩ := hh
  rw [Int.toNat_natCast] at hh1 hh2
  have ql : inb (iI (l : Int)) 17 := (iI_inb _ 17 (by omega)).mpr (by omega)
  have cl : (iI (l : Int)).toNatClampNeg = l := by rw [iI_clamp _ (by omega)]; omega
  have q25 : inb (u.2 25 l) 6 := by
    rw [u2_iI]
    exact (iI_inb _ 6 (by omega)).mpr (by omega)
  have c25 : (u.2 25 l).toNatClampNeg = (vR u 25 l).toNat := by
    rw [u2_iI, iI_clamp _ (by omega)]
  have es := hlis.size
  rw [List.length_map, List.length_range] at es
  have nz : ¬ (1 : Int32) = 0 := by decide
  intro k
  induction k with
  | zero => intro c cur _ h; omega
  | succ k ih =>
    intro c cur hp hk hcur
    unfold f_X12_areGuarded_L146 f_X11_leastBusyCourier_L5
    simp only [if_pos ql, cl, if_pos q25, c25, hb, Option.bind_some]
    rw [if_pos hlis.is, es]
    simp only [Option.bind_some]
    rw [u1_iI, h19, it_le _ _ (by omega), it_le _ _ (by omega)]
    by_cases e : c = N
    · rw [if_pos (by omega), if_pos (by omega)]
      exact ⟨cur, hcur, rfl, rfl⟩
    · have hlt : c < N := by omega
      have hnp : ¬ (N : Int) ≤ (c : Int) := by omega
      obtain ⟨c1, c2, c3, c4, c5, c6, c7⟩ := hc c hlt
      have hget := hlis.get (i := (c : Int)) (x := A c) (by omega) (by rw [Int.toNat_natCast]; exact rangeP_get A hlt)
      have tc := hT c hlt
      rw [if_neg hnp, if_neg hnp, if_pos hlis.is, hget]
      simp only [Option.bind_some]
      rw [if_pos (Or.inr c1), c6]
      simp only [c2, c4, c5, c7, if_pos c3, Option.bind_some]
      rw [iI_s]
      have keep := ih (c + 1) cur (by omega) (by omega) hcur
      rcases hcur with h0 | ⟨h0, h1, h2⟩
      · simp only [if_pos (show cur < 0 by omega), if_true, Option.bind_some, if_neg nz]
        simp only [if_pos (show cur < 0 by omega)] at keep
        by_cases r0 : rd c = true
        · simp only [if_pos r0, if_neg (show ¬ iI 1 = (0 : Int32) by decide)]
          rw [if_pos (show iI cur < 0 by rw [iI_zero, iI_lt _ _ (by omega)]; omega)]
          obtain ⟨r, z1, z2, z3⟩ := ih (c + 1) c (by omega) (by omega) (Or.inr ⟨by omega, by omega, by rw [Int.toNat_natCast]; exact r0⟩)
          simp only [if_neg (show ¬ (c : Int) < 0 by omega), Int.toNat_natCast] at z2 z3
          exact ⟨r, z1, z2, z3⟩
        · simp only [if_neg r0, if_pos (show iI 0 = (0 : Int32) from rfl)]
          exact keep
      · obtain ⟨y1, y2, y3, y4, -⟩ := hc cur.toNat (by omega)
        have tq := hT cur.toNat (by omega)
        simp only [if_neg (show ¬ cur < 0 by omega), reduceCtorEq, if_false, y2, y4, if_pos y3, Option.bind_some]
        simp only [if_neg (show ¬ cur < 0 by omega)] at keep
        by_cases t0 : T cur.toNat ≤ T c
        · rw [if_pos ((iI_le _ _ (by omega)).mpr t0)]
          simp only [Option.bind_some, if_true]
          by_cases r0 : rd c = true
          · simp only [if_pos r0, if_neg (show ¬ iI 1 = (0 : Int32) by decide)]
            rw [if_neg (show ¬ iI cur < 0 by rw [iI_zero, iI_lt _ _ (by omega)]; omega), if_neg (show ¬ iI (T c) < iI (T cur.toNat) by rw [iI_lt _ _ (by omega)]; omega)]
            exact keep
          · simp only [if_neg r0, if_pos (show iI 0 = (0 : Int32) from rfl)]
            exact keep
        · rw [if_neg (fun z => t0 ((iI_le _ _ (by omega)).mp z))]
          simp only [Option.bind_some, if_neg nz]
          by_cases r0 : rd c = true
          · simp only [if_pos r0, if_neg (show ¬ iI 1 = (0 : Int32) by decide)]
            rw [if_neg (show ¬ iI cur < 0 by rw [iI_zero, iI_lt _ _ (by omega)]; omega), if_pos (show iI (T c) < iI (T cur.toNat) by rw [iI_lt _ _ (by omega)]; omega)]
            obtain ⟨r, z1, z2, z3⟩ := ih (c + 1) c (by omega) (by omega) (Or.inr ⟨by omega, by omega, by rw [Int.toNat_natCast]; exact r0⟩)
            simp only [if_neg (show ¬ (c : Int) < 0 by omega), Int.toNat_natCast] at z2 z3
            exact ⟨r, z1, z2, z3⟩
          · simp only [if_neg r0, if_pos (show iI 0 = (0 : Int32) from rfl)]
            exact keep
end JBU
/-- days of a calendar are taken -/
theorem CalR.take {B : Nat} {M : Mem} {rho : Nat → Nat} {id a : Nat} {f : Int → Int} {tk : Int} (h : CalR M rho id a f tk) (hB : ∀ y, rho y = id → B ≤ y) (n : Nat) (hn : 1100 ≤ n) (s e : Int) (hs : 0 ≤ s ∧ s ≤ e + 1) (he : e ≤ 999) (v : Int) : ∃ M1, f_X1_take B n M (some a) (iI s) (iI e) (iI v) = some M1 ∧ (∀ y, rho y ≠ id → M1 y = M y) ∧ CalR M1 rho id a (fun k => if s ≤ k ∧ k ≤ e then v else f k) (tk + (e - s + 1)) := by
  obtain ⟨d, g, h1, h2, h3⟩ := h
  have hne : a ≠ d := fun q => by
    have := h2.1
    rw [← q, h1.1] at this
    cases this
  obtain ⟨M1, g1, e1, e2, e3, e4⟩ := z_fill (hB d h2.2) hne h1.1 h2.1 n hn s e hs he (iI v)
  have ha : M1 a = some (.inl (4, [.ref d, .int (iI tk)])) := (e4 a hne).trans h1.1
  obtain ⟨M4, p1, p2, p3⟩ := pF_ob (hB a h1.2) ha 1 (.int (iI tk + ((iI e - iI s) + (1 : Int32)))) (by simp)
  have g3 : gI M1 (some a) 4 1 = some (iI tk) := gI_at ha
  refine ⟨M4, ?_, fun y hy => ?_, d, g1, ⟨?_, h1.2⟩, ⟨(p3 d hne.symm).trans e2, h2.2⟩, fun k k1 k2 => ?_⟩
  · unfold f_X1_take
    rw [if_pos (isO_at h1.1), e1]
    simp only [Option.bind_some]
    rw [g3, Option.bind_some, p1]
    rfl
  · rw [p3 y (fun q => hy (by rw [q]; exact h1.2)), e4 y (fun q => hy (by rw [q]; exact h2.2))]
  · rw [p2, iI_sub, show (1 : Int32) = iI 1 from rfl, iI_add, iI_add]
    rfl
  · rw [e3]
    show _ = iI (if s ≤ k ∧ k ≤ e then v else f k)
    by_cases c : s ≤ k ∧ k ≤ e
    · rw [if_pos (by omega), if_pos c]
    · rw [if_neg (by omega), if_neg c]
      exact h3 k k1 k2
