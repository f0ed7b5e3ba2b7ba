/-! A CALENDAR GIVES A LOAN'S DAYS BACK -/
def CP (M : Mem) (a d : Nat) (g : Nat → Int32) (tk : Int) : Prop := M a = some (.inl (4, [.ref d, .int (iI tk)])) ∧ M d = some (.inr (.inl (0, 1000, g)))
section CPS
variable {B : Nat} {M : Mem} {a d : Nat} {g : Nat → Int32} {tk : Int}
theorem CP.ne (h : CP M a d g tk) : a ≠ d := by
  intro e
  have h1 := h.1
  rw [e, h.2] at h1
  cases h1
theorem CP.setG (h : CP M a d g tk) (g1 : Nat → Int32) : CP (va_up M d (some (.inr (.inl (0, 1000, g1))))) a d g1 tk := ⟨by rw [va_up_ne _ _ h.ne]; exact h.1, va_up_self ..⟩
theorem CP.setT (h : CP M a d g tk) (t1 : Int) : CP (va_up M a (some (.inl (4, [.ref d, .int (iI t1)])))) a d g t1 := ⟨va_up_self .., by rw [va_up_ne _ _ h.ne.symm]; exact h.2⟩
def relG (g : Nat → Int32) (l : Int) (i : Nat) : Nat → Int32 := fun k => if k < i ∧ g k = iI l then iI (-1) else g k
theorem relG_skip (g : Nat → Int32) (l : Int) (i : Nat) (h : g i ≠ iI l) : relG g l (i + 1) = relG g l i := by
  funext k
  unfold relG
  by_cases e : k = i
  · subst e
    rw [if_neg (fun q => h q.2), if_neg (fun q => h q.2)]
  · by_cases c : k < i ∧ g k = iI l
    · rw [if_pos c, if_pos ⟨by omega, c.2⟩]
    · rw [if_neg c, if_neg (fun q => c ⟨by omega, q.2⟩)]
theorem relG_hit (g : Nat → Int32) (l : Int) (i : Nat) (h : g i = iI l) : relG g l (i + 1) = upd (relG g l i) i (iI (-1)) := by
  funext k
  unfold relG upd
  by_cases e : k = i
  · subst e
    rw [if_pos rfl, if_pos ⟨by omega, h⟩]
  · rw [if_neg e]
    show (if k < i + 1 ∧ g k = iI l then iI (-1) else g k) = (if k < i ∧ g k = iI l then iI (-1) else g k)
    by_cases c : k < i ∧ g k = iI l
    · rw [if_pos c, if_pos ⟨by omega, c.2⟩]
    · rw [if_neg c, if_neg (fun q => c ⟨by omega, q.2⟩)]
theorem z_release_L (f : Int → Int) (hB : B ≤ a ∧ B ≤ d) (n : Nat) (l tk : Int) (hl : -2147483648 ≤ l ∧ l < 2147483648) (hf : ∀ k : Int, 0 ≤ k → k < 1000 → g k.toNat = iI (f k) ∧ -2147483648 ≤ f k ∧ f k < 2147483648) : ∀ (k i : Nat) (Mz : Mem), i ≤ 1000 → 1000 - i < k → CP Mz a d (relG g l i) (tk - sumI (fun x => if f x = l then 1 else 0) i 0) → ∃ M1, f_X1_release_L2 B n (some a) (iI l) k Mz (iI i) = some M1 ∧ CP M1 a d (relG g l 1000) (tk - sumI (fun x => if f x = l then 1 else 0) 1000 0) ∧ ∀ y, y ≠ a → y ≠ d → M1 y = Mz y := by
  intro k
  induction k with
  | zero => intro i Mz _ h; omega
  | succ k ih =>
    intro i Mz hi hk hC
    unfold f_X1_release_L2
    rw [show (1000 : Int32) = iI 1000 from rfl, it_le _ _ (by omega)]
    by_cases e : i = 1000
    · subst e
      rw [if_pos (by omega)]
      exact ⟨Mz, rfl, hC, fun y _ _ => rfl⟩
    · obtain ⟨f1, f2, f3⟩ := hf i (by omega) (by omega)
      rw [Int.toNat_natCast] at f1
      have hgi : relG g l i i = iI (f i) := by
        unfold relG
        rw [if_neg (by omega), f1]
      rw [if_neg (by omega), gR_at hC.1]
      simp only [List.getElem?_cons_zero, Option.bind_some]
      rw [aI_at hC.2 (by omega) (by omega), Option.bind_some, Int.toNat_natCast, hgi, it_eq _ _ (by omega)]
      by_cases c : f i = l
      · have hC2 := hC.setG (relG g l (i + 1))
        have hC3 := hC2.setT (tk - sumI (fun x => if f x = l then 1 else 0) (i + 1 : Nat) 0)
        rw [if_pos c, sI_at hB.2 hC.2 (by omega) (by omega), Option.bind_some, Int.toNat_natCast, show (-1 : Int32) = iI (-1) from rfl, ← relG_hit g l i (by rw [f1, c]), gI_at hC2.1]
        simp only [List.getElem?_cons_zero, List.getElem?_cons_succ, Option.bind_some]
        rw [show (1 : Int32) = iI 1 from rfl, iI_sub, pF_at hB.1 hC2.1, if_pos (by simp), Option.bind_some, iI_add]
        obtain ⟨M1, e1, e2, e3⟩ := ih (i + 1) _ (by omega) (by omega) hC3
        rw [sumI_last, Int.zero_add, if_pos c] at e1 
        refine ⟨M1, ?_, e2, fun y y1 y2 => by rw [e3 y y1 y2, va_up_ne _ _ y1, va_up_ne _ _ y2]⟩
        rw [← e1, show tk - (sumI (fun x => if f x = l then 1 else 0) i 0 + 1) = tk - sumI (fun x => if f x = l then 1 else 0) i 0 - 1 by omega]
        rfl
      · rw [if_neg c, show (1 : Int32) = iI 1 from rfl, iI_add]
        have hs : sumI (fun x => if f x = l then 1 else 0) (i + 1) 0 = sumI (fun x => if f x = l then 1 else 0) i 0 := by
          rw [sumI_last, Int.zero_add, if_neg c, Int.add_zero]
        obtain ⟨M1, e1, e2, e3⟩ := ih (i + 1) Mz (by omega) (by omega) (by
          rw [relG_skip g l i (by rw [f1]; intro q; exact c ((iI_eq _ _ (by omega)).mp q)), hs]
          exact hC)
        push_cast at e1
        exact ⟨M1, e1, e2, e3⟩
end CPS
def relF (f : Int → Int) (l : Int) : Int → Int := fun k => if f k = l then -1 else f k
theorem CalR.cp {M : Mem} {rho : Nat → Nat} {id a : Nat} {f : Int → Int} {tk : Int} (h : CalR M rho id a f tk) : ∃ d g, CP M a d g tk ∧ (rho a = id ∧ rho d = id) ∧ ∀ k : Int, 0 ≤ k → k < 1000 → g k.toNat = iI (f k) := by
  obtain ⟨d, g, h1, h2, h3⟩ := h
  exact ⟨d, g, ⟨h1.1, h2.1⟩, ⟨h1.2, h2.2⟩, h3⟩
theorem CalR.release {B : Nat} {M : Mem} {rho : Nat → Nat} {id a : Nat} {f : Int → Int} {tk : Int} (h : CalR M rho id a f tk) (hB : ∀ q, rho q = id → B ≤ q) (hf : ∀ k : Int, 0 ≤ k → k < 1000 → -2147483648 ≤ f k ∧ f k < 2147483648) (n : Nat) (hn : 1100 ≤ n) (l : Int) (hl : -2147483648 ≤ l ∧ l < 2147483648) : ∃ M1, f_X1_release B n M (some a) (iI l) = some M1 ∧ CalR M1 rho id a (relF f l) (tk - sumI (fun x => if f x = l then 1 else 0) 1000 0) ∧ ∀ y, rho y ≠ id → M1 y = M y := by
  obtain ⟨d, g, hC, ho, hg⟩ := h.cp
  obtain ⟨M1, e1, e2, e3⟩ := z_release_L f ⟨hB _ ho.1, hB _ ho.2⟩ n l tk hl (fun k k0 k1 => ⟨hg k k0 k1, hf k k0 k1⟩) n 0 M (by omega) (by omega) (by
    have e0 : relG g l 0 = g := by
      funext k
      unfold relG
      rw [if_neg (by omega)]
    rw [e0, sumI, Int.sub_zero]
    exact hC)
  refine ⟨M1, e1, ⟨d, _, ⟨e2.1, ho.1⟩, ⟨e2.2, ho.2⟩, fun k k0 k1 => ?_⟩, fun y hy => e3 y (fun e => hy (by rw [e]; exact ho.1)) (fun e => hy (by rw [e]; exact ho.2))⟩
  have := hf k k0 k1
  unfold relG relF
  rw [hg k k0 k1]
  by_cases c : f k = l
  · rw [if_pos ⟨by omega, by rw [c]⟩, if_pos c]
  · rw [if_neg (fun q => c ((iI_eq _ _ (by omega)).mp q.2)), if_neg c]
section RELS
variable {B : Nat} {S : Nat → Nat} {L : Mem} {x0 : Nat} {ad rho : Nat → Nat} {M : Mem}
/-- all things, all couriers give a loan's days back -/
theorem z_relThings_L {fs : List Value} {N : Nat} (hN : N ≤ 1000) (f : Nat → Int → Int) (hf : ∀ i k, -2147483648 ≤ f i k ∧ f i k < 2147483648) (tk : Nat → Int) (n : Nat) (hn : 1100 ≤ n) (l : Int) (hl : -2147483648 ≤ l ∧ l < 2147483648) (hown : ∀ a, rho a ≠ 0 → B ≤ a) (hfs : fs[2]? = some (.ref (ad 4))) : ∀ (k i : Nat) (Mz : Mem), i ≤ N → N - i < k → Mz x0 = some (.inl (14, fs)) → rho x0 = 1 → LisR S Mz rho 4 (ad 4) (seqA ad 1000 N) → (∀ j, j < N → ∃ r, At Mz rho (1000 + j) (ad (1000 + j)) (.inl (13, r)) ∧ r[4]? = some (.ref (ad (2000 + j)))) → (∀ j, i ≤ j → j < N → CalR Mz rho (2000 + j) (ad (2000 + j)) (f j) (tk j)) → (∀ j, j < i → ∃ t, CalR Mz rho (2000 + j) (ad (2000 + j)) (relF (f j) l) t) → ∃ M1, f_X11_releaseThings_L2 B n (some x0) (iI l) k Mz (iI i) = some M1 ∧ (∀ j, j < N → ∃ t, CalR M1 rho (2000 + j) (ad (2000 + j)) (relF (f j) l) t) ∧ ∀ y, (∀ j, j < N → rho y ≠ 2000 + j) → M1 y = Mz y := by
  intro k
  induction k with
  | zero => intro i Mz _ h; omega
  | succ k ih =>
    intro i Mz hi hk hb ho hl4 hth hc1 hc2
    unfold f_X11_releaseThings_L2
    rw [gR_at hb, hfs]
    simp only [Option.bind_some]
    rw [hl4.is, if_pos rfl, hl4.size, Option.bind_some, seqA_len, it_le _ _ (by omega)]
    by_cases e : i = N
    · subst e
      rw [if_pos (by omega)]
      exact ⟨Mz, rfl, hc2, fun y _ => rfl⟩
    · obtain ⟨r, g1, g2⟩ := hth i (by omega)
      have hci := hc1 i (Nat.le_refl _) (by omega)
      rw [if_neg (by omega), if_pos rfl, hl4.get (x := ad (1000 + i)) (by omega) (by rw [Int.toNat_natCast]; exact seqA_get _ _ _ _ (by omega)), Option.bind_some, if_pos (Or.inr (isO_at g1.1)), gR_at g1.1, g2]
      simp only [Option.bind_some]
      obtain ⟨M1, z1, z2, z3⟩ := hci.release (B := B) (fun q hq => hown q (by omega)) (fun k _ _ => hf i k) n hn l hl
      have kp : ∀ id, id ≠ 2000 + i → Kept Mz rho id M1 rho := fun id hid y hy => ⟨z3 y (by omega), hy⟩
      rw [hci.is, if_pos rfl, z1, Option.bind_some, show (1 : Int32) = iI 1 from rfl, iI_add]
      obtain ⟨M2, y1, y2, y3⟩ := ih (i + 1) M1 (by omega) (by omega) ((z3 x0 (by omega)).trans hb) ho (hl4.fr (kp 4 (by omega))) (fun j hj => by
        obtain ⟨r, g1, g2⟩ := hth j hj
        exact ⟨r, g1.fr (kp _ (by omega)), g2⟩) (fun j j0 j1 => (hc1 j (by omega) j1).fr (kp _ (by omega))) (fun j hj => by
        by_cases c : j = i
        · subst c
          exact ⟨_, z2⟩
        · obtain ⟨t, ht⟩ := hc2 j (by omega)
          exact ⟨t, ht.fr (kp _ (by omega))⟩)
      push_cast at y1
      refine ⟨M2, y1, y2, fun y hy => (y3 y hy).trans (z3 y (hy i (by omega)))⟩
theorem z_relCou_L {fs : List Value} {N : Nat} (hN : N ≤ 1000) (f : Nat → Int → Int) (hf : ∀ i k, -2147483648 ≤ f i k ∧ f i k < 2147483648) (tk : Nat → Int) (n : Nat) (hn : 1100 ≤ n) (l : Int) (hl : -2147483648 ≤ l ∧ l < 2147483648) (hown : ∀ a, rho a ≠ 0 → B ≤ a) (hfs : fs[4]? = some (.ref (ad 6))) : ∀ (k i : Nat) (Mz : Mem), i ≤ N → N - i < k → Mz x0 = some (.inl (14, fs)) → rho x0 = 1 → LisR S Mz rho 6 (ad 6) (seqA ad 6000 N) → (∀ j, j < N → ∃ r, At Mz rho (6000 + j) (ad (6000 + j)) (.inl (5, r)) ∧ r[2]? = some (.ref (ad (7000 + j)))) → (∀ j, i ≤ j → j < N → CalR Mz rho (7000 + j) (ad (7000 + j)) (f j) (tk j)) → (∀ j, j < i → CalR Mz rho (7000 + j) (ad (7000 + j)) (relF (f j) l) (tk j - sumI (fun x => if f j x = l then 1 else 0) 1000 0)) → ∃ M1, f_X11_releaseCouriers_L2 B n (some x0) (iI l) k Mz (iI i) = some M1 ∧ (∀ j, j < N → CalR M1 rho (7000 + j) (ad (7000 + j)) (relF (f j) l) (tk j - sumI (fun x => if f j x = l then 1 else 0) 1000 0)) ∧ ∀ y, (∀ j, j < N → rho y ≠ 7000 + j) → M1 y = Mz y := by
  intro k
  induction k with
  | zero => intro i Mz _ h; omega
  | succ k ih =>
    intro i Mz hi hk hb ho hl4 hth hc1 hc2
    unfold f_X11_releaseCouriers_L2
    rw [gR_at hb, hfs]
    simp only [Option.bind_some]
    rw [hl4.is, if_pos rfl, hl4.size, Option.bind_some, seqA_len, it_le _ _ (by omega)]
    by_cases e : i = N
    · subst e
      rw [if_pos (by omega)]
      exact ⟨Mz, rfl, hc2, fun y _ => rfl⟩
    · obtain ⟨r, g1, g2⟩ := hth i (by omega)
      have hci := hc1 i (Nat.le_refl _) (by omega)
      rw [if_neg (by omega), if_pos rfl, hl4.get (x := ad (6000 + i)) (by omega) (by rw [Int.toNat_natCast]; exact seqA_get _ _ _ _ (by omega)), Option.bind_some, if_pos (Or.inr (isO_at g1.1)), gR_at g1.1, g2]
      simp only [Option.bind_some]
      obtain ⟨M1, z1, z2, z3⟩ := hci.release (B := B) (fun q hq => hown q (by omega)) (fun k _ _ => hf i k) n hn l hl
      have kp : ∀ id, id ≠ 7000 + i → Kept Mz rho id M1 rho := fun id hid y hy => ⟨z3 y (by omega), hy⟩
      rw [hci.is, if_pos rfl, z1, Option.bind_some, show (1 : Int32) = iI 1 from rfl, iI_add]
      obtain ⟨M2, y1, y2, y3⟩ := ih (i + 1) M1 (by omega) (by omega) ((z3 x0 (by omega)).trans hb) ho (hl4.fr (kp 6 (by omega))) (fun j hj => by
        obtain ⟨r, g1, g2⟩ := hth j hj
        exact ⟨r, g1.fr (kp _ (by omega)), g2⟩) (fun j j0 j1 => (hc1 j (by omega) j1).fr (kp _ (by omega))) (fun j hj => by
        by_cases c : j = i
        · subst c
          exact z2
        · exact (hc2 j (by omega)).fr (kp _ (by omega)))
      push_cast at y1
      refine ⟨M2, y1, y2, fun y hy => (y3 y hy).trans (z3 y (hy i (by omega)))⟩
end RELS
