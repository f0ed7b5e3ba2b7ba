/-! StringBuilder: numbers -/
def DigOK (S : Nat → Nat) (L : Mem) : Prop := (∃ f, L (S 21) = some (.inr (.inl (1, 100, f))) ∧ ∀ k : Int, 0 ≤ k → k < 100 → f k.toNat = iI (48 + k % 10)) ∧ ∃ f, L (S 22) = some (.inr (.inl (1, 100, f))) ∧ ∀ k : Int, 0 ≤ k → k < 100 → f k.toNat = iI (48 + k / 10)
theorem DigOK.of {S : Nat → Nat} {L M : Mem} (hS : DigOK S L) (hcon : ∀ y e, L y = some e → M y = some e) : DigOK S M := by
  obtain ⟨⟨f, h1, h2⟩, g, h3, h4⟩ := hS
  exact ⟨⟨f, hcon _ _ h1, h2⟩, g, hcon _ _ h3, h4⟩
theorem z_stringSize (n : Nat) (hn : 60 ≤ n) (M : Mem) (x : Int) (hx : 0 ≤ x ∧ x < 10000) : f_J6_stringSize_0f7a4 n M (iI x) = some (iI (numL x).length) := by
  obtain ⟨k, rfl⟩ : ∃ k, n = k + 1 + 1 + 1 + 1 + 1 := ⟨n - 5, by omega⟩
  have step : ∀ (k : Nat) (p d : Int), -1000000 ≤ p ∧ p ≤ -10 → 1 ≤ d ∧ d ≤ 9 → f_J6_stringSize_0f7a4_L16 (k + 1 + 1 + 1 + 1 + 1) M (iI (-x)) 0 (k + 1) (iI p) (iI d) = if -x ≤ p then f_J6_stringSize_0f7a4_L16 (k + 1 + 1 + 1 + 1 + 1) M (iI (-x)) 0 k (iI (10 * p)) (iI (d + 1)) else some (iI d) := fun k p d hp hd => by
    conv => lhs; unfold f_J6_stringSize_0f7a4_L16
    rw [show (10 : Int32) = iI 10 from rfl, it_le _ _ (by omega), if_neg (by omega), it_le _ _ (by omega), iI_mul, show (1 : Int32) = iI 1 from rfl, iI_add, show (0 : Int32) = iI 0 from rfl, iI_add, Int.add_zero]
  have step2 : ∀ (n2 k : Nat) (p d : Int), -1000000 ≤ p ∧ p ≤ -10 → 1 ≤ d ∧ d ≤ 9 → f_J6_stringSize_0f7a4_L16 n2 M (iI (-x)) 0 (k + 1) (iI p) (iI d) = if -x ≤ p then f_J6_stringSize_0f7a4_L16 n2 M (iI (-x)) 0 k (iI (10 * p)) (iI (d + 1)) else some (iI d) := fun n2 k p d hp hd => by
    conv => lhs; unfold f_J6_stringSize_0f7a4_L16
    rw [show (10 : Int32) = iI 10 from rfl, it_le _ _ (by omega), if_neg (by omega), it_le _ _ (by omega), iI_mul, show (1 : Int32) = iI 1 from rfl, iI_add, show (0 : Int32) = iI 0 from rfl, iI_add, Int.add_zero]
  unfold f_J6_stringSize_0f7a4
  have e0 : (iI x < (0 : Int32)) ↔ x < 0 := iI_lt x 0 (by omega)
  simp only [e0]
  rw [if_neg (by omega), iI_neg]
  simp only [Option.bind_some]
  rw [show (-10 : Int32) = iI (-10) from rfl, show (1 : Int32) = iI 1 from rfl, step2 _ _ _ _ (by omega) (by omega)]
  unfold numL
  by_cases c1 : x < 10
  · rw [if_neg (by omega), if_pos c1]
    rfl
  · rw [if_pos (by omega), if_neg c1, show (10 : Int) * -10 = -100 from rfl, show (1 : Int) + 1 = 2 from rfl, step2 _ _ _ _ (by omega) (by omega)]
    by_cases c2 : x < 100
    · rw [if_neg (by omega), if_pos c2]
      rfl
    · rw [if_pos (by omega), if_neg c2, show (10 : Int) * -100 = -1000 from rfl, show (2 : Int) + 1 = 3 from rfl, step2 _ _ _ _ (by omega) (by omega)]
      by_cases c3 : x < 1000
      · rw [if_neg (by omega), if_pos c3]
        rfl
      · rw [if_pos (by omega), if_neg c3, show (10 : Int) * -1000 = -10000 from rfl, show (3 : Int) + 1 = 4 from rfl, step2 _ _ _ _ (by omega) (by omega), if_neg (by omega)]
        rfl
section SB3
variable {B : Nat} {S : Nat → Nat} {L M : Mem} {b cap : Nat} {f : Nat → Int32}
/-- the last digits, with what they leave -/
theorem z_getChars (hD : DigOK S M) (hbS : b ≠ S 21 ∧ b ≠ S 22) (hB : B ≤ b) (hb : M b = some (.inr (.inl (1, cap, f)))) (hcap : cap ≤ 300) (n : Nat) (hn : 60 ≤ n) (x : Int) (hx : 0 ≤ x ∧ x < 10000) (p : Nat) (hp : p + (numL x).length ≤ cap) : ∃ (f1 : Nat → Int32) (r : Int32), f_J6_getChars_ba4f3 B S n M (iI x) (iI (p + (numL x).length : Nat)) (some b) = some (r, va_up M b (some (.inr (.inl (1, cap, f1))))) ∧ (∀ k, k < (numL x).length → f1 (p + k) = iI ((numL x).getD k 0)) ∧ ∀ k, (k < p ∨ p + (numL x).length ≤ k) → f1 k = f k := by
  obtain ⟨⟨g1, o1, o2⟩, g2, t1, t2⟩ := hD
  obtain ⟨k0, rfl⟩ : ∃ k, n = k + 1 + 1 := ⟨n - 2, by omega⟩
  have upup : ∀ (c c2 : Cel), va_up (va_up M b (some c)) b (some c2) = va_up M b (some c2) := fun c c2 => by
    funext y
    unfold va_up
    split <;> rfl
  have ones : ∀ (c : Cel) (r : Int), 0 ≤ r ∧ r < 100 → aI (va_up M b (some c)) 1 (some (S 21)) (iI r) = some (iI (48 + r % 10)) := fun c r hr => by
    rw [aI_at (by rw [va_up_ne _ _ hbS.1.symm]; exact o1) (by omega) (by omega), o2 r hr.1 hr.2]
  have tens : ∀ (c : Cel) (r : Int), 0 ≤ r ∧ r < 100 → aI (va_up M b (some c)) 1 (some (S 22)) (iI r) = some (iI (48 + r / 10)) := fun c r hr => by
    rw [aI_at (by rw [va_up_ne _ _ hbS.2.symm]; exact t1) (by omega) (by omega), t2 r hr.1 hr.2]
  have self : va_up M b (some (.inr (.inl (1, cap, f)))) = M := by
    funext y
    unfold va_up
    split
    · rename_i e; rw [e, hb]
    · rfl
  have ones0 : ∀ r : Int, 0 ≤ r ∧ r < 100 → aI M 1 (some (S 21)) (iI r) = some (iI (48 + r % 10)) := fun r hr => by
    rw [aI_at o1 (by omega) (by omega), o2 r hr.1 hr.2]
  have wr : ∀ (ff : Nat → Int32) (i : Int) (v : Int32), 0 ≤ i ∧ i < cap → sI B (va_up M b (some (.inr (.inl (1, cap, ff))))) 1 (some b) (iI i) v = some (va_up M b (some (.inr (.inl (1, cap, upd ff i.toNat v))))) := fun ff i v hi => by
    rw [sI_at hB (va_up_self ..) hi (by omega), upup]
  -- the tail: one or two digits
  have tail : ∀ (ff : Nat → Int32) (y : Int) (q : Nat), 0 ≤ y ∧ y < 100 → (if y < 10 then 1 else 2) ≤ q → q ≤ cap → ∃ (f1 : Nat → Int32) (r : Int32), ((aI (va_up M b (some (.inr (.inl (1, cap, ff))))) 1 (some (S 21)) (-iI (-y))).bind fun v15 => if (v15 : Int32).toInt8.toInt32 = v15 then ((sI B (va_up M b (some (.inr (.inl (1, cap, ff))))) 1 (some b) (iI (q : Int) + (-1 : Int32)) v15).bind fun M16 => if (-9 : Int32) ≤ iI (-y) then (some ((iI (q : Int) + (-1 : Int32)), M16)) else ((aI M16 1 (some (S 22)) (-iI (-y))).bind fun v21 => if (v21 : Int32).toInt8.toInt32 = v21 then ((sI B M16 1 (some b) ((iI (q : Int) + (-1 : Int32)) + (-1 : Int32)) v21).bind fun M22 => some (((iI (q : Int) + (-1 : Int32)) + (-1 : Int32)), M22)) else none)) else none) = some (r, va_up M b (some (.inr (.inl (1, cap, f1))))) ∧ f1 = (if y < 10 then upd ff (q - 1) (iI (48 + y)) else upd (upd ff (q - 1) (iI (48 + y % 10))) (q - 2) (iI (48 + y / 10))) := fun ff y q hy hq hqc => by
    have ch : ∀ z : Int, 0 ≤ z ∧ z ≤ 9 → (iI (48 + z)).toInt8.toInt32 = iI (48 + z) := fun z hz => (ch_iI (48 + z) (by omega)).2.2
    have e9 : ((-9 : Int32) ≤ iI (-y)) ↔ y < 10 := by
      rw [show (-9 : Int32) = iI (-9) from rfl, iI_le _ _ (by omega)]
      omega
    have hq1 : 1 ≤ q := by split at hq <;> omega
    rw [iI_neg, show (- -y : Int) = y by omega, ones _ y hy, Option.bind_some, if_pos (ch (y % 10) (by omega)), show iI (q : Int) + (-1 : Int32) = iI ((q - 1 : Nat) : Int) from by rw [iI_m1, iI_add]; congr 1; omega, wr _ _ _ (by omega), Option.bind_some, Int.toNat_natCast]
    simp only [e9]
    by_cases c : y < 10
    · rw [if_pos c, if_pos c, show y % 10 = y by omega]
      exact ⟨_, _, rfl, rfl⟩
    · rw [if_neg c] at hq
      rw [if_neg c, tens _ y hy, Option.bind_some, if_pos (ch (y / 10) (by omega)), show iI ((q - 1 : Nat) : Int) + (-1 : Int32) = iI ((q - 2 : Nat) : Int) from by rw [iI_m1, iI_add]; congr 1; omega, wr _ _ _ (by omega), Option.bind_some, Int.toNat_natCast, if_neg c]
      exact ⟨_, _, rfl, rfl⟩
  have loop0 : ∀ (k : Nat) (ff : Nat → Int32) (y : Int) (q : Int32), 0 ≤ y ∧ y < 100 → f_J6_getChars_ba4f3_L22 B S (k0 + 1 + 1) (some b) 0 (k + 1) (va_up M b (some (.inr (.inl (1, cap, ff))))) (iI (-y)) q = some (iI (-y), q, va_up M b (some (.inr (.inl (1, cap, ff))))) := fun k ff y q hy => by
    unfold f_J6_getChars_ba4f3_L22
    rw [if_pos (by rw [show (-100 : Int32) = iI (-100) from rfl, iI_lt _ _ (by omega)]; omega)]
  have loop1 : ∀ (k : Nat) (y : Int) (q : Nat), 100 ≤ y ∧ y < 10000 → 2 ≤ q → q ≤ cap → f_J6_getChars_ba4f3_L22 B S (k0 + 1 + 1) (some b) 0 (k + 1 + 1) M (iI (-y)) (iI (q : Int)) = some (iI (-(y / 100)), iI ((q - 2 : Nat) : Int), va_up M b (some (.inr (.inl (1, cap, upd (upd f (q - 1) (iI (48 + y % 100 % 10))) (q - 2) (iI (48 + y % 100 / 10))))))) := fun k y q hy hq hqc => by
    have ed : (-y).tdiv 100 = -(y / 100) := by rw [Int.neg_tdiv, Int.tdiv_eq_ediv_of_nonneg (by omega)]
    have er : (iI (-y) / iI 100) * iI 100 - iI (-y) = iI (y % 100) := by
      rw [iI_div _ _ (by omega), ed, iI_mul, iI_sub]
      congr 1
      omega
    have ch : ∀ z : Int, 0 ≤ z ∧ z ≤ 9 → (iI (48 + z)).toInt8.toInt32 = iI (48 + z) := fun z hz => (ch_iI (48 + z) (by omega)).2.2
    conv => lhs; unfold f_J6_getChars_ba4f3_L22
    rw [if_neg (by rw [show (-100 : Int32) = iI (-100) from rfl, iI_lt _ _ (by omega)]; omega), show (100 : Int32) = iI 100 from rfl, er, ones0 _ (by omega), Option.bind_some, if_pos (ch (y % 100 % 10) (by omega)), show iI (q : Int) + (-1 : Int32) = iI ((q - 1 : Nat) : Int) from by rw [iI_m1, iI_add]; congr 1; omega]
    have w1 := wr f ((q - 1 : Nat) : Int) (iI (48 + y % 100 % 10)) (by omega)
    rw [self] at w1
    rw [w1, Option.bind_some, Int.toNat_natCast, tens _ _ (by omega), Option.bind_some, if_pos (ch (y % 100 / 10) (by omega)), show iI ((q - 1 : Nat) : Int) + (-1 : Int32) = iI ((q - 2 : Nat) : Int) from by rw [iI_m1, iI_add]; congr 1; omega, wr _ _ _ (by omega), Option.bind_some, Int.toNat_natCast, iI_div _ _ (by omega), ed]
    exact loop0 k _ (y / 100) _ (by omega)
  unfold f_J6_getChars_ba4f3
  have e0 : ((0 : Int32) ≤ iI x) ↔ 0 ≤ x := iI_le 0 x (by omega)
  simp only [e0, if_pos hx.1, Option.bind_some, if_true, iI_neg]
  by_cases c : x < 100
  · have l0 := loop0 (k0 + 1) f x (iI (p + (numL x).length : Nat)) (by omega)
    rw [self] at l0
    rw [l0]
    simp only [Option.bind_some]
    obtain ⟨f1, r, y1, y2⟩ := tail f x (p + (numL x).length) (by omega) (by unfold numL; split <;> (try split) <;> simp) hp
    rw [self] at y1
    refine ⟨f1, r, y1, ?_, ?_⟩
    · intro k hk
      rw [y2]
      unfold numL at hk ⊢
      by_cases c1 : x < 10
      · simp only [if_pos c1] at hk ⊢
        simp at hk
        subst hk
        simp [upd]
      · simp only [if_neg c1, if_pos c] at hk ⊢
        simp at hk
        rcases (by omega : k = 0 ∨ k = 1) with rfl | rfl
        · simp [upd]
        · simp [upd]
    · intro k hk
      rw [y2]
      unfold numL at hk
      by_cases c1 : x < 10
      · simp only [if_pos c1] at hk ⊢
        simp at hk
        unfold upd numL
        rw [if_pos c1]
        simp
        intro e
        omega
      · simp only [if_neg c1, if_pos c] at hk ⊢
        simp at hk
        unfold upd numL
        rw [if_neg c1, if_pos c]
        simp
        rw [if_neg (by omega), if_neg (by omega)]
  · have hlen : (numL x).length = if x < 1000 then 3 else 4 := by
      unfold numL
      rw [if_neg (by omega), if_neg c]
      split <;> rfl
    have l1 := loop1 k0 x (p + (numL x).length) (by omega) (by rw [hlen]; split <;> omega) hp
    rw [l1]
    simp only [Option.bind_some]
    obtain ⟨f1, r, y1, y2⟩ := tail (upd (upd f (p + (numL x).length - 1) (iI (48 + x % 100 % 10))) (p + (numL x).length - 2) (iI (48 + x % 100 / 10))) (x / 100) (p + (numL x).length - 2) (by omega) (by rw [hlen]; split <;> split <;> omega) (by omega)
    refine ⟨f1, r, y1, ?_, ?_⟩
    · intro k hk
      rw [y2]
      by_cases c3 : x < 1000
      · rw [hlen, if_pos c3] at hk ⊢
        rw [if_pos (by omega)]
        unfold numL
        rw [if_neg (by omega), if_neg c, if_pos c3]
        rcases (by omega : k = 0 ∨ k = 1 ∨ k = 2) with rfl | rfl | rfl
        · simp [upd]
        · simp [upd]
          try (congr 1; omega)
        · simp [upd]
          try (congr 1; omega)
      · rw [hlen, if_neg c3] at hk ⊢
        rw [if_neg (by omega)]
        unfold numL
        rw [if_neg (by omega), if_neg c, if_neg c3]
        rcases (by omega : k = 0 ∨ k = 1 ∨ k = 2 ∨ k = 3) with rfl | rfl | rfl | rfl
        · simp [upd]
          try (congr 1; omega)
        · simp [upd]
        · simp [upd]
          try (congr 1; omega)
        · simp [upd]
          try (congr 1; omega)
    · intro k hk
      rw [y2]
      by_cases c3 : x < 1000
      · rw [hlen, if_pos c3] at hk ⊢
        rw [if_pos (by omega)]
        unfold upd
        rw [if_neg (by omega), if_neg (by omega), if_neg (by omega)]
      · rw [hlen, if_neg c3] at hk ⊢
        rw [if_neg (by omega)]
        unfold upd
        rw [if_neg (by omega), if_neg (by omega), if_neg (by omega), if_neg (by omega)]
end SB3
