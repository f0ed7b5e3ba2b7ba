/-! THE START: the class's state after its constructor -/
section STY
variable {B : Nat} {S : Nat → Nat} {L : Mem} {M : Mem} {sz x0 : Nat} {u : MS}
/-- the reference's numbers at the start -/
def U0 (u : MS) : Prop := (∀ k, k ≠ 3 → u.1 k = 0) ∧ u.1 3 = -9999 ∧ ∀ k i, u.2 k i = 0
theorem U0.vn (h : U0 u) {k : Nat} (hk : k ≠ 3) : vN u k = 0 := by
  unfold vN
  rw [h.1 k hk]
  rfl
theorem U0.inv (h : U0 u) (xl : Nat → List Nat) : Inv u xl := by
  have e1 := h.vn (k := 1) (by decide)
  have e5 := h.vn (k := 5) (by decide)
  have e10 := h.vn (k := 10) (by decide)
  have e14 := h.vn (k := 14) (by decide)
  have e19 := h.vn (k := 19) (by decide)
  have e23 := h.vn (k := 23) (by decide)
  have e33 := h.vn (k := 33) (by decide)
  refine ⟨⟨?_, fun i hi => ?_, fun i hi => ?_, fun i hi => ?_, fun i hi => ?_⟩, ⟨fun i hi => ?_, fun i hi => ?_⟩, ⟨fun i hi => ?_, fun i hi => ?_, fun i hi => ?_⟩, ⟨fun t d l l2 ht => ?_, fun t d l l2 ht => ?_, fun c d l hc => ?_, fun c l hc => ?_⟩⟩
  · unfold NumOK
    omega
  all_goals (first | (rw [e5] at hi; simp at hi) | (rw [e10] at hi; simp at hi) | (rw [e14] at hi; simp at hi) | (rw [e19] at hi; simp at hi) | (rw [e23] at hi; simp at hi) | (rw [e33] at hi; simp at hi) | (rw [e5] at ht; simp at ht) | (rw [e19] at ht; simp at ht) | (rw [e19] at hc; simp at hc))
theorem k_start (hL : LOK B L) (hcon : ∀ a e, L a = some e → M a = some e) (hx : B ≤ x0 ∧ x0 < sz) (hM : M x0 = some (.inl (14, [.null, .null, .null, .null, .null, .null, .int 0, .int 0, .int 0, .int 0, .int 0]))) (hu : U0 u) : ∃ (M1 : Mem) (sz1 : Nat) (ad rho : Nat → Nat), f_X11_init B S M sz (some x0) = some (M1, sz1) ∧ sz ≤ sz1 ∧ (∀ y, y ≠ x0 → y < sz → M1 y = M y) ∧ ∀ xl : Nat → List Nat, RepK B S L x0 ad rho xl M1 u sz1 := by
  obtain ⟨N3, e3, a3, b3, f3⟩ := z_x9New (B := B) (M := M) (sz := sz) (by omega)
  have t3 : N3 x0 = some (.inl (14, [.null, .null, .null, .null, .null, .null, .int 0, .int 0, .int 0, .int 0, .int 0])) := by rw [f3 x0 (by omega) (by omega)]; exact hM
  obtain ⟨N4, e4, t4, f4⟩ := pF_ob hx.1 t3 0 (va_rf (some sz)) (by simp)
  obtain ⟨N6, e6, a6, ⟨b6, c6, d6, g6, h6⟩, f6⟩ := z_x7New (B := B) (c := sz + 2) (sz := sz + 3) (M := va_up N4 (sz + 2) (some (.inl (10, [.null, .null, .int 0, .int 0, .int 0])))) (by omega) (by omega) (va_up_self ..)
  have t6 : N6 x0 = some (.inl (14, [.ref sz, .null, .null, .null, .null, .null, .int 0, .int 0, .int 0, .int 0, .int 0])) := by rw [f6 x0 (by omega) (by omega), va_up_ne _ _ (by omega)]; exact t4
  obtain ⟨N7, e7, t7, f7⟩ := pF_ob hx.1 t6 1 (va_rf (some (sz + 2))) (by simp)
  -- four rows
  obtain ⟨N9, e9, a9, f9⟩ := z_lisNew (B := B) (S := S) (c := sz + 8) (M := va_up N7 (sz + 8) (some (.inl (2, [.int 0, .null, .int 0])))) (by omega) (va_up_self ..)
  have t9 : N9 x0 = some (.inl (14, [.ref sz, .ref (sz + 2), .null, .null, .null, .null, .int 0, .int 0, .int 0, .int 0, .int 0])) := by rw [f9 x0 (by omega), va_up_ne _ _ (by omega)]; exact t7
  obtain ⟨N10, e10, t10, f10⟩ := pF_ob hx.1 t9 2 (va_rf (some (sz + 8))) (by simp)
  obtain ⟨N12, e12, a12, f12⟩ := z_lisNew (B := B) (S := S) (c := sz + 9) (M := va_up N10 (sz + 9) (some (.inl (2, [.int 0, .null, .int 0])))) (by omega) (va_up_self ..)
  have t12 : N12 x0 = some (.inl (14, [.ref sz, .ref (sz + 2), .ref (sz + 8), .null, .null, .null, .int 0, .int 0, .int 0, .int 0, .int 0])) := by rw [f12 x0 (by omega), va_up_ne _ _ (by omega)]; exact t10
  obtain ⟨N13, e13, t13, f13⟩ := pF_ob hx.1 t12 3 (va_rf (some (sz + 9))) (by simp)
  obtain ⟨N15, e15, a15, f15⟩ := z_lisNew (B := B) (S := S) (c := sz + 10) (M := va_up N13 (sz + 10) (some (.inl (2, [.int 0, .null, .int 0])))) (by omega) (va_up_self ..)
  have t15 : N15 x0 = some (.inl (14, [.ref sz, .ref (sz + 2), .ref (sz + 8), .ref (sz + 9), .null, .null, .int 0, .int 0, .int 0, .int 0, .int 0])) := by rw [f15 x0 (by omega), va_up_ne _ _ (by omega)]; exact t13
  obtain ⟨N16, e16, t16, f16⟩ := pF_ob hx.1 t15 4 (va_rf (some (sz + 10))) (by simp)
  obtain ⟨N18, e18, a18, f18⟩ := z_lisNew (B := B) (S := S) (c := sz + 11) (M := va_up N16 (sz + 11) (some (.inl (2, [.int 0, .null, .int 0])))) (by omega) (va_up_self ..)
  have t18 : N18 x0 = some (.inl (14, [.ref sz, .ref (sz + 2), .ref (sz + 8), .ref (sz + 9), .ref (sz + 10), .null, .int 0, .int 0, .int 0, .int 0, .int 0])) := by rw [f18 x0 (by omega), va_up_ne _ _ (by omega)]; exact t16
  obtain ⟨N19, e19, t19, f19⟩ := pF_ob hx.1 t18 5 (va_rf (some (sz + 11))) (by simp)
  have t19' : N19 x0 = some (.inl (14, [.ref sz, .ref (sz + 2), .ref (sz + 8), .ref (sz + 9), .ref (sz + 10), .ref (sz + 11), .int 0, .int 0, .int 0, .int 0, .int 0])) := t19
  obtain ⟨N20, e20, t20, f20⟩ := pF_ob hx.1 t19' 6 (.int (0 : Int32)) (by simp)
  have t20' : N20 x0 = some (.inl (14, [.ref sz, .ref (sz + 2), .ref (sz + 8), .ref (sz + 9), .ref (sz + 10), .ref (sz + 11), .int 0, .int 0, .int 0, .int 0, .int 0])) := t20
  obtain ⟨N21, e21, t21, f21⟩ := pF_ob hx.1 t20' 7 (.int (0 : Int32)) (by simp)
  have t21' : N21 x0 = some (.inl (14, [.ref sz, .ref (sz + 2), .ref (sz + 8), .ref (sz + 9), .ref (sz + 10), .ref (sz + 11), .int 0, .int 0, .int 0, .int 0, .int 0])) := t21
  obtain ⟨N22, e22, t22, f22⟩ := pF_ob hx.1 t21' 8 (.int (0 : Int32)) (by simp)
  have t22' : N22 x0 = some (.inl (14, [.ref sz, .ref (sz + 2), .ref (sz + 8), .ref (sz + 9), .ref (sz + 10), .ref (sz + 11), .int 0, .int 0, .int 0, .int 0, .int 0])) := t22
  obtain ⟨N23, e23, t23, f23⟩ := pF_ob hx.1 t22' 9 (.int (0 : Int32)) (by simp)
  have t23' : N23 x0 = some (.inl (14, [.ref sz, .ref (sz + 2), .ref (sz + 8), .ref (sz + 9), .ref (sz + 10), .ref (sz + 11), .int 0, .int 0, .int 0, .int 0, .int 0])) := t23
  obtain ⟨N24, e24, t24, f24⟩ := pF_ob hx.1 t23' 10 (.int (0 : Int32)) (by simp)
  have t24' : N24 x0 = some (.inl (14, [.ref sz, .ref (sz + 2), .ref (sz + 8), .ref (sz + 9), .ref (sz + 10), .ref (sz + 11), .int 0, .int 0, .int 0, .int 0, .int 0])) := t24
  have up19 : ∀ y, y ≠ x0 → N24 y = N19 y := fun y h => by rw [f24 y h, f23 y h, f22 y h, f21 y h, f20 y h]
  have up18 : ∀ y, y ≠ x0 → N24 y = N18 y := fun y h => by rw [up19 y h, f19 y h]
  have up15 : ∀ y, y ≠ x0 → y ≠ sz + 11 → N24 y = N15 y := fun y h q => by rw [up18 y h, f18 y q, va_up_ne _ _ q, f16 y h]
  have up12 : ∀ y, y ≠ x0 → y < sz + 10 → N24 y = N12 y := fun y h q => by rw [up15 y h (by omega), f15 y (by omega), va_up_ne _ _ (by omega), f13 y h]
  have up9 : ∀ y, y ≠ x0 → y < sz + 9 → N24 y = N9 y := fun y h q => by rw [up12 y h (by omega), f12 y (by omega), va_up_ne _ _ (by omega), f10 y h]
  have up6 : ∀ y, y ≠ x0 → y < sz + 8 → N24 y = N6 y := fun y h q => by rw [up9 y h (by omega), f9 y (by omega), va_up_ne _ _ (by omega), f7 y h]
  have up3 : ∀ y, y ≠ x0 → y < sz + 2 → N24 y = N3 y := fun y h q => by rw [up6 y h (by omega), f6 y (by omega) (by omega), va_up_ne _ _ (by omega), f4 y h]
  -- addresses and owners
  obtain ⟨ad, d2, d3, d4, d5, d6', d7⟩ : ∃ ad : Nat → Nat, ad 2 = sz ∧ ad 3 = sz + 2 ∧ ad 4 = sz + 8 ∧ ad 5 = sz + 9 ∧ ad 6 = sz + 10 ∧ ad 7 = sz + 11 := ⟨fun i => if i = 2 then sz else if i = 3 then sz + 2 else sz + 4 + i, rfl, rfl, rfl, rfl, rfl, rfl⟩
  obtain ⟨rho, r1, r2, r3, r4, r5, r6, r7, r0⟩ : ∃ rho : Nat → Nat, rho x0 = 1 ∧ (rho sz = 2 ∧ rho (sz + 1) = 2) ∧ (∀ y, sz + 2 ≤ y → y < sz + 8 → rho y = 3) ∧ rho (sz + 8) = 4 ∧ rho (sz + 9) = 5 ∧ rho (sz + 10) = 6 ∧ rho (sz + 11) = 7 ∧ ∀ y, rho y ≠ 0 → y = x0 ∨ (sz ≤ y ∧ y < sz + 12) := by
    have def1 : ∀ y, (fun y => if y = x0 then 1 else if y < sz then 0 else if y < sz + 2 then 2 else if y < sz + 8 then 3 else if y < sz + 12 then y - (sz + 4) else 0) y = if y = x0 then 1 else if y < sz then 0 else if y < sz + 2 then 2 else if y < sz + 8 then 3 else if y < sz + 12 then y - (sz + 4) else 0 := fun _ => rfl
    refine ⟨fun y => if y = x0 then 1 else if y < sz then 0 else if y < sz + 2 then 2 else if y < sz + 8 then 3 else if y < sz + 12 then y - (sz + 4) else 0, if_pos rfl, ⟨?_, ?_⟩, fun y h1 h2 => ?_, ?_, ?_, ?_, ?_, fun y hy => ?_⟩
    · rw [def1, if_neg (by omega), if_neg (by omega), if_pos (by omega)]
    · rw [def1, if_neg (by omega), if_neg (by omega), if_pos (by omega)]
    · rw [def1, if_neg (by omega), if_neg (by omega), if_neg (by omega), if_pos (by omega)]
    · rw [def1, if_neg (by omega), if_neg (by omega), if_neg (by omega), if_neg (by omega), if_pos (by omega)]
      omega
    · rw [def1, if_neg (by omega), if_neg (by omega), if_neg (by omega), if_neg (by omega), if_pos (by omega)]
      omega
    · rw [def1, if_neg (by omega), if_neg (by omega), if_neg (by omega), if_neg (by omega), if_pos (by omega)]
      omega
    · rw [def1, if_neg (by omega), if_neg (by omega), if_neg (by omega), if_neg (by omega), if_pos (by omega)]
      omega
    · rw [def1] at hy
      by_cases c1 : y = x0
      · exact Or.inl c1
      · right
        rw [if_neg c1] at hy
        by_cases c2 : y < sz
        · rw [if_pos c2] at hy
          exact absurd rfl hy
        · refine ⟨by omega, ?_⟩
          by_cases c3 : y < sz + 12
          · exact c3
          · rw [if_neg c2, if_neg (by omega), if_neg (by omega), if_neg c3] at hy
            exact absurd rfl hy
  have lis : ∀ (id a : Nat), N24 a = some (.inl (2, [.int 0, .ref (S 20), .int 0])) → rho a = id → LisR S N24 rho id a [] := fun id a h1 h2 => ⟨0, S 20, 0, fun _ => none, ⟨h1, h2⟩, Or.inl ⟨rfl, rfl⟩, Nat.le_refl _, fun k hk => by simp at hk⟩
  have seq0 : ∀ b k, k ≠ 3 → seqA ad b (vN u k) = [] := fun b k hk => by
    rw [hu.vn hk]
    rfl
  refine ⟨N24, sz + 12, ad, rho, ?_, by omega, fun y h1 h2 => ?_, fun xl => ⟨⟨fun a e ha => ?_, fun a ha => ?_⟩, ⟨⟨?_, r1⟩, ⟨fun k hk => ?_, sz + 1, ⟨?_, ?_⟩, ⟨?_, r2.2⟩⟩, ⟨sz + 3, sz + 7, sz + 4, sz + 5, sz + 6, 0, 0, 0, 0, ⟨?_, ?_⟩, ⟨?_, r3 _ (by omega) (by omega)⟩, ⟨fun _ => 0, ?_, r3 _ (by omega) (by omega)⟩, ⟨fun _ => 0, ?_, r3 _ (by omega) (by omega)⟩, ⟨fun _ => 0, ?_, r3 _ (by omega) (by omega)⟩, ⟨fun _ => 0, ?_, r3 _ (by omega) (by omega)⟩, by omega, by omega, by omega, by omega, by omega, by omega⟩, ?_, ?_, ?_, ?_⟩, fun i hi => ?_, fun i hi => ?_, fun i hi => ?_, fun i hi => ?_, fun i hi => ?_⟩⟩
  · unfold f_X11_init
    rw [if_pos (by simp)]
    simp only [Option.bind_some]
    rw [e3]
    simp only [Option.bind_some]
    rw [e4]
    simp only [Option.bind_some]
    rw [show sz + 2 + 1 = sz + 3 from rfl, e6]
    simp only [Option.bind_some]
    rw [e7]
    simp only [Option.bind_some]
    rw [show sz + 3 + 5 = sz + 8 from rfl, e9]
    simp only [Option.bind_some]
    rw [e10]
    simp only [Option.bind_some]
    rw [show sz + 8 + 1 = sz + 9 from rfl, e12]
    simp only [Option.bind_some]
    rw [e13]
    simp only [Option.bind_some]
    rw [show sz + 9 + 1 = sz + 10 from rfl, e15]
    simp only [Option.bind_some]
    rw [e16]
    simp only [Option.bind_some]
    rw [show sz + 10 + 1 = sz + 11 from rfl, e18]
    simp only [Option.bind_some]
    rw [e19]
    simp only [Option.bind_some]
    rw [e20]
    simp only [Option.bind_some]
    rw [e21]
    simp only [Option.bind_some]
    rw [e22]
    simp only [Option.bind_some]
    rw [e23]
    simp only [Option.bind_some]
    rw [e24]
    rfl
  · rw [up3 y h1 (by omega), f3 y (by omega) (by omega)]
  · have haB : a < B := by
      rcases Nat.lt_or_ge a B with q | q
      · exact q
      · rw [hL a q] at ha
        cases ha
    rw [up3 a (by omega) (by omega), f3 a (by omega) (by omega)]
    exact hcon a e ha
  · have := r0 a ha
    omega
  · have es : stdS u = 0 := by
      unfold stdS
      rw [hu.vn (by decide)]
      rfl
    rw [t24', es, hu.1 33 (by decide), hu.1 10 (by decide), hu.1 4 (by decide), hu.1 2 (by decide)]
    unfold booF
    rw [d2, d3, d4, d5, d6', d7]
    rfl
  · rw [hu.vn (by decide)] at hk
    simp at hk
  · rw [d2, up3 sz (by omega) (by omega), a3, hu.1 1 (by decide)]
  · rw [d2]
    exact r2.1
  · rw [up3 _ (by omega) (by omega), b3, show u.2 0 = fun _ => 0 from funext fun i => hu.2.2 0 i]
  · rw [d3, up6 _ (by omega) (by omega), a6, hu.2.1]
  · rw [d3]
    exact r3 _ (by omega) (by omega)
  · rw [up6 _ (by omega) (by omega)]
    exact b6
  · rw [up6 _ (by omega) (by omega)]
    exact h6
  · rw [up6 _ (by omega) (by omega)]
    exact c6
  · rw [up6 _ (by omega) (by omega)]
    exact d6
  · rw [up6 _ (by omega) (by omega)]
    exact g6
  · rw [seq0 _ _ (by decide), d4]
    exact lis 4 _ (by rw [up9 _ (by omega) (by omega)]; exact a9) r4
  · rw [seq0 _ _ (by decide), d5]
    exact lis 5 _ (by rw [up12 _ (by omega) (by omega)]; exact a12) r5
  · rw [seq0 _ _ (by decide), d6']
    exact lis 6 _ (by rw [up15 _ (by omega) (by omega)]; exact a15) r6
  · rw [seq0 _ _ (by decide), d7]
    exact lis 7 _ (by rw [up18 _ (by omega)]; exact a18) r7
  · rw [hu.vn (by decide)] at hi
    simp at hi
  · rw [hu.vn (by decide)] at hi
    simp at hi
  · rw [hu.vn (by decide)] at hi
    simp at hi
  · rw [hu.vn (by decide)] at hi
    simp at hi
  · rw [hu.vn (by decide)] at hi
    simp at hi
end STY
