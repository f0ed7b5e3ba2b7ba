/-! THE START: the class's constructor -/
section STX
variable {B : Nat} {S : Nat → Nat} {L : Mem} {M : Mem} {sz c x0 : Nat}
theorem c120 : ¬ (120 : Int32) < 0 ∧ ((120 : Int32) : Int32).toNatClampNeg ≤ 120 := by decide
theorem z_x9New (hB : B ≤ sz) : ∃ M1, f_X9_init B (va_up M sz (some (.inl (12, [.null, .int 0])))) (sz + 1) (some sz) = some (M1, sz + 2) ∧ M1 sz = some (.inl (12, [.ref (sz + 1), .int 0])) ∧ M1 (sz + 1) = some (.inr (.inl (0, 120, fun _ => 0))) ∧ ∀ y, y ≠ sz → y ≠ sz + 1 → M1 y = M y := by
  have h0 : (va_up M sz (some (.inl (12, [.null, .int 0])))) sz = some (.inl (12, [.null, .int 0])) := va_up_self ..
  have f0 : ∀ y, y ≠ sz → (va_up M sz (some (.inl (12, [.null, .int 0])))) y = M y := fun y hy => va_up_ne _ _ hy
  generalize va_up M sz (some (.inl (12, [.null, .int 0]))) = M0 at *
  have t2 : (va_up M0 (sz + 1) (some (.inr (.inl (0, 120, fun _ => 0))))) sz = some (.inl (12, [.null, .int 0])) := by rw [va_up_ne _ _ (by omega)]; exact h0
  obtain ⟨M4, e4, t4, f4⟩ := pF_ob hB t2 0 (va_rf (some (sz + 1))) (by simp)
  have t4' : M4 sz = some (.inl (12, [.ref (sz + 1), .int 0])) := t4
  obtain ⟨M5, e5, t5, f5⟩ := pF_ob hB t4' 1 (.int (0 : Int32)) (by simp)
  refine ⟨M5, ?_, t5, ?_, fun y h1 h2 => ?_⟩
  · unfold f_X9_init
    rw [if_pos (by simp), if_pos c120]
    simp only [Option.bind_some, show ((120 : Int32) : Int32).toNatClampNeg = 120 by decide]
    rw [e4]
    simp only [Option.bind_some]
    rw [e5]
    rfl
  · rw [f5 _ (by omega), f4 _ (by omega), va_up_self]
  · rw [f5 _ h1, f4 _ h1, va_up_ne _ _ h2, f0 _ h1]
theorem z_x6New (hB : B ≤ c) (hc : c < sz) (h0 : M c = some (.inl (9, [.null, .null, .null, .int 0, .int 0]))) : ∃ M1, f_X6_init B M sz (some c) = some (M1, sz + 3) ∧ M1 c = some (.inl (9, [.ref sz, .ref (sz + 1), .ref (sz + 2), .int 0, .int 0])) ∧ (M1 sz = some (.inr (.inl (0, 120, fun _ => 0))) ∧ M1 (sz + 1) = some (.inr (.inl (0, 120, fun _ => 0))) ∧ M1 (sz + 2) = some (.inr (.inl (0, 120, fun _ => 0)))) ∧ ∀ y, y ≠ c → y ≠ sz → y ≠ sz + 1 → y ≠ sz + 2 → M1 y = M y := by
  have t2 : (va_up M sz (some (.inr (.inl (0, 120, fun _ => 0))))) c = some (.inl (9, [.null, .null, .null, .int 0, .int 0])) := by rw [va_up_ne _ _ (by omega)]; exact h0
  obtain ⟨M4, e4, t4, f4⟩ := pF_ob hB t2 0 (va_rf (some sz)) (by simp)
  have t5 : (va_up M4 (sz + 1) (some (.inr (.inl (0, 120, fun _ => 0))))) c = some (.inl (9, [.ref sz, .null, .null, .int 0, .int 0])) := by rw [va_up_ne _ _ (by omega)]; exact t4
  obtain ⟨M7, e7, t7, f7⟩ := pF_ob hB t5 1 (va_rf (some (sz + 1))) (by simp)
  have t8 : (va_up M7 (sz + 2) (some (.inr (.inl (0, 120, fun _ => 0))))) c = some (.inl (9, [.ref sz, .ref (sz + 1), .null, .int 0, .int 0])) := by rw [va_up_ne _ _ (by omega)]; exact t7
  obtain ⟨M10, e10, t10, f10⟩ := pF_ob hB t8 2 (va_rf (some (sz + 2))) (by simp)
  have t10' : M10 c = some (.inl (9, [.ref sz, .ref (sz + 1), .ref (sz + 2), .int 0, .int 0])) := t10
  obtain ⟨M11, e11, t11, f11⟩ := pF_ob hB t10' 3 (.int (0 : Int32)) (by simp)
  have t11' : M11 c = some (.inl (9, [.ref sz, .ref (sz + 1), .ref (sz + 2), .int 0, .int 0])) := t11
  obtain ⟨M12, e12, t12, f12⟩ := pF_ob hB t11' 4 (.int (0 : Int32)) (by simp)
  refine ⟨M12, ?_, t12, ⟨?_, ?_, ?_⟩, fun y h1 h2 h3 h4 => ?_⟩
  · unfold f_X6_init
    simp only [if_pos c120, show ((120 : Int32) : Int32).toNatClampNeg = 120 by decide, Option.bind_some]
    rw [if_pos (by simp), e4]
    simp only [Option.bind_some]
    rw [e7]
    simp only [Option.bind_some]
    rw [show sz + 1 + 1 = sz + 2 from rfl, e10]
    simp only [Option.bind_some]
    rw [e11]
    simp only [Option.bind_some]
    rw [e12]
    rfl
  · rw [f12 _ (by omega), f11 _ (by omega), f10 _ (by omega), va_up_ne _ _ (by omega), f7 _ (by omega), va_up_ne _ _ (by omega), f4 _ (by omega), va_up_self]
  · rw [f12 _ (by omega), f11 _ (by omega), f10 _ (by omega), va_up_ne _ _ (by omega), f7 _ (by omega), va_up_self]
  · rw [f12 _ (by omega), f11 _ (by omega), f10 _ (by omega), va_up_self]
  · rw [f12 _ h1, f11 _ h1, f10 _ h1, va_up_ne _ _ h4, f7 _ h1, va_up_ne _ _ h3, f4 _ h1, va_up_ne _ _ h2]
theorem z_x7New (hB : B ≤ c) (hc : c < sz) (h0 : M c = some (.inl (10, [.null, .null, .int 0, .int 0, .int 0]))) : ∃ M1, f_X7_init B M sz (some c) = some (M1, sz + 5) ∧ M1 c = some (.inl (10, [.ref sz, .ref (sz + 4), .int 0, .int 0, .int (-9999)])) ∧ (M1 sz = some (.inl (9, [.ref (sz + 1), .ref (sz + 2), .ref (sz + 3), .int 0, .int 0])) ∧ M1 (sz + 1) = some (.inr (.inl (0, 120, fun _ => 0))) ∧ M1 (sz + 2) = some (.inr (.inl (0, 120, fun _ => 0))) ∧ M1 (sz + 3) = some (.inr (.inl (0, 120, fun _ => 0))) ∧ M1 (sz + 4) = some (.inr (.inl (0, 120, fun _ => 0)))) ∧ ∀ y, y ≠ c → y < sz → M1 y = M y := by
  obtain ⟨M3, e3, a3, ⟨b3, c3, d3⟩, f3⟩ := z_x6New (B := B) (c := sz) (sz := sz + 1) (M := va_up M sz (some (.inl (9, [.null, .null, .null, .int 0, .int 0])))) (by omega) (by omega) (va_up_self ..)
  have t3 : M3 c = some (.inl (10, [.null, .null, .int 0, .int 0, .int 0])) := by rw [f3 c (by omega) (by omega) (by omega) (by omega), va_up_ne _ _ (by omega)]; exact h0
  obtain ⟨M4, e4, t4, f4⟩ := pF_ob hB t3 0 (va_rf (some sz)) (by simp)
  have t5 : (va_up M4 (sz + 4) (some (.inr (.inl (0, 120, fun _ => 0))))) c = some (.inl (10, [.ref sz, .null, .int 0, .int 0, .int 0])) := by rw [va_up_ne _ _ (by omega)]; exact t4
  obtain ⟨M7, e7, t7, f7⟩ := pF_ob hB t5 1 (va_rf (some (sz + 4))) (by simp)
  have t7' : M7 c = some (.inl (10, [.ref sz, .ref (sz + 4), .int 0, .int 0, .int 0])) := t7
  obtain ⟨M8, e8, t8, f8⟩ := pF_ob hB t7' 2 (.int (0 : Int32)) (by simp)
  have t8' : M8 c = some (.inl (10, [.ref sz, .ref (sz + 4), .int 0, .int 0, .int 0])) := t8
  obtain ⟨M9, e9, t9, f9⟩ := pF_ob hB t8' 3 (.int (0 : Int32)) (by simp)
  have t9' : M9 c = some (.inl (10, [.ref sz, .ref (sz + 4), .int 0, .int 0, .int 0])) := t9
  obtain ⟨M10, e10, t10, f10⟩ := pF_ob hB t9' 4 (.int (-9999 : Int32)) (by simp)
  have up : ∀ y, y ≠ c → y ≠ sz + 4 → M10 y = M3 y := fun y h1 h2 => by rw [f10 _ h1, f9 _ h1, f8 _ h1, f7 _ h1, va_up_ne _ _ h2, f4 _ h1]
  refine ⟨M10, ?_, t10, ⟨?_, ?_, ?_, ?_, ?_⟩, fun y h1 h2 => ?_⟩
  · unfold f_X7_init
    simp only [if_pos c120, show ((120 : Int32) : Int32).toNatClampNeg = 120 by decide, Option.bind_some]
    rw [if_pos (by simp), e3]
    simp only [Option.bind_some]
    rw [e4]
    simp only [Option.bind_some]
    rw [show sz + 1 + 3 = sz + 4 from rfl, e7]
    simp only [Option.bind_some]
    rw [e8]
    simp only [Option.bind_some]
    rw [e9]
    simp only [Option.bind_some]
    rw [e10]
    rfl
  · rw [up _ (by omega) (by omega)]; exact a3
  · rw [up _ (by omega) (by omega)]; exact b3
  · rw [up _ (by omega) (by omega)]; exact c3
  · rw [up _ (by omega) (by omega)]; exact d3
  · rw [f10 _ (by omega), f9 _ (by omega), f8 _ (by omega), f7 _ (by omega), va_up_self]
  · rw [up y h1 (by omega), f3 y (by omega) (by omega) (by omega) (by omega), va_up_ne _ _ (by omega)]
end STX
