/-! a list grows by one -/
def EmpOK (S : Nat → Nat) (M : Mem) : Prop := ∃ h, M (S 20) = some (.inr (.inr (3, 0, h)))
theorem isE_up (M : Mem) (z y : Nat) (c : Option Cel) (h : y ≠ z) : isE (va_up M z c) (some y) = isE M (some y) := by
  unfold isE
  simp only [va_up_ne M c h]
theorem isE_fr {M M1 : Mem} {y : Nat} (h : M1 y = M y) : isE M1 (some y) = isE M (some y) := by
  unfold isE
  simp only [h]
theorem ushr1 (c : Nat) (h : c = 0 ∨ c = 10 ∨ c = 15 ∨ c = 22 ∨ c = 33) : iI (c : Int) >>> ((1 : Int32) &&& 31) = iI ((c / 2 : Nat) : Int) := by
  rcases h with rfl | rfl | rfl | rfl | rfl <;> decide
section LADD
variable {B : Nat} {S : Nat → Nat} {M : Mem} {sz a e cap n : Nat} {mc : Int32} {h : Nat → Option Nat}
theorem z_copyOf (hB : B ≤ sz ∧ B ≤ e) (he : M e = some (.inr (.inr (3, cap, h)))) (hes : e < sz) (c2 : Nat) (hc : cap ≤ c2 ∧ c2 ≤ 80) (hE : ∀ k, k < cap → h k = none ∨ isE M (h k) = true) (hlt : ∀ k y, k < cap → h k = some y → y < sz) : f_J7_copyOf_1904c B S M sz (some e) (iI (c2 : Int)) = some (some sz, va_up M sz (some (.inr (.inr (3, c2, va_cpy h (fun _ => none) 0 0 cap)))), sz + 1) := by
  have ec2 : (iI (c2 : Int)).toNatClampNeg = c2 := by rw [iI_clamp _ (by omega)]; omega
  have ecap : (iI (cap : Int)).toNatClampNeg = cap := by rw [iI_clamp _ (by omega)]; omega
  have n1 : ¬ (iI (c2 : Int)) < (0 : Int32) := by
    rw [iI_zero, iI_lt _ _ (by omega)]
    omega
  have n2 : ¬ (iI (cap : Int)) < (0 : Int32) := by
    rw [iI_zero, iI_lt _ _ (by omega)]
    omega
  have h3 : isR3 M (some e) = true := by
    unfold isR3
    simp only [he]
    rfl
  have hM : (va_up M sz (some (.inr (.inr (3, c2, fun _ => none))))) e = some (.inr (.inr (3, cap, h))) := by rw [va_up_ne _ _ (by omega)]; exact he
  unfold f_J7_copyOf_1904c f_J7_copyOf_6403c
  rw [if_pos h3, if_pos rfl, ec2, if_pos ⟨n1, hc.2⟩]
  simp only [Option.bind_some]
  rw [aL_r hM, Option.bind_some, it_lt _ _ (by omega)]
  have hl : (if (c2 : Int) < cap then iI (c2 : Int) else iI (cap : Int)) = iI (cap : Int) := if_neg (by omega)
  rw [hl]
  have hcr : cR B (va_up M sz (some (.inr (.inr (3, c2, fun _ => none))))) (some e) (0 : Int32) (some sz) (0 : Int32) (iI (cap : Int)) = some (va_up (va_up M sz (some (.inr (.inr (3, c2, fun _ => none))))) sz (some (.inr (.inr (3, c2, va_cpy h (fun _ => none) 0 0 cap))))) := by
    unfold cR
    simp only [Option.bind_some, hM, va_up_self, ecap, show (0 : Int32).toNatClampNeg = 0 from rfl]
    rw [if_pos ⟨trivial, trivial, by decide, by decide, n2, by omega, by omega, by omega, by omega, fun k hk => by
      have hk2 := List.mem_range.mp hk
      rw [Nat.zero_add]
      rcases hE k hk2 with q | q
      · exact Or.inl q
      · cases hh : h k with
        | none => exact Or.inl rfl
        | some y =>
          rw [hh] at q
          have := hlt k y hk2 hh
          rw [isE_up _ _ _ _ (by omega)]
          exact Or.inr q⟩]
  rw [hcr]
  simp only [Option.bind_some]
  congr 3
  funext y
  unfold va_up
  split <;> rfl
/-- room for one more -/
theorem z_grow (hB : B ≤ sz ∧ B ≤ a ∧ (cap = 0 ∨ B ≤ e)) (ha : M a = some (.inl (2, [.int mc, .ref e, .int (iI cap)]))) (has : a < sz ∧ e < sz) (he : M e = some (.inr (.inr (3, cap, h)))) (hc : cap = 0 ∧ e = S 20 ∨ cap = 10 ∨ cap = 15 ∨ cap = 22 ∨ cap = 33) (hE : ∀ k, k < cap → ∃ y, h k = some y ∧ isE M (some y) = true ∧ y < sz) : ∃ (M1 : Mem) (c2 : Nat) (h2 : Nat → Option Nat), f_Jx4a65c_grow_d5877 B S M sz (some a) = some (some sz, M1, sz + 1) ∧ M1 a = some (.inl (2, [.int mc, .ref sz, .int (iI cap)])) ∧ M1 sz = some (.inr (.inr (3, c2, h2))) ∧ (c2 = 10 ∨ c2 = 15 ∨ c2 = 22 ∨ c2 = 33 ∨ c2 = 49) ∧ cap < c2 ∧ (∀ k, k < cap → h2 k = h k) ∧ ∀ y, y ≠ a → y ≠ sz → M1 y = M y := by
  have e1 : (iI (cap : Int) + (1 : Int32)) = iI ((cap : Int) + 1) := by rw [show (1 : Int32) = iI 1 from rfl, iI_add]
  have hcap : cap ≤ 33 := by omega
  unfold f_Jx4a65c_grow_d5877
  rw [gI_at ha]
  simp only [List.getElem?_cons_zero, List.getElem?_cons_succ, Option.bind_some]
  rw [isO_at ha, if_pos rfl, e1]
  unfold f_Jx4a65c_grow_92f84
  rw [gR_at ha]
  simp only [List.getElem?_cons_zero, List.getElem?_cons_succ, Option.bind_some]
  rw [aL_r he, Option.bind_some]
  by_cases c0 : cap = 0
  · have eS : e = S 20 := by omega
    have hM : (va_up M sz (some (.inr (.inr (3, 10, fun _ => none))))) a = some (.inl (2, [.int mc, .ref e, .int (iI cap)])) := by rw [va_up_ne _ _ (by omega)]; exact ha
    refine ⟨va_up (va_up M sz (some (.inr (.inr (3, 10, fun _ => none))))) a (some (.inl (2, [.int mc, .ref sz, .int (iI cap)]))), 10, fun _ => none, ?_, va_up_self .., by rw [va_up_ne _ _ (by omega), va_up_self], Or.inl rfl, by omega, fun k hk => by omega, fun y y1 y2 => by rw [va_up_ne _ _ y1, va_up_ne _ _ y2]⟩
    rw [show (0 : Int32) = iI 0 from rfl, it_lt _ _ (by omega), if_neg (by omega), eS, if_pos rfl, show (10 : Int32) = iI 10 from rfl, it_lt _ _ (by omega)]
    have e10 : (if (10 : Int) < (cap : Int) + 1 then iI ((cap : Int) + 1) else iI 10) = iI 10 := if_neg (by omega)
    rw [e10]
    have t10 : (iI 10).toNatClampNeg = 10 := rfl
    rw [t10, if_pos ⟨by decide, by decide⟩]
    rw [pF_at hB.2.1 hM, if_pos (by simp)]
    rfl
  · have hBe : B ≤ e := by omega
    have e2 : iI ((cap : Int) + 1) - iI (cap : Int) = iI 1 := by
      rw [iI_sub]
      congr 1
      omega
    have z := z_copyOf (S := S) (B := B) (M := M) (e := e) (cap := cap) (h := h) (sz := sz) ⟨hB.1, hBe⟩ he has.2 (cap + cap / 2) (by omega) (fun k hk => by obtain ⟨y, y1, y2, -⟩ := hE k hk; rw [y1]; exact Or.inr y2) (fun k y hk hh => by obtain ⟨y', y1, -, y3⟩ := hE k hk; rw [hh] at y1; cases y1; exact y3)
    have hM : (va_up M sz (some (.inr (.inr (3, cap + cap / 2, va_cpy h (fun _ => none) 0 0 cap))))) a = some (.inl (2, [.int mc, .ref e, .int (iI cap)])) := by rw [va_up_ne _ _ (by omega)]; exact ha
    refine ⟨va_up (va_up M sz (some (.inr (.inr (3, cap + cap / 2, va_cpy h (fun _ => none) 0 0 cap))))) a (some (.inl (2, [.int mc, .ref sz, .int (iI cap)]))), cap + cap / 2, va_cpy h (fun _ => none) 0 0 cap, ?_, va_up_self .., by rw [va_up_ne _ _ (by omega), va_up_self], by omega, by omega, fun k hk => ?_, fun y y1 y2 => by rw [va_up_ne _ _ y1, va_up_ne _ _ y2]⟩
    · rw [show (0 : Int32) = iI 0 from rfl, it_lt _ _ (by omega), if_pos (by omega), e2, ushr1 cap (by omega), z_newLength M _ _ _ (by omega) (by omega) (by omega), Option.bind_some, show ((cap : Int) + max 1 ((cap / 2 : Nat) : Int)) = ((cap + cap / 2 : Nat) : Int) by omega, z]
      simp only [Option.bind_some]
      rw [pF_at hB.2.1 hM, if_pos (by simp)]
      rfl
    · unfold va_cpy
      rw [if_pos (by omega)]
      simp
end LADD
