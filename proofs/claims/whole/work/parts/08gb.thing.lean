/-! THING: both sides' states -/
def thiU (u : MS) (h : Nat) (a b c : Int) (d : Int32) : MS := uI (uA (uA (uA (uA u 6 h (iI a)) 7 h (iI b)) 8 h (iI c)) 9 h d) 5 (iI ((h : Int) + 1))
theorem thiU_n (u : MS) (h : Nat) (a b c : Int) (d : Int32) (k : Nat) (hk : k ≠ 5) : (thiU u h a b c d).1 k = u.1 k := by
  show upd u.1 5 _ k = u.1 k
  unfold upd
  rw [if_neg hk]
theorem thiU_14 (u : MS) (h : Nat) (a b c : Int) (d : Int32) : (thiU u h a b c d).1 5 = iI ((h : Int) + 1) := by
  simp [thiU, uI, upd]
theorem thiU_r (u : MS) (h : Nat) (a b c : Int) (d : Int32) (k : Nat) (hk : k < 6 ∨ 9 < k) : (thiU u h a b c d).2 k = u.2 k := by
  show va_up (va_up (va_up (va_up u.2 6 _) 7 _) 8 _) 9 _ k = _
  rw [va_up_ne _ _ (by omega), va_up_ne _ _ (by omega), va_up_ne _ _ (by omega), va_up_ne _ _ (by omega)]
theorem thiU_o (u : MS) (h : Nat) (a b c : Int) (d : Int32) (k i : Nat) (hi : i ≠ h) : (thiU u h a b c d).2 k i = u.2 k i := by
  show va_up (va_up (va_up (va_up u.2 6 _) 7 _) 8 _) 9 _ k i = _
  by_cases c1 : k = 9
  · subst c1
    rw [va_up_self]
    simp [upd, hi, uA, va_up]
  · rw [va_up_ne _ _ c1]
    by_cases c2 : k = 8
    · subst c2
      rw [va_up_self]
      simp [upd, hi, uA, va_up]
    · rw [va_up_ne _ _ c2]
      by_cases c3 : k = 7
      · subst c3
        rw [va_up_self]
        simp [upd, hi, uA, va_up]
      · rw [va_up_ne _ _ c3]
        by_cases c4 : k = 6
        · subst c4
          rw [va_up_self]
          simp [upd, hi]
        · rw [va_up_ne _ _ c4]
theorem thiU_h (u : MS) (h : Nat) (a b c : Int) (d : Int32) : (thiU u h a b c d).2 6 h = iI a ∧ (thiU u h a b c d).2 7 h = iI b ∧ (thiU u h a b c d).2 8 h = iI c ∧ (thiU u h a b c d).2 9 h = d := by
  refine ⟨?_, ?_, ?_, ?_⟩ <;> simp [thiU, uI, uA, va_up, upd]
section THN
variable {B : Nat} {S : Nat → Nat} {L : Mem} {x0 : Nat} {ad rho : Nat → Nat} {xl : Nat → List Nat} {M M1 : Mem} {u u1 u6 : MS} {sz N j : Nat} {g : Nat → Int} {l : List Int} {w K V W : Int}
theorem z_thiInit (hL : LOK B L) (hS : LitOK S L) (hD : DigOK S L) (hcon : ∀ y e, L y = some e → M y = some e) (hBs : B ≤ sz) (hown : ∀ y, rho y = 3 → y < sz) (hR : Rd B ad rho M M N g (K :: V :: W :: l) j w) (hK : 0 ≤ K ∧ K ≤ 4) (hV : 0 ≤ V ∧ V < 10000) (hW : 0 ≤ W ∧ W < 10000) (i : Int32) (n : Nat) (hn : 2100 ≤ n) : ∃ (M1 : Mem) (wt : Nat), f_X10_init B S n (va_up M sz (some (.inl (13, [.int 0, .int 0, .int 0, .null, .null, .null, .int 0, .int 0, .null])))) (sz + 1) (some sz) i (some (ad 3)) = some (M1, wt + 2) ∧ sz + 7 ≤ wt ∧ (∀ y, y < sz → M1 y = M y) ∧ M1 sz = some (.inl (13, [.int i, .int (iI K), .int (iI W), .ref wt, .ref (sz + 1), .ref (sz + 3), .int (iI V), .int (bitsF 0 l), .ref (sz + 6)])) ∧ (∀ (rho1 : Nat → Nat) (id : Nat), rho1 wt = id → rho1 (wt + 1) = id → TxtR M1 rho1 id wt (kindT K ++ ([32] ++ (numL V ++ ([32] ++ (numL W ++ barT (bitsF 0 l) 5 0)))))) ∧ (∃ g1 : Nat → Int32, M1 (sz + 1) = some (.inl (4, [.ref (sz + 2), .int 0])) ∧ M1 (sz + 2) = some (.inr (.inl (0, 1000, g1))) ∧ ∀ k, k < 1000 → g1 k = -1) ∧ (∃ f1 f2 : Nat → Int32, M1 (sz + 3) = some (.inl (3, [.ref (sz + 4), .ref (sz + 5), .int 0])) ∧ M1 (sz + 4) = some (.inr (.inl (0, 48, f1))) ∧ M1 (sz + 5) = some (.inr (.inl (0, 48, f2)))) ∧ M1 (sz + 6) = some (.inl (2, [.int 0, .ref (S 20), .int 0])) := by
  have h0 : (va_up M sz (some (.inl (13, [.int 0, .int 0, .int 0, .null, .null, .null, .int 0, .int 0, .null])))) sz = some (.inl (13, [.int 0, .int 0, .int 0, .null, .null, .null, .int 0, .int 0, .null])) := va_up_self ..
  have f0 : ∀ y, y ≠ sz → (va_up M sz (some (.inl (13, [.int 0, .int 0, .int 0, .null, .null, .null, .int 0, .int 0, .null])))) y = M y := fun y hy => va_up_ne _ _ hy
  generalize va_up M sz (some (.inl (13, [.int 0, .int 0, .int 0, .null, .null, .null, .int 0, .int 0, .null]))) = M0 at *
  have h1 : (va_up M0 (sz + 1) (some (.inl (4, [.null, .int 0])))) (sz + 1) = some (.inl (4, [.null, .int 0])) := va_up_self ..
  have f1 : ∀ y, y ≠ sz + 1 → (va_up M0 (sz + 1) (some (.inl (4, [.null, .int 0])))) y = M0 y := fun y hy => va_up_ne _ _ hy
  obtain ⟨N2, g1, e2, a2, b2, c2, f2⟩ := z_calNew (B := B) (c := sz + 1) (s := sz + 1 + 1) (by omega) (by omega) h1 n (by omega) 1 (-1) (Or.inl ⟨rfl, rfl⟩)
  have t2 : N2 sz = some (.inl (13, [.int 0, .int 0, .int 0, .null, .null, .null, .int 0, .int 0, .null])) := by rw [f2 sz (by omega) (by omega), f1 sz (by omega)]; exact h0
  obtain ⟨N3, e3, t3, f3⟩ := pF_ob hBs t2 4 (va_rf (some (sz + 1))) (by simp)
  have t3' : N3 sz = some (.inl (13, [.int 0, .int 0, .int 0, .null, .ref (sz + 1), .null, .int 0, .int 0, .null])) := t3
  have h4 : (va_up N3 (sz + 1 + 1 + 1) (some (.inl (3, [.null, .null, .int 0])))) (sz + 1 + 1 + 1) = some (.inl (3, [.null, .null, .int 0])) := va_up_self ..
  have f4 : ∀ y, y ≠ sz + 1 + 1 + 1 → (va_up N3 (sz + 1 + 1 + 1) (some (.inl (3, [.null, .null, .int 0])))) y = N3 y := fun y hy => va_up_ne _ _ hy
  obtain ⟨N5, q1, q2, e5, a5, b5, c5, f5⟩ := z_appNew (B := B) (c := sz + 1 + 1 + 1) (s := sz + 1 + 1 + 1 + 1) (by omega) (by omega) h4
  have t5 : N5 sz = some (.inl (13, [.int 0, .int 0, .int 0, .null, .ref (sz + 1), .null, .int 0, .int 0, .null])) := by rw [f5 sz (by omega) (by omega) (by omega), f4 sz (by omega)]; exact t3'
  obtain ⟨N6, e6, t6, f6⟩ := pF_ob hBs t5 5 (va_rf (some (sz + 1 + 1 + 1))) (by simp)
  have t6' : N6 sz = some (.inl (13, [.int 0, .int 0, .int 0, .null, .ref (sz + 1), .ref (sz + 1 + 1 + 1), .int 0, .int 0, .null])) := t6
  have h7 : (va_up N6 (sz + 1 + 1 + 1 + 1 + 1 + 1) (some (.inl (2, [.int 0, .null, .int 0])))) (sz + 1 + 1 + 1 + 1 + 1 + 1) = some (.inl (2, [.int 0, .null, .int 0])) := va_up_self ..
  have f7 : ∀ y, y ≠ sz + 1 + 1 + 1 + 1 + 1 + 1 → (va_up N6 (sz + 1 + 1 + 1 + 1 + 1 + 1) (some (.inl (2, [.int 0, .null, .int 0])))) y = N6 y := fun y hy => va_up_ne _ _ hy
  obtain ⟨N8, e8, a8, f8⟩ := z_lisNew (B := B) (S := S) (c := sz + 1 + 1 + 1 + 1 + 1 + 1) (by omega) h7
  have t8 : N8 sz = some (.inl (13, [.int 0, .int 0, .int 0, .null, .ref (sz + 1), .ref (sz + 1 + 1 + 1), .int 0, .int 0, .null])) := by rw [f8 sz (by omega), f7 sz (by omega)]; exact t6'
  obtain ⟨N9, e9, t9, f9⟩ := pF_ob hBs t8 8 (va_rf (some (sz + 1 + 1 + 1 + 1 + 1 + 1))) (by simp)
  have t9' : N9 sz = some (.inl (13, [.int 0, .int 0, .int 0, .null, .ref (sz + 1), .ref (sz + 1 + 1 + 1), .int 0, .int 0, .ref (sz + 1 + 1 + 1 + 1 + 1 + 1)])) := t9
  obtain ⟨N10, e10, t10, f10⟩ := pF_ob hBs t9' 0 (.int i) (by simp)
  have t10' : N10 sz = some (.inl (13, [.int i, .int 0, .int 0, .null, .ref (sz + 1), .ref (sz + 1 + 1 + 1), .int 0, .int 0, .ref (sz + 1 + 1 + 1 + 1 + 1 + 1)])) := t10
  obtain ⟨N11, e11, t11, f11⟩ := pF_ob hBs t10' 1 (.int (iI K)) (by simp)
  have t11' : N11 sz = some (.inl (13, [.int i, .int (iI K), .int 0, .null, .ref (sz + 1), .ref (sz + 1 + 1 + 1), .int 0, .int 0, .ref (sz + 1 + 1 + 1 + 1 + 1 + 1)])) := t11
  obtain ⟨N12, e12, t12, f12⟩ := pF_ob hBs t11' 6 (.int (iI V)) (by simp)
  have t12' : N12 sz = some (.inl (13, [.int i, .int (iI K), .int 0, .null, .ref (sz + 1), .ref (sz + 1 + 1 + 1), .int (iI V), .int 0, .ref (sz + 1 + 1 + 1 + 1 + 1 + 1)])) := t12
  obtain ⟨N13, e13, t13, f13⟩ := pF_ob hBs t12' 2 (.int (iI W)) (by simp)
  have t13' : N13 sz = some (.inl (13, [.int i, .int (iI K), .int (iI W), .null, .ref (sz + 1), .ref (sz + 1 + 1 + 1), .int (iI V), .int 0, .ref (sz + 1 + 1 + 1 + 1 + 1 + 1)])) := t13
  obtain ⟨N14, e14, t14, f14⟩ := pF_ob hBs t13' 7 (.int (bitsF 0 l)) (by simp)
  have t14' : N14 sz = some (.inl (13, [.int i, .int (iI K), .int (iI W), .null, .ref (sz + 1), .ref (sz + 1 + 1 + 1), .int (iI V), .int (bitsF 0 l), .ref (sz + 1 + 1 + 1 + 1 + 1 + 1)])) := t14
  have k9 : ∀ y, y < sz → N9 y = M y := fun y hy => by rw [f9 y (by omega), f8 y (by omega), f7 y (by omega), f6 y (by omega), f5 y (by omega) (by omega) (by omega), f4 y (by omega), f3 y (by omega), f2 y (by omega) (by omega), f1 y (by omega), f0 y (by omega)]
  have k10 : ∀ y, y < sz → N10 y = M y := fun y hy => (f10 y (by omega)).trans (k9 y hy)
  have k11 : ∀ y, y < sz → N11 y = M y := fun y hy => (f11 y (by omega)).trans (k10 y hy)
  have k12 : ∀ y, y < sz → N12 y = M y := fun y hy => (f12 y (by omega)).trans (k11 y hy)
  have k13 : ∀ y, y < sz → N13 y = M y := fun y hy => (f13 y (by omega)).trans (k12 y hy)
  have k14 : ∀ y, y < sz → N14 y = M y := fun y hy => (f14 y (by omega)).trans (k13 y hy)
  have r10 := hR.fr (M2 := N10) (fun y hy => k10 y (hown y hy))
  have r11 := hR.fr (M2 := N11) (fun y hy => k11 y (hown y hy))
  have r12 := hR.fr (M2 := N12) (fun y hy => k12 y (hown y hy))
  have r13 := hR.fr (M2 := N13) (fun y hy => k13 y (hown y hy))
  have o10 : f_X7_told N10 (some (ad 3)) (0 : Int32) = some (iI K) := r10.lit 0 K rfl
  have o11 : f_X7_told N11 (some (ad 3)) (1 : Int32) = some (iI V) := r11.lit 1 V rfl
  have o12 : f_X7_told N12 (some (ad 3)) (2 : Int32) = some (iI W) := r12.lit 2 W rfl
  have o13 := r13.bits (S := S) n (sz + 1 + 1 + 1 + 1 + 1 + 1 + 1) (by omega) (some sz)
  have v1 : gI N14 (some sz) 13 1 = some (iI K) := gI_at t14'
  have v6 : gI N14 (some sz) 13 6 = some (iI V) := gI_at t14'
  have v2 : gI N14 (some sz) 13 2 = some (iI W) := gI_at t14'
  have v7 : gI N14 (some sz) 13 7 = some (bitsF 0 l) := gI_at t14'
  have c14 : ∀ y e, L y = some e → N14 y = some e := con_up hL hBs hcon k14
  obtain ⟨wt, N15, e15, l15, f15, x15⟩ := z_thiWrite hL hS hD c14 (sz := sz + 1 + 1 + 1 + 1 + 1 + 1 + 1) (by omega) hK hV hW (bitsF 0 l) n (by omega)
  have t15 : N15 sz = some (.inl (13, [.int i, .int (iI K), .int (iI W), .null, .ref (sz + 1), .ref (sz + 1 + 1 + 1), .int (iI V), .int (bitsF 0 l), .ref (sz + 1 + 1 + 1 + 1 + 1 + 1)])) := (f15 sz (by omega)).trans t14'
  obtain ⟨N16, e16, t16, f16⟩ := pF_ob hBs t15 3 (va_rf (some wt)) (by simp)
  have k16 : ∀ y, sz < y → y < sz + 7 → N16 y = N9 y := fun y y1 y2 => by rw [f16 y (by omega), f15 y (by omega), f14 y (by omega), f13 y (by omega), f12 y (by omega), f11 y (by omega), f10 y (by omega)]
  have k6 : ∀ y, sz < y → y < sz + 6 → N16 y = N6 y := fun y y1 y2 => by rw [k16 y y1 (by omega), f9 y (by omega), f8 y (by omega), f7 y (by omega)]
  have k3 : ∀ y, sz < y → y < sz + 3 → N16 y = N2 y := fun y y1 y2 => by rw [k6 y y1 (by omega), f6 y (by omega), f5 y (by omega) (by omega) (by omega), f4 y (by omega), f3 y (by omega)]
  refine ⟨N16, wt, ?_, by omega, fun y hy => by rw [f16 y (by omega), f15 y (by omega), k14 y hy], t16, fun rho1 id r1 r2 => txt_up x15 (f16 _ (by omega)) (f16 _ (by omega)) r1 r2, ⟨g1, ?_, ?_, c2⟩, ⟨q1, q2, ?_, ?_, ?_⟩, ?_⟩
  · unfold f_X10_init
    rw [if_pos (by simp), Option.bind_some, e2]
    simp only [Option.bind_some]
    rw [e3]
    simp only [Option.bind_some]
    rw [e5]
    simp only [Option.bind_some]
    rw [e6]
    simp only [Option.bind_some]
    rw [e8]
    simp only [Option.bind_some]
    rw [e9]
    simp only [Option.bind_some]
    rw [e10]
    simp only [Option.bind_some]
    rw [if_pos r10.is, o10]
    simp only [Option.bind_some]
    rw [e11]
    simp only [Option.bind_some]
    rw [if_pos r11.is, o11]
    simp only [Option.bind_some]
    rw [e12]
    simp only [Option.bind_some]
    rw [if_pos r12.is, o12]
    simp only [Option.bind_some]
    rw [e13]
    simp only [Option.bind_some]
    rw [o13]
    simp only [Option.bind_some]
    rw [e14]
    simp only [Option.bind_some]
    rw [v1]
    simp only [Option.bind_some]
    rw [v6]
    simp only [Option.bind_some]
    rw [v2]
    simp only [Option.bind_some]
    rw [v7]
    simp only [Option.bind_some]
    rw [e15]
    simp only [Option.bind_some]
    rw [e16]
    rfl
  · rw [k3 _ (by omega) (by omega)]
    exact a2
  · rw [k3 _ (by omega) (by omega)]
    exact b2
  · rw [k6 _ (by omega) (by omega), f6 _ (by omega)]
    exact a5
  · rw [k6 _ (by omega) (by omega), f6 _ (by omega)]
    exact b5
  · rw [k6 _ (by omega) (by omega), f6 _ (by omega)]
    exact c5
  · rw [k16 _ (by omega) (by omega), f9 _ (by omega)]
    exact a8
end THN
