/-! StringBuilder: texts, the end -/
theorem LitOK.of {S : Nat → Nat} {L M : Mem} (hS : LitOK S L) (hcon : ∀ y e, L y = some e → M y = some e) : LitOK S M := fun j hj => by
  obtain ⟨bb, r, ff, t1, t2, t3, t4⟩ := hS j hj
  exact ⟨bb, r, ff, ⟨hcon _ _ t1.1, t1.2⟩, ⟨hcon _ _ t2.1, t2.2⟩, t3, t4⟩
theorem con_up {B sz0 : Nat} {L M M1 : Mem} (hL : LOK B L) (hB : B ≤ sz0) (hcon : ∀ y e, L y = some e → M y = some e) (hf : ∀ y, y < sz0 → M1 y = M y) : ∀ y e, L y = some e → M1 y = some e := fun y e hy => by
  have hlt : y < B := by
    rcases Nat.lt_or_ge y B with q | q
    · exact q
    · rw [hL y q] at hy
      cases hy
  rw [hf y (by omega)]
  exact hcon y e hy
theorem litT_len (i : Nat) (hi : i < 14) : (litT i).length ≤ 5 := by
  have h : ∀ j : Fin 14, (litT j.1).length ≤ 5 := by decide
  exact h ⟨i, hi⟩
section SB2
variable {B : Nat} {S : Nat → Nat} {L M : Mem} {sz0 sz x : Nat} {t : List Int} {need : Nat}
theorem SBR.str (hL : LOK B L) (hS : LitOK S L) (hcon : ∀ y e, L y = some e → M y = some e) (hB : B ≤ sz0) (h : SBR M sz0 sz x t t.length) (i : Nat) (hi : i < 14) (hne : 1 ≤ (litT i).length) (hl : t.length + (litT i).length ≤ 286) : ∃ (M1 : Mem) (sz1 : Nat), f_J4_append_15ec4 B M sz (some x) (some (S i)) = some (some x, M1, sz1) ∧ sz ≤ sz1 ∧ SBR M1 sz0 sz1 x (t ++ litT i) (t ++ litT i).length ∧ ∀ y, y < sz0 → M1 y = M y := by
  have hw := hS.of hcon i hi
  have hll := litT_len i hi
  obtain ⟨M1, sz1, e1, e2, e3, e4⟩ := h.ensure hB (litT i).length ⟨hne, by omega⟩ hl
  have hw1 := hS.of (con_up hL hB hcon e4) i hi
  have hs1 := e3.is
  have hct := e3.count
  obtain ⟨b, ml, cap, f, h1, h2, h3, h4, h5, h6, h7⟩ := e3
  obtain ⟨wb, wr, wf, w1, w2, w3, w4⟩ := hw1
  have hbx : b ≠ x := fun e => by rw [e, h1] at h2; cases h2
  have hlen : (t ++ litT i).length = t.length + (litT i).length := List.length_append
  have hcap : cap ≤ 286 := by rcases h4 with e | e | e | e | e <;> omega
  have ecl : (iI ((litT i).length : Int)).toNatClampNeg = (litT i).length := by rw [iI_clamp _ (by omega)]; omega
  have ecl2 : (iI (t.length : Int)).toNatClampNeg = t.length := by rw [iI_clamp _ (by omega)]; omega
  have n1 : ¬ (iI ((litT i).length : Int)) < (0 : Int32) := by
    rw [show (0 : Int32) = iI 0 from rfl, iI_lt _ _ (by omega)]
    omega
  have n2 : ¬ (iI (t.length : Int)) < (0 : Int32) := by
    rw [show (0 : Int32) = iI 0 from rfl, iI_lt _ _ (by omega)]
    omega
  have hM2x : (va_up M1 b (some (.inr (.inl (1, cap, va_cpy wf f 0 t.length (litT i).length))))) x = some (.inl (1, [.ref b, .int 0, .int ml, .int (iI t.length)])) := by rw [va_up_ne _ _ hbx.symm]; exact h1
  refine ⟨va_up (va_up M1 b (some (.inr (.inl (1, cap, va_cpy wf f 0 t.length (litT i).length))))) x (some (.inl (1, [.ref b, .int 0, .int ml, .int (iI (t.length + (litT i).length : Nat))]))), sz1, ?_, e2, ?_, fun y hy => by rw [va_up_ne _ _ (by omega), va_up_ne _ _ (by omega), e4 y hy]⟩
  · unfold f_J4_append_15ec4 f_J5_append_cf1ce
    rw [if_pos (by simp), h.is, if_pos rfl, if_neg (by simp), hw.is, if_pos rfl, hw.size, Option.bind_some, h.count, Option.bind_some, if_pos rfl, iI_add, show ((t.length : Int) + (litT i).length) = ((t.length + (litT i).length : Nat) : Int) by omega, e1]
    simp only [Option.bind_some]
    rw [hct, Option.bind_some, hs1, if_pos rfl]
    have hput : f_J5_putStringAt_47b60 B M1 (some x) (iI (t.length : Int)) (some (S i)) = some (va_up M1 b (some (.inr (.inl (1, cap, va_cpy wf f 0 t.length (litT i).length))))) := by
      unfold f_J5_putStringAt_47b60 f_J5_inflateIfNeededFor_a7421 f_J0_getBytes_840e7 f_J0_coder_7d493
      rw [hs1, if_pos rfl, gI_at h1, gI_at w1.1, isO_at w1.1]
      simp only [List.getElem?_cons_zero, List.getElem?_cons_succ, Option.bind_some, if_true, byte0]
      rw [gR_at h1, gI_at h1, gR_at w1.1]
      simp only [List.getElem?_cons_zero, List.getElem?_cons_succ, Option.bind_some, isO_at w1.1, if_true]
      rw [gI_at w1.1]
      simp only [List.getElem?_cons_zero, List.getElem?_cons_succ, Option.bind_some, if_true, byte0]
      rw [aL_i (by decide) w2.1, Option.bind_some, shl0]
      have hcb : cB B M1 (some wb) (0 : Int32) (some b) (iI (t.length : Int)) (iI ((litT i).length : Int)) = some (va_up M1 b (some (.inr (.inl (1, cap, va_cpy wf f 0 t.length (litT i).length))))) := by
        unfold cB
        simp only [Option.bind_some, w2.1, h2, ecl, ecl2, show (0 : Int32).toNatClampNeg = 0 from rfl]
        rw [if_pos ⟨trivial, trivial, by decide, n2, n1, by omega, by omega, by omega, fun k hk => by
          have hk2 := List.mem_range.mp hk
          obtain ⟨q1, q2, q3⟩ := w4 k hk2
          rw [Nat.zero_add, q1]
          exact (ch_iI _ ⟨q2, q3⟩).2.2⟩]
      rw [hcb]
      rfl
    rw [hput, Option.bind_some, gI_at hM2x]
    simp only [List.getElem?_cons_zero, List.getElem?_cons_succ, Option.bind_some]
    rw [iI_add, show ((t.length : Int) + (litT i).length) = ((t.length + (litT i).length : Nat) : Int) by omega, pF_at (by omega) hM2x, if_pos (by simp)]
    rfl
  · rw [hlen]
    refine ⟨b, ml, cap, va_cpy wf f 0 t.length (litT i).length, by rw [va_up_self, hlen], by rw [va_up_ne _ _ hbx, va_up_self], h3, h4, ⟨by rw [hlen]; exact Nat.le_refl _, h5.2⟩, fun k hk => ?_, fun k hk => ?_⟩
    · rw [hlen] at hk
      unfold va_cpy
      by_cases e : k < t.length
      · rw [if_neg (by omega)]
        have : (t ++ litT i).getD k 0 = t.getD k 0 := by simp only [List.getD, List.getElem?_append_left e]
        rw [this]
        exact h6 k e
      · rw [if_pos (by omega), Nat.zero_add]
        have : (t ++ litT i).getD k 0 = (litT i).getD (k - t.length) 0 := by simp only [List.getD, List.getElem?_append_right (Nat.le_of_not_lt e)]
        rw [this]
        exact w4 _ (by omega)
    · unfold va_cpy
      by_cases c : t.length ≤ k ∧ k < t.length + (litT i).length
      · rw [if_pos c, Nat.zero_add]
        obtain ⟨q1, q2, q3⟩ := w4 (k - t.length) (by omega)
        rw [q1]
        exact (ch_iI _ ⟨q2, q3⟩).2.2
      · rw [if_neg c]
        exact h7 k hk
/-- a new one -/
theorem z_sbNew (hB : B ≤ sz) (M : Mem) : ∃ M1, f_J4_init_da8c8 B (va_up M sz (some (.inl (1, [.null, .int 0, .int 0, .int 0])))) (sz + 1) (some sz) = some (M1, sz + 2) ∧ SBR M1 sz (sz + 2) sz [] 0 ∧ ∀ y, y < sz → M1 y = M y := by
  have a1 : (va_up (va_up M sz (some (.inl (1, [.null, .int 0, .int 0, .int 0])))) (sz + 1) (some (.inr (.inl (1, 16, fun _ => (0 : Int32)))))) sz = some (.inl (1, [.null, .int 0, .int 0, .int 0])) := by rw [va_up_ne _ _ (by omega), va_up_self]
  refine ⟨va_up (va_up (va_up (va_up M sz (some (.inl (1, [.null, .int 0, .int 0, .int 0])))) (sz + 1) (some (.inr (.inl (1, 16, fun _ => (0 : Int32)))))) sz (some (.inl (1, [.ref (sz + 1), .int 0, .int 0, .int 0])))) sz (some (.inl (1, [.ref (sz + 1), .int 0, .int 0, .int 0]))), ?_, ⟨sz + 1, 0, 16, fun _ => 0, va_up_self .., by rw [va_up_ne _ _ (by omega), va_up_ne _ _ (by omega), va_up_self], by omega, Or.inl rfl, by simp, fun k hk => by simp at hk, fun _ _ => byte0⟩, fun y hy => by rw [va_up_ne _ _ (by omega), va_up_ne _ _ (by omega), va_up_ne _ _ (by omega), va_up_ne _ _ (by omega)]⟩
  unfold f_J4_init_da8c8 f_J5_init_d00df
  rw [if_pos (by simp), if_pos (by simp), if_pos ⟨by decide, by decide⟩]
  simp only [Option.bind_some]
  rw [show ((16 : Int32)).toNatClampNeg = 16 from rfl, pF_at hB a1, if_pos (by simp), Option.bind_some, pF_at hB (va_up_self ..), if_pos (by simp)]
  rfl
/-- its text -/
theorem SBR.toStr (hB : B ≤ sz0) (h : SBR M sz0 sz x t t.length) : ∃ M1, f_J4_toString_0e30d B M sz (some x) = some (some sz, M1, sz + 2) ∧ (∀ y, y < sz → M1 y = M y) ∧ ∀ (rho : Nat → Nat) (id : Nat), rho sz = id → rho (sz + 1) = id → TxtR M1 rho id sz t := by
  obtain ⟨b, ml, cap, f, h1, h2, h3, h4, h5, h6, h7⟩ := h
  have hcap : 16 ≤ cap ∧ cap ≤ 286 := by rcases h4 with e | e | e | e | e <;> omega
  have fx : ∀ c : Cel, (va_up M sz (some c)) x = M x := fun c => va_up_ne _ _ (by omega)
  generalize hMa : va_up M sz (some (.inl (0, [.null, .int 0, .int 0, .int 0]))) = Ma
  have ax : Ma x = some (.inl (1, [.ref b, .int 0, .int ml, .int (iI t.length)])) := by rw [← hMa, va_up_ne _ _ (by omega)]; exact h1
  have ab : Ma b = some (.inr (.inl (1, cap, f))) := by rw [← hMa, va_up_ne _ _ (by omega)]; exact h2
  have as : Ma sz = some (.inl (0, [.null, .int 0, .int 0, .int 0])) := by rw [← hMa, va_up_self]
  generalize hMb : va_up Ma sz (some (.inl (0, [.null, .int (0 : Int32), .int 0, .int 0]))) = Mb
  have bb : Mb b = some (.inr (.inl (1, cap, f))) := by rw [← hMb, va_up_ne _ _ (by omega)]; exact ab
  have bs : Mb sz = some (.inl (0, [.null, .int 0, .int 0, .int 0])) := by rw [← hMb, va_up_self]
  have bfr : ∀ y, y < sz → Mb y = M y := fun y hy => by rw [← hMb, va_up_ne _ _ (by omega), ← hMa, va_up_ne _ _ (by omega)]
  have copy : ∃ (f2 : Nat → Int32), f_J7_copyOfRange_39247 B Mb (sz + 1) (some b) (0 : Int32) (iI t.length) = some (some (sz + 1), va_up Mb (sz + 1) (some (.inr (.inl (1, t.length, f2)))), sz + 2) ∧ ∀ k, k < t.length → f2 k = f k := by
    unfold f_J7_copyOfRange_39247
    rw [if_pos rfl, aL_i (by decide) bb, Option.bind_some, it_eq _ _ (by omega)]
    by_cases c : (t.length : Int) = cap
    · rw [if_pos c]
      have hk : kB B Mb (sz + 1) 300 (some b) = some (va_up Mb (sz + 1) (some (.inr (.inl (1, cap, f))))) := by
        unfold kB
        simp only [Option.bind_some, bb]
        rw [if_pos ⟨trivial, by omega, by omega, fun i hi => h7 i (List.mem_range.mp hi)⟩]
      rw [hk, Option.bind_some]
      have hr : isR1 B (va_up Mb (sz + 1) (some (.inr (.inl (1, cap, f))))) (some (sz + 1)) = true := by
        unfold isR1
        simp only [va_up_self]
        simp
        omega
      rw [if_pos hr, show t.length = cap by omega]
      exact ⟨f, rfl, fun _ _ => rfl⟩
    · rw [if_neg c]
      have ecl : (iI (t.length : Int)).toNatClampNeg = t.length := by rw [iI_clamp _ (by omega)]; omega
      have n1 : ¬ (iI (t.length : Int)) < (0 : Int32) := by
        rw [show (0 : Int32) = iI 0 from rfl, iI_lt _ _ (by omega)]
        omega
      have s0 : iI (t.length : Int) - (0 : Int32) = iI (t.length : Int) := by
        rw [show (0 : Int32) = iI 0 from rfl, iI_sub, Int.sub_zero]
      have sc : iI (cap : Int) - (0 : Int32) = iI (cap : Int) := by
        rw [show (0 : Int32) = iI 0 from rfl, iI_sub, Int.sub_zero]
      have cb : (va_up Mb (sz + 1) (some (.inr (.inl (1, t.length, fun _ => (0 : Int32)))))) b = some (.inr (.inl (1, cap, f))) := by rw [va_up_ne _ _ (by omega)]; exact bb
      unfold f_J7_copyOfRangeByte_39247 f_J7_checkLength_df160
      rw [if_pos (by rw [show (0 : Int32) = iI 0 from rfl, iI_le _ _ (by omega)]; omega), Option.bind_some, s0, if_pos ⟨n1, by rw [ecl]; omega⟩, ecl]
      simp only [Option.bind_some]
      rw [aL_i (by decide) cb, Option.bind_some, sc, it_lt _ _ (by omega)]
      have hcb : cB B (va_up Mb (sz + 1) (some (.inr (.inl (1, t.length, fun _ => (0 : Int32)))))) (some b) (0 : Int32) (some (sz + 1)) (0 : Int32) (iI (t.length : Int)) = some (va_up (va_up Mb (sz + 1) (some (.inr (.inl (1, t.length, fun _ => (0 : Int32)))))) (sz + 1) (some (.inr (.inl (1, t.length, va_cpy f (fun _ => (0 : Int32)) 0 0 t.length))))) := by
        unfold cB
        simp only [Option.bind_some, cb, va_up_self, ecl, show (0 : Int32).toNatClampNeg = 0 from rfl]
        rw [if_pos ⟨trivial, trivial, by decide, by decide, n1, by omega, by omega, by omega, fun i hi => by rw [Nat.zero_add]; exact h7 i (by have := List.mem_range.mp hi; omega)⟩]
      rw [show (if (t.length : Int) < cap then iI (t.length : Int) else iI (cap : Int)) = iI (t.length : Int) from if_pos (by omega), hcb]
      refine ⟨va_cpy f (fun _ => (0 : Int32)) 0 0 t.length, ?_, fun k hk => ?_⟩
      · simp only [Option.bind_some]
        congr 3
        funext y
        unfold va_up
        split <;> rfl
      · unfold va_cpy
        rw [if_pos (by omega)]
        simp
  obtain ⟨f2, c1, c2⟩ := copy
  have cs : (va_up Mb (sz + 1) (some (.inr (.inl (1, t.length, f2))))) sz = some (.inl (0, [.null, .int 0, .int 0, .int 0])) := by rw [va_up_ne _ _ (by omega)]; exact bs
  refine ⟨va_up (va_up Mb (sz + 1) (some (.inr (.inl (1, t.length, f2))))) sz (some (.inl (0, [.ref (sz + 1), .int 0, .int 0, .int 0]))), ?_, fun y hy => by rw [va_up_ne _ _ (by omega), va_up_ne _ _ (by omega), bfr y hy], fun rho id r1 r2 => ⟨sz + 1, [.int 0, .int 0], f2, ⟨va_up_self .., r1⟩, ⟨by rw [va_up_ne _ _ (by omega), va_up_self], r2⟩, by omega, fun k hk => by rw [c2 k hk]; exact h6 k hk⟩⟩
  unfold f_J4_toString_0e30d f_J0_init_81219 f_J0_init_db425 f_J5_getValue_6d5f1 f_J4_length_8abf5 f_J5_length_8abf5 f_J5_isLatin1_aae02
  simp only [Option.bind_some]
  rw [hMa, if_pos (by simp), if_pos (by simp), isO_at ax, if_pos rfl, gR_at ax]
  simp only [List.getElem?_cons_zero, List.getElem?_cons_succ, Option.bind_some, if_true]
  rw [if_pos (by simp), gI_at ax]
  simp only [List.getElem?_cons_zero, List.getElem?_cons_succ, Option.bind_some]
  rw [gI_at ax]
  simp only [List.getElem?_cons_zero, List.getElem?_cons_succ, Option.bind_some, if_true]
  rw [if_neg (by decide), pF_at (by omega) as, if_pos (by simp), Option.bind_some]
  have e : va_up Ma sz (some (.inl (0, ([.null, .int 0, .int 0, .int 0] : List Value).set 1 (.int (0 : Int32))))) = Mb := hMb
  rw [e, c1, Option.bind_some, pF_at (by omega) cs, if_pos (by simp)]
  rfl
end SB2
