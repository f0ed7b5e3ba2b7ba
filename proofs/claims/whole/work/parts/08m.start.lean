/-! THE START: the world that the law begins in -/
theorem cn_start {A : Array Value} {s : State} (hts : ∀ w ∈ lw_tb2, w.before A s = true) (hgv : (Jvm.Cond.and given_1 narrow_1).before A s = true) : ∃ (G : wG) (L : Mem), G.2.2.1 = s.heap.size ∧ EV G s s.heap ∧ Hd G L s.heap ∧ LOK G.2.2.1 L ∧ LitOK G.2.2.2 L ∧ DigOK G.2.2.2 L ∧ EmpOK G.2.2.2 L := by
  have hw : ∀ w ∈ cnw, w.before A s = true := flat_of_before _ hgv
  obtain ⟨dC, dI, hC⟩ := cn_cls hts
  obtain ⟨dA, hA, ⟨kb, cb, hb1, hb2⟩, ko, co, ho1, ho2⟩ := cn_arr hts
  have hK0 : u_Kn s RJ0 TJ0 4 (dC 0) (dI 0) := hC 0 _ rfl
  have hcB : s.vm.findClass "[B" = some (dA 1) := by
    have h : s.vm.findClass ("[" ++ FieldType.byte.toString) = some (dA 1) := (hA 1 .byte rfl).2
    rw [show ("[" ++ FieldType.byte.toString) = "[B" by decide +kernel] at h
    exact h
  have hcO : s.vm.findClass "[Ljava/lang/Object;" = some (dA 3) := by
    obtain ⟨k, c, -, -, -, h⟩ := (hA 3 (.object "java/lang/Object") rfl).2
    rw [show ("[" ++ (FieldType.object "java/lang/Object").toString) = "[Ljava/lang/Object;" by decide +kernel] at h
    exact h
  have hne1 : dC 0 ≠ dA 1 := by
    intro e
    obtain ⟨kC, q1, q2⟩ := hK0.2.2
    rw [e, hb1] at q1
    cases q1
    rw [hb2] at q2
    cases q2
  have hne3 : dC 0 ≠ dA 3 := by
    intro e
    obtain ⟨kC, q1, q2⟩ := hK0.2.2
    rw [e, ho1] at q1
    cases q1
    rw [ho2] at q2
    cases q2
  have hne13 : dA 1 ≠ dA 3 := by
    intro e
    rw [e, ho1] at hb1
    cases hb1
    rw [ho2] at hb2
    cases hb2
  have kT : ∀ i : Nat, ∃ p : Nat × Nat, i < 14 → (Term.string (cnE i).1 (cnE i).2).eval A s none [] s = some (.ref p.1) ∧ cnT (dC 0) (dI 0) s.heap p.1 p.2 ∧ wArr (dA 1) (litT i).length (fun j => .int (iI ((litT i).getD j 0))) p.2 s.heap := by
    intro i
    by_cases hi : i < 14
    · obtain ⟨a, b, h⟩ := cn_txtI hK0 hcB hw i hi
      exact ⟨(a, b), fun _ => h⟩
    · exact ⟨(0, 0), fun h => absurd h hi⟩
  obtain ⟨ta, tb, hT⟩ : ∃ ta tb : Nat → Nat, ∀ i, i < 14 → (Term.string (cnE i).1 (cnE i).2).eval A s none [] s = some (.ref (ta i)) ∧ cnT (dC 0) (dI 0) s.heap (ta i) (tb i) ∧ wArr (dA 1) (litT i).length (fun j => .int (iI ((litT i).getD j 0))) (tb i) s.heap := ⟨fun i => (Classical.choose (kT i)).1, fun i => (Classical.choose (kT i)).2, fun i hi => Classical.choose_spec (kT i) hi⟩
  obtain ⟨d1, e1, w1⟩ := cn_dig (g := fun j => 48 + (j : Int) % 10) hcB (fun w h => hw w (cnD1_in w h))
  obtain ⟨d2, e2, w2⟩ := cn_dig (g := fun j => 48 + (j : Int) / 10) hcB (fun w h => hw w (cnD2_in w h))
  obtain ⟨e0, e3, w3⟩ := cn_emp hcO hw
  obtain ⟨mi, hmi⟩ := va_Mi.of (hw (.isRef (.mirror "[Ljava/lang/Object;")) (List.mem_of_getElem? (i := 219) (by decide +kernel)))
  obtain ⟨S, hS0, hS1, hS2, hS3, hS4⟩ : ∃ S : Nat → Nat, (∀ i, i < 14 → S i = ta i) ∧ S 20 = e0 ∧ S 21 = d1 ∧ S 22 = d2 ∧ S 23 = mi := ⟨fun i => if i < 14 then ta i else if i = 20 then e0 else if i = 21 then d1 else if i = 22 then d2 else mi, fun i hi => if_pos hi, rfl, rfl, rfl, rfl⟩
  have hTT : ∀ a ∈ (List.range 14).map ta, ∃ b, cnT (dC 0) (dI 0) s.heap a b := fun a h => by
    obtain ⟨i, hi, rfl⟩ := List.mem_map.mp h
    exact ⟨tb i, (hT i (List.mem_range.mp hi)).2.1⟩
  have hRR : ∀ a ∈ d1 :: d2 :: (List.range 14).map tb, ∃ (n : Nat) (f : Nat → Int32), wArr (dA 1) n (fun j => .int (f j)) a s.heap := fun a h => by
    rcases List.mem_cons.mp h with h | h
    · rw [h]
      exact ⟨_, _, w1⟩
    · rcases List.mem_cons.mp h with h | h
      · rw [h]
        exact ⟨_, _, w2⟩
      · obtain ⟨i, hi, rfl⟩ := List.mem_map.mp h
        exact ⟨_, _, (hT i (List.mem_range.mp hi)).2.2⟩
  have nT : ∀ {a n : Nat} {z : Nat → Value}, wArr (dA 1) n z a s.heap → a ∉ (List.range 14).map ta := fun {a n z} h q => by
    obtain ⟨b, ce, q1, q2, -⟩ := hTT a q
    obtain ⟨ce2, r1, r2, -⟩ := h
    cases q1.symm.trans r1
    exact hne1 (q2.symm.trans r2)
  have nT0 : e0 ∉ (List.range 14).map ta := fun q => by
    obtain ⟨b, ce, q1, q2, -⟩ := hTT e0 q
    obtain ⟨ce2, r1, r2, -⟩ := w3 (fun _ => .null)
    cases q1.symm.trans r1
    exact hne3 (q2.symm.trans r2)
  have nR0 : e0 ∉ d1 :: d2 :: (List.range 14).map tb := fun q => by
    obtain ⟨n, f, ce, q1, q2, -⟩ := hRR e0 q
    obtain ⟨ce2, r1, r2, -⟩ := w3 (fun _ => .null)
    cases q1.symm.trans r1
    exact hne13 (q2.symm.trans r2)
  obtain ⟨L, hLd⟩ : ∃ L : Mem, L = cnM s.heap (dI 0 0) ((List.range 14).map ta) (d1 :: d2 :: (List.range 14).map tb) e0 := ⟨_, rfl⟩
  have hLrow : ∀ {a n : Nat} {f : Nat → Int32}, wArr (dA 1) n (fun j => .int (f j)) a s.heap → a ∈ d1 :: d2 :: (List.range 14).map tb → L a = some (.inr (.inl (1, n, rdF s.heap a))) := fun {a n f} h q => by
    rw [hLd]
    unfold cnM
    rw [if_neg (nT h), if_pos q, rdN_of h]
  have hHd : Hd ((dC, dI), dA, s.heap.size, S) L s.heap ∧ LOK s.heap.size L := by
    rw [hLd]
    exact cn_hd (s := s) (G := ((dC, dI), dA, s.heap.size, S)) rfl hTT hRR w3
  have hZ := cn_evZ (B := s.heap.size) hts hw rfl (S := S) (by rw [hS1]; exact e3) (by rw [hS2]; exact e1) (by rw [hS3]; exact e2)
  refine ⟨((dC, dI), dA, s.heap.size, S), L, rfl, ⟨⟨hC, fun k q h => ?_⟩, cn_evN hts, cn_evL (S := S) hts hw (fun i hi => by rw [hS0 i hi]; exact (hT i hi).1), hZ.1, cn_evC hts, va_AO.of (A := A) (hts _ (List.mem_of_getElem? (i := 816) (by decide +kernel))), hZ.2, by show va_Mi _ (S 23) s; rw [hS4]; exact hmi, va_Dc.of (A := A) (hts _ (List.mem_of_getElem? (i := 2032) (by decide +kernel))), va_Nw.of (A := A) rfl (hts _ (List.mem_of_getElem? (i := 576) (by decide +kernel)))⟩, hHd.1, hHd.2, fun i hi => ?_, ⟨⟨rdF s.heap d1, by show L (S 21) = _; rw [hS2]; exact hLrow w1 List.mem_cons_self, fun k h0 h1 => ?_⟩, rdF s.heap d2, by show L (S 22) = _; rw [hS3]; exact hLrow w2 (List.mem_cons_of_mem _ List.mem_cons_self), fun k h0 h1 => ?_⟩, ?_⟩
  · match k, h with
    | 0, h => cases h; exact hA 0 _ rfl
    | 1, h => cases h; exact hA 1 _ rfl
    | 2, h => cases h; exact hA 2 _ rfl
    | 3, h => cases h; exact hA 3 _ rfl
    | k + 4, h => cases h
  · obtain ⟨-, q1, q2⟩ := hT i hi
    have hm : ta i ∈ (List.range 14).map ta := List.mem_map.mpr ⟨i, List.mem_range.mpr hi, rfl⟩
    have hm2 : tb i ∈ d1 :: d2 :: (List.range 14).map tb := List.mem_cons_of_mem _ (List.mem_cons_of_mem _ (List.mem_map.mpr ⟨i, List.mem_range.mpr hi, rfl⟩))
    refine ⟨tb i, [], rdF s.heap (tb i), ⟨?_, rfl⟩, ⟨hLrow q2 hm2, rfl⟩, (cnL_ok i hi).1, fun k hk => ⟨rdF_of q2 hk, (cnL_ok i hi).2 k hk⟩⟩
    show L (S i) = _
    rw [hS0 i hi, hLd]
    unfold cnM
    rw [if_pos hm, rdS_of q1]
  · have hk : k.toNat < 100 := by omega
    rw [rdF_of w1 hk]
    show iI (48 + (k.toNat : Int) % 10) = _
    rw [Int.toNat_of_nonneg h0]
  · have hk : k.toNat < 100 := by omega
    rw [rdF_of w2 hk]
    show iI (48 + (k.toNat : Int) / 10) = _
    rw [Int.toNat_of_nonneg h0]
  · refine ⟨fun _ => none, ?_⟩
    show L (S 20) = _
    rw [hS1, hLd]
    unfold cnM
    rw [if_neg nT0, if_neg nR0, if_pos rfl]
