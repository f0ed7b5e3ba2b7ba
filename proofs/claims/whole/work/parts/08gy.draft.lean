/-! LOAN: the draft, class -/
section DRA
variable {B : Nat} {S : Nat → Nat} {L : Mem} {x0 : Nat} {ad rho : Nat → Nat} {xl : Nat → List Nat} {M Mz : Mem} {u : MS} {sz zz N j c : Nat} {g : Nat → Int} {t : List Int} {w : Int}
theorem z_loanNew (hB : B ≤ sz) (ha : Nat) (x y : Int32) : ∃ M1, f_X4_init B S (va_up M sz (some (.inl (7, [.null, .int 0, .null, .int 0, .int 0])))) (sz + 1) (some sz) (some ha) x y = some (M1, sz + 2) ∧ M1 sz = some (.inl (7, [.ref ha, .int x, .ref (sz + 1), .int 1, .int y])) ∧ M1 (sz + 1) = some (.inl (2, [.int 0, .ref (S 20), .int 0])) ∧ ∀ z, z ≠ sz → z ≠ sz + 1 → M1 z = M z := by
  have h0 : (va_up M sz (some (.inl (7, [.null, .int 0, .null, .int 0, .int 0])))) sz = some (.inl (7, [.null, .int 0, .null, .int 0, .int 0])) := va_up_self ..
  have f0 : ∀ z, z ≠ sz → (va_up M sz (some (.inl (7, [.null, .int 0, .null, .int 0, .int 0])))) z = M z := fun z hz => va_up_ne _ _ hz
  generalize va_up M sz (some (.inl (7, [.null, .int 0, .null, .int 0, .int 0]))) = M0 at *
  have h3 : (va_up M0 (sz + 1) (some (.inl (2, [.int 0, .null, .int 0])))) (sz + 1) = some (.inl (2, [.int 0, .null, .int 0])) := va_up_self ..
  have f3 : ∀ z, z ≠ sz + 1 → (va_up M0 (sz + 1) (some (.inl (2, [.int 0, .null, .int 0])))) z = M0 z := fun z hz => va_up_ne _ _ hz
  obtain ⟨M4, e4, a4, f4⟩ := z_lisNew (B := B) (S := S) (c := sz + 1) (by omega) h3
  have t4 : M4 sz = some (.inl (7, [.null, .int 0, .null, .int 0, .int 0])) := by rw [f4 sz (by omega), f3 sz (by omega)]; exact h0
  obtain ⟨M5, e5, t5, f5⟩ := pF_ob hB t4 2 (va_rf (some (sz + 1))) (by simp)
  have t5' : M5 sz = some (.inl (7, [.null, .int 0, .ref (sz + 1), .int 0, .int 0])) := t5
  obtain ⟨M6, e6, t6, f6⟩ := pF_ob hB t5' 3 (.int (1 : Int32)) (by simp)
  have t6' : M6 sz = some (.inl (7, [.null, .int 0, .ref (sz + 1), .int 1, .int 0])) := t6
  obtain ⟨M7, e7, t7, f7⟩ := pF_ob hB t6' 0 (va_rf (some ha)) (by simp)
  have t7' : M7 sz = some (.inl (7, [.ref ha, .int 0, .ref (sz + 1), .int 1, .int 0])) := t7
  obtain ⟨M8, e8, t8, f8⟩ := pF_ob hB t7' 1 (.int x) (by simp)
  have t8' : M8 sz = some (.inl (7, [.ref ha, .int x, .ref (sz + 1), .int 1, .int 0])) := t8
  obtain ⟨M9, e9, t9, f9⟩ := pF_ob hB t8' 4 (.int y) (by simp)
  refine ⟨M9, ?_, t9, ?_, fun z h1 h2 => ?_⟩
  · unfold f_X4_init
    rw [if_pos (by simp)]
    simp only [Option.bind_some]
    rw [e4]
    simp only [Option.bind_some]
    rw [e5]
    simp only [Option.bind_some]
    rw [e6]
    simp only [Option.bind_some]
    rw [e7]
    simp only [Option.bind_some]
    rw [e8]
    simp only [Option.bind_some]
    rw [e9]
    rfl
  · rw [f9 _ (by omega), f8 _ (by omega), f7 _ (by omega), f6 _ (by omega), f5 _ (by omega)]
    exact a4
  · rw [f9 _ h1, f8 _ h1, f7 _ h1, f6 _ h1, f5 _ h1, f4 _ h2, f3 _ h2, f0 _ h1]
theorem z_draft (hL : LOK B L) (hEm : EmpOK S L) (h : RepK B S L x0 ad rho xl M u sz) (hI : Inv u xl) (hd : Rd B ad rho M M N g t j w) (ht : t.length = 2 + c) (hc : c ≤ 16) (hin : ∀ x, x ∈ t.drop 2 → 0 ≤ x ∧ x < vN u 5) {hh : Nat} (hhh : hh < (vN u 14).toNat) (n : Nat) (hn : 60 ≤ n) : ∃ (M1 : Mem) (zz1 : Nat) (rh1 pa1 : Nat → Nat), f_X11_draftLoan B S n M sz (some x0) (some (ad (5000 + hh))) = some (some sz, M1, zz1) ∧ sz ≤ zz1 ∧ (∀ y, y < sz → M1 y = M y) ∧ OwnD rh1 sz zz1 (pkL u (vR u 16 hh) (ordW (fun t => vR u 8 t) [] ((t.drop 2).map Int.toNat)) (fun _ => []) 0).2 ∧ DraC S ad M1 rh1 u sz (ad (5000 + hh)) (iI (t.getD 0 0)) 1 (iI (t.getD 1 0)) pa1 (pkL u (vR u 16 hh) (ordW (fun t => vR u 8 t) [] ((t.drop 2).map Int.toNat)) (fun _ => []) 0).1 (pkL u (vR u 16 hh) (ordW (fun t => vR u 8 t) [] ((t.drop 2).map Int.toNat)) (fun _ => []) 0).2 ∧ CtOK u (vN u 5).toNat (pkL u (vR u 16 hh) (ordW (fun t => vR u 8 t) [] ((t.drop 2).map Int.toNat)) (fun _ => []) 0).1 (pkL u (vR u 16 hh) (ordW (fun t => vR u 8 t) [] ((t.drop 2).map Int.toNat)) (fun _ => []) 0).2 c := by
  have n5 := hI.n5
  have hx := h.xlt
  have hown : ∀ y, rho y = 3 → y < sz := fun y hy => (h.1.2 y (by omega)).2
  have fv : ∀ y, y < sz → (va_up M sz (some (.inl (7, [.null, .int 0, .null, .int 0, .int 0])))) y = M y := fun y hy => va_up_ne _ _ (by omega)
  have hbv : (va_up M sz (some (.inl (7, [.null, .int 0, .null, .int 0, .int 0])))) x0 = some (.inl (14, booF ad (iI (stdS u)) (u.1 33) (u.1 10) (u.1 4) (u.1 2))) := (fv x0 hx.2).trans h.book
  have rdv := hd.fr (M2 := va_up M sz (some (.inl (7, [.null, .int 0, .null, .int 0, .int 0])))) (fun y hy => fv y (hown y hy))
  obtain ⟨M8, e8, a8, b8, f8⟩ := z_loanNew (S := S) (M := M) (show B ≤ sz by omega) (ad (5000 + hh)) (iI (t.getD 0 0)) (iI (t.getD 1 0))
  have h9 : (va_up M8 (sz + 2) (some (.inl (2, [.int 0, .null, .int 0])))) (sz + 2) = some (.inl (2, [.int 0, .null, .int 0])) := va_up_self ..
  obtain ⟨M9, e9, a9, f9⟩ := z_lisNew (B := B) (S := S) (c := sz + 2) (by omega) h9
  have f9' : ∀ y, y ≠ sz + 2 → M9 y = M8 y := fun y hy => by rw [f9 y hy, va_up_ne _ _ hy]
  have fr9 : ∀ y, y < sz → M9 y = M y := fun y hy => by rw [f9' y (by omega), f8 y (by omega) (by omega)]
  have K9 := h.more hL fr9
  have rd9 := hd.fr (M2 := M9) (fun y hy => fr9 y (hown y hy))
  have hl0 : LisR S M9 (fun y => if y = sz + 2 then 999 else 0) 999 (sz + 2) (([] : List Nat).map (fun t => ad (1000 + t))) := ⟨0, S 20, 0, fun _ => none, ⟨a9, if_pos rfl⟩, Or.inl ⟨rfl, rfl⟩, Nat.le_refl _, fun k hk => by simp at hk⟩
  obtain ⟨M10, z10, r10, p1, p2, p3, p4, p5⟩ := z_lentL hL hEm K9 hI rd9 ht hc hin n (wt := sz + 2) (by omega) (some sz) 18 0 [] M9 (sz + 3) _ (Nat.zero_le _) (by omega) (Nat.le_refl _) (fun a ha => by simp at ha) (fun y _ => rfl) hl0 (fun y hy => by
    by_cases q : y = sz + 2
    · omega
    · have hy2 : (if y = sz + 2 then 999 else 0) = 999 := hy
      rw [if_neg q] at hy2
      omega)
  have p1' : f_X11_draftLoan_L36 B S n (some x0) (some sz) (some (sz + 2)) 18 M9 (sz + 3) (2 : Int32) = some (M10, z10) := p1
  have hperm := ordW_perm (fun t => vR u 8 t) ((t.drop 2).map Int.toNat) []
  have p4' : LisR S M10 r10 999 (sz + 2) ((ordW (fun t => vR u 8 t) [] ((t.drop 2).map Int.toNat)).map (fun t => ad (1000 + t))) := p4
  generalize hlw : ordW (fun t => vR u 8 t) [] ((t.drop 2).map Int.toNat) = lw at *
  have hlen : lw.length = c := by
    rw [hperm.length_eq, List.nil_append, List.length_map, List.length_drop]
    omega
  have hmem : ∀ x, x ∈ lw → x < (vN u 5).toNat := fun x hx => by
    have := hperm.mem_iff.mp hx
    rw [List.nil_append] at this
    obtain ⟨y, hy, rfl⟩ := List.mem_map.mp this
    have := hin y hy
    omega
  have fr10 : ∀ y, y < sz → M10 y = M y := fun y hy => (p3 y (by omega)).trans (fr9 y hy)
  have hTo : ∀ i, i < (vN u 5).toNat → ad (1000 + i) < sz := fun i hi => (thi_at h (Mz := M) (fun _ _ => rfl) hi).2.2.2
  obtain ⟨wh, gh, -⟩ := h.hou hhh
  have hah := (h.own gh (by omega)).2
  have a10 : M10 sz = some (.inl (7, [.ref (ad (5000 + hh)), .int (iI (t.getD 0 0)), .ref (sz + 1), .int 1, .int (iI (t.getD 1 0))])) := by
    rw [p3 sz (by omega), f9' sz (by omega)]
    exact a8
  have b10 : M10 (sz + 1) = some (.inl (2, [.int 0, .ref (S 20), .int 0])) := by
    rw [p3 _ (by omega), f9' _ (by omega)]
    exact b8
  obtain ⟨rh0, r1, r2, r3⟩ : ∃ rh0 : Nat → Nat, rh0 sz = 1 ∧ rh0 (sz + 1) = 2 ∧ ∀ y, y ≠ sz → y ≠ sz + 1 → rh0 y = 0 := ⟨fun y => if y = sz then 1 else if y = sz + 1 then 2 else 0, if_pos rfl, by
    show (if sz + 1 = sz then 1 else if sz + 1 = sz + 1 then 2 else 0) = 2
    rw [if_neg (by omega), if_pos rfl], fun y q1 q2 => by
    show (if y = sz then 1 else if y = sz + 1 then 2 else 0) = 0
    rw [if_neg q1, if_neg q2]⟩
  have own0 : OwnD rh0 sz z10 0 := fun y hy => by
    by_cases q1 : y = sz
    · subst q1
      omega
    · by_cases q2 : y = sz + 1
      · subst q2
        omega
      · exact absurd (r3 y q1 q2) hy
  have d0 : DraC S ad M10 rh0 u sz (ad (5000 + hh)) (iI (t.getD 0 0)) 1 (iI (t.getD 1 0)) (fun _ => 0) (fun _ => []) 0 := ⟨⟨sz + 1, ⟨a10, r1⟩, 0, S 20, 0, fun _ => none, ⟨b10, r2⟩, Or.inl ⟨rfl, rfl⟩, Nat.le_refl _, fun k hk => by simp at hk⟩, fun p hp => by omega⟩
  obtain ⟨eS, eS2⟩ := h.empS hL hEm fr10
  have v16 := vR_rng u 16 hh
  obtain ⟨M11, z11, rh1, pa1, w1, w2, w3, w4, w5, w6, w7⟩ := z_packA (B := B) (T := (vN u 5).toNat) (lim := vR u 16 hh) (wt := sz + 2) (lt := lw) (show B ≤ sz by omega) eS2 hTo (fun i hi => by
    have := (hI.thi i hi).2.2
    omega) hmem (by omega) hah (by omega) n hn lw 0 18 M10 z10 rh0 _ _ 0 (List.drop_zero) (by omega) (by omega) d0 own0 (by omega) eS (fun i hi => by
    obtain ⟨⟨wq, gq, -⟩, -⟩ := h.thi hi
    exact ⟨_, _, _, _, _, (fr10 _ (hTo i hi)).trans gq.1⟩) ⟨fun p => ⟨fun x hx => by simp at hx, by simp, by simp [sumN], by simp [sumN]⟩, fun p _ => rfl, Nat.le_refl _⟩ (by
    have e : gI M10 (some (ad (5000 + hh))) 6 1 = some (u.2 16 hh) := gI_at ((fr10 _ hah).trans gh.1)
    rw [e, u2_iI]) p4' (fun y hy => by
    have := p5 y hy
    exact ⟨r3 y (by omega) (by omega), this.2⟩)
  have w1' : f_X11_draftLoan_L83 B S n (some sz) (some (sz + 2)) 18 M10 z10 (0 : Int32) = some (some sz, M11, z11) := w1
  rw [hlen] at w7
  refine ⟨M11, z11, rh1, pa1, ?_, by omega, fun y hy => (w3 y (own0.lo (Or.inl hy)) (by omega)).trans (fr10 y hy), w5, w6, w7⟩
  unfold f_X11_draftLoan
  simp only [Option.bind_some]
  rw [(bk hbv).2.1]
  simp only [Option.bind_some]
  have t0 : f_X7_told (va_up M sz (some (.inl (7, [.null, .int 0, .null, .int 0, .int 0])))) (some (ad 3)) (0 : Int32) = some (iI (t.getD 0 0)) := rdv.getD 0 (by omega)
  have t1 : f_X7_told (va_up M sz (some (.inl (7, [.null, .int 0, .null, .int 0, .int 0])))) (some (ad 3)) (1 : Int32) = some (iI (t.getD 1 0)) := rdv.getD 1 (by omega)
  rw [if_pos rdv.is, t0]
  simp only [Option.bind_some]
  rw [if_pos rdv.is, t1]
  simp only [Option.bind_some]
  rw [e8]
  simp only [Option.bind_some]
  rw [e9]
  simp only [Option.bind_some]
  rw [p1']
  simp only [Option.bind_some]
  exact w1'
end DRA
