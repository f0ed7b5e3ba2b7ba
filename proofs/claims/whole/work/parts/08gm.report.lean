/-! REPORT: made; a row that takes one in between; the reference keeps one -/
section REM
variable {B : Nat} {S : Nat → Nat} {L : Mem} {ad rho : Nat → Nat} {M : Mem} {sz N j : Nat} {g : Nat → Int} {t : List Int} {w : Int} {c : Nat} {dv : Value}
theorem z_repInit_L (hL : LOK B L) (hS : LitOK S L) (hD : DigOK S L) (hcon : ∀ y e, L y = some e → M y = some e) (hBs : B ≤ sz) (hown : ∀ y, rho y = 3 → y < sz) (hR : Rd B ad rho M M N g t j w) (hv : valH c t) (ht : t.length = 3 * c) (hok : hOK t c 0 = true) (hnd : ndA t c 0 = true) (hc : c ≤ 15) (n : Nat) (hn : 2100 ≤ n) : ∀ (r i k : Nat) (Mz : Mem) (xs : List Nat) (F G : Nat → Int32), i + r = c → r < k → RO3 Mz sz c dv .null F G → SrtH t xs i F G → (∀ y, y < sz → Mz y = M y) → ∃ (wt : Nat) (M1 : Mem) (sz1 : Nat) (xs1 : List Nat) (F1 G1 : Nat → Int32), f_X8_init_L31 B S n (some sz) (some (ad 3)) (iI c) k Mz (sz + 1 + 1 + 1) (iI i) = some (M1, sz1) ∧ sz + 3 ≤ sz1 ∧ (∀ y, y < sz → M1 y = M y) ∧ RO3 M1 sz c dv (.ref wt) F1 G1 ∧ SrtH t xs1 c F1 G1 ∧ ((c = 0 ∧ wt = S 1) ∨ (0 < c ∧ sz + 3 ≤ wt ∧ wt + 1 < sz1 ∧ ∀ (rho1 : Nat → Nat) (id : Nat), rho1 wt = id → rho1 (wt + 1) = id → TxtR M1 rho1 id wt (harT (kH t) (fun q => t.getD (3 * q + 2) 0) xs1 false))) := by
  intro r
  induction r with
  | zero =>
    intro i k Mz xs F G hi hk h hx fr
    obtain ⟨k, rfl⟩ : ∃ k', k = k' + 1 := ⟨k - 1, by omega⟩
    have ei : i = c := by omega
    subst ei
    have c0 : ∀ y e, L y = some e → Mz y = some e := con_up hL hBs hcon fr
    have eL := aL_i (show 0 < 4 by omega) h.2.1
    by_cases z : i = 0
    · subst z
      have sp : f_X11_spelling S Mz (101 : Int32) = some (some (S 1)) := z_spelling S Mz 101 (by omega)
      obtain ⟨M2, p1, p2, p3⟩ := pF_ob hBs h.1 1 (va_rf (some (S 1))) (by simp)
      refine ⟨S 1, M2, sz + 1 + 1 + 1, xs, F, G, ?_, Nat.le_refl _, fun y hy => by rw [p3 y (by omega), fr y hy], ⟨p2, by rw [p3 _ (by omega)]; exact h.2.1, by rw [p3 _ (by omega)]; exact h.2.2⟩, hx, Or.inl ⟨rfl, rfl⟩⟩
      unfold f_X8_init_L31 f_X8_write
      rw [it_le _ _ (by omega), if_pos (by omega), h.r2.1, Option.bind_some, h.r2.2, Option.bind_some, eL, Option.bind_some, if_pos (show iI ((0 : Nat) : Int) = (0 : Int32) from rfl), sp]
      simp only [Option.bind_some]
      rw [p1]
      rfl
    · obtain ⟨N0, e0, s0, f0⟩ := z_sbNew (B := B) (sz := sz + 1 + 1 + 1) (by omega) Mz
      have h0 : RO3 N0 sz i dv .null F G := ⟨(f0 _ (by omega)).trans h.1, (f0 _ (by omega)).trans h.2.1, (f0 _ (by omega)).trans h.2.2⟩
      obtain ⟨wt, M1, w1, w2, w3, w4⟩ := z_repWrite_L hL hS hD hBs hcon hv hok hc hx n (by omega) (sz + 1 + 1 + 1) i 0 17 N0 (sz + 1 + 1 + 1 + 2) [] (by omega) (by omega) h0 s0 (by simp) (fun y hy => by rw [f0 y (by omega), fr y hy])
      have h1 : RO3 M1 sz i dv .null F G := ⟨(w3 _ (by omega)).trans h0.1, (w3 _ (by omega)).trans h0.2.1, (w3 _ (by omega)).trans h0.2.2⟩
      obtain ⟨M2, p1, p2, p3⟩ := pF_ob hBs h1.1 1 (va_rf (some wt)) (by simp)
      have w1' : f_X8_write_L21 B S n (some (sz + 1)) (some (sz + 1 + 1)) (some (sz + 1 + 1 + 1)) 17 N0 (sz + 1 + 1 + 1 + 2) (0 : Int32) = some (some wt, M1, wt + 2) := w1
      refine ⟨wt, M2, wt + 2, xs, F, G, ?_, by omega, fun y hy => by rw [p3 y (by omega), w3 y (by omega), f0 y (by omega), fr y hy], ⟨p2, by rw [p3 _ (by omega)]; exact h1.2.1, by rw [p3 _ (by omega)]; exact h1.2.2⟩, hx, Or.inr ⟨by omega, w2, by omega, fun rho1 id r1 r2 => ?_⟩⟩
      · unfold f_X8_init_L31 f_X8_write
        rw [it_le _ _ (by omega), if_pos (by omega), h.r2.1, Option.bind_some, h.r2.2, Option.bind_some, eL, Option.bind_some, if_neg (by rw [iI_zero, iI_eq _ _ (by omega)]; omega), Option.bind_some, e0]
        simp only [Option.bind_some]
        rw [w1']
        simp only [Option.bind_some]
        rw [p1]
        rfl
      · exact txt_up w4 (p3 _ (by omega)) (p3 _ (by omega)) r1 r2
  | succ r ih =>
    intro i k Mz xs F G hi hk h hx fr
    obtain ⟨k, rfl⟩ : ∃ k', k = k' + 1 := ⟨k - 1, by omega⟩
    have hilt : i < c := by omega
    have vk := hv.key hilt
    have rd := hR.fr (M2 := Mz) (fun y hy => fr y (hown y hy))
    have id1 : RO3 Mz sz c dv .null (shf F i i) (shf G i i) := by
      rw [shf_id, shf_id]
      exact h
    obtain ⟨q, M2, e2, q1, q2, q3, h2, f2⟩ := z_shift hBs n (sz + 1 + 1 + 1) i hilt (by omega) (iI c) (iI i) (some (ad 3)) (kH t i) (by omega) F G n i Mz (Nat.le_refl _) (by omega) id1 (fun q' a1 a2 => by omega)
    have h3 := h2.setF (F1 := upd (shf F q i) q (iI (kH t i)))
    have h4 := h3.setG (G1 := upd (shf G q i) q (iI (t.getD (3 * i + 2) 0)))
    have fr3 : ∀ y, y < sz → (va_up M2 (sz + 1) (some (.inr (.inl (0, c, upd (shf F q i) q (iI (kH t i))))))) y = M y := fun y hy => by rw [va_up_ne _ _ (by omega), f2 y hy, fr y hy]
    have fr4 : ∀ y, y < sz → (va_up (va_up M2 (sz + 1) (some (.inr (.inl (0, c, upd (shf F q i) q (iI (kH t i))))))) (sz + 1 + 1) (some (.inr (.inl (0, c, upd (shf G q i) q (iI (t.getD (3 * i + 2) 0))))))) y = M y := fun y hy => by rw [va_up_ne _ _ (by omega)]; exact fr3 y hy
    have rd3 := hR.fr (M2 := va_up M2 (sz + 1) (some (.inr (.inl (0, c, upd (shf F q i) q (iI (kH t i))))))) (fun y hy => fr3 y (hown y hy))
    have hx2 := hx.ins hv hilt (fun b hb => ndA_all 0 hnd i b (by omega) (by omega) hb) q1 q2 q3
    obtain ⟨wt, M1, sz1, xs1, F1, G1, w1, w2⟩ := ih (i + 1) k _ _ _ _ (by omega) (by omega) h4 hx2 fr4
    refine ⟨wt, M1, sz1, xs1, F1, G1, ?_, w2⟩
    unfold f_X8_init_L31
    rw [it_le _ _ (by omega), if_neg (by omega), rd.spot hv ht i hilt, Option.bind_some, e2]
    simp only [Option.bind_some]
    rw [h2.r2.1]
    simp only [Option.bind_some]
    rw [sI_at (show B ≤ sz + 1 by omega) h2.2.1 (by omega) (by omega), Option.bind_some, Int.toNat_natCast, h3.r2.2]
    simp only [Option.bind_some]
    rw [if_pos rd3.is, i32, rd3.getD (3 * i + 2) (by omega)]
    simp only [Option.bind_some]
    rw [sI_at (show B ≤ sz + 1 + 1 by omega) h3.2.2 (by omega) (by omega), Option.bind_some, Int.toNat_natCast, iI_s]
    exact w1
theorem z_repInit (hL : LOK B L) (hS : LitOK S L) (hD : DigOK S L) (hcon : ∀ y e, L y = some e → M y = some e) (hBs : B ≤ sz) (hown : ∀ y, rho y = 3 → y < sz) (hR : Rd B ad rho M M N g t j w) (hv : valH c t) (ht : t.length = 3 * c) (hok : hOK t c 0 = true) (hnd : ndA t c 0 = true) (hc : c ≤ 15) (day : Int32) (n : Nat) (hn : 2100 ≤ n) : ∃ (wt : Nat) (M1 : Mem) (sz1 : Nat) (xs1 : List Nat) (F1 G1 : Nat → Int32), f_X8_init B S n (va_up M sz (some (.inl (11, [.int 0, .null, .null, .null])))) (sz + 1) (some sz) day (some (ad 3)) = some (M1, sz1) ∧ sz + 3 ≤ sz1 ∧ (∀ y, y < sz → M1 y = M y) ∧ RO3 M1 sz c (.int day) (.ref wt) F1 G1 ∧ SrtH t xs1 c F1 G1 ∧ ((c = 0 ∧ wt = S 1) ∨ (0 < c ∧ sz + 3 ≤ wt ∧ wt + 1 < sz1 ∧ ∀ (rho1 : Nat → Nat) (id : Nat), rho1 wt = id → rho1 (wt + 1) = id → TxtR M1 rho1 id wt (harT (kH t) (fun q => t.getD (3 * q + 2) 0) xs1 false))) := by
  have h0 : (va_up M sz (some (.inl (11, [.int 0, .null, .null, .null])))) sz = some (.inl (11, [.int 0, .null, .null, .null])) := va_up_self ..
  have f0 : ∀ y, y ≠ sz → (va_up M sz (some (.inl (11, [.int 0, .null, .null, .null])))) y = M y := fun y hy => va_up_ne _ _ hy
  generalize va_up M sz (some (.inl (11, [.int 0, .null, .null, .null]))) = M0 at *
  obtain ⟨M2, e2, t2, f2⟩ := pF_ob hBs h0 0 (.int day) (by simp)
  have k2 : ∀ y, y < sz → M2 y = M y := fun y hy => by rw [f2 y (by omega), f0 y (by omega)]
  have r2 := hR.fr (M2 := M2) (fun y hy => k2 y (hown y hy))
  have ec : (iI (c : Int)).toNatClampNeg = c := by rw [iI_clamp _ (by omega)]; omega
  have t3 : (va_up M2 (sz + 1) (some (.inr (.inl (0, c, fun _ => 0))))) sz = some (.inl (11, [.int day, .null, .null, .null])) := by rw [va_up_ne _ _ (by omega)]; exact t2
  obtain ⟨M4, e4, t4, f4⟩ := pF_ob hBs t3 2 (va_rf (some (sz + 1))) (by simp)
  have t5 : (va_up M4 (sz + 1 + 1) (some (.inr (.inl (0, c, fun _ => 0))))) sz = some (.inl (11, [.int day, .null, .ref (sz + 1), .null])) := by rw [va_up_ne _ _ (by omega)]; exact t4
  obtain ⟨M6, e6, t6, f6⟩ := pF_ob hBs t5 3 (va_rf (some (sz + 1 + 1))) (by simp)
  have h6 : RO3 M6 sz c (.int day) .null (fun _ => 0) (fun _ => 0) := ⟨t6, by rw [f6 _ (by omega), va_up_ne _ _ (by omega), f4 _ (by omega), va_up_self], by rw [f6 _ (by omega), va_up_self]⟩
  obtain ⟨wt, M1, sz1, xs1, F1, G1, w1, w2⟩ := z_repInit_L hL hS hD hcon hBs hown hR hv ht hok hnd hc n hn c 0 130 M6 [] (fun _ => 0) (fun _ => 0) (by omega) (by omega) h6 ⟨List.Perm.refl _, List.Pairwise.nil, fun k q hk => by simp at hk⟩ (fun y hy => by rw [f6 y (by omega), va_up_ne _ _ (by omega), f4 y (by omega), va_up_ne _ _ (by omega), k2 y hy])
  refine ⟨wt, M1, sz1, xs1, F1, G1, ?_, w2⟩
  have hcap : ¬ iI (c : Int) < 0 ∧ c ≤ 64 := ⟨by rw [iI_zero, iI_lt _ _ (by omega)]; omega, by omega⟩
  unfold f_X8_init
  rw [if_pos (by simp), e2, Option.bind_some, r2.harms ht, Option.bind_some]
  simp only [ec]
  rw [if_pos hcap, Option.bind_some, e4, Option.bind_some, if_pos hcap, Option.bind_some, e6, Option.bind_some]
  exact w1
end REM
/-! a list takes one in between -/
section LINS
variable {B : Nat} {S : Nat → Nat} {M : Mem} {rho : Nat → Nat} {sz id a x : Nat} {l : List Nat}
theorem LisR.ins (h : LisR S M rho id a l) (hS : EmpOK S M) (hS2 : S 20 < B) (hBs : B ≤ sz) (hw : ∀ y, rho y = id → B ≤ y ∧ y < sz) (hn : l.length < 49) (hE : ∀ y, y ∈ l → isE M (some y) = true ∧ y ≠ a ∧ y < sz) (hx : isE M (some x) = true ∧ x ≠ a ∧ x < sz) (q : Nat) (hq : q ≤ l.length) : ∃ (M1 : Mem) (sz1 : Nat), f_Jx4a65c_add_7a177 B S M sz (some a) (iI q) (some x) = some (M1, sz1) ∧ (sz1 = sz ∨ sz1 = sz + 1) ∧ (∀ y, rho y ≠ id → y < sz → M1 y = M y) ∧ ∀ rho1 : Nat → Nat, (∀ y, rho y = id → rho1 y = id) → (sz < sz1 → rho1 sz = id) → LisR S M1 rho1 id a (l.take q ++ x :: l.drop q) := by
  obtain ⟨mc, e, cap, g, h1, h2, h3, h4⟩ := h
  have ha := hw a h1.2
  have hM2 : (va_up M a (some (.inl (2, [.int (mc + 1), .ref e, .int (iI l.length)])))) a = some (.inl (2, [.int (mc + 1), .ref e, .int (iI l.length)])) := va_up_self ..
  have hxo : ∃ ci fs, M x = some (.inl (ci, fs)) := by
    have := hx.1
    unfold isE at this
    split at this
    · cases this
    · rename_i y hy
      cases hy
      split at this
      · rename_i ci fs hm
        exact ⟨ci, fs, hm⟩
      · cases this
  have hea : e ≠ a := by
    intro q
    rcases h2 with h2 | ⟨h2, -⟩
    · rw [h2.1] at q
      omega
    · have q2 := h2.1
      rw [q, h1.1] at q2
      cases q2
  have hes : e < sz := by
    rcases h2 with h2 | ⟨h2, -⟩
    · omega
    · exact (hw e h2.2).2
  obtain ⟨g', hge, hgk⟩ : ∃ g' : Nat → Option Nat, (va_up M a (some (.inl (2, [.int (mc + 1), .ref e, .int (iI l.length)])))) e = some (.inr (.inr (3, cap, g'))) ∧ ∀ k, k < l.length → g' k = l[k]? := by
    rw [va_up_ne _ _ hea]
    rcases h2 with h2 | ⟨h2, -⟩
    · obtain ⟨q, hq⟩ := hS
      refine ⟨q, ?_, fun k hk => by omega⟩
      rw [h2.1, h2.2]
      exact hq
    · exact ⟨g, h2.1, h4⟩
  -- room
  obtain ⟨M5, e5, c5, g5, sz5, r0, r1, r2, r3, r4, r5, r6, r7⟩ : ∃ (M5 : Mem) (e5 c5 : Nat) (g5 : Nat → Option Nat) (sz5 : Nat), ((if iI (l.length : Int) = iI (cap : Int) then (if isO (va_up M a (some (.inl (2, [.int (mc + 1), .ref e, .int (iI l.length)])))) (some a) 2 = true then ((f_Jx4a65c_grow_d5877 B S (va_up M a (some (.inl (2, [.int (mc + 1), .ref e, .int (iI l.length)])))) sz (some a)).bind fun r11 => some (r11.1, r11.2.1, r11.2.2)) else none) else (some (some e, (va_up M a (some (.inl (2, [.int (mc + 1), .ref e, .int (iI l.length)])))), sz))) : Option (Option Nat × Mem × Nat)) = some (some e5, M5, sz5) ∧ M5 a = some (.inl (2, [.int (mc + 1), .ref e5, .int (iI l.length)])) ∧ M5 e5 = some (.inr (.inr (3, c5, g5))) ∧ (c5 = 10 ∨ c5 = 15 ∨ c5 = 22 ∨ c5 = 33 ∨ c5 = 49) ∧ l.length < c5 ∧ (∀ k, k < l.length → g5 k = l[k]?) ∧ (∀ y, y ≠ a → y ≠ sz → M5 y = M y) ∧ ((e5 = e ∧ sz5 = sz ∧ rho e = id) ∨ (e5 = sz ∧ sz5 = sz + 1)) := by
    by_cases c : l.length = cap
    · have hgr := z_grow (S := S) (B := B) (sz := sz) (mc := mc + 1) (a := a) (e := e) (cap := cap) (h := g') (M := va_up M a (some (.inl (2, [.int (mc + 1), .ref e, .int (iI l.length)])))) ⟨hBs, ha.1, ?_⟩ (by rw [hM2, c]) ⟨ha.2, hes⟩ hge ?_ ?_
      · obtain ⟨M1, c2, h2', y1, y2, y3, y4, y5, y6, y7⟩ := hgr
        refine ⟨M1, sz, c2, h2', sz + 1, ?_, by rw [y2, c], y3, y4, by omega, fun k hk => by rw [y6 k (by omega)]; exact hgk k hk, fun y z1 z2 => by rw [y7 y z1 z2, va_up_ne _ _ z1], Or.inr ⟨rfl, rfl⟩⟩
        rw [if_pos (by rw [c]), if_pos (isO_at hM2), y1]
        rfl
      · rcases h2 with h2 | ⟨h2, -⟩
        · exact Or.inl h2.2
        · exact Or.inr (hw e h2.2).1
      · rcases h2 with h2 | ⟨-, h2⟩
        · exact Or.inl ⟨h2.2, h2.1⟩
        · omega
      · intro k hk
        have hk2 : k < l.length := by omega
        obtain ⟨q1, q2, q3⟩ := hE l[k] (List.getElem_mem hk2)
        exact ⟨l[k], by rw [hgk k hk2, List.getElem?_eq_getElem hk2], by rw [isE_up _ _ _ _ q2]; exact q1, q3⟩
    · have h2' : At M rho id e (.inr (.inr (3, cap, g))) ∧ (cap = 10 ∨ cap = 15 ∨ cap = 22 ∨ cap = 33 ∨ cap = 49) := by
        rcases h2 with h2 | h2
        · omega
        · exact h2
      refine ⟨_, e, cap, g', sz, if_neg (by rw [iI_eq _ _ (by omega)]; omega), hM2, hge, h2'.2, by omega, hgk, fun y z1 z2 => va_up_ne _ _ z1, Or.inl ⟨rfl, rfl, h2'.1.2⟩⟩
  have e5a : e5 ≠ a := fun q => by
    rw [q, r1] at r2
    cases r2
  have hB5 : B ≤ e5 := by
    rcases r7 with ⟨z, -, z2⟩ | ⟨z, -⟩
    · rw [z]
      exact (hw e z2).1
    · omega
  have e5x : x ≠ e5 := fun q => by
    obtain ⟨ci, fs, hm⟩ := hxo
    have := r6 x hx.2.1 (by omega)
    rw [hm, q, r2] at this
    cases this
  have hnl : iI (l.length : Int) - iI (q : Int) = iI ((l.length - q : Nat) : Int) := by
    rw [iI_sub]
    congr 1
    omega
  have en : (iI ((l.length - q : Nat) : Int)).toNatClampNeg = l.length - q := by rw [iI_clamp _ (by omega)]; omega
  have eq0 : (iI (q : Int)).toNatClampNeg = q := by rw [iI_clamp _ (by omega)]; omega
  have eq1 : (iI ((q + 1 : Nat) : Int)).toNatClampNeg = q + 1 := by rw [iI_clamp _ (by omega)]; omega
  have neg : ∀ m : Nat, m < 1000 → ¬ iI (m : Int) < (0 : Int32) := fun m hm => by
    rw [iI_zero, iI_lt _ _ (by omega)]
    omega
  have hcr : cR B M5 (some e5) (iI q) (some e5) (iI ((q + 1 : Nat) : Int)) (iI ((l.length - q : Nat) : Int)) = some (va_up M5 e5 (some (.inr (.inr (3, c5, va_cpy g5 g5 q (q + 1) (l.length - q)))))) := by
    unfold cR
    simp only [Option.bind_some, r2, en, eq0, eq1]
    rw [if_pos ⟨trivial, trivial, neg q (by omega), neg (q + 1) (by omega), neg (l.length - q) (by omega), by omega, by omega, hB5, hB5, fun i hi => by
      have hi2 := List.mem_range.mp hi
      have hlt : q + i < l.length := by omega
      obtain ⟨z1, z2, z3⟩ := hE l[q + i] (List.getElem_mem hlt)
      right
      rw [r5 (q + i) hlt, List.getElem?_eq_getElem hlt, isE_fr (r6 _ z2 (by omega))]
      exact z1⟩]
  have h13 : (va_up M5 e5 (some (.inr (.inr (3, c5, va_cpy g5 g5 q (q + 1) (l.length - q)))))) e5 = some (.inr (.inr (3, c5, va_cpy g5 g5 q (q + 1) (l.length - q)))) := va_up_self ..
  have x13 : isE (va_up M5 e5 (some (.inr (.inr (3, c5, va_cpy g5 g5 q (q + 1) (l.length - q)))))) (some x) = true := by
    rw [isE_up _ _ _ _ e5x, isE_fr (r6 x hx.2.1 (by omega))]
    exact hx.1
  have a14 : (va_up (va_up M5 e5 (some (.inr (.inr (3, c5, va_cpy g5 g5 q (q + 1) (l.length - q)))))) e5 (some (.inr (.inr (3, c5, va_up (va_cpy g5 g5 q (q + 1) (l.length - q)) q (some x)))))) a = some (.inl (2, [.int (mc + 1), .ref e5, .int (iI l.length)])) := by
    rw [va_up_ne _ _ e5a.symm, va_up_ne _ _ e5a.symm]
    exact r1
  refine ⟨va_up (va_up (va_up M5 e5 (some (.inr (.inr (3, c5, va_cpy g5 g5 q (q + 1) (l.length - q)))))) e5 (some (.inr (.inr (3, c5, va_up (va_cpy g5 g5 q (q + 1) (l.length - q)) q (some x)))))) a (some (.inl (2, [.int (mc + 1), .ref e5, .int (iI ((l.length + 1 : Nat) : Int))]))), sz5, ?_, by omega, fun y hy hys => ?_, fun rho1 q1 q2 => ⟨mc + 1, e5, c5, va_up (va_cpy g5 g5 q (q + 1) (l.length - q)) q (some x), ⟨?_, q1 a h1.2⟩, Or.inr ⟨⟨by rw [va_up_ne _ _ e5a, va_up_self], ?_⟩, r3⟩, by rw [ins_len l q x hq]; omega, fun k hk => ?_⟩⟩
  · unfold f_Jx4a65c_add_7a177 f_Jx4a65c_rangeCheckForAdd_d00df
    rw [if_pos (isO_at h1.1), gI_at h1.1]
    simp only [List.getElem?_cons_zero, List.getElem?_cons_succ, Option.bind_some]
    rw [it_lt _ _ (by omega), if_neg (by omega), if_pos (by rw [iI_zero, iI_le _ _ (by omega)]; omega), Option.bind_some, gI_at h1.1]
    simp only [List.getElem?_cons_zero, List.getElem?_cons_succ, Option.bind_some]
    rw [pF_at ha.1 h1.1, if_pos (by simp), Option.bind_some]
    rw [show ([.int mc, .ref e, .int (iI l.length)] : List Value).set 0 (.int (mc + 1)) = [.int (mc + 1), .ref e, .int (iI l.length)] from rfl]
    rw [gI_at hM2]
    simp only [List.getElem?_cons_zero, List.getElem?_cons_succ, Option.bind_some]
    rw [gR_at hM2]
    simp only [List.getElem?_cons_zero, List.getElem?_cons_succ, Option.bind_some]
    rw [aL_r hge, Option.bind_some, r0]
    simp only [Option.bind_some]
    rw [iI_s, hnl, hcr, Option.bind_some, if_pos x13, sR_at hB5 h13 (by omega) (by omega), Int.toNat_natCast, Option.bind_some, pF_at ha.1 a14, if_pos (by simp), iI_s]
    rfl
  · have hya : y ≠ a := fun q => hy (by rw [q]; exact h1.2)
    have hye : y ≠ e5 := fun q => by
      rcases r7 with ⟨z, -, z2⟩ | ⟨z, -⟩
      · exact hy (by rw [q, z]; exact z2)
      · omega
    rw [va_up_ne _ _ hya, va_up_ne _ _ hye, va_up_ne _ _ hye, r6 y hya (by omega)]
  · rw [va_up_self, ins_len l q x hq]
  · rcases r7 with ⟨z, z1, z2⟩ | ⟨z, z1⟩
    · rw [z]
      exact q1 e z2
    · rw [z]
      exact q2 (by omega)
  · rw [ins_get l q x k hq]
    rw [ins_len l q x hq] at hk
    by_cases k2 : k = q
    · rw [k2, va_up_self, if_neg (by omega), if_pos rfl]
    · rw [va_up_ne _ _ k2]
      unfold va_cpy
      by_cases k1 : k < q
      · rw [if_neg (by omega), if_pos k1]
        exact r5 k (by omega)
      · rw [if_pos (by omega), if_neg k1, if_neg k2, r5 _ (by omega), show q + (k - (q + 1)) = k - 1 by omega]
end LINS
/-! the reference keeps a report -/
section RER
variable {S : Nat → Nat} {L : Mem} {u : MS} {t : List Int} {c : Nat}
def HaU (u u1 : MS) (r m : Nat) (t : List Int) : Prop := u1.1 = u.1 ∧ (∀ k, k ≠ 37 → k ≠ 38 → k ≠ 39 → u1.2 k = u.2 k) ∧ (∀ k q, q < r * 16 → u1.2 k q = u.2 k q) ∧ ∀ q, q < m → u1.2 37 (r * 16 + q) = iI (t.getD (3 * q) 0) ∧ u1.2 38 (r * 16 + q) = iI (t.getD (3 * q + 1) 0) ∧ u1.2 39 (r * 16 + q) = iI (t.getD (3 * q + 2) 0)
theorem t_hcopy {m r : Nat} (hm : m ≤ 15) (hr : vN u 33 = r) (hr48 : r < 48) (hh : rowsH u m t) (n : Nat) (y1 : Int32) : ∀ (k i : Nat) (uz : MS), i ≤ m → m - i < k → HaU u uz r i t → ∃ u1, f_X12_report_L327 S n L y1 (iI m) k uz (iI i) = some u1 ∧ HaU u u1 r m t := by
  intro k
  induction k with
  | zero => intro i uz _ h; omega
  | succ k ih =>
    intro i uz hi hk h
    obtain ⟨h1, h2, h3, h4⟩ := h
    unfold f_X12_report_L327
    rw [it_le _ _ (by omega)]
    by_cases e : i = m
    · rw [if_pos (by omega)]
      subst e
      exact ⟨uz, rfl, h1, h2, h3, h4⟩
    · have hlt : i < m := by omega
      have qi : inb (iI (i : Int)) 120 := (iI_inb _ 120 (by omega)).mpr (by omega)
      have ec : (iI (i : Int)).toNatClampNeg = i := by rw [iI_clamp _ (by omega)]; omega
      have w33 : uz.1 33 * (16 : Int32) + iI (i : Int) = iI ((r * 16 + i : Nat) : Int) := by
        rw [h1, u1_iI, hr, show (16 : Int32) = iI 16 from rfl, iI_mul, iI_add]
        congr 1
      have q2 : inb (iI ((r * 16 + i : Nat) : Int)) 768 := (iI_inb _ 768 (by omega)).mpr (by omega)
      have ec2 : (iI ((r * 16 + i : Nat) : Int)).toNatClampNeg = r * 16 + i := by rw [iI_clamp _ (by omega)]; omega
      obtain ⟨a0, a1, a2⟩ := hh i hlt
      have r48 : uz.2 48 i = iI (t.getD (3 * i) 0) := by rw [h2 48 (by decide) (by decide) (by decide)]; exact a0
      have r49 : uz.2 49 i = iI (t.getD (3 * i + 1) 0) := by rw [h2 49 (by decide) (by decide) (by decide)]; exact a1
      have r50 : uz.2 50 i = iI (t.getD (3 * i + 2) 0) := by rw [h2 50 (by decide) (by decide) (by decide)]; exact a2
      have n49 : ∀ v, (uA uz 37 (r * 16 + i) v).2 49 = uz.2 49 := fun v => uA_n _ _ _ _ (by decide)
      have n50 : ∀ v w, (uA (uA uz 37 (r * 16 + i) v) 38 (r * 16 + i) w).2 50 = uz.2 50 := fun v w => by rw [uA_n _ _ _ _ (by decide), uA_n _ _ _ _ (by decide)]
      rw [if_neg (by omega)]
      simp only [uA_1, if_pos qi, w33, if_pos q2, ec, ec2, n49, n50, r48, r49, r50]
      rw [iI_s]
      refine ih (i + 1) _ (by omega) (by omega) ⟨h1, fun k k1 k2 k3 => ?_, fun k q hq => ?_, fun q hq => ?_⟩
      · rw [uA_n _ _ _ _ k3, uA_n _ _ _ _ k2, uA_n _ _ _ _ k1]
        exact h2 k k1 k2 k3
      · have hne : q ≠ r * 16 + i := by omega
        have one : ∀ (v : MS) (kk : Nat) (z : Int32), (uA v kk (r * 16 + i) z).2 k q = v.2 k q := fun v kk z => by
          by_cases e : k = kk
          · rw [e, uA_s]
            unfold upd
            rw [if_neg hne]
          · rw [uA_n _ _ _ _ e]
        rw [one, one, one]
        exact h3 k q hq
      · rw [uA_n _ _ _ _ (by decide), uA_n _ _ _ _ (by decide), uA_s, uA_n _ _ _ _ (by decide), uA_s, uA_s, uA_n _ _ _ _ (by decide), uA_n _ _ _ _ (by decide), uA_n _ _ _ _ (by decide)]
        unfold upd
        by_cases eq : q = i
        · subst eq
          rw [if_pos rfl, if_pos rfl, if_pos rfl]
          exact ⟨rfl, rfl, rfl⟩
        · have hne : r * 16 + q ≠ r * 16 + i := by omega
          rw [if_neg hne, if_neg hne, if_neg hne]
          exact h4 q (by omega)
theorem t_hcount {r : Nat} (hr : vN u 33 = r) (hr48 : r ≤ 48) (x : Int) (hx : -2147483648 ≤ x ∧ x < 2147483648) (n : Nat) : ∀ (k i : Nat) (w : Int), i ≤ r → r - i < k → f_X12_report_L421 S n L (iI x) k u (iI w) (iI i) = fineS u (w + sumI (fun q => if decide (vR u 34 q.toNat = x) = true then 1 else 0) (r - i) i) := by
  intro k
  induction k with
  | zero => intro i w _ h; omega
  | succ k ih =>
    intro i w hi hk
    unfold f_X12_report_L421
    rw [u1_iI, hr, it_le _ _ (by omega)]
    by_cases e : i = r
    · rw [if_pos (by omega), show r - i = 0 by omega, sumI, Int.add_zero]
      rfl
    · have hlt : i < r := by omega
      have qi : inb (iI (i : Int)) 48 := (iI_inb _ 48 (by omega)).mpr (by omega)
      have ec : (iI (i : Int)).toNatClampNeg = i := by rw [iI_clamp _ (by omega)]; omega
      have hv := vR_rng u 34 i
      rw [if_neg (by omega)]
      simp only [if_pos qi, ec]
      rw [u2_iI, it_eq _ _ (by omega), iI_s, show r - i = (r - (i + 1)) + 1 by omega, sumI, Int.toNat_natCast]
      by_cases c1 : vR u 34 i = x
      · rw [if_pos c1, decide_eq_true c1, if_pos rfl, show (1 : Int32) = iI 1 from rfl, iI_add, ih (i + 1) (w + 1) (by omega) (by omega), Int.add_assoc]
        rfl
      · rw [if_neg c1, decide_eq_false c1, if_neg (by decide), show (0 : Int32) = iI 0 from rfl, iI_add, ih (i + 1) (w + 0) (by omega) (by omega), Int.add_assoc]
        rfl
theorem sumN_one (l : List Nat) : sumN (fun _ => 1) l = l.length := by
  induction l with
  | nil => rfl
  | cons a l ih =>
    rw [sumN, ih, List.length_cons]
    omega
end RER
