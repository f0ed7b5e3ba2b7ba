/-! HOUSE: made -/
theorem up_up {α : Type} (f : Nat → α) (k : Nat) (v v2 : α) : va_up (va_up f k v) k v2 = va_up f k v2 := by
  funext y
  by_cases e : y = k
  · rw [e, va_up_self, va_up_self]
  · rw [va_up_ne _ _ e, va_up_ne _ _ e, va_up_ne _ _ e]
theorem isE_at {M : Mem} {a c : Nat} {fs : List Value} (h : M a = some (.inl (c, fs))) (hc : c = 5 ∨ c = 6 ∨ c = 7 ∨ c = 8 ∨ c = 11 ∨ c = 13) : isE M (some a) = true := by
  unfold isE
  simp only [h]
  rcases hc with rfl | rfl | rfl | rfl | rfl | rfl <;> decide +kernel
theorem uI_same {u : MS} {k : Nat} {v : Int32} (h : u.1 k = v) : uI u k v = u := by
  apply Prod.ext
  · funext y
    show upd u.1 k v y = u.1 y
    unfold upd
    split
    · rename_i e
      rw [e, h]
    · rfl
  · rfl
theorem bk {M : Mem} {x0 : Nat} {A : Nat → Nat} {st rp ap lf ls : Int32} (h : M x0 = some (.inl (14, booF A st rp ap lf ls))) : gR M (some x0) 14 0 = some (some (A 2)) ∧ gR M (some x0) 14 1 = some (some (A 3)) ∧ gR M (some x0) 14 2 = some (some (A 4)) ∧ gR M (some x0) 14 3 = some (some (A 5)) ∧ gR M (some x0) 14 4 = some (some (A 6)) ∧ gR M (some x0) 14 5 = some (some (A 7)) := ⟨gR_at h, gR_at h, gR_at h, gR_at h, gR_at h, gR_at h⟩
/-- a text whose two cells stand -/
theorem txt_up {M M1 : Mem} {w id : Nat} {t : List Int} {rho1 : Nat → Nat} (h : ∀ (rho : Nat → Nat) (id : Nat), rho w = id → rho (w + 1) = id → TxtR M rho id w t) (h1 : M1 w = M w) (h2 : M1 (w + 1) = M (w + 1)) (r1 : rho1 w = id) (r2 : rho1 (w + 1) = id) : TxtR M1 rho1 id w t := by
  refine (h (fun y => if y = w ∨ y = w + 1 then id else id + 1) id (by simp) (by simp)).fr (fun y hy => ?_)
  by_cases c : y = w ∨ y = w + 1
  · rcases c with rfl | rfl
    · exact ⟨h1, r1⟩
    · exact ⟨h2, r2⟩
  · simp only [if_neg c] at hy
    omega
def hoM (M : Mem) (sz : Nat) (x y z v : Int32) (r : Value) : Mem := va_up M sz (some (.inl (6, [.int x, .int y, .int z, .int v, r])))
theorem hoM_self {M : Mem} {sz : Nat} {x y z v : Int32} {r : Value} : hoM M sz x y z v r sz = some (.inl (6, [.int x, .int y, .int z, .int v, r])) := va_up_self ..
theorem hoM_up {M : Mem} {sz : Nat} (x y z v x1 y1 z1 v1 : Int32) (r r1 : Value) : va_up (hoM M sz x y z v r) sz (some (.inl (6, [.int x1, .int y1, .int z1, .int v1, r1]))) = hoM M sz x1 y1 z1 v1 r1 := up_up ..
section HOU
variable {B : Nat} {S : Nat → Nat} {L : Mem} {x0 : Nat} {ad rho : Nat → Nat} {xl : Nat → List Nat} {M M1 : Mem} {u u1 : MS} {sz N j : Nat} {g : Nat → Int} {t : List Int} {w : Int}
theorem Rd.tlen (h : Rd B ad rho M M1 N g t j w) : t.length ≤ 120 := by
  obtain ⟨p, row, s, c, m, -, -, ⟨-, -, r3, q, fs, fc, fm, r4, r5, -⟩, -⟩ := h
  omega
theorem Rd.lit (h : Rd B ad rho M M1 N g t j w) (i : Nat) (x : Int) (hx : t[i]? = some x) : f_X7_told M1 (some (ad 3)) (iI i) = some (iI x) := by
  obtain ⟨hi, e⟩ := List.getElem?_eq_some_iff.mp hx
  rw [h.told h.tlen i hi, e]
theorem Rd.size (h : Rd B ad rho M M1 N g t j w) : f_X7_size M1 (some (ad 3)) = some (iI t.length) := by
  obtain ⟨p, row, s, c, m, -, -, ⟨r1, -⟩, -⟩ := h
  unfold f_X7_size
  rw [gI_at r1]
  rfl
theorem Rd.houFault {a b c d : Int} (h : Rd B ad rho M M1 N g [a, b, c, d] j w) (ha : 0 ≤ a ∧ a ≤ 9999) (hb : 0 ≤ b ∧ b ≤ 9999) (hd : 0 ≤ d ∧ d ≤ 9999) : f_X3_faultIn M1 (some (ad 3)) = some (iI (if (1 ≤ a ∧ a ≤ 30) ∧ 1 ≤ b ∧ 1 ≤ d ∧ d ≤ 99 then 0 else 3)) := by
  have t0 : f_X7_told M1 (some (ad 3)) (0 : Int32) = some (iI a) := h.lit 0 a rfl
  have t1 : f_X7_told M1 (some (ad 3)) (1 : Int32) = some (iI b) := h.lit 1 b rfl
  have t3 : f_X7_told M1 (some (ad 3)) (3 : Int32) = some (iI d) := h.lit 3 d rfl
  unfold f_X3_faultIn
  simp only [if_pos h.is, t0, t1, t3, Option.bind_some]
  rw [show (1 : Int32) = iI 1 from rfl, show (30 : Int32) = iI 30 from rfl, show (99 : Int32) = iI 99 from rfl, it_lt _ _ (by omega), it_lt _ _ (by omega), it_lt _ _ (by omega), it_lt _ _ (by omega), it_lt _ _ (by omega)]
  (repeat' split) <;> first | rfl | (exfalso; omega)
theorem z_houInit (hL : LOK B L) (hD : DigOK S L) (hcon : ∀ y e, L y = some e → M y = some e) (hBs : B ≤ sz) (hown : ∀ y, rho y = 3 → y < sz) {a b c d : Int} (hR : Rd B ad rho M M N g [a, b, c, d] j w) (ha : 0 ≤ a ∧ a < 10000) (hb : 0 ≤ b ∧ b < 10000) (hc : 0 ≤ c ∧ c < 10000) (hd : 0 ≤ d ∧ d < 10000) (n : Nat) (hn : 60 ≤ n) : ∃ (M1 : Mem) (sz1 wt : Nat), f_X3_init B S n (hoM M sz 0 0 0 0 .null) (sz + 1) (some sz) (some (ad 3)) = some (M1, sz1) ∧ (sz < wt ∧ wt + 1 < sz1) ∧ (∀ y, y < sz → M1 y = M y) ∧ M1 sz = some (.inl (6, [.int (iI a), .int (iI b), .int (iI c), .int (iI d), .ref wt])) ∧ ∀ (rho1 : Nat → Nat) (id : Nat), rho1 wt = id → rho1 (wt + 1) = id → TxtR M1 rho1 id wt (numL a ++ ([32] ++ (numL b ++ ([32] ++ (numL c ++ ([32] ++ numL d)))))) := by
  have tl : ∀ (x y z v : Int32) (r : Value), Rd B ad rho (hoM M sz x y z v r) (hoM M sz x y z v r) N g [a, b, c, d] j w := fun x y z v r => hR.fr (fun q hq => va_up_ne _ _ (by have := hown q hq; omega))
  have p0 : pF B (hoM M sz 0 0 0 0 .null) (some sz) 6 0 (.int (iI a)) = some (hoM M sz (iI a) 0 0 0 .null) := by
    rw [pF_at hBs hoM_self, if_pos (by simp)]
    exact congrArg some (hoM_up ..)
  have p1 : pF B (hoM M sz (iI a) 0 0 0 .null) (some sz) 6 1 (.int (iI b)) = some (hoM M sz (iI a) (iI b) 0 0 .null) := by
    rw [pF_at hBs hoM_self, if_pos (by simp)]
    exact congrArg some (hoM_up ..)
  have p2 : pF B (hoM M sz (iI a) (iI b) 0 0 .null) (some sz) 6 2 (.int (iI c)) = some (hoM M sz (iI a) (iI b) (iI c) 0 .null) := by
    rw [pF_at hBs hoM_self, if_pos (by simp)]
    exact congrArg some (hoM_up ..)
  have p3 : pF B (hoM M sz (iI a) (iI b) (iI c) 0 .null) (some sz) 6 3 (.int (iI d)) = some (hoM M sz (iI a) (iI b) (iI c) (iI d) .null) := by
    rw [pF_at hBs hoM_self, if_pos (by simp)]
    exact congrArg some (hoM_up ..)
  have q0 : f_X7_told (hoM M sz 0 0 0 0 .null) (some (ad 3)) (0 : Int32) = some (iI a) := (tl ..).lit 0 a rfl
  have q1 : f_X7_told (hoM M sz (iI a) 0 0 0 .null) (some (ad 3)) (1 : Int32) = some (iI b) := (tl ..).lit 1 b rfl
  have q2 : f_X7_told (hoM M sz (iI a) (iI b) 0 0 .null) (some (ad 3)) (2 : Int32) = some (iI c) := (tl ..).lit 2 c rfl
  have q3 : f_X7_told (hoM M sz (iI a) (iI b) (iI c) 0 .null) (some (ad 3)) (3 : Int32) = some (iI d) := (tl ..).lit 3 d rfl
  have hB1 : B ≤ sz + 1 := by omega
  have hc13 : ∀ y e, L y = some e → hoM M sz (iI a) (iI b) (iI c) (iI d) .null y = some e := con_up hL hBs hcon (fun y hy => va_up_ne _ _ (by omega))
  obtain ⟨N0, e0, s0, f0⟩ := z_sbNew hB1 (hoM M sz (iI a) (iI b) (iI c) (iI d) .null)
  have c0 := con_up hL hB1 hc13 f0
  have n1 := numL_len a
  have n2 := numL_len b
  have n3 := numL_len c
  have n4 := numL_len d
  obtain ⟨N1, z1, e1, l1, s1, f1⟩ := s0.num hL hD c0 hB1 n hn a ha (by simp)
  have c1 := con_up hL hB1 c0 f1
  obtain ⟨N2, z2, e2, l2, s2, f2⟩ := s1.char hB1 32 (by omega) (by simp only [List.length_append, List.length_nil, List.length_cons]; omega)
  have c2 := con_up hL hB1 c1 f2
  obtain ⟨N3, z3, e3, l3, s3, f3⟩ := s2.num hL hD c2 hB1 n hn b hb (by simp only [List.length_append, List.length_nil, List.length_cons]; omega)
  have c3 := con_up hL hB1 c2 f3
  obtain ⟨N4, z4, e4, l4, s4, f4⟩ := s3.char hB1 32 (by omega) (by simp only [List.length_append, List.length_nil, List.length_cons]; omega)
  have c4 := con_up hL hB1 c3 f4
  obtain ⟨N5, z5, e5, l5, s5, f5⟩ := s4.num hL hD c4 hB1 n hn c hc (by simp only [List.length_append, List.length_nil, List.length_cons]; omega)
  have c5 := con_up hL hB1 c4 f5
  obtain ⟨N6, z6, e6, l6, s6, f6⟩ := s5.char hB1 32 (by omega) (by simp only [List.length_append, List.length_nil, List.length_cons]; omega)
  have c6 := con_up hL hB1 c5 f6
  obtain ⟨N7, z7, e7, l7, s7, f7⟩ := s6.num hL hD c6 hB1 n hn d hd (by simp only [List.length_append, List.length_nil, List.length_cons]; omega)
  obtain ⟨N8, e8, f8, t8⟩ := s7.toStr hB1
  have g0 : ∀ y, y < sz + 1 → N0 y = hoM M sz (iI a) (iI b) (iI c) (iI d) .null y := f0
  have g1 : ∀ y, y < sz + 1 → N1 y = hoM M sz (iI a) (iI b) (iI c) (iI d) .null y := fun y hy => (f1 y hy).trans (g0 y hy)
  have g2 : ∀ y, y < sz + 1 → N2 y = hoM M sz (iI a) (iI b) (iI c) (iI d) .null y := fun y hy => (f2 y hy).trans (g1 y hy)
  have g3 : ∀ y, y < sz + 1 → N3 y = hoM M sz (iI a) (iI b) (iI c) (iI d) .null y := fun y hy => (f3 y hy).trans (g2 y hy)
  have g4 : ∀ y, y < sz + 1 → N4 y = hoM M sz (iI a) (iI b) (iI c) (iI d) .null y := fun y hy => (f4 y hy).trans (g3 y hy)
  have g5 : ∀ y, y < sz + 1 → N5 y = hoM M sz (iI a) (iI b) (iI c) (iI d) .null y := fun y hy => (f5 y hy).trans (g4 y hy)
  have g6 : ∀ y, y < sz + 1 → N6 y = hoM M sz (iI a) (iI b) (iI c) (iI d) .null y := fun y hy => (f6 y hy).trans (g5 y hy)
  have g7 : ∀ y, y < sz + 1 → N7 y = hoM M sz (iI a) (iI b) (iI c) (iI d) .null y := fun y hy => (f7 y hy).trans (g6 y hy)
  have g8 : ∀ y, y < sz + 1 → N8 y = hoM M sz (iI a) (iI b) (iI c) (iI d) .null y := fun y hy => (f8 y (by omega)).trans (g7 y hy)
  have v0 : gI N0 (some sz) 6 0 = some (iI a) := gI_at ((g0 sz (by omega)).trans hoM_self)
  have v1 : gI N2 (some sz) 6 1 = some (iI b) := gI_at ((g2 sz (by omega)).trans hoM_self)
  have v2 : gI N4 (some sz) 6 2 = some (iI c) := gI_at ((g4 sz (by omega)).trans hoM_self)
  have v3 : gI N6 (some sz) 6 3 = some (iI d) := gI_at ((g6 sz (by omega)).trans hoM_self)
  have h8 : N8 sz = some (.inl (6, [.int (iI a), .int (iI b), .int (iI c), .int (iI d), .null])) := (g8 sz (by omega)).trans hoM_self
  have p8 : pF B N8 (some sz) 6 4 (va_rf (some z7)) = some (va_up N8 sz (some (.inl (6, [.int (iI a), .int (iI b), .int (iI c), .int (iI d), .ref z7])))) := by
    rw [pF_at hBs h8, if_pos (by simp)]
    rfl
  have e2' : f_J4_append_cf468 B N1 z1 (some (sz + 1)) (32 : Int32) = _ := e2
  have e4' : f_J4_append_cf468 B N3 z3 (some (sz + 1)) (32 : Int32) = _ := e4
  have e6' : f_J4_append_cf468 B N5 z5 (some (sz + 1)) (32 : Int32) = _ := e6
  refine ⟨va_up N8 sz (some (.inl (6, [.int (iI a), .int (iI b), .int (iI c), .int (iI d), .ref z7]))), z7 + 2, z7, ?_, by omega, fun y hy => ?_, va_up_self .., fun rho1 id r1 r2 => ?_⟩
  · unfold f_X3_init
    rw [if_pos (by simp), if_pos (tl ..).is, q0, Option.bind_some, p0, Option.bind_some, if_pos (tl ..).is, q1, Option.bind_some, p1, Option.bind_some, if_pos (tl ..).is, q2, Option.bind_some, p2, Option.bind_some, if_pos (tl ..).is, q3, Option.bind_some, p3, Option.bind_some, Option.bind_some, e0]
    simp only [Option.bind_some]
    rw [v0]
    simp only [Option.bind_some]
    rw [if_pos s0.is, e1]
    simp only [Option.bind_some]
    rw [if_pos s1.is, e2']
    simp only [Option.bind_some]
    rw [v1]
    simp only [Option.bind_some]
    rw [if_pos s2.is, e3]
    simp only [Option.bind_some]
    rw [if_pos s3.is, e4']
    simp only [Option.bind_some]
    rw [v2]
    simp only [Option.bind_some]
    rw [if_pos s4.is, e5]
    simp only [Option.bind_some]
    rw [if_pos s5.is, e6']
    simp only [Option.bind_some]
    rw [v3]
    simp only [Option.bind_some]
    rw [if_pos s6.is, e7]
    simp only [Option.bind_some]
    rw [if_pos s7.is, e8]
    simp only [Option.bind_some]
    rw [p8]
    rfl
  · rw [va_up_ne _ _ (by omega), g8 y (by omega)]
    exact va_up_ne _ _ (by omega)
  · have ht := txt_up (M1 := va_up N8 sz (some (.inl (6, [.int (iI a), .int (iI b), .int (iI c), .int (iI d), .ref z7])))) t8 (va_up_ne _ _ (by omega)) (va_up_ne _ _ (by omega)) r1 r2
    simpa only [List.nil_append, List.append_assoc] using ht
end HOU
