/-! READING: the class's reader beside the tape -/
theorem RepK.tape {B : Nat} {S : Nat → Nat} {L : Mem} {x0 : Nat} {ad rho : Nat → Nat} {xl : Nat → List Nat} {M : Mem} {u : MS} {sz : Nat} (h : RepK B S L x0 ad rho xl M u sz) (hI : Inv u xl) : TapeOK u (vN u 1).toNat := by
  have h1 := hI.n1
  exact ⟨by omega, by omega, h.2.1.2.1.1⟩
def Rd (B : Nat) (ad rho : Nat → Nat) (M M1 : Mem) (N : Nat) (g : Nat → Int) (t : List Int) (j : Nat) (w : Int) : Prop := ∃ p row s c m, (RDd B (ad 3) p row s c m ∧ s ≠ c ∧ s ≠ m ∧ c ≠ m) ∧ (rho (ad 3) = 3 ∧ rho p = 3 ∧ rho row = 3 ∧ rho s = 3 ∧ rho c = 3 ∧ rho m = 3) ∧ RDs M1 (ad 3) p row s c m N g t j w ∧ ∀ y, rho y ≠ 3 → M1 y = M y
section RDD
variable {B : Nat} {S : Nat → Nat} {L : Mem} {x0 : Nat} {ad rho : Nat → Nat} {xl : Nat → List Nat} {M M1 : Mem} {u : MS} {sz N j : Nat} {g : Nat → Int} {t : List Int} {w : Int}
theorem Rd.begin (hSL : LitOK S L) (hL : LOK B L) (h : RepK B S L x0 ad rho xl M u sz) (hI : Inv u xl) (n : Nat) (hn : 400 ≤ n) : ∃ M1, f_X7_begin B S n M (some (ad 3)) (some (ad 2)) = some M1 ∧ Rd B ad rho M M1 (vN u 1).toNat (vR u 0) [] 0 (-9999) := by
  obtain ⟨t1, t2, t3⟩ := h.tape hI
  obtain ⟨b, tp, o1, o2⟩ := h.2.1.2.1.tp
  obtain ⟨p, row, s, c, m, z1, z2, z3, z4, a1, a2, ⟨f3, a3⟩, ⟨f4, a4⟩, ⟨f5, a5⟩, ⟨f6, a6⟩, d1, d2, d3, d4, d5, d6⟩ := h.2.1.2.2.1
  have own : ∀ y, rho y = 3 → B ≤ y := fun y hy => (h.1.2 y (by rw [hy]; decide)).1
  have ob : ∀ y z, rho y = 3 → rho z = 2 → z ≠ y := fun y z h1 h2 e => by rw [e, h1] at h2; cases h2
  have nd : ∀ (x y : Nat) (c1 c2 : Cel), M x = some c1 → M y = some c2 → c1 ≠ c2 → x ≠ y := fun x y c1 c2 h1 h2 h3 e => by
    rw [e, h2] at h1
    exact h3 (Option.some.inj h1).symm
  have hD : RDd B (ad 3) p row s c m := ⟨⟨own _ a1.2, own _ a3.2⟩, ⟨d4, d5, d6⟩, ⟨nd _ _ _ _ a1.1 a2.1 (by simp), nd _ _ _ _ a1.1 a3.1 (by simp), nd _ _ _ _ a1.1 a4.1 (by simp), nd _ _ _ _ a1.1 a5.1 (by simp), nd _ _ _ _ a1.1 a6.1 (by simp)⟩, nd _ _ _ _ a3.1 a2.1 (by simp)⟩
  have hN : vN u 1 = ((vN u 1).toNat : Int) := t1
  rw [hN] at tp
  obtain ⟨M1, y1, y2, y3⟩ := z_begin hSL hL h.1.1 tp t2 (fun k => u2_iI u 0 k) t3 hD ⟨d1, d2, d3⟩ ⟨own _ a2.2, own _ a4.2, own _ a5.2, own _ a6.2⟩ ⟨⟨ob _ _ a1.2 o1, ob _ _ a2.2 o1, ob _ _ a4.2 o1, ob _ _ a5.2 o1, ob _ _ a6.2 o1⟩, ob _ _ a1.2 o2, ob _ _ a2.2 o2, ob _ _ a4.2 o2, ob _ _ a5.2 o2, ob _ _ a6.2 o2⟩ a1.1 a2.1 a4.1 a5.1 a6.1 a3.1 n hn
  refine ⟨M1, y1, p, row, s, c, m, ⟨hD, d1, d2, d3⟩, ⟨a1.2, a2.2, a3.2, a4.2, a5.2, a6.2⟩, y2, fun y hy => y3 y ?_ ?_ ?_ ?_ ?_⟩ <;> (intro e; apply hy; rw [e])
  · exact a1.2
  · exact a2.2
  · exact a4.2
  · exact a5.2
  · exact a6.2
theorem Rd.is (h : Rd B ad rho M M1 N g t j w) : isO M1 (some (ad 3)) 10 = true := by
  obtain ⟨p, row, s, c, m, -, -, r, -⟩ := h
  exact isO_at r.1
theorem Rd.number (h : Rd B ad rho M M1 N g t j w) (hN : N ≤ 120) (hby : ∀ k, k < N → 0 ≤ g k ∧ g k ≤ 255) : ((pcs g N j).2.1 = 3 ∧ ∃ M2, f_X7_takesNumber B M1 (some (ad 3)) = some (1, M2) ∧ Rd B ad rho M M2 N g (t ++ [(pcs g N j).2.2.1]) (j + 1) w) ∨ ((pcs g N j).2.1 ≠ 3 ∧ ∃ M2, f_X7_takesNumber B M1 (some (ad 3)) = some (0, M2) ∧ Rd B ad rho M M2 N g t j (pcs g N j).1) := by
  obtain ⟨p, row, s, c, m, hD, ho, r, fr⟩ := h
  obtain ⟨M2, f2, q⟩ := r.number hD.1 hN hby
  have fr2 : ∀ y, rho y ≠ 3 → M2 y = M y := fun y hy => by
    rw [f2 y (fun e => hy (by rw [e]; exact ho.1)) (fun e => hy (by rw [e]; exact ho.2.2.1)), fr y hy]
  rcases q with ⟨q1, q2, q3⟩ | ⟨q1, q2, q3⟩
  · exact Or.inl ⟨q1, M2, q2, p, row, s, c, m, hD, ho, q3, fr2⟩
  · exact Or.inr ⟨q1, M2, q2, p, row, s, c, m, hD, ho, q3, fr2⟩
theorem Rd.word (h : Rd B ad rho M M1 N g t j w) (hN : N ≤ 120) (hby : ∀ k, k < N → 0 ≤ g k ∧ g k ≤ 255) (a n b : Int) (ha : a = 102 ∧ n = 5 ∧ b = 0 ∨ a = 107 ∧ n = 4 ∧ b = 5) : ((pcs g N j).2.1 = 2 ∧ (b ≤ (pcs g N j).2.2.1 ∧ (pcs g N j).2.2.1 < b + n) ∧ ∃ M2, f_X7_takesWord B M1 (some (ad 3)) (iI a) (iI n) = some (1, M2) ∧ Rd B ad rho M M2 N g (t ++ [(pcs g N j).2.2.1 - b]) (j + 1) w) ∨ (¬ ((pcs g N j).2.1 = 2 ∧ b ≤ (pcs g N j).2.2.1 ∧ (pcs g N j).2.2.1 < b + n) ∧ ∃ M2, f_X7_takesWord B M1 (some (ad 3)) (iI a) (iI n) = some (0, M2) ∧ Rd B ad rho M M2 N g t j (pcs g N j).1) := by
  obtain ⟨p, row, s, c, m, hD, ho, r, fr⟩ := h
  obtain ⟨M2, f2, q⟩ := r.word hD.1 hN hby a n b ha
  have fr2 : ∀ y, rho y ≠ 3 → M2 y = M y := fun y hy => by
    rw [f2 y (fun e => hy (by rw [e]; exact ho.1)) (fun e => hy (by rw [e]; exact ho.2.2.1)), fr y hy]
  rcases q with ⟨q1, q2, q3, q4⟩ | ⟨q1, q2, q3⟩
  · exact Or.inl ⟨q1, q2, M2, q3, p, row, s, c, m, hD, ho, q4, fr2⟩
  · exact Or.inr ⟨q1, M2, q2, p, row, s, c, m, hD, ho, q3, fr2⟩
theorem Rd.mark (h : Rd B ad rho M M1 N g t j w) (hN : N ≤ 120) (hby : ∀ k, k < N → 0 ≤ g k ∧ g k ≤ 255) (a : Int) (ha : 2 ≤ a ∧ a ≤ 99) : ((pcs g N j).2.1 = 4 ∧ (pcs g N j).2.2.1 = a ∧ ∃ M2, f_X7_takesMark B M1 (some (ad 3)) (iI a) = some (1, M2) ∧ Rd B ad rho M M2 N g t (j + 1) w) ∨ (¬ ((pcs g N j).2.1 = 4 ∧ (pcs g N j).2.2.1 = a) ∧ ∃ M2, f_X7_takesMark B M1 (some (ad 3)) (iI a) = some (0, M2) ∧ Rd B ad rho M M2 N g t j (pcs g N j).1) := by
  obtain ⟨p, row, s, c, m, hD, ho, r, fr⟩ := h
  obtain ⟨M2, f2, q⟩ := r.mark hD.1 hN hby a ha
  have fr2 : ∀ y, rho y ≠ 3 → M2 y = M y := fun y hy => by
    rw [f2 y (fun e => hy (by rw [e]; exact ho.1)) (fun e => hy (by rw [e]; exact ho.2.2.1)), fr y hy]
  rcases q with ⟨q1, q2, q3, q4⟩ | ⟨q1, q2, q3⟩
  · exact Or.inl ⟨q1, q2, M2, q3, p, row, s, c, m, hD, ho, q4, fr2⟩
  · exact Or.inr ⟨q1, M2, q2, p, row, s, c, m, hD, ho, q3, fr2⟩
theorem Rd.atEnd (h : Rd B ad rho M M1 N g t j w) (hN : N ≤ 120) (hby : ∀ k, k < N → 0 ≤ g k ∧ g k ≤ 255) : ((pcs g N j).2.1 = 0 ∧ f_X7_isAtEnd B M1 (some (ad 3)) = some (1, M1)) ∨ ((pcs g N j).2.1 ≠ 0 ∧ ∃ M2, f_X7_isAtEnd B M1 (some (ad 3)) = some (0, M2) ∧ Rd B ad rho M M2 N g t j (pcs g N j).1) := by
  obtain ⟨p, row, s, c, m, hD, ho, r, fr⟩ := h
  obtain ⟨M2, f2, q⟩ := r.atEnd hD.1 hN hby
  have fr2 : ∀ y, rho y ≠ 3 → M2 y = M y := fun y hy => by
    rw [f2 y (fun e => hy (by rw [e]; exact ho.1)) (fun e => hy (by rw [e]; exact ho.2.2.1)), fr y hy]
  rcases q with ⟨q1, q2, q3⟩ | ⟨q1, q2, q3⟩
  · exact Or.inl ⟨q1, by rw [q2, q3]⟩
  · exact Or.inr ⟨q1, M2, q2, p, row, s, c, m, hD, ho, q3, fr2⟩
theorem Rd.told (h : Rd B ad rho M M1 N g t j w) (hj : t.length ≤ 120) (i : Nat) (hi : i < t.length) : f_X7_told M1 (some (ad 3)) (iI i) = some (iI (t[i]'hi)) := by
  obtain ⟨p, row, s, c, m, hD, ho, r, fr⟩ := h
  obtain ⟨r1, ⟨fr', r2, r3⟩, r4⟩ := r
  unfold f_X7_told
  rw [iI_zero, it_lt _ _ (by omega), if_neg (by omega), gI_at r1]
  simp only [List.getElem?_cons_zero, List.getElem?_cons_succ, Option.bind_some]
  rw [it_le _ _ (by omega), if_neg (by omega), gR_at r1]
  simp only [List.getElem?_cons_zero, List.getElem?_cons_succ, Option.bind_some]
  rw [aI_at r2 (by omega) (by omega), Int.toNat_natCast, r3 i _ (List.getElem?_eq_getElem hi)]
  rfl
end RDD
