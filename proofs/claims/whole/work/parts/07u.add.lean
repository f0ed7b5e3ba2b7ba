/-! a list gets one more -/
section LADD2
variable {B : Nat} {S : Nat → Nat} {M : Mem} {rho : Nat → Nat} {sz id a x : Nat} {l : List Nat}
theorem z_place {e c2 : Nat} {mc : Int32} {h2 : Nat → Option Nat} (hB : B ≤ a ∧ B ≤ e) (hae : a ≠ e) (h1 : M a = some (.inl (2, [.int mc, .ref e, .int (iI l.length)]))) (h2' : M e = some (.inr (.inr (3, c2, h2)))) (hl : l.length < c2 ∧ c2 ≤ 80) (hx : isE M (some x) = true) : (if isE M (some x) = true then ((sR B M (some e) (iI l.length) (some x)).bind fun M7 => (pF B M7 (some a) 2 2 (.int (iI l.length + (1 : Int32)))).bind fun M9 => some (M9, sz)) else none : Option (Mem × Nat)) = some (va_up (va_up M e (some (.inr (.inr (3, c2, va_up h2 l.length (some x)))))) a (some (.inl (2, [.int mc, .ref e, .int (iI (l ++ [x]).length)]))), sz) := by
  have hM : (va_up M e (some (.inr (.inr (3, c2, va_up h2 l.length (some x)))))) a = some (.inl (2, [.int mc, .ref e, .int (iI l.length)])) := by rw [va_up_ne _ _ hae]; exact h1
  rw [if_pos hx, sR_at hB.2 h2' (by omega) (by omega), Int.toNat_natCast, Option.bind_some, pF_at hB.1 hM, if_pos (by simp), show (1 : Int32) = iI 1 from rfl, iI_add, show ((l.length : Int) + 1) = (((l ++ [x]).length : Nat) : Int) by simp]
  rfl
theorem getA {h2 : Nat → Option Nat} (hh : ∀ k, k < l.length → h2 k = l[k]?) : ∀ k, k < (l ++ [x]).length → va_up h2 l.length (some x) k = (l ++ [x])[k]? := fun k hk => by
  by_cases e : k = l.length
  · rw [e, va_up_self, List.getElem?_append_right (Nat.le_refl _), Nat.sub_self]
    rfl
  · have hk2 : k < l.length := by
      rw [List.length_append] at hk
      simp at hk
      omega
    rw [va_up_ne _ _ e, hh k hk2, List.getElem?_append_left hk2]
theorem LisR.add (h : LisR S M rho id a l) (hS : EmpOK S M) (hS2 : S 20 < B) (hBs : B ≤ sz) (hw : ∀ y, rho y = id → B ≤ y ∧ y < sz) (hn : l.length < 49) (hE : ∀ y, y ∈ l → isE M (some y) = true ∧ y ≠ a ∧ y < sz) (hx : isE M (some x) = true ∧ x ≠ a ∧ x < sz) : ∃ (M1 : Mem) (sz1 : Nat), f_Jx4a65c_add_9ea2d B S M sz (some a) (some x) = some (1, M1, sz1) ∧ (sz1 = sz ∨ sz1 = sz + 1) ∧ (∀ y, rho y ≠ id → y < sz → M1 y = M y) ∧ ∀ rho1 : Nat → Nat, (∀ y, rho y = id → rho1 y = id) → (sz < sz1 → rho1 sz = id) → LisR S M1 rho1 id a (l ++ [x]) := by
  obtain ⟨mc, e, cap, g, h1, h2, h3, h4⟩ := h
  have ha := hw a h1.2
  have hM2 : (va_up M a (some (.inl (2, [.int (mc + 1), .ref e, .int (iI l.length)])))) a = some (.inl (2, [.int (mc + 1), .ref e, .int (iI l.length)])) := va_up_self ..
  have e0 : ∀ (c : Option Cel) (y : Nat), y ≠ a → isE (va_up M a c) (some y) = isE M (some y) := fun c y hy => isE_up _ _ _ _ hy
  have head : ∀ (R : Option (Mem × Nat)), f_Jx4a65c_add_72be8 B S (va_up M a (some (.inl (2, [.int (mc + 1), .ref e, .int (iI l.length)])))) sz (some a) (some x) (some e) (iI l.length) = R → f_Jx4a65c_add_9ea2d B S M sz (some a) (some x) = R.bind fun r6 => some ((1 : Int32), r6.1, r6.2) := fun R hR => by
    unfold f_Jx4a65c_add_9ea2d
    rw [gI_at h1.1]
    simp only [List.getElem?_cons_zero, List.getElem?_cons_succ, Option.bind_some]
    rw [pF_at ha.1 h1.1, if_pos (by simp), Option.bind_some]
    rw [show ([.int mc, .ref e, .int (iI l.length)] : List Value).set 0 (.int (mc + 1)) = [.int (mc + 1), .ref e, .int (iI l.length)] from rfl]
    rw [gR_at hM2]
    simp only [List.getElem?_cons_zero, List.getElem?_cons_succ, Option.bind_some]
    rw [gI_at hM2]
    simp only [List.getElem?_cons_zero, List.getElem?_cons_succ, Option.bind_some]
    rw [isO_at hM2, if_pos rfl, hR]
  have hea : e ≠ a := by
    intro q
    rcases h2 with h2 | ⟨h2, -⟩
    · rw [h2.1] at q
      omega
    · have q2 := h2.1
      rw [q, h1.1] at q2
      cases q2
  have hes : e < sz := by
    rcases h2 with h2 | ⟨h2, -⟩
    · omega
    · exact (hw e h2.2).2
  -- the row itself, also the empty one
  obtain ⟨g', hge, hgk⟩ : ∃ g' : Nat → Option Nat, (va_up M a (some (.inl (2, [.int (mc + 1), .ref e, .int (iI l.length)])))) e = some (.inr (.inr (3, cap, g'))) ∧ ∀ k, k < l.length → g' k = l[k]? := by
    rw [va_up_ne _ _ hea]
    rcases h2 with h2 | ⟨h2, -⟩
    · obtain ⟨q, hq⟩ := hS
      refine ⟨q, ?_, fun k hk => by omega⟩
      rw [h2.1, h2.2]
      exact hq
    · exact ⟨g, h2.1, h4⟩
  by_cases c : l.length = cap
  · have hgr := z_grow (S := S) (B := B) (sz := sz) (mc := mc + 1) (a := a) (e := e) (cap := cap) (h := g') (M := va_up M a (some (.inl (2, [.int (mc + 1), .ref e, .int (iI l.length)])))) ⟨hBs, ha.1, ?_⟩ (by rw [hM2, c]) ⟨ha.2, hes⟩ hge ?_ ?_
    · obtain ⟨M1, c2, h2', y1, y2, y3, y4, y5, y6, y7⟩ := hgr
      have hxE : isE M1 (some x) = true := by
        rw [isE_fr (y7 x hx.2.1 (by omega)), e0 _ _ hx.2.1]
        exact hx.1
      have z := z_place (l := l) (x := x) (sz := sz + 1) ⟨ha.1, hBs⟩ (by omega) (by rw [y2, c]) y3 (by omega) hxE
      refine ⟨va_up (va_up M1 sz (some (.inr (.inr (3, c2, va_up h2' l.length (some x)))))) a (some (.inl (2, [.int (mc + 1), .ref sz, .int (iI (l ++ [x]).length)]))), sz + 1, ?_, Or.inr rfl, fun y hy hys => ?_, fun rho1 r1 r2 => ⟨mc + 1, sz, c2, va_up h2' l.length (some x), ⟨va_up_self .., r1 a h1.2⟩, Or.inr ⟨⟨by rw [va_up_ne _ _ (by omega), va_up_self], r2 (by omega)⟩, y4⟩, by simp; omega, getA (fun k hk => by rw [y6 k (by omega)]; exact hgk k hk)⟩⟩
      · rw [head _ rfl]
        unfold f_Jx4a65c_add_72be8
        rw [aL_r hge, Option.bind_some, it_eq _ _ (by omega), if_pos (by omega), isO_at hM2, if_pos rfl, y1]
        simp only [Option.bind_some]
        rw [z]
        rfl
      · have hya : y ≠ a := fun q => hy (by rw [q]; exact h1.2)
        rw [va_up_ne _ _ hya, va_up_ne _ _ (by omega), y7 y hya (by omega), va_up_ne _ _ hya]
    · rcases h2 with h2 | ⟨h2, -⟩
      · exact Or.inl h2.2
      · exact Or.inr (hw e h2.2).1
    · rcases h2 with h2 | ⟨-, h2⟩
      · exact Or.inl ⟨h2.2, h2.1⟩
      · omega
    · intro k hk
      have hk2 : k < l.length := by omega
      obtain ⟨q1, q2, q3⟩ := hE l[k] (List.getElem_mem hk2)
      exact ⟨l[k], by rw [hgk k hk2, List.getElem?_eq_getElem hk2], by rw [e0 _ _ q2]; exact q1, q3⟩
  · have h2' : At M rho id e (.inr (.inr (3, cap, g))) ∧ (cap = 10 ∨ cap = 15 ∨ cap = 22 ∨ cap = 33 ∨ cap = 49) := by
      rcases h2 with h2 | h2
      · omega
      · exact h2
    have hBe := (hw e h2'.1.2).1
    have z := z_place (l := l) (x := x) (sz := sz) ⟨ha.1, hBe⟩ hea.symm hM2 hge (by omega) (by rw [e0 _ _ hx.2.1]; exact hx.1)
    refine ⟨va_up (va_up (va_up M a (some (.inl (2, [.int (mc + 1), .ref e, .int (iI l.length)])))) e (some (.inr (.inr (3, cap, va_up g' l.length (some x)))))) a (some (.inl (2, [.int (mc + 1), .ref e, .int (iI (l ++ [x]).length)]))), sz, ?_, Or.inl rfl, fun y hy hys => ?_, fun rho1 r1 r2 => ⟨mc + 1, e, cap, va_up g' l.length (some x), ⟨va_up_self .., r1 a h1.2⟩, Or.inr ⟨⟨by rw [va_up_ne _ _ hea, va_up_self], r1 e h2'.1.2⟩, h2'.2⟩, by simp; omega, getA hgk⟩⟩
    · rw [head _ rfl]
      unfold f_Jx4a65c_add_72be8
      rw [aL_r hge, Option.bind_some, it_eq _ _ (by omega), if_neg (by omega)]
      simp only [Option.bind_some]
      rw [z]
      rfl
    · have hya : y ≠ a := fun q => hy (by rw [q]; exact h1.2)
      have hye : y ≠ e := fun q => hy (by rw [q]; exact h2'.1.2)
      rw [va_up_ne _ _ hya, va_up_ne _ _ hye, va_up_ne _ _ hya]
end LADD2
