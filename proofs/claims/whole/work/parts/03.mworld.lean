/-! THE REFERENCE'S WORLD: numbers and rows by the places of its fields; its one object at m0, its rows behind it in their order -/
abbrev MS : Type := (Nat → Int32) × (Nat → Nat → Int32)
def uI (u : MS) (k : Nat) (v : Int32) : MS := (upd u.1 k v, u.2)
def uA (u : MS) (k i : Nat) (v : Int32) : MS := (u.1, va_up u.2 k (upd (u.2 k) i v))
/-- the rows: field's place, tag, length -/
def mArr : List (Nat × Nat × Nat) := [(0, 0, 120), (6, 0, 16), (7, 0, 16), (8, 0, 16), (9, 0, 16), (11, 0, 48), (12, 0, 48), (13, 0, 48), (15, 0, 6), (16, 0, 6), (17, 0, 6), (18, 0, 6), (20, 0, 8), (21, 0, 320), (22, 0, 320), (24, 2, 17), (25, 0, 17), (26, 0, 17), (27, 0, 17), (28, 0, 17), (29, 0, 17), (30, 0, 272), (31, 0, 272), (32, 0, 272), (34, 0, 48), (35, 0, 48), (36, 0, 48), (37, 0, 768), (38, 0, 768), (39, 0, 768), (40, 2, 16), (41, 0, 800), (48, 0, 120), (49, 0, 120), (50, 0, 120)]
def mFields (m0 : Nat) (u : MS) : List Value := [.ref (m0 + 1), .int (u.1 1), .int (u.1 2), .int (u.1 3), .int (u.1 4), .int (u.1 5), .ref (m0 + 2), .ref (m0 + 3), .ref (m0 + 4), .ref (m0 + 5), .int (u.1 10), .ref (m0 + 6), .ref (m0 + 7), .ref (m0 + 8), .int (u.1 14), .ref (m0 + 9), .ref (m0 + 10), .ref (m0 + 11), .ref (m0 + 12), .int (u.1 19), .ref (m0 + 13), .ref (m0 + 14), .ref (m0 + 15), .int (u.1 23), .ref (m0 + 16), .ref (m0 + 17), .ref (m0 + 18), .ref (m0 + 19), .ref (m0 + 20), .ref (m0 + 21), .ref (m0 + 22), .ref (m0 + 23), .ref (m0 + 24), .int (u.1 33), .ref (m0 + 25), .ref (m0 + 26), .ref (m0 + 27), .ref (m0 + 28), .ref (m0 + 29), .ref (m0 + 30), .ref (m0 + 31), .ref (m0 + 32), .int (u.1 42), .int (u.1 43), .int (u.1 44), .int (u.1 45), .int (u.1 46), .int (u.1 47), .ref (m0 + 33), .ref (m0 + 34), .ref (m0 + 35)]
def Mm (m0 : Nat) (u : MS) (L : Mem) : Mem := fun a => if a < m0 then L a else if a = m0 then some (.inl (15, mFields m0 u)) else (mArr[a - m0 - 1]?).map (fun q => .inr (.inl (q.2.1, q.2.2, u.2 q.1)))
def MoOK (G : wG) (m0 : Nat) (L : Mem) : Prop := (∀ a, m0 ≤ a → L a = none) ∧ G.2.2.1 ≤ m0
theorem Mm_obj (m0 : Nat) (u : MS) (L : Mem) : Mm m0 u L m0 = some (.inl (15, mFields m0 u)) := by
  unfold Mm
  rw [if_neg (Nat.lt_irrefl m0), if_pos rfl]
theorem Mm_arr (m0 : Nat) (u : MS) (L : Mem) (j : Nat) : Mm m0 u L (m0 + (1 + j)) = (mArr[j]?).map (fun q => .inr (.inl (q.2.1, q.2.2, u.2 q.1))) := by
  unfold Mm
  rw [if_neg (by omega), if_neg (by omega), show m0 + (1 + j) - m0 - 1 = j by omega]
theorem Mm_lit {G : wG} {m0 : Nat} {L : Mem} (h : MoOK G m0 L) (u : MS) {a : Nat} {e : Cel} (ha : L a = some e) : Mm m0 u L a = some e := by
  unfold Mm
  by_cases hl : a < m0
  · rw [if_pos hl]
    exact ha
  · rw [h.1 a (by omega)] at ha
    cases ha
theorem isO_Mm (m0 : Nat) (u : MS) (L : Mem) : isO (Mm m0 u L) (some m0) 15 = true := by simp [isO, Mm_obj]
theorem isO_mono {G : wG} {m0 : Nat} {L : Mem} (h : MoOK G m0 L) {u : MS} {x : Option Nat} {ci : Nat} (ho : isO L x ci = true) : isO (Mm m0 u L) x ci = true := by
  obtain ⟨a, fs, rfl, ha⟩ := isO.spec ho
  simp [isO, Mm_lit h u ha]
theorem Mm_aI {m0 : Nat} {u : MS} {L : Mem} {j k t n : Nat} {i : Int32} (hj : mArr[j]? = some (k, t, n)) (hi : inb i n) : aI (Mm m0 u L) t (some (m0 + (1 + j))) i = some (u.2 k i.toNatClampNeg) := by
  simp only [aI, Option.bind_some, Mm_arr, hj, Option.map_some]
  exact if_pos ⟨trivial, hi⟩
theorem mArr_inj : ∀ j, j < mArr.length → ∀ j2, j2 < mArr.length → (mArr[j]?).map (·.1) = (mArr[j2]?).map (·.1) → j = j2 := by decide +kernel
theorem Mm_up {m0 : Nat} {u : MS} {L : Mem} {j k t n : Nat} {i : Nat} {v : Int32} (hj : mArr[j]? = some (k, t, n)) : va_up (Mm m0 u L) (m0 + (1 + j)) (some (.inr (.inl (t, n, upd (u.2 k) i v)))) = Mm m0 (uA u k i v) L := by
  funext a
  unfold va_up
  by_cases ha : a = m0 + (1 + j)
  · subst ha
    rw [if_pos rfl, Mm_arr, hj]
    simp [uA, va_up]
  · rw [if_neg ha]
    unfold Mm
    by_cases h1 : a < m0
    · rw [if_pos h1, if_pos h1]
    · rw [if_neg h1, if_neg h1]
      by_cases h2 : a = m0
      · rw [if_pos h2, if_pos h2]
        rfl
      · rw [if_neg h2, if_neg h2]
        cases hq : mArr[a - m0 - 1]? with
        | none => rfl
        | some q =>
          have hk : q.1 ≠ k := by
            intro e
            have l1 := (List.getElem?_eq_some_iff.mp hq).1
            have l2 := (List.getElem?_eq_some_iff.mp hj).1
            have := mArr_inj _ l1 _ l2 (by rw [hq, hj]; simp [e])
            omega
          simp [uA, va_up, hk]
theorem Mm_sI {G : wG} {m0 : Nat} {u : MS} {L : Mem} (h : MoOK G m0 L) {j k t n : Nat} {i v : Int32} (hj : mArr[j]? = some (k, t, n)) (hi : inb i n) : sI G.2.2.1 (Mm m0 u L) t (some (m0 + (1 + j))) i v = some (Mm m0 (uA u k i.toNatClampNeg v) L) := by
  have hB := h.2
  simp only [sI, Option.bind_some, Mm_arr, hj, Option.map_some]
  rw [if_pos ⟨trivial, hi, by omega⟩, Mm_up hj]
theorem mF_set (m0 : Nat) (u : MS) (k : Nat) (v : Int32) (hk : k < 51) (hr : mArr.all (fun q => !(q.1 == k)) = true) : (mFields m0 u).set k (.int v) = mFields m0 (uI u k v) := by
  simp only [mArr, List.all_cons, List.all_nil, Bool.and_eq_true, Bool.not_eq_true', beq_eq_false_iff_ne] at hr
  have : k ∈ [1, 2, 3, 4, 5, 10, 14, 19, 23, 33, 42, 43, 44, 45, 46, 47] := by simp only [List.mem_cons, List.not_mem_nil]; omega
  simp only [List.mem_cons, List.not_mem_nil, or_false] at this
  rcases this with rfl | rfl | rfl | rfl | rfl | rfl | rfl | rfl | rfl | rfl | rfl | rfl | rfl | rfl | rfl | rfl <;> rfl
section MMO
variable {p : Program} {l : Launch} {e : Env} {R : Room} {s : State} {m : MethodId} {args : Array Value} {below : List Frame} {meth : Method} {c : Code} {H : Heap} {locs : List Loc} {cells slots : Nat} {Q : State → Prop}
variable {cc : ByteArray} {pc : Nat} {ls : Array Slot} {rest : List Value} {G : wG} {nL : Nat} {own : String} {Ts : List Cond} {M0 : Mem} {sz : Nat} {m0 : Nat} {L : Mem} {u : MS}
theorem Mm_upI {k : Nat} {v : Int32} (hk : k < 51) (hr : mArr.all (fun q => !(q.1 == k)) = true) : va_up (Mm m0 u L) m0 (some (.inl (15, (mFields m0 u).set k (.int v)))) = Mm m0 (uI u k v) L := by
  rw [mF_set m0 u k v hk hr]
  funext a
  unfold va_up
  by_cases ha : a = m0
  · rw [if_pos ha, ha, Mm_obj]
  · rw [if_neg ha]
    unfold Mm
    rw [if_neg ha, if_neg ha]
    rfl
/-- a store into a number of the reference -/
theorem mo_put (hMo : MoOK G m0 L) (hC : Cx G p s m args meth c cc nL own Ts) (hw : wD G s M0 (Mm m0 u L) sz H locs) {k index : Nat} {ref : String} {v : Int32} (hkr : k < 51 ∧ mArr.all (fun q => !(q.1 == k)) = true)
    (hin : ∀ w ∈ u_ws RX12 TX12 51, w ∈ Ts) (hlink : Cond.fieldLink own index ref (TX12 k).2.1 (TX12 k).2.2.1 ∈ Ts) (hsame : ∀ x, s.fieldFound? (TX12 k).1 (TX12 k).2.1 (TX12 k).2.2.1 = some x → s.fieldFound? ref (TX12 k).2.1 (TX12 k).2.2.1 = some x)
    (hfin : (TX12 k).2.2.2 = false) (hn : narrow (tyX12 k) (.int v) = .int v) (hfit : fits (tyX12 k) (.int v) = true) (hdg : decode cc pc = .ok (.putfield index, 3))
    (kk : ∀ (H1 : Heap) (locs1 : List Loc), wD G s M0 (Mm m0 (uI u k v) L) sz H1 locs1 → W p l e R s m args below meth c H1 locs1 cells slots Q (F0 m (pc + 3) ls rest)) : W p l e R s m args below meth c H locs cells slots Q (F0 m pc ls (.int v :: .ref m0 :: rest)) := by
  refine m_put (x := some m0) hC hw (M1 := Mm m0 (uI u k v) L) (ci := 15) (k := k) (N := 51) ?_ hin tyX12 tyX12_ok nmX12 rfl hkr.1 hlink hsame hfin hn hfit hdg kk
  have hB := hMo.2
  simp only [pF, Option.bind_some, Mm_obj]
  rw [if_pos ⟨trivial, hkr.1, hB⟩, Mm_upI hkr.1 hkr.2]
end MMO
