/-! THE START: what the Statement gives of the constants -/
def cnw : List Cond := flatC (Jvm.Cond.and given_1 narrow_1)
theorem cn_len {t : Term} {A : Array Value} {s : State} {v : Value} (h : (Term.length t).eval A s none [] s = some v) : ∃ a cell, t.eval A s none [] s = some (.ref a) ∧ s.arrayAt? a = some cell ∧ v = .int cell.slots.size.toInt32 ∧ cell.slots.size < 2147483648 := by
  simp only [Term.eval, Option.bind_eq_bind] at h
  cases ht : t.eval A s none [] s with
  | none => simp [ht] at h
  | some x =>
    cases x <;> simp [ht] at h
    case ref a =>
      obtain ⟨cell, hcell, h⟩ := Option.bind_eq_some_iff.mp h
      by_cases hn : cell.slots.size < 2147483648
      · rw [if_pos hn] at h; cases h; exact ⟨a, cell, rfl, hcell, rfl, hn⟩
      · rw [if_neg hn] at h; cases h
/-- a row of bytes that nobody writes -/
theorem cn_row {A : Array Value} {s : State} {tm : Term} {cA : ClassId} {n : Nat} {f : Nat → Int32} {an : String} (hn : n < 2147483648) (hcA : s.vm.findClass an = some cA) (hex : (Cond.exactly tm an).before A s = true) (hlen : (Cond.eq (.length tm) (.int (Int32.ofNat n))).before A s = true) (hel : ∀ j : Nat, j < n → (Cond.eq (.elem tm (.int (Int32.ofNat j))) (.int (f j))).before A s = true) : ∃ a : Nat, tm.eval A s none [] s = some (.ref a) ∧ wArr cA n (fun j => .int (f j)) a s.heap := by
  obtain ⟨a, cell, h1, h2, h3, h4⟩ := cn_len (va_eqt hlen)
  obtain ⟨hcell, hkn, hst, -⟩ := State.arrayAt?_spec h2
  obtain ⟨a2, c, cell2, k, g1, g2, g3, g4, g5, g6, -⟩ := Cond.exactly_spec hex
  cases h1.symm.trans g1
  cases hcell.symm.trans g3
  have hsz : cell.slots.size = n := ((nI_eq hn h4).mp (Value.int.inj h3)).symm
  refine ⟨a, h1, cell, hcell, g6.trans (Option.some.inj (g2.symm.trans hcA)), hst, hkn, hsz, fun j hj => ?_⟩
  obtain ⟨a3, i, cell3, k1, k2, k3, k4, k5⟩ := Term.elem_spec (va_eqt (hel j hj))
  cases h1.symm.trans k1
  cases h2.symm.trans k3
  have hi : i = Int32.ofNat j := by
    have e : (Term.int (Int32.ofNat j)).eval A s none [] s = some (.int (Int32.ofNat j)) := rfl
    cases k2.symm.trans e
    rfl
  have hc : i.toNatClampNeg = j := by rw [hi]; exact Int32.toNatClampNeg_ofNat_of_lt (Nat.lt_trans hj hn)
  rw [hc] at k5
  exact k5
/-- a constant text's object: its row b -/
def cnT (cS : ClassId) (iS : Nat → Nat) (H : Heap) (a b : Nat) : Prop := ∃ ce : Cell, H[a]? = some ce ∧ ce.cls = cS ∧ (ce.vm.isStatics = false ∧ ce.vm ≠ .unknown) ∧ ce.slots[iS 0]? = some (.ref b) ∧ ce.slots[iS 1]? = some (.int 0)
theorem cn_txt {A : Array Value} {s : State} {own : String} {k : Nat} {cS cA : ClassId} {iS : Nat → Nat} {n : Nat} {f : Nat → Int32} (hK : u_Kn s RJ0 TJ0 4 cS iS) (hn : n < 2147483648) (hcA : s.vm.findClass "[B" = some cA) (h1 : (Cond.exactly (.string own k) "java/lang/String").before A s = true) (h2 : (Cond.eq (.field (.string own k) "java/lang/String" "coder" "B") (.int 0)).before A s = true) (h3 : (Cond.exactly (.field (.string own k) "java/lang/String" "value" "[B") "[B").before A s = true) (h4 : (Cond.eq (.length (.field (.string own k) "java/lang/String" "value" "[B")) (.int (Int32.ofNat n))).before A s = true) (h5 : ∀ j : Nat, j < n → (Cond.eq (.elem (.field (.string own k) "java/lang/String" "value" "[B") (.int (Int32.ofNat j))) (.int (f j))).before A s = true) : ∃ a b : Nat, (Term.string own k).eval A s none [] s = some (.ref a) ∧ cnT cS iS s.heap a b ∧ wArr cA n (fun j => .int (f j)) b s.heap := by
  obtain ⟨b, e1, hb⟩ := cn_row hn hcA h3 h4 h5
  obtain ⟨a, c, cell, kk, g1, g2, g3, g4, g5, g6, -⟩ := Cond.exactly_spec h1
  obtain ⟨cf, kf, fi, fd, hi, hs⟩ := hK.1 0 (by decide)
  obtain ⟨cf1, kf1, fi1, fd1, hi1, hs1⟩ := hK.1 1 (by decide)
  have hi : s.fieldFound? "java/lang/String" "value" "[B" = some (cf, kf, fi, fd) := hi
  have hi1 : s.fieldFound? "java/lang/String" "coder" "B" = some (cf1, kf1, fi1, fd1) := hi1
  obtain ⟨-, ce, q1, q2, q3, -, q5⟩ := Term.field_spec hi g1 e1
  obtain ⟨-, ce1, r1, -, -, -, r5⟩ := Term.field_spec hi1 g1 (va_eqt h2)
  cases g3.symm.trans q1
  cases g3.symm.trans r1
  have hcS : s.vm.findClass "java/lang/String" = some cS := hK.2.1
  exact ⟨a, b, g1, ⟨cell, g3, g6.trans (Option.some.inj (g2.symm.trans hcS)), ⟨q3, q2⟩, by rw [← hs]; exact q5, by rw [← hs1]; exact r5⟩, hb⟩
/-! the words -/
def cnE (i : Nat) : String × Nat := ([("LoanBook", 389), ("LoanBook", 391), ("LoanBook", 393), ("LoanBook", 395), ("LoanBook", 397), ("LoanBook", 399), ("LoanBook", 401), ("LoanBook", 403), ("LoanBook", 405), ("LoanBook", 407), ("LoanBook", 409), ("LoanBook", 411), ("LoanBook$Thing", 89), ("LoanBook$Courier", 41)] : List (String × Nat)).getD i ("", 0)
def cnV (own : String) (k : Nat) : Term := .field (.string own k) "java/lang/String" "value" "[B"
def cnX (own : String) (k : Nat) (t : List Int) : List Cond := [.exactly (.string own k) "java/lang/String", .eq (.field (.string own k) "java/lang/String" "coder" "B") (.int 0), .exactly (cnV own k) "[B", .eq (.length (cnV own k)) (.int (Int32.ofNat t.length))] ++ (List.range t.length).map (fun j => .eq (.elem (cnV own k) (.int (Int32.ofNat j))) (.int (iI (t.getD j 0))))
def cnP : List (List Nat) := [[220, 221, 457, 223, 224, 225, 226], [227, 228, 458, 230, 231, 232, 233, 234, 235], [236, 237, 459, 239, 240, 241, 242, 243, 244], [245, 246, 460, 248, 249, 250, 251], [252, 253, 461, 255, 256, 257, 258, 259], [260, 261, 462, 263, 264, 265, 266, 267], [268, 269, 463, 271, 272, 273, 274, 275], [276, 277, 464, 279, 280, 281, 282, 283], [284, 285, 465, 287, 288, 289, 290, 291, 292], [293, 294, 466, 296, 297, 298, 299, 300, 301], [302, 303, 467, 305, 306, 307, 308, 309], [310, 311, 468, 313], [314, 315, 469, 317, 318, 319, 320, 321, 322], [323, 324, 470, 326, 327, 328]]
set_option maxRecDepth 100000 in
theorem cnX_in : ∀ i, i < 14 → cnX (cnE i).1 (cnE i).2 (litT i) = (cnP.getD i []).filterMap (fun q => cnw[q]?) := by decide +kernel
def cnD (n : String) (g : Nat → Int) : List Cond := [.exactly (.static "java/lang/Integer" n "[B") "[B", .eq (.length (.static "java/lang/Integer" n "[B")) (.int (Int32.ofNat 100))] ++ (List.range 100).map (fun j => .eq (.elem (.static "java/lang/Integer" n "[B") (.int (Int32.ofNat j))) (.int (iI (g j))))
set_option maxRecDepth 100000 in
theorem cnD1_in : ∀ w ∈ cnD "DigitOnes" (fun j => 48 + (j : Int) % 10), w ∈ cnw := sub_r [455, 15, 16, 17, 18, 19, 20, 21, 22, 23, 24, 25, 26, 27, 28, 29, 30, 31, 32, 33, 34, 35, 36, 37, 38, 39, 40, 41, 42, 43, 44, 45, 46, 47, 48, 49, 50, 51, 52, 53, 54, 55, 56, 57, 58, 59, 60, 61, 62, 63, 64, 65, 66, 67, 68, 69, 70, 71, 72, 73, 74, 75, 76, 77, 78, 79, 80, 81, 82, 83, 84, 85, 86, 87, 88, 89, 90, 91, 92, 93, 94, 95, 96, 97, 98, 99, 100, 101, 102, 103, 104, 105, 106, 107, 108, 109, 110, 111, 112, 113, 114, 115] (by decide +kernel)
set_option maxRecDepth 100000 in
theorem cnD2_in : ∀ w ∈ cnD "DigitTens" (fun j => 48 + (j : Int) / 10), w ∈ cnw := sub_r [456, 118, 119, 120, 121, 122, 123, 124, 125, 126, 127, 128, 129, 130, 131, 132, 133, 134, 135, 136, 137, 138, 139, 140, 141, 142, 143, 144, 145, 146, 147, 148, 149, 150, 151, 152, 153, 154, 155, 156, 157, 158, 159, 160, 161, 162, 163, 164, 165, 166, 167, 168, 169, 170, 171, 172, 173, 174, 175, 176, 177, 178, 179, 180, 181, 182, 183, 184, 185, 186, 187, 188, 189, 190, 191, 192, 193, 194, 195, 196, 197, 198, 199, 200, 201, 202, 203, 204, 205, 206, 207, 208, 209, 210, 211, 212, 213, 214, 215, 216, 217, 218] (by decide +kernel)
theorem cnL_ok : ∀ i, i < 14 → (litT i).length ≤ 300 ∧ ∀ k, k < (litT i).length → 0 ≤ (litT i).getD k 0 ∧ (litT i).getD k 0 ≤ 127 := by decide +kernel
section CNS
variable {A : Array Value} {s : State} {cS cA cO : ClassId} {iS : Nat → Nat}
theorem cn_txtI (hK : u_Kn s RJ0 TJ0 4 cS iS) (hcA : s.vm.findClass "[B" = some cA) (hw : ∀ w ∈ cnw, w.before A s = true) (i : Nat) (hi : i < 14) : ∃ a b : Nat, (Term.string (cnE i).1 (cnE i).2).eval A s none [] s = some (.ref a) ∧ cnT cS iS s.heap a b ∧ wArr cA (litT i).length (fun j => .int (iI ((litT i).getD j 0))) b s.heap := by
  have hx : ∀ w ∈ cnX (cnE i).1 (cnE i).2 (litT i), w.before A s = true := fun w h => hw w (sub_r _ (cnX_in i hi) w h)
  have hl : (litT i).length < 2147483648 := Nat.lt_of_le_of_lt (cnL_ok i hi).1 (by decide)
  refine cn_txt hK hl hcA (hx _ ?_) (hx _ ?_) (hx _ ?_) (hx _ ?_) (fun j hj => hx _ ?_)
  · exact List.mem_append_left _ (List.mem_of_getElem? (i := 0) rfl)
  · exact List.mem_append_left _ (List.mem_of_getElem? (i := 1) rfl)
  · exact List.mem_append_left _ (List.mem_of_getElem? (i := 2) rfl)
  · exact List.mem_append_left _ (List.mem_of_getElem? (i := 3) rfl)
  · exact List.mem_append_right _ (List.mem_map.mpr ⟨j, List.mem_range.mpr hj, rfl⟩)
theorem cn_dig (hcA : s.vm.findClass "[B" = some cA) {n : String} {g : Nat → Int} (hx : ∀ w ∈ cnD n g, w.before A s = true) : ∃ a : Nat, (Term.static "java/lang/Integer" n "[B").eval A s none [] s = some (.ref a) ∧ wArr cA 100 (fun j => .int (iI (g j))) a s.heap := by
  refine cn_row (by decide) hcA (hx _ ?_) (hx _ ?_) (fun j hj => hx _ ?_)
  · exact List.mem_append_left _ (List.mem_of_getElem? (i := 0) rfl)
  · exact List.mem_append_left _ (List.mem_of_getElem? (i := 1) rfl)
  · exact List.mem_append_right _ (List.mem_map.mpr ⟨j, List.mem_range.mpr hj, rfl⟩)
theorem cn_emp (hcO : s.vm.findClass "[Ljava/lang/Object;" = some cO) (hw : ∀ w ∈ cnw, w.before A s = true) : ∃ a : Nat, (Term.static "java/util/ArrayList" "DEFAULTCAPACITY_EMPTY_ELEMENTDATA" "[Ljava/lang/Object;").eval A s none [] s = some (.ref a) ∧ ∀ z, wArr cO 0 z a s.heap := by
  have h1 : (Cond.exactly (.static "java/util/ArrayList" "DEFAULTCAPACITY_EMPTY_ELEMENTDATA" "[Ljava/lang/Object;") "[Ljava/lang/Object;").before A s = true := hw _ (List.mem_of_getElem? (i := 6) (by decide +kernel))
  have h2 : (Cond.eq (.length (.static "java/util/ArrayList" "DEFAULTCAPACITY_EMPTY_ELEMENTDATA" "[Ljava/lang/Object;")) (.int (Int32.ofNat 0))).before A s = true := hw _ (List.mem_of_getElem? (i := 7) (by decide +kernel))
  obtain ⟨a, e, ce, h3, h4, h5, h6, h7, -⟩ := cn_row (f := fun _ => 0) (by decide) hcO h1 h2 (fun j hj => absurd hj (Nat.not_lt_zero j))
  exact ⟨a, e, fun z => ⟨ce, h3, h4, h5, h6, h7, fun j hj => absurd hj (Nat.not_lt_zero j)⟩⟩
/-! what is read of a constant -/
def rdS (H : Heap) (i : Nat) (a : Nat) : Cel := .inl (0, [((H[a]?).bind (fun ce => ce.slots[i]?)).getD .null, .int 0])
def rdN (H : Heap) (a : Nat) : Nat := ((H[a]?).map (fun ce => ce.slots.size)).getD 0
def rdF (H : Heap) (a j : Nat) : Int32 := match (H[a]?).bind (fun ce => ce.slots[j]?) with
  | some (.int v) => v
  | _ => 0
theorem rdS_of {H : Heap} {a b : Nat} (h : cnT cS iS H a b) : rdS H (iS 0) a = .inl (0, [.ref b, .int 0]) := by
  obtain ⟨ce, h1, -, -, h2, -⟩ := h
  simp [rdS, h1, h2]
theorem rdN_of {H : Heap} {a n : Nat} {z : Nat → Value} (h : wArr cA n z a H) : rdN H a = n := by
  obtain ⟨ce, h1, -, -, -, h2, -⟩ := h
  simp [rdN, h1, h2]
theorem rdF_of {H : Heap} {a n : Nat} {f : Nat → Int32} (h : wArr cA n (fun j => .int (f j)) a H) {j : Nat} (hj : j < n) : rdF H a j = f j := by
  obtain ⟨ce, h1, -, -, -, -, h2⟩ := h
  simp [rdF, h1, h2 j hj]
/-- the constants as a world -/
def cnM (H : Heap) (i : Nat) (T B : List Nat) (e : Nat) : Mem := fun a => if a ∈ T then some (rdS H i a) else if a ∈ B then some (.inr (.inl (1, rdN H a, rdF H a))) else if a = e then some (.inr (.inr (3, 0, fun _ => none))) else none
theorem cn_hd {G : wG} {T B : List Nat} {e : Nat} (hB : G.2.2.1 = s.heap.size) (hT : ∀ a ∈ T, ∃ b, cnT (G.1.1 0) (G.1.2 0) s.heap a b) (hR : ∀ a ∈ B, ∃ (n : Nat) (f : Nat → Int32), wArr (G.2.1 1) n (fun j => .int (f j)) a s.heap) (hO : ∀ z, wArr (G.2.1 3) 0 z e s.heap) : Hd G (cnM s.heap (G.1.2 0 0) T B e) s.heap ∧ LOK G.2.2.1 (cnM s.heap (G.1.2 0 0) T B e) := by
  have lT : ∀ a ∈ T, a < s.heap.size := fun a h => by
    obtain ⟨b, ce, h1, -⟩ := hT a h
    exact (Array.getElem?_eq_some_iff.mp h1).1
  have lB : ∀ a ∈ B, a < s.heap.size := fun a h => by
    obtain ⟨n, f, ce, h1, -⟩ := hR a h
    exact (Array.getElem?_eq_some_iff.mp h1).1
  have lO : e < s.heap.size := by
    obtain ⟨ce, h1, -⟩ := hO (fun _ => .null)
    exact (Array.getElem?_eq_some_iff.mp h1).1
  constructor
  · intro a x hx
    unfold cnM at hx
    by_cases h1 : a ∈ T
    · rw [if_pos h1] at hx
      obtain ⟨b, hb⟩ := hT a h1
      rw [rdS_of hb] at hx
      cases hx
      obtain ⟨ce, g1, g2, g3, g4, g5⟩ := hb
      refine ⟨_, rfl, ce, g1, g2, ⟨g3.1, g3.2, fun q => absurd (lT a h1) (by omega)⟩, fun k hk _ => ?_⟩
      match k, hk with
      | 0, _ => exact g4
      | 1, _ => exact g5
      | k + 2, hk => exact absurd hk (by simp)
    · rw [if_neg h1] at hx
      by_cases h2 : a ∈ B
      · rw [if_pos h2] at hx
        cases hx
        obtain ⟨n, f, hf⟩ := hR a h2
        refine ⟨?_, fun q => absurd (lB a h2) (by omega)⟩
        rw [rdN_of hf]
        obtain ⟨ce, g1, g2, g3, g4, g5, g6⟩ := id hf
        exact ⟨ce, g1, g2, g3, g4, g5, fun j hj => by
          show ce.slots[j]? = some (Value.int (rdF s.heap a j))
          rw [rdF_of hf hj]
          exact g6 j hj⟩
      · rw [if_neg h2] at hx
        by_cases h3 : a = e
        · rw [if_pos h3] at hx
          cases hx
          rw [h3]
          exact ⟨hO _, fun q => absurd lO (by omega)⟩
        · rw [if_neg h3] at hx
          cases hx
  · intro a ha
    unfold cnM
    rw [if_neg (fun h => absurd (lT a h) (by omega)), if_neg (fun h => absurd (lB a h) (by omega)), if_neg (fun h : a = e => absurd lO (by omega))]
end CNS
