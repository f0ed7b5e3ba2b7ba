/-! THE CLASS'S STATE BESIDE THE REFERENCE'S: owners 1 book, 2 tape, 3 reader, 4-7 rows, 1000+ things, 2000+ their calendars, 3000+ appraisals, 4000+ rows of reports, 5000+ houses, 6000+ couriers, 7000+ their calendars, 8000+ loans, 9000+ parcels (16 a loan), 10000+ reports -/
def kindT (k : Int) : List Int := if k = 0 then [115, 104, 101, 101, 116] else if k = 1 then [106, 97, 114] else if k = 2 then [115, 107, 105, 110] else if k = 3 then [99, 97, 115, 116] else [98, 111, 111, 107]
def sortT (k : Int) : List Int := if k = 0 then [116, 101, 97, 114] else if k = 1 then [115, 116, 97, 105, 110] else if k = 2 then [99, 114, 97, 99, 107] else [108, 111, 115, 115]
def barB (x : Int32) (k : Int) : Bool := decide (((x >>> (iI k &&& 31)) &&& (1 : Int32)) = (1 : Int32))
def barT (x : Int32) : Nat → Int → List Int
  | 0, _ => []
  | c + 1, k => (if barB x k = true then [32, 110, 111, 116, 32] ++ kindT k else []) ++ barT x c (k + 1)
def thiT (u : MS) (i : Nat) : List Int := kindT (vR u 6 i) ++ ([32] ++ (numL (vR u 7 i) ++ ([32] ++ (numL (vR u 8 i) ++ barT (u.2 9 i) 5 0))))
def houT (u : MS) (h : Nat) : List Int := numL (vR u 15 h) ++ ([32] ++ (numL (vR u 16 h) ++ ([32] ++ (numL (vR u 17 h) ++ ([32] ++ numL (vR u 18 h))))))
def spaT (f g : Int → Int) : Nat → Int → List Int
  | 0, _ => []
  | c + 1, k => (if k > 0 then [44, 32] else []) ++ (numL (f k) ++ ([45] ++ (numL (g k) ++ spaT f g c (k + 1))))
def couT (u : MS) (c : Nat) : List Int := spaT (fun k => vR u 21 ((c : Int) * 40 + k).toNat) (fun k => vR u 22 ((c : Int) * 40 + k).toNat) (vR u 20 c).toNat 0
def harT (f g : Nat → Int) : List Nat → Bool → List Int
  | [], _ => []
  | j :: l, b => (if b = true then [44, 32] else []) ++ (sortT (f j / 100) ++ ([32] ++ (numL (f j % 100) ++ ([32] ++ (numL (g j) ++ harT f g l true)))))
/-- sort and spot of a harm as one number -/
def keyS (u : MS) (r j : Nat) : Int := vR u 37 (r * 16 + j) * 100 + vR u 38 (r * 16 + j)
def repT (u : MS) (r : Nat) (l : List Nat) : List Int := if l = [] then [115, 111, 117, 110, 100] else harT (keyS u r) (fun j => vR u 39 (r * 16 + j)) l false
section REPDEF
variable (B : Nat) (S : Nat → Nat) (L : Mem) (x0 : Nat) (ad : Nat → Nat) (rho : Nat → Nat) (xl : Nat → List Nat) (M : Mem) (u : MS) (sz : Nat)
def booF (st rp ap lf ls : Int32) : List Value := [.ref (ad 2), .ref (ad 3), .ref (ad 4), .ref (ad 5), .ref (ad 6), .ref (ad 7), .int st, .int rp, .int ap, .int lf, .int ls]
def BooR : Prop := At M rho 1 x0 (.inl (14, booF ad (iI (stdS u)) (u.1 33) (u.1 10) (u.1 4) (u.1 2)))
/-- the tape's numbers are bytes -/
def TapB : Prop := ∀ k : Nat, k < (vN u 1).toNat → 0 ≤ vR u 0 k ∧ vR u 0 k ≤ 255
def TapR : Prop := TapB u ∧ ∃ b, At M rho 2 (ad 2) (.inl (12, [.ref b, .int (u.1 1)])) ∧ At M rho 2 b (.inr (.inl (0, 120, u.2 0)))
def RowR (id a n : Nat) : Prop := ∃ f, At M rho id a (.inr (.inl (0, n, f)))
def ReaR : Prop := ∃ (p row s c n : Nat) (z1 z2 z3 z4 : Int32), At M rho 3 (ad 3) (.inl (10, [.ref p, .ref row, .int z1, .int z2, .int (u.1 3)])) ∧ At M rho 3 p (.inl (9, [.ref s, .ref c, .ref n, .int z3, .int z4])) ∧ RowR rho M 3 row 120 ∧ RowR rho M 3 s 120 ∧ RowR rho M 3 c 120 ∧ RowR rho M 3 n 120 ∧ s ≠ c ∧ s ≠ n ∧ c ≠ n ∧ row ≠ s ∧ row ≠ c ∧ row ≠ n
def seqA (b : Nat) (n : Int) : List Nat := (List.range n.toNat).map (fun i => ad (b + i))
def RowsR : Prop := LisR S M rho 4 (ad 4) (seqA ad 1000 (vN u 5)) ∧ LisR S M rho 5 (ad 5) (seqA ad 5000 (vN u 14)) ∧ LisR S M rho 6 (ad 6) (seqA ad 6000 (vN u 19)) ∧ LisR S M rho 7 (ad 7) (seqA ad 8000 (vN u 23))
def ThiC (i : Nat) : Prop := ∃ w, At M rho (1000 + i) (ad (1000 + i)) (.inl (13, [.int (iI i), .int (u.2 6 i), .int (u.2 8 i), .ref w, .ref (ad (2000 + i)), .ref (ad (3000 + i)), .int (u.2 7 i), .int (u.2 9 i), .ref (ad (4000 + i))])) ∧ TxtR M rho (1000 + i) w (thiT u i)
def ThiR (i : Nat) : Prop := ThiC ad rho M u i ∧ (∃ tk, CalR M rho (2000 + i) (ad (2000 + i)) (loanS u i) tk) ∧ AppR M rho (3000 + i) (ad (3000 + i)) u (xl (3000 + i)) ∧ LisR S M rho (4000 + i) (ad (4000 + i)) ((xl (4000 + i)).map (fun r => ad (10000 + r)))
def HouR (h : Nat) : Prop := ∃ w, At M rho (5000 + h) (ad (5000 + h)) (.inl (6, [.int (u.2 15 h), .int (u.2 16 h), .int (u.2 17 h), .int (u.2 18 h), .ref w])) ∧ TxtR M rho (5000 + h) w (houT u h)
def CouC (c : Nat) : Prop := ∃ w, At M rho (6000 + c) (ad (6000 + c)) (.inl (5, [.int (iI c), .ref w, .ref (ad (7000 + c))])) ∧ TxtR M rho (6000 + c) w (couT u c)
/-- what a courier's calendar says of a day, of so many loans -/
def calS (u : MS) (c m d : Int) : Int := if 0 ≤ busyS u c d m then busyS u c d m else if mayS u c d = true then -1 else -2
def CouR (m : Int) (c : Nat) : Prop := CouC ad rho M u c ∧ CalR M rho (7000 + c) (ad (7000 + c)) (calS u c m) (takenS u c m)
def ParR (l p : Nat) : Prop := ∃ c, At M rho (9000 + (l * 16 + p)) (ad (9000 + (l * 16 + p))) (.inl (8, [.int (iI (weighS u l p)), .ref c, .int (u.2 31 (l * 16 + p)), .int (u.2 32 (l * 16 + p))])) ∧ LisR S M rho (9000 + (l * 16 + p)) c ((xl (9000 + (l * 16 + p))).map (fun t => ad (1000 + t)))
def LoaR (l : Nat) : Prop := (∃ q, At M rho (8000 + l) (ad (8000 + l)) (.inl (7, [.ref (ad (5000 + (vR u 25 l).toNat)), .int (u.2 26 l), .ref q, .int (u.2 24 l), .int (u.2 27 l)])) ∧ LisR S M rho (8000 + l) q (seqA ad (9000 + l * 16) (vR u 29 l))) ∧ ∀ p, p < (vR u 29 l).toNat → ParR S ad rho xl M u l p
/-- a text of its own, or the constant that says sound -/
def TxS (S : Nat → Nat) (M : Mem) (rho : Nat → Nat) (id w : Nat) (t : List Int) : Prop := TxtR M rho id w t ∨ (w = S 1 ∧ t = [115, 111, 117, 110, 100])
def RptR (r : Nat) : Prop := ∃ (w s z : Nat) (f g : Nat → Int32), At M rho (10000 + r) (ad (10000 + r)) (.inl (11, [.int (u.2 35 r), .ref w, .ref s, .ref z])) ∧ TxS S M rho (10000 + r) w (repT u r (xl (10000 + r))) ∧ At M rho (10000 + r) s (.inr (.inl (0, (xl (10000 + r)).length, f))) ∧ At M rho (10000 + r) z (.inr (.inl (0, (xl (10000 + r)).length, g))) ∧ ∀ k j, (xl (10000 + r))[k]? = some j → f k = iI (keyS u r j) ∧ g k = u.2 39 (r * 16 + j)
/-- the class's whole state: constants, owners, the book, tape, reader, rows; things, houses, couriers, loans, reports -/
def RepK : Prop := ((∀ a e, L a = some e → M a = some e) ∧ (∀ a, rho a ≠ 0 → B ≤ a ∧ a < sz)) ∧ (BooR x0 ad rho M u ∧ TapR ad rho M u ∧ ReaR ad rho M u ∧ RowsR S ad rho M u) ∧ (∀ i, i < (vN u 5).toNat → ThiR S ad rho xl M u i) ∧ (∀ h, h < (vN u 14).toNat → HouR ad rho M u h) ∧ (∀ c, c < (vN u 19).toNat → CouR ad rho M u (vN u 23) c) ∧ (∀ l, l < (vN u 23).toNat → LoaR S ad rho xl M u l) ∧ ∀ r, r < (vN u 33).toNat → RptR S ad rho xl M u r
end REPDEF
theorem seqA_len (ad : Nat → Nat) (b : Nat) (n : Int) : (seqA ad b n).length = n.toNat := by simp [seqA]
theorem seqA_get (ad : Nat → Nat) (b : Nat) (n : Int) (i : Nat) (h : i < n.toNat) : (seqA ad b n)[i]? = some (ad (b + i)) := by simp [seqA, h]
section ATS
variable {B : Nat} {S : Nat → Nat} {L : Mem} {x0 : Nat} {ad rho : Nat → Nat} {xl : Nat → List Nat} {M : Mem} {u : MS} {sz : Nat}
theorem RepK.book (h : RepK B S L x0 ad rho xl M u sz) : M x0 = some (.inl (14, booF ad (iI (stdS u)) (u.1 33) (u.1 10) (u.1 4) (u.1 2))) := h.2.1.1.1
theorem RepK.own (h : RepK B S L x0 ad rho xl M u sz) {id a : Nat} {c : Cel} (ha : At M rho id a c) (h0 : id ≠ 0) : B ≤ a ∧ a < sz := h.1.2 a (by rw [ha.2]; exact h0)
theorem RepK.bookB (h : RepK B S L x0 ad rho xl M u sz) : B ≤ x0 := (h.own h.2.1.1 (by decide)).1
theorem RepK.rows (h : RepK B S L x0 ad rho xl M u sz) : RowsR S ad rho M u := h.2.1.2.2.2
theorem RepK.thi (h : RepK B S L x0 ad rho xl M u sz) {i : Nat} (hi : i < (vN u 5).toNat) : ThiR S ad rho xl M u i := h.2.2.1 i hi
theorem RepK.hou (h : RepK B S L x0 ad rho xl M u sz) {i : Nat} (hi : i < (vN u 14).toNat) : HouR ad rho M u i := h.2.2.2.1 i hi
theorem RepK.cou (h : RepK B S L x0 ad rho xl M u sz) {i : Nat} (hi : i < (vN u 19).toNat) : CouR ad rho M u (vN u 23) i := h.2.2.2.2.1 i hi
theorem RepK.loa (h : RepK B S L x0 ad rho xl M u sz) {i : Nat} (hi : i < (vN u 23).toNat) : LoaR S ad rho xl M u i := h.2.2.2.2.2.1 i hi
theorem RepK.rpt (h : RepK B S L x0 ad rho xl M u sz) {i : Nat} (hi : i < (vN u 33).toNat) : RptR S ad rho xl M u i := h.2.2.2.2.2.2 i hi
/-! answers and refusals -/
def stM (ad : Nat → Nat) (u : MS) (x0 : Nat) (M : Mem) (z : Int) : Mem := va_up M x0 (some (.inl (14, booF ad (iI (stdS u)) (u.1 33) (u.1 10) (u.1 4) (iI z))))
def fineK (ad : Nat → Nat) (u : MS) (x0 : Nat) (M : Mem) (z : Int) : Option (Int32 × Mem) := some (iI z, stM ad u x0 M 0)
def noK (ad : Nat → Nat) (u : MS) (x0 : Nat) (M : Mem) (z : Int) : Option (Int32 × Mem) := some (iI (-9999), stM ad u x0 M z)
theorem z_answer (h : RepK B S L x0 ad rho xl M u sz) (z : Int) : f_X11_answer B M (some x0) (iI z) = fineK ad u x0 M z := by
  unfold f_X11_answer fineK stM
  rw [pF_at h.bookB h.book, if_pos (by simp [booF])]
  rfl
theorem z_refuse (h : RepK B S L x0 ad rho xl M u sz) (z : Int) : f_X11_refuse B M (some x0) (iI z) = noK ad u x0 M z := by
  unfold f_X11_refuse noK stM
  rw [pF_at h.bookB h.book, if_pos (by simp [booF])]
  rfl
theorem z_refuseAsked0 (h : RepK B S L x0 ad rho xl M u sz) : f_X11_refuseAsked B M (some x0) 0 = noK ad u x0 M 1 := by
  unfold f_X11_refuseAsked
  rw [if_pos rfl, if_pos (isO_at h.book), show (1 : Int32) = iI 1 from rfl, z_refuse h]
  rfl
theorem z_refuseAsked1 (h : RepK B S L x0 ad rho xl M u sz) : f_X11_refuseAsked B M (some x0) 1 = noK ad u x0 M 3 := by
  unfold f_X11_refuseAsked
  rw [if_neg (by decide), if_pos (isO_at h.book), show (3 : Int32) = iI 3 from rfl, z_refuse h]
  rfl
theorem z_isDay (M : Mem) (d : Int) (h : -2147483648 ≤ d ∧ d < 2147483648) : f_X11_isDay M (iI d) = some (iI (if 0 ≤ d ∧ d ≤ 999 then 1 else 0)) := by
  unfold f_X11_isDay
  simp (disch := omega) only [iI_ofNat, iI_zero, iI_lt, iI_le]
  (repeat' split) <;> first | rfl | omega | (exfalso; omega)
theorem z_isLength (M : Mem) (d : Int) (h : -2147483648 ≤ d ∧ d < 2147483648) : f_X11_isLength M (iI d) = some (iI (if 1 ≤ d ∧ d ≤ 1000 then 1 else 0)) := by
  unfold f_X11_isLength
  simp (disch := omega) only [iI_ofNat, iI_zero, iI_lt, iI_le]
  (repeat' split) <;> first | rfl | omega | (exfalso; omega)
/-- a row's element by number, or null -/
theorem z_at {id a : Nat} {l : List Nat} (hl : LisR S M rho id a l) {ci : Nat} (hc : ∀ x ∈ l, isO M (some x) ci = true) (t : Int) (ht : -2147483648 ≤ t ∧ t < 2147483648) :
    (if iI t < 0 then (some (none)) else (if isO M (some a) 2 = true then ((f_Jx4a65c_size_8abf5 M (some a)).bind fun r4 => if r4 ≤ iI t then (some (none)) else (if isO M (some a) 2 = true then ((f_Jx4a65c_get_915e3 M (some a) (iI t)).bind fun r8 => if r8 = none ∨ isO M r8 ci = true then (some (r8)) else none) else none)) else none)) = some (if 0 ≤ t then l[t.toNat]? else none) := by
  have hn := hl.len
  rw [hl.is, iI_zero, it_lt _ _ (by omega)]
  by_cases c1 : t < 0
  · rw [if_pos c1, if_neg (by omega)]
  · rw [if_neg c1, if_pos rfl, hl.size, if_pos (show 0 ≤ t by omega), Option.bind_some, it_le _ _ (by omega)]
    by_cases c2 : (l.length : Int) ≤ t
    · rw [if_pos c2, List.getElem?_eq_none (by omega)]
    · rw [if_neg c2, if_pos rfl]
      have hx : l[t.toNat]? = some l[t.toNat] := List.getElem?_eq_getElem (by omega)
      rw [hl.get (by omega) hx, Option.bind_some, if_pos (Or.inr (hc _ (List.getElem_mem _))), hx]
theorem z_thingAt (h : RepK B S L x0 ad rho xl M u sz) (t : Int) (ht : -2147483648 ≤ t ∧ t < 2147483648) : f_X11_thingAt M (some x0) (iI t) = some (if 0 ≤ t ∧ t ≤ vN u 5 - 1 then some (ad (1000 + t.toNat)) else none) := by
  unfold f_X11_thingAt
  rw [gR_at h.book]
  have hr := h.rows.1
  have := z_at hr (ci := 13) (fun x hx => by
    simp only [seqA, List.mem_map, List.mem_range] at hx
    obtain ⟨i, hi, rfl⟩ := hx
    obtain ⟨⟨w, h1, -⟩, -⟩ := h.thi hi
    exact isO_at h1.1) t ht
  simp only [booF, List.getElem?_cons_zero, List.getElem?_cons_succ, Option.bind_some]
  rw [this]
  by_cases c : 0 ≤ t ∧ t ≤ vN u 5 - 1
  · rw [if_pos c, if_pos c.1, seqA_get _ _ _ _ (by omega)]
  · rw [if_neg c]
    by_cases c1 : 0 ≤ t
    · rw [if_pos c1, List.getElem?_eq_none (by rw [seqA_len]; omega)]
    · rw [if_neg c1]
theorem z_houseAt (h : RepK B S L x0 ad rho xl M u sz) (t : Int) (ht : -2147483648 ≤ t ∧ t < 2147483648) : f_X11_houseAt M (some x0) (iI t) = some (if 0 ≤ t ∧ t ≤ vN u 14 - 1 then some (ad (5000 + t.toNat)) else none) := by
  unfold f_X11_houseAt
  rw [gR_at h.book]
  have hr := h.rows.2.1
  have := z_at hr (ci := 6) (fun x hx => by
    simp only [seqA, List.mem_map, List.mem_range] at hx
    obtain ⟨i, hi, rfl⟩ := hx
    obtain ⟨w, h1, -⟩ := h.hou hi
    exact isO_at h1.1) t ht
  simp only [booF, List.getElem?_cons_zero, List.getElem?_cons_succ, Option.bind_some]
  rw [this]
  by_cases c : 0 ≤ t ∧ t ≤ vN u 14 - 1
  · rw [if_pos c, if_pos c.1, seqA_get _ _ _ _ (by omega)]
  · rw [if_neg c]
    by_cases c1 : 0 ≤ t
    · rw [if_pos c1, List.getElem?_eq_none (by rw [seqA_len]; omega)]
    · rw [if_neg c1]
theorem z_courierAt (h : RepK B S L x0 ad rho xl M u sz) (t : Int) (ht : -2147483648 ≤ t ∧ t < 2147483648) : f_X11_courierAt M (some x0) (iI t) = some (if 0 ≤ t ∧ t ≤ vN u 19 - 1 then some (ad (6000 + t.toNat)) else none) := by
  unfold f_X11_courierAt
  rw [gR_at h.book]
  have hr := h.rows.2.2.1
  have := z_at hr (ci := 5) (fun x hx => by
    simp only [seqA, List.mem_map, List.mem_range] at hx
    obtain ⟨i, hi, rfl⟩ := hx
    obtain ⟨⟨w, h1, -⟩, -⟩ := h.cou hi
    exact isO_at h1.1) t ht
  simp only [booF, List.getElem?_cons_zero, List.getElem?_cons_succ, Option.bind_some]
  rw [this]
  by_cases c : 0 ≤ t ∧ t ≤ vN u 19 - 1
  · rw [if_pos c, if_pos c.1, seqA_get _ _ _ _ (by omega)]
  · rw [if_neg c]
    by_cases c1 : 0 ≤ t
    · rw [if_pos c1, List.getElem?_eq_none (by rw [seqA_len]; omega)]
    · rw [if_neg c1]
theorem z_standingLoanAt (h : RepK B S L x0 ad rho xl M u sz) (t : Int) (ht : -2147483648 ≤ t ∧ t < 2147483648) : f_X11_standingLoanAt M (some x0) (iI t) = some (if (0 ≤ t ∧ t ≤ vN u 23 - 1) ∧ vR u 24 t.toNat ≠ 0 then some (ad (8000 + t.toNat)) else none) := by
  unfold f_X11_standingLoanAt
  have hr := h.rows.2.2.2
  have hn := hr.len
  rw [seqA_len] at hn
  have h1 := vR_rng u 24 t.toNat
  rw [gR_at h.book]
  simp only [booF, List.getElem?_cons_zero, List.getElem?_cons_succ, Option.bind_some]
  rw [hr.is, iI_zero, it_lt _ _ (by omega)]
  by_cases c1 : t < 0
  · rw [if_pos c1, if_neg (by omega)]
  · rw [if_neg c1, if_pos rfl, hr.size, Option.bind_some, seqA_len, it_lt _ _ (by omega)]
    by_cases c2 : t < ((vN u 23).toNat : Int)
    · obtain ⟨⟨q, h2, -⟩, -⟩ := h.loa (i := t.toNat) (by omega)
      rw [if_pos c2, if_pos rfl, hr.get (by omega) (seqA_get _ _ _ _ (by omega)), Option.bind_some, if_pos (Or.inr (isO_at h2.1)), gI_at h2.1]
      simp only [List.getElem?_cons_zero, List.getElem?_cons_succ, Option.bind_some]
      rw [u2_iI, it_eq _ _ (by omega)]
      by_cases c3 : vR u 24 t.toNat = 0
      · rw [if_pos c3, if_neg (by simp [c3])]
      · rw [if_neg c3, if_pos ⟨by omega, c3⟩]
    · rw [if_neg c2, if_neg (by omega)]
end ATS
