/-! THE CLASS'S WORLD: cells at addresses, who owns an address, the parts of the class's state -/
theorem gI_at {M : Mem} {a ci k : Nat} {fs : List Value} (h : M a = some (.inl (ci, fs))) : gI M (some a) ci k = (match fs[k]? with | some (.int v) => some v | _ => none) := by
  simp only [gI, Option.bind_some, h, if_true]
  rfl
theorem gR_at {M : Mem} {a ci k : Nat} {fs : List Value} (h : M a = some (.inl (ci, fs))) : gR M (some a) ci k = (match fs[k]? with | some (.ref v) => some (some v) | some .null => some none | _ => none) := by
  simp only [gR, Option.bind_some, h, if_true]
  rfl
theorem isO_at {M : Mem} {a ci : Nat} {fs : List Value} (h : M a = some (.inl (ci, fs))) : isO M (some a) ci = true := by
  simp only [isO, h, beq_self_eq_true]
theorem pF_at {B : Nat} {M : Mem} {a ci k : Nat} {fs : List Value} {v : Value} (hB : B ≤ a) (h : M a = some (.inl (ci, fs))) : pF B M (some a) ci k v = if k < fs.length then some (va_up M a (some (.inl (ci, fs.set k v)))) else none := by
  simp only [pF, Option.bind_some, h, true_and, hB, and_true]
theorem aI_at {M : Mem} {a t n : Nat} {f : Nat → Int32} {i : Int} (h : M a = some (.inr (.inl (t, n, f)))) (hi : 0 ≤ i ∧ i < n) (hn : n < 2147483648) : aI M t (some a) (iI i) = some (f i.toNat) := by
  have q : inb (iI i) n := (iI_inb i n (by omega)).mpr hi
  simp only [aI, Option.bind_some, h]
  rw [if_pos ⟨trivial, q⟩, iI_clamp i (by omega)]
theorem sI_at {B : Nat} {M : Mem} {a t n : Nat} {f : Nat → Int32} {i : Int} {v : Int32} (hB : B ≤ a) (h : M a = some (.inr (.inl (t, n, f)))) (hi : 0 ≤ i ∧ i < n) (hn : n < 2147483648) : sI B M t (some a) (iI i) v = some (va_up M a (some (.inr (.inl (t, n, upd f i.toNat v))))) := by
  have q : inb (iI i) n := (iI_inb i n (by omega)).mpr hi
  simp only [sI, Option.bind_some, h]
  rw [if_pos ⟨trivial, q, hB⟩, iI_clamp i (by omega)]
theorem aR_at {M : Mem} {a n : Nat} {f : Nat → Option Nat} {i : Int} (h : M a = some (.inr (.inr (3, n, f)))) (hi : 0 ≤ i ∧ i < n) (hn : n < 2147483648) : aR M (some a) (iI i) = some (f i.toNat) := by
  have q : inb (iI i) n := (iI_inb i n (by omega)).mpr hi
  simp only [aR, Option.bind_some, h]
  rw [if_pos ⟨trivial, q⟩, iI_clamp i (by omega)]
theorem sR_at {B : Nat} {M : Mem} {a n : Nat} {f : Nat → Option Nat} {i : Int} {v : Option Nat} (hB : B ≤ a) (h : M a = some (.inr (.inr (3, n, f)))) (hi : 0 ≤ i ∧ i < n) (hn : n < 2147483648) : sR B M (some a) (iI i) v = some (va_up M a (some (.inr (.inr (3, n, va_up f i.toNat v))))) := by
  have q : inb (iI i) n := (iI_inb i n (by omega)).mpr hi
  simp only [sR, Option.bind_some, h]
  rw [if_pos ⟨trivial, q, hB⟩, iI_clamp i (by omega)]
theorem aL_i {M : Mem} {a t n : Nat} {f : Nat → Int32} (ht : t < 4) (h : M a = some (.inr (.inl (t, n, f)))) : aL M (some a) = some (iI n) := by
  simp only [aL, Option.bind_some, h, ht, if_true]
  rw [iI, Int32.ofInt_eq_ofNat]
theorem aL_r {M : Mem} {a n : Nat} {f : Nat → Option Nat} (h : M a = some (.inr (.inr (3, n, f)))) : aL M (some a) = some (iI n) := by
  simp only [aL, Option.bind_some, h]
  rw [if_pos (by omega), iI, Int32.ofInt_eq_ofNat]
/-- a cell at an address, and its owner -/
def At (M : Mem) (rho : Nat → Nat) (id a : Nat) (c : Cel) : Prop := M a = some c ∧ rho a = id
/-- nothing of an owner's has changed -/
def Kept (M : Mem) (rho : Nat → Nat) (id : Nat) (M1 : Mem) (rho1 : Nat → Nat) : Prop := ∀ a, rho a = id → M1 a = M a ∧ rho1 a = id
theorem At.fr {M M1 : Mem} {rho rho1 : Nat → Nat} {id a : Nat} {c : Cel} (h : At M rho id a c) (k : Kept M rho id M1 rho1) : At M1 rho1 id a c := ⟨(k a h.2).1.trans h.1, (k a h.2).2⟩
/-- a row that grows: its elements -/
def LisR (S : Nat → Nat) (M : Mem) (rho : Nat → Nat) (id a : Nat) (l : List Nat) : Prop := ∃ (mc : Int32) (e cap : Nat) (h : Nat → Option Nat), At M rho id a (.inl (2, [.int mc, .ref e, .int (iI l.length)])) ∧ ((e = S 20 ∧ cap = 0) ∨ (At M rho id e (.inr (.inr (3, cap, h))) ∧ (cap = 10 ∨ cap = 15 ∨ cap = 22 ∨ cap = 33 ∨ cap = 49))) ∧ l.length ≤ cap ∧ ∀ k, k < l.length → h k = l[k]?
theorem LisR.fr {S : Nat → Nat} {M M1 : Mem} {rho rho1 : Nat → Nat} {id a : Nat} {l : List Nat} (h : LisR S M rho id a l) (k : Kept M rho id M1 rho1) : LisR S M1 rho1 id a l := by
  obtain ⟨mc, e, cap, g, h1, h2, h3, h4⟩ := h
  refine ⟨mc, e, cap, g, h1.fr k, ?_, h3, h4⟩
  rcases h2 with h2 | ⟨h2, h5⟩
  · exact Or.inl h2
  · exact Or.inr ⟨h2.fr k, h5⟩
/-- a text -/
def TxtR (M : Mem) (rho : Nat → Nat) (id a : Nat) (t : List Int) : Prop := ∃ (b : Nat) (r : List Value) (f : Nat → Int32), At M rho id a (.inl (0, .ref b :: .int 0 :: r)) ∧ At M rho id b (.inr (.inl (1, t.length, f))) ∧ t.length ≤ 300 ∧ ∀ k, k < t.length → f k = iI (t.getD k 0) ∧ 0 ≤ t.getD k 0 ∧ t.getD k 0 ≤ 127
theorem TxtR.fr {M M1 : Mem} {rho rho1 : Nat → Nat} {id a : Nat} {t : List Int} (h : TxtR M rho id a t) (k : Kept M rho id M1 rho1) : TxtR M1 rho1 id a t := by
  obtain ⟨b, r, f, h1, h2, h3, h4⟩ := h
  exact ⟨b, r, f, h1.fr k, h2.fr k, h3, h4⟩
/-- a calendar: its days, how many are taken -/
def CalR (M : Mem) (rho : Nat → Nat) (id a : Nat) (f : Int → Int) (tk : Int) : Prop := ∃ (d : Nat) (g : Nat → Int32), At M rho id a (.inl (4, [.ref d, .int (iI tk)])) ∧ At M rho id d (.inr (.inl (0, 1000, g))) ∧ ∀ k : Int, 0 ≤ k → k < 1000 → g k.toNat = iI (f k)
theorem CalR.fr {M M1 : Mem} {rho rho1 : Nat → Nat} {id a : Nat} {f : Int → Int} {tk : Int} (h : CalR M rho id a f tk) (k : Kept M rho id M1 rho1) : CalR M1 rho1 id a f tk := by
  obtain ⟨d, g, h1, h2, h3⟩ := h
  exact ⟨d, g, h1.fr k, h2.fr k, h3⟩
/-- what was told of a thing's value: rising days -/
def AppR (M : Mem) (rho : Nat → Nat) (id a : Nat) (u : MS) (l : List Nat) : Prop := ∃ (d v : Nat) (gd gv : Nat → Int32), At M rho id a (.inl (3, [.ref d, .ref v, .int (iI l.length)])) ∧ At M rho id d (.inr (.inl (0, 48, gd))) ∧ At M rho id v (.inr (.inl (0, 48, gv))) ∧ d ≠ v ∧ l.length ≤ 48 ∧ ∀ k j, l[k]? = some j → gd k = u.2 12 j ∧ gv k = u.2 13 j
theorem AppR.fr {M M1 : Mem} {rho rho1 : Nat → Nat} {id a : Nat} {u : MS} {l : List Nat} (h : AppR M rho id a u l) (k : Kept M rho id M1 rho1) : AppR M1 rho1 id a u l := by
  obtain ⟨d, v, gd, gv, h1, h2, h3, h4, h5, h6⟩ := h
  exact ⟨d, v, gd, gv, h1.fr k, h2.fr k, h3.fr k, h4, h5, h6⟩
/-- the last place whose day is not behind one; -1 without -/
def latF (f : Nat → Int) (d : Int) : Nat → Int
  | 0 => -1
  | k + 1 => if f k ≤ d then k else latF f d k
theorem latF_rng (f : Nat → Int) (d : Int) (n : Nat) : -1 ≤ latF f d n ∧ latF f d n < n := by
  induction n with
  | zero => simp [latF]
  | succ n ih =>
    unfold latF
    split <;> omega
/-! lists -/
theorem z_chk (M : Mem) (i n : Int) (x : Option Nat) (hi : 0 ≤ i ∧ i < n) (hn : n < 2147483648) : f_J3_checkIndex_8e157 M (iI i) (iI n) x = some (iI i) := by
  unfold f_J3_checkIndex_8e157
  rw [iI_zero, if_neg (by rw [iI_lt _ _ (by omega)]; omega), if_pos (by rw [iI_lt _ _ (by omega)]; omega)]
section LISR
variable {S : Nat → Nat} {M : Mem} {rho : Nat → Nat} {id a : Nat} {l : List Nat}
theorem LisR.is (h : LisR S M rho id a l) : isO M (some a) 2 = true := by
  obtain ⟨mc, e, cap, g, h1, h2, h3, h4⟩ := h
  exact isO_at h1.1
theorem LisR.len (h : LisR S M rho id a l) : l.length ≤ 49 := by
  obtain ⟨mc, e, cap, g, h1, h2, h3, h4⟩ := h
  rcases h2 with h2 | h2 <;> omega
theorem LisR.size (h : LisR S M rho id a l) : f_Jx4a65c_size_8abf5 M (some a) = some (iI l.length) := by
  obtain ⟨mc, e, cap, g, h1, h2, h3, h4⟩ := h
  unfold f_Jx4a65c_size_8abf5
  rw [gI_at h1.1]
  rfl
theorem LisR.get (h : LisR S M rho id a l) {i : Int} {x : Nat} (h0 : 0 ≤ i) (hi : l[i.toNat]? = some x) : f_Jx4a65c_get_915e3 M (some a) (iI i) = some (some x) := by
  have hl := h.len
  have hlt : i.toNat < l.length := (List.getElem?_eq_some_iff.mp hi).1
  obtain ⟨mc, e, cap, g, h1, h2, h3, h4⟩ := h
  rcases h2 with h2 | ⟨h2, h5⟩
  · omega
  · unfold f_Jx4a65c_get_915e3 f_J15_checkIndex_7cf53 f_Jx4a65c_elementData_915e3
    rw [gI_at h1.1, gR_at h1.1, isO_at h1.1]
    simp only [List.getElem?_cons_zero, List.getElem?_cons_succ, Option.bind_some, if_true]
    rw [z_chk M i _ _ (by omega) (by omega), aR_at h2.1 (by omega) (by omega), h4 _ hlt, hi]
    rfl
end LISR
/-! tests of written numbers -/
theorem it_lt {α : Type} (a b : Int) (h : -2147483648 ≤ a ∧ a < 2147483648 ∧ -2147483648 ≤ b ∧ b < 2147483648) (x y : α) : (if iI a < iI b then x else y) = if a < b then x else y := by simp only [iI_lt a b h]
theorem it_le {α : Type} (a b : Int) (h : -2147483648 ≤ a ∧ a < 2147483648 ∧ -2147483648 ≤ b ∧ b < 2147483648) (x y : α) : (if iI a ≤ iI b then x else y) = if a ≤ b then x else y := by simp only [iI_le a b h]
theorem it_eq {α : Type} (a b : Int) (h : -2147483648 ≤ a ∧ a < 2147483648 ∧ -2147483648 ≤ b ∧ b < 2147483648) (x y : α) : (if iI a = iI b then x else y) = if a = b then x else y := by simp only [iI_eq a b h]
theorem ix_le {α : Type} (a : Int32) (b : Int) (h : -2147483648 ≤ b ∧ b < 2147483648) (x y : α) : (if a ≤ iI b then x else y) = if a.toInt ≤ b then x else y := by
  have e : a ≤ iI b ↔ a.toInt ≤ b := by
    have h1 := rng_lo a
    have h2 := rng_hi a
    rw [← iI_toInt a, iI_le _ _ (by omega), iI_toInt]
  simp only [e]
theorem ix_eq {α : Type} (a : Int32) (b : Int) (h : -2147483648 ≤ b ∧ b < 2147483648) (x y : α) : (if a = iI b then x else y) = if a.toInt = b then x else y := by
  have e : a = iI b ↔ a.toInt = b := by
    have h1 := rng_lo a
    have h2 := rng_hi a
    constructor
    · intro e
      rw [e, toInt_iI b h.1 h.2]
    · intro e
      rw [← e, iI_toInt]
  simp only [e]
theorem ib_z {α : Type} (p : Prop) [Decidable p] (x y : α) : (if iI (if p then 1 else 0) = iI 0 then x else y) = if ¬ p then x else y := by simp only [b0]
