/-! THE WORLD AS A MAP: an address holds an object (its class by its place in vwCl, its fields) or an array (its type's tag, its length, its elements) -/
abbrev Cel : Type := (Nat × List Value) ⊕ ((Nat × Nat × (Nat → Int32)) ⊕ (Nat × Nat × (Nat → Option Nat)))
abbrev Mem : Type := Nat → Option Cel
/-- the classes and field places, the array classes by tag (0 int, 1 byte, 2 boolean, 3 Object), the first address that may be written, the constants' addresses -/
abbrev wG : Type := va_G × (Nat → ClassId) × Nat × (Nat → Nat)
/-- a row's cell, as far as it must be known of a constant -/
def wArr (cA : ClassId) (n : Nat) (z : Nat → Value) (a : Nat) (H : Heap) : Prop := ∃ ce : Cell, H[a]? = some ce ∧ ce.cls = cA ∧ ce.vm.isStatics = false ∧ ce.vm ≠ .unknown ∧ ce.slots.size = n ∧ ∀ j, j < n → ce.slots[j]? = some (z j)
theorem wArr.of {cA : ClassId} {n : Nat} {z : Nat → Value} {a : Nat} {H : Heap} (h : H[a]? = some (arrV cA n z)) : wArr cA n z a H := ⟨_, h, rfl, rfl, (fun q => by cases q), arrV_size _ _ _, fun j hj => arrV_read _ _ hj⟩
def m_at (G : wG) (a : Nat) (e : Cel) (H : Heap) : Prop := match e with
  | .inl o => ∃ r, vwCl[o.1]? = some r ∧ ∃ cell : Cell, H[a]? = some cell ∧ cell.cls = G.1.1 o.1 ∧ (cell.vm.isStatics = false ∧ cell.vm ≠ .unknown ∧ (G.2.2.1 ≤ a → cell.vm = .none)) ∧ ∀ k, k < o.2.length → k < r.2.2 → cell.slots[G.1.2 o.1 k]? = some (o.2.getD k .null)
  | .inr (.inl (t, n, f)) => wArr (G.2.1 t) n (fun j => .int (f j)) a H ∧ (G.2.2.1 ≤ a → H[a]? = some (arrV (G.2.1 t) n (fun j => .int (f j))))
  | .inr (.inr (t, n, f)) => wArr (G.2.1 t) n (fun j => va_rf (f j)) a H ∧ (G.2.2.1 ≤ a → H[a]? = some (arrV (G.2.1 t) n (fun j => va_rf (f j))))
theorem m_at.kept {G : wG} {a : Nat} {e : Cel} {H H1 : Heap} (h : m_at G a e H) (hq : H1[a]? = H[a]?) : m_at G a e H1 := by
  match e, h with
  | .inl o, ⟨r, h1, ce, h2, h3⟩ => exact ⟨r, h1, ce, by rw [hq]; exact h2, h3⟩
  | .inr (.inl (t, n, f)), ⟨⟨ce, h1, h2⟩, h3⟩ => exact ⟨⟨ce, by rw [hq]; exact h1, h2⟩, fun hB => hq.trans (h3 hB)⟩
  | .inr (.inr (t, n, f)), ⟨⟨ce, h1, h2⟩, h3⟩ => exact ⟨⟨ce, by rw [hq]; exact h1, h2⟩, fun hB => hq.trans (h3 hB)⟩
theorem m_at.lt {G : wG} {a : Nat} {e : Cel} {H : Heap} (h : m_at G a e H) : a < H.size := by
  match e, h with
  | .inl o, ⟨r, h1, ce, h2, h3⟩ => exact (Array.getElem?_eq_some_iff.mp h2).1
  | .inr (.inl (t, n, f)), ⟨⟨ce, h1, h2⟩, h3⟩ => exact (Array.getElem?_eq_some_iff.mp h1).1
  | .inr (.inr (t, n, f)), ⟨⟨ce, h1, h2⟩, h3⟩ => exact (Array.getElem?_eq_some_iff.mp h1).1
theorem m_at.arrI {G : wG} {a t n : Nat} {f : Nat → Int32} {H : Heap} (h : H[a]? = some (arrV (G.2.1 t) n (fun j => .int (f j)))) : m_at G a (.inr (.inl (t, n, f))) H := ⟨wArr.of h, fun _ => h⟩
theorem m_at.arrR {G : wG} {a t n : Nat} {f : Nat → Option Nat} {H : Heap} (h : H[a]? = some (arrV (G.2.1 t) n (fun j => va_rf (f j)))) : m_at G a (.inr (.inr (t, n, f))) H := ⟨wArr.of h, fun _ => h⟩
theorem wArr.is {s : State} {cA : ClassId} {z : Nat → Value} {ce : Cell} {ty : FieldType} (h : ArrOfT s cA ty) (h1 : ce.cls = cA) (h2 : ce.vm.isStatics = false) : s.isArrayOf ce ty := by
  obtain ⟨-, k, hk, hc⟩ := h 0 z
  refine ⟨fun q hq => (by rw [hq] at h2; cases h2), k, ?_, hc⟩
  rw [h1]
  exact hk
def Hd (G : wG) (M : Mem) (H : Heap) : Prop := ∀ a e, M a = some e → m_at G a e H
theorem Hd.lt {G : wG} {M : Mem} {H : Heap} (h : Hd G M H) {a : Nat} {e : Cel} (ha : M a = some e) : a < H.size := (h a e ha).lt
theorem Hd.kept {G : wG} {M : Mem} {H H1 : Heap} (h : Hd G M H) (hq : ∀ a, M a ≠ none → H1[a]? = H[a]?) : Hd G M H1 := fun a e ha => (h a e ha).kept (hq a (by rw [ha]; exact Option.some_ne_none e))
theorem Hd.set {G : wG} {M : Mem} {H H1 : Heap} {a : Nat} {e : Cel} (h : Hd G M H) (he : m_at G a e H1) (hq : ∀ q, q ≠ a → q < H.size → H1[q]? = H[q]?) : Hd G (va_up M a (some e)) H1 := by
  intro b x hx
  unfold va_up at hx
  by_cases hb : b = a
  · rw [if_pos hb] at hx
    cases hx
    rw [hb]
    exact he
  · rw [if_neg hb] at hx
    exact (h b x hx).kept (hq b hb (h b x hx).lt)
/-- the array classes of the tables -/
def tyT : List FieldType := [.int, .byte, .boolean, .object "java/lang/Object"]
def kTys (G : wG) : List (ClassId × FieldType) := [(G.2.1 0, .int), (G.2.1 1, .byte), (G.2.1 2, .boolean), (G.2.1 3, .object "java/lang/Object")]
/-- the nest's links, the literals (class, entry, text, its number), the statics that are read -/
def evN : List (String × Nat × MethodName × String) := [("LoanBook", 9, ⟨"LoanBook$Tape", "<init>", "()V"⟩, "LoanBook"), ("LoanBook", 18, ⟨"LoanBook$Reader", "<init>", "()V"⟩, "LoanBook"), ("LoanBook$Reader", 11, ⟨"LoanBook$Pieces", "<init>", "()V"⟩, "LoanBook"), ("LoanBook$Pieces", 56, ⟨"LoanBook", "spelling", "(I)Ljava/lang/String;"⟩, "LoanBook"), ("LoanBook$Thing", 22, ⟨"LoanBook$Appraisals", "<init>", "()V"⟩, "LoanBook"), ("LoanBook$Thing", 75, ⟨"LoanBook", "spelling", "(I)Ljava/lang/String;"⟩, "LoanBook"), ("LoanBook$Calendar", 28, ⟨"LoanBook", "isDay", "(I)Z"⟩, "LoanBook"), ("LoanBook$Loan", 75, ⟨"LoanBook$Parcel", "<init>", "()V"⟩, "LoanBook"), ("LoanBook$Report", 54, ⟨"LoanBook", "spelling", "(I)Ljava/lang/String;"⟩, "LoanBook"), ("LoanBook$Report", 80, ⟨"LoanBook", "gravity", "(I)I"⟩, "LoanBook")]
def evL : List (String × Nat × String × Nat) := [("LoanBook", 389, "not", 0), ("LoanBook", 391, "sound", 1), ("LoanBook", 393, "sheet", 2), ("LoanBook", 395, "jar", 3), ("LoanBook", 397, "skin", 4), ("LoanBook", 399, "cast", 5), ("LoanBook", 401, "book", 6), ("LoanBook", 403, "tear", 7), ("LoanBook", 405, "stain", 8), ("LoanBook", 407, "crack", 9), ("LoanBook", 409, "loss", 10), ("LoanBook", 411, "", 11), ("LoanBook$Thing", 89, " not ", 12), ("LoanBook$Courier", 41, ", ", 13), ("LoanBook$Report", 61, ", ", 13), ("LoanBookModel", 209, "sheet", 2), ("LoanBookModel", 211, "jar", 3), ("LoanBookModel", 213, "skin", 4), ("LoanBookModel", 215, "cast", 5), ("LoanBookModel", 217, "book", 6), ("LoanBookModel", 219, "tear", 7), ("LoanBookModel", 221, "stain", 8), ("LoanBookModel", 223, "crack", 9), ("LoanBookModel", 225, "loss", 10), ("LoanBookModel", 266, "not", 0), ("LoanBookModel", 245, "sound", 1), ("LoanBookModel", 240, ", ", 13), ("LoanBookModel", 238, " not ", 12)]
def evZ (S : Nat → Nat) : List (String × String × String × Value) := [("java/util/ArrayList", "DEFAULTCAPACITY_EMPTY_ELEMENTDATA", "[Ljava/lang/Object;", .ref (S 20)), ("java/lang/String", "COMPACT_STRINGS", "Z", .int 1), ("java/lang/Integer", "DigitOnes", "[B", .ref (S 21)), ("java/lang/Integer", "DigitTens", "[B", .ref (S 22))]
def evC : List String := ["LoanBook", "LoanBook$Tape", "LoanBook$Reader", "LoanBook$Pieces", "java/util/ArrayList", "LoanBookModel", "LoanBook$Thing", "LoanBook$Calendar", "LoanBook$Appraisals", "java/lang/StringBuilder", "java/lang/String", "LoanBook$House", "LoanBook$Courier", "LoanBook$Loan", "LoanBook$Parcel", "LoanBook$Report"]
def EV (G : wG) (U : State) (H : Heap) : Prop := va_K G.1 vwCl (kTys G) U ∧ (∀ q ∈ evN, va_Nw (.methodLinkNest q.1 q.2.1 q.2.2.1 q.2.2.2) U) ∧ (∀ q ∈ evL, vk_R q.1 q.2.1 q.2.2.1 (G.2.2.2 q.2.2.2) U) ∧ (∀ q ∈ evZ G.2.2.2, va_Z q.1 q.2.1 q.2.2.1 q.2.2.2 (fun a => G.2.2.1 ≤ a) U H) ∧ (∀ q ∈ evC, va_Nw (.castable q "java/lang/Object") U) ∧ va_AO "java/lang/Object" U ∧ va_Zq "jdk/internal/util/Preconditions" "SIOOBE_FORMATTER" "Ljava/util/function/BiFunction;" (fun a => G.2.2.1 ≤ a) U H ∧ va_Mi "[Ljava/lang/Object;" (G.2.2.2 23) U ∧ va_Dc U ∧ va_Nw (.castable "[B" "java/lang/Cloneable") U
theorem EV.kept {G : wG} {U : State} {H H1 : Heap} (h : EV G U H) (hq : ∀ a : Nat, a < H.size → a < G.2.2.1 → H1[a]? = H[a]?) : EV G U H1 := ⟨h.1, h.2.1, h.2.2.1, fun q hm => (h.2.2.2.1 q hm).kept (fun a h1 h2 => hq a h1 (Nat.not_le.mp h2)), h.2.2.2.2.1, h.2.2.2.2.2.1, h.2.2.2.2.2.2.1.kept (fun a h1 h2 => hq a h1 (Nat.not_le.mp h2)), h.2.2.2.2.2.2.2⟩
theorem EV.warm {G : wG} {s U : State} {H : Heap} (hW : s.WarmedH U.vm) (h : EV G s H) : EV G U H := ⟨va_K.moved hW.alike h.1, fun q hm => (h.2.1 q hm).warmM hW, fun q hm => (h.2.2.1 q hm).warm hW, fun q hm => (h.2.2.2.1 q hm).moved hW.alike, fun q hm => (h.2.2.2.2.1 q hm).warmC hW, h.2.2.2.2.2.1.moved hW.alike, h.2.2.2.2.2.2.1.moved hW.alike, h.2.2.2.2.2.2.2.1.moved hW.alike, h.2.2.2.2.2.2.2.2.1.moved hW.alike, h.2.2.2.2.2.2.2.2.2.warmC hW⟩
theorem EV.blind {G : wG} {U : State} {H : Heap} {g : JFrame} {mk : MethodId} {a : Array Value} (h : EV G U H) : EV G (U.calling g mk a) H := ⟨va_K.moved (u := U) (U := U.calling g mk a) (Vm.Alike.refl U.vm) h.1, fun q hm => va_Nw.same rfl rfl (h.2.1 q hm), fun q hm => (h.2.2.1 q hm).same rfl, fun q hm => (h.2.2.2.1 q hm).moved (Vm.Alike.refl U.vm), fun q hm => va_Nw.same rfl rfl (h.2.2.2.2.1 q hm), h.2.2.2.2.2.1.moved (Vm.Alike.refl U.vm), h.2.2.2.2.2.2.1.moved (Vm.Alike.refl U.vm), h.2.2.2.2.2.2.2.1.moved (Vm.Alike.refl U.vm), h.2.2.2.2.2.2.2.2.1.moved (Vm.Alike.refl U.vm), va_Nw.same rfl rfl h.2.2.2.2.2.2.2.2.2⟩
/-- what a method may change: what its world holds above the constants, and what it makes -/
def As (G : wG) (M : Mem) (sz : Nat) : Nat → Prop := fun q => (G.2.2.1 ≤ q ∧ M q ≠ none) ∨ sz ≤ q
theorem As.ge {G : wG} {M : Mem} {sz q : Nat} (hB : G.2.2.1 ≤ sz) (h : As G M sz q) : G.2.2.1 ≤ q := h.elim (fun h => h.1) (fun h => Nat.le_trans hB h)
/-- the world as it stands in a walk -/
def wD (G : wG) (s : State) (M0 M : Mem) (sz : Nat) (H : Heap) (locs : List Loc) : Prop := Hd G M H ∧ H.size = sz ∧ va_S (As G M0 s.heap.size) s.heap H locs ∧ ∀ a, G.2.2.1 ≤ a → M a ≠ none → As G M0 s.heap.size a
/-- a method's fixed facts -/
def Cx (G : wG) (p : Program) (s : State) (m : MethodId) (args : Array Value) (meth : Method) (c : Code) (cc : ByteArray) (nL : Nat) (own : String) (Ts : List Cond) : Prop := p.tables.exec = Jvm.exec ∧ c.code = cc ∧ c.maxLocals = nL ∧ s.vm.findClass own = some m.cls ∧ (∀ w ∈ Ts, w.before args s = true) ∧ meth.locks = false ∧ EV G s s.heap ∧ G.2.2.1 ≤ s.heap.size
theorem ob {α β : Type} {o : Option α} {k : α → Option β} {r : β} (h : o.bind k = some r) : ∃ v, o = some v ∧ k v = some r := Option.bind_eq_some_iff.mp h
theorem itt {c : Prop} [Decidable c] {β : Type} {a b : Option β} {r : β} (h : (if c then a else b) = some r) (hc : c) : a = some r := by rwa [if_pos hc] at h
theorem itf {c : Prop} [Decidable c] {β : Type} {a b : Option β} {r : β} (h : (if c then a else b) = some r) (hc : ¬ c) : b = some r := by rwa [if_neg hc] at h
/-- a test that must hold -/
theorem itg {c : Prop} [Decidable c] {β : Type} {a : Option β} {r : β} (h : (if c then a else none) = some r) : c ∧ a = some r := by
  by_cases hc : c
  · rw [if_pos hc] at h
    exact ⟨hc, h⟩
  · rw [if_neg hc] at h
    cases h
/-! the operations on a world -/
abbrev inb (i : Int32) (n : Nat) : Prop := ¬ (i < 0 ∨ n ≤ i.toNatClampNeg)
def gI (M : Mem) (x : Option Nat) (ci k : Nat) : Option Int32 := x.bind fun a => match M a with
  | some (.inl (c, fs)) => if c = ci then (match fs[k]? with | some (.int v) => some v | _ => none) else none
  | _ => none
def gR (M : Mem) (x : Option Nat) (ci k : Nat) : Option (Option Nat) := x.bind fun a => match M a with
  | some (.inl (c, fs)) => if c = ci then (match fs[k]? with | some (.ref v) => some (some v) | some .null => some none | _ => none) else none
  | _ => none
def pF (B : Nat) (M : Mem) (x : Option Nat) (ci k : Nat) (v : Value) : Option Mem := x.bind fun a => match M a with
  | some (.inl (c, fs)) => if c = ci ∧ k < fs.length ∧ B ≤ a then some (va_up M a (some (.inl (c, fs.set k v)))) else none
  | _ => none
def aI (M : Mem) (t : Nat) (x : Option Nat) (i : Int32) : Option Int32 := x.bind fun a => match M a with
  | some (.inr (.inl (t1, n, f))) => if t1 = t ∧ inb i n then some (f i.toNatClampNeg) else none
  | _ => none
def aR (M : Mem) (x : Option Nat) (i : Int32) : Option (Option Nat) := x.bind fun a => match M a with
  | some (.inr (.inr (t1, n, f))) => if t1 = 3 ∧ inb i n then some (f i.toNatClampNeg) else none
  | _ => none
def sI (B : Nat) (M : Mem) (t : Nat) (x : Option Nat) (i v : Int32) : Option Mem := x.bind fun a => match M a with
  | some (.inr (.inl (t1, n, f))) => if t1 = t ∧ inb i n ∧ B ≤ a then some (va_up M a (some (.inr (.inl (t1, n, upd f i.toNatClampNeg v))))) else none
  | _ => none
def sR (B : Nat) (M : Mem) (x : Option Nat) (i : Int32) (v : Option Nat) : Option Mem := x.bind fun a => match M a with
  | some (.inr (.inr (t1, n, f))) => if t1 = 3 ∧ inb i n ∧ B ≤ a then some (va_up M a (some (.inr (.inr (t1, n, va_up f i.toNatClampNeg v))))) else none
  | _ => none
def aL (M : Mem) (x : Option Nat) : Option Int32 := x.bind fun a => match M a with
  | some (.inr (.inl (t1, n, _))) => if t1 < 4 then some (Int32.ofNat n) else none
  | some (.inr (.inr (t1, n, _))) => if t1 < 4 then some (Int32.ofNat n) else none
  | _ => none
def isO (M : Mem) (x : Option Nat) (ci : Nat) : Bool := match x with
  | none => false
  | some a => match M a with
    | some (.inl (c, _)) => c == ci
    | _ => false
/-! what the operations say -/
theorem gI.spec {M : Mem} {x : Option Nat} {ci k : Nat} {v : Int32} (h : gI M x ci k = some v) : ∃ a fs, x = some a ∧ M a = some (.inl (ci, fs)) ∧ fs[k]? = some (.int v) := by
  unfold gI at h
  cases x with
  | none => cases h
  | some a =>
    simp only [Option.bind_some] at h
    split at h
    · rename_i c fs ha
      split at h
      · rename_i hc
        subst hc
        split at h
        · rename_i v1 hv
          cases h
          exact ⟨a, fs, rfl, ha, hv⟩
        · cases h
      · cases h
    · cases h
theorem gR.spec {M : Mem} {x : Option Nat} {ci k : Nat} {v : Option Nat} (h : gR M x ci k = some v) : ∃ a fs, x = some a ∧ M a = some (.inl (ci, fs)) ∧ fs[k]? = some (va_rf v) := by
  unfold gR at h
  cases x with
  | none => cases h
  | some a =>
    simp only [Option.bind_some] at h
    split at h
    · rename_i c fs ha
      split at h
      · rename_i hc
        subst hc
        split at h
        · rename_i v1 hv
          cases h
          exact ⟨a, fs, rfl, ha, hv⟩
        · rename_i hv
          cases h
          exact ⟨a, fs, rfl, ha, hv⟩
        · cases h
      · cases h
    · cases h
theorem pF.spec {B : Nat} {M M1 : Mem} {x : Option Nat} {ci k : Nat} {v : Value} (h : pF B M x ci k v = some M1) : ∃ a fs, x = some a ∧ M a = some (.inl (ci, fs)) ∧ k < fs.length ∧ B ≤ a ∧ M1 = va_up M a (some (.inl (ci, fs.set k v))) := by
  unfold pF at h
  cases x with
  | none => cases h
  | some a =>
    simp only [Option.bind_some] at h
    split at h
    · rename_i c fs ha
      split at h
      · rename_i hc
        obtain ⟨hc, hk, hB⟩ := hc
        subst hc
        cases h
        exact ⟨a, fs, rfl, ha, hk, hB, rfl⟩
      · cases h
    · cases h
theorem aI.spec {M : Mem} {t : Nat} {x : Option Nat} {i v : Int32} (h : aI M t x i = some v) : ∃ a n f, x = some a ∧ M a = some (.inr (.inl (t, n, f))) ∧ inb i n ∧ v = f i.toNatClampNeg := by
  unfold aI at h
  cases x with
  | none => cases h
  | some a =>
    simp only [Option.bind_some] at h
    split at h
    · rename_i t1 n f ha
      split at h
      · rename_i hc
        obtain ⟨hc, hi⟩ := hc
        subst hc
        cases h
        exact ⟨a, n, f, rfl, ha, hi, rfl⟩
      · cases h
    · cases h
theorem aR.spec {M : Mem} {x : Option Nat} {i : Int32} {v : Option Nat} (h : aR M x i = some v) : ∃ a n f, x = some a ∧ M a = some (.inr (.inr (3, n, f))) ∧ inb i n ∧ v = f i.toNatClampNeg := by
  unfold aR at h
  cases x with
  | none => cases h
  | some a =>
    simp only [Option.bind_some] at h
    split at h
    · rename_i t1 n f ha
      split at h
      · rename_i hc
        obtain ⟨hc, hi⟩ := hc
        subst hc
        cases h
        exact ⟨a, n, f, rfl, ha, hi, rfl⟩
      · cases h
    · cases h
theorem sI.spec {B : Nat} {M M1 : Mem} {t : Nat} {x : Option Nat} {i v : Int32} (h : sI B M t x i v = some M1) : ∃ a n f, x = some a ∧ M a = some (.inr (.inl (t, n, f))) ∧ inb i n ∧ B ≤ a ∧ M1 = va_up M a (some (.inr (.inl (t, n, upd f i.toNatClampNeg v)))) := by
  unfold sI at h
  cases x with
  | none => cases h
  | some a =>
    simp only [Option.bind_some] at h
    split at h
    · rename_i t1 n f ha
      split at h
      · rename_i hc
        obtain ⟨hc, hi, hB⟩ := hc
        subst hc
        cases h
        exact ⟨a, n, f, rfl, ha, hi, hB, rfl⟩
      · cases h
    · cases h
theorem sR.spec {B : Nat} {M M1 : Mem} {x : Option Nat} {i : Int32} {v : Option Nat} (h : sR B M x i v = some M1) : ∃ a n f, x = some a ∧ M a = some (.inr (.inr (3, n, f))) ∧ inb i n ∧ B ≤ a ∧ M1 = va_up M a (some (.inr (.inr (3, n, va_up f i.toNatClampNeg v)))) := by
  unfold sR at h
  cases x with
  | none => cases h
  | some a =>
    simp only [Option.bind_some] at h
    split at h
    · rename_i t1 n f ha
      split at h
      · rename_i hc
        obtain ⟨hc, hi, hB⟩ := hc
        subst hc
        cases h
        exact ⟨a, n, f, rfl, ha, hi, hB, rfl⟩
      · cases h
    · cases h
theorem aL.spec {M : Mem} {x : Option Nat} {v : Int32} (h : aL M x = some v) : ∃ a, x = some a ∧ ((∃ t n f, M a = some (.inr (.inl (t, n, f))) ∧ t < 4 ∧ v = Int32.ofNat n) ∨ ∃ t n f, M a = some (.inr (.inr (t, n, f))) ∧ t < 4 ∧ v = Int32.ofNat n) := by
  unfold aL at h
  cases x with
  | none => cases h
  | some a =>
    simp only [Option.bind_some] at h
    split at h
    · rename_i t1 n f ha
      split at h
      · rename_i hc
        cases h
        exact ⟨a, rfl, Or.inl ⟨t1, n, f, ha, hc, rfl⟩⟩
      · cases h
    · rename_i t1 n f ha
      split at h
      · rename_i hc
        cases h
        exact ⟨a, rfl, Or.inr ⟨t1, n, f, ha, hc, rfl⟩⟩
      · cases h
    · cases h
section MROWS
variable {p : Program} {l : Launch} {e : Env} {R : Room} {s : State} {m : MethodId} {args : Array Value} {below : List Frame} {meth : Method} {c : Code} {H : Heap} {locs : List Loc} {cells slots : Nat} {Q : State → Prop}
variable {cc : ByteArray} {pc : Nat} {ls : Array Slot} {rest : List Value} {G : wG} {nL : Nat} {own : String} {Ts : List Cond} {M0 M : Mem} {sz : Nat} {x : Option Nat}
theorem va_rf_cat (x : Option Nat) : (va_rf x).category = 1 := by cases x <;> rfl
theorem cat_i (x : Int32) : (Value.int x).category = 1 := rfl
theorem cat_r (x : Nat) : (Value.ref x).category = 1 := rfl
theorem cat_l (x : Int64) : (Value.long x).category = 2 := rfl
theorem cat_13 {a b : Nat} (h : a ≤ 8) (h2 : 21 ≤ b) : a + 13 ≤ b := by omega
theorem m_aload_n (hx : p.tables.exec = Jvm.exec) (hb : c.code = cc) {k : Fin 4} {i : Nat} (hdg : decode cc pc = .ok (.aload_n k, 1)) (hi : (k : Nat) = i) (hl : ls[i]? = some (.val (va_rf x)))
    (kk : W p l e R s m args below meth c H locs cells slots Q (F0 m (pc + 1) ls (va_rf x :: rest))) : W p l e R s m args below meth c H locs cells slots Q (F0 m pc ls rest) := by
  cases x with
  | none => exact lv_aload_nN hx hb hdg hi hl kk
  | some a => exact lv_aload_n hx hb hdg hi hl kk
theorem m_aload (hx : p.tables.exec = Jvm.exec) (hb : c.code = cc) {i : Nat} (hdg : decode cc pc = .ok (.aload i, 2)) (hl : ls[i]? = some (.val (va_rf x)))
    (kk : W p l e R s m args below meth c H locs cells slots Q (F0 m (pc + 2) ls (va_rf x :: rest))) : W p l e R s m args below meth c H locs cells slots Q (F0 m pc ls rest) := by
  cases x with
  | none => exact lv_aloadN hx hb hdg hl kk
  | some a => exact lv_aload hx hb hdg hl kk
theorem m_astore_n (hx : p.tables.exec = Jvm.exec) (hb : c.code = cc) {k : Fin 4} {i nL : Nat} {lv lv' : List (Nat × Value)} (hdg : decode cc pc = .ok (.astore_n k, 1)) (hi : (k : Nat) = i) (h : lv_has ls nL lv) (hn : i < nL) (hl : (i, va_rf x) :: lv.filter (fun q => !(q.1 == i) && !(q.1 + 1 == i && q.2.category == 2)) = lv')
    (kk : ∀ ls' : Array Slot, lv_has ls' nL lv' → W p l e R s m args below meth c H locs cells slots Q (F0 m (pc + 1) ls' rest)) : W p l e R s m args below meth c H locs cells slots Q (F0 m pc ls (va_rf x :: rest)) := by
  cases x with
  | none => exact lv_astore_nN hx hb hdg hi h hn hl kk
  | some a => exact lv_astore_n hx hb hdg hi h hn hl kk
theorem m_astore (hx : p.tables.exec = Jvm.exec) (hb : c.code = cc) {i nL : Nat} {lv lv' : List (Nat × Value)} (hdg : decode cc pc = .ok (.astore i, 2)) (h : lv_has ls nL lv) (hn : i < nL) (hl : (i, va_rf x) :: lv.filter (fun q => !(q.1 == i) && !(q.1 + 1 == i && q.2.category == 2)) = lv')
    (kk : ∀ ls' : Array Slot, lv_has ls' nL lv' → W p l e R s m args below meth c H locs cells slots Q (F0 m (pc + 2) ls' rest)) : W p l e R s m args below meth c H locs cells slots Q (F0 m pc ls (va_rf x :: rest)) := by
  cases x with
  | none => exact lv_astoreN hx hb hdg h hn hl kk
  | some a => exact lv_astore hx hb hdg h hn hl kk
theorem m_ifnull (hx : p.tables.exec = Jvm.exec) (hb : c.code = cc) {off : Int} {tgt : Nat} (hdg : decode cc pc = .ok (.ifnull off, 3)) (ht : (pc : Int) + off = (tgt : Int))
    (kt : x = none → W p l e R s m args below meth c H locs cells slots Q (F0 m tgt ls rest)) (kf : ¬ x = none → W p l e R s m args below meth c H locs cells slots Q (F0 m (pc + 3) ls rest)) : W p l e R s m args below meth c H locs cells slots Q (F0 m pc ls (va_rf x :: rest)) := by
  cases x with
  | none => exact lv_ifnullN hx hb hdg ht (kt rfl)
  | some a => exact lv_ifnull hx hb hdg (kf (fun h => by cases h))
theorem m_ifnonnull (hx : p.tables.exec = Jvm.exec) (hb : c.code = cc) {off : Int} {tgt : Nat} (hdg : decode cc pc = .ok (.ifnonnull off, 3)) (ht : (pc : Int) + off = (tgt : Int))
    (kt : ¬ x = none → W p l e R s m args below meth c H locs cells slots Q (F0 m tgt ls rest)) (kf : x = none → W p l e R s m args below meth c H locs cells slots Q (F0 m (pc + 3) ls rest)) : W p l e R s m args below meth c H locs cells slots Q (F0 m pc ls (va_rf x :: rest)) := by
  cases x with
  | none => exact lv_ifnonnullN hx hb hdg (kf rfl)
  | some a => exact lv_ifnonnull hx hb hdg ht (kt (fun h => by cases h))
theorem m_dup (hx : p.tables.exec = Jvm.exec) (hb : c.code = cc) (hdg : decode cc pc = .ok (.dup, 1))
    (kk : W p l e R s m args below meth c H locs cells slots Q (F0 m (pc + 1) ls (va_rf x :: va_rf x :: rest))) : W p l e R s m args below meth c H locs cells slots Q (F0 m pc ls (va_rf x :: rest)) := lv_dup hx hb hdg (va_rf_cat x) kk
theorem wD.put {M1 : Mem} {a : Nat} {e0 e1 : Cel} {k : Nat} {H1 : Heap} (hw : wD G s M0 M sz H locs) (ha : M a = some e0) (hB : G.2.2.1 ≤ a) (he : m_at G a e1 H1) (z : H1.size = H.size) (oq : ∀ q : Nat, q ≠ a → H1[q]? = H[q]?) (hM : M1 = va_up M a (some e1)) : wD G s M0 M1 sz H1 (locs ++ [⟨a, k⟩]) := by
  obtain ⟨h1, h2, h3, h4⟩ := hw
  subst hM
  refine ⟨h1.set he (fun q hq _ => oq q hq), z.trans h2, h3.put z oq (h4 a hB (by rw [ha]; exact Option.some_ne_none _)), fun q hq hn => ?_⟩
  by_cases hqa : q = a
  · rw [hqa]
    exact h4 a hB (by rw [ha]; exact Option.some_ne_none _)
  · exact h4 q hq (by unfold va_up at hn; rwa [if_neg hqa] at hn)
/-- reading a field: the slot's value -/
theorem m_getV (hC : Cx G p s m args meth c cc nL own Ts) (hw : wD G s M0 M sz H locs) {a ci k N index : Nat} {C ref : String} {T : u_T} {fs : List Value} {v : Value} (ha : M a = some (.inl (ci, fs))) (hv : fs[k]? = some v)
    (hin : ∀ w ∈ u_ws C T N, w ∈ Ts) (hc : vwCl[ci]? = some (C, T, N)) (hk : k < N) (hlink : Cond.fieldLink own index ref (T k).2.1 (T k).2.2.1 ∈ Ts) (hsame : ∀ x, s.fieldFound? (T k).1 (T k).2.1 (T k).2.2.1 = some x → s.fieldFound? ref (T k).2.1 (T k).2.2.1 = some x) (hdg : decode cc pc = .ok (.getfield index, 3))
    (kk : W p l e R s m args below meth c H locs cells slots Q (F0 m (pc + 3) ls (v :: rest))) : W p l e R s m args below meth c H locs cells slots Q (F0 m pc ls (.ref a :: rest)) := by
  obtain ⟨hx, hb, hml, hown, hts, hlo, hE, hBs⟩ := hC
  obtain ⟨r, h1, cell, q1, q2, q3, q4⟩ := hw.1 a _ ha
  have hr : r = (C, T, N) := Option.some.inj (h1.symm.trans hc)
  subst hr
  obtain ⟨hS, hfc, kC, hkC, hkind⟩ := hE.1.1 ci _ hc
  obtain ⟨cf, kf, fi, f, hi, hsl⟩ := hS k hk
  refine W.getf hx hb hown (hts _ hlink) (hsame _ hi) (u_facts hfc hkC (u_lays hts hin hk) hi).1 q1 q3.2.1 (v := v) ?_ rfl rfl hdg kk
  rw [hsl, q4 k (List.getElem?_eq_some_iff.mp hv).1 hk, List.getD_eq_getElem?_getD, hv]
  rfl
theorem m_getI (hC : Cx G p s m args meth c cc nL own Ts) (hw : wD G s M0 M sz H locs) {ci k N index : Nat} {C ref : String} {T : u_T} {v : Int32} (hg : gI M x ci k = some v)
    (hin : ∀ w ∈ u_ws C T N, w ∈ Ts) (hc : vwCl[ci]? = some (C, T, N)) (hk : k < N) (hlink : Cond.fieldLink own index ref (T k).2.1 (T k).2.2.1 ∈ Ts) (hsame : ∀ x, s.fieldFound? (T k).1 (T k).2.1 (T k).2.2.1 = some x → s.fieldFound? ref (T k).2.1 (T k).2.2.1 = some x) (hdg : decode cc pc = .ok (.getfield index, 3))
    (kk : W p l e R s m args below meth c H locs cells slots Q (F0 m (pc + 3) ls (.int v :: rest))) : W p l e R s m args below meth c H locs cells slots Q (F0 m pc ls (va_rf x :: rest)) := by
  obtain ⟨a, fs, rfl, ha, hv⟩ := gI.spec hg
  exact m_getV hC hw ha hv hin hc hk hlink hsame hdg kk
theorem m_getR (hC : Cx G p s m args meth c cc nL own Ts) (hw : wD G s M0 M sz H locs) {ci k N index : Nat} {C ref : String} {T : u_T} {v : Option Nat} (hg : gR M x ci k = some v)
    (hin : ∀ w ∈ u_ws C T N, w ∈ Ts) (hc : vwCl[ci]? = some (C, T, N)) (hk : k < N) (hlink : Cond.fieldLink own index ref (T k).2.1 (T k).2.2.1 ∈ Ts) (hsame : ∀ x, s.fieldFound? (T k).1 (T k).2.1 (T k).2.2.1 = some x → s.fieldFound? ref (T k).2.1 (T k).2.2.1 = some x) (hdg : decode cc pc = .ok (.getfield index, 3))
    (kk : W p l e R s m args below meth c H locs cells slots Q (F0 m (pc + 3) ls (va_rf v :: rest))) : W p l e R s m args below meth c H locs cells slots Q (F0 m pc ls (va_rf x :: rest)) := by
  obtain ⟨a, fs, rfl, ha, hv⟩ := gR.spec hg
  exact m_getV hC hw ha hv hin hc hk hlink hsame hdg kk
/-- a store into a field that isn't final -/
theorem m_put (hC : Cx G p s m args meth c cc nL own Ts) (hw : wD G s M0 M sz H locs) {M1 : Mem} {ci k N index : Nat} {C ref : String} {T : u_T} {v : Value} (hg : pF G.2.2.1 M x ci k v = some M1)
    (hin : ∀ w ∈ u_ws C T N, w ∈ Ts) (ty0 : Nat → FieldType) (hty : ∀ k, k < N → parseFieldDescriptor (T k).2.2.1 = some (ty0 k)) (hnm : ∀ a, a < N → ∀ b, b < N → a ≠ b → (T a).2.1 ≠ (T b).2.1) (hc : vwCl[ci]? = some (C, T, N)) (hk : k < N) (hlink : Cond.fieldLink own index ref (T k).2.1 (T k).2.2.1 ∈ Ts) (hsame : ∀ x, s.fieldFound? (T k).1 (T k).2.1 (T k).2.2.1 = some x → s.fieldFound? ref (T k).2.1 (T k).2.2.1 = some x)
    (hfin : (T k).2.2.2 = false) (hn : narrow (ty0 k) v = v) (hfit : fits (ty0 k) v = true) (hdg : decode cc pc = .ok (.putfield index, 3))
    (kk : ∀ (H1 : Heap) (locs1 : List Loc), wD G s M0 M1 sz H1 locs1 → W p l e R s m args below meth c H1 locs1 cells slots Q (F0 m (pc + 3) ls rest)) : W p l e R s m args below meth c H locs cells slots Q (F0 m pc ls (v :: va_rf x :: rest)) := by
  obtain ⟨a, fs, rfl, ha, hkl, hBa, rfl⟩ := pF.spec hg
  obtain ⟨hx, hb, hml, hown, hts, hlo, hE, hBs⟩ := hC
  have hap := va_apart (own := own) hts hin ty0 hty hnm hE.1 hc
  obtain ⟨r, h1, cell, q1, q2, q3, q4⟩ := hw.1 a _ ha
  have hr : r = (C, T, N) := Option.some.inj (h1.symm.trans hc)
  subst hr
  obtain ⟨hS, hfc, kC, hkC, hkind⟩ := hE.1.1 ci _ hc
  obtain ⟨cf, kf, fi, f, hi, hsl⟩ := hS k hk
  have hlay := hts _ (hin _ (u_in_lay hk))
  unfold u_lay at hlay
  rw [if_neg (by rw [hfin]; decide)] at hlay
  have hst := (u_facts hfc hkC (u_lays hts hin hk) hi).1
  have h6 := u_store hfc hkC hkind hlay hi (hty k hk) hn hfit
  refine W.putK hx hb (f := f) ⟨hown, hts _ hlink, ⟨_, _, _, hsame _ hi⟩, hst⟩ (by rw [q2]; exact h6) q1 (q3.2.2 hBa) (by rw [hsl]; exact k2_hasslot (q4 k hkl hk)) rfl rfl hdg fun H' e1 e2 e3 => ?_
  rw [hsl] at e1 ⊢
  refine kk H' _ (hw.put ha hBa (e1 := .inl (ci, fs.set k v)) ⟨_, hc, _, e1, q2, q3, fun j hj hjN => ?_⟩ e2 e3 rfl)
  dsimp only at hj ⊢
  rw [List.length_set] at hj
  by_cases hjk : j = k
  · subst hjk
    rw [Cell.slots_setSlot_self _ (k2_hasslot (q4 j hkl hk))]
    simp [List.getD_eq_getElem?_getD, List.getElem?_set_self hkl]
  · rw [slot_ne _ _ (hap k j hk hjN (fun h => hjk h.symm)), q4 j hj hjN]
    simp [List.getD_eq_getElem?_getD, List.getElem?_set_ne (fun h => hjk h.symm)]
/-- a constructor's store into a final field -/
theorem m_putF (hC : Cx G p s m args meth c cc nL own Ts) (hw : wD G s M0 M sz H locs) {M1 : Mem} {ci k N index : Nat} {C ref : String} {T : u_T} {v : Value} (hg : pF G.2.2.1 M x ci k v = some M1)
    (hin : ∀ w ∈ u_ws C T N, w ∈ Ts) (ty0 : Nat → FieldType) (hty : ∀ k, k < N → parseFieldDescriptor (T k).2.2.1 = some (ty0 k)) (hnm : ∀ a, a < N → ∀ b, b < N → a ≠ b → (T a).2.1 ≠ (T b).2.1) (hc : vwCl[ci]? = some (C, T, N)) (hk : k < N) (hlink : Cond.fieldLink own index ref (T k).2.1 (T k).2.2.1 ∈ Ts) (hsame : ∀ x, s.fieldFound? (T k).1 (T k).2.1 (T k).2.2.1 = some x → s.fieldFound? ref (T k).2.1 (T k).2.2.1 = some x)
    (hfin : (T k).2.2.2 = true) (hin2 : meth.name = "<init>") (hdecl : (T k).1 = own) (hn : narrow (ty0 k) v = v) (hfit : fits (ty0 k) v = true) (hdg : decode cc pc = .ok (.putfield index, 3))
    (kk : ∀ (H1 : Heap) (locs1 : List Loc), wD G s M0 M1 sz H1 locs1 → W p l e R s m args below meth c H1 locs1 cells slots Q (F0 m (pc + 3) ls rest)) : W p l e R s m args below meth c H locs cells slots Q (F0 m pc ls (v :: va_rf x :: rest)) := by
  obtain ⟨a, fs, rfl, ha, hkl, hBa, rfl⟩ := pF.spec hg
  obtain ⟨hx, hb, hml, hown, hts, hlo, hE, hBs⟩ := hC
  have hap := va_apart (own := own) hts hin ty0 hty hnm hE.1 hc
  obtain ⟨r, h1, cell, q1, q2, q3, q4⟩ := hw.1 a _ ha
  have hr : r = (C, T, N) := Option.some.inj (h1.symm.trans hc)
  subst hr
  obtain ⟨hS, hfc, kC, hkC, hkind⟩ := hE.1.1 ci _ hc
  obtain ⟨cf, kf, fi, f, hi, hsl⟩ := hS k hk
  have hlay := hts _ (hin _ (u_in_lay hk))
  unfold u_lay at hlay
  rw [if_pos hfin] at hlay
  have hst := (u_facts hfc hkC (u_lays hts hin hk) hi).1
  have hcf : m.cls = cf := by
    obtain ⟨_, _, c', _, _, _, -, -, hf', -, -, -, hown2, -⟩ := Cond.laysFinal_spec hlay
    have e1 : c' = cf := by have := hi.symm.trans hf'; simp at this; exact this.1.symm
    rw [hdecl] at hown2
    rw [← e1]; exact Option.some.inj (hown.symm.trans hown2)
  have h6 := u_fits hfc hkC hkind (Or.inr hlay) hi (hty k hk) hn hfit
  refine W.putFinK hx hb hown (hts _ hlink) (hsame _ hi) hst hcf hin2 (by rw [q2]; exact h6) q1 (q3.2.2 hBa) (by rw [hsl]; exact k2_hasslot (q4 k hkl hk)) rfl rfl hdg fun H' e1 e2 e3 => ?_
  rw [hsl] at e1 ⊢
  refine kk H' _ (hw.put ha hBa (e1 := .inl (ci, fs.set k v)) ⟨_, hc, _, e1, q2, q3, fun j hj hjN => ?_⟩ e2 e3 rfl)
  dsimp only at hj ⊢
  rw [List.length_set] at hj
  by_cases hjk : j = k
  · subst hjk
    rw [Cell.slots_setSlot_self _ (k2_hasslot (q4 j hkl hk))]
    simp [List.getD_eq_getElem?_getD, List.getElem?_set_self hkl]
  · rw [slot_ne _ _ (hap k j hk hjN (fun h => hjk h.symm)), q4 j hj hjN]
    simp [List.getD_eq_getElem?_getD, List.getElem?_set_ne (fun h => hjk h.symm)]
/-! arrays -/
theorem kTy (hE : EV G s s.heap) {t : Nat} {ty : FieldType} (h : tyT[t]? = some ty) : ArrOfT s (G.2.1 t) ty ∧ va_RA s (G.2.1 t) ty := by
  refine hE.1.2 t (G.2.1 t, ty) ?_
  unfold tyT at h
  unfold kTys
  match t, h with
  | 0, h => cases h; rfl
  | 1, h => cases h; rfl
  | 2, h => cases h; rfl
  | 3, h => cases h; rfl
  | t + 4, h => simp at h
theorem m_alen (hC : Cx G p s m args meth c cc nL own Ts) (hw : wD G s M0 M sz H locs) {v : Int32} (hg : aL M x = some v) (hdg : decode cc pc = .ok (.arraylength, 1))
    (kk : W p l e R s m args below meth c H locs cells slots Q (F0 m (pc + 1) ls (.int v :: rest))) : W p l e R s m args below meth c H locs cells slots Q (F0 m pc ls (va_rf x :: rest)) := by
  obtain ⟨hx, hb, hml, hown, hts, hlo, hE, hBs⟩ := hC
  obtain ⟨a, rfl, ⟨t, n, f, ha, h4, rfl⟩ | ⟨t, n, f, ha, h4, rfl⟩⟩ := aL.spec hg
  · obtain ⟨ty, hty⟩ : ∃ ty, tyT[t]? = some ty := ⟨_, List.getElem?_eq_getElem (by simpa [tyT] using h4)⟩
    obtain ⟨⟨ce, g1, g2, g3, g4, g5, g6⟩, -⟩ := hw.1 a _ ha
    exact W.alen (n := Int32.ofNat n) hx hb g1 (wArr.is (z := fun _ => .null) (kTy hE hty).1 g2 g3) (congrArg (fun k : Nat => k.toInt32) g5) rfl rfl hdg kk
  · obtain ⟨ty, hty⟩ : ∃ ty, tyT[t]? = some ty := ⟨_, List.getElem?_eq_getElem (by simpa [tyT] using h4)⟩
    obtain ⟨⟨ce, g1, g2, g3, g4, g5, g6⟩, -⟩ := hw.1 a _ ha
    exact W.alen (n := Int32.ofNat n) hx hb g1 (wArr.is (z := fun _ => .null) (kTy hE hty).1 g2 g3) (congrArg (fun k : Nat => k.toInt32) g5) rfl rfl hdg kk
theorem m_iald (hC : Cx G p s m args meth c cc nL own Ts) (hw : wD G s M0 M sz H locs) {i v : Int32} (hg : aI M 0 x i = some v) (hdg : decode cc pc = .ok (.iaload, 1))
    (kk : W p l e R s m args below meth c H locs cells slots Q (F0 m (pc + 1) ls (.int v :: rest))) : W p l e R s m args below meth c H locs cells slots Q (F0 m pc ls (.int i :: va_rf x :: rest)) := by
  obtain ⟨hx, hb, hml, hown, hts, hlo, hE, hBs⟩ := hC
  obtain ⟨a, n, f, rfl, ha, hin, rfl⟩ := aI.spec hg
  have hlt : i.toNatClampNeg < n := Nat.not_le.mp fun q => hin (Or.inr q)
  obtain ⟨⟨ce, g1, g2, g3, g4, g5, g6⟩, -⟩ := hw.1 a _ ha
  exact W.iald (v := .int (f i.toNatClampNeg)) hx hb g1 (wArr.is (z := fun _ => .null) (kTy hE rfl).1 g2 g3) g4 (by rw [g5]; exact hin) (g6 _ hlt) rfl rfl hdg kk
theorem m_bald (hC : Cx G p s m args meth c cc nL own Ts) (hw : wD G s M0 M sz H locs) {i v : Int32} (hg : aI M 1 x i = some v) (hdg : decode cc pc = .ok (.baload, 1))
    (kk : W p l e R s m args below meth c H locs cells slots Q (F0 m (pc + 1) ls (.int v :: rest))) : W p l e R s m args below meth c H locs cells slots Q (F0 m pc ls (.int i :: va_rf x :: rest)) := by
  obtain ⟨hx, hb, hml, hown, hts, hlo, hE, hBs⟩ := hC
  obtain ⟨a, n, f, rfl, ha, hin, rfl⟩ := aI.spec hg
  have hlt : i.toNatClampNeg < n := Nat.not_le.mp fun q => hin (Or.inr q)
  obtain ⟨⟨ce, g1, g2, g3, g4, g5, g6⟩, -⟩ := hw.1 a _ ha
  exact W.bald (v := .int (f i.toNatClampNeg)) hx hb g1 (wArr.is (z := fun _ => .null) (kTy hE rfl).1 g2 g3) g4 (by rw [g5]; exact hin) (g6 _ hlt) rfl rfl hdg kk
theorem m_zald (hC : Cx G p s m args meth c cc nL own Ts) (hw : wD G s M0 M sz H locs) {i v : Int32} (hg : aI M 2 x i = some v) (hdg : decode cc pc = .ok (.baload, 1))
    (kk : W p l e R s m args below meth c H locs cells slots Q (F0 m (pc + 1) ls (.int v :: rest))) : W p l e R s m args below meth c H locs cells slots Q (F0 m pc ls (.int i :: va_rf x :: rest)) := by
  obtain ⟨hx, hb, hml, hown, hts, hlo, hE, hBs⟩ := hC
  obtain ⟨a, n, f, rfl, ha, hin, rfl⟩ := aI.spec hg
  have hlt : i.toNatClampNeg < n := Nat.not_le.mp fun q => hin (Or.inr q)
  obtain ⟨⟨ce, g1, g2, g3, g4, g5, g6⟩, -⟩ := hw.1 a _ ha
  exact W.zald (v := .int (f i.toNatClampNeg)) hx hb g1 (wArr.is (z := fun _ => .null) (kTy hE rfl).1 g2 g3) g4 (by rw [g5]; exact hin) (g6 _ hlt) rfl rfl hdg kk
theorem m_aald (hC : Cx G p s m args meth c cc nL own Ts) (hw : wD G s M0 M sz H locs) {i : Int32} {v : Option Nat} (hg : aR M x i = some v) (hdg : decode cc pc = .ok (.aaload, 1))
    (kk : W p l e R s m args below meth c H locs cells slots Q (F0 m (pc + 1) ls (va_rf v :: rest))) : W p l e R s m args below meth c H locs cells slots Q (F0 m pc ls (.int i :: va_rf x :: rest)) := by
  obtain ⟨hx, hb, hml, hown, hts, hlo, hE, hBs⟩ := hC
  obtain ⟨a, n, f, rfl, ha, hin, rfl⟩ := aR.spec hg
  have hlt : i.toNatClampNeg < n := Nat.not_le.mp fun q => hin (Or.inr q)
  obtain ⟨⟨ce, g1, g2, g3, g4, g5, g6⟩, -⟩ := hw.1 a _ ha
  exact W.aald (v := va_rf (f i.toNatClampNeg)) (ty := .object "java/lang/Object") hx hb g1 (wArr.is (z := fun _ => .null) (kTy hE rfl).1 g2 g3) rfl g4 (by rw [g5]; exact hin) (g6 _ hlt) rfl rfl hdg kk
theorem upd_store (f : Nat → Int32) (k : Nat) (v : Int32) : updV (fun j => Value.int (f j)) k (.int v) = fun j => Value.int (upd f k v j) := by
  funext q
  by_cases hq : q = k
  · subst hq; simp [updV, upd]
  · simp [updV, upd, hq]
theorem upR_store (f : Nat → Option Nat) (k : Nat) (v : Option Nat) : updV (fun j => va_rf (f j)) k (va_rf v) = fun j => va_rf (va_up f k v j) := by
  funext q
  by_cases hq : q = k
  · subst hq; simp [updV, va_up]
  · simp [updV, va_up, hq]
theorem m_iast (hC : Cx G p s m args meth c cc nL own Ts) (hw : wD G s M0 M sz H locs) {M1 : Mem} {i v : Int32} (hg : sI G.2.2.1 M 0 x i v = some M1) (hdg : decode cc pc = .ok (.iastore, 1))
    (kk : ∀ (H1 : Heap) (locs1 : List Loc), wD G s M0 M1 sz H1 locs1 → W p l e R s m args below meth c H1 locs1 cells slots Q (F0 m (pc + 1) ls rest)) : W p l e R s m args below meth c H locs cells slots Q (F0 m pc ls (.int v :: .int i :: va_rf x :: rest)) := by
  obtain ⟨hx, hb, hml, hown, hts, hlo, hE, hBs⟩ := hC
  obtain ⟨a, n, f, rfl, ha, hin, hBa, rfl⟩ := sI.spec hg
  refine W.iast hx hb ((hw.1 a _ ha).2 hBa) ((kTy hE rfl).1 n (fun j => .int (f j))) (fun q => by cases q) (by show ¬ (i < 0 ∨ (arrV _ _ _).slots.size ≤ _); rw [arrV_size]; exact hin) rfl rfl hdg fun H1 e1 z oq => ?_
  refine kk H1 _ (hw.put ha hBa (e1 := .inr (.inl (_, n, upd f i.toNatClampNeg v))) (m_at.arrI ?_) z oq rfl)
  show H1[a]? = some (arrV _ _ _)
  rw [e1, arrV_store, upd_store]
theorem m_bast (hC : Cx G p s m args meth c cc nL own Ts) (hw : wD G s M0 M sz H locs) {M1 : Mem} {i v : Int32} (hg : sI G.2.2.1 M 1 x i v = some M1) (hv : narrow .byte (.int v) = .int v) (hdg : decode cc pc = .ok (.bastore, 1))
    (kk : ∀ (H1 : Heap) (locs1 : List Loc), wD G s M0 M1 sz H1 locs1 → W p l e R s m args below meth c H1 locs1 cells slots Q (F0 m (pc + 1) ls rest)) : W p l e R s m args below meth c H locs cells slots Q (F0 m pc ls (.int v :: .int i :: va_rf x :: rest)) := by
  obtain ⟨hx, hb, hml, hown, hts, hlo, hE, hBs⟩ := hC
  obtain ⟨a, n, f, rfl, ha, hin, hBa, rfl⟩ := sI.spec hg
  refine W.bast hx hb ((hw.1 a _ ha).2 hBa) ((kTy hE rfl).1 n (fun j => .int (f j))) (fun q => by cases q) (by show ¬ (i < 0 ∨ (arrV _ _ _).slots.size ≤ _); rw [arrV_size]; exact hin) rfl rfl hdg fun H1 e1 z oq => ?_
  refine kk H1 _ (hw.put ha hBa (e1 := .inr (.inl (_, n, upd f i.toNatClampNeg v))) (m_at.arrI ?_) z oq rfl)
  show H1[a]? = some (arrV _ _ _)
  rw [e1, hv, arrV_store, upd_store]
theorem m_zast (hC : Cx G p s m args meth c cc nL own Ts) (hw : wD G s M0 M sz H locs) {M1 : Mem} {i v : Int32} (hg : sI G.2.2.1 M 2 x i v = some M1) (hv : narrow .boolean (.int v) = .int v) (hdg : decode cc pc = .ok (.bastore, 1))
    (kk : ∀ (H1 : Heap) (locs1 : List Loc), wD G s M0 M1 sz H1 locs1 → W p l e R s m args below meth c H1 locs1 cells slots Q (F0 m (pc + 1) ls rest)) : W p l e R s m args below meth c H locs cells slots Q (F0 m pc ls (.int v :: .int i :: va_rf x :: rest)) := by
  obtain ⟨hx, hb, hml, hown, hts, hlo, hE, hBs⟩ := hC
  obtain ⟨a, n, f, rfl, ha, hin, hBa, rfl⟩ := sI.spec hg
  refine W.zast hx hb ((hw.1 a _ ha).2 hBa) ((kTy hE rfl).1 n (fun j => .int (f j))) (fun q => by cases q) (by show ¬ (i < 0 ∨ (arrV _ _ _).slots.size ≤ _); rw [arrV_size]; exact hin) rfl rfl hdg fun H1 e1 z oq => ?_
  refine kk H1 _ (hw.put ha hBa (e1 := .inr (.inl (_, n, upd f i.toNatClampNeg v))) (m_at.arrI ?_) z oq rfl)
  show H1[a]? = some (arrV _ _ _)
  rw [e1, hv, arrV_store, upd_store]
/-- an element store: the element is one of our objects, or null -/
theorem m_aastN (hC : Cx G p s m args meth c cc nL own Ts) (hw : wD G s M0 M sz H locs) {M1 : Mem} {i : Int32} (hg : sR G.2.2.1 M x i none = some M1) (hdg : decode cc pc = .ok (.aastore, 1))
    (kk : ∀ (H1 : Heap) (locs1 : List Loc), wD G s M0 M1 sz H1 locs1 → W p l e R s m args below meth c H1 locs1 cells slots Q (F0 m (pc + 1) ls rest)) : W p l e R s m args below meth c H locs cells slots Q (F0 m pc ls (.null :: .int i :: va_rf x :: rest)) := by
  obtain ⟨hx, hb, hml, hown, hts, hlo, hE, hBs⟩ := hC
  obtain ⟨a, n, f, rfl, ha, hin, hBa, rfl⟩ := sR.spec hg
  intro T hT X
  have hcell : H[a]? = some (arrV (G.2.1 3) n (fun j => va_rf (f j))) := (hw.1 a _ ha).2 hBa
  have hlt : a < T.heap.size := by rw [hT]; exact hw.1.lt ha
  obtain ⟨X', st⟩ := va_aastN0 X hx (by rw [hT]; exact hcell) ((kTy hE (t := 3) rfl).1 n (fun j => va_rf (f j))) (fun q => by cases q) (by rw [arrV_size]; exact hin) (g := F0 m pc ls (.null :: .int i :: va_rf (some a) :: rest)) rfl rfl (by rw [hb]; exact hdg)
  generalize hc2 : (arrV (G.2.1 3) n (fun j => va_rf (f j))).setSlot i.toNatClampNeg .null = cell2 at X' st
  have e2 : cell2 = arrV (G.2.1 3) n (fun j => va_rf (va_up f i.toNatClampNeg none j)) := by
    rw [← hc2, arrV_store]
    exact congrArg (arrV (G.2.1 3) n) (upR_store f i.toNatClampNeg none)
  have e1 : (T.setCell a cell2).heap[a]? = some (arrV (G.2.1 3) n (fun j => va_rf (va_up f i.toNatClampNeg none j))) := by
    rw [heapAt_setCell_self _ hlt, e2]
  have w2 : wD G s M0 (va_up M a (some (.inr (.inr (3, n, va_up f i.toNatClampNeg none))))) sz (T.setCell a cell2).heap (locs ++ [⟨a, i.toNatClampNeg⟩]) :=
    hw.put (e1 := .inr (.inr (3, n, va_up f i.toNatClampNeg none))) ha hBa (m_at.arrR e1) (by rw [size_setCell, hT]) (fun q hq => by rw [heapAt_setCell_ne _ (Ne.symm hq), hT]) rfl
  obtain ⟨t, a1, b1⟩ := kk _ _ w2 _ rfl X'
  exact ⟨t, st t a1, b1⟩
/-- the shape of a blank object -/
theorem wD.new {M1 : Mem} {e1 : Cel} {H1 : Heap} (hw : wD G s M0 M sz H locs) (he : m_at G sz e1 H1) (z : H1.size = H.size + 1) (oq : ∀ q : Nat, q < H.size → H1[q]? = H[q]?) (hM : M1 = va_up M sz (some e1)) : wD G s M0 M1 (sz + 1) H1 locs := by
  obtain ⟨h1, h2, h3, h4⟩ := hw
  subst h2 hM
  refine ⟨h1.set he (fun q hq hl => oq q hl), z, ⟨Nat.le_trans h3.1 (by omega), fun q hq hn => (oq q (Nat.lt_of_lt_of_le hq h3.1)).trans (h3.2.1 q hq hn), h3.2.2⟩, fun q hq hn => ?_⟩
  by_cases hqa : q = H.size
  · rw [hqa]
    exact Or.inr h3.1
  · exact h4 q hq (by unfold va_up at hn; rwa [if_neg hqa] at hn)
theorem m_new (hC : Cx G p s m args meth c cc nL own Ts) (hw : wD G s M0 M sz H locs) {C : String} {T : u_T} {N ci index : Nat} (hin : ∀ w ∈ u_ws C T N, w ∈ Ts) (ty : Nat → FieldType) (hty : ∀ k, k < N → parseFieldDescriptor (T k).2.2.1 = some (ty k)) (hcl : Cond.classLink own index C ∈ Ts) (hinst : Cond.instantiable C N ∈ Ts) (hini : Cond.initialized C ∈ Ts) (hc : vwCl[ci]? = some (C, T, N)) {fs : List Value} (hfs : ∀ j, j < N → defaultValue (ty j) = vp_V fs j) (hcells : cells + 1 ≤ R.cells) (hslots : slots + N ≤ R.slots) (hdg : decode cc pc = .ok (.new index, 3))
    (kk : ∀ (H1 : Heap), wD G s M0 (va_up M sz (some (.inl (ci, fs)))) (sz + 1) H1 locs → W p l e R s m args below meth c H1 locs (cells + 1) (slots + N) Q (F0 m (pc + 3) ls (va_rf (some sz) :: rest))) : W p l e R s m args below meth c H locs cells slots Q (F0 m pc ls rest) := by
  obtain ⟨hx, hb, hml, hown, hts, hlo, hE, hBs⟩ := hC
  have hKn := hE.1.1 ci _ hc
  have hz := hw.2.1
  refine W.newcK hx hb hown (hts _ hcl) (hts _ hinst) (hts _ hini) rfl hdg hcells hslots hKn.2.1 rfl fun H1 kC hkC e1 z1 o1 => ?_
  rw [hz]
  obtain ⟨cell, g1, g2, g3, g4⟩ := (u_born ty hts hin hKn hkC e1 hty).to hfs
  refine kk H1 (hw.new (e1 := .inl (ci, fs)) ⟨_, hc, cell, ?_, g2, ⟨by rw [g3]; rfl, (by rw [g3]; exact fun q => by cases q), fun _ => g3⟩, fun k _ hk => g4 k hk⟩ z1 o1 rfl)
  rw [← hz]
  exact g1
theorem m_newI (hC : Cx G p s m args meth c cc nL own Ts) (hw : wD G s M0 M sz H locs) {atype : ArrayType} {t : Nat} {n : Int32} (hta : tyT[t]? = some (newarray.typeOf atype)) (hta2 : ∀ cA N, arrV cA N (fun _ => defaultValue (newarray.typeOf atype)) = arrV cA N (fun _ => Value.int 0)) (hta3 : componentBytes (newarray.typeOf atype) ≤ 4) (harr : Cond.arrayClass (newarray.typeOf atype) ∈ Ts) (hnm : ∀ cA, s.vm.findClass ("[" ++ (newarray.typeOf atype).toString) = some cA → cA = G.2.1 t) (hn : ¬ n < 0) {cap : Nat} (hbd : n.toNatClampNeg ≤ cap) (hcap : cap ≤ 100000000) (hcells : cells + 1 ≤ R.cells) (hslots : slots + cap ≤ R.slots) (hdg : decode cc pc = .ok (.newarray atype, 2))
    (kk : ∀ (H1 : Heap), wD G s M0 (va_up M sz (some (.inr (.inl (t, n.toNatClampNeg, fun _ => 0))))) (sz + 1) H1 locs → W p l e R s m args below meth c H1 locs (cells + 1) (slots + cap) Q (F0 m (pc + 2) ls (va_rf (some sz) :: rest))) : W p l e R s m args below meth c H locs cells slots Q (F0 m pc ls (.int n :: rest)) := by
  obtain ⟨hx, hb, hml, hown, hts, hlo, hE, hBs⟩ := hC
  have hz := hw.2.1
  refine va_newaK hx hb (hts _ harr) rfl hdg rfl hn rfl (Nat.le_trans (Nat.mul_le_mul_right _ (Nat.le_trans hbd hcap)) (Nat.le_trans (Nat.mul_le_mul_left _ hta3) (Nat.le_of_ble_eq_true rfl))) hcells (Nat.le_trans (Nat.add_le_add_left hbd slots) hslots) hz fun H1 cA e1 z1 o1 hAr hNm => ?_
  refine W.widen (Nat.le_refl _) (Nat.add_le_add_left hbd slots) ?_
  refine kk H1 (hw.new (e1 := .inr (.inl (t, n.toNatClampNeg, fun _ => 0))) (m_at.arrI ?_) (by rw [z1, hz]) (by rw [hz]; exact o1) rfl)
  show H1[sz]? = some (arrV _ _ _)
  rw [e1, hnm cA hNm, hta2]
end MROWS
/-! CONTRACTS: a method, at given arguments, over a given world, comes to a given answer and a given world -/
def Pre (G : wG) (av : List Value) (M : Mem) (sz : Nat) : Array Value → State → Prop := va_Pc av (fun U => U.heap.size = sz ∧ Hd G M U.heap ∧ EV G U U.heap ∧ G.2.2.1 ≤ sz)
def Post (G : wG) (M : Mem) (sz : Nat) (M1 : Mem) (sz1 : Nat) (_ : Unit) (t : State) : Prop := t.heap.size = sz1 ∧ Hd G M1 t.heap ∧ ∀ a, G.2.2.1 ≤ a → M1 a ≠ none → As G M sz a
def CtrI (G : wG) (l : Launch) (y : MethodName) (ws : List Cond) (rm : Room) (av : List Value) (M : Mem) (sz : Nat) (r : Int32) (M1 : Mem) (sz1 : Nat) : Prop := Met l y ws rm (Pre G av M sz) (va_Qi (fun x (_ : Unit) => x = r) (Post G M sz M1 sz1) (As G M sz)) rm.cells rm.slots (As G M sz)
def CtrL (G : wG) (l : Launch) (y : MethodName) (ws : List Cond) (rm : Room) (av : List Value) (M : Mem) (sz : Nat) (r : Int64) (M1 : Mem) (sz1 : Nat) : Prop := Met l y ws rm (Pre G av M sz) (va_Ql (fun x (_ : Unit) => x = r) (Post G M sz M1 sz1) (As G M sz)) rm.cells rm.slots (As G M sz)
def CtrV (G : wG) (l : Launch) (y : MethodName) (ws : List Cond) (rm : Room) (av : List Value) (M : Mem) (sz : Nat) (M1 : Mem) (sz1 : Nat) : Prop := Met l y ws rm (Pre G av M sz) (va_Qv (fun (_ : Unit) => True) (Post G M sz M1 sz1) (As G M sz)) rm.cells rm.slots (As G M sz)
def CtrQ (G : wG) (l : Launch) (y : MethodName) (ws : List Cond) (rm : Room) (av : List Value) (M : Mem) (sz : Nat) (r : Option Nat) (M1 : Mem) (sz1 : Nat) : Prop := Met l y ws rm (Pre G av M sz) (va_Qq (fun x (_ : Unit) => x = r) (Post G M sz M1 sz1) (As G M sz)) rm.cells rm.slots (As G M sz)
theorem Pre.blind {G : wG} {av : List Value} {M : Mem} {sz : Nat} : FrameBlind (Pre G av M sz) := fun a U g mk q => by
  obtain ⟨h1, h2, h3, h4, h5⟩ := q
  exact ⟨h1, h2, h3, h4.blind, h5⟩
section MCALL
variable {p : Program} {l : Launch} {e : Env} {R : Room} {s : State} {m : MethodId} {args : Array Value} {below : List Frame} {meth : Method} {c : Code} {H : Heap} {locs : List Loc} {cells slots : Nat} {Q : State → Prop}
variable {cc : ByteArray} {pc : Nat} {ls : Array Slot} {rest : List Value} {G : wG} {nL : Nat} {own : String} {Ts : List Cond} {M0 M M1 : Mem} {sz sz1 : Nat} {x : Option Nat}
theorem wD.env (hC : Cx G p s m args meth c cc nL own Ts) (hw : wD G s M0 M sz H locs) : ∀ U : State, U.heap = H → s.WarmedH U.vm → U.heap.size = sz ∧ Hd G M U.heap ∧ EV G U U.heap ∧ G.2.2.1 ≤ sz := by
  intro U hU hW
  obtain ⟨hx, hb, hml, hown, hts, hlo, hE, hBs⟩ := hC
  obtain ⟨h1, h2, h3, h4⟩ := hw
  refine ⟨by rw [hU]; exact h2, by rw [hU]; exact h1, ?_, Nat.le_trans hBs (by rw [← h2]; exact h3.1)⟩
  rw [hU]
  exact (hE.warm hW).kept (fun a ha hlt => h3.2.1 a ha (fun h => Nat.not_lt.mpr (h.ge hBs) hlt))
theorem wD.sub (hC : Cx G p s m args meth c cc nL own Ts) (hw : wD G s M0 M sz H locs) : ∀ q, As G M sz q → As G M0 s.heap.size q := fun q h => by
  rcases h with ⟨h1, h2⟩ | h
  · exact hw.2.2.2 q h1 h2
  · exact Or.inr (Nat.le_trans hw.2.2.1.1 (by rw [hw.2.1]; exact h))
theorem wD.back (hw : wD G s M0 M sz H locs) (hsub : ∀ q, As G M sz q → As G M0 s.heap.size q) {t : State} {H1 : Heap} {locs1 : List Loc} (ht : t.heap = H1) (hp : Post G M sz M1 sz1 () t) (hS : va_S (As G M0 s.heap.size) s.heap H1 locs1) : wD G s M0 M1 sz1 H1 locs1 := by
  subst ht
  exact ⟨hp.2.1, hp.1, hS, fun a ha hn => hsub a (hp.2.2 a ha hn)⟩
theorem isO.spec {M : Mem} {x : Option Nat} {ci : Nat} (h : isO M x ci = true) : ∃ a fs, x = some a ∧ M a = some (.inl (ci, fs)) := by
  unfold isO at h
  cases x with
  | none => cases h
  | some a =>
    dsimp only at h
    split at h
    · rename_i c fs hm
      have hc : c = ci := by simpa using h
      subst hc
      exact ⟨a, fs, rfl, hm⟩
    · cases h
theorem m_recv (hC : Cx G p s m args meth c cc nL own Ts) (hw : wD G s M0 M sz H locs) {a ci N : Nat} {C : String} {T : u_T} {fs : List Value} (ha : M a = some (.inl (ci, fs))) (hci : vwCl[ci]? = some (C, T, N)) : ∃ cell : Cell, H[a]? = some cell ∧ cell.vm.isStatics = false ∧ s.vm.findClass C = some cell.cls := by
  obtain ⟨hx, hb, hml, hown, hts, hlo, hE, hBs⟩ := hC
  obtain ⟨r, h1, cell, g1, g2, g3, -⟩ := hw.1 a _ ha
  exact ⟨cell, g1, g3.1, by rw [g2]; exact (hE.1.1 ci _ hci).2.1⟩
theorem Cx.fix (hC : Cx G p s m args meth c cc nL own Ts) : CallFix p m c cc nL s args Ts own := ⟨hC.1, hC.2.1, hC.2.2.1, hC.2.2.2.1, hC.2.2.2.2.1⟩
theorem Cx.env (hC : Cx G p s m args meth c cc nL own Ts) : EV G s s.heap := hC.2.2.2.2.2.2.1
theorem Cx.tab (hC : Cx G p s m args meth c cc nL own Ts) : ∀ w ∈ Ts, w.before args s = true := hC.2.2.2.2.1
theorem m_runV (hC : Cx G p s m args meth c cc nL own Ts) (hw : wD G s M0 M sz H locs) {y : MethodName} {bytes : ByteArray} {maxL n index ci N : Nat} {ret : Option FieldType} {ws ws' : List Cond} {rm : Room} {Qc : Array Value → State → Outcome → State → Prop} {free : Addr → Prop} {C : String} {T : u_T} {av st0 : List Value}
    (hM : Met l y ws rm (Pre G (va_rf x :: av) M sz) Qc rm.cells rm.slots free) (hT : GoodIn Ts (wsV own index C y ws)) (hws : ws = Cond.code y bytes maxL ret :: ws') (hd : y.cls = C ∧ y.cls ≠ "java/lang/invoke/MethodHandle" ∧ y.cls ≠ "java/lang/invoke/VarHandle" ∧ (parseMethodDescriptor y.desc).map (fun d => d.parameters.length) = some n) (hR : rm.frames + 1 ≤ R.frames ∧ 8 + (maxL + 11) + rm.locals ≤ R.locals)
    (ho : isO M x ci = true) (hci : vwCl[ci]? = some (C, T, N)) (hn : av.length = n) (hsize : ls.size = nL) (hst : st0 = av.reverse ++ va_rf x :: rest) (hcat : (rest.map fun v => v.category).sum ≤ 8) (hdg : decode cc pc = .ok (.invokevirtual index, 3)) (hf : cells + rm.cells ≤ R.cells ∧ slots + rm.slots ≤ R.slots) :
    va_Run p l e R s m args below meth c H locs cells slots rm.cells rm.slots (F0 m pc ls st0) rest (Qc (va_rf x :: av).toArray) free := by
  obtain ⟨a, fs, rfl, ha⟩ := isO.spec ho
  exact va_runV (As := av) (rest := rest) hC.fix hM (cwV n hC.tab hT hws rfl rfl hd hR) ⟨Pre.blind, m_recv hC hw ha hci, fun U hU hW => ⟨rfl, hw.env hC U hU hW⟩⟩ rfl hn hsize hst (lv_room hcat) hdg hf
theorem m_runS (hC : Cx G p s m args meth c cc nL own Ts) (hw : wD G s M0 M sz H locs) {y : MethodName} {bytes : ByteArray} {maxL n index : Nat} {ret : Option FieldType} {ws ws' : List Cond} {rm : Room} {Qc : Array Value → State → Outcome → State → Prop} {free : Addr → Prop} {av st0 : List Value}
    (hM : Met l y ws rm (Pre G av M sz) Qc rm.cells rm.slots free) (hT : GoodIn Ts (va_wsS own index y ws)) (hws : ws = Cond.code y bytes maxL ret :: ws') (hd : y.cls ≠ "java/lang/invoke/MethodHandle" ∧ y.cls ≠ "java/lang/invoke/VarHandle" ∧ (parseMethodDescriptor y.desc).map (fun d => d.parameters.length) = some n) (hR : rm.frames + 1 ≤ R.frames ∧ 8 + (maxL + 11) + rm.locals ≤ R.locals)
    (hn : av.length = n) (hsize : ls.size = nL) (hst : st0 = av.reverse ++ rest) (hcat : (rest.map fun v => v.category).sum ≤ 8) (hdg : decode cc pc = .ok (.invokestatic index, 3)) (hf : cells + rm.cells ≤ R.cells ∧ slots + rm.slots ≤ R.slots) :
    va_Run p l e R s m args below meth c H locs cells slots rm.cells rm.slots (F0 m pc ls st0) rest (Qc av.toArray) free := by
  have hG : GoodIn Ts ws := fun w h => hT w (List.mem_append_right _ h)
  have hl : Cond.methodLink own index y ∈ Ts := (hT _ (List.mem_append_left _ (List.mem_of_getElem? (i := 0) rfl))).1
  have hstt : Cond.static y ∈ Ts := (hT _ (List.mem_append_left _ (List.mem_of_getElem? (i := 1) rfl))).1
  have hini : Cond.initialized y.cls ∈ Ts := (hT _ (List.mem_append_left _ (List.mem_of_getElem? (i := 2) rfl))).1
  have hcm : Cond.code y bytes maxL ret ∈ ws := by rw [hws]; exact List.mem_cons_self
  exact va_runS (As := av) (rest := rest) hC.fix hM ⟨⟨rfl, rfl, hR.1, hR.2, pay_in hC.tab hG, hcm, hC.tab _ (hG _ hcm).1, hC.tab _ hini, ⟨hd.1, hd.2.1⟩, fun sig h => by
    have h2 := hd.2.2
    rw [h] at h2
    exact (Option.some.inj h2).symm, hC.tab _ hl⟩, hC.tab _ hstt⟩ ⟨Pre.blind, fun U hU hW => ⟨rfl, hw.env hC U hU hW⟩⟩ rfl hn hsize hst (lv_room hcat) hdg hf
theorem m_runSN (hC : Cx G p s m args meth c cc nL own Ts) (hw : wD G s M0 M sz H locs) {y : MethodName} {bytes : ByteArray} {maxL n index : Nat} {ret : Option FieldType} {ws ws' : List Cond} {rm : Room} {Qc : Array Value → State → Outcome → State → Prop} {free : Addr → Prop} {host : String} {av st0 : List Value}
    (hM : Met l y ws rm (Pre G av M sz) Qc rm.cells rm.slots free) (hG : GoodIn Ts ws) (hl : (own, index, y, host) ∈ evN) (hstt : Cond.static y ∈ Ts) (hini : Cond.initialized y.cls ∈ Ts) (hws : ws = Cond.code y bytes maxL ret :: ws') (hd : y.cls ≠ "java/lang/invoke/MethodHandle" ∧ y.cls ≠ "java/lang/invoke/VarHandle" ∧ (parseMethodDescriptor y.desc).map (fun d => d.parameters.length) = some n) (hR : rm.frames + 1 ≤ R.frames ∧ 8 + (maxL + 11) + rm.locals ≤ R.locals)
    (hn : av.length = n) (hsize : ls.size = nL) (hst : st0 = av.reverse ++ rest) (hcat : (rest.map fun v => v.category).sum ≤ 8) (hdg : decode cc pc = .ok (.invokestatic index, 3)) (hf : cells + rm.cells ≤ R.cells ∧ slots + rm.slots ≤ R.slots) :
    va_Run p l e R s m args below meth c H locs cells slots rm.cells rm.slots (F0 m pc ls st0) rest (Qc av.toArray) free :=
  va_runSN (As := av) (rest := rest) hC.fix hM ⟨va_cnB n hC.tab hG hws rfl rfl (hC.env.2.1 _ hl) (hC.tab _ hini) hd hR, hC.tab _ hstt, trivial⟩ ⟨Pre.blind, fun U hU hW => ⟨rfl, hw.env hC U hU hW⟩⟩ rfl hn hsize hst (lv_room hcat) hdg hf
theorem m_runI (hC : Cx G p s m args meth c cc nL own Ts) (hw : wD G s M0 M sz H locs) {y : MethodName} {bytes : ByteArray} {maxL n index : Nat} {ws ws' : List Cond} {rm : Room} {Qc : Array Value → State → Outcome → State → Prop} {free : Addr → Prop} {av st0 : List Value}
    (hM : Met l y ws rm (Pre G (va_rf x :: av) M sz) Qc rm.cells rm.slots free) (hG : GoodIn Ts ws) (hl : Cond.methodLink own index y ∈ Ts) (hin : Cond.instanceMethod y ∈ Ts) (hini : Cond.initialized y.cls ∈ Ts) (hy1 : y.name = "<init>") (hws : ws = Cond.code y bytes maxL none :: ws') (hd : y.cls ≠ "java/lang/invoke/MethodHandle" ∧ y.cls ≠ "java/lang/invoke/VarHandle" ∧ (parseMethodDescriptor y.desc).map (fun d => d.parameters.length) = some n) (hR : rm.frames + 1 ≤ R.frames ∧ 8 + (maxL + 11) + rm.locals ≤ R.locals)
    {b : Nat} (hxb : x = some b) (hn : av.length = n) (hsize : ls.size = nL) (hst : st0 = av.reverse ++ va_rf x :: rest) (hcat : (rest.map fun v => v.category).sum ≤ 8) (hdg : decode cc pc = .ok (.invokespecial index, 3)) (hf : cells + rm.cells ≤ R.cells ∧ slots + rm.slots ≤ R.slots) :
    va_Run p l e R s m args below meth c H locs cells slots rm.cells rm.slots (F0 m pc ls st0) rest (Qc (va_rf x :: av).toArray) free := by
  subst hxb
  exact va_runI (As := av) (rest := rest) hC.fix hM (cwI n hC.tab hG hws rfl rfl (hC.tab _ hini) (hC.tab _ hl) (hC.tab _ hin) hy1 hd hR) ⟨Pre.blind, fun U hU hW => ⟨rfl, hw.env hC U hU hW⟩⟩ rfl hn hsize hst (lv_room hcat) hdg hf
theorem m_runIN (hC : Cx G p s m args meth c cc nL own Ts) (hw : wD G s M0 M sz H locs) {y : MethodName} {bytes : ByteArray} {maxL n index : Nat} {ws ws' : List Cond} {rm : Room} {Qc : Array Value → State → Outcome → State → Prop} {free : Addr → Prop} {host : String} {av st0 : List Value}
    (hM : Met l y ws rm (Pre G (va_rf x :: av) M sz) Qc rm.cells rm.slots free) (hG : GoodIn Ts ws) (hl : (own, index, y, host) ∈ evN) (hin : Cond.instanceMethod y ∈ Ts) (hini : Cond.initialized y.cls ∈ Ts) (hy1 : y.name = "<init>") (hws : ws = Cond.code y bytes maxL none :: ws') (hd : y.cls ≠ "java/lang/invoke/MethodHandle" ∧ y.cls ≠ "java/lang/invoke/VarHandle" ∧ (parseMethodDescriptor y.desc).map (fun d => d.parameters.length) = some n) (hR : rm.frames + 1 ≤ R.frames ∧ 8 + (maxL + 11) + rm.locals ≤ R.locals)
    {b : Nat} (hxb : x = some b) (hn : av.length = n) (hsize : ls.size = nL) (hst : st0 = av.reverse ++ va_rf x :: rest) (hcat : (rest.map fun v => v.category).sum ≤ 8) (hdg : decode cc pc = .ok (.invokespecial index, 3)) (hf : cells + rm.cells ≤ R.cells ∧ slots + rm.slots ≤ R.slots) :
    va_Run p l e R s m args below meth c H locs cells slots rm.cells rm.slots (F0 m pc ls st0) rest (Qc (va_rf x :: av).toArray) free := by
  subst hxb
  exact va_runIN (As := av) (rest := rest) hC.fix hM ⟨va_cnB n hC.tab hG hws rfl rfl (hC.env.2.1 _ hl) (hC.tab _ hini) hd hR, hy1, hC.tab _ hin⟩ ⟨Pre.blind, fun U hU hW => ⟨rfl, hw.env hC U hU hW⟩⟩ rfl hn hsize hst (lv_room hcat) hdg hf
theorem m_contI (hC : Cx G p s m args meth c cc nL own Ts) (hw : wD G s M0 M sz H locs) {mc ms : Nat} {st0 : List Value} {a : Array Value} {r : Int32} (hr : va_Run p l e R s m args below meth c H locs cells slots mc ms (F0 m pc ls st0) rest (va_Qi (fun x (_ : Unit) => x = r) (Post G M sz M1 sz1) (As G M sz) a) (As G M sz))
    (kk : ∀ (H1 : Heap) (locs1 : List Loc), wD G s M0 M1 sz1 H1 locs1 → W p l e R s m args below meth c H1 locs1 (cells + mc) (slots + ms) Q (F0 m (pc + 3) ls (.int r :: rest))) : W p l e R s m args below meth c H locs cells slots Q (F0 m pc ls st0) := by
  have hsub := hw.sub hC
  refine va_calli hr hw.2.2.1 (fun q _ h => hsub q h) hsub (fun r1 u t H1 locs1 ht hvm hp hB hz hk hS => ?_)
  subst hp
  exact kk H1 locs1 (hw.back hsub ht hB hS)
theorem m_contL (hC : Cx G p s m args meth c cc nL own Ts) (hw : wD G s M0 M sz H locs) {mc ms : Nat} {st0 : List Value} {a : Array Value} {r : Int64} (hr : va_Run p l e R s m args below meth c H locs cells slots mc ms (F0 m pc ls st0) rest (va_Ql (fun x (_ : Unit) => x = r) (Post G M sz M1 sz1) (As G M sz) a) (As G M sz))
    (kk : ∀ (H1 : Heap) (locs1 : List Loc), wD G s M0 M1 sz1 H1 locs1 → W p l e R s m args below meth c H1 locs1 (cells + mc) (slots + ms) Q (F0 m (pc + 3) ls (.long r :: rest))) : W p l e R s m args below meth c H locs cells slots Q (F0 m pc ls st0) := by
  have hsub := hw.sub hC
  refine va_calll hr hw.2.2.1 (fun q _ h => hsub q h) hsub (fun r1 u t H1 locs1 ht hvm hp hB hz hk hS => ?_)
  subst hp
  exact kk H1 locs1 (hw.back hsub ht hB hS)
theorem m_contV (hC : Cx G p s m args meth c cc nL own Ts) (hw : wD G s M0 M sz H locs) {mc ms : Nat} {st0 : List Value} {a : Array Value} (hr : va_Run p l e R s m args below meth c H locs cells slots mc ms (F0 m pc ls st0) rest (va_Qv (fun (_ : Unit) => True) (Post G M sz M1 sz1) (As G M sz) a) (As G M sz))
    (kk : ∀ (H1 : Heap) (locs1 : List Loc), wD G s M0 M1 sz1 H1 locs1 → W p l e R s m args below meth c H1 locs1 (cells + mc) (slots + ms) Q (F0 m (pc + 3) ls rest)) : W p l e R s m args below meth c H locs cells slots Q (F0 m pc ls st0) := by
  have hsub := hw.sub hC
  refine va_callv hr hw.2.2.1 (fun q _ h => hsub q h) hsub (fun u t H1 locs1 ht hvm hp hB hz hk hS => ?_)
  exact kk H1 locs1 (hw.back hsub ht hB hS)
theorem m_contQ (hC : Cx G p s m args meth c cc nL own Ts) (hw : wD G s M0 M sz H locs) {mc ms : Nat} {st0 : List Value} {a : Array Value} {r : Option Nat} (hr : va_Run p l e R s m args below meth c H locs cells slots mc ms (F0 m pc ls st0) rest (va_Qq (fun x (_ : Unit) => x = r) (Post G M sz M1 sz1) (As G M sz) a) (As G M sz))
    (kk : ∀ (H1 : Heap) (locs1 : List Loc), wD G s M0 M1 sz1 H1 locs1 → W p l e R s m args below meth c H1 locs1 (cells + mc) (slots + ms) Q (F0 m (pc + 3) ls (va_rf r :: rest))) : W p l e R s m args below meth c H locs cells slots Q (F0 m pc ls st0) := by
  have hsub := hw.sub hC
  refine va_callq hr hw.2.2.1 (fun q _ h => hsub q h) hsub (fun r1 u t H1 locs1 ht hvm hp hB hz hk hS => ?_)
  subst hp
  exact kk H1 locs1 (hw.back hsub ht hB hS)
theorem m_retI (hC : Cx G p s m args meth c cc nL own Ts) (hw : wD G s M0 M1 sz1 H locs) {r : Int32} {mc ms : Nat} (hr : meth.sig.returnType = some .int) (hc : cells ≤ mc ∧ slots ≤ ms) (hdg : decode cc pc = .ok (.ireturn, 1)) : W p l e R s m args below meth c H locs cells slots (MQ below (va_Qi (fun x (_ : Unit) => x = r) (Post G M0 s.heap.size M1 sz1) (As G M0 s.heap.size)) args s mc ms (As G M0 s.heap.size)) (F0 m pc ls [.int r]) := by
  refine W.widen hc.1 hc.2 ?_
  refine W.iret hC.1 hC.2.1 hr (fun t ht hW => ⟨⟨r, (), rfl, rfl, ?_⟩, hw.2.2.1.F ht⟩) hw.2.2.1.2.2 hdg hC.2.2.2.2.2.1
  exact ⟨by rw [ht]; exact hw.2.1, by rw [ht]; exact hw.1, hw.2.2.2⟩
theorem m_retZ (hC : Cx G p s m args meth c cc nL own Ts) (hw : wD G s M0 M1 sz1 H locs) {r : Int32} {mc ms : Nat} {ty : FieldType} (hr : meth.sig.returnType = some ty) (hn : narrow ty (.int r) = .int r) (hc : cells ≤ mc ∧ slots ≤ ms) (hdg : decode cc pc = .ok (.ireturn, 1)) : W p l e R s m args below meth c H locs cells slots (MQ below (va_Qi (fun x (_ : Unit) => x = r) (Post G M0 s.heap.size M1 sz1) (As G M0 s.heap.size)) args s mc ms (As G M0 s.heap.size)) (F0 m pc ls [.int r]) := by
  refine W.widen hc.1 hc.2 ?_
  refine W.zret hC.1 hC.2.1 hr hn (fun t ht hW => ⟨⟨r, (), rfl, rfl, ?_⟩, hw.2.2.1.F ht⟩) hw.2.2.1.2.2 hdg hC.2.2.2.2.2.1
  exact ⟨by rw [ht]; exact hw.2.1, by rw [ht]; exact hw.1, hw.2.2.2⟩
theorem m_retL (hC : Cx G p s m args meth c cc nL own Ts) (hw : wD G s M0 M1 sz1 H locs) {r : Int64} {mc ms : Nat} (hr : meth.sig.returnType = some .long) (hc : cells ≤ mc ∧ slots ≤ ms) (hdg : decode cc pc = .ok (.lreturn, 1)) : W p l e R s m args below meth c H locs cells slots (MQ below (va_Ql (fun x (_ : Unit) => x = r) (Post G M0 s.heap.size M1 sz1) (As G M0 s.heap.size)) args s mc ms (As G M0 s.heap.size)) (F0 m pc ls [.long r]) := by
  refine W.widen hc.1 hc.2 ?_
  refine W.lret hC.1 hC.2.1 hr (fun t ht hW => ⟨⟨r, (), rfl, rfl, ?_⟩, hw.2.2.1.F ht⟩) hw.2.2.1.2.2 hdg hC.2.2.2.2.2.1
  exact ⟨by rw [ht]; exact hw.2.1, by rw [ht]; exact hw.1, hw.2.2.2⟩
theorem m_retV (hC : Cx G p s m args meth c cc nL own Ts) (hw : wD G s M0 M1 sz1 H locs) {mc ms : Nat} (hr : meth.sig.returnType = none) (hc : cells ≤ mc ∧ slots ≤ ms) (hdg : decode cc pc = .ok (.return_, 1)) : W p l e R s m args below meth c H locs cells slots (MQ below (va_Qv (fun (_ : Unit) => True) (Post G M0 s.heap.size M1 sz1) (As G M0 s.heap.size)) args s mc ms (As G M0 s.heap.size)) (F0 m pc ls []) := by
  refine W.widen hc.1 hc.2 ?_
  refine W.vret hC.1 hC.2.1 hr (fun t ht hW => ⟨⟨(), rfl, trivial, ?_⟩, hw.2.2.1.F ht⟩) hw.2.2.1.2.2 hdg hC.2.2.2.2.2.1
  exact ⟨by rw [ht]; exact hw.2.1, by rw [ht]; exact hw.1, hw.2.2.2⟩
theorem m_retQ (hC : Cx G p s m args meth c cc nL own Ts) (hw : wD G s M0 M1 sz1 H locs) {r : Option Nat} {mc ms : Nat} {rt : FieldType} (hr : meth.sig.returnType = some rt) (hrt : (∃ n, rt = .object n) ∨ ∃ t, rt = .array t) (hc : cells ≤ mc ∧ slots ≤ ms) (hdg : decode cc pc = .ok (.areturn, 1)) : W p l e R s m args below meth c H locs cells slots (MQ below (va_Qq (fun x (_ : Unit) => x = r) (Post G M0 s.heap.size M1 sz1) (As G M0 s.heap.size)) args s mc ms (As G M0 s.heap.size)) (F0 m pc ls [va_rf r]) := by
  refine W.widen hc.1 hc.2 ?_
  refine W.aret hC.1 hC.2.1 hr hrt (va_rf_or r) (fun t ht hW => ⟨⟨r, (), rfl, rfl, ?_⟩, hw.2.2.1.F ht⟩) hw.2.2.1.2.2 hdg hC.2.2.2.2.2.1
  exact ⟨by rw [ht]; exact hw.2.1, by rw [ht]; exact hw.1, hw.2.2.2⟩
end MCALL
/-! small tests and their uses -/
def isZ (v : Int32) : Prop := v = 0 ∨ v = 1
theorem isZ.nar {v : Int32} (h : v = 0 ∨ v = 1) : narrow .boolean (.int v) = .int v := by rcases h with rfl | rfl <;> decide
theorem isZ.fit {v : Int32} (h : v = 0 ∨ v = 1) : fits .boolean (.int v) = true := by rcases h with rfl | rfl <;> decide
theorem narB {v : Int32} (h : v.toInt8.toInt32 = v) : narrow .byte (.int v) = .int v := by
  rw [← h]
  exact pk_nb v
theorem narC {v : Int32} (h : (v.toUInt32 % 65536).toInt32 = v) : narrow .char (.int v) = .int v := by
  rw [← h]
  exact pk_nc v
theorem sub_r {big : List Cond} {ws : List Cond} (ps : List Nat) (hp : ws = ps.filterMap (fun i => big[i]?)) : ∀ w ∈ ws, w ∈ big := by
  intro w hw
  rw [hp] at hw
  obtain ⟨i, -, hi⟩ := List.mem_filterMap.mp hw
  exact List.mem_of_getElem? hi
theorem isN_some {x : Option Nat} (h : x ≠ none) : x = some (x.getD 0) := by cases x with
  | none => exact absurd rfl h
  | some a => rfl
theorem sumR {α β γ : Type} {f : α → Option γ} {g : β → Option γ} {b : β} {r : γ} (h : Sum.elim f g (.inr b) = some r) : g b = some r := h
theorem sumL {α β γ : Type} {f : α → Option γ} {g : β → Option γ} {a : α} {r : γ} (h : Sum.elim f g (.inl a) = some r) : f a = some r := h
theorem nar_rf (ty : FieldType) (x : Option Nat) (h : (match ty with | .object _ => true | .array _ => true | _ => false) = true) : narrow ty (va_rf x) = va_rf x := by
  cases ty <;> first | (cases h; done) | (cases x <;> rfl)
theorem fit_rf (ty : FieldType) (x : Option Nat) (h : (match ty with | .object _ => true | .array _ => true | _ => false) = true) : fits ty (va_rf x) = true := by
  cases ty <;> first | (cases h; done) | (cases x <;> rfl)
/-- one of ours, or null -/
def isON (M : Mem) (x : Option Nat) (ci : Nat) : Prop := x = none ∨ isO M x ci = true
/-- an object that may stand in a row of Objects -/
def isE (M : Mem) (x : Option Nat) : Bool := match x with
  | none => false
  | some a => match M a with
    | some (.inl (c, _)) => match vwCl[c]? with
      | some r => evC.contains r.1
      | none => false
    | _ => false
section MREST
variable {p : Program} {l : Launch} {e : Env} {R : Room} {s : State} {m : MethodId} {args : Array Value} {below : List Frame} {meth : Method} {c : Code} {H : Heap} {locs : List Loc} {cells slots : Nat} {Q : State → Prop}
variable {cc : ByteArray} {pc : Nat} {ls : Array Slot} {rest : List Value} {G : wG} {nL : Nat} {own : String} {Ts : List Cond} {M0 M M1 : Mem} {sz sz1 : Nat} {x : Option Nat}
theorem m_objInit {b : Nat} (hxb : x = some b) (hC : Cx G p s m args meth c cc nL own Ts) {idx : Nat} (hlink : (Cond.methodLink own idx objectInit).before args s = true) (hinst : (Cond.instanceMethod objectInit).before args s = true) (hcode : (Cond.code objectInit ⟨#[0xb1]⟩ 1 none).before args s = true) (hsize : ls.size = nL) (hcat : (rest.map fun v => v.category).sum ≤ 8) (hfr : 1 ≤ R.frames) (hlo : 20 ≤ R.locals) (hdg : decode cc pc = .ok (.invokespecial idx, 3))
    (kk : W p l e R s m args below meth c H locs cells slots Q (F0 m (pc + 3) ls rest)) : W p l e R s m args below meth c H locs cells slots Q (F0 m pc ls (va_rf x :: rest)) := by
  subst hxb
  refine W.objInit hC.1 hC.2.1 hC.2.2.2.1 hlink hinst hcode rfl (hsize.trans hC.2.2.1.symm) rfl hdg hfr (Nat.le_trans (Nat.add_le_add_right (lv_room hcat) 12) hlo) kk
theorem m_cast (hC : Cx G p s m args meth c cc nL own Ts) (hw : wD G s M0 M sz H locs) {C : String} {T : u_T} {N ci index : Nat} (ho : isON M x ci) (hlink : Cond.classLink own index C ∈ Ts) (hci : vwCl[ci]? = some (C, T, N)) (hdg : decode cc pc = .ok (.checkcast index, 3))
    (kk : W p l e R s m args below meth c H locs cells slots Q (F0 m (pc + 3) ls (va_rf x :: rest))) : W p l e R s m args below meth c H locs cells slots Q (F0 m pc ls (va_rf x :: rest)) := by
  rcases ho with rfl | ho
  · exact lv_castN hC.1 hC.2.1 hdg kk
  · obtain ⟨a, fs, rfl, ha⟩ := isO.spec ho
    exact va_castS hC.1 hC.2.1 hC.2.2.2.1 (hC.tab _ hlink) (hC.env.1.1 ci _ hci).2 (m_recv hC hw ha hci) hdg kk
theorem m_ldc {tx : String} {i index : Nat} (hC : Cx G p s m args meth c cc nL own Ts) (hm : (own, index, tx, i) ∈ evL) (hdg : decode cc pc = .ok (.ldc index, 2))
    (kk : W p l e R s m args below meth c H locs cells slots Q (F0 m (pc + 2) ls (va_rf (some (G.2.2.2 i)) :: rest))) : W p l e R s m args below meth c H locs cells slots Q (F0 m pc ls rest) := va_ldcS hC.1 hC.2.1 hC.2.2.2.1 (hC.env.2.2.1 _ hm) hdg kk
theorem m_ldcwS {T : State} (X : Stand p l e R s m args below meth c T locs cells slots) (hexec : p.tables.exec = Jvm.exec) {own text : String} {index : Nat} {a : Addr} (hown : s.vm.findClass own = some m.cls)
    (hconst : (Cond.stringRef own index text).before args s = true) (hev : (Term.string own index).eval args s none [] s = some (.ref a)) {g : JFrame} (hg : g.method = m) (hdg : decode c.code g.pc = .ok (.ldc_w index, 3)) :
    ∀ target, Steps p.tables e below (T.setTop { g with pc := g.pc + 3, stack := .ref a :: g.stack }) target → Steps p.tables e below (T.setTop g) target := by
  obtain ⟨k, cf, i, a', hk, hcf, hcp, -, hr, hev'⟩ := Cond.stringRef_spec hown hconst
  cases hev.symm.trans hev'
  obtain ⟨k', hk', he⟩ := X.warmed.alike.2.2 _ _ hk
  have hr' : k'.resolved[index]? = some (some (.string a)) := by
    rcases X.warmed.entry hk hk' index with h | ⟨h, -⟩
    · rw [h]; exact hr
    · rw [hr] at h; cases h
  intro target hrest
  subst hg
  jvm_step X.here [hexec, hdg, ldc_w.wp_string (e := e) (s := T) (f := g) X.here.top hk' (by rw [he]; exact hcf) hcp hr']
  exact hrest
theorem m_ldc_w {tx : String} {i index : Nat} (hC : Cx G p s m args meth c cc nL own Ts) (hm : (own, index, tx, i) ∈ evL) (hdg : decode cc pc = .ok (.ldc_w index, 3))
    (kk : W p l e R s m args below meth c H locs cells slots Q (F0 m (pc + 3) ls (va_rf (some (G.2.2.2 i)) :: rest))) : W p l e R s m args below meth c H locs cells slots Q (F0 m pc ls rest) := by
  intro T hT X
  obtain ⟨t, a1, b1⟩ := kk T hT X
  have hZ := hC.env.2.2.1 _ hm
  have hb := hC.2.1
  exact ⟨t, m_ldcwS X hC.1 hC.2.2.2.1 (text := tx) (a := G.2.2.2 i) hZ.1 hZ.2 (g := F0 m pc ls rest) rfl (by rw [hb]; exact hdg) t a1, b1⟩
theorem m_gets {C n d ref : String} {v : Value} {index : Nat} (hC : Cx G p s m args meth c cc nL own Ts) (hw : wD G s M0 M sz H locs) (hm : (C, n, d, v) ∈ evZ G.2.2.2) (hlink : Cond.fieldLink own index ref n d ∈ Ts) (hsame : ∀ x, s.fieldFound? C n d = some x → s.fieldFound? ref n d = some x) (hdg : decode cc pc = .ok (.getstatic index, 3))
    (kk : W p l e R s m args below meth c H locs cells slots Q (F0 m (pc + 3) ls (v :: rest))) : W p l e R s m args below meth c H locs cells slots Q (F0 m pc ls rest) :=
  va_gets hC.1 hC.2.1 ((hC.env.2.2.2.1 _ hm).narrow (B := As G M0 s.heap.size) (fun q h => h.ge hC.2.2.2.2.2.2.2)) hw.2.2.1 hC.2.2.2.1 (hC.tab _ hlink) hsame hdg kk
theorem m_getsQ {ref : String} {index : Nat} (hC : Cx G p s m args meth c cc nL own Ts) (hw : wD G s M0 M sz H locs) (hlink : Cond.fieldLink own index ref "SIOOBE_FORMATTER" "Ljava/util/function/BiFunction;" ∈ Ts) (hsame : ∀ x, s.fieldFound? "jdk/internal/util/Preconditions" "SIOOBE_FORMATTER" "Ljava/util/function/BiFunction;" = some x → s.fieldFound? ref "SIOOBE_FORMATTER" "Ljava/util/function/BiFunction;" = some x) (hdg : decode cc pc = .ok (.getstatic index, 3))
    (kk : ∀ q : Option Nat, W p l e R s m args below meth c H locs cells slots Q (F0 m (pc + 3) ls (va_rf q :: rest))) : W p l e R s m args below meth c H locs cells slots Q (F0 m pc ls rest) := by
  rcases hC.env.2.2.2.2.2.2.1 with h | ⟨t, h⟩
  · exact va_gets hC.1 hC.2.1 (h.narrow (B := As G M0 s.heap.size) (fun q h => h.ge hC.2.2.2.2.2.2.2)) hw.2.2.1 hC.2.2.2.1 (hC.tab _ hlink) hsame hdg (kk none)
  · exact va_gets hC.1 hC.2.1 (h.narrow (B := As G M0 s.heap.size) (fun q h => h.ge hC.2.2.2.2.2.2.2)) hw.2.2.1 hC.2.2.2.1 (hC.tab _ hlink) hsame hdg (kk (some t))
theorem nmA0 (hC : Cx G p s m args meth c cc nL own Ts) : ∀ cA, s.vm.findClass ("[" ++ (newarray.typeOf .int).toString) = some cA → cA = G.2.1 0 := fun cA h => (Option.some.inj ((kTy hC.env (t := 0) rfl).2.symm.trans h)).symm
theorem nmA1 (hC : Cx G p s m args meth c cc nL own Ts) : ∀ cA, s.vm.findClass ("[" ++ (newarray.typeOf .byte).toString) = some cA → cA = G.2.1 1 := fun cA h => (Option.some.inj ((kTy hC.env (t := 1) rfl).2.symm.trans h)).symm
theorem nmA2 (hC : Cx G p s m args meth c cc nL own Ts) : ∀ cA, s.vm.findClass ("[" ++ (newarray.typeOf .boolean).toString) = some cA → cA = G.2.1 2 := fun cA h => (Option.some.inj ((kTy hC.env (t := 2) rfl).2.symm.trans h)).symm
end MREST
theorem m_startI {G : wG} {l : Launch} {y : MethodName} {ws ws' : List Cond} {rm : Room} {cc : ByteArray} {maxL : Nat} {av : List Value} {M M1 : Mem} {sz sz1 : Nat} {own : String} {r : Int32} 
    (hy : plainName y.cls = true) (ho : y.cls = own) (hws : ws = Cond.code y cc maxL (some .int) :: ws') (hlen : (lg_sl av).length ≤ maxL) {lv0 : List (Nat × Value)} (hlv : lv_args 0 av = lv0) 
    (body : ∀ (p : Program) (e : Env) (s : State) (m : MethodId) (args : Array Value) (below : List Frame) (meth : Method) (c : Code) (Q : State → Prop), Cx G p s m args meth c cc maxL own ws → meth.name = y.name →
      (∀ {pc : Nat} {H : Heap} {locs : List Loc} {ls : Array Slot} {cells slots : Nat}, wD G s M M1 sz1 H locs → cells ≤ rm.cells ∧ slots ≤ rm.slots → decode cc pc = .ok (.ireturn, 1) → W p l e rm s m args below meth c H locs cells slots Q (F0 m pc ls [.int r])) →
      s.heap.size = sz → wD G s M M sz s.heap [] → ∀ ls : Array Slot, lv_has ls maxL lv0 → W p l e rm s m args below meth c s.heap [] 0 0 Q (F0 m 0 ls [])) : CtrI G l y ws rm av M sz r M1 sz1 := by
  subst ho
  refine Met.ofW (cc := cc) (maxL := maxL) (ret := some .int) hy hws ?_
  intro p e s m args below meth c s₁ B hml hv
  obtain ⟨rfl, hsz, hH, hE, hBs⟩ := hv
  have hts := atoms_spec (ws := ws) B.pre
  have hown : s.vm.findClass y.cls = some m.cls := findClass_of_methodNamed B.named
  have hl := lv_entry av (n := maxL) hlen
  rw [hlv] at hl
  rw [lg_entry_eq]
  generalize (lg_sl av ++ List.replicate (maxL - (lg_sl av).length) Slot.unset).toArray = ls at hl ⊢
  have hC : Cx G p s m av.toArray meth c cc maxL y.cls ws := ⟨B.exec, B.bytes, hml, hown, hts, B.notSynchronized, hE, by rw [hsz]; exact hBs⟩
  refine body p e s m _ below meth c _ hC (name_of_methodNamed B.named B.method).1 (fun {pc H locs ls cells slots} hw hc hdg => ?_) hsz ⟨hH, hsz, va_S.rf, fun a ha hn => Or.inl ⟨ha, hn⟩⟩ ls hl
  subst hsz
  exact m_retI hC hw B.returns hc hdg
theorem m_startZ {G : wG} {l : Launch} {y : MethodName} {ws ws' : List Cond} {rm : Room} {cc : ByteArray} {maxL : Nat} {av : List Value} {M M1 : Mem} {sz sz1 : Nat} {own : String} {ty : FieldType} {r : Int32} 
    (hy : plainName y.cls = true) (ho : y.cls = own) (hws : ws = Cond.code y cc maxL (some ty) :: ws') (hlen : (lg_sl av).length ≤ maxL) {lv0 : List (Nat × Value)} (hlv : lv_args 0 av = lv0) 
    (body : ∀ (p : Program) (e : Env) (s : State) (m : MethodId) (args : Array Value) (below : List Frame) (meth : Method) (c : Code) (Q : State → Prop), Cx G p s m args meth c cc maxL own ws → meth.name = y.name →
      (∀ {pc : Nat} {H : Heap} {locs : List Loc} {ls : Array Slot} {cells slots : Nat}, narrow ty (.int r) = .int r → wD G s M M1 sz1 H locs → cells ≤ rm.cells ∧ slots ≤ rm.slots → decode cc pc = .ok (.ireturn, 1) → W p l e rm s m args below meth c H locs cells slots Q (F0 m pc ls [.int r])) →
      s.heap.size = sz → wD G s M M sz s.heap [] → ∀ ls : Array Slot, lv_has ls maxL lv0 → W p l e rm s m args below meth c s.heap [] 0 0 Q (F0 m 0 ls [])) : CtrI G l y ws rm av M sz r M1 sz1 := by
  subst ho
  refine Met.ofW (cc := cc) (maxL := maxL) (ret := some ty) hy hws ?_
  intro p e s m args below meth c s₁ B hml hv
  obtain ⟨rfl, hsz, hH, hE, hBs⟩ := hv
  have hts := atoms_spec (ws := ws) B.pre
  have hown : s.vm.findClass y.cls = some m.cls := findClass_of_methodNamed B.named
  have hl := lv_entry av (n := maxL) hlen
  rw [hlv] at hl
  rw [lg_entry_eq]
  generalize (lg_sl av ++ List.replicate (maxL - (lg_sl av).length) Slot.unset).toArray = ls at hl ⊢
  have hC : Cx G p s m av.toArray meth c cc maxL y.cls ws := ⟨B.exec, B.bytes, hml, hown, hts, B.notSynchronized, hE, by rw [hsz]; exact hBs⟩
  refine body p e s m _ below meth c _ hC (name_of_methodNamed B.named B.method).1 (fun {pc H locs ls cells slots} hn hw hc hdg => ?_) hsz ⟨hH, hsz, va_S.rf, fun a ha hn => Or.inl ⟨ha, hn⟩⟩ ls hl
  subst hsz
  exact m_retZ hC hw B.returns hn hc hdg
theorem m_startL {G : wG} {l : Launch} {y : MethodName} {ws ws' : List Cond} {rm : Room} {cc : ByteArray} {maxL : Nat} {av : List Value} {M M1 : Mem} {sz sz1 : Nat} {own : String} {r : Int64} 
    (hy : plainName y.cls = true) (ho : y.cls = own) (hws : ws = Cond.code y cc maxL (some .long) :: ws') (hlen : (lg_sl av).length ≤ maxL) {lv0 : List (Nat × Value)} (hlv : lv_args 0 av = lv0) 
    (body : ∀ (p : Program) (e : Env) (s : State) (m : MethodId) (args : Array Value) (below : List Frame) (meth : Method) (c : Code) (Q : State → Prop), Cx G p s m args meth c cc maxL own ws → meth.name = y.name →
      (∀ {pc : Nat} {H : Heap} {locs : List Loc} {ls : Array Slot} {cells slots : Nat}, wD G s M M1 sz1 H locs → cells ≤ rm.cells ∧ slots ≤ rm.slots → decode cc pc = .ok (.lreturn, 1) → W p l e rm s m args below meth c H locs cells slots Q (F0 m pc ls [.long r])) →
      s.heap.size = sz → wD G s M M sz s.heap [] → ∀ ls : Array Slot, lv_has ls maxL lv0 → W p l e rm s m args below meth c s.heap [] 0 0 Q (F0 m 0 ls [])) : CtrL G l y ws rm av M sz r M1 sz1 := by
  subst ho
  refine Met.ofW (cc := cc) (maxL := maxL) (ret := some .long) hy hws ?_
  intro p e s m args below meth c s₁ B hml hv
  obtain ⟨rfl, hsz, hH, hE, hBs⟩ := hv
  have hts := atoms_spec (ws := ws) B.pre
  have hown : s.vm.findClass y.cls = some m.cls := findClass_of_methodNamed B.named
  have hl := lv_entry av (n := maxL) hlen
  rw [hlv] at hl
  rw [lg_entry_eq]
  generalize (lg_sl av ++ List.replicate (maxL - (lg_sl av).length) Slot.unset).toArray = ls at hl ⊢
  have hC : Cx G p s m av.toArray meth c cc maxL y.cls ws := ⟨B.exec, B.bytes, hml, hown, hts, B.notSynchronized, hE, by rw [hsz]; exact hBs⟩
  refine body p e s m _ below meth c _ hC (name_of_methodNamed B.named B.method).1 (fun {pc H locs ls cells slots} hw hc hdg => ?_) hsz ⟨hH, hsz, va_S.rf, fun a ha hn => Or.inl ⟨ha, hn⟩⟩ ls hl
  subst hsz
  exact m_retL hC hw B.returns hc hdg
theorem m_startV {G : wG} {l : Launch} {y : MethodName} {ws ws' : List Cond} {rm : Room} {cc : ByteArray} {maxL : Nat} {av : List Value} {M M1 : Mem} {sz sz1 : Nat} {own : String} 
    (hy : plainName y.cls = true) (ho : y.cls = own) (hws : ws = Cond.code y cc maxL (none) :: ws') (hlen : (lg_sl av).length ≤ maxL) {lv0 : List (Nat × Value)} (hlv : lv_args 0 av = lv0) 
    (body : ∀ (p : Program) (e : Env) (s : State) (m : MethodId) (args : Array Value) (below : List Frame) (meth : Method) (c : Code) (Q : State → Prop), Cx G p s m args meth c cc maxL own ws → meth.name = y.name →
      (∀ {pc : Nat} {H : Heap} {locs : List Loc} {ls : Array Slot} {cells slots : Nat}, wD G s M M1 sz1 H locs → cells ≤ rm.cells ∧ slots ≤ rm.slots → decode cc pc = .ok (.return_, 1) → W p l e rm s m args below meth c H locs cells slots Q (F0 m pc ls [])) →
      s.heap.size = sz → wD G s M M sz s.heap [] → ∀ ls : Array Slot, lv_has ls maxL lv0 → W p l e rm s m args below meth c s.heap [] 0 0 Q (F0 m 0 ls [])) : CtrV G l y ws rm av M sz M1 sz1 := by
  subst ho
  refine Met.ofW (cc := cc) (maxL := maxL) (ret := none) hy hws ?_
  intro p e s m args below meth c s₁ B hml hv
  obtain ⟨rfl, hsz, hH, hE, hBs⟩ := hv
  have hts := atoms_spec (ws := ws) B.pre
  have hown : s.vm.findClass y.cls = some m.cls := findClass_of_methodNamed B.named
  have hl := lv_entry av (n := maxL) hlen
  rw [hlv] at hl
  rw [lg_entry_eq]
  generalize (lg_sl av ++ List.replicate (maxL - (lg_sl av).length) Slot.unset).toArray = ls at hl ⊢
  have hC : Cx G p s m av.toArray meth c cc maxL y.cls ws := ⟨B.exec, B.bytes, hml, hown, hts, B.notSynchronized, hE, by rw [hsz]; exact hBs⟩
  refine body p e s m _ below meth c _ hC (name_of_methodNamed B.named B.method).1 (fun {pc H locs ls cells slots} hw hc hdg => ?_) hsz ⟨hH, hsz, va_S.rf, fun a ha hn => Or.inl ⟨ha, hn⟩⟩ ls hl
  subst hsz
  exact m_retV hC hw B.returns hc hdg
theorem m_startQ {G : wG} {l : Launch} {y : MethodName} {ws ws' : List Cond} {rm : Room} {cc : ByteArray} {maxL : Nat} {av : List Value} {M M1 : Mem} {sz sz1 : Nat} {own : String} {rt : FieldType} {r : Option Nat} 
    (hy : plainName y.cls = true) (ho : y.cls = own) (hws : ws = Cond.code y cc maxL (some rt) :: ws') (hlen : (lg_sl av).length ≤ maxL) {lv0 : List (Nat × Value)} (hlv : lv_args 0 av = lv0) (hrt : (∃ n, rt = .object n) ∨ ∃ t, rt = .array t) 
    (body : ∀ (p : Program) (e : Env) (s : State) (m : MethodId) (args : Array Value) (below : List Frame) (meth : Method) (c : Code) (Q : State → Prop), Cx G p s m args meth c cc maxL own ws → meth.name = y.name →
      (∀ {pc : Nat} {H : Heap} {locs : List Loc} {ls : Array Slot} {cells slots : Nat}, wD G s M M1 sz1 H locs → cells ≤ rm.cells ∧ slots ≤ rm.slots → decode cc pc = .ok (.areturn, 1) → W p l e rm s m args below meth c H locs cells slots Q (F0 m pc ls [va_rf r])) →
      s.heap.size = sz → wD G s M M sz s.heap [] → ∀ ls : Array Slot, lv_has ls maxL lv0 → W p l e rm s m args below meth c s.heap [] 0 0 Q (F0 m 0 ls [])) : CtrQ G l y ws rm av M sz r M1 sz1 := by
  subst ho
  refine Met.ofW (cc := cc) (maxL := maxL) (ret := some rt) hy hws ?_
  intro p e s m args below meth c s₁ B hml hv
  obtain ⟨rfl, hsz, hH, hE, hBs⟩ := hv
  have hts := atoms_spec (ws := ws) B.pre
  have hown : s.vm.findClass y.cls = some m.cls := findClass_of_methodNamed B.named
  have hl := lv_entry av (n := maxL) hlen
  rw [hlv] at hl
  rw [lg_entry_eq]
  generalize (lg_sl av ++ List.replicate (maxL - (lg_sl av).length) Slot.unset).toArray = ls at hl ⊢
  have hC : Cx G p s m av.toArray meth c cc maxL y.cls ws := ⟨B.exec, B.bytes, hml, hown, hts, B.notSynchronized, hE, by rw [hsz]; exact hBs⟩
  refine body p e s m _ below meth c _ hC (name_of_methodNamed B.named B.method).1 (fun {pc H locs ls cells slots} hw hc hdg => ?_) hsz ⟨hH, hsz, va_S.rf, fun a ha hn => Or.inl ⟨ha, hn⟩⟩ ls hl
  subst hsz
  exact m_retQ hC hw B.returns hrt hc hdg
