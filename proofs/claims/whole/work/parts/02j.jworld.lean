/-! ROWS FOR THE JDK'S OWN METHODS: copies, clones, rows of Objects, class objects, inherited methods -/
/-- copies of bytes -/
def cB (B : Nat) (M : Mem) (x : Option Nat) (sp : Int32) (y : Option Nat) (dp n : Int32) : Option Mem := x.bind fun a => y.bind fun b => match M a, M b with
  | some (.inr (.inl (t0, n0, f))), some (.inr (.inl (t1, n1, g))) => if t0 = 1 ∧ t1 = 1 ∧ ¬ sp < 0 ∧ ¬ dp < 0 ∧ ¬ n < 0 ∧ sp.toNatClampNeg + n.toNatClampNeg ≤ n0 ∧ dp.toNatClampNeg + n.toNatClampNeg ≤ n1 ∧ B ≤ b ∧ (∀ i ∈ List.range n.toNatClampNeg, (f (sp.toNatClampNeg + i)).toInt8.toInt32 = f (sp.toNatClampNeg + i)) then some (va_up M b (some (.inr (.inl (1, n1, va_cpy f g sp.toNatClampNeg dp.toNatClampNeg n.toNatClampNeg))))) else none
  | _, _ => none
/-- every element of a stretch may stand in a row of Objects -/
def allE (M : Mem) (f : Nat → Option Nat) (s n : Nat) : Prop := ∀ i, i < n → ∀ y, f (s + i) = some y → isE M (some y) = true
/-- copies of references -/
def cR (B : Nat) (M : Mem) (x : Option Nat) (sp : Int32) (y : Option Nat) (dp n : Int32) : Option Mem := x.bind fun a => y.bind fun b => match M a, M b with
  | some (.inr (.inr (t0, n0, f))), some (.inr (.inr (t1, n1, g))) => if t0 = 3 ∧ t1 = 3 ∧ ¬ sp < 0 ∧ ¬ dp < 0 ∧ ¬ n < 0 ∧ sp.toNatClampNeg + n.toNatClampNeg ≤ n0 ∧ dp.toNatClampNeg + n.toNatClampNeg ≤ n1 ∧ B ≤ b ∧ B ≤ a ∧ (∀ i ∈ List.range n.toNatClampNeg, (f (sp.toNatClampNeg + i) = none ∨ isE M (f (sp.toNatClampNeg + i)) = true)) then some (va_up M b (some (.inr (.inr (3, n1, va_cpy f g sp.toNatClampNeg dp.toNatClampNeg n.toNatClampNeg))))) else none
  | _, _ => none
/-- a clone of a row of bytes, of at most cap -/
def kB (B : Nat) (M : Mem) (sz cap : Nat) (x : Option Nat) : Option Mem := x.bind fun a => match M a with
  | some (.inr (.inl (t0, n0, f))) => if t0 = 1 ∧ n0 ≤ cap ∧ B ≤ a ∧ (∀ i ∈ List.range n0, (f i).toInt8.toInt32 = f i) then some (va_up M sz (some (.inr (.inl (1, n0, f))))) else none
  | _ => none
theorem cB.spec {B : Nat} {M M1 : Mem} {x y : Option Nat} {sp dp n : Int32} (h : cB B M x sp y dp n = some M1) : ∃ a b n0 n1 f g, x = some a ∧ y = some b ∧ M a = some (.inr (.inl (1, n0, f))) ∧ M b = some (.inr (.inl (1, n1, g))) ∧ ¬ sp < 0 ∧ ¬ dp < 0 ∧ ¬ n < 0 ∧ sp.toNatClampNeg + n.toNatClampNeg ≤ n0 ∧ dp.toNatClampNeg + n.toNatClampNeg ≤ n1 ∧ B ≤ b ∧ (∀ i, i < n.toNatClampNeg → (f (sp.toNatClampNeg + i)).toInt8.toInt32 = f (sp.toNatClampNeg + i)) ∧ M1 = va_up M b (some (.inr (.inl (1, n1, va_cpy f g sp.toNatClampNeg dp.toNatClampNeg n.toNatClampNeg)))) := by
  unfold cB at h
  cases x with
  | none => cases h
  | some a =>
    cases y with
    | none => cases h
    | some b =>
      simp only [Option.bind_some] at h
      split at h
      · rename_i t0 n0 f t1 n1 g h1 h2
        split at h
        · rename_i hc
          obtain ⟨e0, e1, c1, c2, c3, c4, c5, c6, c7⟩ := hc
          subst e0 e1
          cases h
          exact ⟨a, b, n0, n1, f, g, rfl, rfl, h1, h2, c1, c2, c3, c4, c5, c6, fun i hi => c7 i (List.mem_range.mpr hi), rfl⟩
        · cases h
      · cases h
theorem cR.spec {B : Nat} {M M1 : Mem} {x y : Option Nat} {sp dp n : Int32} (h : cR B M x sp y dp n = some M1) : ∃ a b n0 n1 f g, x = some a ∧ y = some b ∧ M a = some (.inr (.inr (3, n0, f))) ∧ M b = some (.inr (.inr (3, n1, g))) ∧ ¬ sp < 0 ∧ ¬ dp < 0 ∧ ¬ n < 0 ∧ sp.toNatClampNeg + n.toNatClampNeg ≤ n0 ∧ dp.toNatClampNeg + n.toNatClampNeg ≤ n1 ∧ B ≤ b ∧ B ≤ a ∧ (∀ i, i < n.toNatClampNeg → ∀ y, f (sp.toNatClampNeg + i) = some y → isE M (some y) = true) ∧ M1 = va_up M b (some (.inr (.inr (3, n1, va_cpy f g sp.toNatClampNeg dp.toNatClampNeg n.toNatClampNeg)))) := by
  unfold cR at h
  cases x with
  | none => cases h
  | some a =>
    cases y with
    | none => cases h
    | some b =>
      simp only [Option.bind_some] at h
      split at h
      · rename_i t0 n0 f t1 n1 g h1 h2
        split at h
        · rename_i hc
          obtain ⟨e0, e1, c1, c2, c3, c4, c5, c6, c8, c7⟩ := hc
          subst e0 e1
          cases h
          refine ⟨a, b, n0, n1, f, g, rfl, rfl, h1, h2, c1, c2, c3, c4, c5, c6, c8, fun i hi z hz => ?_, rfl⟩
          rcases c7 i (List.mem_range.mpr hi) with h | h
          · rw [hz] at h
            cases h
          · rw [hz] at h
            exact h
        · cases h
      · cases h
theorem kB.spec {B : Nat} {M M1 : Mem} {sz cap : Nat} {x : Option Nat} (h : kB B M sz cap x = some M1) : ∃ a n0 f, x = some a ∧ M a = some (.inr (.inl (1, n0, f))) ∧ n0 ≤ cap ∧ B ≤ a ∧ (∀ i, i < n0 → (f i).toInt8.toInt32 = f i) ∧ M1 = va_up M sz (some (.inr (.inl (1, n0, f)))) := by
  unfold kB at h
  cases x with
  | none => cases h
  | some a =>
    simp only [Option.bind_some] at h
    split at h
    · rename_i t0 n0 f h1
      split at h
      · rename_i hc
        obtain ⟨e0, c1, c3, c2⟩ := hc
        subst e0
        cases h
        exact ⟨a, n0, f, rfl, h1, c1, c3, fun i hi => c2 i (List.mem_range.mpr hi), rfl⟩
      · cases h
    · cases h
theorem isE.spec {M : Mem} {x : Option Nat} (h : isE M x = true) : ∃ a ci fs r, x = some a ∧ M a = some (.inl (ci, fs)) ∧ vwCl[ci]? = some r ∧ r.1 ∈ evC := by
  unfold isE at h
  cases x with
  | none => cases h
  | some a =>
    dsimp only at h
    split at h
    · rename_i ci fs hm
      split at h
      · rename_i r hr
        exact ⟨a, ci, fs, r, rfl, hm, hr, by simpa using h⟩
      · cases h
    · cases h
/-- a row of Objects; a row of bytes -/
def isR3 (M : Mem) (x : Option Nat) : Bool := match x with
  | none => false
  | some a => match M a with
    | some (.inr (.inr (t, _, _))) => t == 3
    | _ => false
def isR1 (B : Nat) (M : Mem) (x : Option Nat) : Bool := match x with
  | none => false
  | some a => match M a with
    | some (.inr (.inl (t, _, _))) => t == 1 && decide (B ≤ a)
    | _ => false
theorem isR3.spec {M : Mem} {x : Option Nat} (h : isR3 M x = true) : ∃ a n f, x = some a ∧ M a = some (.inr (.inr (3, n, f))) := by
  unfold isR3 at h
  cases x with
  | none => cases h
  | some a =>
    dsimp only at h
    split at h
    · rename_i t n f hm
      have ht : t = 3 := by simpa using h
      subst ht
      exact ⟨a, n, f, rfl, hm⟩
    · cases h
theorem isR1.spec {B : Nat} {M : Mem} {x : Option Nat} (h : isR1 B M x = true) : ∃ a n f, x = some a ∧ B ≤ a ∧ M a = some (.inr (.inl (1, n, f))) := by
  unfold isR1 at h
  cases x with
  | none => cases h
  | some a =>
    dsimp only at h
    split at h
    · rename_i t n f hm
      have ht : t = 1 ∧ B ≤ a := by simpa using h
      obtain ⟨rfl, hB⟩ := ht
      exact ⟨a, n, f, rfl, hB, hm⟩
    · cases h
theorem nn32 (z : Int32) (hz : ¬ z < 0) : z.toInt = (z.toNatClampNeg : Int) := by
  have hz0 : (0 : Int) ≤ z.toInt := by
    have := Int32.not_lt.mp hz
    simpa using Int32.le_iff_toInt_le.mp this
  show z.toInt = ((z.toInt.toNat : Nat) : Int)
  omega
section MJ
variable {p : Program} {l : Launch} {e : Env} {R : Room} {s : State} {m : MethodId} {args : Array Value} {below : List Frame} {meth : Method} {c : Code} {H : Heap} {locs : List Loc} {cells slots : Nat} {Q : State → Prop}
variable {cc : ByteArray} {pc : Nat} {ls : Array Slot} {rest : List Value} {G : wG} {nL : Nat} {own : String} {Ts : List Cond} {M0 M M1 : Mem} {sz sz1 : Nat} {x : Option Nat}
/-- a store of many slots at once -/
theorem wD.putL {M1 : Mem} {a : Nat} {e0 e1 : Cel} {ks : List Loc} {H1 : Heap} (hw : wD G s M0 M sz H locs) (ha : M a = some e0) (hB : G.2.2.1 ≤ a) (he : m_at G a e1 H1) (z : H1.size = H.size) (oq : ∀ q : Nat, q ≠ a → H1[q]? = H[q]?) (hk : ∀ q ∈ ks, q.base = a) (hM : M1 = va_up M a (some e1)) : wD G s M0 M1 sz H1 (locs ++ ks) := by
  have h5 := hw.2.2.2 a hB (by rw [ha]; exact Option.some_ne_none _)
  obtain ⟨h1, h2, h3, h4⟩ := hw
  subst hM
  refine ⟨h1.set he (fun q hq _ => oq q hq), z.trans h2, ⟨Nat.le_trans h3.1 (by omega), fun q h6 h7 => by rw [oq q (fun e => h7 (by rw [e]; exact h5))]; exact h3.2.1 q h6 h7, fun q hq => ?_⟩, fun q hq hn => ?_⟩
  · rcases List.mem_append.mp hq with h | h
    · exact h3.2.2 q h
    · rw [hk q h]
      exact h5
  · by_cases hqa : q = a
    · rw [hqa]
      exact h5
    · exact h4 q hq (by unfold va_up at hn; rwa [if_neg hqa] at hn)
theorem m_anyE (hC : Cx G p s m args meth c cc nL own Ts) (hw : wD G s M0 M sz H locs) {y : Nat} (h : isE M (some y) = true) : va_Any "java/lang/Object" s H y := by
  obtain ⟨a, ci, fs, r, e1, h1, h2, h3⟩ := isE.spec h
  cases e1
  obtain ⟨cell, g1, g2, g3⟩ := m_recv (C := r.1) (T := r.2.1) (N := r.2.2) hC hw h1 h2
  obtain ⟨kC, hkC, -⟩ := Vm.findClass_spec g3
  refine ⟨cell, g1, g2, ⟨kC, hkC⟩, fun comp hcomp => ?_⟩
  obtain ⟨c0, t0, f1, f2, f3⟩ := Cond.castable_spec (va_Nw.use (A := args) rfl (hC.env.2.2.2.2.1 _ h3))
  cases f1.symm.trans g3
  cases f2.symm.trans hcomp
  exact f3
end MJ
section MJ2
variable {p : Program} {l : Launch} {e : Env} {R : Room} {s : State} {m : MethodId} {args : Array Value} {below : List Frame} {meth : Method} {c : Code} {H : Heap} {locs : List Loc} {cells slots : Nat} {Q : State → Prop}
variable {cc : ByteArray} {pc : Nat} {ls : Array Slot} {rest : List Value} {G : wG} {nL : Nat} {own : String} {Ts : List Cond} {M0 M M1 : Mem} {sz sz1 : Nat} {x y : Option Nat}
theorem cat_nf {a b : Nat} (h : a ≤ 8) (h2 : 60 ≤ b) : a + (nativeFrameWords "java/lang/System" "arraycopy" 5 + 11) ≤ b := by
  have hw : nativeFrameWords "java/lang/System" "arraycopy" 5 ≤ 40 := by decide
  omega
theorem cat_14 {a b : Nat} (h : a ≤ 8) (h2 : 22 ≤ b) : a + 14 ≤ b := by omega
theorem m_copyB (hC : Cx G p s m args meth c cc nL own Ts) (hw : wD G s M0 M sz H locs) {index : Nat} {sp dp n : Int32} (hg : cB G.2.2.1 M x sp y dp n = some M1) (hlink : Cond.methodLink own index arraycopyName ∈ Ts) (hnat : Cond.native arraycopyName ∈ Ts) (hstat : Cond.static arraycopyName ∈ Ts) (hini : Cond.initialized "java/lang/System" ∈ Ts)
    (hsize : ls.size = nL) (hframes : 1 ≤ R.frames) (hcat : (rest.map fun v => v.category).sum ≤ 8) (hlo : 60 ≤ R.locals) (hdg : decode cc pc = .ok (.invokestatic index, 3))
    (kk : ∀ (H1 : Heap) (locs1 : List Loc), wD G s M0 M1 sz H1 locs1 → W p l e R s m args below meth c H1 locs1 cells slots Q (F0 m (pc + 3) ls rest)) : W p l e R s m args below meth c H locs cells slots Q (F0 m pc ls (.int n :: .int dp :: va_rf y :: .int sp :: va_rf x :: rest)) := by
  obtain ⟨a0, a, n0, n1, f, g, rfl, rfl, ha0, ha1, h1, h2, h3, h4, h5, hB, hby, rfl⟩ := cB.spec hg
  obtain ⟨hx, hb, hml, hown, hts, hloc, hE, hBs⟩ := id hC
  intro T hT X
  obtain ⟨⟨ce0, hc0, w2, w3, w4, w5, w6⟩, -⟩ := hw.1 a0 _ ha0
  have hc1 : H[a]? = some (arrV (G.2.1 1) n1 (fun j => .int (g j))) := (hw.1 a _ ha1).2 hB
  obtain ⟨-, k0, hk0, cm0, hkk0⟩ := (kTy hE (t := 1) rfl).1 n0 (fun j => .int (f j))
  obtain ⟨-, k1, hk1, cm1, hkk1⟩ := (kTy hE (t := 1) rfl).1 n1 (fun j => .int (g j))
  obtain ⟨vm', X', step⟩ := X.arraycopy hx hown (hts _ hlink) (hts _ hnat) (hts _ hstat) (hts _ hini) (src := a0) (dst := a) (cs := ce0) (cd := arrV (G.2.1 1) n1 (fun j => .int (g j))) (srcPos := sp) (destPos := dp) (n := n) (by rw [hT]; exact hc0) (by rw [hT]; exact hc1)
    (fun _ h => by rw [h] at w3; cases w3) (fun _ h => by cases h) w4 (fun h => by cases h) (by rw [w2]; exact hk0) hk1 hkk0 hkk1 (by simp [refKind]) h1 h2 h3
    (by rw [nn32 sp h1, nn32 n h3, w5]; omega)
    (by rw [nn32 dp h2, nn32 n h3, arrV_size]; omega)
    (fun vm₁ _ i hi => by
      have e : ce0.slots.getD (sp.toNatClampNeg + i) .null = .int (f (sp.toNatClampNeg + i)) := by
        rw [Array.getD_eq_getD_getElem?, w6 _ (by omega)]
        rfl
      rw [e]
      exact ⟨by rw [← hby i hi]; exact pk_fb _, trivial⟩)
    (g := F0 m pc ls (.int n :: .int dp :: .ref a :: .int sp :: .ref a0 :: rest)) rfl (by rw [hml]; exact hsize) (rest := rest) rfl (by rw [hb]; exact hdg) hframes (Nat.le_trans (Nat.le_of_eq (by show 2 * 0 + _ + _ = _; omega)) (cat_nf hcat hlo))
  have e1 : copied ce0 (arrV (G.2.1 1) n1 (fun j => Value.int (g j))) sp dp n = arrV (G.2.1 1) n1 (fun j => .int (va_cpy f g sp.toNatClampNeg dp.toNatClampNeg n.toNatClampNeg j)) := va_copiedX (fun z => Value.int z) ce0 _ f g w6 h4
  rw [e1] at X' step
  have hl : a < H.size := hw.1.lt ha1
  generalize hce : arrV (G.2.1 1) n1 (fun j => Value.int (va_cpy f g sp.toNatClampNeg dp.toNatClampNeg n.toNatClampNeg j)) = ce at X' step
  have hheap : ((T.setVm vm').setCell a ce).heap = H.setIfInBounds a ce := by rw [← hT]; rfl
  obtain ⟨t, a1, b1⟩ := kk (H.setIfInBounds a ce) _ (hw.putL (e1 := .inr (.inl (1, n1, va_cpy f g sp.toNatClampNeg dp.toNatClampNeg n.toNatClampNeg))) ha1 hB (m_at.arrI (show (H.setIfInBounds a ce)[a]? = some _ by rw [hce]; simp [Array.getElem?_setIfInBounds, hl])) (by simp) (fun q hq => by simp [Array.getElem?_setIfInBounds, Ne.symm hq]) (fun q hq => by obtain ⟨z, -, hz⟩ := List.mem_map.mp hq; rw [← hz]) rfl) _ hheap X'
  exact ⟨t, step t a1, b1⟩
theorem m_copyR (hC : Cx G p s m args meth c cc nL own Ts) (hw : wD G s M0 M sz H locs) {index : Nat} {sp dp n : Int32} (hg : cR G.2.2.1 M x sp y dp n = some M1) (hlink : Cond.methodLink own index arraycopyName ∈ Ts) (hnat : Cond.native arraycopyName ∈ Ts) (hstat : Cond.static arraycopyName ∈ Ts) (hini : Cond.initialized "java/lang/System" ∈ Ts)
    (hsize : ls.size = nL) (hframes : 1 ≤ R.frames) (hcat : (rest.map fun v => v.category).sum ≤ 8) (hlo : 60 ≤ R.locals) (hdg : decode cc pc = .ok (.invokestatic index, 3))
    (kk : ∀ (H1 : Heap) (locs1 : List Loc), wD G s M0 M1 sz H1 locs1 → W p l e R s m args below meth c H1 locs1 cells slots Q (F0 m (pc + 3) ls rest)) : W p l e R s m args below meth c H locs cells slots Q (F0 m pc ls (.int n :: .int dp :: va_rf y :: .int sp :: va_rf x :: rest)) := by
  obtain ⟨a0, a, n0, n1, f, g, rfl, rfl, ha0, ha1, h1, h2, h3, h4, h5, hB, hB0, hel, rfl⟩ := cR.spec hg
  obtain ⟨hx, hb, hml, hown, hts, hloc, hE, hBs⟩ := id hC
  intro T hT X
  have hc0 : H[a0]? = some (arrV (G.2.1 3) n0 (fun j => va_rf (f j))) := (hw.1 a0 _ ha0).2 hB0
  have hc1 : H[a]? = some (arrV (G.2.1 3) n1 (fun j => va_rf (g j))) := (hw.1 a _ ha1).2 hB
  obtain ⟨-, k0, hk0, cm0, hkk0⟩ := (kTy hE (t := 3) rfl).1 n0 (fun j => va_rf (f j))
  obtain ⟨-, k1, hk1, cm1, hkk1⟩ := (kTy hE (t := 3) rfl).1 n1 (fun j => va_rf (g j))
  obtain ⟨vm', X', step⟩ := X.arraycopy hx hown (hts _ hlink) (hts _ hnat) (hts _ hstat) (hts _ hini) (src := a0) (dst := a) (cs := arrV (G.2.1 3) n0 (fun j => va_rf (f j))) (cd := arrV (G.2.1 3) n1 (fun j => va_rf (g j))) (srcPos := sp) (destPos := dp) (n := n) (by rw [hT]; exact hc0) (by rw [hT]; exact hc1)
    (fun _ h => by cases h) (fun _ h => by cases h) (fun h => by cases h) (fun h => by cases h) hk0 hk1 hkk0 hkk1 rfl h1 h2 h3
    (by rw [nn32 sp h1, nn32 n h3, arrV_size]; omega)
    (by rw [nn32 dp h2, nn32 n h3, arrV_size]; omega)
    (fun vm₁ hal i hi => by
      have e : (arrV (G.2.1 3) n0 (fun j => va_rf (f j))).slots.getD (sp.toNatClampNeg + i) .null = va_rf (f (sp.toNatClampNeg + i)) := by
        rw [Array.getD_eq_getD_getElem?, arrV_read _ _ (by omega)]
        rfl
      rw [e]
      cases hy : f (sp.toNatClampNeg + i) with
      | none => exact ⟨rfl, trivial⟩
      | some y =>
        obtain ⟨cellV, g1, g2, ⟨kC, hkC⟩, hasg⟩ := m_anyE hC hw (hel i hi y hy)
        obtain ⟨kA, comp, r1, r2, r3, -⟩ := (kTy hE (t := 3) rfl).2
        cases hk1.symm.trans r1
        cases hkk1.symm.trans r2
        obtain ⟨kE, hkE, -⟩ := Vm.findClass_spec r3
        obtain ⟨kC', hkC', -⟩ := hal.2.2 _ _ hkC
        obtain ⟨kE', hkE', -⟩ := hal.2.2 _ _ hkE
        refine ⟨rfl, cellV, (show T.heap[y]? = some cellV by rw [hT]; exact g1), (fun q h => by rw [h] at g2; cases g2), ⟨kC', hkC'⟩, ?_, ?_⟩
        · exact ⟨kE', hkE'⟩
        · show vm₁.assignable _ _ = true
          rw [hal.assignable]
          exact hasg _ r3)
    (g := F0 m pc ls (.int n :: .int dp :: .ref a :: .int sp :: .ref a0 :: rest)) rfl (by rw [hml]; exact hsize) (rest := rest) rfl (by rw [hb]; exact hdg) hframes (Nat.le_trans (Nat.le_of_eq (by show 2 * 0 + _ + _ = _; omega)) (cat_nf hcat hlo))
  have e1 : copied (arrV (G.2.1 3) n0 (fun j => va_rf (f j))) (arrV (G.2.1 3) n1 (fun j => va_rf (g j))) sp dp n = arrV (G.2.1 3) n1 (fun j => va_rf (va_cpy f g sp.toNatClampNeg dp.toNatClampNeg n.toNatClampNeg j)) := va_copied (fun z => va_rf z) _ _ f g h4
  rw [e1] at X' step
  have hl : a < H.size := hw.1.lt ha1
  generalize hce : arrV (G.2.1 3) n1 (fun j => va_rf (va_cpy f g sp.toNatClampNeg dp.toNatClampNeg n.toNatClampNeg j)) = ce at X' step
  have hheap : ((T.setVm vm').setCell a ce).heap = H.setIfInBounds a ce := by rw [← hT]; rfl
  obtain ⟨t, a1, b1⟩ := kk (H.setIfInBounds a ce) _ (hw.putL (e1 := .inr (.inr (3, n1, va_cpy f g sp.toNatClampNeg dp.toNatClampNeg n.toNatClampNeg))) ha1 hB (m_at.arrR (show (H.setIfInBounds a ce)[a]? = some _ by rw [hce]; simp [Array.getElem?_setIfInBounds, hl])) (by simp) (fun q hq => by simp [Array.getElem?_setIfInBounds, Ne.symm hq]) (fun q hq => by obtain ⟨z, -, hz⟩ := List.mem_map.mp hq; rw [← hz]) rfl) _ hheap X'
  exact ⟨t, step t a1, b1⟩
theorem m_aast (hC : Cx G p s m args meth c cc nL own Ts) (hw : wD G s M0 M sz H locs) {i : Int32} (hv : isE M y = true) (hg : sR G.2.2.1 M x i y = some M1) (hdg : decode cc pc = .ok (.aastore, 1))
    (kk : ∀ (H1 : Heap) (locs1 : List Loc), wD G s M0 M1 sz H1 locs1 → W p l e R s m args below meth c H1 locs1 cells slots Q (F0 m (pc + 1) ls rest)) : W p l e R s m args below meth c H locs cells slots Q (F0 m pc ls (va_rf y :: .int i :: va_rf x :: rest)) := by
  obtain ⟨v, ci, fs, r, rfl, hM, hr, hev⟩ := isE.spec hv
  obtain ⟨a, n, f, rfl, ha, hin, hBa, rfl⟩ := sR.spec hg
  obtain ⟨hx, hb, hml, hown, hts, hloc, hE, hBs⟩ := id hC
  have hlt : i.toNatClampNeg < n := Nat.not_le.mp fun q => hin (Or.inr q)
  have h0 : ¬ i < 0 := fun q => hin (Or.inl q)
  obtain ⟨cellV, g1, g3, ⟨kC, hkC⟩, hasg⟩ := m_anyE hC hw hv
  obtain ⟨kA, comp, k1, k2, k3, -⟩ := (kTy hE (t := 3) rfl).2
  obtain ⟨kE, hkE, -⟩ := Vm.findClass_spec k3
  refine W.aast hx hb ((hw.1 a _ ha).2 hBa) (fun q h => by cases h) (fun h => by cases h) k1 k2 rfl hkE ⟨h0, by show _ < (arrV _ _ _).slots.size; rw [arrV_size]; exact hlt⟩ g1 (fun q h => by rw [h] at g3; cases g3) hkC (hasg _ k3) rfl rfl hdg fun H1 e1 z oq => ?_
  refine kk H1 _ (hw.put ha hBa (e1 := .inr (.inr (_, n, va_up f i.toNatClampNeg (some v)))) (m_at.arrR ?_) z oq rfl)
  show H1[a]? = some (arrV _ _ _)
  rw [e1, arrV_store]
  exact congrArg (fun z => some (arrV (G.2.1 3) n z)) (upR_store f i.toNatClampNeg (some v))
theorem m_anew (hC : Cx G p s m args meth c cc nL own Ts) (hw : wD G s M0 M sz H locs) {index cap : Nat} {n : Int32} (hcl : Cond.classLink own index "java/lang/Object" ∈ Ts) (hn : ¬ n < 0) (hbd : n.toNatClampNeg ≤ cap) (hcap : cap ≤ 100000000) (hcells : cells + 1 ≤ R.cells) (hslots : slots + cap ≤ R.slots) (hdg : decode cc pc = .ok (.anewarray index, 3))
    (kk : ∀ (H1 : Heap), wD G s M0 (va_up M sz (some (.inr (.inr (3, n.toNatClampNeg, fun _ => none))))) (sz + 1) H1 locs → W p l e R s m args below meth c H1 locs (cells + 1) (slots + cap) Q (F0 m (pc + 3) ls (va_rf (some sz) :: rest))) : W p l e R s m args below meth c H locs cells slots Q (F0 m pc ls (.int n :: rest)) := by
  obtain ⟨hx, hb, hml, hown, hts, hloc, hE, hBs⟩ := id hC
  have hz := hw.2.1
  refine W.anew hx hb hown (hts _ hcl) (va_AO.use hE.2.2.2.2.2.1) rfl hdg rfl hn (by omega) hcells (Nat.le_trans (Nat.add_le_add_left hbd slots) hslots) fun cA kA comp f1 f2 f3 f4 => ?_
  rw [hz]
  refine W.widen (Nat.le_refl _) (Nat.add_le_add_left hbd slots) ?_
  generalize hH1 : H.push ({ cls := cA, slots := Array.replicate n.toNatClampNeg .null, vm := .none } : Cell) = H1
  have z1 : H1.size = H.size + 1 := by rw [← hH1, Array.size_push]
  have e1 : H1[H.size]? = some (arrV cA n.toNatClampNeg (fun _ => .null)) := by rw [← hH1, Array.getElem?_push_size, ← arrV_new]
  have o1 : ∀ q : Nat, q < H.size → H1[q]? = H[q]? := fun q hq => by rw [← hH1, Array.getElem?_push, if_neg (Nat.ne_of_lt hq)]
  have hcA : cA = G.2.1 3 := by
    obtain ⟨-, -, -, -, -, h4⟩ := (kTy hE (t := 3) rfl).2
    exact (Option.some.inj (h4.symm.trans f1)).symm
  refine kk H1 (hw.new (e1 := .inr (.inr (3, n.toNatClampNeg, fun _ => none))) (m_at.arrR ?_) z1 o1 rfl)
  show H1[sz]? = some (arrV _ _ _)
  rw [← hz, e1, hcA]
  rfl
theorem m_cloneB (hC : Cx G p s m args meth c cc nL own Ts) (hw : wD G s M0 M sz H locs) {index cap : Nat} (hg : kB G.2.2.1 M sz cap x = some M1) (hlink : Cond.methodLink own index ⟨"[B", "clone", "()Ljava/lang/Object;"⟩ ∈ Ts) (hsame : Cond.sameMethod "[B" "java/lang/Object" "clone" "()Ljava/lang/Object;" ∈ Ts) (hnat : Cond.native ⟨"java/lang/Object", "clone", "()Ljava/lang/Object;"⟩ ∈ Ts) (hinst : Cond.instanceMethod ⟨"java/lang/Object", "clone", "()Ljava/lang/Object;"⟩ ∈ Ts) (hsel : Cond.selects "[B" ⟨"[B", "clone", "()Ljava/lang/Object;"⟩ ⟨"java/lang/Object", "clone", "()Ljava/lang/Object;"⟩ ∈ Ts)
    (hsize : ls.size = nL) (hframes : 1 ≤ R.frames) (hcat : (rest.map fun v => v.category).sum ≤ 8) (hlo : 22 ≤ R.locals) (hcells : cells + 1 ≤ R.cells) (hslots : slots + cap ≤ R.slots) (hdg : decode cc pc = .ok (.invokevirtual index, 3))
    (kk : ∀ (H1 : Heap), wD G s M0 M1 (sz + 1) H1 locs → W p l e R s m args below meth c H1 locs (cells + 1) (slots + cap) Q (F0 m (pc + 3) ls (va_rf (some sz) :: rest))) : W p l e R s m args below meth c H locs cells slots Q (F0 m pc ls (va_rf x :: rest)) := by
  obtain ⟨a, n0, f, rfl, ha, hcap, hBa, hby, rfl⟩ := kB.spec hg
  obtain ⟨hx, hb, hml, hown, hts, hloc, hE, hBs⟩ := id hC
  have hz := hw.2.1
  have hT1 := kTy hE (t := 1) rfl
  have hc0 : H[a]? = some (arrV (G.2.1 1) n0 (fun j => .int (f j))) := (hw.1 a _ ha).2 hBa
  obtain ⟨c0, t0', f1, f2, f3⟩ := Cond.castable_spec (va_Nw.use (A := args) rfl hE.2.2.2.2.2.2.2.2.2)
  have hnm : s.vm.findClass "[B" = some (G.2.1 1) := hT1.2
  cases hnm.symm.trans f1
  intro T hT X
  have hcellT : T.heap[a]? = some (arrV (G.2.1 1) n0 (fun j => .int (f j))) := by rw [hT]; exact hc0
  obtain ⟨-, kA, hkA, comp, hkind⟩ := State.isArrayOf_alike X.warmed.alike (hT1.1 0 (fun _ => .null))
  obtain ⟨-, kS, hkS, compS, hkindS⟩ := hT1.1 0 (fun _ => .null)
  obtain ⟨vm', X', st⟩ := X.cloneArray hx hown (hts _ hlink) (hts _ hsame) (hts _ hnat) (hts _ hinst) (hts _ hsel) (a := a) (cell := arrV (G.2.1 1) n0 (fun j => .int (f j))) hcellT (fun k h => by cases h) (fun h => by cases h) hnm f2 f3
    (fun i v hv => by
      have hk' : T.vm.classes[G.2.1 1]? = some kA := hkA
      have hfit : fits .byte v = true := by
        by_cases hi : i < n0
        · rw [arrV_read _ _ hi] at hv
          cases hv
          rw [← hby i hi]
          exact pk_fb _
        · rw [Array.getElem?_eq_none (by rw [arrV_size]; omega)] at hv
          cases hv
      simpa [State.fitsSlot, State.slotType?, arrV, hk', hkind] using hfit)
    (g := F0 m pc ls (.ref a :: rest)) rfl (by rw [hml]; exact hsize) rfl (by rw [hb]; exact hdg) hframes (Nat.le_trans (Nat.le_of_eq (by show 2 * 0 + _ + 14 = _; omega)) (cat_14 hcat hlo)) hcells (by rw [arrV_size]; exact Nat.le_trans (Nat.add_le_add_left hcap slots) hslots) (hloader := Vm.clonesLoader_of_array hkS hkindS)
  rw [arrV_size] at X'
  generalize hce : arrV (G.2.1 1) n0 (fun j => Value.int (f j)) = ce at X' st
  generalize hH1 : H.push ({ cls := ce.cls, slots := ce.slots } : Cell) = H1
  have z1 : H1.size = H.size + 1 := by rw [← hH1, Array.size_push]
  have e1 : H1[H.size]? = some ({ cls := ce.cls, slots := ce.slots } : Cell) := by rw [← hH1, Array.getElem?_push_size]
  have o1 : ∀ q : Nat, q < H.size → H1[q]? = H[q]? := fun q hq => by rw [← hH1, Array.getElem?_push, if_neg (Nat.ne_of_lt hq)]
  have w2 : wD G s M0 (va_up M sz (some (.inr (.inl (1, n0, f))))) (sz + 1) H1 locs := hw.new (e1 := .inr (.inl (1, n0, f))) (m_at.arrI (by
    show H1[sz]? = some (arrV _ _ _)
    rw [← hz, e1, hce, ← hce]
    rfl)) z1 o1 rfl
  have k2 := W.widen (Nat.le_refl _) (Nat.add_le_add_left hcap slots) (kk H1 w2)
  obtain ⟨t, b1, b2⟩ := k2 ((T.setVm vm').pushCell ({ cls := ce.cls, slots := ce.slots } : Cell)) (by rw [← hH1, ← hT]; rfl) X'
  refine ⟨t, st t ?_, b2⟩
  have hs : T.heap.size = sz := by rw [hT]; exact hz
  rw [hs]
  exact b1
theorem m_ldcM (hC : Cx G p s m args meth c cc nL own Ts) {index : Nat} (hlink : Cond.classLink own index "[Ljava/lang/Object;" ∈ Ts) (hdg : decode cc pc = .ok (.ldc index, 2))
    (kk : W p l e R s m args below meth c H locs cells slots Q (F0 m (pc + 2) ls (va_rf (some (G.2.2.2 23)) :: rest))) : W p l e R s m args below meth c H locs cells slots Q (F0 m pc ls rest) := va_ldcM hC.1 hC.2.1 hC.2.2.2.1 (hC.tab _ hlink) hC.env.2.2.2.2.2.2.2.1 hdg kk
theorem m_getC (hC : Cx G p s m args meth c cc nL own Ts) (hw : wD G s M0 M sz H locs) {index a n : Nat} {f : Nat → Option Nat} (hxa : x = some a) (ha : M a = some (.inr (.inr (3, n, f)))) (hlink : Cond.methodLink own index ⟨"java/lang/Object", "getClass", "()Ljava/lang/Class;"⟩ ∈ Ts) (hsel : Cond.selects "[Ljava/lang/Object;" ⟨"java/lang/Object", "getClass", "()Ljava/lang/Class;"⟩ ⟨"java/lang/Object", "getClass", "()Ljava/lang/Class;"⟩ ∈ Ts) (hinst : Cond.instanceMethod ⟨"java/lang/Object", "getClass", "()Ljava/lang/Class;"⟩ ∈ Ts) (hnat : Cond.native ⟨"java/lang/Object", "getClass", "()Ljava/lang/Class;"⟩ ∈ Ts)
    (hsize : ls.size = nL) (hframes : 1 ≤ R.frames) (hcat : (rest.map fun v => v.category).sum ≤ 8) (hlo : 22 ≤ R.locals) (hdg : decode cc pc = .ok (.invokevirtual index, 3))
    (kk : W p l e R s m args below meth c H locs cells slots Q (F0 m (pc + 3) ls (va_rf (some (G.2.2.2 23)) :: rest))) : W p l e R s m args below meth c H locs cells slots Q (F0 m pc ls (va_rf x :: rest)) := by
  subst hxa
  have hT3 := kTy hC.env (t := 3) rfl
  exact va_getC hC.1 hC.2.1 (hC.2.2.1.trans hsize.symm) hC.2.2.2.1 (hC.tab _ hlink) (va_Dc.use hC.env.2.2.2.2.2.2.2.2.1) (hC.tab _ hsel) (hC.tab _ hinst) (hC.tab _ hnat) hC.env.2.2.2.2.2.2.2.1 (by obtain ⟨⟨ce, g1, g2, g3, -⟩, -⟩ := hw.1 a _ ha; exact ⟨ce, g1, g3, by rw [g2]; exact va_nmO hT3.2 rfl⟩) hframes (cat_14 hcat hlo) hdg kk
theorem m_castB (hC : Cx G p s m args meth c cc nL own Ts) (hw : wD G s M0 M sz H locs) {index : Nat} (hg : isR1 G.2.2.1 M x = true) (hlink : Cond.classLink own index "[B" ∈ Ts) (hdg : decode cc pc = .ok (.checkcast index, 3))
    (kk : W p l e R s m args below meth c H locs cells slots Q (F0 m (pc + 3) ls (va_rf x :: rest))) : W p l e R s m args below meth c H locs cells slots Q (F0 m pc ls (va_rf x :: rest)) := by
  obtain ⟨a, n, f, rfl, hB, ha⟩ := isR1.spec hg
  have hP : va_P G.1 vwCl [(a, .inl (G.2.1 1, (n, .inl f)))] H := fun k q hk => by
    have hz : k < 1 := (List.getElem?_eq_some_iff.mp hk).1
    rw [show k = 0 by omega] at hk
    cases hk
    exact (hw.1 a _ ha).2 hB
  exact va_castA hC.1 hC.2.1 hC.2.2.2.1 (hC.tab _ hlink) hP 0 rfl (show s.vm.findClass "[B" = some (G.2.1 1) from (kTy hC.env (t := 1) rfl).2) hdg kk
theorem m_runU (hC : Cx G p s m args meth c cc nL own Ts) (hw : wD G s M0 M sz H locs) {z y : MethodName} {bytes : ByteArray} {maxL n index ci N : Nat} {ret : Option FieldType} {ws ws' : List Cond} {rm : Room} {Qc : Array Value → State → Outcome → State → Prop} {free : Addr → Prop} {C owner : String} {T : u_T} {av st0 : List Value}
    (hM : Met l y ws rm (Pre G (va_rf x :: av) M sz) Qc rm.cells rm.slots free) (hT : GoodIn Ts (va_wsU own index C owner z y ws)) (hws : ws = Cond.code y bytes maxL ret :: ws') (hyx : y = ⟨owner, z.name, z.desc⟩) (hd : owner ≠ "java/lang/invoke/MethodHandle" ∧ owner ≠ "java/lang/invoke/VarHandle" ∧ (parseMethodDescriptor z.desc).map (fun d => d.parameters.length) = some n) (hR : rm.frames + 1 ≤ R.frames ∧ 8 + (maxL + 11) + rm.locals ≤ R.locals)
    (ho : isO M x ci = true) (hci : vwCl[ci]? = some (C, T, N)) (hn : av.length = n) (hsize : ls.size = nL) (hst : st0 = av.reverse ++ va_rf x :: rest) (hcat : (rest.map fun v => v.category).sum ≤ 8) (hdg : decode cc pc = .ok (.invokevirtual index, 3)) (hf : cells + rm.cells ≤ R.cells ∧ slots + rm.slots ≤ R.slots) :
    va_Run p l e R s m args below meth c H locs cells slots rm.cells rm.slots (F0 m pc ls st0) rest (Qc (va_rf x :: av).toArray) free := by
  obtain ⟨a, fs, rfl, ha⟩ := isO.spec ho
  exact va_runU (As := av) (rest := rest) hC.fix hM (va_cwU n hC.tab hT hws rfl rfl hyx hd hR) ⟨Pre.blind, m_recv hC hw ha hci, fun U hU hW => ⟨rfl, hw.env hC U hU hW⟩⟩ rfl hn hsize hst (lv_room hcat) hdg hf
theorem m_runO (hC : Cx G p s m args meth c cc nL own Ts) (hw : wD G s M0 M sz H locs) {z y : MethodName} {bytes : ByteArray} {maxL n index ci N : Nat} {ret : Option FieldType} {ws ws' : List Cond} {rm : Room} {Qc : Array Value → State → Outcome → State → Prop} {free : Addr → Prop} {C owner : String} {T : u_T} {av st0 : List Value} {b0 : ByteArray} {m00 : Nat} {r0 : Option FieldType}
    (hM : Met l y ws rm (Pre G (va_rf x :: av) M sz) Qc rm.cells rm.slots free) (hT : GoodIn Ts (va_wsO own index C owner z y ws)) (hws : ws = Cond.code y bytes maxL ret :: ws') (h0 : Cond.code ⟨owner, z.name, z.desc⟩ b0 m00 r0 ∈ Ts) (hd : owner ≠ "java/lang/invoke/MethodHandle" ∧ owner ≠ "java/lang/invoke/VarHandle" ∧ (parseMethodDescriptor z.desc).map (fun d => d.parameters.length) = some n) (hR : rm.frames + 1 ≤ R.frames ∧ 8 + (maxL + 11) + rm.locals ≤ R.locals)
    (ho : isO M x ci = true) (hci : vwCl[ci]? = some (C, T, N)) (hn : av.length = n) (hsize : ls.size = nL) (hst : st0 = av.reverse ++ va_rf x :: rest) (hcat : (rest.map fun v => v.category).sum ≤ 8) (hdg : decode cc pc = .ok (.invokevirtual index, 3)) (hf : cells + rm.cells ≤ R.cells ∧ slots + rm.slots ≤ R.slots) :
    va_Run p l e R s m args below meth c H locs cells slots rm.cells rm.slots (F0 m pc ls st0) rest (Qc (va_rf x :: av).toArray) free := by
  obtain ⟨a, fs, rfl, ha⟩ := isO.spec ho
  exact va_runU (As := av) (rest := rest) hC.fix hM (va_cwO n hC.tab hT hws rfl rfl h0 hd hR) ⟨Pre.blind, m_recv hC hw ha hci, fun U hU hW => ⟨rfl, hw.env hC U hU hW⟩⟩ rfl hn hsize hst (lv_room hcat) hdg hf
theorem m_runSU (hC : Cx G p s m args meth c cc nL own Ts) (hw : wD G s M0 M sz H locs) {y : MethodName} {bytes : ByteArray} {maxL n index ci N : Nat} {ret : Option FieldType} {ws ws' : List Cond} {rm : Room} {Qc : Array Value → State → Outcome → State → Prop} {free : Addr → Prop} {C : String} {T : u_T} {av st0 : List Value}
    (hM : Met l y ws rm (Pre G (va_rf x :: av) M sz) Qc rm.cells rm.slots free) (hT : GoodIn Ts (va_wsSU own index y ws)) (hws : ws = Cond.code y bytes maxL ret :: ws') (hd : y.name ≠ "<init>" ∧ (parseMethodDescriptor y.desc).map (fun d => d.parameters.length) = some n) (hR : rm.frames + 1 ≤ R.frames ∧ 8 + (maxL + 11) + rm.locals ≤ R.locals)
    (ho : isO M x ci = true) (hci : vwCl[ci]? = some (C, T, N)) (hn : av.length = n) (hsize : ls.size = nL) (hst : st0 = av.reverse ++ va_rf x :: rest) (hcat : (rest.map fun v => v.category).sum ≤ 8) (hdg : decode cc pc = .ok (.invokespecial index, 3)) (hf : cells + rm.cells ≤ R.cells ∧ slots + rm.slots ≤ R.slots) :
    va_Run p l e R s m args below meth c H locs cells slots rm.cells rm.slots (F0 m pc ls st0) rest (Qc (va_rf x :: av).toArray) free := by
  obtain ⟨a, fs, rfl, ha⟩ := isO.spec ho
  exact va_runSU (As := av) (rest := rest) (hC.env.1.1 ci _ hci).2 hC.fix hM (va_cwSU n hC.tab hT hws rfl rfl hd hR) ⟨Pre.blind, m_recv hC hw ha hci, fun U hU hW => ⟨rfl, hw.env hC U hU hW⟩⟩ rfl hn hsize hst (lv_room hcat) hdg hf
end MJ2
