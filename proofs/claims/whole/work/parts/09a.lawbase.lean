def R_law : String := "LoanBookLaw"
def lw_P (b : Addr) (xs : List Int32) (args : Array Value) (s : State) : Prop := args = #[.ref b] ∧ s.IntsAt b xs ∧ xs.length ≤ 3072 ∧ (Jvm.Cond.and given_1 narrow_1).before args s = true
def lw_Q (_ : Array Value) (s : State) (o : Outcome) (t : State) : Prop := o = .returned (some (.int 1)) ∧ Framed s o t [] 600000 7302250
def lw_Z (below : List Frame) (a : Array Value) (s : State) : State → Prop := fun t => ∃ o, t.status = .running ∧ Ended t below o ∧ lw_Q a s o t
/-- the law's own end, with 1 on the stack, nothing written that was there before, its room as the claim has it -/
theorem lw_ret {p : Program} {l : Launch} {e : Env} {s : State} {m : MethodId} {below : List Frame} {meth : Method} {c : Code} {b : Nat} (hx : p.tables.exec = Jvm.exec) (hb : c.code = code) (hr : meth.sig.returnType = ret) (hlocks : meth.locks = false) {pc : Nat} {H : Heap} {ls : Array Slot} (hdg : decode code pc = .ok (.ireturn, 1)) : W p l e room_1 s m #[Value.ref b] below meth c H [] 600000 7302250 (lw_Z below #[Value.ref b] s) (F0 m pc ls [.int 1]) := by
  intro T hT X
  obtain ⟨fs, hret, hrun, hended, hW, hframe⟩ := X.leave (v := some (.int 1)) (hlocks := hlocks) (fun h => by rw [hr] at h; cases h)
  have hmeth' : T.vm.method? m = some meth := X.method'
  refine ⟨T.setFrames fs, ?_, .returned (some (.int 1)), hrun, hended, rfl, ⟨_, rfl⟩, hW, hframe⟩
  jvm_step X.here [X.here.top, hx, hb, hdg, hmeth', hr, ret, narrow_b1]
  (try refine ⟨rfl, ?_⟩); (try refine ⟨rfl, ?_⟩)
  first | (intro acts; rw [hret _ acts rfl rfl rfl]) | rw [hret _ _ rfl rfl rfl]
  exact Steps.refl _
/-- what holds at the law's entry: the machine, the code, the tables' words (any of lw_tbl by 'hts w (by decide +kernel)'), the script of L ints xs at the cell b, what the Statement gives of the start (any of its parts by flat_of_before) -/
def lw_At (p : Program) (s : State) (m : MethodId) (meth : Method) (c : Code) (b L : Nat) (xs : Nat → Int32) : Prop :=
  p.tables.exec = Jvm.exec ∧ c.code = code ∧ meth.sig.returnType = ret ∧ c.maxLocals = 4 ∧ s.vm.findClass R_law = some m.cls ∧ (∀ w ∈ lw_tbl, w.before #[Value.ref b] s = true) ∧ va_X b L xs s s.heap ∧ b < s.heap.size ∧ meth.locks = false ∧ (Jvm.Cond.and given_1 narrow_1).before #[Value.ref b] s = true
/-! THE LAW'S WORLD: the class's world M, the reference's numbers u at m0, the constants L -/
def lD (G : wG) (s : State) (m0 : Nat) (L M : Mem) (u : MS) (sz : Nat) (H : Heap) (locs : List Loc) : Prop :=
  wD G s (fun _ => none) M sz H locs ∧ wD G s (fun _ => none) (Mm m0 u L) sz H locs ∧ MoOK G m0 L ∧ (∀ a, G.2.2.1 ≤ a → L a = none) ∧ (∀ a, m0 ≤ a → a < m0 + 36 → M a = none) ∧ m0 + 36 ≤ sz ∧ G.2.2.1 = s.heap.size
theorem Mm_out {m0 : Nat} {u : MS} {L : Mem} {a : Nat} (h : m0 + 36 ≤ a) : Mm m0 u L a = none := by
  unfold Mm
  rw [if_neg (by omega), if_neg (by omega), List.getElem?_eq_none (by show 35 ≤ _; omega)]
  rfl
section LAWROWS
variable {p : Program} {l : Launch} {e : Env} {R : Room} {s : State} {m : MethodId} {args : Array Value} {below : List Frame} {meth : Method} {c : Code} {H : Heap} {locs : List Loc} {cells slots : Nat} {Q : State → Prop}
variable {cc : ByteArray} {pc : Nat} {ls : Array Slot} {rest : List Value} {G : wG} {nL : Nat} {own : String} {Ts : List Cond} {K M M1 : Mem} {sz sz1 m0 : Nat} {L : Mem} {u u1 : MS} {x : Option Nat}
theorem lAs (hB : G.2.2.1 = s.heap.size) (q : Nat) : As G (fun _ => none) s.heap.size q ↔ s.heap.size ≤ q := ⟨fun h => h.elim (fun h => absurd rfl h.2) id, Or.inr⟩
theorem wD.two (hw : wD G s (fun _ => none) M sz H locs) (hk : wD G s (fun _ => none) K sz H locs) (hB : G.2.2.1 = s.heap.size) (hdis : ∀ a, K a ≠ none → ¬ As G M sz a) {t : State} {H1 : Heap} {locs1 : List Loc} (ht : t.heap = H1) (hp : Post G M sz M1 sz1 () t) (hfr : ∀ q : Nat, q < H.size → ¬ As G M sz q → H1[q]? = H[q]?) (hS : va_S (As G (fun _ => none) s.heap.size) s.heap H1 locs1) : wD G s (fun _ => none) M1 sz1 H1 locs1 ∧ wD G s (fun _ => none) K sz1 H1 locs1 := by
  subst ht
  refine ⟨⟨hp.2.1, hp.1, hS, fun a ha _ => (lAs hB a).mpr (by rw [← hB]; exact ha)⟩, ⟨hk.1.kept (fun a ha => ?_), hp.1, hS, fun a ha _ => (lAs hB a).mpr (by rw [← hB]; exact ha)⟩⟩
  cases he : K a with
  | none => exact absurd he ha
  | some e => exact hfr a (hk.1.lt he) (hdis a ha)
theorem l_contC (hC : Cx G p s m args meth c cc nL own Ts) (hw : lD G s m0 L M u sz H locs) {mc ms : Nat} {st0 : List Value} {a : Array Value} {r : Int32} (hr : va_Run p l e R s m args below meth c H locs cells slots mc ms (F0 m pc ls st0) rest (va_Qi (fun x (_ : Unit) => x = r) (Post G M sz M1 sz1) (As G M sz) a) (As G M sz))
    (kk : ∀ (H1 : Heap) (locs1 : List Loc), lD G s m0 L M1 u sz1 H1 locs1 → W p l e R s m args below meth c H1 locs1 (cells + mc) (slots + ms) Q (F0 m (pc + 3) ls (.int r :: rest))) : W p l e R s m args below meth c H locs cells slots Q (F0 m pc ls st0) := by
  obtain ⟨h1, h2, h3, h4, h5, h6, h7⟩ := hw
  have hsub := h1.sub hC
  refine va_calli hr h1.2.2.1 (fun q _ h => hsub q h) hsub (fun r1 u0 t H1 locs1 ht hvm hp hB hz hk hS => ?_)
  subst hp
  have hdis : ∀ a, Mm m0 u L a ≠ none → ¬ As G M sz a := by
    intro a ha h
    have hlt : a < m0 + 36 := by
      rcases Nat.lt_or_ge a (m0 + 36) with q | q
      · exact q
      · exact absurd (Mm_out q) ha
    rcases h with ⟨g1, g2⟩ | h
    · by_cases hm : m0 ≤ a
      · exact g2 (h5 a hm hlt)
      · unfold Mm at ha
        rw [if_pos (by omega)] at ha
        exact ha (h4 a g1)
    · omega
  obtain ⟨w1, w2⟩ := h1.two h2 h7 hdis ht hB hk hS
  have hle : sz ≤ sz1 := by rw [← h1.2.1, ← w1.2.1]; exact hz
  refine kk H1 locs1 ⟨w1, w2, h3, h4, fun a g1 g2 => ?_, by omega, h7⟩
  cases he : M1 a with
  | none => rfl
  | some e1 =>
    rcases hB.2.2 a (Nat.le_trans h3.2 g1) (by rw [he]; exact Option.some_ne_none _) with ⟨_, q⟩ | q
    · exact absurd (h5 a g1 g2) q
    · omega
theorem l_contM (hC : Cx G p s m args meth c cc nL own Ts) (hw : lD G s m0 L M u sz H locs) {mc ms : Nat} {st0 : List Value} {a : Array Value} {r : Int32} (hr : va_Run p l e R s m args below meth c H locs cells slots mc ms (F0 m pc ls st0) rest (va_Qi (fun x (_ : Unit) => x = r) (Post G (Mm m0 u L) sz (Mm m0 u1 L) sz) (As G (Mm m0 u L) sz) a) (As G (Mm m0 u L) sz))
    (kk : ∀ (H1 : Heap) (locs1 : List Loc), lD G s m0 L M u1 sz H1 locs1 → W p l e R s m args below meth c H1 locs1 (cells + mc) (slots + ms) Q (F0 m (pc + 3) ls (.int r :: rest))) : W p l e R s m args below meth c H locs cells slots Q (F0 m pc ls st0) := by
  obtain ⟨h1, h2, h3, h4, h5, h6, h7⟩ := hw
  have hsub := h2.sub hC
  refine va_calli hr h1.2.2.1 (fun q _ h => hsub q h) hsub (fun r1 u0 t H1 locs1 ht hvm hp hB hz hk hS => ?_)
  subst hp
  have hdis : ∀ a, M a ≠ none → ¬ As G (Mm m0 u L) sz a := by
    intro a ha h
    rcases h with ⟨g1, g2⟩ | h
    · by_cases hm : m0 ≤ a
      · rcases Nat.lt_or_ge a (m0 + 36) with q | q
        · exact ha (h5 a hm q)
        · exact g2 (Mm_out q)
      · unfold Mm at g2
        rw [if_pos (by omega)] at g2
        exact g2 (h4 a g1)
    · cases he : M a with
      | none => exact ha he
      | some e1 =>
        have := h1.1.lt he
        rw [h1.2.1] at this
        omega
  obtain ⟨w1, w2⟩ := h2.two h1 h7 hdis ht hB hk hS
  exact kk H1 locs1 ⟨w2, w1, h3, h4, h5, h6, h7⟩
theorem l_two (hC : Cx G p s m args meth c cc nL own Ts) (hw : wD G s (fun _ => none) M sz H locs) (hkw : wD G s (fun _ => none) K sz H locs) (hB : G.2.2.1 = s.heap.size) (hdis : ∀ a, K a ≠ none → ¬ As G M sz a) {mc ms : Nat} {st0 : List Value} {a : Array Value} (hr : va_Run p l e R s m args below meth c H locs cells slots mc ms (F0 m pc ls st0) rest (va_Qv (fun (_ : Unit) => True) (Post G M sz M1 sz1) (As G M sz) a) (As G M sz))
    (kk : ∀ (H1 : Heap) (locs1 : List Loc), wD G s (fun _ => none) M1 sz1 H1 locs1 → wD G s (fun _ => none) K sz1 H1 locs1 → W p l e R s m args below meth c H1 locs1 (cells + mc) (slots + ms) Q (F0 m (pc + 3) ls rest)) : W p l e R s m args below meth c H locs cells slots Q (F0 m pc ls st0) := by
  have hsub := hw.sub hC
  refine va_callv hr hw.2.2.1 (fun q _ h => hsub q h) hsub (fun u t H1 locs1 ht hvm hp hBt hz hk hS => ?_)
  obtain ⟨w1, w2⟩ := hw.two hkw hB hdis ht hBt hk hS
  exact kk H1 locs1 w1 w2
theorem wD.part (hw : wD G s (fun _ => none) M sz H locs) (h : ∀ a e, K a = some e → M a = some e) : wD G s (fun _ => none) K sz H locs := ⟨fun a e he => hw.1 a e (h a e he), hw.2.1, hw.2.2.1, fun a ha hn => hw.2.2.2 a ha (by
  cases he : K a with
  | none => exact absurd he hn
  | some x => rw [h a x he]; exact Option.some_ne_none x)⟩
end LAWROWS
theorem RepK.wideS {B : Nat} {S : Nat → Nat} {L : Mem} {x0 : Nat} {ad rho : Nat → Nat} {xl : Nat → List Nat} {M : Mem} {u : MS} {sz sz2 : Nat} (h : RepK B S L x0 ad rho xl M u sz) (hle : sz ≤ sz2) : RepK B S L x0 ad rho xl M u sz2 := ⟨⟨h.1.1, fun a ha => ⟨(h.1.2 a ha).1, Nat.lt_of_lt_of_le (h.1.2 a ha).2 hle⟩⟩, h.2⟩
