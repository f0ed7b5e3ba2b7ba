/-! LOAN: the draft: all things packed, class -/
def pkL (u : MS) (lim : Int) : List Nat → (Nat → List Nat) → Nat → (Nat → List Nat) × Nat
  | [], ct, P => (ct, P)
  | m :: l, ct, P => pkL u lim l (putC ct (fpL u lim ct m P 0) m) (if fpL u lim ct m P 0 = P then P + 1 else P)
def CtOK (u : MS) (T : Nat) (ct : Nat → List Nat) (P cnt : Nat) : Prop := (∀ p, (∀ x, x ∈ ct p → x < T) ∧ (ct p).length ≤ cnt ∧ 0 ≤ sumN (fun t => vR u 8 t) (ct p) ∧ sumN (fun t => vR u 8 t) (ct p) ≤ cnt * 999) ∧ (∀ p, P ≤ p → ct p = []) ∧ P ≤ cnt
theorem CtOK.put {u : MS} {T : Nat} {ct : Nat → List Nat} {P cnt p m : Nat} (h : CtOK u T ct P cnt) (hm : m < T) (hw : 0 ≤ vR u 8 m ∧ vR u 8 m ≤ 999) (hp : p ≤ P) : CtOK u T (putC ct p m) (if p = P then P + 1 else P) (cnt + 1) := by
  obtain ⟨h1, h2, h3⟩ := h
  refine ⟨fun q => ?_, fun q hq => ?_, ?_⟩
  · obtain ⟨a1, a2, a3, a4⟩ := h1 q
    by_cases e : q = p
    · subst e
      rw [putC_p, sumN_put, List.length_append]
      refine ⟨fun x hx => ?_, by simp; omega, by omega, by push_cast; omega⟩
      rcases List.mem_append.mp hx with q1 | q1
      · exact a1 x q1
      · simp only [List.mem_cons, List.not_mem_nil, or_false] at q1
        omega
    · rw [putC_o e]
      exact ⟨a1, by omega, a3, by push_cast; omega⟩
  · by_cases e : p = P
    · rw [if_pos e] at hq
      rw [putC_o (by omega)]
      exact h2 q (by omega)
    · rw [if_neg e] at hq
      rw [putC_o (by omega)]
      exact h2 q hq
  · split <;> omega
section PK3
variable {B : Nat} {S : Nat → Nat} {M : Mem} {u : MS} {ad rh pa : Nat → Nat} {ct : Nat → List Nat} {a0 ha sz m T P zz cnt : Nat} {A st D : Int32} {lim : Int}
theorem z_pack1 (d : DraC S ad M rh u a0 ha A st D pa ct P) (own : OwnD rh sz zz P) (hBs : B ≤ sz) (hz : sz ≤ zz) (hS : EmpOK S M) (hS2 : S 20 < B) (hT : ThK ad M u T) (hTo : ∀ i, i < T → ad (1000 + i) < sz) (hc : CtOK u T ct P cnt) (hcnt : cnt ≤ 15) (hm : m < T) (hw : 0 ≤ vR u 8 m ∧ vR u 8 m ≤ 999) (hh : gI M (some ha) 6 1 = some (iI lim)) (hlim : -2147483648 ≤ lim ∧ lim < 2147483648) (n : Nat) (hn : 60 ≤ n) : ∃ (M1 : Mem) (zz1 : Nat), f_X4_pack B S n M zz (some a0) (some (ad (1000 + m))) = some (M1, zz1) ∧ PkO S ad sz M rh zz u a0 ha A st D pa ct P (fpL u lim ct m P 0) m M1 zz1 := by
  obtain ⟨h1, h2, h3⟩ := hc
  have hL2 := z_packL2 (B := B) (zz := zz) d hh hlim hT (fun p hp => by
    obtain ⟨a1, a2, a3, a4⟩ := h1 p
    exact ⟨a1, a3, by omega⟩) hm (by omega) n hn 18 0 (Nat.zero_le _) (by omega)
  rw [Nat.sub_zero] at hL2
  have hL2' : f_X4_pack_L2 B S n (some a0) (some (ad (1000 + m))) 18 M zz (0 : Int32) = _ := hL2
  have hr := fpL_rng u lim ct m P 0
  unfold f_X4_pack
  rw [hL2']
  by_cases c : fpL u lim ct m P 0 < P
  · obtain ⟨M1, zz1, e1, e2⟩ := z_pkE d own hBs hz hS hS2 hT hTo (fun p hp => by
      obtain ⟨a1, a2, a3, a4⟩ := h1 p
      exact ⟨a1, by omega⟩) hm c
    rw [if_pos c, e1]
    exact ⟨M1, zz1, rfl, e2⟩
  · have e : fpL u lim ct m P 0 = P := by omega
    obtain ⟨M1, zz1, e1, e2⟩ := z_pkN d own hBs hz hS hS2 hT hTo (by omega) (h2 P (Nat.le_refl _)) hm
    rw [if_neg c, e]
    exact ⟨M1, zz1, e1, e2⟩
theorem z_packA {rhoT : Nat → Nat} {wt : Nat} {lt : List Nat} (hBs : B ≤ sz) (hS2 : S 20 < B) (hTo : ∀ i, i < T → ad (1000 + i) < sz) (hw : ∀ i, i < T → 0 ≤ vR u 8 i ∧ vR u 8 i ≤ 999) (hlt : ∀ x, x ∈ lt → x < T) (hl16 : lt.length ≤ 16) (hha : ha < sz) (hlim : -2147483648 ≤ lim ∧ lim < 2147483648) (n : Nat) (hn : 60 ≤ n) : ∀ (rem : List Nat) (q k : Nat) (M : Mem) (zz : Nat) (rh pa : Nat → Nat) (ct : Nat → List Nat) (P : Nat), lt.drop q = rem → q + rem.length = lt.length → rem.length < k → DraC S ad M rh u a0 ha A st D pa ct P → OwnD rh sz zz P → sz ≤ zz → EmpOK S M → ThK ad M u T → CtOK u T ct P q → gI M (some ha) 6 1 = some (iI lim) → LisR S M rhoT 999 wt (lt.map (fun t => ad (1000 + t))) → (∀ y, rhoT y = 999 → rh y = 0 ∧ y < zz) → ∃ (M1 : Mem) (zz1 : Nat) (rh1 pa1 : Nat → Nat), f_X11_draftLoan_L83 B S n (some a0) (some wt) k M zz (iI q) = some (some a0, M1, zz1) ∧ zz ≤ zz1 ∧ (∀ y, rh y = 0 → y < zz → M1 y = M y) ∧ (∀ y, y < zz → rh1 y = rh y) ∧ OwnD rh1 sz zz1 (pkL u lim rem ct P).2 ∧ DraC S ad M1 rh1 u a0 ha A st D pa1 (pkL u lim rem ct P).1 (pkL u lim rem ct P).2 ∧ CtOK u T (pkL u lim rem ct P).1 (pkL u lim rem ct P).2 lt.length := by
  intro rem
  induction rem with
  | nil =>
    intro q k M zz rh pa ct P hd hq hk d own hz hS hT hc hh hl hT9
    obtain ⟨k, rfl⟩ : ∃ k', k = k' + 1 := ⟨k - 1, by simp at hk; omega⟩
    have es := hl.size
    rw [List.length_map] at es
    simp at hq
    refine ⟨M, zz, rh, pa, ?_, Nat.le_refl _, fun _ _ _ => rfl, fun _ _ => rfl, own, d, by rw [← hq]; exact hc⟩
    unfold f_X11_draftLoan_L83
    rw [if_pos hl.is, es]
    simp only [Option.bind_some]
    rw [it_le _ _ (by omega), if_pos (by omega)]
  | cons m rem ih =>
    intro q k M zz rh pa ct P hd hq hk d own hz hS hT hc hh hl hT9
    obtain ⟨k, rfl⟩ : ∃ k', k = k' + 1 := ⟨k - 1, by omega⟩
    rw [List.length_cons] at hq hk
    have es := hl.size
    rw [List.length_map] at es
    have hm : lt[q]? = some m := by
      have := congrArg (fun l => l[0]?) hd
      simpa using this
    have hmT : m < T := hlt m (List.mem_of_getElem? hm)
    have hget := hl.get (i := (q : Int)) (x := ad (1000 + m)) (by omega) (by rw [Int.toNat_natCast, List.getElem?_map, hm]; rfl)
    obtain ⟨v3, v4, v5, v6, v8, q1⟩ := hT m hmT
    obtain ⟨M1, zz1, e1, rh1, pa1, f1, f2, f3, f4, f5⟩ := z_pack1 d own hBs hz hS hS2 hT hTo hc (by omega) hmT (hw m hmT) hh hlim n hn
    have fr : ∀ y, y < sz → M1 y = M y := fun y hy => f2 y (own.lo (Or.inl hy)) (by omega)
    have hr := fpL_rng u lim ct m P 0
    obtain ⟨M2, zz2, rh2, pa2, w1, w2, w3, w4, w5, w6, w7⟩ := ih (q + 1) k M1 zz1 rh1 pa1 _ _ (by rw [← List.drop_drop, hd]; rfl) (by omega) (by omega) f5 f4 (by omega) (by
      obtain ⟨w, hw⟩ := hS
      exact ⟨w, (fr _ (by omega)).trans hw⟩) (fun i hi => by
      obtain ⟨v3, v4, v5, v6, v8, q1⟩ := hT i hi
      exact ⟨v3, v4, v5, v6, v8, (fr _ (hTo i hi)).trans q1⟩) (hc.put hmT (hw m hmT) (by omega)) (by
      rw [← hh]
      unfold gI
      simp only [Option.bind_some, fr _ hha]) (hl.fr (fun y hy => ⟨f2 y (hT9 y hy).1 (hT9 y hy).2, hy⟩)) (fun y hy => by
      have := hT9 y hy
      rw [f3 y this.2]
      exact ⟨this.1, by omega⟩)
    refine ⟨M2, zz2, rh2, pa2, ?_, by omega, fun y h1 h2 => ?_, fun y hy => (w4 y (by omega)).trans (f3 y hy), w5, w6, w7⟩
    · unfold f_X11_draftLoan_L83
      rw [if_pos hl.is, es]
      simp only [Option.bind_some]
      rw [it_le _ _ (by omega), if_neg (by omega), if_pos hl.is, hget]
      simp only [Option.bind_some]
      obtain ⟨⟨qq, d1, -⟩, -⟩ := d
      rw [if_pos (Or.inr (isO_at q1)), if_pos (isO_at d1.1), e1]
      simp only [Option.bind_some]
      rw [iI_s]
      exact w1
    · rw [w3 y (by rw [f3 y h2]; exact h1) (by omega)]
      exact f2 y h1 h2
end PK3
