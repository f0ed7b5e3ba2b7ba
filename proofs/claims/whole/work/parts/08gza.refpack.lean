/-! LOAN: the reference packs all -/
section RFQ
variable {u0 : MS} {l : Nat}
theorem t_l40 (hl : l < 17) (n5 : 0 ≤ vN u0 5 ∧ vN u0 5 ≤ 16) (hh : HouOK u0 l) (hw : ∀ i, i < (vN u0 5).toNat → 0 ≤ vR u0 8 i ∧ vR u0 8 i ≤ 999) (n : Nat) (hn : 60 ≤ n) : ∀ (rem : List Nat) (k : Nat) (u : MS) (ct : Nat → List Nat) (P cnt : Nat) (x : Int32), rem.length < k → RefP u0 u l ct P → CtOK u0 (vN u0 5).toNat ct P cnt → cnt + rem.length ≤ 16 → (∀ p x, x ∈ ct p → hadS u0 l x = true) → HasB x rem → rem.Pairwise (Bst (fun t => vR u0 8 t)) → (∀ a, a ∈ rem → (a < (vN u0 5).toNat ∧ hadS u0 l a = true) ∧ ∀ p, a ∉ ct p) → ∃ u1, f_X12_pack_L40 n (iI l) k u x = some u1 ∧ RefP u0 u1 l (pkL u0 (vR u0 16 (vR u0 25 l).toNat) rem ct P).1 (pkL u0 (vR u0 16 (vR u0 25 l).toNat) rem ct P).2 ∧ CtOK u0 (vN u0 5).toNat (pkL u0 (vR u0 16 (vR u0 25 l).toNat) rem ct P).1 (pkL u0 (vR u0 16 (vR u0 25 l).toNat) rem ct P).2 (cnt + rem.length) ∧ ∀ p x, x ∈ (pkL u0 (vR u0 16 (vR u0 25 l).toNat) rem ct P).1 p → hadS u0 l x = true := by
  intro rem
  induction rem with
  | nil =>
    intro k u ct P cnt x hk hR hc _ hhad hx _ _
    obtain ⟨k, rfl⟩ : ∃ k', k = k' + 1 := ⟨k - 1, by simp at hk; omega⟩
    refine ⟨u, ?_, hR, hc, hhad⟩
    unfold f_X12_pack_L40
    rw [if_pos ((hx.zero (fun a ha => by simp at ha)).mpr rfl)]
  | cons m rem ih =>
    intro k u ct P cnt x hk hR hc hcn hhad hx hpw hrem
    obtain ⟨k, rfl⟩ : ∃ k', k = k' + 1 := ⟨k - 1, by omega⟩
    rw [List.length_cons] at hk hcn
    have hP := hc.2.2
    have lt32 : ∀ a, a ∈ m :: rem → a < 32 := fun a ha => by
      have := (hrem a ha).1.1
      omega
    obtain ⟨⟨m1, m2⟩, m3⟩ := hrem m (by simp)
    have hpw2 := List.pairwise_cons.mp hpw
    have hnm : m ∉ rem := fun q => by
      have := hpw2.1 m q
      simp only [Bst] at this
      omega
    have r8 : (fun t => vR u 8 t) = fun t => vR u0 8 t := funext fun t => hR.vr (by omega) t
    have h49 := t_l49 (u := u) (x := x) (m := m) (rest := rem) (by rw [hR.vn]; exact n5) hx (by rw [r8]; exact hpw) (fun a ha => by rw [hR.vn]; exact (hrem a ha).1.1) n (iI l) n 0 (-1) (Nat.zero_le _) (by rw [hR.vn]; omega) (Or.inl ⟨rfl, fun a _ => Nat.zero_le _⟩)
    have h49' : f_X12_pack_L49 n u (iI l) x n (-1 : Int32) (0 : Int32) = some (iI m) := h49
    have h29 := hR.2.2.1
    have hwe : ∀ p : Nat, 0 ≤ weighS u l p ∧ weighS u l p ≤ 100000 := fun p => by
      rw [hR.weigh n5 hc hhad p]
      have := (hc.1 p).2.2
      omega
    have v8 := hw m m1
    have h108 := t_l108 (u := u) hl (t := m) (by omega) (by rw [hR.vn]; exact n5) (by
      unfold HouOK
      rw [hR.vr (by omega)]
      exact hh) (by rw [h29]; omega) hwe (by rw [hR.vr (by omega)]; omega) n hn (x &&& (((1 : Int32) <<< (iI (m : Int) &&& 31)) ^^^ (-1 : Int32))) n 0 (Nat.zero_le _) (by rw [h29]; omega)
    rw [h29, Int.toNat_natCast, Nat.sub_zero, hR.fps n5 hc hhad] at h108
    have h108' : f_X12_pack_L108 n u (iI l) (x &&& (((1 : Int32) <<< (iI (m : Int) &&& 31)) ^^^ (-1 : Int32))) (iI m) n (0 : Int32) = some (iI (fpL u0 (vR u0 16 (vR u0 25 l).toNat) ct m P 0)) := h108
    have hr := fpL_rng u0 (vR u0 16 (vR u0 25 l).toNat) ct m P 0
    rw [pkL]
    generalize fpL u0 (vR u0 16 (vR u0 25 l).toNat) ct m P 0 = p at *
    have hR2 := hR.put hc (m := m) (p := p) (by omega) (by omega) (by omega) m3
    have hc2 := hc.put m1 v8 (show p ≤ P by omega)
    have hput : ∀ q y, y ∈ putC ct p m q → y = m ∨ y ∈ ct q := fun q y hy => by
      by_cases e : q = p
      · subst e
        rw [putC_p] at hy
        rcases List.mem_append.mp hy with q1 | q1
        · exact Or.inr q1
        · simp only [List.mem_cons, List.not_mem_nil, or_false] at q1
          exact Or.inl q1
      · rw [putC_o e] at hy
        exact Or.inr hy
    obtain ⟨u1, w1, w2, w3, w4⟩ := ih k (pkU u l m p P) (putC ct p m) (if p = P then P + 1 else P) (cnt + 1) (x &&& (((1 : Int32) <<< (iI (m : Int) &&& 31)) ^^^ (-1 : Int32))) (by omega) hR2 hc2 (by omega) (fun q y hy => by
      rcases hput q y hy with e | e
      · rw [e]
        exact m2
      · exact hhad q y e) (hx.clr (by omega) hnm) hpw2.2 (fun a ha => by
      obtain ⟨a1, a2⟩ := hrem a (by simp [ha])
      refine ⟨a1, fun q hq => ?_⟩
      rcases hput q a hq with e | e
      · rw [e] at ha
        exact hnm ha
      · exact a2 q e)
    rw [show cnt + 1 + rem.length = cnt + (m :: rem).length by rw [List.length_cons]; omega] at w3
    refine ⟨u1, ?_, w2, w3, w4⟩
    rw [← w1]
    have hx0 : ¬ x = 0 := fun q => by
      have := (hx.zero lt32).mp q
      cases this
    have e16 : ∀ a : Nat, iI (l : Int) * (16 : Int32) + iI (a : Int) = iI ((l * 16 + a : Nat) : Int) := fun a => by
      rw [show (16 : Int32) = iI 16 from rfl, iI_mul, iI_add]
      congr 1
    have q1 : inb (iI ((l * 16 + m : Nat) : Int)) 272 := (iI_inb _ 272 (by omega)).mpr (by omega)
    have q2 : inb (iI ((l * 16 + p : Nat) : Int)) 272 := (iI_inb _ 272 (by omega)).mpr (by omega)
    have ql : inb (iI (l : Int)) 17 := (iI_inb _ 17 (by omega)).mpr (by omega)
    have c1 : (iI ((l * 16 + m : Nat) : Int)).toNatClampNeg = l * 16 + m := by rw [iI_clamp _ (by omega)]; omega
    have c2 : (iI ((l * 16 + p : Nat) : Int)).toNatClampNeg = l * 16 + p := by rw [iI_clamp _ (by omega)]; omega
    have cl : (iI (l : Int)).toNatClampNeg = l := by rw [iI_clamp _ (by omega)]; omega
    have e29 : u.2 29 l = iI (P : Int) := by rw [u2_iI, h29]
    conv => lhs; unfold f_X12_pack_L40
    rw [if_neg hx0, h49']
    simp only [Option.bind_some]
    rw [h108']
    simp only [Option.bind_some, e16, if_pos q1, if_pos q2, if_pos ql, c1, c2, cl, uA_n _ _ _ _ (show (29 : Nat) ≠ 30 by decide), uA_n _ _ _ _ (show (29 : Nat) ≠ 31 by decide), uA_n _ _ _ _ (show (29 : Nat) ≠ 32 by decide), e29]
    rw [it_le _ _ (by omega)]
    by_cases e : p = P
    · rw [if_pos (by omega)]
      have eu : pkU u l m p P = uA (uA (uA (uA u 30 (l * 16 + m) (iI p)) 31 (l * 16 + p) (-1)) 32 (l * 16 + p) (-1)) 29 l (iI (P : Int) + 1) := by
        unfold pkU
        rw [if_pos e, show (1 : Int32) = iI 1 from rfl, iI_add]
        rfl
      rw [eu]
    · rw [if_neg (by omega)]
      have eu : pkU u l m p P = uA u 30 (l * 16 + m) (iI p) := if_neg e
      rw [eu]
theorem t_l9 (hl : l < 17) (n : Nat) : ∀ (k i : Nat) (u : MS), i ≤ 16 → 16 - i < k → ∃ u1, f_X12_pack_L9 n (iI l) k u (iI i) = some u1 ∧ u1.1 = u.1 ∧ ∀ q j, u1.2 q j = if q = 30 ∧ l * 16 + i ≤ j ∧ j < l * 16 + 16 then iI (-1) else u.2 q j := by
  intro k
  induction k with
  | zero => intro i u _ h; omega
  | succ k ih =>
    intro i u hi hk
    unfold f_X12_pack_L9
    rw [show (16 : Int32) = iI 16 from rfl, it_le _ _ (by omega)]
    by_cases e : i = 16
    · rw [if_pos (by omega)]
      exact ⟨u, rfl, rfl, fun q j => by rw [if_neg (by omega)]⟩
    · have e16 : iI (l : Int) * iI 16 + iI (i : Int) = iI ((l * 16 + i : Nat) : Int) := by
        rw [iI_mul, iI_add]
        congr 1
      have q1 : inb (iI ((l * 16 + i : Nat) : Int)) 272 := (iI_inb _ 272 (by omega)).mpr (by omega)
      have c1 : (iI ((l * 16 + i : Nat) : Int)).toNatClampNeg = l * 16 + i := by rw [iI_clamp _ (by omega)]; omega
      obtain ⟨u1, w1, w2, w3⟩ := ih (i + 1) (uA u 30 (l * 16 + i) (-1)) (by omega) (by omega)
      refine ⟨u1, ?_, w2, fun q j => ?_⟩
      · rw [if_neg (by omega), e16, if_pos q1, c1, iI_s]
        exact w1
      · rw [w3, uA2]
        by_cases c : q = 30 ∧ l * 16 + i ≤ j ∧ j < l * 16 + 16
        · rw [if_pos c]
          by_cases d : q = 30 ∧ l * 16 + (i + 1) ≤ j ∧ j < l * 16 + 16
          · rw [if_pos d]
          · rw [if_neg d, if_pos (by omega)]
            rfl
        · rw [if_neg c, if_neg (by omega), if_neg (by omega)]
theorem t_pack (hl : l < 17) (n5 : 0 ≤ vN u0 5 ∧ vN u0 5 ≤ 16) (hh : HouOK u0 l) (hw : ∀ i, i < (vN u0 5).toNat → 0 ≤ vR u0 8 i ∧ vR u0 8 i ≤ 999) (n : Nat) (hn : 60 ≤ n) {lw : List Nat} (hlw : lw.length ≤ 16) (hb : HasB (u0.2 28 l) lw) (hp : lw.Pairwise (Bst (fun t => vR u0 8 t))) (hm : ∀ a, a ∈ lw → a < (vN u0 5).toNat ∧ hadS u0 l a = true) : ∃ u1, f_X12_pack n u0 (iI l) = some u1 ∧ RefP u0 u1 l (pkL u0 (vR u0 16 (vR u0 25 l).toNat) lw (fun _ => []) 0).1 (pkL u0 (vR u0 16 (vR u0 25 l).toNat) lw (fun _ => []) 0).2 ∧ CtOK u0 (vN u0 5).toNat (pkL u0 (vR u0 16 (vR u0 25 l).toNat) lw (fun _ => []) 0).1 (pkL u0 (vR u0 16 (vR u0 25 l).toNat) lw (fun _ => []) 0).2 lw.length ∧ ∀ p x, x ∈ (pkL u0 (vR u0 16 (vR u0 25 l).toNat) lw (fun _ => []) 0).1 p → hadS u0 l x = true := by
  have ql : inb (iI (l : Int)) 17 := (iI_inb _ 17 (by omega)).mpr (by omega)
  have cl : (iI (l : Int)).toNatClampNeg = l := by rw [iI_clamp _ (by omega)]; omega
  obtain ⟨u1, a1, a2, a3⟩ := t_l9 hl n n 0 (uA u0 29 l 0) (Nat.zero_le _) (by omega)
  have a1' : f_X12_pack_L9 n (iI l) n (uA u0 29 l 0) (0 : Int32) = some u1 := a1
  have hR : RefP u0 u1 l (fun _ => []) 0 := by
    refine ⟨a2, fun k i k1 k2 => ?_, ?_, fun t ht => ?_, fun p => List.nodup_nil, fun p hp => by omega⟩
    · rw [a3, if_neg (by omega), uA2, if_neg k1]
    · refine vR_eq (z := 0) ?_ (by omega)
      rw [a3, if_neg (by omega), uA2, if_pos ⟨rfl, rfl⟩]
      rfl
    · have ev : vR u1 30 (l * 16 + t) = -1 := vR_eq (by rw [a3, if_pos (by omega)]) (by omega)
      rw [ev]
      refine ⟨by omega, fun p => ⟨fun q => by simp at q, fun q => by omega⟩⟩
  obtain ⟨u2, w1, w2, w3, w4⟩ := t_l40 hl n5 hh hw n hn lw n u1 (fun _ => []) 0 0 (u0.2 28 l) (by omega) hR ⟨fun p => ⟨fun x hx => by simp at hx, by simp, by simp [sumN], by simp [sumN]⟩, fun p _ => rfl, Nat.le_refl _⟩ (by omega) (fun p x hx => by simp at hx) hb hp (fun a ha => ⟨hm a ha, fun p => by simp⟩)
  rw [Nat.zero_add] at w3
  refine ⟨u2, ?_, w2, w3, w4⟩
  unfold f_X12_pack
  simp only [if_pos ql, cl, a1', Option.bind_some]
  rw [hR.row (by omega)]
  exact w1
end RFQ
