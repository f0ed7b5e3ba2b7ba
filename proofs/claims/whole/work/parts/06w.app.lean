/-! APPRAISE, both sides -/
theorem sort_inj {f : Nat → Int} {l : List Nat} (hs : l.Pairwise (fun a b => f a < f b)) {i j a b : Nat} (hi : l[i]? = some a) (hj : l[j]? = some b) (e : f a = f b) : i = j ∧ a = b := by
  obtain ⟨i1, i2⟩ := List.getElem?_eq_some_iff.mp hi
  obtain ⟨j1, j2⟩ := List.getElem?_eq_some_iff.mp hj
  have hp := List.pairwise_iff_getElem.mp hs
  have : i = j := by
    by_cases c : i < j
    · have := hp i j i1 j1 c
      rw [i2, j2] at this
      omega
    · by_cases c2 : j < i
      · have := hp j i j1 i1 c2
        rw [i2, j2] at this
        omega
      · omega
  subst this
  exact ⟨rfl, by rw [← i2, ← j2]⟩
section AR
variable {B : Nat} {S : Nat → Nat} {L : Mem} {x0 : Nat} {ad rho : Nat → Nat} {xl : Nat → List Nat} {M : Mem} {u : MS} {sz : Nat}
theorem z_tell_old {id a d v : Nat} {l : List Nat} {gd gv : Nat → Int32} (hA : AP M a d v l.length gd gv) (hdv : d ≠ v) (hB : B ≤ a ∧ B ≤ d ∧ B ≤ v) (ho : rho a = id ∧ rho d = id ∧ rho v = id) (hm : l.length ≤ 48) (hg : ∀ k j, l[k]? = some j → gd k = u.2 12 j ∧ gv k = u.2 13 j) (hs : l.Pairwise (fun a b => vR u 12 a < vR u 12 b)) (n : Nat) (hn : 60 ≤ n) (x y : Int) {k j : Nat} (hk : l[k]? = some j) (h1 : f_X0_latest n M (some a) (iI x) = some (iI k)) (h2 : f_X0_tells n M (some a) (iI x) = some 1) : ∃ M1, f_X0_tell B n M (some a) (iI x) (iI y) = some M1 ∧ (∀ q, q ≠ a → q ≠ d → q ≠ v → M1 q = M q) ∧ ∀ u1 : MS, u1.2 13 j = iI y → (∀ i, i ≠ j → u1.2 13 i = u.2 13 i) → (∀ i, u1.2 12 i = u.2 12 i) → AppR M1 rho id a u1 l := by
  have hlt := (List.getElem?_eq_some_iff.mp hk).1
  have hA2 := hA.setV hdv (upd gv k (iI y))
  refine ⟨_, ?_, fun q _ _ q3 => va_up_ne _ _ q3, fun u1 w1 w2 w3 => ⟨d, v, gd, upd gv k (iI y), ⟨hA2.1, ho.1⟩, ⟨hA2.2.1, ho.2.1⟩, ⟨hA2.2.2, ho.2.2⟩, hdv, hm, fun k' j' hk' => ?_⟩⟩
  · unfold f_X0_tell
    rw [isO_at hA.1, if_pos rfl, h2, Option.bind_some, if_neg (by decide), Option.bind_some, isO_at hA.1, if_pos rfl, h1, Option.bind_some, show (0 : Int32) = iI 0 from rfl, it_lt _ _ (by omega), if_neg (by omega), gI_at hA.1, gR_at hA.1]
    simp only [List.getElem?_cons_zero, List.getElem?_cons_succ, Option.bind_some]
    rw [it_le _ _ (by omega), if_neg (by omega), sI_at hB.2.2 hA.2.2 (by omega) (by omega), Int.toNat_natCast]
    rfl
  · refine ⟨by rw [w3]; exact (hg k' j' hk').1, ?_⟩
    unfold upd
    by_cases c : k' = k
    · subst c
      rw [hk] at hk'
      cases hk'
      rw [if_pos rfl, w1]
    · rw [if_neg c, w2 j' (fun e => c (sort_inj hs hk' hk (by rw [e])).1)]
      exact (hg k' j' hk').2
theorem z_tell_new {id a d v : Nat} {l : List Nat} {gd gv : Nat → Int32} (hA : AP M a d v l.length gd gv) (hdv : d ≠ v) (hB : B ≤ a ∧ B ≤ d ∧ B ≤ v) (ho : rho a = id ∧ rho d = id ∧ rho v = id) (hm : l.length < 48) (hg : ∀ k j, l[k]? = some j → gd k = u.2 12 j ∧ gv k = u.2 13 j) (n : Nat) (hn : 60 ≤ n) (x y : Int) (hx : -2147483648 ≤ x ∧ x < 2147483648) {q : Nat} (hq : q ≤ l.length) (hp2 : ∀ j, j ∈ l.drop q → x < vR u 12 j) (h1 : f_X0_latest n M (some a) (iI x) = some (iI ((q : Int) - 1))) (h2 : f_X0_tells n M (some a) (iI x) = some 0) (jn : Nat) : ∃ M1, f_X0_tell B n M (some a) (iI x) (iI y) = some M1 ∧ (∀ q, q ≠ a → q ≠ d → q ≠ v → M1 q = M q) ∧ ∀ u1 : MS, u1.2 12 jn = iI x → u1.2 13 jn = iI y → (∀ i, i ∈ l → u1.2 12 i = u.2 12 i ∧ u1.2 13 i = u.2 13 i) → AppR M1 rho id a u1 (l.take q ++ jn :: l.drop q) := by
  obtain ⟨M2, e2, hA2, f2⟩ := z_insertAt hdv hB n hn q l.length ⟨hq, hm⟩ (iI x) hA
  have hA2' : AP M2 a d v ((l.length + 1 : Nat) : Int) (upd (shf gd q l.length) q (iI x)) (shf gv q l.length) := by
    rw [show ((l.length + 1 : Nat) : Int) = (l.length : Int) + 1 by omega]
    exact hA2
  have hlat := z_lat hA2' (by omega) n hn x hx
  have hval : ∀ k, q < k → k < l.length + 1 → x < (upd (shf gd q l.length) q (iI x) k).toInt := fun k k1 k2 => by
    unfold upd shf
    rw [if_neg (by omega), if_pos (by omega)]
    have hk : k - 1 < l.length := by omega
    rw [(hg (k - 1) l[k - 1] (List.getElem?_eq_getElem hk)).1]
    exact hp2 _ (List.mem_drop_iff_getElem.mpr ⟨k - 1 - q, by omega, by simp only [show q + (k - 1 - q) = k - 1 by omega]⟩)
  have hself : (upd (shf gd q l.length) q (iI x) q).toInt = x := by
    unfold upd
    rw [if_pos rfl, toInt_iI x hx.1 hx.2]
  have hl : latF (fun k => (upd (shf gd q l.length) q (iI x) k).toInt) x (l.length + 1) = (q : Int) := by
    rcases latF_spec (fun k => (upd (shf gd q l.length) q (iI x) k).toInt) x (l.length + 1) with ⟨_, h⟩ | ⟨k, k1, k2, k3, k4⟩
    · have := h q (by omega)
      simp only [hself] at this
      omega
    · by_cases c : k < q
      · have := k4 q c (by omega)
        simp only [hself] at this
        omega
      · by_cases c2 : q < k
        · have := hval k c2 k1
          omega
        · rw [k2]
          omega
  rw [hl] at hlat
  have hA3 := hA2'.setV hdv (upd (shf gv q l.length) q (iI y))
  refine ⟨_, ?_, fun z z1 z2 z3 => by rw [va_up_ne _ _ z3, f2 z z1 z2 z3], fun u1 w1 w2 w3 => ⟨d, v, _, upd (shf gv q l.length) q (iI y), ⟨?_, ho.1⟩, ⟨hA3.2.1, ho.2.1⟩, ⟨hA3.2.2, ho.2.2⟩, hdv, ?_, fun k' j' hk' => ?_⟩⟩
  · unfold f_X0_tell
    rw [isO_at hA.1, if_pos rfl, h2, Option.bind_some, if_pos rfl, if_pos rfl, h1, Option.bind_some, if_pos rfl, show (1 : Int32) = iI 1 from rfl, iI_add, show (q : Int) - 1 + 1 = q by omega, e2]
    simp only [Option.bind_some]
    rw [isO_at hA2.1, if_pos rfl, hlat, Option.bind_some, show (0 : Int32) = iI 0 from rfl, it_lt _ _ (by omega), if_neg (by omega), gI_at hA2'.1, gR_at hA2'.1]
    simp only [List.getElem?_cons_zero, List.getElem?_cons_succ, Option.bind_some]
    rw [it_le _ _ (by omega), if_neg (by omega), sI_at hB.2.2 hA2'.2.2 (by omega) (by omega), Int.toNat_natCast]
    rfl
  · rw [ins_len l q jn hq]
    exact hA3.1
  · rw [ins_len l q jn hq]
    omega
  · rw [ins_get l q jn k' hq] at hk'
    unfold upd shf
    by_cases c1 : k' < q
    · rw [if_pos c1] at hk'
      have := hg k' j' hk'
      rw [if_neg (by omega), if_neg (by omega), if_neg (by omega), if_neg (by omega), (w3 j' (List.mem_of_getElem? hk')).1, (w3 j' (List.mem_of_getElem? hk')).2]
      exact this
    · rw [if_neg c1] at hk'
      by_cases c2 : k' = q
      · rw [if_pos c2] at hk'
        cases hk'
        rw [if_pos c2, if_pos c2, w1, w2]
        exact ⟨rfl, rfl⟩
      · rw [if_neg c2] at hk'
        have := hg (k' - 1) j' hk'
        have hlt := (List.getElem?_eq_some_iff.mp hk').1
        rw [if_neg c2, if_neg c2, if_pos (by omega), if_pos (by omega), (w3 j' (List.mem_of_getElem? hk')).1, (w3 j' (List.mem_of_getElem? hk')).2]
        exact this
def apMix (u w : MS) : MS := mixU (fun k => k == 10 || k == 2) (fun k => k == 11 || (k == 12 || k == 13)) u w
theorem CouR_ap {w : MS} (M : Mem) (m : Int) (c : Nat) : CouR ad rho M (apMix u w) m c = CouR ad rho M u m c := by
  have e : busyP (apMix u w) = busyP u := by
    funext c d l
    unfold busyP
    rw [parP_of (u := u) (w := apMix u w) rfl rfl]
    rfl
  have e2 : calS (apMix u w) = calS u := by
    funext c m d
    unfold calS busyS
    rw [e]
    rfl
  unfold CouR
  rw [e2]
  rfl
theorem CalF_ap {w : MS} {m : Int} (h : CalF u m) : CalF (apMix u w) m := by
  have e : busyP (apMix u w) = busyP u := by
    funext c d l
    unfold busyP
    rw [parP_of (u := u) (w := apMix u w) rfl rfl]
    rfl
  unfold CalF at *
  rw [e]
  exact h
theorem RepK.app (hL : LOK B L) (h : RepK B S L x0 ad rho xl M u sz) {M1 : Mem} {w : MS} {i : Nat} {l1 : List Nat} (hi : i < 1000) (hn5 : (vN u 5).toNat ≤ 1000) (hn19 : (vN u 19).toNat ≤ 1000) (k : ∀ id, id ≠ 1 → id ≠ 3000 + i → Kept M rho id M1 rho) (hc : ∀ a, a < B → M1 a = M a) (hb : M1 x0 = some (.inl (14, booF ad (iI (stdS u)) (u.1 33) (w.1 10) (u.1 4) (w.1 2)))) (ha : AppR M1 rho (3000 + i) (ad (3000 + i)) w l1) (hr : ∀ i', i' < (vN u 5).toNat → i' ≠ i → ∀ j, j ∈ xl (3000 + i') → w.2 12 j = u.2 12 j ∧ w.2 13 j = u.2 13 j) : RepK B S L x0 ad rho (fun id => if id = 3000 + i then l1 else xl id) M1 (apMix u w) sz := by
  obtain ⟨⟨c1, c2⟩, ⟨b1, b2, b3, b4⟩, t1, t2, t3, t4, t5⟩ := h
  refine ⟨⟨fun a e ha => ?_, c2⟩, ⟨⟨hb, b1.2⟩, b2.fr (k 2 (by decide) (by omega)), b3.fr (k 3 (by decide) (by omega)), b4.fr (k 4 (by decide) (by omega)) (k 5 (by decide) (by omega)) (k 6 (by decide) (by omega)) (k 7 (by decide) (by omega))⟩, ?_, ?_, ?_, ?_, ?_⟩
  · rw [hc a]
    · exact c1 a e ha
    · rcases Nat.lt_or_ge a B with q | q
      · exact q
      · rw [hL a q] at ha
        cases ha
  · intro i' hi'
    have hi2 : i' < (vN u 5).toNat := hi'
    obtain ⟨g1, ⟨tk, g2⟩, g3, g4⟩ := t1 i' hi2
    refine ⟨g1.fr (k _ (by omega) (by omega)), ⟨tk, g2.fr (k _ (by omega) (by omega))⟩, ?_, ?_⟩
    · by_cases c : i' = i
      · subst c
        simp only [if_true]
        exact ha
      · simp only [if_neg (show ¬ 3000 + i' = 3000 + i by omega)]
        have hq := hr i' hi2 c
        obtain ⟨d, v, gd, gv, h1, h2, h3, h4, h5, h6⟩ := g3.fr (k _ (by omega) (by omega))
        refine ⟨d, v, gd, gv, h1, h2, h3, h4, h5, fun k j hk => ?_⟩
        have := hq j (List.mem_of_getElem? hk)
        show gd k = w.2 12 j ∧ gv k = w.2 13 j
        rw [this.1, this.2]
        exact h6 k j hk
    · simp only [if_neg (show ¬ 4000 + i' = 3000 + i by omega)]
      exact g4.fr (k _ (by omega) (by omega))
  · exact fun i' hi' => (t2 i' hi').fr (k _ (by omega) (by omega))
  · intro i' hi'
    rw [CouR_ap]
    have hi2 : i' < (vN u 19).toNat := hi'
    exact (t3 i' hi').fr (k _ (by omega) (by omega)) (k _ (by omega) (by omega))
  · intro i' hi'
    have := ((t4 i' hi').fr (k _ (by omega) (by omega)) (fun p _ => k _ (by omega) (by omega))).xl (xl1 := fun id => if id = 3000 + i then l1 else xl id) (fun p => if_neg (by omega))
    exact this
  · intro i' hi'
    have := ((t5 i' hi').fr (k _ (by omega) (by omega))).xl (xl1 := fun id => if id = 3000 + i then l1 else xl id) (if_neg (by omega))
    exact this
theorem Inv.apm (hI : Inv u xl) {w : MS} {i : Nat} {l1 : List Nat} (hi : i < 1000) (h10 : vN u 10 ≤ vN w 10 ∧ vN w 10 ≤ 48) (hat : ∀ j, j < (vN w 10).toNat → (0 ≤ vR w 11 j ∧ vR w 11 j < vN u 5) ∧ (0 ≤ vR w 12 j ∧ vR w 12 j ≤ 999) ∧ (1 ≤ vR w 13 j ∧ vR w 13 j ≤ 9999)) (hF : ∀ i', i' < (vN u 5).toNat → AppF w (if i' = i then l1 else xl (3000 + i')) i') : Inv (apMix u w) (fun id => if id = 3000 + i then l1 else xl id) := by
  have h5 := hI.n5
  have h0 := hI.n10
  obtain ⟨⟨⟨g1, g2, g3, g4⟩, g5, g6, g7⟩, g8, ⟨g9, g10, g11⟩, g12⟩ := hI
  refine ⟨⟨⟨g1, g2, ⟨?_, h10.2⟩, g4⟩, g5, hat, g7⟩, g8, ⟨fun i' hi' => ⟨?_, ?_⟩, fun l hl p hp => ?_, fun r hr => ?_⟩, CalF_ap g12⟩
  · show 0 ≤ vN w 10
    omega
  · have := hF i' hi'
    by_cases c : i' = i
    · subst c
      rw [if_pos rfl] at this
      simp only [if_true]
      exact this
    · rw [if_neg c] at this
      simp only [if_neg (show ¬ 3000 + i' = 3000 + i by omega)]
      exact this
  · have hi2 : i' < (vN u 5).toNat := hi'
    have := (g9 i' hi').2
    simp only [if_neg (show ¬ 4000 + i' = 3000 + i by omega)]
    exact this
  · have := g10 l hl p hp
    simp only [if_neg (show ¬ 9000 + (l * 16 + p) = 3000 + i by omega)]
    exact this
  · have := g11 r hr
    simp only [if_neg (show ¬ 10000 + r = 3000 + i by omega)]
    exact this
end AR
