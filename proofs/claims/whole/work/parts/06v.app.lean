/-! APPRAISE: the two states' middle parts are another's -/
def mixU (P Q : Nat → Bool) (u w : MS) : MS := (fun k => if P k = true then w.1 k else u.1 k, fun k => if Q k = true then w.2 k else u.2 k)
theorem mixU_self {P Q : Nat → Bool} {u w : MS} (h1 : ∀ k, P k = false → w.1 k = u.1 k) (h2 : ∀ k, Q k = false → w.2 k = u.2 k) : mixU P Q u w = w := by
  apply Prod.ext
  · funext k
    show (if P k = true then w.1 k else u.1 k) = w.1 k
    by_cases c : P k = true
    · rw [if_pos c]
    · rw [if_neg c, h1 k (by simpa using c)]
  · funext k
    show (if Q k = true then w.2 k else u.2 k) = w.2 k
    by_cases c : Q k = true
    · rw [if_pos c]
    · rw [if_neg c, h2 k (by simpa using c)]
theorem parP_of {u w : MS} (h1 : w.2 31 = u.2 31) (h2 : w.2 32 = u.2 32) : parP w = parP u := by
  funext c s l p
  unfold parP vR
  by_cases e : s = 1
  · rw [if_pos e, h1]
  · rw [if_neg e, h2]
theorem LoaR.xl {S : Nat → Nat} {ad rho : Nat → Nat} {xl xl1 : Nat → List Nat} {M : Mem} {u : MS} {l : Nat} (h : LoaR S ad rho xl M u l) (hx : ∀ p, xl1 (9000 + (l * 16 + p)) = xl (9000 + (l * 16 + p))) : LoaR S ad rho xl1 M u l := by
  refine ⟨h.1, fun p hp => ?_⟩
  obtain ⟨c, h1, h2⟩ := h.2 p hp
  exact ⟨c, h1, by rw [hx]; exact h2⟩
theorem RptR.xl {S : Nat → Nat} {ad rho : Nat → Nat} {xl xl1 : Nat → List Nat} {M : Mem} {u : MS} {r : Nat} (h : RptR S ad rho xl M u r) (hx : xl1 (10000 + r) = xl (10000 + r)) : RptR S ad rho xl1 M u r := by
  unfold RptR at *
  rw [hx]
  exact h
def apU (u : MS) (j : Nat) (t d v : Int) : MS := uA (uA (uA u 11 j (iI t)) 12 j (iI d)) 13 j (iI v)
theorem t_app_L (n : Nat) (u : MS) (t d v x : Int) (ht : -2147483648 ≤ t ∧ t < 2147483648) (hd : -2147483648 ≤ d ∧ d < 2147483648) (h : 0 ≤ vN u 10 ∧ vN u 10 ≤ 48) : ∀ k i : Nat, i ≤ (vN u 10).toNat → (vN u 10).toNat - i < k → ∃ j : Nat, i ≤ j ∧ j ≤ (vN u 10).toNat ∧ f_X12_appraise_L49 n u (iI t) (iI d) (iI v) (iI x) k (iI i) = some (iI j) ∧ (j < (vN u 10).toNat → vR u 11 j = t ∧ vR u 12 j = d) ∧ ∀ q, i ≤ q → q < j → ¬ (vR u 11 q = t ∧ vR u 12 q = d) := by
  intro k
  induction k with
  | zero => intro i _ h; omega
  | succ k ih =>
    intro i hi hk
    unfold f_X12_appraise_L49
    rw [u1_iI, it_le _ _ (by omega)]
    by_cases e : vN u 10 ≤ i
    · rw [if_pos e]
      exact ⟨i, Nat.le_refl _, hi, rfl, fun q => by omega, fun q a b => by omega⟩
    · have q1 : inb (iI i) 48 := (iI_inb _ 48 (by omega)).mpr (by omega)
      have h1 := vR_rng u 11 i
      have h2 := vR_rng u 12 i
      have ec : (iI (i : Int)).toNatClampNeg = i := by rw [iI_clamp _ (by omega), Int.toNat_natCast]
      simp only [if_neg e, if_pos q1, ec, u2_iI]
      rw [it_eq _ _ (by omega), it_eq _ _ (by omega), show (1 : Int32) = iI 1 from rfl, iI_add]
      obtain ⟨j, j1, j2, j3, j4, j5⟩ := ih (i + 1) (by omega) (by omega)
      push_cast at j3
      by_cases c : vR u 11 i = t ∧ vR u 12 i = d
      · rw [if_pos c.1, if_pos c.2]
        exact ⟨i, Nat.le_refl _, hi, rfl, fun _ => c, fun q a b => by omega⟩
      · refine ⟨j, by omega, j2, ?_, j4, fun q a b => ?_⟩
        · by_cases c1 : vR u 11 i = t
          · rw [if_pos c1, if_neg (fun q => c ⟨c1, q⟩)]
            exact j3
          · rw [if_neg c1]
            exact j3
        · by_cases e2 : q = i
          · subst e2
            exact c
          · exact j5 q (by omega) b
theorem t_appraise (n : Nat) (u : MS) (t d v : Int) (ht : -2147483648 ≤ t ∧ t < 2147483648) (hd : -2147483648 ≤ d ∧ d < 2147483648) (hv : -2147483648 ≤ v ∧ v < 2147483648) (h : NumOK u) (hf : 2100 ≤ n) : ∃ j : Nat, j ≤ (vN u 10).toNat ∧ (j < (vN u 10).toNat → vR u 11 j = t ∧ vR u 12 j = d) ∧ (∀ q, q < j → ¬ (vR u 11 q = t ∧ vR u 12 q = d)) ∧ f_X12_appraise n u (iI t) (iI d) (iI v) = if ¬ (0 ≤ t ∧ t ≤ vN u 5 - 1) then noS u 1 else if ¬ (0 ≤ d ∧ d ≤ 999) then noS u 3 else if ¬ (1 ≤ v ∧ v ≤ 9999) then noS u 3 else if j = 48 then noS u 9 else fineS (if j = (vN u 10).toNat then uI (apU u j t d v) 10 (iI (vN u 10 + 1)) else apU u j t d v) (valS u t d) := by
  have h0 := h
  obtain ⟨h1, h5, h10, h14, h19, h23, h33⟩ := h
  obtain ⟨j, j1, j2, j3, j4, j5⟩ := t_app_L n u t d v (valS u t d) ht hd h10 n 0 (by omega) (by omega)
  rw [show iI ((0 : Nat) : Int) = (0 : Int32) from rfl] at j3
  refine ⟨j, j2, j4, fun q hq => j5 q (by omega) hq, ?_⟩
  unfold f_X12_appraise
  rw [t_isThing u t ht h5, Option.bind_some, t_isDay u d hd, Option.bind_some, show (1 : Int32) = iI 1 from rfl, show (9999 : Int32) = iI 9999 from rfl, t_isIn u v 1 9999 hv (by omega) (by omega), Option.bind_some]
  simp only [b0z]
  by_cases c1 : 0 ≤ t ∧ t ≤ vN u 5 - 1
  · have n1 : ¬ ¬ (0 ≤ t ∧ t ≤ vN u 5 - 1) := fun q => q c1
    by_cases c2 : 0 ≤ d ∧ d ≤ 999
    · have n2 : ¬ ¬ (0 ≤ d ∧ d ≤ 999) := fun q => q c2
      by_cases c3 : 1 ≤ v ∧ v ≤ 9999
      · have n3 : ¬ ¬ (1 ≤ v ∧ v ≤ 9999) := fun q => q c3
        rw [if_neg n1, if_neg n2, if_neg n3, if_neg n1, if_neg n2, if_neg n3, t_valueOn n u t d (by omega) hd h10 (by omega), Option.bind_some, j3, Option.bind_some, show (48 : Int32) = iI 48 from rfl, it_eq _ _ (by omega), show (9 : Int32) = iI 9 from rfl, t_no]
        by_cases c4 : j = 48
        · rw [if_pos (by omega), if_pos c4]
        · have q1 : inb (iI j) 48 := (iI_inb _ 48 (by omega)).mpr (by omega)
          rw [if_neg (by omega), if_neg c4, if_pos q1, if_pos q1, if_pos q1, iI_clamp _ (by omega), Int.toNat_natCast]
          show (if iI j = (apU u j t d v).1 10 then ((f_X12_fine (uI (apU u j t d v) 10 ((apU u j t d v).1 10 + iI 1)) (iI (valS u t d))).bind fun r => some (r.1, r.2)) else ((f_X12_fine (apU u j t d v) (iI (valS u t d))).bind fun r => some (r.1, r.2))) = _
          rw [show (apU u j t d v).1 10 = iI (vN u 10) from u1_iI u 10, it_eq _ _ (by omega), iI_add, t_fine, t_fine]
          by_cases c5 : j = (vN u 10).toNat
          · rw [if_pos (by omega), if_pos c5]
          · rw [if_neg (by omega), if_neg c5]
      · rw [if_neg n1, if_neg n2, if_pos c3, if_neg n1, if_neg n2, if_pos c3]
        rfl
    · rw [if_neg n1, if_pos c2, if_neg n1, if_pos c2]
      rfl
  · rw [if_pos c1, if_pos c1]
    rfl
section AQ
variable {B : Nat} {S : Nat → Nat} {L : Mem} {x0 : Nat} {ad rho : Nat → Nat} {xl : Nat → List Nat} {M : Mem} {u : MS} {sz : Nat}
theorem AppR.ap {id a : Nat} {l : List Nat} (h : AppR M rho id a u l) : ∃ (d v : Nat) (gd gv : Nat → Int32), AP M a d v l.length gd gv ∧ d ≠ v ∧ (rho a = id ∧ rho d = id ∧ rho v = id) ∧ l.length ≤ 48 ∧ ∀ k j, l[k]? = some j → gd k = u.2 12 j ∧ gv k = u.2 13 j := by
  obtain ⟨d, v, gd, gv, h1, h2, h3, h4, h5, h6⟩ := h
  exact ⟨d, v, gd, gv, ⟨h1.1, h2.1, h3.1⟩, h4, ⟨h1.2, h2.2, h3.2⟩, h5, h6⟩
theorem z_lat {a d v : Nat} {m : Nat} {gd gv : Nat → Int32} (hA : AP M a d v m gd gv) (hm : m ≤ 48) (n : Nat) (hn : 60 ≤ n) (x : Int) (hx : -2147483648 ≤ x ∧ x < 2147483648) : f_X0_latest n M (some a) (iI x) = some (iI (latF (fun k => (gd k).toInt) x m)) := by
  unfold f_X0_latest
  rw [gI_at hA.1]
  simp only [List.getElem?_cons_zero, List.getElem?_cons_succ, Option.bind_some]
  rw [show (1 : Int32) = iI 1 from rfl, iI_sub]
  exact z_latest_L hA.1 hA.2.1 x hx n m hm (by omega)
/-- whether a day is told, and where -/
theorem z_tells {a d v : Nat} {l : List Nat} {gd gv : Nat → Int32} (hA : AP M a d v l.length gd gv) (hm : l.length ≤ 48) (hg : ∀ k j, l[k]? = some j → gd k = u.2 12 j) (hs : l.Pairwise (fun a b => vR u 12 a < vR u 12 b)) (n : Nat) (hn : 60 ≤ n) (x : Int) (hx : -2147483648 ≤ x ∧ x < 2147483648) : (∃ k j : Nat, l[k]? = some j ∧ vR u 12 j = x ∧ f_X0_latest n M (some a) (iI x) = some (iI k) ∧ f_X0_tells n M (some a) (iI x) = some 1) ∨ ∃ q : Nat, (∀ j, j ∈ l → vR u 12 j ≠ x) ∧ q ≤ l.length ∧ (∀ j, j ∈ l.take q → vR u 12 j < x) ∧ (∀ j, j ∈ l.drop q → x < vR u 12 j) ∧ f_X0_latest n M (some a) (iI x) = some (iI ((q : Int) - 1)) ∧ f_X0_tells n M (some a) (iI x) = some 0 := by
  have hlat := z_lat hA hm n hn x hx
  have hcg : latF (fun k => (gd k).toInt) x l.length = latF (fun k => vR u 12 (l.getD k 0)) x l.length := latF_congr (fun k hk => by
    have := hg k l[k] (List.getElem?_eq_getElem hk)
    simp only [List.getD, List.getElem?_eq_getElem hk, Option.getD_some, this]
    rfl)
  rw [hcg] at hlat
  unfold f_X0_tells
  rw [isO_at hA.1, if_pos rfl, hlat, Option.bind_some, gI_at hA.1, gR_at hA.1]
  simp only [List.getElem?_cons_zero, List.getElem?_cons_succ, Option.bind_some]
  have hr := latF_rng (fun k => vR u 12 (l.getD k 0)) x l.length
  rw [show (0 : Int32) = iI 0 from rfl, it_lt _ _ (by omega), it_le _ _ (by omega)]
  by_cases c : ∃ j, j ∈ l ∧ vR u 12 j = x
  · obtain ⟨j, hj, e⟩ := c
    obtain ⟨k, hk, rfl⟩ := List.getElem_of_mem hj
    have ho := own_lat (vR u 12) l hs k hk
    rw [e] at ho
    have hx2 := hg k l[k] (List.getElem?_eq_getElem hk)
    left
    refine ⟨k, l[k], List.getElem?_eq_getElem hk, e, by rw [ho], ?_⟩
    rw [ho, if_neg (by omega), if_neg (by omega), aI_at hA.2.1 (by omega) (by omega), Option.bind_some, Int.toNat_natCast, hx2, u2_iI, it_eq _ _ (by have := vR_rng u 12 l[k]; omega), if_pos e]
  · obtain ⟨q, q1, q2, q3, q4⟩ := lat_parts (vR u 12) l x hs (fun a ha e => c ⟨a, ha, e⟩)
    right
    refine ⟨q, fun j hj e => c ⟨j, hj, e⟩, q1, q3, q4, by rw [q2], ?_⟩
    rw [q2]
    by_cases c0 : (q : Int) - 1 < 0
    · rw [if_pos c0]
    · have hk : q - 1 < l.length := by omega
      have hx2 := hg (q - 1) l[q - 1] (List.getElem?_eq_getElem hk)
      rw [if_neg c0, if_neg (by omega), aI_at hA.2.1 (by omega) (by omega), Option.bind_some, show ((q : Int) - 1).toNat = q - 1 by omega, hx2, u2_iI, it_eq _ _ (by have := vR_rng u 12 l[q - 1]; omega), if_neg (fun e => c ⟨_, List.getElem_mem _, e⟩)]
end AQ
