/-! THE CLASS'S READERS: value, calendar, reports -/
theorem z_latest_L {M : Mem} {a dd n : Nat} {v z : Value} {gd : Nat → Int32} (h1 : M a = some (.inl (3, [.ref dd, v, z]))) (h2 : M dd = some (.inr (.inl (0, 48, gd)))) (d : Int) (hd : -2147483648 ≤ d ∧ d < 2147483648) : ∀ k m : Nat, m ≤ 48 → m < k → f_X0_latest_L7 n M (some a) (iI d) k (iI ((m : Int) - 1)) = some (iI (latF (fun k => (gd k).toInt) d m)) := by
  intro k
  induction k with
  | zero => intro m _ h; omega
  | succ k ih =>
    intro m hm hk
    unfold f_X0_latest_L7
    rw [iI_zero, it_lt _ _ (by omega)]
    cases m with
    | zero => rw [if_pos (by omega)]; rfl
    | succ m =>
      rw [if_neg (by omega), gR_at h1]
      simp only [List.getElem?_cons_zero, Option.bind_some]
      rw [show (((m + 1 : Nat) : Int) - 1) = (m : Int) by omega, aI_at h2 (by omega) (by omega), Option.bind_some, ix_le _ _ hd, Int.toNat_natCast]
      unfold latF
      by_cases c : (gd m).toInt ≤ d
      · rw [if_pos c, if_pos c]
      · rw [if_neg c, if_neg c, show (-1 : Int32) = iI (-1) from rfl, iI_add]
        exact ih m (by omega) (by omega)
section RD
variable {B : Nat} {S : Nat → Nat} {L : Mem} {x0 : Nat} {ad rho : Nat → Nat} {xl : Nat → List Nat} {M : Mem} {u : MS} {sz : Nat}
theorem AppR.latest {id a : Nat} {l : List Nat} (h : AppR M rho id a u l) (n : Nat) (hf : 60 ≤ n) (d : Int) (hd : -2147483648 ≤ d ∧ d < 2147483648) : f_X0_latest n M (some a) (iI d) = some (iI (latF (fun k => vR u 12 (l.getD k 0)) d l.length)) := by
  obtain ⟨dd, v, gd, gv, h1, h2, h3, h4, h5, h6⟩ := h
  unfold f_X0_latest
  rw [gI_at h1.1]
  simp only [List.getElem?_cons_zero, List.getElem?_cons_succ, Option.bind_some]
  rw [show (1 : Int32) = iI 1 from rfl, iI_sub, z_latest_L h1.1 h2.1 d hd n l.length h5 (by omega), latF_congr (fun k hk => ?_)]
  have := (h6 k l[k] (List.getElem?_eq_getElem hk)).1
  simp only [List.getD, List.getElem?_eq_getElem hk, Option.getD_some, this]
  rfl
theorem z_valueOn {i : Nat} (h : ThiR S ad rho xl M u i) (ha : AppF u (xl (3000 + i)) i) (h0 : ∀ j, j < (vN u 10).toNat → 0 ≤ vR u 12 j) (n : Nat) (hf : 60 ≤ n) (d : Int) (hd : -2147483648 ≤ d ∧ d < 2147483648) : f_X10_valueOn n M (some (ad (1000 + i))) (iI d) = some (iI (valS u i d)) := by
  obtain ⟨⟨w, h1, -⟩, -, h2, -⟩ := h
  have h3 := h2.latest n hf d hd
  obtain ⟨dd, v, gd, gv, g1, g2, g3, g4, g5, g6⟩ := h2
  unfold f_X10_valueOn f_X0_latestValue
  rw [gR_at h1.1, gI_at h1.1]
  simp only [List.getElem?_cons_zero, List.getElem?_cons_succ, Option.bind_some]
  rw [isO_at g1.1, if_pos rfl, if_pos rfl, h3, Option.bind_some, iI_zero]
  have hr := latF_rng (fun k => vR u 12 ((xl (3000 + i)).getD k 0)) d (xl (3000 + i)).length
  rw [it_lt _ _ (by omega)]
  rcases valS_lat ha h0 d with ⟨e, q⟩ | ⟨k, j, k1, e, k2, q⟩
  · rw [e, if_pos (by omega), q, u2_iI]
    rfl
  · rw [e, if_neg (by omega), gI_at g1.1]
    simp only [List.getElem?_cons_zero, List.getElem?_cons_succ, Option.bind_some]
    rw [it_le _ _ (by omega), if_neg (by omega), gR_at g1.1]
    simp only [List.getElem?_cons_zero, List.getElem?_cons_succ, Option.bind_some]
    rw [aI_at g3.1 (by omega) (by omega), Int.toNat_natCast, (g6 k j k2).2, q, u2_iI]
    rfl
theorem CalR.at {id a : Nat} {f : Int → Int} {tk : Int} (h : CalR M rho id a f tk) (d : Int) (hd : 0 ≤ d ∧ d < 1000) : ((gR M (some a) 4 0).bind fun v => aI M 0 v (iI d)) = some (iI (f d)) := by
  obtain ⟨dd, g, h1, h2, h3⟩ := h
  rw [gR_at h1.1]
  simp only [List.getElem?_cons_zero, Option.bind_some]
  rw [aI_at h2.1 (by omega) (by omega), h3 d hd.1 hd.2]
theorem CalR.is {id a : Nat} {f : Int → Int} {tk : Int} (h : CalR M rho id a f tk) : isO M (some a) 4 = true := by
  obtain ⟨dd, g, h1, h2, h3⟩ := h
  exact isO_at h1.1
theorem CalR.loanOn {id a : Nat} {f : Int → Int} {tk : Int} (h : CalR M rho id a f tk) (d : Int) (hd : 0 ≤ d ∧ d ≤ 999) (hr : -2147483648 ≤ f d ∧ f d < 2147483648) : f_X1_loanOn M (some a) (iI d) = some (iI (if f d < -1 then -1 else f d)) := by
  obtain ⟨dd, g, h1, h2, h3⟩ := h
  unfold f_X1_loanOn
  rw [z_isDay M d (by omega), if_pos hd, Option.bind_some, if_neg (by decide), gR_at h1.1]
  simp only [List.getElem?_cons_zero, Option.bind_some]
  rw [aI_at h2.1 (by omega) (by omega), h3 d hd.1 (by omega), show (-1 : Int32) = iI (-1) from rfl, Option.bind_some, it_lt _ _ (by omega)]
  split <;> rfl
theorem CalR.taken {id a : Nat} {f : Int → Int} {tk : Int} (h : CalR M rho id a f tk) : f_X1_daysTaken M (some a) = some (iI tk) := by
  obtain ⟨dd, g, h1, h2, h3⟩ := h
  unfold f_X1_daysTaken
  rw [gI_at h1.1]
  rfl
/-- the first of so many open days on end -/
def openG (f : Int → Int) (m : Int) : Nat → Int → Int → Int
  | 0, _, _ => -1
  | c + 1, w, i => if (if f i = -1 then w + 1 else 0) = m then i - m + 1 else openG f m c (if f i = -1 then w + 1 else 0) (i + 1)
theorem CalR.open_L {id a : Nat} {f : Int → Int} {tk : Int} (h : CalR M rho id a f tk) (n : Nat) (m : Int) (hm : 1 ≤ m ∧ m ≤ 1000) (hr : ∀ d, -2147483648 ≤ f d ∧ f d < 2147483648) : ∀ (k : Nat) (w i : Int), 0 ≤ i → i ≤ 1000 → 0 ≤ w → w ≤ i → (1000 - i).toNat < k → f_X1_firstOpen_L9 n M (some a) (iI m) k (iI w) (iI i) = some (iI (openG f m (1000 - i).toNat w i)) := by
  intro k
  induction k with
  | zero => intro w i _ _ _ _ h; omega
  | succ k ih =>
    intro w i h0 h1 h2 h3 hk
    unfold f_X1_firstOpen_L9
    rw [show (1000 : Int32) = iI 1000 from rfl, it_le _ _ (by omega)]
    by_cases e : 1000 ≤ i
    · rw [if_pos e, show (1000 - i).toNat = 0 by omega]
      rfl
    · have hc := h.at i (by omega)
      have hfi := hr i
      rw [if_neg e, show (1000 - i).toNat = (1000 - (i + 1)).toNat + 1 by omega]
      obtain ⟨dd, g, g1, g2, g3⟩ := h
      rw [gR_at g1.1]
      simp only [List.getElem?_cons_zero, Option.bind_some]
      rw [aI_at g2.1 (by omega) (by omega), g3 i (by omega) (by omega), Option.bind_some, show (-1 : Int32) = iI (-1) from rfl, it_eq _ _ (by omega), show (1 : Int32) = iI 1 from rfl, iI_add, iI_zero]
      unfold openG
      by_cases c : f i = -1
      · simp only [if_pos c, Option.bind_some]
        rw [it_eq _ _ (by omega)]
        by_cases c2 : w + 1 = m
        · rw [if_pos c2, if_pos c2, iI_sub, iI_add]
        · rw [if_neg c2, if_neg c2, iI_add]
          exact ih (w + 1) (i + 1) (by omega) (by omega) (by omega) (by omega) (by omega)
      · simp only [if_neg c, Option.bind_some]
        rw [it_eq _ _ (by omega)]
        rw [if_neg (by omega), if_neg (by omega), iI_add]
        exact ih 0 (i + 1) (by omega) (by omega) (by omega) (by omega) (by omega)
theorem CalR.firstOpen {id a : Nat} {f : Int → Int} {tk : Int} (h : CalR M rho id a f tk) (n : Nat) (hf : 1100 ≤ n) (m d : Int) (hd : 0 ≤ d ∧ d ≤ 999) (hm : 1 ≤ m ∧ m ≤ 1000) (hr : ∀ d, -2147483648 ≤ f d ∧ f d < 2147483648) : f_X1_firstOpen n M (some a) (iI d) (iI m) = some (iI (openG f m (1000 - d).toNat 0 d)) := by
  unfold f_X1_firstOpen
  rw [iI_zero, it_lt _ _ (by omega), if_neg (by omega)]
  exact h.open_L n m hm hr n 0 d (by omega) (by omega) (by omega) (by omega) (by omega)
/-! reports -/
theorem z_latestReport_L {a q n : Nat} {l : List Nat} {id : Nat} {fs : List Value} (h1 : M a = some (.inl (13, fs))) (hq : fs[8]? = some (.ref q)) (hl : LisR S M rho id q (l.map (fun r => ad (10000 + r)))) (hr : ∀ r, r ∈ l → ∃ r2, M (ad (10000 + r)) = some (.inl (11, .int (u.2 35 r) :: r2))) (d : Int) (hd : -2147483648 ≤ d ∧ d < 2147483648) : ∀ k m : Nat, m ≤ l.length → m < k → f_X10_latestReport_L10 n M (some a) (iI d) k (iI ((m : Int) - 1)) = some (iI (latF (fun k => vR u 35 (l.getD k 0)) d m)) := by
  have hlen := hl.len
  rw [List.length_map] at hlen
  intro k
  induction k with
  | zero => intro m _ h; omega
  | succ k ih =>
    intro m hm hk
    unfold f_X10_latestReport_L10
    rw [iI_zero, it_lt _ _ (by omega)]
    cases m with
    | zero => rw [if_pos (by omega)]; rfl
    | succ m =>
      have hx : l[m]? = some l[m] := List.getElem?_eq_getElem (by omega)
      obtain ⟨r2, hr2⟩ := hr l[m] (List.getElem_mem _)
      rw [if_neg (by omega), gR_at h1, hq]
      simp only [Option.bind_some]
      rw [hl.is, if_pos rfl, show (((m + 1 : Nat) : Int) - 1) = (m : Int) by omega, hl.get (x := ad (10000 + l[m])) (by omega) (by rw [Int.toNat_natCast, List.getElem?_map, hx]; rfl), Option.bind_some, if_pos (Or.inr (isO_at hr2)), gI_at hr2]
      simp only [List.getElem?_cons_zero, Option.bind_some]
      rw [ix_le _ _ hd]
      unfold latF
      have e : l.getD m 0 = l[m] := by simp [List.getD, hx]
      simp only [e]
      show (if vR u 35 l[m] ≤ d then _ else _) = _
      by_cases c : vR u 35 l[m] ≤ d
      · rw [if_pos c, if_pos c]
      · rw [if_neg c, if_neg c, show (-1 : Int32) = iI (-1) from rfl, iI_add]
        exact ih m (by omega) (by omega)
theorem RepK.rptday (h : RepK B S L x0 ad rho xl M u sz) {l : List Nat} {i : Nat} (hF : RpsF u l i) : ∀ r, r ∈ l → ∃ r2, M (ad (10000 + r)) = some (.inl (11, .int (u.2 35 r) :: r2)) := by
  intro r hr
  obtain ⟨w, s, z, f, g, h1, -⟩ := h.rpt ((hF.mem r).mp hr).1
  exact ⟨_, h1.1⟩
theorem z_latestReport (h : RepK B S L x0 ad rho xl M u sz) {i : Nat} (hi : i < (vN u 5).toNat) (hF : RpsF u (xl (4000 + i)) i) (n : Nat) (hf : 60 ≤ n) (d : Int) (hd : -2147483648 ≤ d ∧ d < 2147483648) : f_X10_latestReport n M (some (ad (1000 + i))) (iI d) = some (iI (latF (fun k => vR u 35 ((xl (4000 + i)).getD k 0)) d (xl (4000 + i)).length)) := by
  obtain ⟨⟨w, h1, -⟩, -, -, hl⟩ := h.thi hi
  have hlen := hl.len
  have hs := hl.size
  rw [List.length_map] at hlen hs
  unfold f_X10_latestReport
  rw [gR_at h1.1]
  simp only [List.getElem?_cons_zero, List.getElem?_cons_succ, Option.bind_some]
  rw [hl.is, if_pos rfl, hs, Option.bind_some, show (1 : Int32) = iI 1 from rfl, iI_sub]
  exact z_latestReport_L h1.1 rfl hl (h.rptday hF) d hd n _ (Nat.le_refl _) (by omega)
theorem z_reportAt (h : RepK B S L x0 ad rho xl M u sz) {i : Nat} (hi : i < (vN u 5).toNat) (hF : RpsF u (xl (4000 + i)) i) (k : Int) (hk : -2147483648 ≤ k ∧ k < 2147483648) : f_X10_reportAt M (some (ad (1000 + i))) (iI k) = some (if 0 ≤ k then (xl (4000 + i))[k.toNat]?.map (fun r => ad (10000 + r)) else none) := by
  obtain ⟨⟨w, h1, -⟩, -, -, hl⟩ := h.thi hi
  have hr := h.rptday hF
  have := z_at hl (ci := 11) (fun x hx => by
    simp only [List.mem_map] at hx
    obtain ⟨r, hr1, rfl⟩ := hx
    obtain ⟨r2, h2⟩ := hr r hr1
    exact isO_at h2) k hk
  unfold f_X10_reportAt
  rw [gR_at h1.1]
  simp only [List.getElem?_cons_zero, List.getElem?_cons_succ, Option.bind_some]
  rw [this, List.getElem?_map]
end RD
