/-! LOAN: the draft: its things, the heaviest first -/
section LLS
variable {B : Nat} {S : Nat → Nat} {L : Mem} {x0 : Nat} {ad rho : Nat → Nat} {xl : Nat → List Nat} {M Mz : Mem} {u : MS} {sz zz N j c : Nat} {g : Nat → Int} {t : List Int} {w : Int}
theorem z_byW_L {rhoT : Nat → Nat} {id a x : Nat} {hv : Nat → Int} {l : List Nat} {A : Nat → Nat} (h : LisR S Mz rhoT id a (l.map A)) (hg : ∀ t, t ∈ l → isO Mz (some (A t)) 13 = true ∧ gI Mz (some (A t)) 13 2 = some (iI (hv t))) (hx : gI Mz (some (A x)) 13 2 = some (iI (hv x))) (hr : ∀ t, -2147483648 ≤ hv t ∧ hv t < 2147483648) (n : Nat) : ∀ (k q : Nat), q ≤ posW hv x l → posW hv x l - q < k → f_X11_addByWeight_L2 B S n (some a) (some (A x)) k Mz zz (iI q) = (f_Jx4a65c_add_7a177 B S Mz zz (some a) (iI (posW hv x l)) (some (A x))).bind fun r => some (r.1, r.2) := by
  have hlen := h.len
  rw [List.length_map] at hlen
  have hp := posW_le hv x l
  intro k
  induction k with
  | zero => intro q _ hk; omega
  | succ k ih =>
    intro q hq hk
    unfold f_X11_addByWeight_L2
    rw [if_pos h.is, h.size, List.length_map]
    simp only [Option.bind_some]
    rw [it_le _ _ (by omega)]
    by_cases e : l.length ≤ q
    · rw [if_pos (by omega), if_pos h.is, show q = posW hv x l by omega]
    · have hlt : q < l.length := by omega
      have hq2 : l[q]? = some l[q] := List.getElem?_eq_getElem hlt
      have hget := h.get (i := (q : Int)) (x := A l[q]) (by omega) (by rw [Int.toNat_natCast, List.getElem?_map, hq2]; rfl)
      obtain ⟨g1, g2⟩ := hg l[q] (List.getElem_mem hlt)
      have r1 := hr l[q]
      have r2 := hr x
      rw [if_neg (by omega), if_pos h.is, hget]
      simp only [Option.bind_some]
      rw [if_pos (Or.inr g1), g2, hx]
      simp only [Option.bind_some]
      rw [it_lt _ _ (by omega)]
      by_cases e2 : q = posW hv x l
      · have := posW_at hv x l l[q] (by rw [← e2]; exact hq2)
        rw [if_pos this, if_pos h.is, e2]
      · have := posW_lt hv x l q l[q] (by omega) hq2
        rw [if_neg (by omega), iI_s]
        exact ih (q + 1) (by omega) (by omega)
theorem insW_mem {hv : Nat → Int} {x a : Nat} {l : List Nat} : a ∈ insW hv x l ↔ a = x ∨ a ∈ l := by
  rw [(insW_perm hv x l).mem_iff, List.mem_cons]
theorem insW_len {hv : Nat → Int} {x : Nat} {l : List Nat} : (insW hv x l).length = l.length + 1 := by
  rw [(insW_perm hv x l).length_eq, List.length_cons]
/-- a thing of the book, in a memory with new cells -/
theorem thi_at (h : RepK B S L x0 ad rho xl M u sz) (fr : ∀ y, y < sz → Mz y = M y) {i : Nat} (hi : i < (vN u 5).toNat) : (isO Mz (some (ad (1000 + i))) 13 = true ∧ gI Mz (some (ad (1000 + i))) 13 2 = some (iI (vR u 8 i))) ∧ isE Mz (some (ad (1000 + i))) = true ∧ B ≤ ad (1000 + i) ∧ ad (1000 + i) < sz := by
  obtain ⟨⟨wq, gq, -⟩, -⟩ := h.thi hi
  have ho := h.own gq (by omega)
  have hM := (fr _ ho.2).trans gq.1
  refine ⟨⟨isO_at hM, ?_⟩, isE_at hM (by omega), ho⟩
  rw [gI_at hM, ← u2_iI]
  rfl
theorem z_lentL (hL : LOK B L) (hEm : EmpOK S L) (h : RepK B S L x0 ad rho xl M u sz) (hI : Inv u xl) (hd : Rd B ad rho M M N g t j w) (ht : t.length = 2 + c) (hc : c ≤ 16) (hin : ∀ x, x ∈ t.drop 2 → 0 ≤ x ∧ x < vN u 5) (n : Nat) {wt : Nat} (hwt : sz ≤ wt) (x2 : Option Nat) : ∀ (k q : Nat) (acc : List Nat) (Mz : Mem) (zz : Nat) (rhoT : Nat → Nat), q ≤ c → c - q < k → acc.length ≤ q → (∀ a, a ∈ acc → a < (vN u 5).toNat) → (∀ y, y < wt → Mz y = M y) → LisR S Mz rhoT 999 wt (acc.map (fun t => ad (1000 + t))) → (∀ y, rhoT y = 999 → wt ≤ y ∧ y < zz) → ∃ (M1 : Mem) (zz1 : Nat) (rho1 : Nat → Nat), f_X11_draftLoan_L36 B S n (some x0) x2 (some wt) k Mz zz (iI ((2 + q : Nat) : Int)) = some (M1, zz1) ∧ zz ≤ zz1 ∧ (∀ y, y < wt → M1 y = M y) ∧ LisR S M1 rho1 999 wt ((ordW (fun t => vR u 8 t) acc ((t.drop (2 + q)).map Int.toNat)).map (fun t => ad (1000 + t))) ∧ ∀ y, rho1 y = 999 → wt ≤ y ∧ y < zz1 := by
  have n5 := hI.n5
  have hown : ∀ y, rho y = 3 → y < sz := fun y hy => (h.1.2 y (by omega)).2
  have hBs : B ≤ sz := by
    have := h.xlt
    omega
  intro k
  induction k with
  | zero => intro q acc Mz zz rhoT _ hk; omega
  | succ k ih =>
    intro q acc Mz zz rhoT hq hk hac hacm fr hl hT
    have hb : Mz x0 = some (.inl (14, booF ad (iI (stdS u)) (u.1 33) (u.1 10) (u.1 4) (u.1 2))) := (fr x0 (by have := h.xlt; omega)).trans h.book
    have r2 := hd.fr (M2 := Mz) (fun y hy => fr y (by have := hown y hy; omega))
    unfold f_X11_draftLoan_L36
    rw [(bk hb).2.1]
    simp only [Option.bind_some]
    rw [if_pos r2.is, r2.size]
    simp only [Option.bind_some]
    rw [it_le _ _ (by have := hd.tlen; omega)]
    by_cases e : q = c
    · rw [if_pos (by omega), List.drop_eq_nil_of_le (by omega)]
      exact ⟨Mz, zz, rhoT, rfl, Nat.le_refl _, fr, hl, hT⟩
    · have hdr := dropD t (2 + q) (by omega)
      have hx := hin (t.getD (2 + q) 0) (by
        have : t.getD (2 + q) 0 ∈ t.drop (2 + q) := by rw [hdr]; simp
        have h2 : t.drop (2 + q) = (t.drop 2).drop q := by rw [List.drop_drop]
        rw [h2] at this
        exact List.mem_of_mem_drop this)
      have K := h.more hL (fun y hy => fr y (by omega))
      rw [if_neg (by omega), if_pos r2.is, r2.getD (2 + q) (by omega)]
      simp only [Option.bind_some]
      rw [hdr, List.map_cons, ordW]
      generalize t.getD (2 + q) 0 = x at *
      have hxi : x.toNat < (vN u 5).toNat := by omega
      rw [if_pos (isO_at hb), z_thingAt K x (by omega), if_pos (show 0 ≤ x ∧ x ≤ vN u 5 - 1 by omega)]
      simp only [Option.bind_some, reduceCtorEq, if_false]
      have hA := fun i (hi : i < (vN u 5).toNat) => thi_at h (Mz := Mz) (fun y hy => fr y (by omega)) hi
      obtain ⟨⟨a1, a2⟩, a3, a4, a5⟩ := hA x.toNat hxi
      have hby := z_byW_L (B := B) (zz := zz) hl (fun t ht => (hA t (hacm t ht)).1) a2 (fun t => vR_rng u 8 t) n 130 0 (Nat.zero_le _) (by have := posW_le (vR u 8) x.toNat acc; omega)
      have hwz := hT wt hl.own
      obtain ⟨M1, sz1, i1, i2, i3, i4⟩ := hl.ins (B := B) (sz := zz) (x := ad (1000 + x.toNat)) (h.empS hL hEm (fun y hy => fr y (by omega))).1 (h.empS hL hEm (fun y hy => fr y (by omega))).2 (by omega) (fun y hy => by have := hT y hy; omega) (by rw [List.length_map]; omega) (fun y hy => by
        obtain ⟨t2, ht2, rfl⟩ := List.mem_map.mp hy
        obtain ⟨-, b3, b4, b5⟩ := hA t2 (hacm t2 ht2)
        exact ⟨b3, by omega, by omega⟩) ⟨a3, by omega, by omega⟩ (posW (fun t => vR u 8 t) x.toNat acc) (by rw [List.length_map]; exact posW_le _ _ _)
      have hby2 : f_X11_addByWeight B S n Mz zz (some wt) (some (ad (1000 + x.toNat))) = some (M1, sz1) := by
        unfold f_X11_addByWeight
        refine hby.trans ?_
        rw [i1]
        rfl
      have hl1 := i4 (fun y => if y = zz ∧ zz < sz1 then 999 else rhoT y) (fun y hy => by
        show (if y = zz ∧ zz < sz1 then 999 else rhoT y) = 999
        split
        · rfl
        · exact hy) (fun hz => by
        show (if zz = zz ∧ zz < sz1 then 999 else rhoT zz) = 999
        rw [if_pos ⟨rfl, hz⟩])
      have hins : (acc.map (fun t => ad (1000 + t))).take (posW (fun t => vR u 8 t) x.toNat acc) ++ ad (1000 + x.toNat) :: (acc.map (fun t => ad (1000 + t))).drop (posW (fun t => vR u 8 t) x.toNat acc) = (insW (fun t => vR u 8 t) x.toNat acc).map (fun t => ad (1000 + t)) := by
        rw [insW_pos, List.map_append, List.map_cons, List.map_take, List.map_drop]
      rw [hins] at hl1
      obtain ⟨M2, zz2, rho2, w1, w2, w3, w4, w5⟩ := ih (q + 1) _ M1 sz1 _ (by omega) (by omega) (by rw [insW_len]; omega) (fun a ha => by
        rcases insW_mem.mp ha with q1 | q1
        · rw [q1]
          exact hxi
        · exact hacm a q1) (fun y hy => by
        rw [i3 y (fun q1 => by have := hT y q1; omega) (by omega)]
        exact fr y hy) hl1 (fun y hy => by
        have hy2 : (if y = zz ∧ zz < sz1 then 999 else rhoT y) = 999 := hy
        by_cases e3 : y = zz ∧ zz < sz1
        · omega
        · rw [if_neg e3] at hy2
          have := hT y hy2
          omega)
      refine ⟨M2, zz2, rho2, ?_, by omega, w3, w4, w5⟩
      rw [hby2]
      simp only [Option.bind_some]
      rw [iI_s]
      exact w1
end LLS
