/-! LOAN: the draft and the reference's rows, together -/
theorem pkL_mem {u : MS} {lim : Int} : ∀ (l : List Nat) (ct : Nat → List Nat) (P : Nat), (∀ p m, m ∈ ct p → ∃ q, m ∈ (pkL u lim l ct P).1 q) ∧ ∀ m, m ∈ l → ∃ q, m ∈ (pkL u lim l ct P).1 q := by
  intro l
  induction l with
  | nil => exact fun ct P => ⟨fun p m h => ⟨p, h⟩, fun m h => by simp at h⟩
  | cons a l ih =>
    intro ct P
    rw [pkL]
    obtain ⟨h1, h2⟩ := ih (putC ct (fpL u lim ct a P 0) a) (if fpL u lim ct a P 0 = P then P + 1 else P)
    refine ⟨fun p m hm => h1 p m ?_, fun m hm => ?_⟩
    · by_cases e : p = fpL u lim ct a P 0
      · rw [e] at hm ⊢
        rw [putC_p]
        exact List.mem_append.mpr (Or.inl hm)
      · rw [putC_o e]
        exact hm
    · rcases List.mem_cons.mp hm with e | e
      · refine h1 (fpL u lim ct a P 0) m ?_
        rw [putC_p, e]
        simp
      · exact h2 m e
section JPR
variable {B : Nat} {S : Nat → Nat} {L : Mem} {x0 : Nat} {ad rho : Nat → Nat} {xl : Nat → List Nat} {M2 : Mem} {u6 : MS} {sz N j c l hh : Nat} {g : Nat → Int} {t : List Int} {w A D : Int} {st rp ap v ls : Int32}
theorem j_pre (hL : LOK B L) (hEm : EmpOK S L) (K2 : RepK B S L x0 ad rho xl M2 (uI u6 4 v) sz) (I2 : Inv (uI u6 4 v) xl) (hb2 : M2 x0 = some (.inl (14, booF ad (iI (stdS u6)) (u6.1 33) (u6.1 10) v (u6.1 2)))) (KR : RepK B S L x0 ad rho xl (va_up M2 x0 (some (.inl (14, booF ad (iI (stdS u6)) (u6.1 33) (u6.1 10) (u6.1 4) (u6.1 2))))) u6 sz) (IR : Inv u6 xl) (h23 : vN u6 23 = (l : Int)) (hd : Rd B ad rho M2 M2 N g t j w) (ht : t.length = 2 + c) (hri : riS (vN u6 5) (-1) (t.drop 2) = true) (hhh : hh < (vN u6 14).toNat) (hA : t.getD 0 0 = A) (hD : t.getD 1 0 = D) (hA2 : 0 ≤ A ∧ A ≤ 999) (hD2 : 1 ≤ D ∧ D ≤ 300) (hend : A + (2 * vR u6 15 hh + D) ≤ 1000) (n : Nat) (hn : 2100 ≤ n) : ∃ (M1 : Mem) (zz : Nat) (rh pa : Nat → Nat) (ct : Nat → List Nat) (P : Nat) (u1 : MS), f_X11_draftLoan B S n M2 sz (some x0) (some (ad (5000 + hh))) = some (some sz, M1, zz) ∧ sz ≤ zz ∧ f_X12_set n u6 (iI l) (iI hh) (iI A) (iI D) (bitsF 0 (t.drop 2)) = some u1 ∧ Fix B S L x0 ad rho xl (va_up M1 x0 (some (.inl (14, booF ad (iI (stdS u6)) (u6.1 33) (u6.1 10) (u6.1 4) (u6.1 2))))) M1 u6 u1 sz zz rh ct l P ∧ GS S ad rho M1 u1 rh sz pa ct l P u1 M1 ∧ (∀ p, p < P → vR u1 31 (l * 16 + p) = -1 ∧ vR u1 32 (l * 16 + p) = -1) ∧ vR u1 24 l = 1 ∧ (∀ x : Nat, x < 16 → hadS u1 l x = true → x < (vN u6 5).toNat ∧ (x ∈ (t.drop 2).map Int.toNat) ∧ ∃ p, p < P ∧ x ∈ ct p ∧ vR u1 30 (l * 16 + x) = (p : Int)) ∧ vR u1 26 l = A ∧ lenS u1 l = 2 * vR u6 15 hh + D := by
  have n5 := IR.n5
  have n14 := IR.n14
  have n23 := IR.n23
  have hl : l < 17 := by omega
  obtain ⟨hin, hpw, hcl⟩ := riS_prs (vN u6 5) (t.drop 2) (-1) hri
  rw [List.length_drop] at hcl
  have hc : c ≤ 16 := by omega
  have hx := K2.xlt
  obtain ⟨M1, zz, rh, pa, e1, e2, e3, e4, e5, e6⟩ := z_draft hL hEm K2 I2 hd ht hc (fun x hx => by
    have := hin x hx
    exact ⟨by omega, this.2⟩) hhh n (by omega)
  have epk : pkL (uI u6 4 v) (vR (uI u6 4 v) 16 hh) (ordW (fun t => vR (uI u6 4 v) 8 t) [] ((t.drop 2).map Int.toNat)) (fun _ => []) 0 = pkL u6 (vR u6 16 hh) (ordW (fun t => vR u6 8 t) [] ((t.drop 2).map Int.toNat)) (fun _ => []) 0 := pkL_congr (u := uI u6 4 v) (v := u6) (fun xs m => rfl) _ _ _
  rw [epk] at e4 e5 e6
  rw [hA, hD] at e5
  have hperm := ordW_perm (fun t => vR u6 8 t) ((t.drop 2).map Int.toNat) []
  rw [List.nil_append] at hperm
  have hpair := ordW_pair (fun t => vR u6 8 t) ((t.drop 2).map Int.toNat) [] List.Pairwise.nil (List.pairwise_map.mpr (hpw.imp_of_mem (fun {a b} ha hb hab => by
    have h1 := hin a ha
    omega))) (fun a ha => by simp at ha)
  generalize ordW (fun t => vR u6 8 t) [] ((t.drop 2).map Int.toNat) = lw at *
  have hll : lw.length = c := by
    rw [hperm.length_eq, List.length_map, List.length_drop]
    omega
  have hlm : ∀ a, a ∈ lw → a < (vN u6 5).toNat := fun a ha => by
    obtain ⟨y, hy, rfl⟩ := List.mem_map.mp (hperm.mem_iff.mp ha)
    have := hin y hy
    omega
  have s25 : vR (setU u6 l (iI hh) (iI A) (iI D) (bitsF 0 (t.drop 2))) 25 l = hh := vR_eq (by rw [setU_2, if_neg (by omega), if_neg (by omega), if_neg (by omega), if_pos ⟨rfl, rfl⟩]) (by omega)
  have sr : ∀ k, (k < 24 ∨ 28 < k) → ∀ i, vR (setU u6 l (iI hh) (iI A) (iI D) (bitsF 0 (t.drop 2))) k i = vR u6 k i := fun k hk i => by
    unfold vR
    rw [setU_row _ _ _ _ _ _ hk]
  have hb : HasB (bitsF 0 (t.drop 2)) lw := fun i hi => by
    rw [bitsF_has (t.drop 2) (fun x hx => by
      have := hin x hx
      omega) 0 i hi, b_nul, Bool.false_or]
    exact decide_eq_decide.mpr hperm.mem_iff.symm
  have e28 : (setU u6 l (iI hh) (iI A) (iI D) (bitsF 0 (t.drop 2))).2 28 l = bitsF 0 (t.drop 2) := by
    rw [setU_2, if_pos ⟨rfl, rfl⟩]
  have hhad : ∀ a : Nat, a < 32 → (hadS (setU u6 l (iI hh) (iI A) (iI D) (bitsF 0 (t.drop 2))) l a = true ↔ a ∈ lw) := fun a ha => by
    unfold hadS
    rw [Int.toNat_natCast, e28, decide_eq_true_eq, bit_iff _ a ha, hb a ha, decide_eq_true_eq]
  have hk := IR.houk hh hhh
  obtain ⟨u1, p1, p2, p3, p4⟩ := t_pack (u0 := setU u6 l (iI hh) (iI A) (iI D) (bitsF 0 (t.drop 2))) hl n5 (by
    unfold HouOK
    rw [Int.toNat_natCast, s25]
    omega) (fun i hi => by
    rw [sr 8 (by omega)]
    have := (IR.thi i hi).2.2
    omega) n (by omega) (lw := lw) (by omega) (by rw [e28]; exact hb) (by
    rw [show (fun t_1 => vR (setU u6 l (iI hh) (iI A) (iI D) (bitsF 0 (t.drop 2))) 8 t_1) = fun t => vR u6 8 t from funext fun i => sr 8 (by omega) i]
    exact hpair) (fun a ha => by
    have h1 := hlm a ha
    exact ⟨h1, (hhad a (by omega)).mpr ha⟩)
  have ep2 : pkL (setU u6 l (iI hh) (iI A) (iI D) (bitsF 0 (t.drop 2))) (vR (setU u6 l (iI hh) (iI A) (iI D) (bitsF 0 (t.drop 2))) 16 (vR (setU u6 l (iI hh) (iI A) (iI D) (bitsF 0 (t.drop 2))) 25 l).toNat) lw (fun _ => []) 0 = pkL u6 (vR u6 16 hh) lw (fun _ => []) 0 := by
    rw [s25, Int.toNat_natCast, sr 16 (by omega)]
    exact pkL_congr (fun xs m => fitL_row (setU_row _ _ _ _ _ _ (by omega)) (setU_row _ _ _ _ _ _ (by omega)) (setU_row _ _ _ _ _ _ (by omega)) _ xs m) _ _ _
  rw [ep2] at p2 p3 p4
  have hmem := (pkL_mem (u := u6) (lim := vR u6 16 hh) lw (fun _ => []) 0).2
  generalize pkL u6 (vR u6 16 hh) lw (fun _ => []) 0 = X at *
  obtain ⟨ct, P⟩ := X
  have e5' : DraC S ad M1 rh u6 sz (ad (5000 + hh)) (iI A) 1 (iI D) pa ct P := e5
  have e6' : CtOK u6 (vN u6 5).toNat ct P c := e6
  have KK : RepK B S L x0 ad rho xl (va_up M1 x0 (some (.inl (14, booF ad (iI (stdS u6)) (u6.1 33) (u6.1 10) (u6.1 4) (u6.1 2))))) u6 sz := KR.more hL (fun y hy => by
    by_cases q : y = x0
    · rw [q, va_up_self, va_up_self]
    · rw [va_up_ne _ _ q, va_up_ne _ _ q]
      exact e3 y hy)
  obtain ⟨F, G⟩ := GS.start (cnt := c) KK IR (fun y hy => va_up_ne _ _ hy) ((e3 x0 hx.2).trans hb2) h23 hhh hA2 hD2 hend e4 p2 e6' hc p4 e5'
  have f24 : u1.2 24 l = 1 := by
    rw [RefP.row p2 (by omega), setU_2, if_neg (by omega), if_neg (by omega), if_neg (by omega), if_neg (by omega), if_pos ⟨rfl, rfl⟩]
  have f26 : u1.2 26 l = iI A := by
    rw [RefP.row p2 (by omega), setU_2, if_neg (by omega), if_neg (by omega), if_pos ⟨rfl, rfl⟩]
  have f27 : vR u1 27 l = D := vR_eq (by rw [RefP.row p2 (by omega), setU_2, if_neg (by omega), if_pos ⟨rfl, rfl⟩]) (by omega)
  have f25 : vR u1 25 l = hh := by rw [RefP.vr p2 (by omega), s25]
  refine ⟨M1, zz, rh, pa, ct, P, u1, e1, e2, ?_, F, G, p2.2.2.2.2.2, vR_eq f24 (by omega), fun x hx hhx => ?_, vR_eq f26 (by omega), ?_⟩
  · have ql : inb (iI (l : Int)) 17 := (iI_inb _ 17 (by omega)).mpr (by omega)
    have cl : (iI (l : Int)).toNatClampNeg = l := by rw [iI_clamp _ (by omega)]; omega
    have p1' : f_X12_pack n (uA (uA (uA (uA (uA u6 24 l (1 : Int32)) 25 l (iI hh)) 26 l (iI A)) 27 l (iI D)) 28 l (bitsF 0 (t.drop 2))) (iI l) = some u1 := p1
    unfold f_X12_set
    simp only [if_pos ql, cl]
    rw [p1']
    rfl
  · rw [RefP.had p2] at hhx
    have hxl := (hhad x (by omega)).mp hhx
    obtain ⟨p, hp⟩ := hmem x hxl
    have h4 := p2.2.2.2.1 x hx
    have h5 := (h4.2 p).mp hp
    exact ⟨hlm x hxl, hperm.mem_iff.mp hxl, p, by omega, hp, h5⟩
  · unfold lenS
    rw [Int.toNat_natCast, f25, Int.toNat_natCast, f27, RefP.vr p2 (by omega), sr 15 (by omega)]
end JPR
