/-! CHARGES OF ALL REPORTS; TEXTS BYTE BY BYTE -/
theorem ch_ok : ∀ c : Fin 128, (((Int32.ofNat c.1) &&& (255 : Int32)).toUInt32 % 65536).toInt32 = Int32.ofNat c.1 ∧ ((Int32.ofNat c.1).toUInt32 % 65536).toInt32 = Int32.ofNat c.1 ∧ (Int32.ofNat c.1).toInt8.toInt32 = Int32.ofNat c.1 := by decide +kernel
theorem ch_iI (c : Int) (h : 0 ≤ c ∧ c ≤ 127) : ((iI c &&& (255 : Int32)).toUInt32 % 65536).toInt32 = iI c ∧ ((iI c).toUInt32 % 65536).toInt32 = iI c ∧ (iI c).toInt8.toInt32 = iI c := by
  have := ch_ok ⟨c.toNat, by omega⟩
  have e : Int32.ofNat c.toNat = iI c := by
    rw [iI, ← Int32.ofInt_eq_ofNat, show ((c.toNat : Nat) : Int) = c by omega]
  simp only [e] at this
  exact this
section QF
variable {B : Nat} {S : Nat → Nat} {L : Mem} {x0 : Nat} {ad rho : Nat → Nat} {xl : Nat → List Nat} {M : Mem} {u : MS} {sz : Nat}
theorem z_borne_in (h : RepK B S L x0 ad rho xl M u sz) (hI : Inv u xl) (n : Nat) (hf : 2100 ≤ n) (x : Int) (hx : -2147483648 ≤ x ∧ x < 2147483648) (x4 : Int32) {i : Nat} (hi : i < (vN u 5).toNat) : ∀ (k j : Nat) (w : Int), j ≤ (xl (4000 + i)).length → (xl (4000 + i)).length - j < k → f_X11_damagesBorneBy_L34 n M (some x0) (iI x) x4 (some (ad (1000 + i))) k (iL w) (iI j) = some (iL (w + sumN (fun r => borneP u x r) ((xl (4000 + i)).drop j))) := by
  have hF := hI.rps i hi
  have hl := (h.thi hi).2.2.2
  have hlen := hl.len
  have hsz := hl.size
  rw [List.length_map] at hlen hsz
  obtain ⟨w0, g1, -⟩ := (h.thi hi).1
  intro k
  induction k with
  | zero => intro j w _ h; omega
  | succ k ih =>
    intro j w hj hk
    unfold f_X11_damagesBorneBy_L34 f_X10_reportsTold
    rw [isO_at g1.1, if_pos rfl, gR_at g1.1]
    simp only [List.getElem?_cons_zero, List.getElem?_cons_succ, Option.bind_some]
    rw [hl.is, if_pos rfl, hsz, Option.bind_some, Option.bind_some, it_le _ _ (by omega)]
    by_cases e : (xl (4000 + i)).length ≤ j
    · rw [if_pos (by omega), List.drop_eq_nil_of_le e, sumN, Int.add_zero]
    · have hlt : j < (xl (4000 + i)).length := by omega
      have hx2 : (xl (4000 + i))[j]? = some (xl (4000 + i))[j] := List.getElem?_eq_getElem hlt
      have hr := (hF.mem _).mp (List.getElem_mem hlt)
      have hd := damS_rng hI _ hr.1
      have hb : -1 ≤ bearS u ((xl (4000 + i))[j] : Nat) ∧ bearS u ((xl (4000 + i))[j] : Nat) ≤ 17 := by
        have h23 := hI.n23
        have := bearS_rng u ((xl (4000 + i))[j] : Nat) h23
        omega
      have ihj := fun w => ih (j + 1) w (by omega) (by omega)
      push_cast at ihj
      rw [if_neg (by omega), isO_at h.book, if_pos rfl, z_bearerOf h hI hi hx2 n (by omega), Option.bind_some, it_eq _ _ (by omega), if_true, z_damageTold h hI hi hx2 n (by omega), Option.bind_some, iI_long _ (by omega), iL_add, show (1 : Int32) = iI 1 from rfl, iI_add, dropc _ j hlt, sumN]
      unfold borneP
      by_cases c : bearS u ((xl (4000 + i))[j] : Nat) = x
      · rw [if_pos c, if_pos c, ihj, Int.add_assoc]
        rfl
      · rw [if_neg c, if_neg c, ihj, Int.zero_add]
        rfl
theorem z_borne_out (h : RepK B S L x0 ad rho xl M u sz) (hI : Inv u xl) (n : Nat) (hf : 2100 ≤ n) (x : Int) (hx : -2147483648 ≤ x ∧ x < 2147483648) : ∀ (k : Nat) (w i : Int), 0 ≤ i → i ≤ vN u 5 → (vN u 5 - i).toNat < k → (0 ≤ w + sumI (fun i => sumN (fun r => borneP u x r) (xl (4000 + i.toNat))) (vN u 5 - i).toNat i ∧ w + sumI (fun i => sumN (fun r => borneP u x r) (xl (4000 + i.toNat))) (vN u 5 - i).toNat i < 1000000000000) → f_X11_damagesBorneBy_L5 n M (some x0) (iI x) k (iL w) (iI i) = some (iI ((w + sumI (fun i => sumN (fun r => borneP u x r) (xl (4000 + i.toNat))) (vN u 5 - i).toNat i).tdiv 1000)) := by
  have h5 := hI.n5
  have hl := h.rows.1
  have hsz := hl.size
  rw [seqA_len] at hsz
  intro k
  induction k with
  | zero => intro w i _ _ h; omega
  | succ k ih =>
    intro w i h0 hi hk hr
    unfold f_X11_damagesBorneBy_L5
    rw [gR_at h.book]
    simp only [booF, List.getElem?_cons_zero, List.getElem?_cons_succ, Option.bind_some]
    rw [hl.is, if_pos rfl, hsz, Option.bind_some, it_le _ _ (by omega)]
    by_cases e : vN u 5 ≤ i
    · rw [show (vN u 5 - i).toNat = 0 by omega, sumI, Int.add_zero] at hr ⊢
      have hq : w.tdiv 1000 = w / 1000 := Int.tdiv_eq_ediv_of_nonneg hr.1
      rw [if_pos (by omega), show (1000 : Int64) = iL 1000 from rfl, iL_div _ _ (by omega), iL_int _ (by omega)]
    · have hin : i.toNat < (vN u 5).toNat := by omega
      have hlen := (h.thi hin).2.2.2.len
      rw [List.length_map] at hlen
      obtain ⟨w0, g1, -⟩ := (h.thi hin).1
      have e1 : (vN u 5 - i).toNat = (vN u 5 - (i + 1)).toNat + 1 := by omega
      rw [e1, sumI, ← Int.add_assoc] at hr
      have hin2 := z_borne_in h hI n hf x hx (iI i) hin n 0 w (by omega) (by omega)
      rw [List.drop_zero, show ((0 : Nat) : Int) = 0 from rfl] at hin2
      rw [if_neg (by omega), if_pos rfl, hl.get h0 (seqA_get _ _ _ _ hin), Option.bind_some, if_pos (Or.inr (isO_at g1.1)), show (0 : Int32) = iI 0 from rfl, hin2, Option.bind_some, show (1 : Int32) = iI 1 from rfl, iI_add, e1, sumI, ← Int.add_assoc]
      exact ih _ (i + 1) (by omega) (by omega) (by omega) hr
theorem borne_all {u : MS} {xl : Nat → List Nat} (hI : Inv u xl) (g : Int → Int) : sumI (fun i => sumN (fun r => g r) (xl (4000 + i.toNat))) (vN u 5).toNat 0 = sumI g (vN u 33).toNat 0 := by
  have h5 := hI.n5
  have e1 : sumI (fun i => sumN (fun r => g r) (xl (4000 + i.toNat))) (vN u 5).toNat 0 = sumI (fun i => sumI (fun r => if vR u 34 r.toNat = i then g r else 0) (vN u 33).toNat 0) (vN u 5).toNat 0 := by
    apply sumI_congr
    intro i i0 i1
    rw [sumN_perm _ (hI.rps i.toNat (by omega)).1, sumN_sel]
    apply sumI_congr
    intro r r0 r1
    rw [show ((i.toNat : Nat) : Int) = i by omega, show ((r.toNat : Nat) : Int) = r by omega]
    simp only [decide_eq_true_eq]
  rw [e1, sumI_swap]
  apply sumI_congr
  intro r r0 r1
  have hk := hI.rptk r.toNat (by omega)
  have h34 := hk.1.2.1
  have h34b := hk.2.2.1
  simp only [Int.toNat_natCast] at h34
  rw [sumI_one (fun _ => g r) (vR u 34 r.toNat), if_pos (by omega)]
theorem borneP_rng {u : MS} {xl : Nat → List Nat} (hI : Inv u xl) (x : Int) : 0 ≤ sumI (borneP u x) (vN u 33).toNat 0 ∧ sumI (borneP u x) (vN u 33).toNat 0 ≤ 48 * 2147483648 := by
  have h33 := hI.n33
  have := sumI_bnd (borneP u x) 2147483648 (vN u 33).toNat 0 (fun r r0 r1 => by
    have := damS_rng hI r.toNat (by omega)
    rw [show ((r.toNat : Nat) : Int) = r by omega] at this
    unfold borneP
    split <;> omega)
  have hm : ((vN u 33).toNat : Int) * 2147483648 ≤ 48 * 2147483648 := Int.mul_le_mul_of_nonneg_right (by omega) (by decide)
  omega
theorem z_damagesBorneBy (h : RepK B S L x0 ad rho xl M u sz) (hI : Inv u xl) (n : Nat) (hf : 2100 ≤ n) (x : Int) (hx : -2147483648 ≤ x ∧ x < 2147483648) : f_X11_damagesBorneBy n M (some x0) (iI x) = some (iI (chargS u x)) := by
  have h5 := hI.n5
  have e := borne_all hI (borneP u x)
  have hr := borneP_rng hI x
  unfold f_X11_damagesBorneBy chargS
  have := z_borne_out h hI n hf x hx n 0 0 (by omega) (by omega) (by omega)
  rw [Int.sub_zero, Int.zero_add, e] at this
  exact this (by omega)
theorem TxtR.is {id a : Nat} {t : List Int} (h : TxtR M rho id a t) : isO M (some a) 0 = true := by
  obtain ⟨b, r, f, h1, h2, h3, h4⟩ := h
  exact isO_at h1.1
theorem TxtR.size {id a : Nat} {t : List Int} (h : TxtR M rho id a t) : f_J0_length_8abf5 M (some a) = some (iI t.length) := by
  have hi := h.is
  obtain ⟨b, r, f, h1, h2, h3, h4⟩ := h
  unfold f_J0_length_8abf5 f_J0_coder_7d493
  rw [gR_at h1.1]
  simp only [List.getElem?_cons_zero, Option.bind_some]
  rw [aL_i (by decide) h2.1, Option.bind_some, hi, if_pos rfl, gI_at h1.1]
  simp only [List.getElem?_cons_zero, List.getElem?_cons_succ, Option.bind_some]
  first
    | rfl
    | (rw [show ((0 : Int32) &&& 31) = 0 from rfl, Int32.shiftRight_zero])
    | simp
theorem TxtR.chr {id a : Nat} {t : List Int} (h : TxtR M rho id a t) (k : Int) (hk : 0 ≤ k ∧ k < t.length) : f_J0_charAt_5068e M (some a) (iI k) = some (iI (t.getD k.toNat 0)) := by
  have hi := h.is
  obtain ⟨b, r, f, h1, h2, h3, h4⟩ := h
  obtain ⟨h5, h6, h7⟩ := h4 k.toNat (by omega)
  obtain ⟨c1, c2, c3⟩ := ch_iI (t.getD k.toNat 0) ⟨h6, h7⟩
  unfold f_J0_charAt_5068e f_J0_isLatin1_aae02
  rw [hi, if_pos rfl, gI_at h1.1]
  simp only [List.getElem?_cons_zero, List.getElem?_cons_succ, Option.bind_some, if_true]
  rw [if_neg (by decide), gR_at h1.1]
  simp only [List.getElem?_cons_zero, Option.bind_some]
  unfold f_J1_charAt_3b067 f_J0_checkIndex_df160
  rw [aL_i (by decide) h2.1, Option.bind_some, z_chk M k _ _ hk (by omega), Option.bind_some, Option.bind_some, aI_at h2.1 hk (by omega), Option.bind_some, h5, c1, Option.bind_some, if_pos c2]
theorem z_answerByte (h : RepK B S L x0 ad rho xl M u sz) {rho2 : Nat → Nat} {id a : Nat} {t : List Int} (ht : TxtR M rho2 id a t) (k : Int) (hk : -2147483648 ≤ k ∧ k < 2147483648) : f_X11_answerByte B M (some x0) (some a) (iI k) = if 0 ≤ k ∧ k < t.length then fineK ad u x0 M (t.getD k.toNat 0) else noK ad u x0 M 1 := by
  have hlen : t.length ≤ 300 := by obtain ⟨b, r, f, h1, h2, h3, h4⟩ := ht; exact h3
  unfold f_X11_answerByte
  rw [iI_zero, it_lt _ _ (by omega), isO_at h.book, if_pos rfl, z_refuse1 h]
  by_cases c1 : k < 0
  · rw [if_pos c1, if_neg (by omega)]
    rfl
  · rw [if_neg c1, ht.is, if_pos rfl, ht.size, Option.bind_some, it_lt _ _ (by omega)]
    by_cases c2 : k < t.length
    · rw [if_pos c2, if_pos rfl, ht.chr k (by omega), Option.bind_some, if_pos rfl, z_answer h, if_pos (by omega)]
      rfl
    · rw [if_neg c2, if_neg (show ¬ (0 ≤ k ∧ k < t.length) by omega)]
      rfl
end QF
