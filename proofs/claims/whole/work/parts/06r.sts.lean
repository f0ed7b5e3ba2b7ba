/-! THE QUERIES, BOTH SIDES AT ONCE -/
section STQ
variable {B : Nat} {S : Nat → Nat} {L : Mem} {x0 : Nat} {ad rho : Nat → Nat} {xl : Nat → List Nat} {M : Mem} {u : MS} {sz nc nr : Nat}
abbrev Ans (B : Nat) (S : Nat → Nat) (L : Mem) (x0 sz nc nr : Nat) (K : Option (Int32 × Mem)) (T : Option (Int32 × MS)) : Prop := ∃ (r : Int32) (M1 : Mem) (u1 : MS), K = some (r, M1) ∧ T = some (r, u1) ∧ SimB B S L x0 M1 u1 sz nc nr
theorem ans_fine (hL : LOK B L) (h : RepK B S L x0 ad rho xl M u sz) (hI : Inv u xl) (z : Int) : Ans B S L x0 sz (vN u 19).toNat (vN u 33).toNat (fineK ad u x0 M z) (fineS u z) := ⟨_, _, _, rfl, rfl, sim_st hL h hI 0⟩
theorem ans_no (hL : LOK B L) (h : RepK B S L x0 ad rho xl M u sz) (hI : Inv u xl) (z : Int) : Ans B S L x0 sz (vN u 19).toNat (vN u 33).toNat (noK ad u x0 M z) (noS u z) := ⟨_, _, _, rfl, rfl, sim_st hL h hI z⟩
theorem ans_if {p : Prop} [Decidable p] {K K2 : Option (Int32 × Mem)} {T T2 : Option (Int32 × MS)} (h1 : p → Ans B S L x0 sz nc nr K T) (h2 : ¬ p → Ans B S L x0 sz nc nr K2 T2) : Ans B S L x0 sz nc nr (if p then K else K2) (if p then T else T2) := by
  by_cases c : p
  · rw [if_pos c, if_pos c]
    exact h1 c
  · rw [if_neg c, if_neg c]
    exact h2 c
theorem st_value (hL : LOK B L) (h : SimB B S L x0 M u sz nc nr) (a1 : Int32) (a2 : Int32) : Ans B S L x0 sz nc nr (f_X11_value B 4000 M (some x0) a1 a2) (f_X12_value 4000 u a1 a2) := by
  obtain ⟨ad, rho, xl, hK, hI, rfl, rfl⟩ := h
  rw [← iI_toInt a1]
  rw [← iI_toInt a2]
  rw [q_value hK hI 4000 (by omega) a1.toInt a2.toInt ⟨rng_lo a1, rng_hi a1⟩ ⟨rng_lo a2, rng_hi a2⟩, t_value 4000 u a1.toInt a2.toInt ⟨rng_lo a1, rng_hi a1⟩ ⟨rng_lo a2, rng_hi a2⟩ hI.num (by omega)]
  exact ans_if (fun _ => ans_no hL hK hI _) (fun _ => ans_if (fun _ => ans_no hL hK hI _) (fun _ => ans_fine hL hK hI _))
theorem st_where (hL : LOK B L) (h : SimB B S L x0 M u sz nc nr) (a1 : Int32) (a2 : Int32) : Ans B S L x0 sz nc nr (f_X11_where B M (some x0) a1 a2) (f_X12_where 4000 u a1 a2) := by
  obtain ⟨ad, rho, xl, hK, hI, rfl, rfl⟩ := h
  rw [← iI_toInt a1]
  rw [← iI_toInt a2]
  rw [q_where hK hI 4000 (by omega) a1.toInt a2.toInt ⟨rng_lo a1, rng_hi a1⟩ ⟨rng_lo a2, rng_hi a2⟩, t_where 4000 u a1.toInt a2.toInt ⟨rng_lo a1, rng_hi a1⟩ ⟨rng_lo a2, rng_hi a2⟩ hI.num hI.loansOK (by omega)]
  exact ans_if (fun _ => ans_no hL hK hI _) (fun _ => ans_if (fun _ => ans_no hL hK hI _) (fun _ => ans_fine hL hK hI _))
theorem st_harms (hL : LOK B L) (h : SimB B S L x0 M u sz nc nr) (a1 : Int32) (a2 : Int32) : Ans B S L x0 sz nc nr (f_X11_harms B 4000 M (some x0) a1 a2) (f_X12_harms 4000 u a1 a2) := by
  obtain ⟨ad, rho, xl, hK, hI, rfl, rfl⟩ := h
  rw [← iI_toInt a1]
  rw [← iI_toInt a2]
  rw [q_harms hK hI 4000 (by omega) a1.toInt a2.toInt ⟨rng_lo a1, rng_hi a1⟩ ⟨rng_lo a2, rng_hi a2⟩, t_harms 4000 u a1.toInt a2.toInt ⟨rng_lo a1, rng_hi a1⟩ ⟨rng_lo a2, rng_hi a2⟩ hI.num (by omega)]
  exact ans_if (fun _ => ans_no hL hK hI _) (fun _ => ans_if (fun _ => ans_no hL hK hI _) (fun _ => ans_fine hL hK hI _))
theorem st_free (hL : LOK B L) (h : SimB B S L x0 M u sz nc nr) (a1 : Int32) (a2 : Int32) (a3 : Int32) : Ans B S L x0 sz nc nr (f_X11_free B 4000 M (some x0) a1 a2 a3) (f_X12_free 4000 u a1 a2 a3) := by
  obtain ⟨ad, rho, xl, hK, hI, rfl, rfl⟩ := h
  rw [← iI_toInt a1]
  rw [← iI_toInt a2]
  rw [← iI_toInt a3]
  rw [q_free hK hI 4000 (by omega) a1.toInt a2.toInt a3.toInt ⟨rng_lo a1, rng_hi a1⟩ ⟨rng_lo a2, rng_hi a2⟩ ⟨rng_lo a3, rng_hi a3⟩, t_free 4000 u a1.toInt a2.toInt a3.toInt ⟨rng_lo a1, rng_hi a1⟩ ⟨rng_lo a2, rng_hi a2⟩ ⟨rng_lo a3, rng_hi a3⟩ hI.num hI.loansOK (by omega)]
  exact ans_if (fun _ => ans_no hL hK hI _) (fun _ => ans_if (fun _ => ans_no hL hK hI _) (fun _ => ans_if (fun _ => ans_no hL hK hI _) (fun _ => ans_fine hL hK hI _)))
theorem st_stage (hL : LOK B L) (h : SimB B S L x0 M u sz nc nr) (a1 : Int32) (a2 : Int32) : Ans B S L x0 sz nc nr (f_X11_stage B M (some x0) a1 a2) (f_X12_stage u a1 a2) := by
  obtain ⟨ad, rho, xl, hK, hI, rfl, rfl⟩ := h
  rw [← iI_toInt a1]
  rw [← iI_toInt a2]
  rw [q_stage hK hI 4000 (by omega) a1.toInt a2.toInt ⟨rng_lo a1, rng_hi a1⟩ ⟨rng_lo a2, rng_hi a2⟩, t_stage u a1.toInt a2.toInt ⟨rng_lo a1, rng_hi a1⟩ ⟨rng_lo a2, rng_hi a2⟩ hI.num hI.loansOK]
  exact ans_if (fun _ => ans_no hL hK hI _) (fun _ => ans_if (fun _ => ans_no hL hK hI _) (fun _ => ans_fine hL hK hI _))
theorem st_cost (hL : LOK B L) (h : SimB B S L x0 M u sz nc nr) (a1 : Int32) (a2 : Int32) : Ans B S L x0 sz nc nr (f_X11_cost B 4000 M (some x0) a1 a2) (f_X12_cost 4000 u a1 a2) := by
  obtain ⟨ad, rho, xl, hK, hI, rfl, rfl⟩ := h
  rw [← iI_toInt a1]
  rw [← iI_toInt a2]
  rw [q_cost hK hI 4000 (by omega) a1.toInt a2.toInt ⟨rng_lo a1, rng_hi a1⟩ ⟨rng_lo a2, rng_hi a2⟩, t_cost 4000 u a1.toInt a2.toInt ⟨rng_lo a1, rng_hi a1⟩ ⟨rng_lo a2, rng_hi a2⟩ hI.num hI.loansOK hI.pof (by omega)]
  exact ans_if (fun _ => ans_no hL hK hI _) (fun _ => ans_if (fun _ => ans_no hL hK hI _) (fun _ => ans_fine hL hK hI _))
theorem st_dearest (hL : LOK B L) (h : SimB B S L x0 M u sz nc nr) (a1 : Int32) : Ans B S L x0 sz nc nr (f_X11_dearest B 4000 M (some x0) a1) (f_X12_dearest 4000 u a1) := by
  obtain ⟨ad, rho, xl, hK, hI, rfl, rfl⟩ := h
  rw [← iI_toInt a1]
  rw [q_dearest hK hI 4000 (by omega) a1.toInt ⟨rng_lo a1, rng_hi a1⟩, t_dearest 4000 u a1.toInt ⟨rng_lo a1, rng_hi a1⟩ hI.num hI.loansOK hI.cost (by omega)]
  exact ans_if (fun _ => ans_no hL hK hI _) (fun _ => ans_fine hL hK hI _)
theorem st_charge (hL : LOK B L) (h : SimB B S L x0 M u sz nc nr) (a1 : Int32) : Ans B S L x0 sz nc nr (f_X11_charge B 4000 M (some x0) a1) (f_X12_charge 4000 u a1) := by
  obtain ⟨ad, rho, xl, hK, hI, rfl, rfl⟩ := h
  rw [← iI_toInt a1]
  rw [q_charge hK hI 4000 (by omega) a1.toInt ⟨rng_lo a1, rng_hi a1⟩, t_charge 4000 u a1.toInt ⟨rng_lo a1, rng_hi a1⟩ hI.num hI.loansOK hI.reps (by omega)]
  exact ans_if (fun _ => ans_no hL hK hI _) (fun _ => ans_fine hL hK hI _)
theorem st_parcels (hL : LOK B L) (h : SimB B S L x0 M u sz nc nr) (a1 : Int32) : Ans B S L x0 sz nc nr (f_X11_parcels B M (some x0) a1) (f_X12_parcels u a1) := by
  obtain ⟨ad, rho, xl, hK, hI, rfl, rfl⟩ := h
  rw [← iI_toInt a1]
  rw [q_parcels hK hI 4000 (by omega) a1.toInt ⟨rng_lo a1, rng_hi a1⟩, t_parcels u a1.toInt ⟨rng_lo a1, rng_hi a1⟩ hI.num]
  exact ans_if (fun _ => ans_no hL hK hI _) (fun _ => ans_fine hL hK hI _)
theorem st_parcel (hL : LOK B L) (h : SimB B S L x0 M u sz nc nr) (a1 : Int32) (a2 : Int32) : Ans B S L x0 sz nc nr (f_X11_parcel B 4000 M (some x0) a1 a2) (f_X12_parcel u a1 a2) := by
  obtain ⟨ad, rho, xl, hK, hI, rfl, rfl⟩ := h
  rw [← iI_toInt a1]
  rw [← iI_toInt a2]
  rw [q_parcel hK hI 4000 (by omega) a1.toInt a2.toInt ⟨rng_lo a1, rng_hi a1⟩ ⟨rng_lo a2, rng_hi a2⟩, t_parcel u a1.toInt a2.toInt ⟨rng_lo a1, rng_hi a1⟩ ⟨rng_lo a2, rng_hi a2⟩ hI.num]
  exact ans_if (fun _ => ans_no hL hK hI _) (fun _ => ans_if (fun _ => ans_no hL hK hI _) (fun _ => ans_if (fun _ => ans_no hL hK hI _) (fun _ => ans_fine hL hK hI _)))
theorem st_weight (hL : LOK B L) (h : SimB B S L x0 M u sz nc nr) (a1 : Int32) (a2 : Int32) : Ans B S L x0 sz nc nr (f_X11_weight B M (some x0) a1 a2) (f_X12_weight 4000 u a1 a2) := by
  obtain ⟨ad, rho, xl, hK, hI, rfl, rfl⟩ := h
  rw [← iI_toInt a1]
  rw [← iI_toInt a2]
  rw [q_weight hK hI a1.toInt a2.toInt ⟨rng_lo a1, rng_hi a1⟩ ⟨rng_lo a2, rng_hi a2⟩, t_weight 4000 u a1.toInt a2.toInt ⟨rng_lo a1, rng_hi a1⟩ ⟨rng_lo a2, rng_hi a2⟩ hI.num hI.parsOK (by omega)]
  exact ans_if (fun _ => ans_no hL hK hI _) (fun _ => ans_fine hL hK hI _)
theorem st_guard (hL : LOK B L) (h : SimB B S L x0 M u sz nc nr) (a1 : Int32) (a2 : Int32) (a3 : Int32) : Ans B S L x0 sz nc nr (f_X11_guard B M (some x0) a1 a2 a3) (f_X12_guard u a1 a2 a3) := by
  obtain ⟨ad, rho, xl, hK, hI, rfl, rfl⟩ := h
  rw [← iI_toInt a1]
  rw [← iI_toInt a2]
  rw [← iI_toInt a3]
  rw [q_guard hK hI a1.toInt a2.toInt a3.toInt ⟨rng_lo a1, rng_hi a1⟩ ⟨rng_lo a2, rng_hi a2⟩ ⟨rng_lo a3, rng_hi a3⟩, t_guard u a1.toInt a2.toInt a3.toInt ⟨rng_lo a1, rng_hi a1⟩ ⟨rng_lo a2, rng_hi a2⟩ ⟨rng_lo a3, rng_hi a3⟩ hI.num hI.parsOK]
  exact ans_if (fun _ => ans_no hL hK hI _) (fun _ => ans_if (fun _ => ans_fine hL hK hI _) (fun _ => ans_if (fun _ => ans_fine hL hK hI _) (fun _ => ans_no hL hK hI _)))
theorem st_busy (hL : LOK B L) (h : SimB B S L x0 M u sz nc nr) (a1 : Int32) : Ans B S L x0 sz nc nr (f_X11_busy B M (some x0) a1) (f_X12_busy 4000 u a1) := by
  obtain ⟨ad, rho, xl, hK, hI, rfl, rfl⟩ := h
  rw [← iI_toInt a1]
  rw [q_busy hK hI 4000 (by omega) a1.toInt ⟨rng_lo a1, rng_hi a1⟩, t_busy 4000 u a1.toInt ⟨rng_lo a1, rng_hi a1⟩ hI.num hI.loansOK hI.parsOK (by omega)]
  exact ans_if (fun _ => ans_no hL hK hI _) (fun _ => ans_fine hL hK hI _)
theorem st_with (hL : LOK B L) (h : SimB B S L x0 M u sz nc nr) (a1 : Int32) (a2 : Int32) : Ans B S L x0 sz nc nr (f_X11_with B M (some x0) a1 a2) (f_X12_with 4000 u a1 a2) := by
  obtain ⟨ad, rho, xl, hK, hI, rfl, rfl⟩ := h
  rw [← iI_toInt a1]
  rw [← iI_toInt a2]
  rw [q_with hK hI 4000 (by omega) a1.toInt a2.toInt ⟨rng_lo a1, rng_hi a1⟩ ⟨rng_lo a2, rng_hi a2⟩, t_with 4000 u a1.toInt a2.toInt ⟨rng_lo a1, rng_hi a1⟩ ⟨rng_lo a2, rng_hi a2⟩ hI.num hI.loansOK hI.parsOK (by omega)]
  exact ans_if (fun _ => ans_no hL hK hI _) (fun _ => ans_if (fun _ => ans_no hL hK hI _) (fun _ => ans_fine hL hK hI _))
theorem st_ready (hL : LOK B L) (h : SimB B S L x0 M u sz nc nr) (a1 : Int32) (a2 : Int32) (a3 : Int32) : Ans B S L x0 sz nc nr (f_X11_ready B 4000 M (some x0) a1 a2 a3) (f_X12_ready 4000 u a1 a2 a3) := by
  obtain ⟨ad, rho, xl, hK, hI, rfl, rfl⟩ := h
  rw [← iI_toInt a1]
  rw [← iI_toInt a2]
  rw [← iI_toInt a3]
  rw [q_ready hK hI 4000 (by omega) a1.toInt a2.toInt a3.toInt ⟨rng_lo a1, rng_hi a1⟩ ⟨rng_lo a2, rng_hi a2⟩ ⟨rng_lo a3, rng_hi a3⟩, t_ready 4000 u a1.toInt a2.toInt a3.toInt ⟨rng_lo a1, rng_hi a1⟩ ⟨rng_lo a2, rng_hi a2⟩ ⟨rng_lo a3, rng_hi a3⟩ hI.num hI.loansOK hI.parsOK hI.spasOK (by omega)]
  exact ans_if (fun _ => ans_no hL hK hI _) (fun _ => ans_if (fun _ => ans_no hL hK hI _) (fun _ => ans_if (fun _ => ans_no hL hK hI _) (fun _ => ans_fine hL hK hI _)))
theorem st_together (hL : LOK B L) (h : SimB B S L x0 M u sz nc nr) (a1 : Int32) (a2 : Int32) : Ans B S L x0 sz nc nr (f_X11_together B M (some x0) a1 a2) (f_X12_together u a1 a2) := by
  obtain ⟨ad, rho, xl, hK, hI, rfl, rfl⟩ := h
  rw [← iI_toInt a1]
  rw [← iI_toInt a2]
  rw [q_together hK hI a1.toInt a2.toInt ⟨rng_lo a1, rng_hi a1⟩ ⟨rng_lo a2, rng_hi a2⟩, t_together u a1.toInt a2.toInt ⟨rng_lo a1, rng_hi a1⟩ ⟨rng_lo a2, rng_hi a2⟩ hI.num]
  exact ans_if (fun _ => ans_no hL hK hI _) (fun _ => ans_if (fun _ => ans_no hL hK hI _) (fun _ => ans_fine hL hK hI _))
theorem st_count (hL : LOK B L) (h : SimB B S L x0 M u sz nc nr) (a1 : Int32) : Ans B S L x0 sz nc nr (f_X11_count B M (some x0) a1) (f_X12_count 4000 u a1) := by
  obtain ⟨ad, rho, xl, hK, hI, rfl, rfl⟩ := h
  rw [← iI_toInt a1]
  rw [q_count hK hI a1.toInt ⟨rng_lo a1, rng_hi a1⟩, t_count 4000 u a1.toInt ⟨rng_lo a1, rng_hi a1⟩ hI.num (by omega)]
  exact ans_if (fun _ => ans_fine hL hK hI _) (fun _ => ans_if (fun _ => ans_fine hL hK hI _) (fun _ => ans_if (fun _ => ans_fine hL hK hI _) (fun _ => ans_if (fun _ => ans_fine hL hK hI _) (fun _ => ans_if (fun _ => ans_fine hL hK hI _) (fun _ => ans_if (fun _ => ans_fine hL hK hI _) (fun _ => ans_if (fun _ => ans_fine hL hK hI _) (fun _ => ans_no hL hK hI _)))))))
theorem st_damage (hL : LOK B L) (h : SimB B S L x0 M u sz nc nr) (a1 : Int32) (a2 : Int32) : Ans B S L x0 sz nc nr (f_X11_damage B 4000 M (some x0) a1 a2) (f_X12_damage 4000 u a1 a2) := by
  obtain ⟨ad, rho, xl, hK, hI, rfl, rfl⟩ := h
  rw [← iI_toInt a1]
  rw [← iI_toInt a2]
  rw [q_damage hK hI 4000 (by omega) a1.toInt a2.toInt ⟨rng_lo a1, rng_hi a1⟩ ⟨rng_lo a2, rng_hi a2⟩, t_damage 4000 u a1.toInt a2.toInt ⟨rng_lo a1, rng_hi a1⟩ ⟨rng_lo a2, rng_hi a2⟩ hI.num hI.reps (by omega)]
  exact ans_if (fun _ => ans_no hL hK hI _) (fun _ => ans_if (fun _ => ans_no hL hK hI _) (fun _ => ans_if (fun _ => ans_no hL hK hI _) (fun _ => ans_fine hL hK hI _)))
theorem st_bearer (hL : LOK B L) (h : SimB B S L x0 M u sz nc nr) (a1 : Int32) (a2 : Int32) : Ans B S L x0 sz nc nr (f_X11_bearer B 4000 M (some x0) a1 a2) (f_X12_bearer 4000 u a1 a2) := by
  obtain ⟨ad, rho, xl, hK, hI, rfl, rfl⟩ := h
  rw [← iI_toInt a1]
  rw [← iI_toInt a2]
  rw [q_bearer hK hI 4000 (by omega) a1.toInt a2.toInt ⟨rng_lo a1, rng_hi a1⟩ ⟨rng_lo a2, rng_hi a2⟩, t_bearer 4000 u a1.toInt a2.toInt ⟨rng_lo a1, rng_hi a1⟩ ⟨rng_lo a2, rng_hi a2⟩ hI.num hI.loansOK hI.reps (by omega)]
  exact ans_if (fun _ => ans_no hL hK hI _) (fun _ => ans_if (fun _ => ans_no hL hK hI _) (fun _ => ans_if (fun _ => ans_no hL hK hI _) (fun _ => ans_fine hL hK hI _)))
theorem st_premium (hL : LOK B L) (h : SimB B S L x0 M u sz nc nr) (a1 : Int32) (a2 : Int32) (a3 : Int32) : Ans B S L x0 sz nc nr (f_X11_premium B 4000 M (some x0) a1 a2 a3) (f_X12_premium 4000 u a1 a2 a3) := by
  obtain ⟨ad, rho, xl, hK, hI, rfl, rfl⟩ := h
  rw [← iI_toInt a1]
  rw [← iI_toInt a2]
  rw [← iI_toInt a3]
  rw [q_premium hK hI 4000 (by omega) a1.toInt a2.toInt a3.toInt ⟨rng_lo a1, rng_hi a1⟩ ⟨rng_lo a2, rng_hi a2⟩ ⟨rng_lo a3, rng_hi a3⟩, t_premium 4000 u a1.toInt a2.toInt a3.toInt ⟨rng_lo a1, rng_hi a1⟩ ⟨rng_lo a2, rng_hi a2⟩ ⟨rng_lo a3, rng_hi a3⟩ hI.num hI.loansOK hI.cost (by omega), ← ite_not (a2.toInt ≤ a3.toInt)]
  exact ans_if (fun _ => ans_no hL hK hI _) (fun _ => ans_if (fun _ => ans_no hL hK hI _) (fun _ => ans_if (fun _ => ans_no hL hK hI _) (fun _ => ans_if (fun _ => ans_no hL hK hI _) (fun _ => ans_fine hL hK hI _))))
theorem st_home (h : SimB B S L x0 M u sz nc nr) : ∃ r : Int32, f_X11_home 4000 M (some x0) = some r ∧ f_X12_home 4000 u = some r := by
  obtain ⟨ad, rho, xl, hK, hI, rfl, rfl⟩ := h
  exact ⟨_, q_home hK hI 4000 (by omega), t_home 4000 u hI.num hI.loansOK hI.reps (by omega)⟩
theorem st_place (h : SimB B S L x0 M u sz nc nr) : ∃ r : Int32, f_X11_place M (some x0) = some r ∧ f_X12_place u = some r := by
  obtain ⟨ad, rho, xl, hK, hI, rfl, rfl⟩ := h
  exact ⟨_, q_place hK, rfl⟩
theorem st_fault (h : SimB B S L x0 M u sz nc nr) : ∃ r : Int32, f_X11_fault M (some x0) = some r ∧ f_X12_fault u = some r := by
  obtain ⟨ad, rho, xl, hK, hI, rfl, rfl⟩ := h
  exact ⟨_, q_fault hK, rfl⟩
theorem st_status (h : SimB B S L x0 M u sz nc nr) : ∃ r : Int32, f_X11_status M (some x0) = some r ∧ f_X12_status u = some r := by
  obtain ⟨ad, rho, xl, hK, hI, rfl, rfl⟩ := h
  exact ⟨_, q_status hK, rfl⟩
end STQ
