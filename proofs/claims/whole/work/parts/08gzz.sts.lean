/-! the six that were left: from the state alone -/
section STS
variable {B : Nat} {S : Nat → Nat} {L : Mem} {x0 : Nat} {M : Mem} {u : MS} {sz nc nr : Nat}
theorem st_feed (hL : LOK B L) (h : SimB B S L x0 M u sz nc nr) (a1 a2 a3 a4 a5 : Int32) : Ans B S L x0 sz nc nr (f_X11_feed B 4000 M (some x0) a1 a2 a3 a4 a5) (f_X12_feed 4000 u a1 a2 a3 a4 a5) := by
  obtain ⟨ad, rho, xl, hK, hI, rfl, rfl⟩ := h
  exact q_feed hL hK hI a1 a2 a3 a4 a5
theorem st_end (hL : LOK B L) (h : SimB B S L x0 M u sz nc nr) (a1 : Int32) : Ans B S L x0 sz nc nr (f_X11_end B M (some x0) a1) (f_X12_end u a1) := by
  obtain ⟨ad, rho, xl, hK, hI, rfl, rfl⟩ := h
  have := q_end hL hK hI a1.toInt ⟨rng_lo a1, rng_hi a1⟩
  rw [iI_toInt] at this
  exact this
theorem st_appraise (hL : LOK B L) (h : SimB B S L x0 M u sz nc nr) (a1 a2 a3 : Int32) : Ans B S L x0 sz nc nr (f_X11_appraise B 4000 M (some x0) a1 a2 a3) (f_X12_appraise 4000 u a1 a2 a3) := by
  obtain ⟨ad, rho, xl, hK, hI, rfl, rfl⟩ := h
  have := q_appraise hL hK hI a1.toInt a2.toInt a3.toInt ⟨rng_lo a1, rng_hi a1⟩ ⟨rng_lo a2, rng_hi a2⟩ ⟨rng_lo a3, rng_hi a3⟩
  rw [iI_toInt, iI_toInt, iI_toInt] at this
  exact this
theorem st_cancel (hL : LOK B L) (h : SimB B S L x0 M u sz nc nr) (a1 : Int32) : Ans B S L x0 sz nc nr (f_X11_cancel B 4000 M (some x0) a1) (f_X12_cancel 4000 u a1) := by
  obtain ⟨ad, rho, xl, hK, hI, rfl, rfl⟩ := h
  have := q_cancel hL hK hI a1.toInt ⟨rng_lo a1, rng_hi a1⟩
  rw [iI_toInt] at this
  exact this
theorem st_letter (hL : LOK B L) (hS : LitOK S L) (h : SimB B S L x0 M u sz nc nr) (a1 a2 a3 : Int32) : Ans B S L x0 sz nc nr (f_X11_letter B M (some x0) a1 a2 a3) (f_X12_letter S 4000 L u a1 a2 a3) := by
  obtain ⟨ad, rho, xl, hK, hI, rfl, rfl⟩ := h
  have := q_letter hL hS hK hI a1.toInt a2.toInt a3.toInt ⟨rng_lo a1, rng_hi a1⟩ ⟨rng_lo a2, rng_hi a2⟩ ⟨rng_lo a3, rng_hi a3⟩
  rw [iI_toInt, iI_toInt, iI_toInt] at this
  exact this
theorem st_note (hL : LOK B L) (hS : LitOK S L) (h : SimB B S L x0 M u sz nc nr) (a1 a2 a3 : Int32) : Ans B S L x0 sz nc nr (f_X11_note B 4000 M (some x0) a1 a2 a3) (f_X12_note S 4000 L u a1 a2 a3) := by
  obtain ⟨ad, rho, xl, hK, hI, rfl, rfl⟩ := h
  have := q_note hL hS hK hI a1.toInt a2.toInt a3.toInt ⟨rng_lo a1, rng_hi a1⟩ ⟨rng_lo a2, rng_hi a2⟩ ⟨rng_lo a3, rng_hi a3⟩
  rw [iI_toInt, iI_toInt, iI_toInt] at this
  exact this
/-- at the start both sides stand alike -/
theorem sim_start {rho ad : Nat → Nat} (hu : U0 u) (h : ∀ xl : Nat → List Nat, RepK B S L x0 ad rho xl M u sz) : SimB B S L x0 M u sz 0 0 := by
  refine ⟨ad, rho, fun _ => [], h _, hu.inv _, ?_, ?_⟩
  · rw [hu.vn (by decide)]
    rfl
  · rw [hu.vn (by decide)]
    rfl
end STS
