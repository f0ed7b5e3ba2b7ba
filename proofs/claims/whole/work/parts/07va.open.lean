/-! OPEN: the text is cut into pieces, then the tape is emptied -/
/-- the world with the tape emptied -/
def kpM (B : Nat) (ad : Nat → Nat) (M : Mem) : Mem := (f_X9_keep B M (some (ad 2)) (0 : Int32)).getD M
def Opn (B : Nat) (S : Nat → Nat) (n : Nat) (ad : Nat → Nat) (x0 : Nat) (M Mk : Mem) : Prop := ∃ Mb, f_X7_begin B S n M (some (ad 3)) (some (ad 2)) = some Mb ∧ Mb x0 = M x0 ∧ isO Mb (some (ad 2)) 12 = true ∧ f_X9_keep B Mb (some (ad 2)) (0 : Int32) = some Mk ∧ Mk x0 = M x0 ∧ isO Mk (some (ad 3)) 10 = true
section OPN
variable {B : Nat} {S : Nat → Nat} {L : Mem} {x0 : Nat} {ad rho : Nat → Nat} {xl : Nat → List Nat} {M M2 : Mem} {u : MS} {sz N j : Nat} {g : Nat → Int} {t : List Int} {w : Int}
theorem kpM_at (h : RepK B S L x0 ad rho xl M u sz) (hI : Inv u xl) : ∃ b, TP M (ad 2) b (vN u 1) (u.2 0) ∧ rho (ad 2) = 2 ∧ rho b = 2 ∧ B ≤ ad 2 ∧ kpM B ad M = va_up M (ad 2) (some (.inl (12, [.ref b, .int (iI 0)]))) := by
  obtain ⟨b, tp, o1, o2⟩ := h.2.1.2.1.tp
  have h1 := hI.n1
  have hb2 : B ≤ ad 2 := (h.1.2 (ad 2) (by rw [o1]; decide)).1
  have k1 : f_X9_keep B M (some (ad 2)) (0 : Int32) = some (va_up M (ad 2) (some (.inl (12, [.ref b, .int (iI 0)])))) := by
    rw [iI_zero]
    exact z_keep tp hb2 0 (by omega) h1.2
  refine ⟨b, tp, o1, o2, hb2, ?_⟩
  unfold kpM
  rw [k1]
  rfl
theorem Rd.opn (hSL : LitOK S L) (hL : LOK B L) (h : RepK B S L x0 ad rho xl M u sz) (hI : Inv u xl) (n : Nat) (hn : 400 ≤ n) : ∃ Mk, Opn B S n ad x0 M Mk ∧ Rd B ad rho (kpM B ad M) Mk (vN u 1).toNat (vR u 0) [] 0 (-9999) := by
  obtain ⟨Mb, y1, p, row, s, c, m, hD, ⟨q1, q2, q3, q4, q5, q6⟩, ⟨r1, ⟨fr', r2, r2'⟩, r3, q, fs, fc, fm, r4, r5, ⟨p1, p2, p3, p4⟩, r6, r7⟩, fr⟩ := Rd.begin hSL hL h hI n hn
  obtain ⟨b, tp, o1, o2, hb2, ek⟩ := kpM_at h hI
  have h1 := hI.n1
  have hx : rho x0 = 1 := h.2.1.1.2
  have xn : x0 ≠ ad 2 := fun e => by rw [e, o1] at hx; cases hx
  have tp1 : TP Mb (ad 2) b (vN u 1) (u.2 0) := ⟨(fr (ad 2) (by rw [o1]; decide)).trans tp.1, (fr b (by rw [o2]; decide)).trans tp.2⟩
  have k1 : f_X9_keep B Mb (some (ad 2)) (0 : Int32) = some (va_up Mb (ad 2) (some (.inl (12, [.ref b, .int (iI 0)])))) := by
    rw [iI_zero]
    exact z_keep tp1 hb2 0 (by omega) h1.2
  have hk : ∀ y, rho y = 3 → (va_up Mb (ad 2) (some (.inl (12, [.ref b, .int (iI 0)])))) y = Mb y := fun y hy => va_up_ne _ _ (fun e => by rw [e, o1] at hy; cases hy)
  refine ⟨va_up Mb (ad 2) (some (.inl (12, [.ref b, .int (iI 0)]))), ⟨Mb, y1, fr x0 (by rw [hx]; decide), isO_at tp1.1, k1, ?_, isO_at ((hk _ q1).trans r1)⟩, p, row, s, c, m, hD, ⟨q1, q2, q3, q4, q5, q6⟩, ⟨(hk _ q1).trans r1, ⟨fr', (hk _ q3).trans r2, r2'⟩, r3, q, fs, fc, fm, r4, r5, ⟨(hk _ q2).trans p1, (hk _ q4).trans p2, (hk _ q5).trans p3, (hk _ q6).trans p4⟩, r6, r7⟩, fun y hy => ?_⟩
  · rw [va_up_ne _ _ xn]
    exact fr x0 (by rw [hx]; decide)
  · rw [ek]
    by_cases e : y = ad 2
    · rw [e, va_up_self, va_up_self]
    · rw [va_up_ne _ _ e, va_up_ne _ _ e]
      exact fr y hy
end OPN
