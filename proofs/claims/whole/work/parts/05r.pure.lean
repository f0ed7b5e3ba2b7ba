def rdW (u : MS) (c w i : Int) : Int := if mayS u c i = true then (if 0 ≤ busyS u c i (vN u 23) then 0 else w + 1) else 0
def rdG (u : MS) (c m : Int) : Nat → Int → Int → Int
  | 0, _, _ => -1
  | k + 1, w, i => if rdW u c w i = m then i - m + 1 else rdG u c m k (rdW u c w i) (i + 1)
def SpasOK (u : MS) : Prop := ∀ c, 0 ≤ c → c < vN u 19 → SpaOK u c
theorem t_ready_L (n : Nat) (u : MS) (c m : Int) (hc : 0 ≤ c ∧ c < vN u 19) (hm : 1 ≤ m ∧ m ≤ 1000) (h : NumOK u) (hL : LoansOK u) (hP : ParsOK u) (hS : SpasOK u) (hf : 60 ≤ n) : ∀ (k : Nat) (w i : Int), 0 ≤ i → i ≤ 1000 → (1000 - i).toNat < k → (0 ≤ w ∧ w ≤ i) → f_X12_ready_L44 n (iI c) (iI m) k u (iI w) (iI i) = fineS u (rdG u c m (1000 - i).toNat w i) := by
  obtain ⟨h1, h5, h10, h14, h19, h23, h33⟩ := h
  have hs := hS c hc.1 hc.2
  unfold SpaOK at hs
  intro k
  induction k with
  | zero => intro w i _ _ h; omega
  | succ k ih =>
    intro w i h0 hi hk hw
    unfold f_X12_ready_L44
    rw [show (1000 : Int32) = iI 1000 from rfl]
    by_cases e : 1000 ≤ i
    · have : (1000 - i).toNat = 0 := by omega
      rw [if_pos ((iI_le _ _ (by omega)).mpr e), this]
      rfl
    · have e2 : (1000 - i).toNat = (1000 - (i + 1)).toNat + 1 := by omega
      have hr := fstI_rng (busyP u c i) (vN u 23).toNat 0 (by omega)
      have hr2 : -1 ≤ busyS u c i (vN u 23) ∧ busyS u c i (vN u 23) ≤ 17 := by unfold busyS; omega
      have hw2 : 0 ≤ rdW u c w i ∧ rdW u c w i ≤ i + 1 := by
        unfold rdW
        (repeat' split) <;> omega
      have ih1 := ih (rdW u c w i) (i + 1) (by omega) (by omega) (by omega) hw2
      have hb := t_busyFor n u c i (vN u 23) (by omega) (by omega) (by omega) hL hP hf
      rw [if_neg (fun h => e ((iI_le _ _ (by omega)).mp h)), e2, t_mayTravel n u c i (by omega) (by omega) hs hf]
      simp (disch := omega) only [Option.bind_some, rdG, u1_iI, iI_ofNat, iI_zero, iI_add, iI_sub, iI_le, b0, hb]
      have key : (if ¬ mayS u c i = true then some (iI 0) else if 0 ≤ busyS u c i (vN u 23) then some (iI 0) else some (iI (w + 1))) = some (iI (rdW u c w i)) := by
        unfold rdW
        by_cases c1 : mayS u c i = true
        · by_cases c2 : 0 ≤ busyS u c i (vN u 23)
          · rw [if_neg (fun h => h c1), if_pos c2, if_pos c1, if_pos c2]
          · rw [if_neg (fun h => h c1), if_neg c2, if_pos c1, if_neg c2]
        · rw [if_pos c1, if_neg c1]
      simp only [key]
      simp only [Option.bind_some]
      by_cases c2 : rdW u c w i = m
      · rw [if_pos ((iI_eq _ _ (by omega)).mpr c2), if_pos c2]
        rfl
      · rw [if_neg (fun h => c2 ((iI_eq _ _ (by omega)).mp h)), if_neg c2, ih1]
