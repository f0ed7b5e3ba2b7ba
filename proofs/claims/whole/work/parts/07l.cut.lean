/-! THE CLASS CUTS: from a place, and all -/
section CUT2
variable {B : Nat} {S : Nat → Nat} {L : Mem} {M : Mem} {a b p s c m : Nat} {N : Nat} {f : Nat → Int32} {g : Nat → Int}
theorem z_cutFrom (hS : LitOK S M) {fs fc fm : Nat → Int32} {q : Nat} (h : TP M a b N f) (hP : PP M p s c m q N fs fc fm) (hN : N ≤ 120) (hg : ∀ k, f k = iI (g k)) (hby : ∀ k, k < N → 0 ≤ g k ∧ g k ≤ 255) (hq : q < 120) (hd : s ≠ c ∧ s ≠ m ∧ c ≠ m) (hB : B ≤ p ∧ B ≤ s ∧ B ≤ c ∧ B ≤ m) (n : Nat) (hn : 400 ≤ n) (i : Nat) (hi : i < N) : (g i = 32 ∧ f_X6_cutFrom B S n M (some p) (some a) (iI i) = some (iI (i + 1 : Nat), M)) ∨ (g i ≠ 32 ∧ ∃ M1, f_X6_cutFrom B S n M (some p) (some a) (iI i) = some (iI (tkB g N i).2.2, M1) ∧ PP M1 p s c m (q + 1 : Nat) N (upd fs q (iI i)) (upd fc q (iI (codP (tkB g N i).1 (tkB g N i).2.1))) (upd fm q (iI (if (tkB g N i).1 = 3 then (tkB g N i).2.1 else 0))) ∧ ∀ k, k ≠ p → k ≠ s → k ≠ c → k ≠ m → M1 k = M k) := by
  have hx := hby i hi
  have hz : f_X9_byteAt M (some a) (iI i) = some (iI (g i)) := by
    rw [z_byteAt h hN hg i (by omega), if_pos (by omega), Int.toNat_natCast]
  have add := fun y z => z_padd (B := B) hP hq hd hB (iI i) (iI y) (iI z)
  have hpo := isO_at hP.1
  have hK : ∀ lo hi : Int, 0 ≤ lo ∧ lo ≤ 255 ∧ 0 ≤ hi ∧ hi ≤ 255 → f_X6_behindRow n M (some p) (some a) (iI i) (iI lo) (iI hi) = some (iI (rowF g lo hi (N - i) i)) := fun lo hi hl => z_behind h hP hN hg hby n lo hi hl n i (by omega) (by omega)
  have hrw := rowF_rng g 97 122 (N - i) i
  have hrd := rowF_rng g 48 57 (N - i) i
  have hW := z_wordIn hS h hN hg hby hpo n hn i (rowF g 97 122 (N - i) i) (by omega)
  have hb := tkB_rng g N i hi
  unfold f_X6_cutFrom
  rw [isO_at h.1, if_pos rfl, hz, Option.bind_some, hpo]
  generalize hgi : g i = x at hx
  have e32 : (iI x = (32 : Int32)) ↔ x = 32 := iI_eq x 32 (by omega)
  have e43 : (iI x = (43 : Int32)) ↔ x = 43 := iI_eq x 43 (by omega)
  have e45 : (iI x = (45 : Int32)) ↔ x = 45 := iI_eq x 45 (by omega)
  have e44 : (iI x = (44 : Int32)) ↔ x = 44 := iI_eq x 44 (by omega)
  have e58 : (iI x = (58 : Int32)) ↔ x = 58 := iI_eq x 58 (by omega)
  have e48 : (iI x < (48 : Int32)) ↔ x < 48 := iI_lt x 48 (by omega)
  have e97 : (iI x < (97 : Int32)) ↔ x < 97 := iI_lt x 97 (by omega)
  have e57 : ((57 : Int32) < iI x) ↔ 57 < x := iI_lt 57 x (by omega)
  have e122 : ((122 : Int32) < iI x) ↔ 122 < x := iI_lt 122 x (by omega)
  simp only [e32, e43, e45, e44, e58, e48, e97, e57, e122, if_true]
  have hi1 : iI (i : Int) + (1 : Int32) = iI ((i + 1 : Nat) : Int) := by
    rw [show (1 : Int32) = iI 1 from rfl, iI_add]
    congr 1
  rw [hi1]
  have hmk : ((if x = 43 then (some ((1 : Int32))) else (if x = 45 then (some ((1 : Int32))) else (if x = 44 then (some ((1 : Int32))) else (if x = 58 then (some ((1 : Int32))) else (some ((0 : Int32))))))) : Option (Int32)) = some (iI (if x = 43 ∨ x = 45 ∨ x = 44 ∨ x = 58 then 1 else 0)) := by
    by_cases m1 : x = 43
    · rw [if_pos m1, if_pos (Or.inl m1)]; rfl
    · by_cases m2 : x = 45
      · rw [if_neg m1, if_pos m2, if_pos (Or.inr (Or.inl m2))]; rfl
      · by_cases m3 : x = 44
        · rw [if_neg m1, if_neg m2, if_pos m3, if_pos (Or.inr (Or.inr (Or.inl m3)))]; rfl
        · by_cases m4 : x = 58
          · rw [if_neg m1, if_neg m2, if_neg m3, if_pos m4, if_pos (Or.inr (Or.inr (Or.inr m4)))]; rfl
          · rw [if_neg m1, if_neg m2, if_neg m3, if_neg m4, if_neg (by rintro (q | q | q | q) <;> contradiction)]; rfl
  simp only [hmk, Option.bind_some, b0z]
  by_cases c32 : x = 32
  · left
    rw [if_pos c32]
    exact ⟨c32, rfl⟩
  · right
    refine ⟨c32, ?_⟩
    rw [if_neg c32]
    by_cases cw : 97 ≤ x ∧ x ≤ 122
    · have et : tkB g N i = (if wvL (segL g i (rowF g 97 122 (N - i) i - i)) < 0 then 1 else 2, wvL (segL g i (rowF g 97 122 (N - i) i - i)), rowF g 97 122 (N - i) i) := by
        unfold tkB
        rw [hgi, if_pos cw]
      rw [if_neg (show ¬ x < 48 by omega), if_pos (show 57 < x by omega), if_neg (show ¬ x < 97 by omega), if_neg (show ¬ 122 < x by omega), show (97 : Int32) = iI 97 from rfl, show (122 : Int32) = iI 122 from rfl, hK 97 122 (by omega), Option.bind_some, hW, Option.bind_some, wcL_cod]
      obtain ⟨M1, x1, x2, x3⟩ := add (codP (if wvL (segL g i (rowF g 97 122 (N - i) i - i)) < 0 then 1 else 2) (wvL (segL g i (rowF g 97 122 (N - i) i - i)))) 0
      rw [show (0 : Int32) = iI 0 from rfl, x1, Option.bind_some, et]
      have e3 : ¬ ((if wvL (segL g i (rowF g 97 122 (N - i) i - i)) < 0 then (1 : Int) else 2) = 3) := by split <;> omega
      refine ⟨M1, rfl, ?_, x3⟩
      simp only [if_neg e3]
      exact x2
    · by_cases cd : 48 ≤ x ∧ x ≤ 57
      · have et : tkB g N i = (if rowF g 48 57 (N - i) i - i > 4 then 1 else 3, numF g i (rowF g 48 57 (N - i) i - i) i 0, rowF g 48 57 (N - i) i) := by
          unfold tkB
          rw [hgi, if_neg cw, if_pos cd]
        have h4 : ((4 : Int32) < iI (rowF g 48 57 (N - i) i : Int) - iI (i : Int)) ↔ rowF g 48 57 (N - i) i - i > 4 := by
          rw [iI_sub, show (4 : Int32) = iI 4 from rfl, iI_lt _ _ (by omega)]
          omega
        rw [if_neg (show ¬ x < 48 by omega), if_neg (show ¬ 57 < x by omega), show (48 : Int32) = iI 48 from rfl, show (57 : Int32) = iI 57 from rfl, hK 48 57 (by omega), Option.bind_some]
        simp only [h4]
        rw [et]
        by_cases c4 : rowF g 48 57 (N - i) i - i > 4
        · simp only [if_pos c4, Option.bind_some]
          rw [if_true]
          simp only [Option.bind_some, if_true]
          obtain ⟨M1, x1, x2, x3⟩ := add 0 0
          rw [hpo, if_pos rfl, show (0 : Int32) = iI 0 from rfl, x1, Option.bind_some]
          exact ⟨M1, rfl, x2, x3⟩
        · simp only [if_neg c4, Option.bind_some]
          have hnum := z_numIn h hN hg n i (rowF g 48 57 (N - i) i) (by omega) (by omega) n i 0 (by omega) (by omega) (by omega)
          rw [if_neg (show ¬ (1 : Int32) = 0 by decide)]
          simp only [Option.bind_some, if_neg (show ¬ (1 : Int32) = 0 by decide)]
          obtain ⟨M1, x1, x2, x3⟩ := add 1 (numF g i (rowF g 48 57 (N - i) i - i) i 0)
          have hnum2 : f_X6_numberIn n M (some p) (some a) (iI i) (iI (rowF g 48 57 (N - i) i)) = some (iI (numF g i (rowF g 48 57 (N - i) i - i) i 0)) := hnum
          rw [hnum2, Option.bind_some, hpo, if_pos rfl, show (1 : Int32) = iI 1 from rfl, x1, Option.bind_some]
          refine ⟨M1, rfl, ?_, x3⟩
          simp only [if_true]
          exact x2
      · have et : tkB g N i = (if x = 43 ∨ x = 45 ∨ x = 44 ∨ x = 58 then 4 else 1, x, i + 1) := by
          unfold tkB
          rw [hgi, if_neg cw, if_neg cd]
        have fin : ∃ M1, (if ¬ (x = 43 ∨ x = 45 ∨ x = 44 ∨ x = 58) then ((f_X6_add B M (some p) (iI i) (0 : Int32) (0 : Int32)).bind fun r => some (iI ((i + 1 : Nat) : Int), r)) else ((f_X6_add B M (some p) (iI i) (iI x) (0 : Int32)).bind fun r => some (iI ((i + 1 : Nat) : Int), r))) = some (iI (tkB g N i).2.2, M1) ∧ PP M1 p s c m (q + 1 : Nat) N (upd fs q (iI i)) (upd fc q (iI (codP (tkB g N i).1 (tkB g N i).2.1))) (upd fm q (iI (if (tkB g N i).1 = 3 then (tkB g N i).2.1 else 0))) ∧ ∀ k, k ≠ p → k ≠ s → k ≠ c → k ≠ m → M1 k = M k := by
          rw [et]
          by_cases ck : x = 43 ∨ x = 45 ∨ x = 44 ∨ x = 58
          · obtain ⟨M1, x1, x2, x3⟩ := add x 0
            rw [if_neg (fun q => q ck), show (0 : Int32) = iI 0 from rfl, x1]
            refine ⟨M1, rfl, ?_, x3⟩
            simp only [if_pos ck]
            exact x2
          · obtain ⟨M1, x1, x2, x3⟩ := add 0 0
            rw [if_pos ck, show (0 : Int32) = iI 0 from rfl, x1]
            refine ⟨M1, rfl, ?_, x3⟩
            simp only [if_neg ck]
            exact x2
        by_cases c48 : x < 48
        · rw [if_pos c48, if_pos (show x < 97 by omega)]
          exact fin
        · rw [if_neg c48, if_pos (show 57 < x by omega)]
          by_cases c97 : x < 97
          · rw [if_pos c97]
            exact fin
          · rw [if_neg c97, if_pos (show 122 < x by omega)]
            exact fin
/-- the pieces stand in the rows -/
def PcF (g : Nat → Int) (N q : Nat) (fs fc fm : Nat → Int32) : Prop := ∀ k, k < q → fs k = iI (pcs g N k).1 ∧ fc k = iI (codP (pcs g N k).2.1 (pcs g N k).2.2.1) ∧ fm k = iI (if (pcs g N k).2.1 = 3 then (pcs g N k).2.2.1 else 0) ∧ (pcs g N k).2.1 ≠ 0
theorem tkB_tk (g : Nat → Int) (N b : Nat) : (tkB g N b).1 ≠ 0 := by
  unfold tkB
  split
  · simp only
    split <;> omega
  · split
    · simp only
      split <;> omega
    · simp only
      split <;> omega
theorem skF_end (g : Nat → Int) (N : Nat) : tok g N N = (N, 0, 0, N) := by
  unfold tok
  rw [Nat.sub_self, skF, if_pos rfl]
theorem tok_blank (g : Nat → Int) (N i : Nat) (hi : i < N) (h : g i = 32) : tok g N i = tok g N (i + 1) := by
  unfold tok
  rw [show N - i = (N - (i + 1)) + 1 by omega, skF, if_pos h]
theorem tok_piece (g : Nat → Int) (N i : Nat) (hi : i < N) (h : g i ≠ 32) : tok g N i = (i, tkB g N i) := by
  unfold tok
  rw [show N - i = (N - (i + 1)) + 1 by omega, skF, if_neg h, if_neg (by omega)]
theorem z_cut_L (hSL : LitOK S L) (hL : LOK B L) (hN : N ≤ 120) (hg : ∀ k, f k = iI (g k)) (hby : ∀ k, k < N → 0 ≤ g k ∧ g k ≤ 255) (hd : s ≠ c ∧ s ≠ m ∧ c ≠ m) (hB : B ≤ p ∧ B ≤ s ∧ B ≤ c ∧ B ≤ m) (hab : (a ≠ p ∧ a ≠ s ∧ a ≠ c ∧ a ≠ m) ∧ (b ≠ p ∧ b ≠ s ∧ b ≠ c ∧ b ≠ m)) (n : Nat) (hn : 400 ≤ n) : ∀ (k : Nat) (Mz : Mem) (i st q : Nat) (fs fc fm : Nat → Int32), i ≤ N → q ≤ i → st ≤ i → N - i < k → (∀ y e, L y = some e → Mz y = some e) → TP Mz a b N f → PP Mz p s c m q N fs fc fm → PcF g N q fs fc fm → tok g N i = pcs g N q → ∃ (M1 : Mem) (q1 : Nat) (fs1 fc1 fm1 : Nat → Int32), f_X6_cut_L17 B S n (some p) (some a) k Mz (iI i) (iI st) = some M1 ∧ q1 ≤ 120 ∧ PP M1 p s c m q1 N fs1 fc1 fm1 ∧ PcF g N q1 fs1 fc1 fm1 ∧ (pcs g N q1).2.1 = 0 ∧ ∀ y, y ≠ p → y ≠ s → y ≠ c → y ≠ m → M1 y = Mz y := by
  intro k
  induction k with
  | zero => intro Mz i st q fs fc fm _ _ _ h; omega
  | succ k ih =>
    intro Mz i st q fs fc fm hi hqi hst hk hcon hT hP hF htok
    have hSM : LitOK S Mz := fun j hj => by
      obtain ⟨bb, r, ff, t1, t2, t3, t4⟩ := hSL j hj
      exact ⟨bb, r, ff, ⟨hcon _ _ t1.1, t1.2⟩, ⟨hcon _ _ t2.1, t2.2⟩, t3, t4⟩
    unfold f_X6_cut_L17
    rw [show (120 : Int32) = iI 120 from rfl, it_le _ _ (by omega)]
    have fin : i = N → ∃ (M1 : Mem) (q1 : Nat) (fs1 fc1 fm1 : Nat → Int32), some Mz = some M1 ∧ q1 ≤ 120 ∧ PP M1 p s c m q1 N fs1 fc1 fm1 ∧ PcF g N q1 fs1 fc1 fm1 ∧ (pcs g N q1).2.1 = 0 ∧ ∀ y, y ≠ p → y ≠ s → y ≠ c → y ≠ m → M1 y = Mz y := fun e => by
      refine ⟨Mz, q, fs, fc, fm, rfl, by omega, hP, hF, ?_, fun _ _ _ _ _ => rfl⟩
      rw [← htok, e, skF_end]
    by_cases e1 : (120 : Int) ≤ st
    · rw [if_pos e1]
      exact fin (by omega)
    · rw [if_neg e1, gI_at hP.1]
      simp only [List.getElem?_cons_zero, List.getElem?_cons_succ, Option.bind_some]
      rw [it_le _ _ (by omega)]
      by_cases e2 : i = N
      · rw [if_pos (by omega)]
        exact fin e2
      · rw [if_neg (by omega), isO_at hP.1, if_pos rfl]
        rcases z_cutFrom (B := B) hSM hT hP hN hg hby (by omega) hd hB n hn i (by omega) with ⟨c1, z1⟩ | ⟨c1, M1, z1, z2, z3⟩
        · rw [z1, Option.bind_some, show (1 : Int32) = iI 1 from rfl, iI_add]
          obtain ⟨M2, q1, fs1, fc1, fm1, y1, y2, y3, y4, y5, y6⟩ := ih Mz (i + 1) (st + 1) q fs fc fm (by omega) (by omega) (by omega) (by omega) hcon hT hP hF (by rw [← htok, tok_blank g N i (by omega) c1])
          push_cast at y1
          push_cast
          exact ⟨M2, q1, fs1, fc1, fm1, y1, y2, y3, y4, y5, y6⟩
        · have ht := tok_piece g N i (by omega) c1
          have hr := tkB_rng g N i (by omega)
          rw [htok] at ht
          rw [z1, Option.bind_some, show (1 : Int32) = iI 1 from rfl, iI_add]
          have hF1 : PcF g N (q + 1) (upd fs q (iI i)) (upd fc q (iI (codP (tkB g N i).1 (tkB g N i).2.1))) (upd fm q (iI (if (tkB g N i).1 = 3 then (tkB g N i).2.1 else 0))) := fun kk hkk => by
            unfold upd
            by_cases e : kk = q
            · subst e
              rw [if_pos rfl, if_pos rfl, if_pos rfl, ht]
              exact ⟨rfl, rfl, rfl, tkB_tk g N i⟩
            · rw [if_neg e, if_neg e, if_neg e]
              exact hF kk (by omega)
          clear fin
          have o1 : (tkB g N i).2.2 ≤ N := hr.2
          have o2 : q + 1 ≤ (tkB g N i).2.2 := by omega
          have o3 : st + 1 ≤ (tkB g N i).2.2 := by omega
          have o4 : N - (tkB g N i).2.2 < k := by omega
          obtain ⟨M2, q1, fs1, fc1, fm1, y1, y2, y3, y4, y5, y6⟩ := ih M1 (tkB g N i).2.2 (st + 1) (q + 1) _ _ _ o1 o2 o3 o4 (fun y e hy => by
            have hlt : y < B := by
              rcases Nat.lt_or_ge y B with q | q
              · exact q
              · rw [hL y q] at hy
                cases hy
            rw [z3 y (by omega) (by omega) (by omega) (by omega)]
            exact hcon y e hy) ⟨by rw [z3 a hab.1.1 hab.1.2.1 hab.1.2.2.1 hab.1.2.2.2]; exact hT.1, by rw [z3 b hab.2.1 hab.2.2.1 hab.2.2.2.1 hab.2.2.2.2]; exact hT.2⟩ z2 hF1 (by
            show tok g N (tkB g N i).2.2 = tok g N (pcs g N q).2.2.2
            rw [ht])
          push_cast at y1
          exact ⟨M2, q1, fs1, fc1, fm1, y1, y2, y3, y4, y5, fun y a1 a2 a3 a4 => (y6 y a1 a2 a3 a4).trans (z3 y a1 a2 a3 a4)⟩
end CUT2
