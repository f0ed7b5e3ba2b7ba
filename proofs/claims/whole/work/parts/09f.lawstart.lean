/-! THE LAW, from its entry -/
set_option maxHeartbeats 4000000 in
set_option maxRecDepth 100000 in
theorem whole_start {p : Program} {e : Env} {s : State} {m : MethodId} {below : List Frame} {meth : Method} {c : Code} (l : Launch) (hflags : l.flags = flags0) {b L : Nat} {xs : Nat → Int32} (hL : L ≤ 3072) (C0 : lw_At p s m meth c b L xs) : W p l e room_1 s m #[Value.ref b] below meth c s.heap [] 0 0 (lw_Z below #[Value.ref b] s) (entryFrame m ([Value.ref b] : List Value).toArray 4) := by
  obtain ⟨hx, hb, hr, hml, hown, hts, hX, hbl, hlocks, hgv⟩ := id C0
  have hts2 := lw_hts2 hts
  obtain ⟨G, N, hB, hE, hHd, hk⟩ := cn_start hts2 hgv
  have hC : Cx G p s m #[Value.ref b] meth c cL_law 4 RL wsL_law := ⟨hx, hb, hml, hown, fun w h => hts2 w (wsL_in w h), hlocks, hE, Nat.le_of_eq hB⟩
  have hl := lv_entry ([.ref b]) (n := 4) (Nat.le_of_ble_eq_true rfl)
  rw [lg_entry_eq]
  generalize (lg_sl ([.ref b]) ++ List.replicate (4 - (lg_sl ([.ref b])).length) Slot.unset).toArray = ls at hl ⊢
  have hl : lv_has ls 4 [(0, .ref b)] := hl
  have w0 : wD G s (fun _ => none) N s.heap.size s.heap [] := ⟨hHd, rfl, va_S.rf, fun a ha hn => absurd (hk.1 a ha) hn⟩
  obtain ⟨u0, hu0⟩ : ∃ u : MS, U0 u := ⟨(fun k => if k = 3 then -9999 else 0, fun _ _ => 0), fun k h => if_neg h, rfl, fun _ _ => rfl⟩
  refine m_new hC w0 (C := RX11) (T := TX11) (N := 11) (ci := 14) (fs := [.null, .null, .null, .null, .null, .null, .int 0, .int 0, .int 0, .int 0, .int 0]) inlX11 tyX11 tyX11_ok (List.mem_of_getElem? (i := 0) (by decide +kernel)) (List.mem_of_getElem? (i := 1) (by decide +kernel)) (List.mem_of_getElem? (i := 2) (by decide +kernel)) rfl (fun j hj => by match j, hj with | 0, _ => rfl | 1, _ => rfl | 2, _ => rfl | 3, _ => rfl | 4, _ => rfl | 5, _ => rfl | 6, _ => rfl | 7, _ => rfl | 8, _ => rfl | 9, _ => rfl | 10, _ => rfl | k + 11, h => exact absurd h (by omega)) (Nat.le_of_ble_eq_true rfl) (Nat.le_of_ble_eq_true rfl) dL_law_0 (fun H w1 => ?_)
  refine m_dup (x := some s.heap.size) hx hb dL_law_3 ?_
  obtain ⟨M1, sz1, ad, rho, e1, hle, hold, hRep⟩ := k_start (B := G.2.2.1) (S := G.2.2.2) (L := N) (M := va_up N s.heap.size (some (.inl (14, [.null, .null, .null, .null, .null, .null, .int 0, .int 0, .int 0, .int 0, .int 0])))) (sz := s.heap.size + 1) (x0 := s.heap.size) (u := u0) hk.1 (fun a x h => by
    have hne : a ≠ s.heap.size := fun q => by
      rw [q, hk.1 s.heap.size (Nat.le_of_eq hB)] at h
      cases h
    rw [va_up_ne _ _ hne]
    exact h) ⟨Nat.le_of_eq hB, Nat.lt_succ_self _⟩ (va_up_self ..) hu0
  refine m_contV hC w1 (m_runI hC w1 (x := some s.heap.size) (n := 0) (av := []) (rest := [va_rf (some s.heap.size)]) (c_X11_init (G := G) (l := l) e1) gL_law_X11_init (List.mem_of_getElem? (i := 6) (by decide +kernel)) (List.mem_of_getElem? (i := 7) (by decide +kernel)) (List.mem_of_getElem? (i := 2) (by decide +kernel)) rfl rfl (by decide +kernel) ⟨(Nat.le_of_ble_eq_true rfl), (Nat.le_of_ble_eq_true rfl)⟩ rfl rfl hl.1 rfl (by simp [va_rf_cat, cat_i, cat_r, cat_l]) dL_law_4 ⟨(Nat.le_of_ble_eq_true rfl), (Nat.le_of_ble_eq_true rfl)⟩) (fun H locs w2 => ?_)
  have w2 : wD G s (fun _ => none) M1 sz1 H locs := w2
  have hlt1 : ∀ a x, M1 a = some x → a < sz1 := fun a x h => by
    have q := w2.1.lt h
    rw [w2.2.1] at q
    exact q
  have hcon : ∀ a x, N a = some x → M1 a = some x := (hRep (fun _ => [])).1.1
  refine lv_astore_n (x := s.heap.size) (lv' := [(1, .ref s.heap.size), (0, .ref b)]) hx hb dL_law_7 rfl hl (by decide) rfl (fun ls hl => ?_)
  refine m_new hC w2 (C := RX12) (T := TX12) (N := 51) (ci := 15) (fs := [.null, .int 0, .int 0, .int 0, .int 0, .int 0, .null, .null, .null, .null, .int 0, .null, .null, .null, .int 0, .null, .null, .null, .null, .int 0, .null, .null, .null, .int 0, .null, .null, .null, .null, .null, .null, .null, .null, .null, .int 0, .null, .null, .null, .null, .null, .null, .null, .null, .int 0, .int 0, .int 0, .int 0, .int 0, .int 0, .null, .null, .null]) inlX12 tyX12 tyX12_ok (List.mem_of_getElem? (i := 3) (by decide +kernel)) (List.mem_of_getElem? (i := 4) (by decide +kernel)) (List.mem_of_getElem? (i := 5) (by decide +kernel)) rfl (fun j hj => by match j, hj with | 0, _ => rfl | 1, _ => rfl | 2, _ => rfl | 3, _ => rfl | 4, _ => rfl | 5, _ => rfl | 6, _ => rfl | 7, _ => rfl | 8, _ => rfl | 9, _ => rfl | 10, _ => rfl | 11, _ => rfl | 12, _ => rfl | 13, _ => rfl | 14, _ => rfl | 15, _ => rfl | 16, _ => rfl | 17, _ => rfl | 18, _ => rfl | 19, _ => rfl | 20, _ => rfl | 21, _ => rfl | 22, _ => rfl | 23, _ => rfl | 24, _ => rfl | 25, _ => rfl | 26, _ => rfl | 27, _ => rfl | 28, _ => rfl | 29, _ => rfl | 30, _ => rfl | 31, _ => rfl | 32, _ => rfl | 33, _ => rfl | 34, _ => rfl | 35, _ => rfl | 36, _ => rfl | 37, _ => rfl | 38, _ => rfl | 39, _ => rfl | 40, _ => rfl | 41, _ => rfl | 42, _ => rfl | 43, _ => rfl | 44, _ => rfl | 45, _ => rfl | 46, _ => rfl | 47, _ => rfl | 48, _ => rfl | 49, _ => rfl | 50, _ => rfl | k + 51, h => exact absurd h (by omega)) (Nat.le_of_ble_eq_true rfl) (Nat.le_of_ble_eq_true rfl) dL_law_8 (fun H w3 => ?_)
  refine m_dup (x := some sz1) hx hb dL_law_11 ?_
  have e2 := m_start (B := G.2.2.1) (m0 := sz1) (L := N) (u := u0) (fun a h => hk.1 a (by omega)) (by omega) hu0
  have w4 : wD G s (fun _ => none) (va_up N sz1 (some (.inl (15, [.null, .int 0, .int 0, .int 0, .int 0, .int 0, .null, .null, .null, .null, .int 0, .null, .null, .null, .int 0, .null, .null, .null, .null, .int 0, .null, .null, .null, .int 0, .null, .null, .null, .null, .null, .null, .null, .null, .null, .int 0, .null, .null, .null, .null, .null, .null, .null, .null, .int 0, .int 0, .int 0, .int 0, .int 0, .int 0, .null, .null, .null])))) (sz1 + 1) H locs := w3.part (fun a x h => by
    by_cases q : a = sz1
    · rw [q, va_up_self] at h ⊢
      exact h
    · rw [va_up_ne _ _ q] at h ⊢
      exact hcon a x h)
  have w5 : wD G s (fun _ => none) M1 (sz1 + 1) H locs := w3.part (fun a x h => by
    have q := hlt1 a x h
    rw [va_up_ne _ _ (by omega)]
    exact h)
  refine l_two hC w4 w5 hB (fun a ha h => ?_) (m_runI hC w4 (x := some sz1) (n := 0) (av := []) (rest := [va_rf (some sz1)]) (c_X12_init (G := G) (l := l) e2) gL_law_X12_init (List.mem_of_getElem? (i := 72) (by decide +kernel)) (List.mem_of_getElem? (i := 73) (by decide +kernel)) (List.mem_of_getElem? (i := 5) (by decide +kernel)) rfl rfl (by decide +kernel) ⟨(Nat.le_of_ble_eq_true rfl), (Nat.le_of_ble_eq_true rfl)⟩ rfl rfl hl.1 rfl (by simp [va_rf_cat, cat_i, cat_r, cat_l]) dL_law_12 ⟨(Nat.le_of_ble_eq_true rfl), (Nat.le_of_ble_eq_true rfl)⟩) (fun H locs w6 w7 => ?_)
  · have hlt : a < sz1 := by
      cases he : M1 a with
      | none => exact absurd he ha
      | some x => exact hlt1 a x he
    rcases h with ⟨g1, g2⟩ | g
    · rw [va_up_ne _ _ (by omega)] at g2
      exact g2 (hk.1 a g1)
    · omega
  have w6 : wD G s (fun _ => none) (Mm sz1 u0 N) (sz1 + 36) H locs := w6
  have w7 : wD G s (fun _ => none) M1 (sz1 + 36) H locs := w7
  refine lv_astore_n (x := sz1) (lv' := [(2, .ref sz1), (1, .ref s.heap.size), (0, .ref b)]) hx hb dL_law_15 rfl hl (by decide) rfl (fun ls hl => ?_)
  refine lv_iconst (v := (0 : Int32)) hx hb dL_law_16 (by decide) ?_
  refine lv_istore_n (lv' := [(3, .int 0), (2, .ref sz1), (1, .ref s.heap.size), (0, .ref b)]) hx hb dL_law_17 rfl hl (by decide) rfl (fun ls hl => ?_)
  refine W.widen (k := 49 + 94 * 0 + 0 * 136 + 0 * 110) (n := 6228 + 7265 * 0 + 0 * 39857 + 0 * 31184) (Nat.le_of_ble_eq_true rfl) (Nat.le_of_ble_eq_true rfl) ?_
  exact law_loop hC hr hX hbl hL hB hk (L + 1) 0 (by omega) (by omega) M1 u0 (sz1 + 36) 0 0 H locs ls (sim_start hu0 (fun xl => (hRep xl).wideS (by omega))) ⟨w7, w6, ⟨fun a ha => hk.1 a (by omega), by omega⟩, hk.1, fun a h1 h2 => by
    cases he : M1 a with
    | none => rfl
    | some x => exact absurd (hlt1 a x he) (by omega), by omega, hB⟩ (lv_sub hl [3, 2, 1, 0] rfl)
