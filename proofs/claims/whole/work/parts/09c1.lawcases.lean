set_option maxHeartbeats 4000000 in
set_option maxRecDepth 100000 in
theorem law_appraise {p : Program} {l : Launch} {e : Env} {s : State} {m : MethodId} {args : Array Value} {below : List Frame} {meth : Method} {c : Code} {Q : State → Prop} {G : wG} {L : Mem} {x0 m0 b LL j : Nat} {xs : Nat → Int32} {Sim : SimT} (hC : Cx G p s m args meth c cL_law 4 RL wsL_law) (hX : va_X b LL xs s s.heap) (hbl : b < s.heap.size) (hbA : ¬ As G (fun _ => none) s.heap.size b) (hin : ∀ c : Nat, c < 6 → vp_in (nI (6 * j) + nI c) LL)
    (hst : St_appraise G L x0 Sim) {M : Mem} {u : MS} {sz nc nr : Nat} (hSim : Sim M u sz nc nr) (hro : isO M (some x0) 14 = true) {H : Heap} {locs : List Loc} {cells slots : Nat} (hcc : cells + 1000 ≤ 600000) (hcs : slots + 60000 ≤ 7302250) (hw : lD G s m0 L M u sz H locs) {ls : Array Slot} (hl : lv_has ls 4 [(0, .ref b), (1, .ref x0), (2, .ref m0), (3, .int (nI (6 * j)))])
    (kk : ∀ (M1 : Mem) (u1 : MS) (sz1 dc dr : Nat) (H1 : Heap) (locs1 : List Loc) (ls1 : Array Slot), Sim M1 u1 sz1 (nc + dc) (nr + dr) → lD G s m0 L M1 u1 sz1 H1 locs1 → lv_has ls1 4 [(0, .ref b), (1, .ref x0), (2, .ref m0), (3, .int (nI (6 * j)))] → W p l e room_1 s m args below meth c H1 locs1 (cells + 94 + dc * 136 + dr * 110) (slots + 7265 + dc * 39857 + dr * 31184) Q (F0 m 1223 ls1 [])) :
    W p l e room_1 s m args below meth c H locs cells slots Q (F0 m 369 ls []) := by
  have hx := hC.1
  have hb := hC.2.1
  obtain ⟨n, r, M1, u1, e1, e2, hS1⟩ := hst M u sz nc nr (xs (nI (6 * j) + (1 : Int32)).toNatClampNeg) (xs (nI (6 * j) + (2 : Int32)).toNatClampNeg) (xs (nI (6 * j) + (3 : Int32)).toNatClampNeg) hSim
  refine lv_aload_n hx hb dL_law_369 rfl (lv_at hl 1 rfl) ?_
  refine lv_aload_n hx hb dL_law_370 rfl (lv_at hl 0 rfl) ?_
  refine lv_iload_n hx hb dL_law_371 rfl (lv_at hl 3 rfl) ?_
  refine lv_iconst (v := (1 : Int32)) hx hb dL_law_372 (by decide) ?_
  refine lv_iadd hx hb dL_law_373 ?_
  refine va_sld hx hb hX hbl hbA hw.1.2.2.1 (hin 1 (by omega)) dL_law_374 ?_
  refine lv_aload_n hx hb dL_law_375 rfl (lv_at hl 0 rfl) ?_
  refine lv_iload_n hx hb dL_law_376 rfl (lv_at hl 3 rfl) ?_
  refine lv_iconst (v := (2 : Int32)) hx hb dL_law_377 (by decide) ?_
  refine lv_iadd hx hb dL_law_378 ?_
  refine va_sld hx hb hX hbl hbA hw.1.2.2.1 (hin 2 (by omega)) dL_law_379 ?_
  refine lv_aload_n hx hb dL_law_380 rfl (lv_at hl 0 rfl) ?_
  refine lv_iload_n hx hb dL_law_381 rfl (lv_at hl 3 rfl) ?_
  refine lv_iconst (v := (3 : Int32)) hx hb dL_law_382 (by decide) ?_
  refine lv_iadd hx hb dL_law_383 ?_
  refine va_sld hx hb hX hbl hbA hw.1.2.2.1 (hin 3 (by omega)) dL_law_384 ?_
  refine l_contC hC hw (m_runV hC hw.1 (x := some x0) (ci := 14) (N := 11) (C := RX11) (T := TX11) (n := 3) (av := [.int (xs (nI (6 * j) + (1 : Int32)).toNatClampNeg), .int (xs (nI (6 * j) + (2 : Int32)).toNatClampNeg), .int (xs (nI (6 * j) + (3 : Int32)).toNatClampNeg)]) (rest := []) (c_X11_appraise (G := G) (l := l) e1) gL_law_X11_appraise rfl (by decide +kernel) ⟨(Nat.le_of_ble_eq_true rfl), (Nat.le_of_ble_eq_true rfl)⟩ hro rfl rfl hl.1 rfl (Nat.le_of_ble_eq_true rfl) dL_law_385 ⟨(show cells + 0 ≤ 600000 by omega), (show slots + 0 ≤ 7302250 by omega)⟩) (fun H locs hw => ?_)
  refine lv_aload_n hx hb dL_law_388 rfl (lv_at hl 2 rfl) ?_
  refine lv_aload_n hx hb dL_law_389 rfl (lv_at hl 0 rfl) ?_
  refine lv_iload_n hx hb dL_law_390 rfl (lv_at hl 3 rfl) ?_
  refine lv_iconst (v := (1 : Int32)) hx hb dL_law_391 (by decide) ?_
  refine lv_iadd hx hb dL_law_392 ?_
  refine va_sld hx hb hX hbl hbA hw.1.2.2.1 (hin 1 (by omega)) dL_law_393 ?_
  refine lv_aload_n hx hb dL_law_394 rfl (lv_at hl 0 rfl) ?_
  refine lv_iload_n hx hb dL_law_395 rfl (lv_at hl 3 rfl) ?_
  refine lv_iconst (v := (2 : Int32)) hx hb dL_law_396 (by decide) ?_
  refine lv_iadd hx hb dL_law_397 ?_
  refine va_sld hx hb hX hbl hbA hw.1.2.2.1 (hin 2 (by omega)) dL_law_398 ?_
  refine lv_aload_n hx hb dL_law_399 rfl (lv_at hl 0 rfl) ?_
  refine lv_iload_n hx hb dL_law_400 rfl (lv_at hl 3 rfl) ?_
  refine lv_iconst (v := (3 : Int32)) hx hb dL_law_401 (by decide) ?_
  refine lv_iadd hx hb dL_law_402 ?_
  refine va_sld hx hb hX hbl hbA hw.1.2.2.1 (hin 3 (by omega)) dL_law_403 ?_
  refine l_contM hC hw (m_runV hC hw.2.1 (x := some m0) (ci := 15) (N := 51) (C := RX12) (T := TX12) (n := 3) (av := [.int (xs (nI (6 * j) + (1 : Int32)).toNatClampNeg), .int (xs (nI (6 * j) + (2 : Int32)).toNatClampNeg), .int (xs (nI (6 * j) + (3 : Int32)).toNatClampNeg)]) (rest := [.int _]) (c_X12_appraise (G := G) (l := l) hw.2.2.1 e2) gL_law_X12_appraise rfl (by decide +kernel) ⟨(Nat.le_of_ble_eq_true rfl), (Nat.le_of_ble_eq_true rfl)⟩ (isO_Mm _ _ _) rfl rfl hl.1 rfl (Nat.le_of_ble_eq_true rfl) dL_law_404 ⟨(show cells + 0 + 0 ≤ 600000 by omega), (show slots + 0 + 0 ≤ 7302250 by omega)⟩) (fun H locs hw => ?_)
  refine lv_icmp_eq (tgt := 1223) hx hb dL_law_407 (by decide) (fun _ => ?_) (fun c => absurd rfl c)
  refine W.widen (k := cells + 94 + 0 * 136 + 0 * 110) (n := slots + 7265 + 0 * 39857 + 0 * 31184) (show cells + 0 + 0 ≤ _ by omega) (show slots + 0 + 0 ≤ _ by omega) ?_
  exact kk _ _ _ 0 0 _ _ _ hS1 hw hl
set_option maxHeartbeats 4000000 in
set_option maxRecDepth 100000 in
theorem law_cancel {p : Program} {l : Launch} {e : Env} {s : State} {m : MethodId} {args : Array Value} {below : List Frame} {meth : Method} {c : Code} {Q : State → Prop} {G : wG} {L : Mem} {x0 m0 b LL j : Nat} {xs : Nat → Int32} {Sim : SimT} (hC : Cx G p s m args meth c cL_law 4 RL wsL_law) (hX : va_X b LL xs s s.heap) (hbl : b < s.heap.size) (hbA : ¬ As G (fun _ => none) s.heap.size b) (hin : ∀ c : Nat, c < 6 → vp_in (nI (6 * j) + nI c) LL)
    (hst : St_cancel G L x0 Sim) {M : Mem} {u : MS} {sz nc nr : Nat} (hSim : Sim M u sz nc nr) (hro : isO M (some x0) 14 = true) {H : Heap} {locs : List Loc} {cells slots : Nat} (hcc : cells + 1000 ≤ 600000) (hcs : slots + 60000 ≤ 7302250) (hw : lD G s m0 L M u sz H locs) {ls : Array Slot} (hl : lv_has ls 4 [(0, .ref b), (1, .ref x0), (2, .ref m0), (3, .int (nI (6 * j)))])
    (kk : ∀ (M1 : Mem) (u1 : MS) (sz1 dc dr : Nat) (H1 : Heap) (locs1 : List Loc) (ls1 : Array Slot), Sim M1 u1 sz1 (nc + dc) (nr + dr) → lD G s m0 L M1 u1 sz1 H1 locs1 → lv_has ls1 4 [(0, .ref b), (1, .ref x0), (2, .ref m0), (3, .int (nI (6 * j)))] → W p l e room_1 s m args below meth c H1 locs1 (cells + 94 + dc * 136 + dr * 110) (slots + 7265 + dc * 39857 + dr * 31184) Q (F0 m 1223 ls1 [])) :
    W p l e room_1 s m args below meth c H locs cells slots Q (F0 m 412 ls []) := by
  have hx := hC.1
  have hb := hC.2.1
  obtain ⟨n, r, M1, u1, e1, e2, hS1⟩ := hst M u sz nc nr (xs (nI (6 * j) + (1 : Int32)).toNatClampNeg) hSim
  refine lv_aload_n hx hb dL_law_412 rfl (lv_at hl 1 rfl) ?_
  refine lv_aload_n hx hb dL_law_413 rfl (lv_at hl 0 rfl) ?_
  refine lv_iload_n hx hb dL_law_414 rfl (lv_at hl 3 rfl) ?_
  refine lv_iconst (v := (1 : Int32)) hx hb dL_law_415 (by decide) ?_
  refine lv_iadd hx hb dL_law_416 ?_
  refine va_sld hx hb hX hbl hbA hw.1.2.2.1 (hin 1 (by omega)) dL_law_417 ?_
  refine l_contC hC hw (m_runV hC hw.1 (x := some x0) (ci := 14) (N := 11) (C := RX11) (T := TX11) (n := 1) (av := [.int (xs (nI (6 * j) + (1 : Int32)).toNatClampNeg)]) (rest := []) (c_X11_cancel (G := G) (l := l) e1) gL_law_X11_cancel rfl (by decide +kernel) ⟨(Nat.le_of_ble_eq_true rfl), (Nat.le_of_ble_eq_true rfl)⟩ hro rfl rfl hl.1 rfl (Nat.le_of_ble_eq_true rfl) dL_law_418 ⟨(show cells + 0 ≤ 600000 by omega), (show slots + 0 ≤ 7302250 by omega)⟩) (fun H locs hw => ?_)
  refine lv_aload_n hx hb dL_law_421 rfl (lv_at hl 2 rfl) ?_
  refine lv_aload_n hx hb dL_law_422 rfl (lv_at hl 0 rfl) ?_
  refine lv_iload_n hx hb dL_law_423 rfl (lv_at hl 3 rfl) ?_
  refine lv_iconst (v := (1 : Int32)) hx hb dL_law_424 (by decide) ?_
  refine lv_iadd hx hb dL_law_425 ?_
  refine va_sld hx hb hX hbl hbA hw.1.2.2.1 (hin 1 (by omega)) dL_law_426 ?_
  refine l_contM hC hw (m_runV hC hw.2.1 (x := some m0) (ci := 15) (N := 51) (C := RX12) (T := TX12) (n := 1) (av := [.int (xs (nI (6 * j) + (1 : Int32)).toNatClampNeg)]) (rest := [.int _]) (c_X12_cancel (G := G) (l := l) hw.2.2.1 e2) gL_law_X12_cancel rfl (by decide +kernel) ⟨(Nat.le_of_ble_eq_true rfl), (Nat.le_of_ble_eq_true rfl)⟩ (isO_Mm _ _ _) rfl rfl hl.1 rfl (Nat.le_of_ble_eq_true rfl) dL_law_427 ⟨(show cells + 0 + 0 ≤ 600000 by omega), (show slots + 0 + 0 ≤ 7302250 by omega)⟩) (fun H locs hw => ?_)
  refine lv_icmp_eq (tgt := 1223) hx hb dL_law_430 (by decide) (fun _ => ?_) (fun c => absurd rfl c)
  refine W.widen (k := cells + 94 + 0 * 136 + 0 * 110) (n := slots + 7265 + 0 * 39857 + 0 * 31184) (show cells + 0 + 0 ≤ _ by omega) (show slots + 0 + 0 ≤ _ by omega) ?_
  exact kk _ _ _ 0 0 _ _ _ hS1 hw hl
set_option maxHeartbeats 4000000 in
set_option maxRecDepth 100000 in
theorem law_place {p : Program} {l : Launch} {e : Env} {s : State} {m : MethodId} {args : Array Value} {below : List Frame} {meth : Method} {c : Code} {Q : State → Prop} {G : wG} {L : Mem} {x0 m0 b LL j : Nat} {xs : Nat → Int32} {Sim : SimT} (hC : Cx G p s m args meth c cL_law 4 RL wsL_law) (hX : va_X b LL xs s s.heap) (hbl : b < s.heap.size) (hbA : ¬ As G (fun _ => none) s.heap.size b) (hin : ∀ c : Nat, c < 6 → vp_in (nI (6 * j) + nI c) LL)
    (hst : St_place G L x0 Sim) {M : Mem} {u : MS} {sz nc nr : Nat} (hSim : Sim M u sz nc nr) (hro : isO M (some x0) 14 = true) {H : Heap} {locs : List Loc} {cells slots : Nat} (hcc : cells + 1000 ≤ 600000) (hcs : slots + 60000 ≤ 7302250) (hw : lD G s m0 L M u sz H locs) {ls : Array Slot} (hl : lv_has ls 4 [(0, .ref b), (1, .ref x0), (2, .ref m0), (3, .int (nI (6 * j)))])
    (kk : ∀ (M1 : Mem) (u1 : MS) (sz1 dc dr : Nat) (H1 : Heap) (locs1 : List Loc) (ls1 : Array Slot), Sim M1 u1 sz1 (nc + dc) (nr + dr) → lD G s m0 L M1 u1 sz1 H1 locs1 → lv_has ls1 4 [(0, .ref b), (1, .ref x0), (2, .ref m0), (3, .int (nI (6 * j)))] → W p l e room_1 s m args below meth c H1 locs1 (cells + 94 + dc * 136 + dr * 110) (slots + 7265 + dc * 39857 + dr * 31184) Q (F0 m 1223 ls1 [])) :
    W p l e room_1 s m args below meth c H locs cells slots Q (F0 m 435 ls []) := by
  have hx := hC.1
  have hb := hC.2.1
  obtain ⟨n, r, e1, e2, hS1⟩ := hst M u sz nc nr hSim
  refine lv_aload_n hx hb dL_law_435 rfl (lv_at hl 1 rfl) ?_
  refine l_contC hC hw (m_runV hC hw.1 (x := some x0) (ci := 14) (N := 11) (C := RX11) (T := TX11) (n := 0) (av := []) (rest := []) (c_X11_place (G := G) (l := l) e1) gL_law_X11_place rfl (by decide +kernel) ⟨(Nat.le_of_ble_eq_true rfl), (Nat.le_of_ble_eq_true rfl)⟩ hro rfl rfl hl.1 rfl (Nat.le_of_ble_eq_true rfl) dL_law_436 ⟨(show cells + 0 ≤ 600000 by omega), (show slots + 0 ≤ 7302250 by omega)⟩) (fun H locs hw => ?_)
  refine lv_aload_n hx hb dL_law_439 rfl (lv_at hl 2 rfl) ?_
  refine l_contM hC hw (m_runV hC hw.2.1 (x := some m0) (ci := 15) (N := 51) (C := RX12) (T := TX12) (n := 0) (av := []) (rest := [.int _]) (c_X12_place (G := G) (l := l) hw.2.2.1 e2) gL_law_X12_place rfl (by decide +kernel) ⟨(Nat.le_of_ble_eq_true rfl), (Nat.le_of_ble_eq_true rfl)⟩ (isO_Mm _ _ _) rfl rfl hl.1 rfl (Nat.le_of_ble_eq_true rfl) dL_law_440 ⟨(show cells + 0 + 0 ≤ 600000 by omega), (show slots + 0 + 0 ≤ 7302250 by omega)⟩) (fun H locs hw => ?_)
  refine lv_icmp_eq (tgt := 1223) hx hb dL_law_443 (by decide) (fun _ => ?_) (fun c => absurd rfl c)
  refine W.widen (k := cells + 94 + 0 * 136 + 0 * 110) (n := slots + 7265 + 0 * 39857 + 0 * 31184) (show cells + 0 + 0 ≤ _ by omega) (show slots + 0 + 0 ≤ _ by omega) ?_
  exact kk _ _ _ 0 0 _ _ _ hS1 hw hl
set_option maxHeartbeats 4000000 in
set_option maxRecDepth 100000 in
theorem law_fault {p : Program} {l : Launch} {e : Env} {s : State} {m : MethodId} {args : Array Value} {below : List Frame} {meth : Method} {c : Code} {Q : State → Prop} {G : wG} {L : Mem} {x0 m0 b LL j : Nat} {xs : Nat → Int32} {Sim : SimT} (hC : Cx G p s m args meth c cL_law 4 RL wsL_law) (hX : va_X b LL xs s s.heap) (hbl : b < s.heap.size) (hbA : ¬ As G (fun _ => none) s.heap.size b) (hin : ∀ c : Nat, c < 6 → vp_in (nI (6 * j) + nI c) LL)
    (hst : St_fault G L x0 Sim) {M : Mem} {u : MS} {sz nc nr : Nat} (hSim : Sim M u sz nc nr) (hro : isO M (some x0) 14 = true) {H : Heap} {locs : List Loc} {cells slots : Nat} (hcc : cells + 1000 ≤ 600000) (hcs : slots + 60000 ≤ 7302250) (hw : lD G s m0 L M u sz H locs) {ls : Array Slot} (hl : lv_has ls 4 [(0, .ref b), (1, .ref x0), (2, .ref m0), (3, .int (nI (6 * j)))])
    (kk : ∀ (M1 : Mem) (u1 : MS) (sz1 dc dr : Nat) (H1 : Heap) (locs1 : List Loc) (ls1 : Array Slot), Sim M1 u1 sz1 (nc + dc) (nr + dr) → lD G s m0 L M1 u1 sz1 H1 locs1 → lv_has ls1 4 [(0, .ref b), (1, .ref x0), (2, .ref m0), (3, .int (nI (6 * j)))] → W p l e room_1 s m args below meth c H1 locs1 (cells + 94 + dc * 136 + dr * 110) (slots + 7265 + dc * 39857 + dr * 31184) Q (F0 m 1223 ls1 [])) :
    W p l e room_1 s m args below meth c H locs cells slots Q (F0 m 448 ls []) := by
  have hx := hC.1
  have hb := hC.2.1
  obtain ⟨n, r, e1, e2, hS1⟩ := hst M u sz nc nr hSim
  refine lv_aload_n hx hb dL_law_448 rfl (lv_at hl 1 rfl) ?_
  refine l_contC hC hw (m_runV hC hw.1 (x := some x0) (ci := 14) (N := 11) (C := RX11) (T := TX11) (n := 0) (av := []) (rest := []) (c_X11_fault (G := G) (l := l) e1) gL_law_X11_fault rfl (by decide +kernel) ⟨(Nat.le_of_ble_eq_true rfl), (Nat.le_of_ble_eq_true rfl)⟩ hro rfl rfl hl.1 rfl (Nat.le_of_ble_eq_true rfl) dL_law_449 ⟨(show cells + 0 ≤ 600000 by omega), (show slots + 0 ≤ 7302250 by omega)⟩) (fun H locs hw => ?_)
  refine lv_aload_n hx hb dL_law_452 rfl (lv_at hl 2 rfl) ?_
  refine l_contM hC hw (m_runV hC hw.2.1 (x := some m0) (ci := 15) (N := 51) (C := RX12) (T := TX12) (n := 0) (av := []) (rest := [.int _]) (c_X12_fault (G := G) (l := l) hw.2.2.1 e2) gL_law_X12_fault rfl (by decide +kernel) ⟨(Nat.le_of_ble_eq_true rfl), (Nat.le_of_ble_eq_true rfl)⟩ (isO_Mm _ _ _) rfl rfl hl.1 rfl (Nat.le_of_ble_eq_true rfl) dL_law_453 ⟨(show cells + 0 + 0 ≤ 600000 by omega), (show slots + 0 + 0 ≤ 7302250 by omega)⟩) (fun H locs hw => ?_)
  refine lv_icmp_eq (tgt := 1223) hx hb dL_law_456 (by decide) (fun _ => ?_) (fun c => absurd rfl c)
  refine W.widen (k := cells + 94 + 0 * 136 + 0 * 110) (n := slots + 7265 + 0 * 39857 + 0 * 31184) (show cells + 0 + 0 ≤ _ by omega) (show slots + 0 + 0 ≤ _ by omega) ?_
  exact kk _ _ _ 0 0 _ _ _ hS1 hw hl
set_option maxHeartbeats 4000000 in
set_option maxRecDepth 100000 in
theorem law_count {p : Program} {l : Launch} {e : Env} {s : State} {m : MethodId} {args : Array Value} {below : List Frame} {meth : Method} {c : Code} {Q : State → Prop} {G : wG} {L : Mem} {x0 m0 b LL j : Nat} {xs : Nat → Int32} {Sim : SimT} (hC : Cx G p s m args meth c cL_law 4 RL wsL_law) (hX : va_X b LL xs s s.heap) (hbl : b < s.heap.size) (hbA : ¬ As G (fun _ => none) s.heap.size b) (hin : ∀ c : Nat, c < 6 → vp_in (nI (6 * j) + nI c) LL)
    (hst : St_count G L x0 Sim) {M : Mem} {u : MS} {sz nc nr : Nat} (hSim : Sim M u sz nc nr) (hro : isO M (some x0) 14 = true) {H : Heap} {locs : List Loc} {cells slots : Nat} (hcc : cells + 1000 ≤ 600000) (hcs : slots + 60000 ≤ 7302250) (hw : lD G s m0 L M u sz H locs) {ls : Array Slot} (hl : lv_has ls 4 [(0, .ref b), (1, .ref x0), (2, .ref m0), (3, .int (nI (6 * j)))])
    (kk : ∀ (M1 : Mem) (u1 : MS) (sz1 dc dr : Nat) (H1 : Heap) (locs1 : List Loc) (ls1 : Array Slot), Sim M1 u1 sz1 (nc + dc) (nr + dr) → lD G s m0 L M1 u1 sz1 H1 locs1 → lv_has ls1 4 [(0, .ref b), (1, .ref x0), (2, .ref m0), (3, .int (nI (6 * j)))] → W p l e room_1 s m args below meth c H1 locs1 (cells + 94 + dc * 136 + dr * 110) (slots + 7265 + dc * 39857 + dr * 31184) Q (F0 m 1223 ls1 [])) :
    W p l e room_1 s m args below meth c H locs cells slots Q (F0 m 461 ls []) := by
  have hx := hC.1
  have hb := hC.2.1
  obtain ⟨n, r, M1, u1, e1, e2, hS1⟩ := hst M u sz nc nr (xs (nI (6 * j) + (1 : Int32)).toNatClampNeg) hSim
  refine lv_aload_n hx hb dL_law_461 rfl (lv_at hl 1 rfl) ?_
  refine lv_aload_n hx hb dL_law_462 rfl (lv_at hl 0 rfl) ?_
  refine lv_iload_n hx hb dL_law_463 rfl (lv_at hl 3 rfl) ?_
  refine lv_iconst (v := (1 : Int32)) hx hb dL_law_464 (by decide) ?_
  refine lv_iadd hx hb dL_law_465 ?_
  refine va_sld hx hb hX hbl hbA hw.1.2.2.1 (hin 1 (by omega)) dL_law_466 ?_
  refine l_contC hC hw (m_runV hC hw.1 (x := some x0) (ci := 14) (N := 11) (C := RX11) (T := TX11) (n := 1) (av := [.int (xs (nI (6 * j) + (1 : Int32)).toNatClampNeg)]) (rest := []) (c_X11_count (G := G) (l := l) e1) gL_law_X11_count rfl (by decide +kernel) ⟨(Nat.le_of_ble_eq_true rfl), (Nat.le_of_ble_eq_true rfl)⟩ hro rfl rfl hl.1 rfl (Nat.le_of_ble_eq_true rfl) dL_law_467 ⟨(show cells + 0 ≤ 600000 by omega), (show slots + 0 ≤ 7302250 by omega)⟩) (fun H locs hw => ?_)
  refine lv_aload_n hx hb dL_law_470 rfl (lv_at hl 2 rfl) ?_
  refine lv_aload_n hx hb dL_law_471 rfl (lv_at hl 0 rfl) ?_
  refine lv_iload_n hx hb dL_law_472 rfl (lv_at hl 3 rfl) ?_
  refine lv_iconst (v := (1 : Int32)) hx hb dL_law_473 (by decide) ?_
  refine lv_iadd hx hb dL_law_474 ?_
  refine va_sld hx hb hX hbl hbA hw.1.2.2.1 (hin 1 (by omega)) dL_law_475 ?_
  refine l_contM hC hw (m_runV hC hw.2.1 (x := some m0) (ci := 15) (N := 51) (C := RX12) (T := TX12) (n := 1) (av := [.int (xs (nI (6 * j) + (1 : Int32)).toNatClampNeg)]) (rest := [.int _]) (c_X12_count (G := G) (l := l) hw.2.2.1 e2) gL_law_X12_count rfl (by decide +kernel) ⟨(Nat.le_of_ble_eq_true rfl), (Nat.le_of_ble_eq_true rfl)⟩ (isO_Mm _ _ _) rfl rfl hl.1 rfl (Nat.le_of_ble_eq_true rfl) dL_law_476 ⟨(show cells + 0 + 0 ≤ 600000 by omega), (show slots + 0 + 0 ≤ 7302250 by omega)⟩) (fun H locs hw => ?_)
  refine lv_icmp_eq (tgt := 1223) hx hb dL_law_479 (by decide) (fun _ => ?_) (fun c => absurd rfl c)
  refine W.widen (k := cells + 94 + 0 * 136 + 0 * 110) (n := slots + 7265 + 0 * 39857 + 0 * 31184) (show cells + 0 + 0 ≤ _ by omega) (show slots + 0 + 0 ≤ _ by omega) ?_
  exact kk _ _ _ 0 0 _ _ _ hS1 hw hl
set_option maxHeartbeats 4000000 in
set_option maxRecDepth 100000 in
theorem law_value {p : Program} {l : Launch} {e : Env} {s : State} {m : MethodId} {args : Array Value} {below : List Frame} {meth : Method} {c : Code} {Q : State → Prop} {G : wG} {L : Mem} {x0 m0 b LL j : Nat} {xs : Nat → Int32} {Sim : SimT} (hC : Cx G p s m args meth c cL_law 4 RL wsL_law) (hX : va_X b LL xs s s.heap) (hbl : b < s.heap.size) (hbA : ¬ As G (fun _ => none) s.heap.size b) (hin : ∀ c : Nat, c < 6 → vp_in (nI (6 * j) + nI c) LL)
    (hst : St_value G L x0 Sim) {M : Mem} {u : MS} {sz nc nr : Nat} (hSim : Sim M u sz nc nr) (hro : isO M (some x0) 14 = true) {H : Heap} {locs : List Loc} {cells slots : Nat} (hcc : cells + 1000 ≤ 600000) (hcs : slots + 60000 ≤ 7302250) (hw : lD G s m0 L M u sz H locs) {ls : Array Slot} (hl : lv_has ls 4 [(0, .ref b), (1, .ref x0), (2, .ref m0), (3, .int (nI (6 * j)))])
    (kk : ∀ (M1 : Mem) (u1 : MS) (sz1 dc dr : Nat) (H1 : Heap) (locs1 : List Loc) (ls1 : Array Slot), Sim M1 u1 sz1 (nc + dc) (nr + dr) → lD G s m0 L M1 u1 sz1 H1 locs1 → lv_has ls1 4 [(0, .ref b), (1, .ref x0), (2, .ref m0), (3, .int (nI (6 * j)))] → W p l e room_1 s m args below meth c H1 locs1 (cells + 94 + dc * 136 + dr * 110) (slots + 7265 + dc * 39857 + dr * 31184) Q (F0 m 1223 ls1 [])) :
    W p l e room_1 s m args below meth c H locs cells slots Q (F0 m 484 ls []) := by
  have hx := hC.1
  have hb := hC.2.1
  obtain ⟨n, r, M1, u1, e1, e2, hS1⟩ := hst M u sz nc nr (xs (nI (6 * j) + (1 : Int32)).toNatClampNeg) (xs (nI (6 * j) + (2 : Int32)).toNatClampNeg) hSim
  refine lv_aload_n hx hb dL_law_484 rfl (lv_at hl 1 rfl) ?_
  refine lv_aload_n hx hb dL_law_485 rfl (lv_at hl 0 rfl) ?_
  refine lv_iload_n hx hb dL_law_486 rfl (lv_at hl 3 rfl) ?_
  refine lv_iconst (v := (1 : Int32)) hx hb dL_law_487 (by decide) ?_
  refine lv_iadd hx hb dL_law_488 ?_
  refine va_sld hx hb hX hbl hbA hw.1.2.2.1 (hin 1 (by omega)) dL_law_489 ?_
  refine lv_aload_n hx hb dL_law_490 rfl (lv_at hl 0 rfl) ?_
  refine lv_iload_n hx hb dL_law_491 rfl (lv_at hl 3 rfl) ?_
  refine lv_iconst (v := (2 : Int32)) hx hb dL_law_492 (by decide) ?_
  refine lv_iadd hx hb dL_law_493 ?_
  refine va_sld hx hb hX hbl hbA hw.1.2.2.1 (hin 2 (by omega)) dL_law_494 ?_
  refine l_contC hC hw (m_runV hC hw.1 (x := some x0) (ci := 14) (N := 11) (C := RX11) (T := TX11) (n := 2) (av := [.int (xs (nI (6 * j) + (1 : Int32)).toNatClampNeg), .int (xs (nI (6 * j) + (2 : Int32)).toNatClampNeg)]) (rest := []) (c_X11_value (G := G) (l := l) e1) gL_law_X11_value rfl (by decide +kernel) ⟨(Nat.le_of_ble_eq_true rfl), (Nat.le_of_ble_eq_true rfl)⟩ hro rfl rfl hl.1 rfl (Nat.le_of_ble_eq_true rfl) dL_law_495 ⟨(show cells + 0 ≤ 600000 by omega), (show slots + 0 ≤ 7302250 by omega)⟩) (fun H locs hw => ?_)
  refine lv_aload_n hx hb dL_law_498 rfl (lv_at hl 2 rfl) ?_
  refine lv_aload_n hx hb dL_law_499 rfl (lv_at hl 0 rfl) ?_
  refine lv_iload_n hx hb dL_law_500 rfl (lv_at hl 3 rfl) ?_
  refine lv_iconst (v := (1 : Int32)) hx hb dL_law_501 (by decide) ?_
  refine lv_iadd hx hb dL_law_502 ?_
  refine va_sld hx hb hX hbl hbA hw.1.2.2.1 (hin 1 (by omega)) dL_law_503 ?_
  refine lv_aload_n hx hb dL_law_504 rfl (lv_at hl 0 rfl) ?_
  refine lv_iload_n hx hb dL_law_505 rfl (lv_at hl 3 rfl) ?_
  refine lv_iconst (v := (2 : Int32)) hx hb dL_law_506 (by decide) ?_
  refine lv_iadd hx hb dL_law_507 ?_
  refine va_sld hx hb hX hbl hbA hw.1.2.2.1 (hin 2 (by omega)) dL_law_508 ?_
  refine l_contM hC hw (m_runV hC hw.2.1 (x := some m0) (ci := 15) (N := 51) (C := RX12) (T := TX12) (n := 2) (av := [.int (xs (nI (6 * j) + (1 : Int32)).toNatClampNeg), .int (xs (nI (6 * j) + (2 : Int32)).toNatClampNeg)]) (rest := [.int _]) (c_X12_value (G := G) (l := l) hw.2.2.1 e2) gL_law_X12_value rfl (by decide +kernel) ⟨(Nat.le_of_ble_eq_true rfl), (Nat.le_of_ble_eq_true rfl)⟩ (isO_Mm _ _ _) rfl rfl hl.1 rfl (Nat.le_of_ble_eq_true rfl) dL_law_509 ⟨(show cells + 0 + 0 ≤ 600000 by omega), (show slots + 0 + 0 ≤ 7302250 by omega)⟩) (fun H locs hw => ?_)
  refine lv_icmp_eq (tgt := 1223) hx hb dL_law_512 (by decide) (fun _ => ?_) (fun c => absurd rfl c)
  refine W.widen (k := cells + 94 + 0 * 136 + 0 * 110) (n := slots + 7265 + 0 * 39857 + 0 * 31184) (show cells + 0 + 0 ≤ _ by omega) (show slots + 0 + 0 ≤ _ by omega) ?_
  exact kk _ _ _ 0 0 _ _ _ hS1 hw hl
set_option maxHeartbeats 4000000 in
set_option maxRecDepth 100000 in
theorem law_together {p : Program} {l : Launch} {e : Env} {s : State} {m : MethodId} {args : Array Value} {below : List Frame} {meth : Method} {c : Code} {Q : State → Prop} {G : wG} {L : Mem} {x0 m0 b LL j : Nat} {xs : Nat → Int32} {Sim : SimT} (hC : Cx G p s m args meth c cL_law 4 RL wsL_law) (hX : va_X b LL xs s s.heap) (hbl : b < s.heap.size) (hbA : ¬ As G (fun _ => none) s.heap.size b) (hin : ∀ c : Nat, c < 6 → vp_in (nI (6 * j) + nI c) LL)
    (hst : St_together G L x0 Sim) {M : Mem} {u : MS} {sz nc nr : Nat} (hSim : Sim M u sz nc nr) (hro : isO M (some x0) 14 = true) {H : Heap} {locs : List Loc} {cells slots : Nat} (hcc : cells + 1000 ≤ 600000) (hcs : slots + 60000 ≤ 7302250) (hw : lD G s m0 L M u sz H locs) {ls : Array Slot} (hl : lv_has ls 4 [(0, .ref b), (1, .ref x0), (2, .ref m0), (3, .int (nI (6 * j)))])
    (kk : ∀ (M1 : Mem) (u1 : MS) (sz1 dc dr : Nat) (H1 : Heap) (locs1 : List Loc) (ls1 : Array Slot), Sim M1 u1 sz1 (nc + dc) (nr + dr) → lD G s m0 L M1 u1 sz1 H1 locs1 → lv_has ls1 4 [(0, .ref b), (1, .ref x0), (2, .ref m0), (3, .int (nI (6 * j)))] → W p l e room_1 s m args below meth c H1 locs1 (cells + 94 + dc * 136 + dr * 110) (slots + 7265 + dc * 39857 + dr * 31184) Q (F0 m 1223 ls1 [])) :
    W p l e room_1 s m args below meth c H locs cells slots Q (F0 m 517 ls []) := by
  have hx := hC.1
  have hb := hC.2.1
  obtain ⟨n, r, M1, u1, e1, e2, hS1⟩ := hst M u sz nc nr (xs (nI (6 * j) + (1 : Int32)).toNatClampNeg) (xs (nI (6 * j) + (2 : Int32)).toNatClampNeg) hSim
  refine lv_aload_n hx hb dL_law_517 rfl (lv_at hl 1 rfl) ?_
  refine lv_aload_n hx hb dL_law_518 rfl (lv_at hl 0 rfl) ?_
  refine lv_iload_n hx hb dL_law_519 rfl (lv_at hl 3 rfl) ?_
  refine lv_iconst (v := (1 : Int32)) hx hb dL_law_520 (by decide) ?_
  refine lv_iadd hx hb dL_law_521 ?_
  refine va_sld hx hb hX hbl hbA hw.1.2.2.1 (hin 1 (by omega)) dL_law_522 ?_
  refine lv_aload_n hx hb dL_law_523 rfl (lv_at hl 0 rfl) ?_
  refine lv_iload_n hx hb dL_law_524 rfl (lv_at hl 3 rfl) ?_
  refine lv_iconst (v := (2 : Int32)) hx hb dL_law_525 (by decide) ?_
  refine lv_iadd hx hb dL_law_526 ?_
  refine va_sld hx hb hX hbl hbA hw.1.2.2.1 (hin 2 (by omega)) dL_law_527 ?_
  refine l_contC hC hw (m_runV hC hw.1 (x := some x0) (ci := 14) (N := 11) (C := RX11) (T := TX11) (n := 2) (av := [.int (xs (nI (6 * j) + (1 : Int32)).toNatClampNeg), .int (xs (nI (6 * j) + (2 : Int32)).toNatClampNeg)]) (rest := []) (c_X11_together (G := G) (l := l) e1) gL_law_X11_together rfl (by decide +kernel) ⟨(Nat.le_of_ble_eq_true rfl), (Nat.le_of_ble_eq_true rfl)⟩ hro rfl rfl hl.1 rfl (Nat.le_of_ble_eq_true rfl) dL_law_528 ⟨(show cells + 0 ≤ 600000 by omega), (show slots + 0 ≤ 7302250 by omega)⟩) (fun H locs hw => ?_)
  refine lv_aload_n hx hb dL_law_531 rfl (lv_at hl 2 rfl) ?_
  refine lv_aload_n hx hb dL_law_532 rfl (lv_at hl 0 rfl) ?_
  refine lv_iload_n hx hb dL_law_533 rfl (lv_at hl 3 rfl) ?_
  refine lv_iconst (v := (1 : Int32)) hx hb dL_law_534 (by decide) ?_
  refine lv_iadd hx hb dL_law_535 ?_
  refine va_sld hx hb hX hbl hbA hw.1.2.2.1 (hin 1 (by omega)) dL_law_536 ?_
  refine lv_aload_n hx hb dL_law_537 rfl (lv_at hl 0 rfl) ?_
  refine lv_iload_n hx hb dL_law_538 rfl (lv_at hl 3 rfl) ?_
  refine lv_iconst (v := (2 : Int32)) hx hb dL_law_539 (by decide) ?_
  refine lv_iadd hx hb dL_law_540 ?_
  refine va_sld hx hb hX hbl hbA hw.1.2.2.1 (hin 2 (by omega)) dL_law_541 ?_
  refine l_contM hC hw (m_runV hC hw.2.1 (x := some m0) (ci := 15) (N := 51) (C := RX12) (T := TX12) (n := 2) (av := [.int (xs (nI (6 * j) + (1 : Int32)).toNatClampNeg), .int (xs (nI (6 * j) + (2 : Int32)).toNatClampNeg)]) (rest := [.int _]) (c_X12_together (G := G) (l := l) hw.2.2.1 e2) gL_law_X12_together rfl (by decide +kernel) ⟨(Nat.le_of_ble_eq_true rfl), (Nat.le_of_ble_eq_true rfl)⟩ (isO_Mm _ _ _) rfl rfl hl.1 rfl (Nat.le_of_ble_eq_true rfl) dL_law_542 ⟨(show cells + 0 + 0 ≤ 600000 by omega), (show slots + 0 + 0 ≤ 7302250 by omega)⟩) (fun H locs hw => ?_)
  refine lv_icmp_eq (tgt := 1223) hx hb dL_law_545 (by decide) (fun _ => ?_) (fun c => absurd rfl c)
  refine W.widen (k := cells + 94 + 0 * 136 + 0 * 110) (n := slots + 7265 + 0 * 39857 + 0 * 31184) (show cells + 0 + 0 ≤ _ by omega) (show slots + 0 + 0 ≤ _ by omega) ?_
  exact kk _ _ _ 0 0 _ _ _ hS1 hw hl
