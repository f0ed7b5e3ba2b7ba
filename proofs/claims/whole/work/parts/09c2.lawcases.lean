set_option maxHeartbeats 4000000 in
set_option maxRecDepth 100000 in
theorem law_where {p : Program} {l : Launch} {e : Env} {s : State} {m : MethodId} {args : Array Value} {below : List Frame} {meth : Method} {c : Code} {Q : State → Prop} {G : wG} {L : Mem} {x0 m0 b LL j : Nat} {xs : Nat → Int32} {Sim : SimT} (hC : Cx G p s m args meth c cL_law 4 RL wsL_law) (hX : va_X b LL xs s s.heap) (hbl : b < s.heap.size) (hbA : ¬ As G (fun _ => none) s.heap.size b) (hin : ∀ c : Nat, c < 6 → vp_in (nI (6 * j) + nI c) LL)
    (hst : St_where G L x0 Sim) {M : Mem} {u : MS} {sz nc nr : Nat} (hSim : Sim M u sz nc nr) (hro : isO M (some x0) 14 = true) {H : Heap} {locs : List Loc} {cells slots : Nat} (hcc : cells + 1000 ≤ 600000) (hcs : slots + 60000 ≤ 7302250) (hw : lD G s m0 L M u sz H locs) {ls : Array Slot} (hl : lv_has ls 4 [(0, .ref b), (1, .ref x0), (2, .ref m0), (3, .int (nI (6 * j)))])
    (kk : ∀ (M1 : Mem) (u1 : MS) (sz1 dc dr : Nat) (H1 : Heap) (locs1 : List Loc) (ls1 : Array Slot), Sim M1 u1 sz1 (nc + dc) (nr + dr) → lD G s m0 L M1 u1 sz1 H1 locs1 → lv_has ls1 4 [(0, .ref b), (1, .ref x0), (2, .ref m0), (3, .int (nI (6 * j)))] → W p l e room_1 s m args below meth c H1 locs1 (cells + 94 + dc * 136 + dr * 110) (slots + 7265 + dc * 39857 + dr * 31184) Q (F0 m 1223 ls1 [])) :
    W p l e room_1 s m args below meth c H locs cells slots Q (F0 m 550 ls []) := by
  have hx := hC.1
  have hb := hC.2.1
  obtain ⟨n, r, M1, u1, e1, e2, hS1⟩ := hst M u sz nc nr (xs (nI (6 * j) + (1 : Int32)).toNatClampNeg) (xs (nI (6 * j) + (2 : Int32)).toNatClampNeg) hSim
  refine lv_aload_n hx hb dL_law_550 rfl (lv_at hl 1 rfl) ?_
  refine lv_aload_n hx hb dL_law_551 rfl (lv_at hl 0 rfl) ?_
  refine lv_iload_n hx hb dL_law_552 rfl (lv_at hl 3 rfl) ?_
  refine lv_iconst (v := (1 : Int32)) hx hb dL_law_553 (by decide) ?_
  refine lv_iadd hx hb dL_law_554 ?_
  refine va_sld hx hb hX hbl hbA hw.1.2.2.1 (hin 1 (by omega)) dL_law_555 ?_
  refine lv_aload_n hx hb dL_law_556 rfl (lv_at hl 0 rfl) ?_
  refine lv_iload_n hx hb dL_law_557 rfl (lv_at hl 3 rfl) ?_
  refine lv_iconst (v := (2 : Int32)) hx hb dL_law_558 (by decide) ?_
  refine lv_iadd hx hb dL_law_559 ?_
  refine va_sld hx hb hX hbl hbA hw.1.2.2.1 (hin 2 (by omega)) dL_law_560 ?_
  refine l_contC hC hw (m_runV hC hw.1 (x := some x0) (ci := 14) (N := 11) (C := RX11) (T := TX11) (n := 2) (av := [.int (xs (nI (6 * j) + (1 : Int32)).toNatClampNeg), .int (xs (nI (6 * j) + (2 : Int32)).toNatClampNeg)]) (rest := []) (c_X11_where (G := G) (l := l) e1) gL_law_X11_where rfl (by decide +kernel) ⟨(Nat.le_of_ble_eq_true rfl), (Nat.le_of_ble_eq_true rfl)⟩ hro rfl rfl hl.1 rfl (Nat.le_of_ble_eq_true rfl) dL_law_561 ⟨(show cells + 0 ≤ 600000 by omega), (show slots + 0 ≤ 7302250 by omega)⟩) (fun H locs hw => ?_)
  refine lv_aload_n hx hb dL_law_564 rfl (lv_at hl 2 rfl) ?_
  refine lv_aload_n hx hb dL_law_565 rfl (lv_at hl 0 rfl) ?_
  refine lv_iload_n hx hb dL_law_566 rfl (lv_at hl 3 rfl) ?_
  refine lv_iconst (v := (1 : Int32)) hx hb dL_law_567 (by decide) ?_
  refine lv_iadd hx hb dL_law_568 ?_
  refine va_sld hx hb hX hbl hbA hw.1.2.2.1 (hin 1 (by omega)) dL_law_569 ?_
  refine lv_aload_n hx hb dL_law_570 rfl (lv_at hl 0 rfl) ?_
  refine lv_iload_n hx hb dL_law_571 rfl (lv_at hl 3 rfl) ?_
  refine lv_iconst (v := (2 : Int32)) hx hb dL_law_572 (by decide) ?_
  refine lv_iadd hx hb dL_law_573 ?_
  refine va_sld hx hb hX hbl hbA hw.1.2.2.1 (hin 2 (by omega)) dL_law_574 ?_
  refine l_contM hC hw (m_runV hC hw.2.1 (x := some m0) (ci := 15) (N := 51) (C := RX12) (T := TX12) (n := 2) (av := [.int (xs (nI (6 * j) + (1 : Int32)).toNatClampNeg), .int (xs (nI (6 * j) + (2 : Int32)).toNatClampNeg)]) (rest := [.int _]) (c_X12_where (G := G) (l := l) hw.2.2.1 e2) gL_law_X12_where rfl (by decide +kernel) ⟨(Nat.le_of_ble_eq_true rfl), (Nat.le_of_ble_eq_true rfl)⟩ (isO_Mm _ _ _) rfl rfl hl.1 rfl (Nat.le_of_ble_eq_true rfl) dL_law_575 ⟨(show cells + 0 + 0 ≤ 600000 by omega), (show slots + 0 + 0 ≤ 7302250 by omega)⟩) (fun H locs hw => ?_)
  refine lv_icmp_eq (tgt := 1223) hx hb dL_law_578 (by decide) (fun _ => ?_) (fun c => absurd rfl c)
  refine W.widen (k := cells + 94 + 0 * 136 + 0 * 110) (n := slots + 7265 + 0 * 39857 + 0 * 31184) (show cells + 0 + 0 ≤ _ by omega) (show slots + 0 + 0 ≤ _ by omega) ?_
  exact kk _ _ _ 0 0 _ _ _ hS1 hw hl
set_option maxHeartbeats 4000000 in
set_option maxRecDepth 100000 in
theorem law_free {p : Program} {l : Launch} {e : Env} {s : State} {m : MethodId} {args : Array Value} {below : List Frame} {meth : Method} {c : Code} {Q : State → Prop} {G : wG} {L : Mem} {x0 m0 b LL j : Nat} {xs : Nat → Int32} {Sim : SimT} (hC : Cx G p s m args meth c cL_law 4 RL wsL_law) (hX : va_X b LL xs s s.heap) (hbl : b < s.heap.size) (hbA : ¬ As G (fun _ => none) s.heap.size b) (hin : ∀ c : Nat, c < 6 → vp_in (nI (6 * j) + nI c) LL)
    (hst : St_free G L x0 Sim) {M : Mem} {u : MS} {sz nc nr : Nat} (hSim : Sim M u sz nc nr) (hro : isO M (some x0) 14 = true) {H : Heap} {locs : List Loc} {cells slots : Nat} (hcc : cells + 1000 ≤ 600000) (hcs : slots + 60000 ≤ 7302250) (hw : lD G s m0 L M u sz H locs) {ls : Array Slot} (hl : lv_has ls 4 [(0, .ref b), (1, .ref x0), (2, .ref m0), (3, .int (nI (6 * j)))])
    (kk : ∀ (M1 : Mem) (u1 : MS) (sz1 dc dr : Nat) (H1 : Heap) (locs1 : List Loc) (ls1 : Array Slot), Sim M1 u1 sz1 (nc + dc) (nr + dr) → lD G s m0 L M1 u1 sz1 H1 locs1 → lv_has ls1 4 [(0, .ref b), (1, .ref x0), (2, .ref m0), (3, .int (nI (6 * j)))] → W p l e room_1 s m args below meth c H1 locs1 (cells + 94 + dc * 136 + dr * 110) (slots + 7265 + dc * 39857 + dr * 31184) Q (F0 m 1223 ls1 [])) :
    W p l e room_1 s m args below meth c H locs cells slots Q (F0 m 583 ls []) := by
  have hx := hC.1
  have hb := hC.2.1
  obtain ⟨n, r, M1, u1, e1, e2, hS1⟩ := hst M u sz nc nr (xs (nI (6 * j) + (1 : Int32)).toNatClampNeg) (xs (nI (6 * j) + (2 : Int32)).toNatClampNeg) (xs (nI (6 * j) + (3 : Int32)).toNatClampNeg) hSim
  refine lv_aload_n hx hb dL_law_583 rfl (lv_at hl 1 rfl) ?_
  refine lv_aload_n hx hb dL_law_584 rfl (lv_at hl 0 rfl) ?_
  refine lv_iload_n hx hb dL_law_585 rfl (lv_at hl 3 rfl) ?_
  refine lv_iconst (v := (1 : Int32)) hx hb dL_law_586 (by decide) ?_
  refine lv_iadd hx hb dL_law_587 ?_
  refine va_sld hx hb hX hbl hbA hw.1.2.2.1 (hin 1 (by omega)) dL_law_588 ?_
  refine lv_aload_n hx hb dL_law_589 rfl (lv_at hl 0 rfl) ?_
  refine lv_iload_n hx hb dL_law_590 rfl (lv_at hl 3 rfl) ?_
  refine lv_iconst (v := (2 : Int32)) hx hb dL_law_591 (by decide) ?_
  refine lv_iadd hx hb dL_law_592 ?_
  refine va_sld hx hb hX hbl hbA hw.1.2.2.1 (hin 2 (by omega)) dL_law_593 ?_
  refine lv_aload_n hx hb dL_law_594 rfl (lv_at hl 0 rfl) ?_
  refine lv_iload_n hx hb dL_law_595 rfl (lv_at hl 3 rfl) ?_
  refine lv_iconst (v := (3 : Int32)) hx hb dL_law_596 (by decide) ?_
  refine lv_iadd hx hb dL_law_597 ?_
  refine va_sld hx hb hX hbl hbA hw.1.2.2.1 (hin 3 (by omega)) dL_law_598 ?_
  refine l_contC hC hw (m_runV hC hw.1 (x := some x0) (ci := 14) (N := 11) (C := RX11) (T := TX11) (n := 3) (av := [.int (xs (nI (6 * j) + (1 : Int32)).toNatClampNeg), .int (xs (nI (6 * j) + (2 : Int32)).toNatClampNeg), .int (xs (nI (6 * j) + (3 : Int32)).toNatClampNeg)]) (rest := []) (c_X11_free (G := G) (l := l) e1) gL_law_X11_free rfl (by decide +kernel) ⟨(Nat.le_of_ble_eq_true rfl), (Nat.le_of_ble_eq_true rfl)⟩ hro rfl rfl hl.1 rfl (Nat.le_of_ble_eq_true rfl) dL_law_599 ⟨(show cells + 0 ≤ 600000 by omega), (show slots + 0 ≤ 7302250 by omega)⟩) (fun H locs hw => ?_)
  refine lv_aload_n hx hb dL_law_602 rfl (lv_at hl 2 rfl) ?_
  refine lv_aload_n hx hb dL_law_603 rfl (lv_at hl 0 rfl) ?_
  refine lv_iload_n hx hb dL_law_604 rfl (lv_at hl 3 rfl) ?_
  refine lv_iconst (v := (1 : Int32)) hx hb dL_law_605 (by decide) ?_
  refine lv_iadd hx hb dL_law_606 ?_
  refine va_sld hx hb hX hbl hbA hw.1.2.2.1 (hin 1 (by omega)) dL_law_607 ?_
  refine lv_aload_n hx hb dL_law_608 rfl (lv_at hl 0 rfl) ?_
  refine lv_iload_n hx hb dL_law_609 rfl (lv_at hl 3 rfl) ?_
  refine lv_iconst (v := (2 : Int32)) hx hb dL_law_610 (by decide) ?_
  refine lv_iadd hx hb dL_law_611 ?_
  refine va_sld hx hb hX hbl hbA hw.1.2.2.1 (hin 2 (by omega)) dL_law_612 ?_
  refine lv_aload_n hx hb dL_law_613 rfl (lv_at hl 0 rfl) ?_
  refine lv_iload_n hx hb dL_law_614 rfl (lv_at hl 3 rfl) ?_
  refine lv_iconst (v := (3 : Int32)) hx hb dL_law_615 (by decide) ?_
  refine lv_iadd hx hb dL_law_616 ?_
  refine va_sld hx hb hX hbl hbA hw.1.2.2.1 (hin 3 (by omega)) dL_law_617 ?_
  refine l_contM hC hw (m_runV hC hw.2.1 (x := some m0) (ci := 15) (N := 51) (C := RX12) (T := TX12) (n := 3) (av := [.int (xs (nI (6 * j) + (1 : Int32)).toNatClampNeg), .int (xs (nI (6 * j) + (2 : Int32)).toNatClampNeg), .int (xs (nI (6 * j) + (3 : Int32)).toNatClampNeg)]) (rest := [.int _]) (c_X12_free (G := G) (l := l) hw.2.2.1 e2) gL_law_X12_free rfl (by decide +kernel) ⟨(Nat.le_of_ble_eq_true rfl), (Nat.le_of_ble_eq_true rfl)⟩ (isO_Mm _ _ _) rfl rfl hl.1 rfl (Nat.le_of_ble_eq_true rfl) dL_law_618 ⟨(show cells + 0 + 0 ≤ 600000 by omega), (show slots + 0 + 0 ≤ 7302250 by omega)⟩) (fun H locs hw => ?_)
  refine lv_icmp_eq (tgt := 1223) hx hb dL_law_621 (by decide) (fun _ => ?_) (fun c => absurd rfl c)
  refine W.widen (k := cells + 94 + 0 * 136 + 0 * 110) (n := slots + 7265 + 0 * 39857 + 0 * 31184) (show cells + 0 + 0 ≤ _ by omega) (show slots + 0 + 0 ≤ _ by omega) ?_
  exact kk _ _ _ 0 0 _ _ _ hS1 hw hl
set_option maxHeartbeats 4000000 in
set_option maxRecDepth 100000 in
theorem law_stage {p : Program} {l : Launch} {e : Env} {s : State} {m : MethodId} {args : Array Value} {below : List Frame} {meth : Method} {c : Code} {Q : State → Prop} {G : wG} {L : Mem} {x0 m0 b LL j : Nat} {xs : Nat → Int32} {Sim : SimT} (hC : Cx G p s m args meth c cL_law 4 RL wsL_law) (hX : va_X b LL xs s s.heap) (hbl : b < s.heap.size) (hbA : ¬ As G (fun _ => none) s.heap.size b) (hin : ∀ c : Nat, c < 6 → vp_in (nI (6 * j) + nI c) LL)
    (hst : St_stage G L x0 Sim) {M : Mem} {u : MS} {sz nc nr : Nat} (hSim : Sim M u sz nc nr) (hro : isO M (some x0) 14 = true) {H : Heap} {locs : List Loc} {cells slots : Nat} (hcc : cells + 1000 ≤ 600000) (hcs : slots + 60000 ≤ 7302250) (hw : lD G s m0 L M u sz H locs) {ls : Array Slot} (hl : lv_has ls 4 [(0, .ref b), (1, .ref x0), (2, .ref m0), (3, .int (nI (6 * j)))])
    (kk : ∀ (M1 : Mem) (u1 : MS) (sz1 dc dr : Nat) (H1 : Heap) (locs1 : List Loc) (ls1 : Array Slot), Sim M1 u1 sz1 (nc + dc) (nr + dr) → lD G s m0 L M1 u1 sz1 H1 locs1 → lv_has ls1 4 [(0, .ref b), (1, .ref x0), (2, .ref m0), (3, .int (nI (6 * j)))] → W p l e room_1 s m args below meth c H1 locs1 (cells + 94 + dc * 136 + dr * 110) (slots + 7265 + dc * 39857 + dr * 31184) Q (F0 m 1223 ls1 [])) :
    W p l e room_1 s m args below meth c H locs cells slots Q (F0 m 626 ls []) := by
  have hx := hC.1
  have hb := hC.2.1
  obtain ⟨n, r, M1, u1, e1, e2, hS1⟩ := hst M u sz nc nr (xs (nI (6 * j) + (1 : Int32)).toNatClampNeg) (xs (nI (6 * j) + (2 : Int32)).toNatClampNeg) hSim
  refine lv_aload_n hx hb dL_law_626 rfl (lv_at hl 1 rfl) ?_
  refine lv_aload_n hx hb dL_law_627 rfl (lv_at hl 0 rfl) ?_
  refine lv_iload_n hx hb dL_law_628 rfl (lv_at hl 3 rfl) ?_
  refine lv_iconst (v := (1 : Int32)) hx hb dL_law_629 (by decide) ?_
  refine lv_iadd hx hb dL_law_630 ?_
  refine va_sld hx hb hX hbl hbA hw.1.2.2.1 (hin 1 (by omega)) dL_law_631 ?_
  refine lv_aload_n hx hb dL_law_632 rfl (lv_at hl 0 rfl) ?_
  refine lv_iload_n hx hb dL_law_633 rfl (lv_at hl 3 rfl) ?_
  refine lv_iconst (v := (2 : Int32)) hx hb dL_law_634 (by decide) ?_
  refine lv_iadd hx hb dL_law_635 ?_
  refine va_sld hx hb hX hbl hbA hw.1.2.2.1 (hin 2 (by omega)) dL_law_636 ?_
  refine l_contC hC hw (m_runV hC hw.1 (x := some x0) (ci := 14) (N := 11) (C := RX11) (T := TX11) (n := 2) (av := [.int (xs (nI (6 * j) + (1 : Int32)).toNatClampNeg), .int (xs (nI (6 * j) + (2 : Int32)).toNatClampNeg)]) (rest := []) (c_X11_stage (G := G) (l := l) e1) gL_law_X11_stage rfl (by decide +kernel) ⟨(Nat.le_of_ble_eq_true rfl), (Nat.le_of_ble_eq_true rfl)⟩ hro rfl rfl hl.1 rfl (Nat.le_of_ble_eq_true rfl) dL_law_637 ⟨(show cells + 0 ≤ 600000 by omega), (show slots + 0 ≤ 7302250 by omega)⟩) (fun H locs hw => ?_)
  refine lv_aload_n hx hb dL_law_640 rfl (lv_at hl 2 rfl) ?_
  refine lv_aload_n hx hb dL_law_641 rfl (lv_at hl 0 rfl) ?_
  refine lv_iload_n hx hb dL_law_642 rfl (lv_at hl 3 rfl) ?_
  refine lv_iconst (v := (1 : Int32)) hx hb dL_law_643 (by decide) ?_
  refine lv_iadd hx hb dL_law_644 ?_
  refine va_sld hx hb hX hbl hbA hw.1.2.2.1 (hin 1 (by omega)) dL_law_645 ?_
  refine lv_aload_n hx hb dL_law_646 rfl (lv_at hl 0 rfl) ?_
  refine lv_iload_n hx hb dL_law_647 rfl (lv_at hl 3 rfl) ?_
  refine lv_iconst (v := (2 : Int32)) hx hb dL_law_648 (by decide) ?_
  refine lv_iadd hx hb dL_law_649 ?_
  refine va_sld hx hb hX hbl hbA hw.1.2.2.1 (hin 2 (by omega)) dL_law_650 ?_
  refine l_contM hC hw (m_runV hC hw.2.1 (x := some m0) (ci := 15) (N := 51) (C := RX12) (T := TX12) (n := 2) (av := [.int (xs (nI (6 * j) + (1 : Int32)).toNatClampNeg), .int (xs (nI (6 * j) + (2 : Int32)).toNatClampNeg)]) (rest := [.int _]) (c_X12_stage (G := G) (l := l) hw.2.2.1 e2) gL_law_X12_stage rfl (by decide +kernel) ⟨(Nat.le_of_ble_eq_true rfl), (Nat.le_of_ble_eq_true rfl)⟩ (isO_Mm _ _ _) rfl rfl hl.1 rfl (Nat.le_of_ble_eq_true rfl) dL_law_651 ⟨(show cells + 0 + 0 ≤ 600000 by omega), (show slots + 0 + 0 ≤ 7302250 by omega)⟩) (fun H locs hw => ?_)
  refine lv_icmp_eq (tgt := 1223) hx hb dL_law_654 (by decide) (fun _ => ?_) (fun c => absurd rfl c)
  refine W.widen (k := cells + 94 + 0 * 136 + 0 * 110) (n := slots + 7265 + 0 * 39857 + 0 * 31184) (show cells + 0 + 0 ≤ _ by omega) (show slots + 0 + 0 ≤ _ by omega) ?_
  exact kk _ _ _ 0 0 _ _ _ hS1 hw hl
set_option maxHeartbeats 4000000 in
set_option maxRecDepth 100000 in
theorem law_parcels {p : Program} {l : Launch} {e : Env} {s : State} {m : MethodId} {args : Array Value} {below : List Frame} {meth : Method} {c : Code} {Q : State → Prop} {G : wG} {L : Mem} {x0 m0 b LL j : Nat} {xs : Nat → Int32} {Sim : SimT} (hC : Cx G p s m args meth c cL_law 4 RL wsL_law) (hX : va_X b LL xs s s.heap) (hbl : b < s.heap.size) (hbA : ¬ As G (fun _ => none) s.heap.size b) (hin : ∀ c : Nat, c < 6 → vp_in (nI (6 * j) + nI c) LL)
    (hst : St_parcels G L x0 Sim) {M : Mem} {u : MS} {sz nc nr : Nat} (hSim : Sim M u sz nc nr) (hro : isO M (some x0) 14 = true) {H : Heap} {locs : List Loc} {cells slots : Nat} (hcc : cells + 1000 ≤ 600000) (hcs : slots + 60000 ≤ 7302250) (hw : lD G s m0 L M u sz H locs) {ls : Array Slot} (hl : lv_has ls 4 [(0, .ref b), (1, .ref x0), (2, .ref m0), (3, .int (nI (6 * j)))])
    (kk : ∀ (M1 : Mem) (u1 : MS) (sz1 dc dr : Nat) (H1 : Heap) (locs1 : List Loc) (ls1 : Array Slot), Sim M1 u1 sz1 (nc + dc) (nr + dr) → lD G s m0 L M1 u1 sz1 H1 locs1 → lv_has ls1 4 [(0, .ref b), (1, .ref x0), (2, .ref m0), (3, .int (nI (6 * j)))] → W p l e room_1 s m args below meth c H1 locs1 (cells + 94 + dc * 136 + dr * 110) (slots + 7265 + dc * 39857 + dr * 31184) Q (F0 m 1223 ls1 [])) :
    W p l e room_1 s m args below meth c H locs cells slots Q (F0 m 659 ls []) := by
  have hx := hC.1
  have hb := hC.2.1
  obtain ⟨n, r, M1, u1, e1, e2, hS1⟩ := hst M u sz nc nr (xs (nI (6 * j) + (1 : Int32)).toNatClampNeg) hSim
  refine lv_aload_n hx hb dL_law_659 rfl (lv_at hl 1 rfl) ?_
  refine lv_aload_n hx hb dL_law_660 rfl (lv_at hl 0 rfl) ?_
  refine lv_iload_n hx hb dL_law_661 rfl (lv_at hl 3 rfl) ?_
  refine lv_iconst (v := (1 : Int32)) hx hb dL_law_662 (by decide) ?_
  refine lv_iadd hx hb dL_law_663 ?_
  refine va_sld hx hb hX hbl hbA hw.1.2.2.1 (hin 1 (by omega)) dL_law_664 ?_
  refine l_contC hC hw (m_runV hC hw.1 (x := some x0) (ci := 14) (N := 11) (C := RX11) (T := TX11) (n := 1) (av := [.int (xs (nI (6 * j) + (1 : Int32)).toNatClampNeg)]) (rest := []) (c_X11_parcels (G := G) (l := l) e1) gL_law_X11_parcels rfl (by decide +kernel) ⟨(Nat.le_of_ble_eq_true rfl), (Nat.le_of_ble_eq_true rfl)⟩ hro rfl rfl hl.1 rfl (Nat.le_of_ble_eq_true rfl) dL_law_665 ⟨(show cells + 0 ≤ 600000 by omega), (show slots + 0 ≤ 7302250 by omega)⟩) (fun H locs hw => ?_)
  refine lv_aload_n hx hb dL_law_668 rfl (lv_at hl 2 rfl) ?_
  refine lv_aload_n hx hb dL_law_669 rfl (lv_at hl 0 rfl) ?_
  refine lv_iload_n hx hb dL_law_670 rfl (lv_at hl 3 rfl) ?_
  refine lv_iconst (v := (1 : Int32)) hx hb dL_law_671 (by decide) ?_
  refine lv_iadd hx hb dL_law_672 ?_
  refine va_sld hx hb hX hbl hbA hw.1.2.2.1 (hin 1 (by omega)) dL_law_673 ?_
  refine l_contM hC hw (m_runV hC hw.2.1 (x := some m0) (ci := 15) (N := 51) (C := RX12) (T := TX12) (n := 1) (av := [.int (xs (nI (6 * j) + (1 : Int32)).toNatClampNeg)]) (rest := [.int _]) (c_X12_parcels (G := G) (l := l) hw.2.2.1 e2) gL_law_X12_parcels rfl (by decide +kernel) ⟨(Nat.le_of_ble_eq_true rfl), (Nat.le_of_ble_eq_true rfl)⟩ (isO_Mm _ _ _) rfl rfl hl.1 rfl (Nat.le_of_ble_eq_true rfl) dL_law_674 ⟨(show cells + 0 + 0 ≤ 600000 by omega), (show slots + 0 + 0 ≤ 7302250 by omega)⟩) (fun H locs hw => ?_)
  refine lv_icmp_eq (tgt := 1223) hx hb dL_law_677 (by decide) (fun _ => ?_) (fun c => absurd rfl c)
  refine W.widen (k := cells + 94 + 0 * 136 + 0 * 110) (n := slots + 7265 + 0 * 39857 + 0 * 31184) (show cells + 0 + 0 ≤ _ by omega) (show slots + 0 + 0 ≤ _ by omega) ?_
  exact kk _ _ _ 0 0 _ _ _ hS1 hw hl
set_option maxHeartbeats 4000000 in
set_option maxRecDepth 100000 in
theorem law_parcel {p : Program} {l : Launch} {e : Env} {s : State} {m : MethodId} {args : Array Value} {below : List Frame} {meth : Method} {c : Code} {Q : State → Prop} {G : wG} {L : Mem} {x0 m0 b LL j : Nat} {xs : Nat → Int32} {Sim : SimT} (hC : Cx G p s m args meth c cL_law 4 RL wsL_law) (hX : va_X b LL xs s s.heap) (hbl : b < s.heap.size) (hbA : ¬ As G (fun _ => none) s.heap.size b) (hin : ∀ c : Nat, c < 6 → vp_in (nI (6 * j) + nI c) LL)
    (hst : St_parcel G L x0 Sim) {M : Mem} {u : MS} {sz nc nr : Nat} (hSim : Sim M u sz nc nr) (hro : isO M (some x0) 14 = true) {H : Heap} {locs : List Loc} {cells slots : Nat} (hcc : cells + 1000 ≤ 600000) (hcs : slots + 60000 ≤ 7302250) (hw : lD G s m0 L M u sz H locs) {ls : Array Slot} (hl : lv_has ls 4 [(0, .ref b), (1, .ref x0), (2, .ref m0), (3, .int (nI (6 * j)))])
    (kk : ∀ (M1 : Mem) (u1 : MS) (sz1 dc dr : Nat) (H1 : Heap) (locs1 : List Loc) (ls1 : Array Slot), Sim M1 u1 sz1 (nc + dc) (nr + dr) → lD G s m0 L M1 u1 sz1 H1 locs1 → lv_has ls1 4 [(0, .ref b), (1, .ref x0), (2, .ref m0), (3, .int (nI (6 * j)))] → W p l e room_1 s m args below meth c H1 locs1 (cells + 94 + dc * 136 + dr * 110) (slots + 7265 + dc * 39857 + dr * 31184) Q (F0 m 1223 ls1 [])) :
    W p l e room_1 s m args below meth c H locs cells slots Q (F0 m 682 ls []) := by
  have hx := hC.1
  have hb := hC.2.1
  obtain ⟨n, r, M1, u1, e1, e2, hS1⟩ := hst M u sz nc nr (xs (nI (6 * j) + (1 : Int32)).toNatClampNeg) (xs (nI (6 * j) + (2 : Int32)).toNatClampNeg) hSim
  refine lv_aload_n hx hb dL_law_682 rfl (lv_at hl 1 rfl) ?_
  refine lv_aload_n hx hb dL_law_683 rfl (lv_at hl 0 rfl) ?_
  refine lv_iload_n hx hb dL_law_684 rfl (lv_at hl 3 rfl) ?_
  refine lv_iconst (v := (1 : Int32)) hx hb dL_law_685 (by decide) ?_
  refine lv_iadd hx hb dL_law_686 ?_
  refine va_sld hx hb hX hbl hbA hw.1.2.2.1 (hin 1 (by omega)) dL_law_687 ?_
  refine lv_aload_n hx hb dL_law_688 rfl (lv_at hl 0 rfl) ?_
  refine lv_iload_n hx hb dL_law_689 rfl (lv_at hl 3 rfl) ?_
  refine lv_iconst (v := (2 : Int32)) hx hb dL_law_690 (by decide) ?_
  refine lv_iadd hx hb dL_law_691 ?_
  refine va_sld hx hb hX hbl hbA hw.1.2.2.1 (hin 2 (by omega)) dL_law_692 ?_
  refine l_contC hC hw (m_runV hC hw.1 (x := some x0) (ci := 14) (N := 11) (C := RX11) (T := TX11) (n := 2) (av := [.int (xs (nI (6 * j) + (1 : Int32)).toNatClampNeg), .int (xs (nI (6 * j) + (2 : Int32)).toNatClampNeg)]) (rest := []) (c_X11_parcel (G := G) (l := l) e1) gL_law_X11_parcel rfl (by decide +kernel) ⟨(Nat.le_of_ble_eq_true rfl), (Nat.le_of_ble_eq_true rfl)⟩ hro rfl rfl hl.1 rfl (Nat.le_of_ble_eq_true rfl) dL_law_693 ⟨(show cells + 0 ≤ 600000 by omega), (show slots + 0 ≤ 7302250 by omega)⟩) (fun H locs hw => ?_)
  refine lv_aload_n hx hb dL_law_696 rfl (lv_at hl 2 rfl) ?_
  refine lv_aload_n hx hb dL_law_697 rfl (lv_at hl 0 rfl) ?_
  refine lv_iload_n hx hb dL_law_698 rfl (lv_at hl 3 rfl) ?_
  refine lv_iconst (v := (1 : Int32)) hx hb dL_law_699 (by decide) ?_
  refine lv_iadd hx hb dL_law_700 ?_
  refine va_sld hx hb hX hbl hbA hw.1.2.2.1 (hin 1 (by omega)) dL_law_701 ?_
  refine lv_aload_n hx hb dL_law_702 rfl (lv_at hl 0 rfl) ?_
  refine lv_iload_n hx hb dL_law_703 rfl (lv_at hl 3 rfl) ?_
  refine lv_iconst (v := (2 : Int32)) hx hb dL_law_704 (by decide) ?_
  refine lv_iadd hx hb dL_law_705 ?_
  refine va_sld hx hb hX hbl hbA hw.1.2.2.1 (hin 2 (by omega)) dL_law_706 ?_
  refine l_contM hC hw (m_runV hC hw.2.1 (x := some m0) (ci := 15) (N := 51) (C := RX12) (T := TX12) (n := 2) (av := [.int (xs (nI (6 * j) + (1 : Int32)).toNatClampNeg), .int (xs (nI (6 * j) + (2 : Int32)).toNatClampNeg)]) (rest := [.int _]) (c_X12_parcel (G := G) (l := l) hw.2.2.1 e2) gL_law_X12_parcel rfl (by decide +kernel) ⟨(Nat.le_of_ble_eq_true rfl), (Nat.le_of_ble_eq_true rfl)⟩ (isO_Mm _ _ _) rfl rfl hl.1 rfl (Nat.le_of_ble_eq_true rfl) dL_law_707 ⟨(show cells + 0 + 0 ≤ 600000 by omega), (show slots + 0 + 0 ≤ 7302250 by omega)⟩) (fun H locs hw => ?_)
  refine lv_icmp_eq (tgt := 1223) hx hb dL_law_710 (by decide) (fun _ => ?_) (fun c => absurd rfl c)
  refine W.widen (k := cells + 94 + 0 * 136 + 0 * 110) (n := slots + 7265 + 0 * 39857 + 0 * 31184) (show cells + 0 + 0 ≤ _ by omega) (show slots + 0 + 0 ≤ _ by omega) ?_
  exact kk _ _ _ 0 0 _ _ _ hS1 hw hl
set_option maxHeartbeats 4000000 in
set_option maxRecDepth 100000 in
theorem law_weight {p : Program} {l : Launch} {e : Env} {s : State} {m : MethodId} {args : Array Value} {below : List Frame} {meth : Method} {c : Code} {Q : State → Prop} {G : wG} {L : Mem} {x0 m0 b LL j : Nat} {xs : Nat → Int32} {Sim : SimT} (hC : Cx G p s m args meth c cL_law 4 RL wsL_law) (hX : va_X b LL xs s s.heap) (hbl : b < s.heap.size) (hbA : ¬ As G (fun _ => none) s.heap.size b) (hin : ∀ c : Nat, c < 6 → vp_in (nI (6 * j) + nI c) LL)
    (hst : St_weight G L x0 Sim) {M : Mem} {u : MS} {sz nc nr : Nat} (hSim : Sim M u sz nc nr) (hro : isO M (some x0) 14 = true) {H : Heap} {locs : List Loc} {cells slots : Nat} (hcc : cells + 1000 ≤ 600000) (hcs : slots + 60000 ≤ 7302250) (hw : lD G s m0 L M u sz H locs) {ls : Array Slot} (hl : lv_has ls 4 [(0, .ref b), (1, .ref x0), (2, .ref m0), (3, .int (nI (6 * j)))])
    (kk : ∀ (M1 : Mem) (u1 : MS) (sz1 dc dr : Nat) (H1 : Heap) (locs1 : List Loc) (ls1 : Array Slot), Sim M1 u1 sz1 (nc + dc) (nr + dr) → lD G s m0 L M1 u1 sz1 H1 locs1 → lv_has ls1 4 [(0, .ref b), (1, .ref x0), (2, .ref m0), (3, .int (nI (6 * j)))] → W p l e room_1 s m args below meth c H1 locs1 (cells + 94 + dc * 136 + dr * 110) (slots + 7265 + dc * 39857 + dr * 31184) Q (F0 m 1223 ls1 [])) :
    W p l e room_1 s m args below meth c H locs cells slots Q (F0 m 715 ls []) := by
  have hx := hC.1
  have hb := hC.2.1
  obtain ⟨n, r, M1, u1, e1, e2, hS1⟩ := hst M u sz nc nr (xs (nI (6 * j) + (1 : Int32)).toNatClampNeg) (xs (nI (6 * j) + (2 : Int32)).toNatClampNeg) hSim
  refine lv_aload_n hx hb dL_law_715 rfl (lv_at hl 1 rfl) ?_
  refine lv_aload_n hx hb dL_law_716 rfl (lv_at hl 0 rfl) ?_
  refine lv_iload_n hx hb dL_law_717 rfl (lv_at hl 3 rfl) ?_
  refine lv_iconst (v := (1 : Int32)) hx hb dL_law_718 (by decide) ?_
  refine lv_iadd hx hb dL_law_719 ?_
  refine va_sld hx hb hX hbl hbA hw.1.2.2.1 (hin 1 (by omega)) dL_law_720 ?_
  refine lv_aload_n hx hb dL_law_721 rfl (lv_at hl 0 rfl) ?_
  refine lv_iload_n hx hb dL_law_722 rfl (lv_at hl 3 rfl) ?_
  refine lv_iconst (v := (2 : Int32)) hx hb dL_law_723 (by decide) ?_
  refine lv_iadd hx hb dL_law_724 ?_
  refine va_sld hx hb hX hbl hbA hw.1.2.2.1 (hin 2 (by omega)) dL_law_725 ?_
  refine l_contC hC hw (m_runV hC hw.1 (x := some x0) (ci := 14) (N := 11) (C := RX11) (T := TX11) (n := 2) (av := [.int (xs (nI (6 * j) + (1 : Int32)).toNatClampNeg), .int (xs (nI (6 * j) + (2 : Int32)).toNatClampNeg)]) (rest := []) (c_X11_weight (G := G) (l := l) e1) gL_law_X11_weight rfl (by decide +kernel) ⟨(Nat.le_of_ble_eq_true rfl), (Nat.le_of_ble_eq_true rfl)⟩ hro rfl rfl hl.1 rfl (Nat.le_of_ble_eq_true rfl) dL_law_726 ⟨(show cells + 0 ≤ 600000 by omega), (show slots + 0 ≤ 7302250 by omega)⟩) (fun H locs hw => ?_)
  refine lv_aload_n hx hb dL_law_729 rfl (lv_at hl 2 rfl) ?_
  refine lv_aload_n hx hb dL_law_730 rfl (lv_at hl 0 rfl) ?_
  refine lv_iload_n hx hb dL_law_731 rfl (lv_at hl 3 rfl) ?_
  refine lv_iconst (v := (1 : Int32)) hx hb dL_law_732 (by decide) ?_
  refine lv_iadd hx hb dL_law_733 ?_
  refine va_sld hx hb hX hbl hbA hw.1.2.2.1 (hin 1 (by omega)) dL_law_734 ?_
  refine lv_aload_n hx hb dL_law_735 rfl (lv_at hl 0 rfl) ?_
  refine lv_iload_n hx hb dL_law_736 rfl (lv_at hl 3 rfl) ?_
  refine lv_iconst (v := (2 : Int32)) hx hb dL_law_737 (by decide) ?_
  refine lv_iadd hx hb dL_law_738 ?_
  refine va_sld hx hb hX hbl hbA hw.1.2.2.1 (hin 2 (by omega)) dL_law_739 ?_
  refine l_contM hC hw (m_runV hC hw.2.1 (x := some m0) (ci := 15) (N := 51) (C := RX12) (T := TX12) (n := 2) (av := [.int (xs (nI (6 * j) + (1 : Int32)).toNatClampNeg), .int (xs (nI (6 * j) + (2 : Int32)).toNatClampNeg)]) (rest := [.int _]) (c_X12_weight (G := G) (l := l) hw.2.2.1 e2) gL_law_X12_weight rfl (by decide +kernel) ⟨(Nat.le_of_ble_eq_true rfl), (Nat.le_of_ble_eq_true rfl)⟩ (isO_Mm _ _ _) rfl rfl hl.1 rfl (Nat.le_of_ble_eq_true rfl) dL_law_740 ⟨(show cells + 0 + 0 ≤ 600000 by omega), (show slots + 0 + 0 ≤ 7302250 by omega)⟩) (fun H locs hw => ?_)
  refine lv_icmp_eq (tgt := 1223) hx hb dL_law_743 (by decide) (fun _ => ?_) (fun c => absurd rfl c)
  refine W.widen (k := cells + 94 + 0 * 136 + 0 * 110) (n := slots + 7265 + 0 * 39857 + 0 * 31184) (show cells + 0 + 0 ≤ _ by omega) (show slots + 0 + 0 ≤ _ by omega) ?_
  exact kk _ _ _ 0 0 _ _ _ hS1 hw hl
set_option maxHeartbeats 4000000 in
set_option maxRecDepth 100000 in
theorem law_guard {p : Program} {l : Launch} {e : Env} {s : State} {m : MethodId} {args : Array Value} {below : List Frame} {meth : Method} {c : Code} {Q : State → Prop} {G : wG} {L : Mem} {x0 m0 b LL j : Nat} {xs : Nat → Int32} {Sim : SimT} (hC : Cx G p s m args meth c cL_law 4 RL wsL_law) (hX : va_X b LL xs s s.heap) (hbl : b < s.heap.size) (hbA : ¬ As G (fun _ => none) s.heap.size b) (hin : ∀ c : Nat, c < 6 → vp_in (nI (6 * j) + nI c) LL)
    (hst : St_guard G L x0 Sim) {M : Mem} {u : MS} {sz nc nr : Nat} (hSim : Sim M u sz nc nr) (hro : isO M (some x0) 14 = true) {H : Heap} {locs : List Loc} {cells slots : Nat} (hcc : cells + 1000 ≤ 600000) (hcs : slots + 60000 ≤ 7302250) (hw : lD G s m0 L M u sz H locs) {ls : Array Slot} (hl : lv_has ls 4 [(0, .ref b), (1, .ref x0), (2, .ref m0), (3, .int (nI (6 * j)))])
    (kk : ∀ (M1 : Mem) (u1 : MS) (sz1 dc dr : Nat) (H1 : Heap) (locs1 : List Loc) (ls1 : Array Slot), Sim M1 u1 sz1 (nc + dc) (nr + dr) → lD G s m0 L M1 u1 sz1 H1 locs1 → lv_has ls1 4 [(0, .ref b), (1, .ref x0), (2, .ref m0), (3, .int (nI (6 * j)))] → W p l e room_1 s m args below meth c H1 locs1 (cells + 94 + dc * 136 + dr * 110) (slots + 7265 + dc * 39857 + dr * 31184) Q (F0 m 1223 ls1 [])) :
    W p l e room_1 s m args below meth c H locs cells slots Q (F0 m 748 ls []) := by
  have hx := hC.1
  have hb := hC.2.1
  obtain ⟨n, r, M1, u1, e1, e2, hS1⟩ := hst M u sz nc nr (xs (nI (6 * j) + (1 : Int32)).toNatClampNeg) (xs (nI (6 * j) + (2 : Int32)).toNatClampNeg) (xs (nI (6 * j) + (3 : Int32)).toNatClampNeg) hSim
  refine lv_aload_n hx hb dL_law_748 rfl (lv_at hl 1 rfl) ?_
  refine lv_aload_n hx hb dL_law_749 rfl (lv_at hl 0 rfl) ?_
  refine lv_iload_n hx hb dL_law_750 rfl (lv_at hl 3 rfl) ?_
  refine lv_iconst (v := (1 : Int32)) hx hb dL_law_751 (by decide) ?_
  refine lv_iadd hx hb dL_law_752 ?_
  refine va_sld hx hb hX hbl hbA hw.1.2.2.1 (hin 1 (by omega)) dL_law_753 ?_
  refine lv_aload_n hx hb dL_law_754 rfl (lv_at hl 0 rfl) ?_
  refine lv_iload_n hx hb dL_law_755 rfl (lv_at hl 3 rfl) ?_
  refine lv_iconst (v := (2 : Int32)) hx hb dL_law_756 (by decide) ?_
  refine lv_iadd hx hb dL_law_757 ?_
  refine va_sld hx hb hX hbl hbA hw.1.2.2.1 (hin 2 (by omega)) dL_law_758 ?_
  refine lv_aload_n hx hb dL_law_759 rfl (lv_at hl 0 rfl) ?_
  refine lv_iload_n hx hb dL_law_760 rfl (lv_at hl 3 rfl) ?_
  refine lv_iconst (v := (3 : Int32)) hx hb dL_law_761 (by decide) ?_
  refine lv_iadd hx hb dL_law_762 ?_
  refine va_sld hx hb hX hbl hbA hw.1.2.2.1 (hin 3 (by omega)) dL_law_763 ?_
  refine l_contC hC hw (m_runV hC hw.1 (x := some x0) (ci := 14) (N := 11) (C := RX11) (T := TX11) (n := 3) (av := [.int (xs (nI (6 * j) + (1 : Int32)).toNatClampNeg), .int (xs (nI (6 * j) + (2 : Int32)).toNatClampNeg), .int (xs (nI (6 * j) + (3 : Int32)).toNatClampNeg)]) (rest := []) (c_X11_guard (G := G) (l := l) e1) gL_law_X11_guard rfl (by decide +kernel) ⟨(Nat.le_of_ble_eq_true rfl), (Nat.le_of_ble_eq_true rfl)⟩ hro rfl rfl hl.1 rfl (Nat.le_of_ble_eq_true rfl) dL_law_764 ⟨(show cells + 0 ≤ 600000 by omega), (show slots + 0 ≤ 7302250 by omega)⟩) (fun H locs hw => ?_)
  refine lv_aload_n hx hb dL_law_767 rfl (lv_at hl 2 rfl) ?_
  refine lv_aload_n hx hb dL_law_768 rfl (lv_at hl 0 rfl) ?_
  refine lv_iload_n hx hb dL_law_769 rfl (lv_at hl 3 rfl) ?_
  refine lv_iconst (v := (1 : Int32)) hx hb dL_law_770 (by decide) ?_
  refine lv_iadd hx hb dL_law_771 ?_
  refine va_sld hx hb hX hbl hbA hw.1.2.2.1 (hin 1 (by omega)) dL_law_772 ?_
  refine lv_aload_n hx hb dL_law_773 rfl (lv_at hl 0 rfl) ?_
  refine lv_iload_n hx hb dL_law_774 rfl (lv_at hl 3 rfl) ?_
  refine lv_iconst (v := (2 : Int32)) hx hb dL_law_775 (by decide) ?_
  refine lv_iadd hx hb dL_law_776 ?_
  refine va_sld hx hb hX hbl hbA hw.1.2.2.1 (hin 2 (by omega)) dL_law_777 ?_
  refine lv_aload_n hx hb dL_law_778 rfl (lv_at hl 0 rfl) ?_
  refine lv_iload_n hx hb dL_law_779 rfl (lv_at hl 3 rfl) ?_
  refine lv_iconst (v := (3 : Int32)) hx hb dL_law_780 (by decide) ?_
  refine lv_iadd hx hb dL_law_781 ?_
  refine va_sld hx hb hX hbl hbA hw.1.2.2.1 (hin 3 (by omega)) dL_law_782 ?_
  refine l_contM hC hw (m_runV hC hw.2.1 (x := some m0) (ci := 15) (N := 51) (C := RX12) (T := TX12) (n := 3) (av := [.int (xs (nI (6 * j) + (1 : Int32)).toNatClampNeg), .int (xs (nI (6 * j) + (2 : Int32)).toNatClampNeg), .int (xs (nI (6 * j) + (3 : Int32)).toNatClampNeg)]) (rest := [.int _]) (c_X12_guard (G := G) (l := l) hw.2.2.1 e2) gL_law_X12_guard rfl (by decide +kernel) ⟨(Nat.le_of_ble_eq_true rfl), (Nat.le_of_ble_eq_true rfl)⟩ (isO_Mm _ _ _) rfl rfl hl.1 rfl (Nat.le_of_ble_eq_true rfl) dL_law_783 ⟨(show cells + 0 + 0 ≤ 600000 by omega), (show slots + 0 + 0 ≤ 7302250 by omega)⟩) (fun H locs hw => ?_)
  refine lv_icmp_eq (tgt := 1223) hx hb dL_law_786 (by decide) (fun _ => ?_) (fun c => absurd rfl c)
  refine W.widen (k := cells + 94 + 0 * 136 + 0 * 110) (n := slots + 7265 + 0 * 39857 + 0 * 31184) (show cells + 0 + 0 ≤ _ by omega) (show slots + 0 + 0 ≤ _ by omega) ?_
  exact kk _ _ _ 0 0 _ _ _ hS1 hw hl
