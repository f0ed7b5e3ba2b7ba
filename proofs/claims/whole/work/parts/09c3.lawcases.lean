set_option maxHeartbeats 4000000 in
set_option maxRecDepth 100000 in
theorem law_busy {p : Program} {l : Launch} {e : Env} {s : State} {m : MethodId} {args : Array Value} {below : List Frame} {meth : Method} {c : Code} {Q : State → Prop} {G : wG} {L : Mem} {x0 m0 b LL j : Nat} {xs : Nat → Int32} {Sim : SimT} (hC : Cx G p s m args meth c cL_law 4 RL wsL_law) (hX : va_X b LL xs s s.heap) (hbl : b < s.heap.size) (hbA : ¬ As G (fun _ => none) s.heap.size b) (hin : ∀ c : Nat, c < 6 → vp_in (nI (6 * j) + nI c) LL)
    (hst : St_busy G L x0 Sim) {M : Mem} {u : MS} {sz nc nr : Nat} (hSim : Sim M u sz nc nr) (hro : isO M (some x0) 14 = true) {H : Heap} {locs : List Loc} {cells slots : Nat} (hcc : cells + 1000 ≤ 600000) (hcs : slots + 60000 ≤ 7302250) (hw : lD G s m0 L M u sz H locs) {ls : Array Slot} (hl : lv_has ls 4 [(0, .ref b), (1, .ref x0), (2, .ref m0), (3, .int (nI (6 * j)))])
    (kk : ∀ (M1 : Mem) (u1 : MS) (sz1 dc dr : Nat) (H1 : Heap) (locs1 : List Loc) (ls1 : Array Slot), Sim M1 u1 sz1 (nc + dc) (nr + dr) → lD G s m0 L M1 u1 sz1 H1 locs1 → lv_has ls1 4 [(0, .ref b), (1, .ref x0), (2, .ref m0), (3, .int (nI (6 * j)))] → W p l e room_1 s m args below meth c H1 locs1 (cells + 94 + dc * 136 + dr * 110) (slots + 7265 + dc * 39857 + dr * 31184) Q (F0 m 1223 ls1 [])) :
    W p l e room_1 s m args below meth c H locs cells slots Q (F0 m 791 ls []) := by
  have hx := hC.1
  have hb := hC.2.1
  obtain ⟨n, r, M1, u1, e1, e2, hS1⟩ := hst M u sz nc nr (xs (nI (6 * j) + (1 : Int32)).toNatClampNeg) hSim
  refine lv_aload_n hx hb dL_law_791 rfl (lv_at hl 1 rfl) ?_
  refine lv_aload_n hx hb dL_law_792 rfl (lv_at hl 0 rfl) ?_
  refine lv_iload_n hx hb dL_law_793 rfl (lv_at hl 3 rfl) ?_
  refine lv_iconst (v := (1 : Int32)) hx hb dL_law_794 (by decide) ?_
  refine lv_iadd hx hb dL_law_795 ?_
  refine va_sld hx hb hX hbl hbA hw.1.2.2.1 (hin 1 (by omega)) dL_law_796 ?_
  refine l_contC hC hw (m_runV hC hw.1 (x := some x0) (ci := 14) (N := 11) (C := RX11) (T := TX11) (n := 1) (av := [.int (xs (nI (6 * j) + (1 : Int32)).toNatClampNeg)]) (rest := []) (c_X11_busy (G := G) (l := l) e1) gL_law_X11_busy rfl (by decide +kernel) ⟨(Nat.le_of_ble_eq_true rfl), (Nat.le_of_ble_eq_true rfl)⟩ hro rfl rfl hl.1 rfl (Nat.le_of_ble_eq_true rfl) dL_law_797 ⟨(show cells + 0 ≤ 600000 by omega), (show slots + 0 ≤ 7302250 by omega)⟩) (fun H locs hw => ?_)
  refine lv_aload_n hx hb dL_law_800 rfl (lv_at hl 2 rfl) ?_
  refine lv_aload_n hx hb dL_law_801 rfl (lv_at hl 0 rfl) ?_
  refine lv_iload_n hx hb dL_law_802 rfl (lv_at hl 3 rfl) ?_
  refine lv_iconst (v := (1 : Int32)) hx hb dL_law_803 (by decide) ?_
  refine lv_iadd hx hb dL_law_804 ?_
  refine va_sld hx hb hX hbl hbA hw.1.2.2.1 (hin 1 (by omega)) dL_law_805 ?_
  refine l_contM hC hw (m_runV hC hw.2.1 (x := some m0) (ci := 15) (N := 51) (C := RX12) (T := TX12) (n := 1) (av := [.int (xs (nI (6 * j) + (1 : Int32)).toNatClampNeg)]) (rest := [.int _]) (c_X12_busy (G := G) (l := l) hw.2.2.1 e2) gL_law_X12_busy rfl (by decide +kernel) ⟨(Nat.le_of_ble_eq_true rfl), (Nat.le_of_ble_eq_true rfl)⟩ (isO_Mm _ _ _) rfl rfl hl.1 rfl (Nat.le_of_ble_eq_true rfl) dL_law_806 ⟨(show cells + 0 + 0 ≤ 600000 by omega), (show slots + 0 + 0 ≤ 7302250 by omega)⟩) (fun H locs hw => ?_)
  refine lv_icmp_eq (tgt := 1223) hx hb dL_law_809 (by decide) (fun _ => ?_) (fun c => absurd rfl c)
  refine W.widen (k := cells + 94 + 0 * 136 + 0 * 110) (n := slots + 7265 + 0 * 39857 + 0 * 31184) (show cells + 0 + 0 ≤ _ by omega) (show slots + 0 + 0 ≤ _ by omega) ?_
  exact kk _ _ _ 0 0 _ _ _ hS1 hw hl
set_option maxHeartbeats 4000000 in
set_option maxRecDepth 100000 in
theorem law_with {p : Program} {l : Launch} {e : Env} {s : State} {m : MethodId} {args : Array Value} {below : List Frame} {meth : Method} {c : Code} {Q : State → Prop} {G : wG} {L : Mem} {x0 m0 b LL j : Nat} {xs : Nat → Int32} {Sim : SimT} (hC : Cx G p s m args meth c cL_law 4 RL wsL_law) (hX : va_X b LL xs s s.heap) (hbl : b < s.heap.size) (hbA : ¬ As G (fun _ => none) s.heap.size b) (hin : ∀ c : Nat, c < 6 → vp_in (nI (6 * j) + nI c) LL)
    (hst : St_with G L x0 Sim) {M : Mem} {u : MS} {sz nc nr : Nat} (hSim : Sim M u sz nc nr) (hro : isO M (some x0) 14 = true) {H : Heap} {locs : List Loc} {cells slots : Nat} (hcc : cells + 1000 ≤ 600000) (hcs : slots + 60000 ≤ 7302250) (hw : lD G s m0 L M u sz H locs) {ls : Array Slot} (hl : lv_has ls 4 [(0, .ref b), (1, .ref x0), (2, .ref m0), (3, .int (nI (6 * j)))])
    (kk : ∀ (M1 : Mem) (u1 : MS) (sz1 dc dr : Nat) (H1 : Heap) (locs1 : List Loc) (ls1 : Array Slot), Sim M1 u1 sz1 (nc + dc) (nr + dr) → lD G s m0 L M1 u1 sz1 H1 locs1 → lv_has ls1 4 [(0, .ref b), (1, .ref x0), (2, .ref m0), (3, .int (nI (6 * j)))] → W p l e room_1 s m args below meth c H1 locs1 (cells + 94 + dc * 136 + dr * 110) (slots + 7265 + dc * 39857 + dr * 31184) Q (F0 m 1223 ls1 [])) :
    W p l e room_1 s m args below meth c H locs cells slots Q (F0 m 814 ls []) := by
  have hx := hC.1
  have hb := hC.2.1
  obtain ⟨n, r, M1, u1, e1, e2, hS1⟩ := hst M u sz nc nr (xs (nI (6 * j) + (1 : Int32)).toNatClampNeg) (xs (nI (6 * j) + (2 : Int32)).toNatClampNeg) hSim
  refine lv_aload_n hx hb dL_law_814 rfl (lv_at hl 1 rfl) ?_
  refine lv_aload_n hx hb dL_law_815 rfl (lv_at hl 0 rfl) ?_
  refine lv_iload_n hx hb dL_law_816 rfl (lv_at hl 3 rfl) ?_
  refine lv_iconst (v := (1 : Int32)) hx hb dL_law_817 (by decide) ?_
  refine lv_iadd hx hb dL_law_818 ?_
  refine va_sld hx hb hX hbl hbA hw.1.2.2.1 (hin 1 (by omega)) dL_law_819 ?_
  refine lv_aload_n hx hb dL_law_820 rfl (lv_at hl 0 rfl) ?_
  refine lv_iload_n hx hb dL_law_821 rfl (lv_at hl 3 rfl) ?_
  refine lv_iconst (v := (2 : Int32)) hx hb dL_law_822 (by decide) ?_
  refine lv_iadd hx hb dL_law_823 ?_
  refine va_sld hx hb hX hbl hbA hw.1.2.2.1 (hin 2 (by omega)) dL_law_824 ?_
  refine l_contC hC hw (m_runV hC hw.1 (x := some x0) (ci := 14) (N := 11) (C := RX11) (T := TX11) (n := 2) (av := [.int (xs (nI (6 * j) + (1 : Int32)).toNatClampNeg), .int (xs (nI (6 * j) + (2 : Int32)).toNatClampNeg)]) (rest := []) (c_X11_with (G := G) (l := l) e1) gL_law_X11_with rfl (by decide +kernel) ⟨(Nat.le_of_ble_eq_true rfl), (Nat.le_of_ble_eq_true rfl)⟩ hro rfl rfl hl.1 rfl (Nat.le_of_ble_eq_true rfl) dL_law_825 ⟨(show cells + 0 ≤ 600000 by omega), (show slots + 0 ≤ 7302250 by omega)⟩) (fun H locs hw => ?_)
  refine lv_aload_n hx hb dL_law_828 rfl (lv_at hl 2 rfl) ?_
  refine lv_aload_n hx hb dL_law_829 rfl (lv_at hl 0 rfl) ?_
  refine lv_iload_n hx hb dL_law_830 rfl (lv_at hl 3 rfl) ?_
  refine lv_iconst (v := (1 : Int32)) hx hb dL_law_831 (by decide) ?_
  refine lv_iadd hx hb dL_law_832 ?_
  refine va_sld hx hb hX hbl hbA hw.1.2.2.1 (hin 1 (by omega)) dL_law_833 ?_
  refine lv_aload_n hx hb dL_law_834 rfl (lv_at hl 0 rfl) ?_
  refine lv_iload_n hx hb dL_law_835 rfl (lv_at hl 3 rfl) ?_
  refine lv_iconst (v := (2 : Int32)) hx hb dL_law_836 (by decide) ?_
  refine lv_iadd hx hb dL_law_837 ?_
  refine va_sld hx hb hX hbl hbA hw.1.2.2.1 (hin 2 (by omega)) dL_law_838 ?_
  refine l_contM hC hw (m_runV hC hw.2.1 (x := some m0) (ci := 15) (N := 51) (C := RX12) (T := TX12) (n := 2) (av := [.int (xs (nI (6 * j) + (1 : Int32)).toNatClampNeg), .int (xs (nI (6 * j) + (2 : Int32)).toNatClampNeg)]) (rest := [.int _]) (c_X12_with (G := G) (l := l) hw.2.2.1 e2) gL_law_X12_with rfl (by decide +kernel) ⟨(Nat.le_of_ble_eq_true rfl), (Nat.le_of_ble_eq_true rfl)⟩ (isO_Mm _ _ _) rfl rfl hl.1 rfl (Nat.le_of_ble_eq_true rfl) dL_law_839 ⟨(show cells + 0 + 0 ≤ 600000 by omega), (show slots + 0 + 0 ≤ 7302250 by omega)⟩) (fun H locs hw => ?_)
  refine lv_icmp_eq (tgt := 1223) hx hb dL_law_842 (by decide) (fun _ => ?_) (fun c => absurd rfl c)
  refine W.widen (k := cells + 94 + 0 * 136 + 0 * 110) (n := slots + 7265 + 0 * 39857 + 0 * 31184) (show cells + 0 + 0 ≤ _ by omega) (show slots + 0 + 0 ≤ _ by omega) ?_
  exact kk _ _ _ 0 0 _ _ _ hS1 hw hl
set_option maxHeartbeats 4000000 in
set_option maxRecDepth 100000 in
theorem law_ready {p : Program} {l : Launch} {e : Env} {s : State} {m : MethodId} {args : Array Value} {below : List Frame} {meth : Method} {c : Code} {Q : State → Prop} {G : wG} {L : Mem} {x0 m0 b LL j : Nat} {xs : Nat → Int32} {Sim : SimT} (hC : Cx G p s m args meth c cL_law 4 RL wsL_law) (hX : va_X b LL xs s s.heap) (hbl : b < s.heap.size) (hbA : ¬ As G (fun _ => none) s.heap.size b) (hin : ∀ c : Nat, c < 6 → vp_in (nI (6 * j) + nI c) LL)
    (hst : St_ready G L x0 Sim) {M : Mem} {u : MS} {sz nc nr : Nat} (hSim : Sim M u sz nc nr) (hro : isO M (some x0) 14 = true) {H : Heap} {locs : List Loc} {cells slots : Nat} (hcc : cells + 1000 ≤ 600000) (hcs : slots + 60000 ≤ 7302250) (hw : lD G s m0 L M u sz H locs) {ls : Array Slot} (hl : lv_has ls 4 [(0, .ref b), (1, .ref x0), (2, .ref m0), (3, .int (nI (6 * j)))])
    (kk : ∀ (M1 : Mem) (u1 : MS) (sz1 dc dr : Nat) (H1 : Heap) (locs1 : List Loc) (ls1 : Array Slot), Sim M1 u1 sz1 (nc + dc) (nr + dr) → lD G s m0 L M1 u1 sz1 H1 locs1 → lv_has ls1 4 [(0, .ref b), (1, .ref x0), (2, .ref m0), (3, .int (nI (6 * j)))] → W p l e room_1 s m args below meth c H1 locs1 (cells + 94 + dc * 136 + dr * 110) (slots + 7265 + dc * 39857 + dr * 31184) Q (F0 m 1223 ls1 [])) :
    W p l e room_1 s m args below meth c H locs cells slots Q (F0 m 847 ls []) := by
  have hx := hC.1
  have hb := hC.2.1
  obtain ⟨n, r, M1, u1, e1, e2, hS1⟩ := hst M u sz nc nr (xs (nI (6 * j) + (1 : Int32)).toNatClampNeg) (xs (nI (6 * j) + (2 : Int32)).toNatClampNeg) (xs (nI (6 * j) + (3 : Int32)).toNatClampNeg) hSim
  refine lv_aload_n hx hb dL_law_847 rfl (lv_at hl 1 rfl) ?_
  refine lv_aload_n hx hb dL_law_848 rfl (lv_at hl 0 rfl) ?_
  refine lv_iload_n hx hb dL_law_849 rfl (lv_at hl 3 rfl) ?_
  refine lv_iconst (v := (1 : Int32)) hx hb dL_law_850 (by decide) ?_
  refine lv_iadd hx hb dL_law_851 ?_
  refine va_sld hx hb hX hbl hbA hw.1.2.2.1 (hin 1 (by omega)) dL_law_852 ?_
  refine lv_aload_n hx hb dL_law_853 rfl (lv_at hl 0 rfl) ?_
  refine lv_iload_n hx hb dL_law_854 rfl (lv_at hl 3 rfl) ?_
  refine lv_iconst (v := (2 : Int32)) hx hb dL_law_855 (by decide) ?_
  refine lv_iadd hx hb dL_law_856 ?_
  refine va_sld hx hb hX hbl hbA hw.1.2.2.1 (hin 2 (by omega)) dL_law_857 ?_
  refine lv_aload_n hx hb dL_law_858 rfl (lv_at hl 0 rfl) ?_
  refine lv_iload_n hx hb dL_law_859 rfl (lv_at hl 3 rfl) ?_
  refine lv_iconst (v := (3 : Int32)) hx hb dL_law_860 (by decide) ?_
  refine lv_iadd hx hb dL_law_861 ?_
  refine va_sld hx hb hX hbl hbA hw.1.2.2.1 (hin 3 (by omega)) dL_law_862 ?_
  refine l_contC hC hw (m_runV hC hw.1 (x := some x0) (ci := 14) (N := 11) (C := RX11) (T := TX11) (n := 3) (av := [.int (xs (nI (6 * j) + (1 : Int32)).toNatClampNeg), .int (xs (nI (6 * j) + (2 : Int32)).toNatClampNeg), .int (xs (nI (6 * j) + (3 : Int32)).toNatClampNeg)]) (rest := []) (c_X11_ready (G := G) (l := l) e1) gL_law_X11_ready rfl (by decide +kernel) ⟨(Nat.le_of_ble_eq_true rfl), (Nat.le_of_ble_eq_true rfl)⟩ hro rfl rfl hl.1 rfl (Nat.le_of_ble_eq_true rfl) dL_law_863 ⟨(show cells + 0 ≤ 600000 by omega), (show slots + 0 ≤ 7302250 by omega)⟩) (fun H locs hw => ?_)
  refine lv_aload_n hx hb dL_law_866 rfl (lv_at hl 2 rfl) ?_
  refine lv_aload_n hx hb dL_law_867 rfl (lv_at hl 0 rfl) ?_
  refine lv_iload_n hx hb dL_law_868 rfl (lv_at hl 3 rfl) ?_
  refine lv_iconst (v := (1 : Int32)) hx hb dL_law_869 (by decide) ?_
  refine lv_iadd hx hb dL_law_870 ?_
  refine va_sld hx hb hX hbl hbA hw.1.2.2.1 (hin 1 (by omega)) dL_law_871 ?_
  refine lv_aload_n hx hb dL_law_872 rfl (lv_at hl 0 rfl) ?_
  refine lv_iload_n hx hb dL_law_873 rfl (lv_at hl 3 rfl) ?_
  refine lv_iconst (v := (2 : Int32)) hx hb dL_law_874 (by decide) ?_
  refine lv_iadd hx hb dL_law_875 ?_
  refine va_sld hx hb hX hbl hbA hw.1.2.2.1 (hin 2 (by omega)) dL_law_876 ?_
  refine lv_aload_n hx hb dL_law_877 rfl (lv_at hl 0 rfl) ?_
  refine lv_iload_n hx hb dL_law_878 rfl (lv_at hl 3 rfl) ?_
  refine lv_iconst (v := (3 : Int32)) hx hb dL_law_879 (by decide) ?_
  refine lv_iadd hx hb dL_law_880 ?_
  refine va_sld hx hb hX hbl hbA hw.1.2.2.1 (hin 3 (by omega)) dL_law_881 ?_
  refine l_contM hC hw (m_runV hC hw.2.1 (x := some m0) (ci := 15) (N := 51) (C := RX12) (T := TX12) (n := 3) (av := [.int (xs (nI (6 * j) + (1 : Int32)).toNatClampNeg), .int (xs (nI (6 * j) + (2 : Int32)).toNatClampNeg), .int (xs (nI (6 * j) + (3 : Int32)).toNatClampNeg)]) (rest := [.int _]) (c_X12_ready (G := G) (l := l) hw.2.2.1 e2) gL_law_X12_ready rfl (by decide +kernel) ⟨(Nat.le_of_ble_eq_true rfl), (Nat.le_of_ble_eq_true rfl)⟩ (isO_Mm _ _ _) rfl rfl hl.1 rfl (Nat.le_of_ble_eq_true rfl) dL_law_882 ⟨(show cells + 0 + 0 ≤ 600000 by omega), (show slots + 0 + 0 ≤ 7302250 by omega)⟩) (fun H locs hw => ?_)
  refine lv_icmp_eq (tgt := 1223) hx hb dL_law_885 (by decide) (fun _ => ?_) (fun c => absurd rfl c)
  refine W.widen (k := cells + 94 + 0 * 136 + 0 * 110) (n := slots + 7265 + 0 * 39857 + 0 * 31184) (show cells + 0 + 0 ≤ _ by omega) (show slots + 0 + 0 ≤ _ by omega) ?_
  exact kk _ _ _ 0 0 _ _ _ hS1 hw hl
set_option maxHeartbeats 4000000 in
set_option maxRecDepth 100000 in
theorem law_cost {p : Program} {l : Launch} {e : Env} {s : State} {m : MethodId} {args : Array Value} {below : List Frame} {meth : Method} {c : Code} {Q : State → Prop} {G : wG} {L : Mem} {x0 m0 b LL j : Nat} {xs : Nat → Int32} {Sim : SimT} (hC : Cx G p s m args meth c cL_law 4 RL wsL_law) (hX : va_X b LL xs s s.heap) (hbl : b < s.heap.size) (hbA : ¬ As G (fun _ => none) s.heap.size b) (hin : ∀ c : Nat, c < 6 → vp_in (nI (6 * j) + nI c) LL)
    (hst : St_cost G L x0 Sim) {M : Mem} {u : MS} {sz nc nr : Nat} (hSim : Sim M u sz nc nr) (hro : isO M (some x0) 14 = true) {H : Heap} {locs : List Loc} {cells slots : Nat} (hcc : cells + 1000 ≤ 600000) (hcs : slots + 60000 ≤ 7302250) (hw : lD G s m0 L M u sz H locs) {ls : Array Slot} (hl : lv_has ls 4 [(0, .ref b), (1, .ref x0), (2, .ref m0), (3, .int (nI (6 * j)))])
    (kk : ∀ (M1 : Mem) (u1 : MS) (sz1 dc dr : Nat) (H1 : Heap) (locs1 : List Loc) (ls1 : Array Slot), Sim M1 u1 sz1 (nc + dc) (nr + dr) → lD G s m0 L M1 u1 sz1 H1 locs1 → lv_has ls1 4 [(0, .ref b), (1, .ref x0), (2, .ref m0), (3, .int (nI (6 * j)))] → W p l e room_1 s m args below meth c H1 locs1 (cells + 94 + dc * 136 + dr * 110) (slots + 7265 + dc * 39857 + dr * 31184) Q (F0 m 1223 ls1 [])) :
    W p l e room_1 s m args below meth c H locs cells slots Q (F0 m 890 ls []) := by
  have hx := hC.1
  have hb := hC.2.1
  obtain ⟨n, r, M1, u1, e1, e2, hS1⟩ := hst M u sz nc nr (xs (nI (6 * j) + (1 : Int32)).toNatClampNeg) (xs (nI (6 * j) + (2 : Int32)).toNatClampNeg) hSim
  refine lv_aload_n hx hb dL_law_890 rfl (lv_at hl 1 rfl) ?_
  refine lv_aload_n hx hb dL_law_891 rfl (lv_at hl 0 rfl) ?_
  refine lv_iload_n hx hb dL_law_892 rfl (lv_at hl 3 rfl) ?_
  refine lv_iconst (v := (1 : Int32)) hx hb dL_law_893 (by decide) ?_
  refine lv_iadd hx hb dL_law_894 ?_
  refine va_sld hx hb hX hbl hbA hw.1.2.2.1 (hin 1 (by omega)) dL_law_895 ?_
  refine lv_aload_n hx hb dL_law_896 rfl (lv_at hl 0 rfl) ?_
  refine lv_iload_n hx hb dL_law_897 rfl (lv_at hl 3 rfl) ?_
  refine lv_iconst (v := (2 : Int32)) hx hb dL_law_898 (by decide) ?_
  refine lv_iadd hx hb dL_law_899 ?_
  refine va_sld hx hb hX hbl hbA hw.1.2.2.1 (hin 2 (by omega)) dL_law_900 ?_
  refine l_contC hC hw (m_runV hC hw.1 (x := some x0) (ci := 14) (N := 11) (C := RX11) (T := TX11) (n := 2) (av := [.int (xs (nI (6 * j) + (1 : Int32)).toNatClampNeg), .int (xs (nI (6 * j) + (2 : Int32)).toNatClampNeg)]) (rest := []) (c_X11_cost (G := G) (l := l) e1) gL_law_X11_cost rfl (by decide +kernel) ⟨(Nat.le_of_ble_eq_true rfl), (Nat.le_of_ble_eq_true rfl)⟩ hro rfl rfl hl.1 rfl (Nat.le_of_ble_eq_true rfl) dL_law_901 ⟨(show cells + 0 ≤ 600000 by omega), (show slots + 0 ≤ 7302250 by omega)⟩) (fun H locs hw => ?_)
  refine lv_aload_n hx hb dL_law_904 rfl (lv_at hl 2 rfl) ?_
  refine lv_aload_n hx hb dL_law_905 rfl (lv_at hl 0 rfl) ?_
  refine lv_iload_n hx hb dL_law_906 rfl (lv_at hl 3 rfl) ?_
  refine lv_iconst (v := (1 : Int32)) hx hb dL_law_907 (by decide) ?_
  refine lv_iadd hx hb dL_law_908 ?_
  refine va_sld hx hb hX hbl hbA hw.1.2.2.1 (hin 1 (by omega)) dL_law_909 ?_
  refine lv_aload_n hx hb dL_law_910 rfl (lv_at hl 0 rfl) ?_
  refine lv_iload_n hx hb dL_law_911 rfl (lv_at hl 3 rfl) ?_
  refine lv_iconst (v := (2 : Int32)) hx hb dL_law_912 (by decide) ?_
  refine lv_iadd hx hb dL_law_913 ?_
  refine va_sld hx hb hX hbl hbA hw.1.2.2.1 (hin 2 (by omega)) dL_law_914 ?_
  refine l_contM hC hw (m_runV hC hw.2.1 (x := some m0) (ci := 15) (N := 51) (C := RX12) (T := TX12) (n := 2) (av := [.int (xs (nI (6 * j) + (1 : Int32)).toNatClampNeg), .int (xs (nI (6 * j) + (2 : Int32)).toNatClampNeg)]) (rest := [.int _]) (c_X12_cost (G := G) (l := l) hw.2.2.1 e2) gL_law_X12_cost rfl (by decide +kernel) ⟨(Nat.le_of_ble_eq_true rfl), (Nat.le_of_ble_eq_true rfl)⟩ (isO_Mm _ _ _) rfl rfl hl.1 rfl (Nat.le_of_ble_eq_true rfl) dL_law_915 ⟨(show cells + 0 + 0 ≤ 600000 by omega), (show slots + 0 + 0 ≤ 7302250 by omega)⟩) (fun H locs hw => ?_)
  refine lv_icmp_eq (tgt := 1223) hx hb dL_law_918 (by decide) (fun _ => ?_) (fun c => absurd rfl c)
  refine W.widen (k := cells + 94 + 0 * 136 + 0 * 110) (n := slots + 7265 + 0 * 39857 + 0 * 31184) (show cells + 0 + 0 ≤ _ by omega) (show slots + 0 + 0 ≤ _ by omega) ?_
  exact kk _ _ _ 0 0 _ _ _ hS1 hw hl
set_option maxHeartbeats 4000000 in
set_option maxRecDepth 100000 in
theorem law_premium {p : Program} {l : Launch} {e : Env} {s : State} {m : MethodId} {args : Array Value} {below : List Frame} {meth : Method} {c : Code} {Q : State → Prop} {G : wG} {L : Mem} {x0 m0 b LL j : Nat} {xs : Nat → Int32} {Sim : SimT} (hC : Cx G p s m args meth c cL_law 4 RL wsL_law) (hX : va_X b LL xs s s.heap) (hbl : b < s.heap.size) (hbA : ¬ As G (fun _ => none) s.heap.size b) (hin : ∀ c : Nat, c < 6 → vp_in (nI (6 * j) + nI c) LL)
    (hst : St_premium G L x0 Sim) {M : Mem} {u : MS} {sz nc nr : Nat} (hSim : Sim M u sz nc nr) (hro : isO M (some x0) 14 = true) {H : Heap} {locs : List Loc} {cells slots : Nat} (hcc : cells + 1000 ≤ 600000) (hcs : slots + 60000 ≤ 7302250) (hw : lD G s m0 L M u sz H locs) {ls : Array Slot} (hl : lv_has ls 4 [(0, .ref b), (1, .ref x0), (2, .ref m0), (3, .int (nI (6 * j)))])
    (kk : ∀ (M1 : Mem) (u1 : MS) (sz1 dc dr : Nat) (H1 : Heap) (locs1 : List Loc) (ls1 : Array Slot), Sim M1 u1 sz1 (nc + dc) (nr + dr) → lD G s m0 L M1 u1 sz1 H1 locs1 → lv_has ls1 4 [(0, .ref b), (1, .ref x0), (2, .ref m0), (3, .int (nI (6 * j)))] → W p l e room_1 s m args below meth c H1 locs1 (cells + 94 + dc * 136 + dr * 110) (slots + 7265 + dc * 39857 + dr * 31184) Q (F0 m 1223 ls1 [])) :
    W p l e room_1 s m args below meth c H locs cells slots Q (F0 m 923 ls []) := by
  have hx := hC.1
  have hb := hC.2.1
  obtain ⟨n, r, M1, u1, e1, e2, hS1⟩ := hst M u sz nc nr (xs (nI (6 * j) + (1 : Int32)).toNatClampNeg) (xs (nI (6 * j) + (2 : Int32)).toNatClampNeg) (xs (nI (6 * j) + (3 : Int32)).toNatClampNeg) hSim
  refine lv_aload_n hx hb dL_law_923 rfl (lv_at hl 1 rfl) ?_
  refine lv_aload_n hx hb dL_law_924 rfl (lv_at hl 0 rfl) ?_
  refine lv_iload_n hx hb dL_law_925 rfl (lv_at hl 3 rfl) ?_
  refine lv_iconst (v := (1 : Int32)) hx hb dL_law_926 (by decide) ?_
  refine lv_iadd hx hb dL_law_927 ?_
  refine va_sld hx hb hX hbl hbA hw.1.2.2.1 (hin 1 (by omega)) dL_law_928 ?_
  refine lv_aload_n hx hb dL_law_929 rfl (lv_at hl 0 rfl) ?_
  refine lv_iload_n hx hb dL_law_930 rfl (lv_at hl 3 rfl) ?_
  refine lv_iconst (v := (2 : Int32)) hx hb dL_law_931 (by decide) ?_
  refine lv_iadd hx hb dL_law_932 ?_
  refine va_sld hx hb hX hbl hbA hw.1.2.2.1 (hin 2 (by omega)) dL_law_933 ?_
  refine lv_aload_n hx hb dL_law_934 rfl (lv_at hl 0 rfl) ?_
  refine lv_iload_n hx hb dL_law_935 rfl (lv_at hl 3 rfl) ?_
  refine lv_iconst (v := (3 : Int32)) hx hb dL_law_936 (by decide) ?_
  refine lv_iadd hx hb dL_law_937 ?_
  refine va_sld hx hb hX hbl hbA hw.1.2.2.1 (hin 3 (by omega)) dL_law_938 ?_
  refine l_contC hC hw (m_runV hC hw.1 (x := some x0) (ci := 14) (N := 11) (C := RX11) (T := TX11) (n := 3) (av := [.int (xs (nI (6 * j) + (1 : Int32)).toNatClampNeg), .int (xs (nI (6 * j) + (2 : Int32)).toNatClampNeg), .int (xs (nI (6 * j) + (3 : Int32)).toNatClampNeg)]) (rest := []) (c_X11_premium (G := G) (l := l) e1) gL_law_X11_premium rfl (by decide +kernel) ⟨(Nat.le_of_ble_eq_true rfl), (Nat.le_of_ble_eq_true rfl)⟩ hro rfl rfl hl.1 rfl (Nat.le_of_ble_eq_true rfl) dL_law_939 ⟨(show cells + 0 ≤ 600000 by omega), (show slots + 0 ≤ 7302250 by omega)⟩) (fun H locs hw => ?_)
  refine lv_aload_n hx hb dL_law_942 rfl (lv_at hl 2 rfl) ?_
  refine lv_aload_n hx hb dL_law_943 rfl (lv_at hl 0 rfl) ?_
  refine lv_iload_n hx hb dL_law_944 rfl (lv_at hl 3 rfl) ?_
  refine lv_iconst (v := (1 : Int32)) hx hb dL_law_945 (by decide) ?_
  refine lv_iadd hx hb dL_law_946 ?_
  refine va_sld hx hb hX hbl hbA hw.1.2.2.1 (hin 1 (by omega)) dL_law_947 ?_
  refine lv_aload_n hx hb dL_law_948 rfl (lv_at hl 0 rfl) ?_
  refine lv_iload_n hx hb dL_law_949 rfl (lv_at hl 3 rfl) ?_
  refine lv_iconst (v := (2 : Int32)) hx hb dL_law_950 (by decide) ?_
  refine lv_iadd hx hb dL_law_951 ?_
  refine va_sld hx hb hX hbl hbA hw.1.2.2.1 (hin 2 (by omega)) dL_law_952 ?_
  refine lv_aload_n hx hb dL_law_953 rfl (lv_at hl 0 rfl) ?_
  refine lv_iload_n hx hb dL_law_954 rfl (lv_at hl 3 rfl) ?_
  refine lv_iconst (v := (3 : Int32)) hx hb dL_law_955 (by decide) ?_
  refine lv_iadd hx hb dL_law_956 ?_
  refine va_sld hx hb hX hbl hbA hw.1.2.2.1 (hin 3 (by omega)) dL_law_957 ?_
  refine l_contM hC hw (m_runV hC hw.2.1 (x := some m0) (ci := 15) (N := 51) (C := RX12) (T := TX12) (n := 3) (av := [.int (xs (nI (6 * j) + (1 : Int32)).toNatClampNeg), .int (xs (nI (6 * j) + (2 : Int32)).toNatClampNeg), .int (xs (nI (6 * j) + (3 : Int32)).toNatClampNeg)]) (rest := [.int _]) (c_X12_premium (G := G) (l := l) hw.2.2.1 e2) gL_law_X12_premium rfl (by decide +kernel) ⟨(Nat.le_of_ble_eq_true rfl), (Nat.le_of_ble_eq_true rfl)⟩ (isO_Mm _ _ _) rfl rfl hl.1 rfl (Nat.le_of_ble_eq_true rfl) dL_law_958 ⟨(show cells + 0 + 0 ≤ 600000 by omega), (show slots + 0 + 0 ≤ 7302250 by omega)⟩) (fun H locs hw => ?_)
  refine lv_icmp_eq (tgt := 1223) hx hb dL_law_961 (by decide) (fun _ => ?_) (fun c => absurd rfl c)
  refine W.widen (k := cells + 94 + 0 * 136 + 0 * 110) (n := slots + 7265 + 0 * 39857 + 0 * 31184) (show cells + 0 + 0 ≤ _ by omega) (show slots + 0 + 0 ≤ _ by omega) ?_
  exact kk _ _ _ 0 0 _ _ _ hS1 hw hl
set_option maxHeartbeats 4000000 in
set_option maxRecDepth 100000 in
theorem law_dearest {p : Program} {l : Launch} {e : Env} {s : State} {m : MethodId} {args : Array Value} {below : List Frame} {meth : Method} {c : Code} {Q : State → Prop} {G : wG} {L : Mem} {x0 m0 b LL j : Nat} {xs : Nat → Int32} {Sim : SimT} (hC : Cx G p s m args meth c cL_law 4 RL wsL_law) (hX : va_X b LL xs s s.heap) (hbl : b < s.heap.size) (hbA : ¬ As G (fun _ => none) s.heap.size b) (hin : ∀ c : Nat, c < 6 → vp_in (nI (6 * j) + nI c) LL)
    (hst : St_dearest G L x0 Sim) {M : Mem} {u : MS} {sz nc nr : Nat} (hSim : Sim M u sz nc nr) (hro : isO M (some x0) 14 = true) {H : Heap} {locs : List Loc} {cells slots : Nat} (hcc : cells + 1000 ≤ 600000) (hcs : slots + 60000 ≤ 7302250) (hw : lD G s m0 L M u sz H locs) {ls : Array Slot} (hl : lv_has ls 4 [(0, .ref b), (1, .ref x0), (2, .ref m0), (3, .int (nI (6 * j)))])
    (kk : ∀ (M1 : Mem) (u1 : MS) (sz1 dc dr : Nat) (H1 : Heap) (locs1 : List Loc) (ls1 : Array Slot), Sim M1 u1 sz1 (nc + dc) (nr + dr) → lD G s m0 L M1 u1 sz1 H1 locs1 → lv_has ls1 4 [(0, .ref b), (1, .ref x0), (2, .ref m0), (3, .int (nI (6 * j)))] → W p l e room_1 s m args below meth c H1 locs1 (cells + 94 + dc * 136 + dr * 110) (slots + 7265 + dc * 39857 + dr * 31184) Q (F0 m 1223 ls1 [])) :
    W p l e room_1 s m args below meth c H locs cells slots Q (F0 m 966 ls []) := by
  have hx := hC.1
  have hb := hC.2.1
  obtain ⟨n, r, M1, u1, e1, e2, hS1⟩ := hst M u sz nc nr (xs (nI (6 * j) + (1 : Int32)).toNatClampNeg) hSim
  refine lv_aload_n hx hb dL_law_966 rfl (lv_at hl 1 rfl) ?_
  refine lv_aload_n hx hb dL_law_967 rfl (lv_at hl 0 rfl) ?_
  refine lv_iload_n hx hb dL_law_968 rfl (lv_at hl 3 rfl) ?_
  refine lv_iconst (v := (1 : Int32)) hx hb dL_law_969 (by decide) ?_
  refine lv_iadd hx hb dL_law_970 ?_
  refine va_sld hx hb hX hbl hbA hw.1.2.2.1 (hin 1 (by omega)) dL_law_971 ?_
  refine l_contC hC hw (m_runV hC hw.1 (x := some x0) (ci := 14) (N := 11) (C := RX11) (T := TX11) (n := 1) (av := [.int (xs (nI (6 * j) + (1 : Int32)).toNatClampNeg)]) (rest := []) (c_X11_dearest (G := G) (l := l) e1) gL_law_X11_dearest rfl (by decide +kernel) ⟨(Nat.le_of_ble_eq_true rfl), (Nat.le_of_ble_eq_true rfl)⟩ hro rfl rfl hl.1 rfl (Nat.le_of_ble_eq_true rfl) dL_law_972 ⟨(show cells + 0 ≤ 600000 by omega), (show slots + 0 ≤ 7302250 by omega)⟩) (fun H locs hw => ?_)
  refine lv_aload_n hx hb dL_law_975 rfl (lv_at hl 2 rfl) ?_
  refine lv_aload_n hx hb dL_law_976 rfl (lv_at hl 0 rfl) ?_
  refine lv_iload_n hx hb dL_law_977 rfl (lv_at hl 3 rfl) ?_
  refine lv_iconst (v := (1 : Int32)) hx hb dL_law_978 (by decide) ?_
  refine lv_iadd hx hb dL_law_979 ?_
  refine va_sld hx hb hX hbl hbA hw.1.2.2.1 (hin 1 (by omega)) dL_law_980 ?_
  refine l_contM hC hw (m_runV hC hw.2.1 (x := some m0) (ci := 15) (N := 51) (C := RX12) (T := TX12) (n := 1) (av := [.int (xs (nI (6 * j) + (1 : Int32)).toNatClampNeg)]) (rest := [.int _]) (c_X12_dearest (G := G) (l := l) hw.2.2.1 e2) gL_law_X12_dearest rfl (by decide +kernel) ⟨(Nat.le_of_ble_eq_true rfl), (Nat.le_of_ble_eq_true rfl)⟩ (isO_Mm _ _ _) rfl rfl hl.1 rfl (Nat.le_of_ble_eq_true rfl) dL_law_981 ⟨(show cells + 0 + 0 ≤ 600000 by omega), (show slots + 0 + 0 ≤ 7302250 by omega)⟩) (fun H locs hw => ?_)
  refine lv_icmp_eq (tgt := 1223) hx hb dL_law_984 (by decide) (fun _ => ?_) (fun c => absurd rfl c)
  refine W.widen (k := cells + 94 + 0 * 136 + 0 * 110) (n := slots + 7265 + 0 * 39857 + 0 * 31184) (show cells + 0 + 0 ≤ _ by omega) (show slots + 0 + 0 ≤ _ by omega) ?_
  exact kk _ _ _ 0 0 _ _ _ hS1 hw hl
set_option maxHeartbeats 4000000 in
set_option maxRecDepth 100000 in
theorem law_harms {p : Program} {l : Launch} {e : Env} {s : State} {m : MethodId} {args : Array Value} {below : List Frame} {meth : Method} {c : Code} {Q : State → Prop} {G : wG} {L : Mem} {x0 m0 b LL j : Nat} {xs : Nat → Int32} {Sim : SimT} (hC : Cx G p s m args meth c cL_law 4 RL wsL_law) (hX : va_X b LL xs s s.heap) (hbl : b < s.heap.size) (hbA : ¬ As G (fun _ => none) s.heap.size b) (hin : ∀ c : Nat, c < 6 → vp_in (nI (6 * j) + nI c) LL)
    (hst : St_harms G L x0 Sim) {M : Mem} {u : MS} {sz nc nr : Nat} (hSim : Sim M u sz nc nr) (hro : isO M (some x0) 14 = true) {H : Heap} {locs : List Loc} {cells slots : Nat} (hcc : cells + 1000 ≤ 600000) (hcs : slots + 60000 ≤ 7302250) (hw : lD G s m0 L M u sz H locs) {ls : Array Slot} (hl : lv_has ls 4 [(0, .ref b), (1, .ref x0), (2, .ref m0), (3, .int (nI (6 * j)))])
    (kk : ∀ (M1 : Mem) (u1 : MS) (sz1 dc dr : Nat) (H1 : Heap) (locs1 : List Loc) (ls1 : Array Slot), Sim M1 u1 sz1 (nc + dc) (nr + dr) → lD G s m0 L M1 u1 sz1 H1 locs1 → lv_has ls1 4 [(0, .ref b), (1, .ref x0), (2, .ref m0), (3, .int (nI (6 * j)))] → W p l e room_1 s m args below meth c H1 locs1 (cells + 94 + dc * 136 + dr * 110) (slots + 7265 + dc * 39857 + dr * 31184) Q (F0 m 1223 ls1 [])) :
    W p l e room_1 s m args below meth c H locs cells slots Q (F0 m 989 ls []) := by
  have hx := hC.1
  have hb := hC.2.1
  obtain ⟨n, r, M1, u1, e1, e2, hS1⟩ := hst M u sz nc nr (xs (nI (6 * j) + (1 : Int32)).toNatClampNeg) (xs (nI (6 * j) + (2 : Int32)).toNatClampNeg) hSim
  refine lv_aload_n hx hb dL_law_989 rfl (lv_at hl 1 rfl) ?_
  refine lv_aload_n hx hb dL_law_990 rfl (lv_at hl 0 rfl) ?_
  refine lv_iload_n hx hb dL_law_991 rfl (lv_at hl 3 rfl) ?_
  refine lv_iconst (v := (1 : Int32)) hx hb dL_law_992 (by decide) ?_
  refine lv_iadd hx hb dL_law_993 ?_
  refine va_sld hx hb hX hbl hbA hw.1.2.2.1 (hin 1 (by omega)) dL_law_994 ?_
  refine lv_aload_n hx hb dL_law_995 rfl (lv_at hl 0 rfl) ?_
  refine lv_iload_n hx hb dL_law_996 rfl (lv_at hl 3 rfl) ?_
  refine lv_iconst (v := (2 : Int32)) hx hb dL_law_997 (by decide) ?_
  refine lv_iadd hx hb dL_law_998 ?_
  refine va_sld hx hb hX hbl hbA hw.1.2.2.1 (hin 2 (by omega)) dL_law_999 ?_
  refine l_contC hC hw (m_runV hC hw.1 (x := some x0) (ci := 14) (N := 11) (C := RX11) (T := TX11) (n := 2) (av := [.int (xs (nI (6 * j) + (1 : Int32)).toNatClampNeg), .int (xs (nI (6 * j) + (2 : Int32)).toNatClampNeg)]) (rest := []) (c_X11_harms (G := G) (l := l) e1) gL_law_X11_harms rfl (by decide +kernel) ⟨(Nat.le_of_ble_eq_true rfl), (Nat.le_of_ble_eq_true rfl)⟩ hro rfl rfl hl.1 rfl (Nat.le_of_ble_eq_true rfl) dL_law_1000 ⟨(show cells + 0 ≤ 600000 by omega), (show slots + 0 ≤ 7302250 by omega)⟩) (fun H locs hw => ?_)
  refine lv_aload_n hx hb dL_law_1003 rfl (lv_at hl 2 rfl) ?_
  refine lv_aload_n hx hb dL_law_1004 rfl (lv_at hl 0 rfl) ?_
  refine lv_iload_n hx hb dL_law_1005 rfl (lv_at hl 3 rfl) ?_
  refine lv_iconst (v := (1 : Int32)) hx hb dL_law_1006 (by decide) ?_
  refine lv_iadd hx hb dL_law_1007 ?_
  refine va_sld hx hb hX hbl hbA hw.1.2.2.1 (hin 1 (by omega)) dL_law_1008 ?_
  refine lv_aload_n hx hb dL_law_1009 rfl (lv_at hl 0 rfl) ?_
  refine lv_iload_n hx hb dL_law_1010 rfl (lv_at hl 3 rfl) ?_
  refine lv_iconst (v := (2 : Int32)) hx hb dL_law_1011 (by decide) ?_
  refine lv_iadd hx hb dL_law_1012 ?_
  refine va_sld hx hb hX hbl hbA hw.1.2.2.1 (hin 2 (by omega)) dL_law_1013 ?_
  refine l_contM hC hw (m_runV hC hw.2.1 (x := some m0) (ci := 15) (N := 51) (C := RX12) (T := TX12) (n := 2) (av := [.int (xs (nI (6 * j) + (1 : Int32)).toNatClampNeg), .int (xs (nI (6 * j) + (2 : Int32)).toNatClampNeg)]) (rest := [.int _]) (c_X12_harms (G := G) (l := l) hw.2.2.1 e2) gL_law_X12_harms rfl (by decide +kernel) ⟨(Nat.le_of_ble_eq_true rfl), (Nat.le_of_ble_eq_true rfl)⟩ (isO_Mm _ _ _) rfl rfl hl.1 rfl (Nat.le_of_ble_eq_true rfl) dL_law_1014 ⟨(show cells + 0 + 0 ≤ 600000 by omega), (show slots + 0 + 0 ≤ 7302250 by omega)⟩) (fun H locs hw => ?_)
  refine lv_icmp_eq (tgt := 1223) hx hb dL_law_1017 (by decide) (fun _ => ?_) (fun c => absurd rfl c)
  refine W.widen (k := cells + 94 + 0 * 136 + 0 * 110) (n := slots + 7265 + 0 * 39857 + 0 * 31184) (show cells + 0 + 0 ≤ _ by omega) (show slots + 0 + 0 ≤ _ by omega) ?_
  exact kk _ _ _ 0 0 _ _ _ hS1 hw hl
