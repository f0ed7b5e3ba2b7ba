set_option maxHeartbeats 4000000 in
set_option maxRecDepth 100000 in
theorem law_note {p : Program} {l : Launch} {e : Env} {s : State} {m : MethodId} {args : Array Value} {below : List Frame} {meth : Method} {c : Code} {Q : State → Prop} {G : wG} {L : Mem} {x0 m0 b LL j : Nat} {xs : Nat → Int32} {Sim : SimT} (hC : Cx G p s m args meth c cL_law 4 RL wsL_law) (hX : va_X b LL xs s s.heap) (hbl : b < s.heap.size) (hbA : ¬ As G (fun _ => none) s.heap.size b) (hin : ∀ c : Nat, c < 6 → vp_in (nI (6 * j) + nI c) LL)
    (hst : St_note G L x0 Sim) {M : Mem} {u : MS} {sz nc nr : Nat} (hSim : Sim M u sz nc nr) (hro : isO M (some x0) 14 = true) {H : Heap} {locs : List Loc} {cells slots : Nat} (hcc : cells + 1000 ≤ 600000) (hcs : slots + 60000 ≤ 7302250) (hw : lD G s m0 L M u sz H locs) {ls : Array Slot} (hl : lv_has ls 4 [(0, .ref b), (1, .ref x0), (2, .ref m0), (3, .int (nI (6 * j)))])
    (kk : ∀ (M1 : Mem) (u1 : MS) (sz1 dc dr : Nat) (H1 : Heap) (locs1 : List Loc) (ls1 : Array Slot), Sim M1 u1 sz1 (nc + dc) (nr + dr) → lD G s m0 L M1 u1 sz1 H1 locs1 → lv_has ls1 4 [(0, .ref b), (1, .ref x0), (2, .ref m0), (3, .int (nI (6 * j)))] → W p l e room_1 s m args below meth c H1 locs1 (cells + 94 + dc * 136 + dr * 110) (slots + 7265 + dc * 39857 + dr * 31184) Q (F0 m 1223 ls1 [])) :
    W p l e room_1 s m args below meth c H locs cells slots Q (F0 m 1022 ls []) := by
  have hx := hC.1
  have hb := hC.2.1
  obtain ⟨n, r, M1, u1, e1, e2, hS1⟩ := hst M u sz nc nr (xs (nI (6 * j) + (1 : Int32)).toNatClampNeg) (xs (nI (6 * j) + (2 : Int32)).toNatClampNeg) (xs (nI (6 * j) + (3 : Int32)).toNatClampNeg) hSim
  refine lv_aload_n hx hb dL_law_1022 rfl (lv_at hl 1 rfl) ?_
  refine lv_aload_n hx hb dL_law_1023 rfl (lv_at hl 0 rfl) ?_
  refine lv_iload_n hx hb dL_law_1024 rfl (lv_at hl 3 rfl) ?_
  refine lv_iconst (v := (1 : Int32)) hx hb dL_law_1025 (by decide) ?_
  refine lv_iadd hx hb dL_law_1026 ?_
  refine va_sld hx hb hX hbl hbA hw.1.2.2.1 (hin 1 (by omega)) dL_law_1027 ?_
  refine lv_aload_n hx hb dL_law_1028 rfl (lv_at hl 0 rfl) ?_
  refine lv_iload_n hx hb dL_law_1029 rfl (lv_at hl 3 rfl) ?_
  refine lv_iconst (v := (2 : Int32)) hx hb dL_law_1030 (by decide) ?_
  refine lv_iadd hx hb dL_law_1031 ?_
  refine va_sld hx hb hX hbl hbA hw.1.2.2.1 (hin 2 (by omega)) dL_law_1032 ?_
  refine lv_aload_n hx hb dL_law_1033 rfl (lv_at hl 0 rfl) ?_
  refine lv_iload_n hx hb dL_law_1034 rfl (lv_at hl 3 rfl) ?_
  refine lv_iconst (v := (3 : Int32)) hx hb dL_law_1035 (by decide) ?_
  refine lv_iadd hx hb dL_law_1036 ?_
  refine va_sld hx hb hX hbl hbA hw.1.2.2.1 (hin 3 (by omega)) dL_law_1037 ?_
  refine l_contC hC hw (m_runV hC hw.1 (x := some x0) (ci := 14) (N := 11) (C := RX11) (T := TX11) (n := 3) (av := [.int (xs (nI (6 * j) + (1 : Int32)).toNatClampNeg), .int (xs (nI (6 * j) + (2 : Int32)).toNatClampNeg), .int (xs (nI (6 * j) + (3 : Int32)).toNatClampNeg)]) (rest := []) (c_X11_note (G := G) (l := l) e1) gL_law_X11_note rfl (by decide +kernel) ⟨(Nat.le_of_ble_eq_true rfl), (Nat.le_of_ble_eq_true rfl)⟩ hro rfl rfl hl.1 rfl (Nat.le_of_ble_eq_true rfl) dL_law_1038 ⟨(show cells + 0 ≤ 600000 by omega), (show slots + 0 ≤ 7302250 by omega)⟩) (fun H locs hw => ?_)
  refine lv_aload_n hx hb dL_law_1041 rfl (lv_at hl 2 rfl) ?_
  refine lv_aload_n hx hb dL_law_1042 rfl (lv_at hl 0 rfl) ?_
  refine lv_iload_n hx hb dL_law_1043 rfl (lv_at hl 3 rfl) ?_
  refine lv_iconst (v := (1 : Int32)) hx hb dL_law_1044 (by decide) ?_
  refine lv_iadd hx hb dL_law_1045 ?_
  refine va_sld hx hb hX hbl hbA hw.1.2.2.1 (hin 1 (by omega)) dL_law_1046 ?_
  refine lv_aload_n hx hb dL_law_1047 rfl (lv_at hl 0 rfl) ?_
  refine lv_iload_n hx hb dL_law_1048 rfl (lv_at hl 3 rfl) ?_
  refine lv_iconst (v := (2 : Int32)) hx hb dL_law_1049 (by decide) ?_
  refine lv_iadd hx hb dL_law_1050 ?_
  refine va_sld hx hb hX hbl hbA hw.1.2.2.1 (hin 2 (by omega)) dL_law_1051 ?_
  refine lv_aload_n hx hb dL_law_1052 rfl (lv_at hl 0 rfl) ?_
  refine lv_iload_n hx hb dL_law_1053 rfl (lv_at hl 3 rfl) ?_
  refine lv_iconst (v := (3 : Int32)) hx hb dL_law_1054 (by decide) ?_
  refine lv_iadd hx hb dL_law_1055 ?_
  refine va_sld hx hb hX hbl hbA hw.1.2.2.1 (hin 3 (by omega)) dL_law_1056 ?_
  refine l_contM hC hw (m_runV hC hw.2.1 (x := some m0) (ci := 15) (N := 51) (C := RX12) (T := TX12) (n := 3) (av := [.int (xs (nI (6 * j) + (1 : Int32)).toNatClampNeg), .int (xs (nI (6 * j) + (2 : Int32)).toNatClampNeg), .int (xs (nI (6 * j) + (3 : Int32)).toNatClampNeg)]) (rest := [.int _]) (c_X12_note (G := G) (l := l) hw.2.2.1 e2) gL_law_X12_note rfl (by decide +kernel) ⟨(Nat.le_of_ble_eq_true rfl), (Nat.le_of_ble_eq_true rfl)⟩ (isO_Mm _ _ _) rfl rfl hl.1 rfl (Nat.le_of_ble_eq_true rfl) dL_law_1057 ⟨(show cells + 0 + 0 ≤ 600000 by omega), (show slots + 0 + 0 ≤ 7302250 by omega)⟩) (fun H locs hw => ?_)
  refine lv_icmp_eq (tgt := 1223) hx hb dL_law_1060 (by decide) (fun _ => ?_) (fun c => absurd rfl c)
  refine W.widen (k := cells + 94 + 0 * 136 + 0 * 110) (n := slots + 7265 + 0 * 39857 + 0 * 31184) (show cells + 0 + 0 ≤ _ by omega) (show slots + 0 + 0 ≤ _ by omega) ?_
  exact kk _ _ _ 0 0 _ _ _ hS1 hw hl
set_option maxHeartbeats 4000000 in
set_option maxRecDepth 100000 in
theorem law_damage {p : Program} {l : Launch} {e : Env} {s : State} {m : MethodId} {args : Array Value} {below : List Frame} {meth : Method} {c : Code} {Q : State → Prop} {G : wG} {L : Mem} {x0 m0 b LL j : Nat} {xs : Nat → Int32} {Sim : SimT} (hC : Cx G p s m args meth c cL_law 4 RL wsL_law) (hX : va_X b LL xs s s.heap) (hbl : b < s.heap.size) (hbA : ¬ As G (fun _ => none) s.heap.size b) (hin : ∀ c : Nat, c < 6 → vp_in (nI (6 * j) + nI c) LL)
    (hst : St_damage G L x0 Sim) {M : Mem} {u : MS} {sz nc nr : Nat} (hSim : Sim M u sz nc nr) (hro : isO M (some x0) 14 = true) {H : Heap} {locs : List Loc} {cells slots : Nat} (hcc : cells + 1000 ≤ 600000) (hcs : slots + 60000 ≤ 7302250) (hw : lD G s m0 L M u sz H locs) {ls : Array Slot} (hl : lv_has ls 4 [(0, .ref b), (1, .ref x0), (2, .ref m0), (3, .int (nI (6 * j)))])
    (kk : ∀ (M1 : Mem) (u1 : MS) (sz1 dc dr : Nat) (H1 : Heap) (locs1 : List Loc) (ls1 : Array Slot), Sim M1 u1 sz1 (nc + dc) (nr + dr) → lD G s m0 L M1 u1 sz1 H1 locs1 → lv_has ls1 4 [(0, .ref b), (1, .ref x0), (2, .ref m0), (3, .int (nI (6 * j)))] → W p l e room_1 s m args below meth c H1 locs1 (cells + 94 + dc * 136 + dr * 110) (slots + 7265 + dc * 39857 + dr * 31184) Q (F0 m 1223 ls1 [])) :
    W p l e room_1 s m args below meth c H locs cells slots Q (F0 m 1065 ls []) := by
  have hx := hC.1
  have hb := hC.2.1
  obtain ⟨n, r, M1, u1, e1, e2, hS1⟩ := hst M u sz nc nr (xs (nI (6 * j) + (1 : Int32)).toNatClampNeg) (xs (nI (6 * j) + (2 : Int32)).toNatClampNeg) hSim
  refine lv_aload_n hx hb dL_law_1065 rfl (lv_at hl 1 rfl) ?_
  refine lv_aload_n hx hb dL_law_1066 rfl (lv_at hl 0 rfl) ?_
  refine lv_iload_n hx hb dL_law_1067 rfl (lv_at hl 3 rfl) ?_
  refine lv_iconst (v := (1 : Int32)) hx hb dL_law_1068 (by decide) ?_
  refine lv_iadd hx hb dL_law_1069 ?_
  refine va_sld hx hb hX hbl hbA hw.1.2.2.1 (hin 1 (by omega)) dL_law_1070 ?_
  refine lv_aload_n hx hb dL_law_1071 rfl (lv_at hl 0 rfl) ?_
  refine lv_iload_n hx hb dL_law_1072 rfl (lv_at hl 3 rfl) ?_
  refine lv_iconst (v := (2 : Int32)) hx hb dL_law_1073 (by decide) ?_
  refine lv_iadd hx hb dL_law_1074 ?_
  refine va_sld hx hb hX hbl hbA hw.1.2.2.1 (hin 2 (by omega)) dL_law_1075 ?_
  refine l_contC hC hw (m_runV hC hw.1 (x := some x0) (ci := 14) (N := 11) (C := RX11) (T := TX11) (n := 2) (av := [.int (xs (nI (6 * j) + (1 : Int32)).toNatClampNeg), .int (xs (nI (6 * j) + (2 : Int32)).toNatClampNeg)]) (rest := []) (c_X11_damage (G := G) (l := l) e1) gL_law_X11_damage rfl (by decide +kernel) ⟨(Nat.le_of_ble_eq_true rfl), (Nat.le_of_ble_eq_true rfl)⟩ hro rfl rfl hl.1 rfl (Nat.le_of_ble_eq_true rfl) dL_law_1076 ⟨(show cells + 0 ≤ 600000 by omega), (show slots + 0 ≤ 7302250 by omega)⟩) (fun H locs hw => ?_)
  refine lv_aload_n hx hb dL_law_1079 rfl (lv_at hl 2 rfl) ?_
  refine lv_aload_n hx hb dL_law_1080 rfl (lv_at hl 0 rfl) ?_
  refine lv_iload_n hx hb dL_law_1081 rfl (lv_at hl 3 rfl) ?_
  refine lv_iconst (v := (1 : Int32)) hx hb dL_law_1082 (by decide) ?_
  refine lv_iadd hx hb dL_law_1083 ?_
  refine va_sld hx hb hX hbl hbA hw.1.2.2.1 (hin 1 (by omega)) dL_law_1084 ?_
  refine lv_aload_n hx hb dL_law_1085 rfl (lv_at hl 0 rfl) ?_
  refine lv_iload_n hx hb dL_law_1086 rfl (lv_at hl 3 rfl) ?_
  refine lv_iconst (v := (2 : Int32)) hx hb dL_law_1087 (by decide) ?_
  refine lv_iadd hx hb dL_law_1088 ?_
  refine va_sld hx hb hX hbl hbA hw.1.2.2.1 (hin 2 (by omega)) dL_law_1089 ?_
  refine l_contM hC hw (m_runV hC hw.2.1 (x := some m0) (ci := 15) (N := 51) (C := RX12) (T := TX12) (n := 2) (av := [.int (xs (nI (6 * j) + (1 : Int32)).toNatClampNeg), .int (xs (nI (6 * j) + (2 : Int32)).toNatClampNeg)]) (rest := [.int _]) (c_X12_damage (G := G) (l := l) hw.2.2.1 e2) gL_law_X12_damage rfl (by decide +kernel) ⟨(Nat.le_of_ble_eq_true rfl), (Nat.le_of_ble_eq_true rfl)⟩ (isO_Mm _ _ _) rfl rfl hl.1 rfl (Nat.le_of_ble_eq_true rfl) dL_law_1090 ⟨(show cells + 0 + 0 ≤ 600000 by omega), (show slots + 0 + 0 ≤ 7302250 by omega)⟩) (fun H locs hw => ?_)
  refine lv_icmp_eq (tgt := 1223) hx hb dL_law_1093 (by decide) (fun _ => ?_) (fun c => absurd rfl c)
  refine W.widen (k := cells + 94 + 0 * 136 + 0 * 110) (n := slots + 7265 + 0 * 39857 + 0 * 31184) (show cells + 0 + 0 ≤ _ by omega) (show slots + 0 + 0 ≤ _ by omega) ?_
  exact kk _ _ _ 0 0 _ _ _ hS1 hw hl
set_option maxHeartbeats 4000000 in
set_option maxRecDepth 100000 in
theorem law_bearer {p : Program} {l : Launch} {e : Env} {s : State} {m : MethodId} {args : Array Value} {below : List Frame} {meth : Method} {c : Code} {Q : State → Prop} {G : wG} {L : Mem} {x0 m0 b LL j : Nat} {xs : Nat → Int32} {Sim : SimT} (hC : Cx G p s m args meth c cL_law 4 RL wsL_law) (hX : va_X b LL xs s s.heap) (hbl : b < s.heap.size) (hbA : ¬ As G (fun _ => none) s.heap.size b) (hin : ∀ c : Nat, c < 6 → vp_in (nI (6 * j) + nI c) LL)
    (hst : St_bearer G L x0 Sim) {M : Mem} {u : MS} {sz nc nr : Nat} (hSim : Sim M u sz nc nr) (hro : isO M (some x0) 14 = true) {H : Heap} {locs : List Loc} {cells slots : Nat} (hcc : cells + 1000 ≤ 600000) (hcs : slots + 60000 ≤ 7302250) (hw : lD G s m0 L M u sz H locs) {ls : Array Slot} (hl : lv_has ls 4 [(0, .ref b), (1, .ref x0), (2, .ref m0), (3, .int (nI (6 * j)))])
    (kk : ∀ (M1 : Mem) (u1 : MS) (sz1 dc dr : Nat) (H1 : Heap) (locs1 : List Loc) (ls1 : Array Slot), Sim M1 u1 sz1 (nc + dc) (nr + dr) → lD G s m0 L M1 u1 sz1 H1 locs1 → lv_has ls1 4 [(0, .ref b), (1, .ref x0), (2, .ref m0), (3, .int (nI (6 * j)))] → W p l e room_1 s m args below meth c H1 locs1 (cells + 94 + dc * 136 + dr * 110) (slots + 7265 + dc * 39857 + dr * 31184) Q (F0 m 1223 ls1 [])) :
    W p l e room_1 s m args below meth c H locs cells slots Q (F0 m 1098 ls []) := by
  have hx := hC.1
  have hb := hC.2.1
  obtain ⟨n, r, M1, u1, e1, e2, hS1⟩ := hst M u sz nc nr (xs (nI (6 * j) + (1 : Int32)).toNatClampNeg) (xs (nI (6 * j) + (2 : Int32)).toNatClampNeg) hSim
  refine lv_aload_n hx hb dL_law_1098 rfl (lv_at hl 1 rfl) ?_
  refine lv_aload_n hx hb dL_law_1099 rfl (lv_at hl 0 rfl) ?_
  refine lv_iload_n hx hb dL_law_1100 rfl (lv_at hl 3 rfl) ?_
  refine lv_iconst (v := (1 : Int32)) hx hb dL_law_1101 (by decide) ?_
  refine lv_iadd hx hb dL_law_1102 ?_
  refine va_sld hx hb hX hbl hbA hw.1.2.2.1 (hin 1 (by omega)) dL_law_1103 ?_
  refine lv_aload_n hx hb dL_law_1104 rfl (lv_at hl 0 rfl) ?_
  refine lv_iload_n hx hb dL_law_1105 rfl (lv_at hl 3 rfl) ?_
  refine lv_iconst (v := (2 : Int32)) hx hb dL_law_1106 (by decide) ?_
  refine lv_iadd hx hb dL_law_1107 ?_
  refine va_sld hx hb hX hbl hbA hw.1.2.2.1 (hin 2 (by omega)) dL_law_1108 ?_
  refine l_contC hC hw (m_runV hC hw.1 (x := some x0) (ci := 14) (N := 11) (C := RX11) (T := TX11) (n := 2) (av := [.int (xs (nI (6 * j) + (1 : Int32)).toNatClampNeg), .int (xs (nI (6 * j) + (2 : Int32)).toNatClampNeg)]) (rest := []) (c_X11_bearer (G := G) (l := l) e1) gL_law_X11_bearer rfl (by decide +kernel) ⟨(Nat.le_of_ble_eq_true rfl), (Nat.le_of_ble_eq_true rfl)⟩ hro rfl rfl hl.1 rfl (Nat.le_of_ble_eq_true rfl) dL_law_1109 ⟨(show cells + 0 ≤ 600000 by omega), (show slots + 0 ≤ 7302250 by omega)⟩) (fun H locs hw => ?_)
  refine lv_aload_n hx hb dL_law_1112 rfl (lv_at hl 2 rfl) ?_
  refine lv_aload_n hx hb dL_law_1113 rfl (lv_at hl 0 rfl) ?_
  refine lv_iload_n hx hb dL_law_1114 rfl (lv_at hl 3 rfl) ?_
  refine lv_iconst (v := (1 : Int32)) hx hb dL_law_1115 (by decide) ?_
  refine lv_iadd hx hb dL_law_1116 ?_
  refine va_sld hx hb hX hbl hbA hw.1.2.2.1 (hin 1 (by omega)) dL_law_1117 ?_
  refine lv_aload_n hx hb dL_law_1118 rfl (lv_at hl 0 rfl) ?_
  refine lv_iload_n hx hb dL_law_1119 rfl (lv_at hl 3 rfl) ?_
  refine lv_iconst (v := (2 : Int32)) hx hb dL_law_1120 (by decide) ?_
  refine lv_iadd hx hb dL_law_1121 ?_
  refine va_sld hx hb hX hbl hbA hw.1.2.2.1 (hin 2 (by omega)) dL_law_1122 ?_
  refine l_contM hC hw (m_runV hC hw.2.1 (x := some m0) (ci := 15) (N := 51) (C := RX12) (T := TX12) (n := 2) (av := [.int (xs (nI (6 * j) + (1 : Int32)).toNatClampNeg), .int (xs (nI (6 * j) + (2 : Int32)).toNatClampNeg)]) (rest := [.int _]) (c_X12_bearer (G := G) (l := l) hw.2.2.1 e2) gL_law_X12_bearer rfl (by decide +kernel) ⟨(Nat.le_of_ble_eq_true rfl), (Nat.le_of_ble_eq_true rfl)⟩ (isO_Mm _ _ _) rfl rfl hl.1 rfl (Nat.le_of_ble_eq_true rfl) dL_law_1123 ⟨(show cells + 0 + 0 ≤ 600000 by omega), (show slots + 0 + 0 ≤ 7302250 by omega)⟩) (fun H locs hw => ?_)
  refine lv_icmp_eq (tgt := 1223) hx hb dL_law_1126 (by decide) (fun _ => ?_) (fun c => absurd rfl c)
  refine W.widen (k := cells + 94 + 0 * 136 + 0 * 110) (n := slots + 7265 + 0 * 39857 + 0 * 31184) (show cells + 0 + 0 ≤ _ by omega) (show slots + 0 + 0 ≤ _ by omega) ?_
  exact kk _ _ _ 0 0 _ _ _ hS1 hw hl
set_option maxHeartbeats 4000000 in
set_option maxRecDepth 100000 in
theorem law_charge {p : Program} {l : Launch} {e : Env} {s : State} {m : MethodId} {args : Array Value} {below : List Frame} {meth : Method} {c : Code} {Q : State → Prop} {G : wG} {L : Mem} {x0 m0 b LL j : Nat} {xs : Nat → Int32} {Sim : SimT} (hC : Cx G p s m args meth c cL_law 4 RL wsL_law) (hX : va_X b LL xs s s.heap) (hbl : b < s.heap.size) (hbA : ¬ As G (fun _ => none) s.heap.size b) (hin : ∀ c : Nat, c < 6 → vp_in (nI (6 * j) + nI c) LL)
    (hst : St_charge G L x0 Sim) {M : Mem} {u : MS} {sz nc nr : Nat} (hSim : Sim M u sz nc nr) (hro : isO M (some x0) 14 = true) {H : Heap} {locs : List Loc} {cells slots : Nat} (hcc : cells + 1000 ≤ 600000) (hcs : slots + 60000 ≤ 7302250) (hw : lD G s m0 L M u sz H locs) {ls : Array Slot} (hl : lv_has ls 4 [(0, .ref b), (1, .ref x0), (2, .ref m0), (3, .int (nI (6 * j)))])
    (kk : ∀ (M1 : Mem) (u1 : MS) (sz1 dc dr : Nat) (H1 : Heap) (locs1 : List Loc) (ls1 : Array Slot), Sim M1 u1 sz1 (nc + dc) (nr + dr) → lD G s m0 L M1 u1 sz1 H1 locs1 → lv_has ls1 4 [(0, .ref b), (1, .ref x0), (2, .ref m0), (3, .int (nI (6 * j)))] → W p l e room_1 s m args below meth c H1 locs1 (cells + 94 + dc * 136 + dr * 110) (slots + 7265 + dc * 39857 + dr * 31184) Q (F0 m 1223 ls1 [])) :
    W p l e room_1 s m args below meth c H locs cells slots Q (F0 m 1131 ls []) := by
  have hx := hC.1
  have hb := hC.2.1
  obtain ⟨n, r, M1, u1, e1, e2, hS1⟩ := hst M u sz nc nr (xs (nI (6 * j) + (1 : Int32)).toNatClampNeg) hSim
  refine lv_aload_n hx hb dL_law_1131 rfl (lv_at hl 1 rfl) ?_
  refine lv_aload_n hx hb dL_law_1132 rfl (lv_at hl 0 rfl) ?_
  refine lv_iload_n hx hb dL_law_1133 rfl (lv_at hl 3 rfl) ?_
  refine lv_iconst (v := (1 : Int32)) hx hb dL_law_1134 (by decide) ?_
  refine lv_iadd hx hb dL_law_1135 ?_
  refine va_sld hx hb hX hbl hbA hw.1.2.2.1 (hin 1 (by omega)) dL_law_1136 ?_
  refine l_contC hC hw (m_runV hC hw.1 (x := some x0) (ci := 14) (N := 11) (C := RX11) (T := TX11) (n := 1) (av := [.int (xs (nI (6 * j) + (1 : Int32)).toNatClampNeg)]) (rest := []) (c_X11_charge (G := G) (l := l) e1) gL_law_X11_charge rfl (by decide +kernel) ⟨(Nat.le_of_ble_eq_true rfl), (Nat.le_of_ble_eq_true rfl)⟩ hro rfl rfl hl.1 rfl (Nat.le_of_ble_eq_true rfl) dL_law_1137 ⟨(show cells + 0 ≤ 600000 by omega), (show slots + 0 ≤ 7302250 by omega)⟩) (fun H locs hw => ?_)
  refine lv_aload_n hx hb dL_law_1140 rfl (lv_at hl 2 rfl) ?_
  refine lv_aload_n hx hb dL_law_1141 rfl (lv_at hl 0 rfl) ?_
  refine lv_iload_n hx hb dL_law_1142 rfl (lv_at hl 3 rfl) ?_
  refine lv_iconst (v := (1 : Int32)) hx hb dL_law_1143 (by decide) ?_
  refine lv_iadd hx hb dL_law_1144 ?_
  refine va_sld hx hb hX hbl hbA hw.1.2.2.1 (hin 1 (by omega)) dL_law_1145 ?_
  refine l_contM hC hw (m_runV hC hw.2.1 (x := some m0) (ci := 15) (N := 51) (C := RX12) (T := TX12) (n := 1) (av := [.int (xs (nI (6 * j) + (1 : Int32)).toNatClampNeg)]) (rest := [.int _]) (c_X12_charge (G := G) (l := l) hw.2.2.1 e2) gL_law_X12_charge rfl (by decide +kernel) ⟨(Nat.le_of_ble_eq_true rfl), (Nat.le_of_ble_eq_true rfl)⟩ (isO_Mm _ _ _) rfl rfl hl.1 rfl (Nat.le_of_ble_eq_true rfl) dL_law_1146 ⟨(show cells + 0 + 0 ≤ 600000 by omega), (show slots + 0 + 0 ≤ 7302250 by omega)⟩) (fun H locs hw => ?_)
  refine lv_icmp_eq (tgt := 1223) hx hb dL_law_1149 (by decide) (fun _ => ?_) (fun c => absurd rfl c)
  refine W.widen (k := cells + 94 + 0 * 136 + 0 * 110) (n := slots + 7265 + 0 * 39857 + 0 * 31184) (show cells + 0 + 0 ≤ _ by omega) (show slots + 0 + 0 ≤ _ by omega) ?_
  exact kk _ _ _ 0 0 _ _ _ hS1 hw hl
set_option maxHeartbeats 4000000 in
set_option maxRecDepth 100000 in
theorem law_home {p : Program} {l : Launch} {e : Env} {s : State} {m : MethodId} {args : Array Value} {below : List Frame} {meth : Method} {c : Code} {Q : State → Prop} {G : wG} {L : Mem} {x0 m0 b LL j : Nat} {xs : Nat → Int32} {Sim : SimT} (hC : Cx G p s m args meth c cL_law 4 RL wsL_law) (hX : va_X b LL xs s s.heap) (hbl : b < s.heap.size) (hbA : ¬ As G (fun _ => none) s.heap.size b) (hin : ∀ c : Nat, c < 6 → vp_in (nI (6 * j) + nI c) LL)
    (hst : St_home G L x0 Sim) {M : Mem} {u : MS} {sz nc nr : Nat} (hSim : Sim M u sz nc nr) (hro : isO M (some x0) 14 = true) {H : Heap} {locs : List Loc} {cells slots : Nat} (hcc : cells + 1000 ≤ 600000) (hcs : slots + 60000 ≤ 7302250) (hw : lD G s m0 L M u sz H locs) {ls : Array Slot} (hl : lv_has ls 4 [(0, .ref b), (1, .ref x0), (2, .ref m0), (3, .int (nI (6 * j)))])
    (kk : ∀ (M1 : Mem) (u1 : MS) (sz1 dc dr : Nat) (H1 : Heap) (locs1 : List Loc) (ls1 : Array Slot), Sim M1 u1 sz1 (nc + dc) (nr + dr) → lD G s m0 L M1 u1 sz1 H1 locs1 → lv_has ls1 4 [(0, .ref b), (1, .ref x0), (2, .ref m0), (3, .int (nI (6 * j)))] → W p l e room_1 s m args below meth c H1 locs1 (cells + 94 + dc * 136 + dr * 110) (slots + 7265 + dc * 39857 + dr * 31184) Q (F0 m 1223 ls1 [])) :
    W p l e room_1 s m args below meth c H locs cells slots Q (F0 m 1154 ls []) := by
  have hx := hC.1
  have hb := hC.2.1
  obtain ⟨n, r, e1, e2, hS1⟩ := hst M u sz nc nr hSim
  refine lv_aload_n hx hb dL_law_1154 rfl (lv_at hl 1 rfl) ?_
  refine l_contC hC hw (m_runV hC hw.1 (x := some x0) (ci := 14) (N := 11) (C := RX11) (T := TX11) (n := 0) (av := []) (rest := []) (c_X11_home (G := G) (l := l) e1) gL_law_X11_home rfl (by decide +kernel) ⟨(Nat.le_of_ble_eq_true rfl), (Nat.le_of_ble_eq_true rfl)⟩ hro rfl rfl hl.1 rfl (Nat.le_of_ble_eq_true rfl) dL_law_1155 ⟨(show cells + 0 ≤ 600000 by omega), (show slots + 0 ≤ 7302250 by omega)⟩) (fun H locs hw => ?_)
  refine lv_aload_n hx hb dL_law_1158 rfl (lv_at hl 2 rfl) ?_
  refine l_contM hC hw (m_runV hC hw.2.1 (x := some m0) (ci := 15) (N := 51) (C := RX12) (T := TX12) (n := 0) (av := []) (rest := [.int _]) (c_X12_home (G := G) (l := l) hw.2.2.1 e2) gL_law_X12_home rfl (by decide +kernel) ⟨(Nat.le_of_ble_eq_true rfl), (Nat.le_of_ble_eq_true rfl)⟩ (isO_Mm _ _ _) rfl rfl hl.1 rfl (Nat.le_of_ble_eq_true rfl) dL_law_1159 ⟨(show cells + 0 + 0 ≤ 600000 by omega), (show slots + 0 + 0 ≤ 7302250 by omega)⟩) (fun H locs hw => ?_)
  refine lv_icmp_eq (tgt := 1223) hx hb dL_law_1162 (by decide) (fun _ => ?_) (fun c => absurd rfl c)
  refine W.widen (k := cells + 94 + 0 * 136 + 0 * 110) (n := slots + 7265 + 0 * 39857 + 0 * 31184) (show cells + 0 + 0 ≤ _ by omega) (show slots + 0 + 0 ≤ _ by omega) ?_
  exact kk _ _ _ 0 0 _ _ _ hS1 hw hl
set_option maxHeartbeats 4000000 in
set_option maxRecDepth 100000 in
theorem law_letter {p : Program} {l : Launch} {e : Env} {s : State} {m : MethodId} {args : Array Value} {below : List Frame} {meth : Method} {c : Code} {Q : State → Prop} {G : wG} {L : Mem} {x0 m0 b LL j : Nat} {xs : Nat → Int32} {Sim : SimT} (hC : Cx G p s m args meth c cL_law 4 RL wsL_law) (hX : va_X b LL xs s s.heap) (hbl : b < s.heap.size) (hbA : ¬ As G (fun _ => none) s.heap.size b) (hin : ∀ c : Nat, c < 6 → vp_in (nI (6 * j) + nI c) LL)
    (hst : St_letter G L x0 Sim) {M : Mem} {u : MS} {sz nc nr : Nat} (hSim : Sim M u sz nc nr) (hro : isO M (some x0) 14 = true) {H : Heap} {locs : List Loc} {cells slots : Nat} (hcc : cells + 1000 ≤ 600000) (hcs : slots + 60000 ≤ 7302250) (hw : lD G s m0 L M u sz H locs) {ls : Array Slot} (hl : lv_has ls 4 [(0, .ref b), (1, .ref x0), (2, .ref m0), (3, .int (nI (6 * j)))])
    (kk : ∀ (M1 : Mem) (u1 : MS) (sz1 dc dr : Nat) (H1 : Heap) (locs1 : List Loc) (ls1 : Array Slot), Sim M1 u1 sz1 (nc + dc) (nr + dr) → lD G s m0 L M1 u1 sz1 H1 locs1 → lv_has ls1 4 [(0, .ref b), (1, .ref x0), (2, .ref m0), (3, .int (nI (6 * j)))] → W p l e room_1 s m args below meth c H1 locs1 (cells + 94 + dc * 136 + dr * 110) (slots + 7265 + dc * 39857 + dr * 31184) Q (F0 m 1223 ls1 [])) :
    W p l e room_1 s m args below meth c H locs cells slots Q (F0 m 1167 ls []) := by
  have hx := hC.1
  have hb := hC.2.1
  obtain ⟨n, r, M1, u1, e1, e2, hS1⟩ := hst M u sz nc nr (xs (nI (6 * j) + (1 : Int32)).toNatClampNeg) (xs (nI (6 * j) + (2 : Int32)).toNatClampNeg) (xs (nI (6 * j) + (3 : Int32)).toNatClampNeg) hSim
  refine lv_aload_n hx hb dL_law_1167 rfl (lv_at hl 1 rfl) ?_
  refine lv_aload_n hx hb dL_law_1168 rfl (lv_at hl 0 rfl) ?_
  refine lv_iload_n hx hb dL_law_1169 rfl (lv_at hl 3 rfl) ?_
  refine lv_iconst (v := (1 : Int32)) hx hb dL_law_1170 (by decide) ?_
  refine lv_iadd hx hb dL_law_1171 ?_
  refine va_sld hx hb hX hbl hbA hw.1.2.2.1 (hin 1 (by omega)) dL_law_1172 ?_
  refine lv_aload_n hx hb dL_law_1173 rfl (lv_at hl 0 rfl) ?_
  refine lv_iload_n hx hb dL_law_1174 rfl (lv_at hl 3 rfl) ?_
  refine lv_iconst (v := (2 : Int32)) hx hb dL_law_1175 (by decide) ?_
  refine lv_iadd hx hb dL_law_1176 ?_
  refine va_sld hx hb hX hbl hbA hw.1.2.2.1 (hin 2 (by omega)) dL_law_1177 ?_
  refine lv_aload_n hx hb dL_law_1178 rfl (lv_at hl 0 rfl) ?_
  refine lv_iload_n hx hb dL_law_1179 rfl (lv_at hl 3 rfl) ?_
  refine lv_iconst (v := (3 : Int32)) hx hb dL_law_1180 (by decide) ?_
  refine lv_iadd hx hb dL_law_1181 ?_
  refine va_sld hx hb hX hbl hbA hw.1.2.2.1 (hin 3 (by omega)) dL_law_1182 ?_
  refine l_contC hC hw (m_runV hC hw.1 (x := some x0) (ci := 14) (N := 11) (C := RX11) (T := TX11) (n := 3) (av := [.int (xs (nI (6 * j) + (1 : Int32)).toNatClampNeg), .int (xs (nI (6 * j) + (2 : Int32)).toNatClampNeg), .int (xs (nI (6 * j) + (3 : Int32)).toNatClampNeg)]) (rest := []) (c_X11_letter (G := G) (l := l) e1) gL_law_X11_letter rfl (by decide +kernel) ⟨(Nat.le_of_ble_eq_true rfl), (Nat.le_of_ble_eq_true rfl)⟩ hro rfl rfl hl.1 rfl (Nat.le_of_ble_eq_true rfl) dL_law_1183 ⟨(show cells + 0 ≤ 600000 by omega), (show slots + 0 ≤ 7302250 by omega)⟩) (fun H locs hw => ?_)
  refine lv_aload_n hx hb dL_law_1186 rfl (lv_at hl 2 rfl) ?_
  refine lv_aload_n hx hb dL_law_1187 rfl (lv_at hl 0 rfl) ?_
  refine lv_iload_n hx hb dL_law_1188 rfl (lv_at hl 3 rfl) ?_
  refine lv_iconst (v := (1 : Int32)) hx hb dL_law_1189 (by decide) ?_
  refine lv_iadd hx hb dL_law_1190 ?_
  refine va_sld hx hb hX hbl hbA hw.1.2.2.1 (hin 1 (by omega)) dL_law_1191 ?_
  refine lv_aload_n hx hb dL_law_1192 rfl (lv_at hl 0 rfl) ?_
  refine lv_iload_n hx hb dL_law_1193 rfl (lv_at hl 3 rfl) ?_
  refine lv_iconst (v := (2 : Int32)) hx hb dL_law_1194 (by decide) ?_
  refine lv_iadd hx hb dL_law_1195 ?_
  refine va_sld hx hb hX hbl hbA hw.1.2.2.1 (hin 2 (by omega)) dL_law_1196 ?_
  refine lv_aload_n hx hb dL_law_1197 rfl (lv_at hl 0 rfl) ?_
  refine lv_iload_n hx hb dL_law_1198 rfl (lv_at hl 3 rfl) ?_
  refine lv_iconst (v := (3 : Int32)) hx hb dL_law_1199 (by decide) ?_
  refine lv_iadd hx hb dL_law_1200 ?_
  refine va_sld hx hb hX hbl hbA hw.1.2.2.1 (hin 3 (by omega)) dL_law_1201 ?_
  refine l_contM hC hw (m_runV hC hw.2.1 (x := some m0) (ci := 15) (N := 51) (C := RX12) (T := TX12) (n := 3) (av := [.int (xs (nI (6 * j) + (1 : Int32)).toNatClampNeg), .int (xs (nI (6 * j) + (2 : Int32)).toNatClampNeg), .int (xs (nI (6 * j) + (3 : Int32)).toNatClampNeg)]) (rest := [.int _]) (c_X12_letter (G := G) (l := l) hw.2.2.1 e2) gL_law_X12_letter rfl (by decide +kernel) ⟨(Nat.le_of_ble_eq_true rfl), (Nat.le_of_ble_eq_true rfl)⟩ (isO_Mm _ _ _) rfl rfl hl.1 rfl (Nat.le_of_ble_eq_true rfl) dL_law_1202 ⟨(show cells + 0 + 0 ≤ 600000 by omega), (show slots + 0 + 0 ≤ 7302250 by omega)⟩) (fun H locs hw => ?_)
  refine lv_icmp_eq (tgt := 1223) hx hb dL_law_1205 (by decide) (fun _ => ?_) (fun c => absurd rfl c)
  refine W.widen (k := cells + 94 + 0 * 136 + 0 * 110) (n := slots + 7265 + 0 * 39857 + 0 * 31184) (show cells + 0 + 0 ≤ _ by omega) (show slots + 0 + 0 ≤ _ by omega) ?_
  exact kk _ _ _ 0 0 _ _ _ hS1 hw hl
set_option maxHeartbeats 4000000 in
set_option maxRecDepth 100000 in
theorem law_status {p : Program} {l : Launch} {e : Env} {s : State} {m : MethodId} {args : Array Value} {below : List Frame} {meth : Method} {c : Code} {Q : State → Prop} {G : wG} {L : Mem} {x0 m0 b LL j : Nat} {xs : Nat → Int32} {Sim : SimT} (hC : Cx G p s m args meth c cL_law 4 RL wsL_law) (hX : va_X b LL xs s s.heap) (hbl : b < s.heap.size) (hbA : ¬ As G (fun _ => none) s.heap.size b) (hin : ∀ c : Nat, c < 6 → vp_in (nI (6 * j) + nI c) LL)
    (hst : St_status G L x0 Sim) {M : Mem} {u : MS} {sz nc nr : Nat} (hSim : Sim M u sz nc nr) (hro : isO M (some x0) 14 = true) {H : Heap} {locs : List Loc} {cells slots : Nat} (hcc : cells + 1000 ≤ 600000) (hcs : slots + 60000 ≤ 7302250) (hw : lD G s m0 L M u sz H locs) {ls : Array Slot} (hl : lv_has ls 4 [(0, .ref b), (1, .ref x0), (2, .ref m0), (3, .int (nI (6 * j)))])
    (kk : ∀ (M1 : Mem) (u1 : MS) (sz1 dc dr : Nat) (H1 : Heap) (locs1 : List Loc) (ls1 : Array Slot), Sim M1 u1 sz1 (nc + dc) (nr + dr) → lD G s m0 L M1 u1 sz1 H1 locs1 → lv_has ls1 4 [(0, .ref b), (1, .ref x0), (2, .ref m0), (3, .int (nI (6 * j)))] → W p l e room_1 s m args below meth c H1 locs1 (cells + 94 + dc * 136 + dr * 110) (slots + 7265 + dc * 39857 + dr * 31184) Q (F0 m 1223 ls1 [])) :
    W p l e room_1 s m args below meth c H locs cells slots Q (F0 m 1210 ls []) := by
  have hx := hC.1
  have hb := hC.2.1
  obtain ⟨n, r, e1, e2, hS1⟩ := hst M u sz nc nr hSim
  refine lv_aload_n hx hb dL_law_1210 rfl (lv_at hl 1 rfl) ?_
  refine l_contC hC hw (m_runV hC hw.1 (x := some x0) (ci := 14) (N := 11) (C := RX11) (T := TX11) (n := 0) (av := []) (rest := []) (c_X11_status (G := G) (l := l) e1) gL_law_X11_status rfl (by decide +kernel) ⟨(Nat.le_of_ble_eq_true rfl), (Nat.le_of_ble_eq_true rfl)⟩ hro rfl rfl hl.1 rfl (Nat.le_of_ble_eq_true rfl) dL_law_1211 ⟨(show cells + 0 ≤ 600000 by omega), (show slots + 0 ≤ 7302250 by omega)⟩) (fun H locs hw => ?_)
  refine lv_aload_n hx hb dL_law_1214 rfl (lv_at hl 2 rfl) ?_
  refine l_contM hC hw (m_runV hC hw.2.1 (x := some m0) (ci := 15) (N := 51) (C := RX12) (T := TX12) (n := 0) (av := []) (rest := [.int _]) (c_X12_status (G := G) (l := l) hw.2.2.1 e2) gL_law_X12_status rfl (by decide +kernel) ⟨(Nat.le_of_ble_eq_true rfl), (Nat.le_of_ble_eq_true rfl)⟩ (isO_Mm _ _ _) rfl rfl hl.1 rfl (Nat.le_of_ble_eq_true rfl) dL_law_1215 ⟨(show cells + 0 + 0 ≤ 600000 by omega), (show slots + 0 + 0 ≤ 7302250 by omega)⟩) (fun H locs hw => ?_)
  refine lv_icmp_eq (tgt := 1223) hx hb dL_law_1218 (by decide) (fun _ => ?_) (fun c => absurd rfl c)
  refine W.widen (k := cells + 94 + 0 * 136 + 0 * 110) (n := slots + 7265 + 0 * 39857 + 0 * 31184) (show cells + 0 + 0 ≤ _ by omega) (show slots + 0 + 0 ≤ _ by omega) ?_
  exact kk _ _ _ 0 0 _ _ _ hS1 hw hl
