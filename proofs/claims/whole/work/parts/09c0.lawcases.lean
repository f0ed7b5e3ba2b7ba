set_option maxHeartbeats 4000000 in
set_option maxRecDepth 100000 in
theorem law_feed {p : Program} {l : Launch} {e : Env} {s : State} {m : MethodId} {args : Array Value} {below : List Frame} {meth : Method} {c : Code} {Q : State → Prop} {G : wG} {L : Mem} {x0 m0 b LL j : Nat} {xs : Nat → Int32} {Sim : SimT} (hC : Cx G p s m args meth c cL_law 4 RL wsL_law) (hX : va_X b LL xs s s.heap) (hbl : b < s.heap.size) (hbA : ¬ As G (fun _ => none) s.heap.size b) (hin : ∀ c : Nat, c < 6 → vp_in (nI (6 * j) + nI c) LL)
    (hst : St_feed G L x0 Sim) {M : Mem} {u : MS} {sz nc nr : Nat} (hSim : Sim M u sz nc nr) (hro : isO M (some x0) 14 = true) {H : Heap} {locs : List Loc} {cells slots : Nat} (hcc : cells + 1000 ≤ 600000) (hcs : slots + 60000 ≤ 7302250) (hw : lD G s m0 L M u sz H locs) {ls : Array Slot} (hl : lv_has ls 4 [(0, .ref b), (1, .ref x0), (2, .ref m0), (3, .int (nI (6 * j)))])
    (kk : ∀ (M1 : Mem) (u1 : MS) (sz1 dc dr : Nat) (H1 : Heap) (locs1 : List Loc) (ls1 : Array Slot), Sim M1 u1 sz1 (nc + dc) (nr + dr) → lD G s m0 L M1 u1 sz1 H1 locs1 → lv_has ls1 4 [(0, .ref b), (1, .ref x0), (2, .ref m0), (3, .int (nI (6 * j)))] → W p l e room_1 s m args below meth c H1 locs1 (cells + 94 + dc * 136 + dr * 110) (slots + 7265 + dc * 39857 + dr * 31184) Q (F0 m 1223 ls1 [])) :
    W p l e room_1 s m args below meth c H locs cells slots Q (F0 m 188 ls []) := by
  have hx := hC.1
  have hb := hC.2.1
  obtain ⟨n, r, M1, u1, e1, e2, hS1⟩ := hst M u sz nc nr (xs (nI (6 * j) + (1 : Int32)).toNatClampNeg) (xs (nI (6 * j) + (2 : Int32)).toNatClampNeg) (xs (nI (6 * j) + (3 : Int32)).toNatClampNeg) (xs (nI (6 * j) + (4 : Int32)).toNatClampNeg) (xs (nI (6 * j) + (5 : Int32)).toNatClampNeg) hSim
  refine lv_aload_n hx hb dL_law_188 rfl (lv_at hl 1 rfl) ?_
  refine lv_aload_n hx hb dL_law_189 rfl (lv_at hl 0 rfl) ?_
  refine lv_iload_n hx hb dL_law_190 rfl (lv_at hl 3 rfl) ?_
  refine lv_iconst (v := (1 : Int32)) hx hb dL_law_191 (by decide) ?_
  refine lv_iadd hx hb dL_law_192 ?_
  refine va_sld hx hb hX hbl hbA hw.1.2.2.1 (hin 1 (by omega)) dL_law_193 ?_
  refine lv_aload_n hx hb dL_law_194 rfl (lv_at hl 0 rfl) ?_
  refine lv_iload_n hx hb dL_law_195 rfl (lv_at hl 3 rfl) ?_
  refine lv_iconst (v := (2 : Int32)) hx hb dL_law_196 (by decide) ?_
  refine lv_iadd hx hb dL_law_197 ?_
  refine va_sld hx hb hX hbl hbA hw.1.2.2.1 (hin 2 (by omega)) dL_law_198 ?_
  refine lv_aload_n hx hb dL_law_199 rfl (lv_at hl 0 rfl) ?_
  refine lv_iload_n hx hb dL_law_200 rfl (lv_at hl 3 rfl) ?_
  refine lv_iconst (v := (3 : Int32)) hx hb dL_law_201 (by decide) ?_
  refine lv_iadd hx hb dL_law_202 ?_
  refine va_sld hx hb hX hbl hbA hw.1.2.2.1 (hin 3 (by omega)) dL_law_203 ?_
  refine lv_aload_n hx hb dL_law_204 rfl (lv_at hl 0 rfl) ?_
  refine lv_iload_n hx hb dL_law_205 rfl (lv_at hl 3 rfl) ?_
  refine lv_iconst (v := (4 : Int32)) hx hb dL_law_206 (by decide) ?_
  refine lv_iadd hx hb dL_law_207 ?_
  refine va_sld hx hb hX hbl hbA hw.1.2.2.1 (hin 4 (by omega)) dL_law_208 ?_
  refine lv_aload_n hx hb dL_law_209 rfl (lv_at hl 0 rfl) ?_
  refine lv_iload_n hx hb dL_law_210 rfl (lv_at hl 3 rfl) ?_
  refine lv_iconst (v := (5 : Int32)) hx hb dL_law_211 (by decide) ?_
  refine lv_iadd hx hb dL_law_212 ?_
  refine va_sld hx hb hX hbl hbA hw.1.2.2.1 (hin 5 (by omega)) dL_law_213 ?_
  refine l_contC hC hw (m_runV hC hw.1 (x := some x0) (ci := 14) (N := 11) (C := RX11) (T := TX11) (n := 5) (av := [.int (xs (nI (6 * j) + (1 : Int32)).toNatClampNeg), .int (xs (nI (6 * j) + (2 : Int32)).toNatClampNeg), .int (xs (nI (6 * j) + (3 : Int32)).toNatClampNeg), .int (xs (nI (6 * j) + (4 : Int32)).toNatClampNeg), .int (xs (nI (6 * j) + (5 : Int32)).toNatClampNeg)]) (rest := []) (c_X11_feed (G := G) (l := l) e1) gL_law_X11_feed rfl (by decide +kernel) ⟨(Nat.le_of_ble_eq_true rfl), (Nat.le_of_ble_eq_true rfl)⟩ hro rfl rfl hl.1 rfl (Nat.le_of_ble_eq_true rfl) dL_law_214 ⟨(show cells + 0 ≤ 600000 by omega), (show slots + 0 ≤ 7302250 by omega)⟩) (fun H locs hw => ?_)
  refine lv_aload_n hx hb dL_law_217 rfl (lv_at hl 2 rfl) ?_
  refine lv_aload_n hx hb dL_law_218 rfl (lv_at hl 0 rfl) ?_
  refine lv_iload_n hx hb dL_law_219 rfl (lv_at hl 3 rfl) ?_
  refine lv_iconst (v := (1 : Int32)) hx hb dL_law_220 (by decide) ?_
  refine lv_iadd hx hb dL_law_221 ?_
  refine va_sld hx hb hX hbl hbA hw.1.2.2.1 (hin 1 (by omega)) dL_law_222 ?_
  refine lv_aload_n hx hb dL_law_223 rfl (lv_at hl 0 rfl) ?_
  refine lv_iload_n hx hb dL_law_224 rfl (lv_at hl 3 rfl) ?_
  refine lv_iconst (v := (2 : Int32)) hx hb dL_law_225 (by decide) ?_
  refine lv_iadd hx hb dL_law_226 ?_
  refine va_sld hx hb hX hbl hbA hw.1.2.2.1 (hin 2 (by omega)) dL_law_227 ?_
  refine lv_aload_n hx hb dL_law_228 rfl (lv_at hl 0 rfl) ?_
  refine lv_iload_n hx hb dL_law_229 rfl (lv_at hl 3 rfl) ?_
  refine lv_iconst (v := (3 : Int32)) hx hb dL_law_230 (by decide) ?_
  refine lv_iadd hx hb dL_law_231 ?_
  refine va_sld hx hb hX hbl hbA hw.1.2.2.1 (hin 3 (by omega)) dL_law_232 ?_
  refine lv_aload_n hx hb dL_law_233 rfl (lv_at hl 0 rfl) ?_
  refine lv_iload_n hx hb dL_law_234 rfl (lv_at hl 3 rfl) ?_
  refine lv_iconst (v := (4 : Int32)) hx hb dL_law_235 (by decide) ?_
  refine lv_iadd hx hb dL_law_236 ?_
  refine va_sld hx hb hX hbl hbA hw.1.2.2.1 (hin 4 (by omega)) dL_law_237 ?_
  refine lv_aload_n hx hb dL_law_238 rfl (lv_at hl 0 rfl) ?_
  refine lv_iload_n hx hb dL_law_239 rfl (lv_at hl 3 rfl) ?_
  refine lv_iconst (v := (5 : Int32)) hx hb dL_law_240 (by decide) ?_
  refine lv_iadd hx hb dL_law_241 ?_
  refine va_sld hx hb hX hbl hbA hw.1.2.2.1 (hin 5 (by omega)) dL_law_242 ?_
  refine l_contM hC hw (m_runV hC hw.2.1 (x := some m0) (ci := 15) (N := 51) (C := RX12) (T := TX12) (n := 5) (av := [.int (xs (nI (6 * j) + (1 : Int32)).toNatClampNeg), .int (xs (nI (6 * j) + (2 : Int32)).toNatClampNeg), .int (xs (nI (6 * j) + (3 : Int32)).toNatClampNeg), .int (xs (nI (6 * j) + (4 : Int32)).toNatClampNeg), .int (xs (nI (6 * j) + (5 : Int32)).toNatClampNeg)]) (rest := [.int _]) (c_X12_feed (G := G) (l := l) hw.2.2.1 e2) gL_law_X12_feed rfl (by decide +kernel) ⟨(Nat.le_of_ble_eq_true rfl), (Nat.le_of_ble_eq_true rfl)⟩ (isO_Mm _ _ _) rfl rfl hl.1 rfl (Nat.le_of_ble_eq_true rfl) dL_law_243 ⟨(show cells + 0 + 0 ≤ 600000 by omega), (show slots + 0 + 0 ≤ 7302250 by omega)⟩) (fun H locs hw => ?_)
  refine lv_icmp_eq (tgt := 1223) hx hb dL_law_246 (by decide) (fun _ => ?_) (fun c => absurd rfl c)
  refine W.widen (k := cells + 94 + 0 * 136 + 0 * 110) (n := slots + 7265 + 0 * 39857 + 0 * 31184) (show cells + 0 + 0 ≤ _ by omega) (show slots + 0 + 0 ≤ _ by omega) ?_
  exact kk _ _ _ 0 0 _ _ _ hS1 hw hl
set_option maxHeartbeats 4000000 in
set_option maxRecDepth 100000 in
theorem law_end {p : Program} {l : Launch} {e : Env} {s : State} {m : MethodId} {args : Array Value} {below : List Frame} {meth : Method} {c : Code} {Q : State → Prop} {G : wG} {L : Mem} {x0 m0 b LL j : Nat} {xs : Nat → Int32} {Sim : SimT} (hC : Cx G p s m args meth c cL_law 4 RL wsL_law) (hX : va_X b LL xs s s.heap) (hbl : b < s.heap.size) (hbA : ¬ As G (fun _ => none) s.heap.size b) (hin : ∀ c : Nat, c < 6 → vp_in (nI (6 * j) + nI c) LL)
    (hst : St_end G L x0 Sim) {M : Mem} {u : MS} {sz nc nr : Nat} (hSim : Sim M u sz nc nr) (hro : isO M (some x0) 14 = true) {H : Heap} {locs : List Loc} {cells slots : Nat} (hcc : cells + 1000 ≤ 600000) (hcs : slots + 60000 ≤ 7302250) (hw : lD G s m0 L M u sz H locs) {ls : Array Slot} (hl : lv_has ls 4 [(0, .ref b), (1, .ref x0), (2, .ref m0), (3, .int (nI (6 * j)))])
    (kk : ∀ (M1 : Mem) (u1 : MS) (sz1 dc dr : Nat) (H1 : Heap) (locs1 : List Loc) (ls1 : Array Slot), Sim M1 u1 sz1 (nc + dc) (nr + dr) → lD G s m0 L M1 u1 sz1 H1 locs1 → lv_has ls1 4 [(0, .ref b), (1, .ref x0), (2, .ref m0), (3, .int (nI (6 * j)))] → W p l e room_1 s m args below meth c H1 locs1 (cells + 94 + dc * 136 + dr * 110) (slots + 7265 + dc * 39857 + dr * 31184) Q (F0 m 1223 ls1 [])) :
    W p l e room_1 s m args below meth c H locs cells slots Q (F0 m 251 ls []) := by
  have hx := hC.1
  have hb := hC.2.1
  obtain ⟨n, r, M1, u1, e1, e2, hS1⟩ := hst M u sz nc nr (xs (nI (6 * j) + (1 : Int32)).toNatClampNeg) hSim
  refine lv_aload_n hx hb dL_law_251 rfl (lv_at hl 1 rfl) ?_
  refine lv_aload_n hx hb dL_law_252 rfl (lv_at hl 0 rfl) ?_
  refine lv_iload_n hx hb dL_law_253 rfl (lv_at hl 3 rfl) ?_
  refine lv_iconst (v := (1 : Int32)) hx hb dL_law_254 (by decide) ?_
  refine lv_iadd hx hb dL_law_255 ?_
  refine va_sld hx hb hX hbl hbA hw.1.2.2.1 (hin 1 (by omega)) dL_law_256 ?_
  refine l_contC hC hw (m_runV hC hw.1 (x := some x0) (ci := 14) (N := 11) (C := RX11) (T := TX11) (n := 1) (av := [.int (xs (nI (6 * j) + (1 : Int32)).toNatClampNeg)]) (rest := []) (c_X11_end (G := G) (l := l) e1) gL_law_X11_end rfl (by decide +kernel) ⟨(Nat.le_of_ble_eq_true rfl), (Nat.le_of_ble_eq_true rfl)⟩ hro rfl rfl hl.1 rfl (Nat.le_of_ble_eq_true rfl) dL_law_257 ⟨(show cells + 0 ≤ 600000 by omega), (show slots + 0 ≤ 7302250 by omega)⟩) (fun H locs hw => ?_)
  refine lv_aload_n hx hb dL_law_260 rfl (lv_at hl 2 rfl) ?_
  refine lv_aload_n hx hb dL_law_261 rfl (lv_at hl 0 rfl) ?_
  refine lv_iload_n hx hb dL_law_262 rfl (lv_at hl 3 rfl) ?_
  refine lv_iconst (v := (1 : Int32)) hx hb dL_law_263 (by decide) ?_
  refine lv_iadd hx hb dL_law_264 ?_
  refine va_sld hx hb hX hbl hbA hw.1.2.2.1 (hin 1 (by omega)) dL_law_265 ?_
  refine l_contM hC hw (m_runV hC hw.2.1 (x := some m0) (ci := 15) (N := 51) (C := RX12) (T := TX12) (n := 1) (av := [.int (xs (nI (6 * j) + (1 : Int32)).toNatClampNeg)]) (rest := [.int _]) (c_X12_end (G := G) (l := l) hw.2.2.1 e2) gL_law_X12_end rfl (by decide +kernel) ⟨(Nat.le_of_ble_eq_true rfl), (Nat.le_of_ble_eq_true rfl)⟩ (isO_Mm _ _ _) rfl rfl hl.1 rfl (Nat.le_of_ble_eq_true rfl) dL_law_266 ⟨(show cells + 0 + 0 ≤ 600000 by omega), (show slots + 0 + 0 ≤ 7302250 by omega)⟩) (fun H locs hw => ?_)
  refine lv_icmp_eq (tgt := 1223) hx hb dL_law_269 (by decide) (fun _ => ?_) (fun c => absurd rfl c)
  refine W.widen (k := cells + 94 + 0 * 136 + 0 * 110) (n := slots + 7265 + 0 * 39857 + 0 * 31184) (show cells + 0 + 0 ≤ _ by omega) (show slots + 0 + 0 ≤ _ by omega) ?_
  exact kk _ _ _ 0 0 _ _ _ hS1 hw hl
set_option maxHeartbeats 4000000 in
set_option maxRecDepth 100000 in
theorem law_thing {p : Program} {l : Launch} {e : Env} {s : State} {m : MethodId} {args : Array Value} {below : List Frame} {meth : Method} {c : Code} {Q : State → Prop} {G : wG} {L : Mem} {x0 m0 b LL j : Nat} {xs : Nat → Int32} {Sim : SimT} (hC : Cx G p s m args meth c cL_law 4 RL wsL_law) (hX : va_X b LL xs s s.heap) (hbl : b < s.heap.size) (hbA : ¬ As G (fun _ => none) s.heap.size b) (hin : ∀ c : Nat, c < 6 → vp_in (nI (6 * j) + nI c) LL)
    (hst : St_thing G L x0 Sim) {M : Mem} {u : MS} {sz nc nr : Nat} (hSim : Sim M u sz nc nr) (hro : isO M (some x0) 14 = true) {H : Heap} {locs : List Loc} {cells slots : Nat} (hcc : cells + 1000 ≤ 600000) (hcs : slots + 60000 ≤ 7302250) (hw : lD G s m0 L M u sz H locs) {ls : Array Slot} (hl : lv_has ls 4 [(0, .ref b), (1, .ref x0), (2, .ref m0), (3, .int (nI (6 * j)))])
    (kk : ∀ (M1 : Mem) (u1 : MS) (sz1 dc dr : Nat) (H1 : Heap) (locs1 : List Loc) (ls1 : Array Slot), Sim M1 u1 sz1 (nc + dc) (nr + dr) → lD G s m0 L M1 u1 sz1 H1 locs1 → lv_has ls1 4 [(0, .ref b), (1, .ref x0), (2, .ref m0), (3, .int (nI (6 * j)))] → W p l e room_1 s m args below meth c H1 locs1 (cells + 94 + dc * 136 + dr * 110) (slots + 7265 + dc * 39857 + dr * 31184) Q (F0 m 1223 ls1 [])) :
    W p l e room_1 s m args below meth c H locs cells slots Q (F0 m 274 ls []) := by
  have hx := hC.1
  have hb := hC.2.1
  obtain ⟨n, r, M1, sz1, u1, e1, e2, hS1⟩ := hst M u sz nc nr hSim
  refine lv_aload_n hx hb dL_law_274 rfl (lv_at hl 1 rfl) ?_
  refine l_contC hC hw (m_runV hC hw.1 (x := some x0) (ci := 14) (N := 11) (C := RX11) (T := TX11) (n := 0) (av := []) (rest := []) (c_X11_thing (G := G) (l := l) e1) gL_law_X11_thing rfl (by decide +kernel) ⟨(Nat.le_of_ble_eq_true rfl), (Nat.le_of_ble_eq_true rfl)⟩ hro rfl rfl hl.1 rfl (Nat.le_of_ble_eq_true rfl) dL_law_275 ⟨(show cells + 31 ≤ 600000 by omega), (show slots + 7265 ≤ 7302250 by omega)⟩) (fun H locs hw => ?_)
  refine lv_aload_n hx hb dL_law_278 rfl (lv_at hl 2 rfl) ?_
  refine l_contM hC hw (m_runV hC hw.2.1 (x := some m0) (ci := 15) (N := 51) (C := RX12) (T := TX12) (n := 0) (av := []) (rest := [.int _]) (c_X12_thing (G := G) (l := l) hw.2.2.1 e2) gL_law_X12_thing rfl (by decide +kernel) ⟨(Nat.le_of_ble_eq_true rfl), (Nat.le_of_ble_eq_true rfl)⟩ (isO_Mm _ _ _) rfl rfl hl.1 rfl (Nat.le_of_ble_eq_true rfl) dL_law_279 ⟨(show cells + 31 + 0 ≤ 600000 by omega), (show slots + 7265 + 0 ≤ 7302250 by omega)⟩) (fun H locs hw => ?_)
  refine lv_icmp_eq (tgt := 1223) hx hb dL_law_282 (by decide) (fun _ => ?_) (fun c => absurd rfl c)
  refine W.widen (k := cells + 94 + 0 * 136 + 0 * 110) (n := slots + 7265 + 0 * 39857 + 0 * 31184) (show cells + 31 + 0 ≤ _ by omega) (show slots + 7265 + 0 ≤ _ by omega) ?_
  exact kk _ _ _ 0 0 _ _ _ hS1 hw hl
set_option maxHeartbeats 4000000 in
set_option maxRecDepth 100000 in
theorem law_house {p : Program} {l : Launch} {e : Env} {s : State} {m : MethodId} {args : Array Value} {below : List Frame} {meth : Method} {c : Code} {Q : State → Prop} {G : wG} {L : Mem} {x0 m0 b LL j : Nat} {xs : Nat → Int32} {Sim : SimT} (hC : Cx G p s m args meth c cL_law 4 RL wsL_law) (hX : va_X b LL xs s s.heap) (hbl : b < s.heap.size) (hbA : ¬ As G (fun _ => none) s.heap.size b) (hin : ∀ c : Nat, c < 6 → vp_in (nI (6 * j) + nI c) LL)
    (hst : St_house G L x0 Sim) {M : Mem} {u : MS} {sz nc nr : Nat} (hSim : Sim M u sz nc nr) (hro : isO M (some x0) 14 = true) {H : Heap} {locs : List Loc} {cells slots : Nat} (hcc : cells + 1000 ≤ 600000) (hcs : slots + 60000 ≤ 7302250) (hw : lD G s m0 L M u sz H locs) {ls : Array Slot} (hl : lv_has ls 4 [(0, .ref b), (1, .ref x0), (2, .ref m0), (3, .int (nI (6 * j)))])
    (kk : ∀ (M1 : Mem) (u1 : MS) (sz1 dc dr : Nat) (H1 : Heap) (locs1 : List Loc) (ls1 : Array Slot), Sim M1 u1 sz1 (nc + dc) (nr + dr) → lD G s m0 L M1 u1 sz1 H1 locs1 → lv_has ls1 4 [(0, .ref b), (1, .ref x0), (2, .ref m0), (3, .int (nI (6 * j)))] → W p l e room_1 s m args below meth c H1 locs1 (cells + 94 + dc * 136 + dr * 110) (slots + 7265 + dc * 39857 + dr * 31184) Q (F0 m 1223 ls1 [])) :
    W p l e room_1 s m args below meth c H locs cells slots Q (F0 m 287 ls []) := by
  have hx := hC.1
  have hb := hC.2.1
  obtain ⟨n, r, M1, sz1, u1, e1, e2, hS1⟩ := hst M u sz nc nr hSim
  refine lv_aload_n hx hb dL_law_287 rfl (lv_at hl 1 rfl) ?_
  refine l_contC hC hw (m_runV hC hw.1 (x := some x0) (ci := 14) (N := 11) (C := RX11) (T := TX11) (n := 0) (av := []) (rest := []) (c_X11_house (G := G) (l := l) e1) gL_law_X11_house rfl (by decide +kernel) ⟨(Nat.le_of_ble_eq_true rfl), (Nat.le_of_ble_eq_true rfl)⟩ hro rfl rfl hl.1 rfl (Nat.le_of_ble_eq_true rfl) dL_law_288 ⟨(show cells + 13 ≤ 600000 by omega), (show slots + 2557 ≤ 7302250 by omega)⟩) (fun H locs hw => ?_)
  refine lv_aload_n hx hb dL_law_291 rfl (lv_at hl 2 rfl) ?_
  refine l_contM hC hw (m_runV hC hw.2.1 (x := some m0) (ci := 15) (N := 51) (C := RX12) (T := TX12) (n := 0) (av := []) (rest := [.int _]) (c_X12_house (G := G) (l := l) hw.2.2.1 e2) gL_law_X12_house rfl (by decide +kernel) ⟨(Nat.le_of_ble_eq_true rfl), (Nat.le_of_ble_eq_true rfl)⟩ (isO_Mm _ _ _) rfl rfl hl.1 rfl (Nat.le_of_ble_eq_true rfl) dL_law_292 ⟨(show cells + 13 + 0 ≤ 600000 by omega), (show slots + 2557 + 0 ≤ 7302250 by omega)⟩) (fun H locs hw => ?_)
  refine lv_icmp_eq (tgt := 1223) hx hb dL_law_295 (by decide) (fun _ => ?_) (fun c => absurd rfl c)
  refine W.widen (k := cells + 94 + 0 * 136 + 0 * 110) (n := slots + 7265 + 0 * 39857 + 0 * 31184) (show cells + 13 + 0 ≤ _ by omega) (show slots + 2557 + 0 ≤ _ by omega) ?_
  exact kk _ _ _ 0 0 _ _ _ hS1 hw hl
set_option maxHeartbeats 4000000 in
set_option maxRecDepth 100000 in
theorem law_courier {p : Program} {l : Launch} {e : Env} {s : State} {m : MethodId} {args : Array Value} {below : List Frame} {meth : Method} {c : Code} {Q : State → Prop} {G : wG} {L : Mem} {x0 m0 b LL j : Nat} {xs : Nat → Int32} {Sim : SimT} (hC : Cx G p s m args meth c cL_law 4 RL wsL_law) (hX : va_X b LL xs s s.heap) (hbl : b < s.heap.size) (hbA : ¬ As G (fun _ => none) s.heap.size b) (hin : ∀ c : Nat, c < 6 → vp_in (nI (6 * j) + nI c) LL)
    (hst : St_courier G L x0 Sim) {M : Mem} {u : MS} {sz nc nr : Nat} (hSim : Sim M u sz nc nr) (hro : isO M (some x0) 14 = true) {H : Heap} {locs : List Loc} {cells slots : Nat} (hcc : cells + 1000 ≤ 600000) (hcs : slots + 60000 ≤ 7302250) (hw : lD G s m0 L M u sz H locs) {ls : Array Slot} (hl : lv_has ls 4 [(0, .ref b), (1, .ref x0), (2, .ref m0), (3, .int (nI (6 * j)))])
    (kk : ∀ (M1 : Mem) (u1 : MS) (sz1 dc dr : Nat) (H1 : Heap) (locs1 : List Loc) (ls1 : Array Slot), Sim M1 u1 sz1 (nc + dc) (nr + dr) → lD G s m0 L M1 u1 sz1 H1 locs1 → lv_has ls1 4 [(0, .ref b), (1, .ref x0), (2, .ref m0), (3, .int (nI (6 * j)))] → W p l e room_1 s m args below meth c H1 locs1 (cells + 94 + dc * 136 + dr * 110) (slots + 7265 + dc * 39857 + dr * 31184) Q (F0 m 1223 ls1 [])) :
    W p l e room_1 s m args below meth c H locs cells slots Q (F0 m 300 ls []) := by
  have hx := hC.1
  have hb := hC.2.1
  obtain ⟨n, r, M1, sz1, u1, big, e1, e2, hS1⟩ := hst M u sz nc nr hSim
  refine lv_aload_n hx hb dL_law_300 rfl (lv_at hl 1 rfl) ?_
  refine l_contC hC hw (m_runV hC hw.1 (x := some x0) (ci := 14) (N := 11) (C := RX11) (T := TX11) (n := 0) (av := []) (rest := []) (c_X11_courier (G := G) (l := l) e1) gL_law_X11_courier rfl (by decide +kernel) ⟨(Nat.le_of_ble_eq_true rfl), (Nat.le_of_ble_eq_true rfl)⟩ hro rfl rfl hl.1 rfl (Nat.le_of_ble_eq_true rfl) dL_law_301 ⟨(show cells + (if big then 136 else 0) ≤ 600000 by cases big <;> simp <;> omega), (show slots + (if big then 39857 else 0) ≤ 7302250 by cases big <;> simp <;> omega)⟩) (fun H locs hw => ?_)
  refine lv_aload_n hx hb dL_law_304 rfl (lv_at hl 2 rfl) ?_
  refine l_contM hC hw (m_runV hC hw.2.1 (x := some m0) (ci := 15) (N := 51) (C := RX12) (T := TX12) (n := 0) (av := []) (rest := [.int _]) (c_X12_courier (G := G) (l := l) hw.2.2.1 e2) gL_law_X12_courier rfl (by decide +kernel) ⟨(Nat.le_of_ble_eq_true rfl), (Nat.le_of_ble_eq_true rfl)⟩ (isO_Mm _ _ _) rfl rfl hl.1 rfl (Nat.le_of_ble_eq_true rfl) dL_law_305 ⟨(show cells + (if big then 136 else 0) + 0 ≤ 600000 by cases big <;> simp <;> omega), (show slots + (if big then 39857 else 0) + 0 ≤ 7302250 by cases big <;> simp <;> omega)⟩) (fun H locs hw => ?_)
  refine lv_icmp_eq (tgt := 1223) hx hb dL_law_308 (by decide) (fun _ => ?_) (fun c => absurd rfl c)
  refine W.widen (k := cells + 94 + (if big then 1 else 0) * 136 + 0 * 110) (n := slots + 7265 + (if big then 1 else 0) * 39857 + 0 * 31184) (show cells + (if big then 136 else 0) + 0 ≤ _ by cases big <;> simp <;> omega) (show slots + (if big then 39857 else 0) + 0 ≤ _ by cases big <;> simp <;> omega) ?_
  exact kk _ _ _ (if big then 1 else 0) 0 _ _ _ hS1 hw hl
set_option maxHeartbeats 4000000 in
set_option maxRecDepth 100000 in
theorem law_loan {p : Program} {l : Launch} {e : Env} {s : State} {m : MethodId} {args : Array Value} {below : List Frame} {meth : Method} {c : Code} {Q : State → Prop} {G : wG} {L : Mem} {x0 m0 b LL j : Nat} {xs : Nat → Int32} {Sim : SimT} (hC : Cx G p s m args meth c cL_law 4 RL wsL_law) (hX : va_X b LL xs s s.heap) (hbl : b < s.heap.size) (hbA : ¬ As G (fun _ => none) s.heap.size b) (hin : ∀ c : Nat, c < 6 → vp_in (nI (6 * j) + nI c) LL)
    (hst : St_loan G L x0 Sim) {M : Mem} {u : MS} {sz nc nr : Nat} (hSim : Sim M u sz nc nr) (hro : isO M (some x0) 14 = true) {H : Heap} {locs : List Loc} {cells slots : Nat} (hcc : cells + 1000 ≤ 600000) (hcs : slots + 60000 ≤ 7302250) (hw : lD G s m0 L M u sz H locs) {ls : Array Slot} (hl : lv_has ls 4 [(0, .ref b), (1, .ref x0), (2, .ref m0), (3, .int (nI (6 * j)))])
    (kk : ∀ (M1 : Mem) (u1 : MS) (sz1 dc dr : Nat) (H1 : Heap) (locs1 : List Loc) (ls1 : Array Slot), Sim M1 u1 sz1 (nc + dc) (nr + dr) → lD G s m0 L M1 u1 sz1 H1 locs1 → lv_has ls1 4 [(0, .ref b), (1, .ref x0), (2, .ref m0), (3, .int (nI (6 * j)))] → W p l e room_1 s m args below meth c H1 locs1 (cells + 94 + dc * 136 + dr * 110) (slots + 7265 + dc * 39857 + dr * 31184) Q (F0 m 1223 ls1 [])) :
    W p l e room_1 s m args below meth c H locs cells slots Q (F0 m 313 ls []) := by
  have hx := hC.1
  have hb := hC.2.1
  obtain ⟨n, r, M1, sz1, u1, e1, e2, hS1⟩ := hst M u sz nc nr (xs (nI (6 * j) + (1 : Int32)).toNatClampNeg) hSim
  refine lv_aload_n hx hb dL_law_313 rfl (lv_at hl 1 rfl) ?_
  refine lv_aload_n hx hb dL_law_314 rfl (lv_at hl 0 rfl) ?_
  refine lv_iload_n hx hb dL_law_315 rfl (lv_at hl 3 rfl) ?_
  refine lv_iconst (v := (1 : Int32)) hx hb dL_law_316 (by decide) ?_
  refine lv_iadd hx hb dL_law_317 ?_
  refine va_sld hx hb hX hbl hbA hw.1.2.2.1 (hin 1 (by omega)) dL_law_318 ?_
  refine l_contC hC hw (m_runV hC hw.1 (x := some x0) (ci := 14) (N := 11) (C := RX11) (T := TX11) (n := 1) (av := [.int (xs (nI (6 * j) + (1 : Int32)).toNatClampNeg)]) (rest := []) (c_X11_loan (G := G) (l := l) e1) gL_law_X11_loan rfl (by decide +kernel) ⟨(Nat.le_of_ble_eq_true rfl), (Nat.le_of_ble_eq_true rfl)⟩ hro rfl rfl hl.1 rfl (Nat.le_of_ble_eq_true rfl) dL_law_319 ⟨(show cells + 94 ≤ 600000 by omega), (show slots + 4537 ≤ 7302250 by omega)⟩) (fun H locs hw => ?_)
  refine lv_aload_n hx hb dL_law_322 rfl (lv_at hl 2 rfl) ?_
  refine lv_aload_n hx hb dL_law_323 rfl (lv_at hl 0 rfl) ?_
  refine lv_iload_n hx hb dL_law_324 rfl (lv_at hl 3 rfl) ?_
  refine lv_iconst (v := (1 : Int32)) hx hb dL_law_325 (by decide) ?_
  refine lv_iadd hx hb dL_law_326 ?_
  refine va_sld hx hb hX hbl hbA hw.1.2.2.1 (hin 1 (by omega)) dL_law_327 ?_
  refine l_contM hC hw (m_runV hC hw.2.1 (x := some m0) (ci := 15) (N := 51) (C := RX12) (T := TX12) (n := 1) (av := [.int (xs (nI (6 * j) + (1 : Int32)).toNatClampNeg)]) (rest := [.int _]) (c_X12_loan (G := G) (l := l) hw.2.2.1 e2) gL_law_X12_loan rfl (by decide +kernel) ⟨(Nat.le_of_ble_eq_true rfl), (Nat.le_of_ble_eq_true rfl)⟩ (isO_Mm _ _ _) rfl rfl hl.1 rfl (Nat.le_of_ble_eq_true rfl) dL_law_328 ⟨(show cells + 94 + 0 ≤ 600000 by omega), (show slots + 4537 + 0 ≤ 7302250 by omega)⟩) (fun H locs hw => ?_)
  refine lv_icmp_eq (tgt := 1223) hx hb dL_law_331 (by decide) (fun _ => ?_) (fun c => absurd rfl c)
  refine W.widen (k := cells + 94 + 0 * 136 + 0 * 110) (n := slots + 7265 + 0 * 39857 + 0 * 31184) (show cells + 94 + 0 ≤ _ by omega) (show slots + 4537 + 0 ≤ _ by omega) ?_
  exact kk _ _ _ 0 0 _ _ _ hS1 hw hl
set_option maxHeartbeats 4000000 in
set_option maxRecDepth 100000 in
theorem law_report {p : Program} {l : Launch} {e : Env} {s : State} {m : MethodId} {args : Array Value} {below : List Frame} {meth : Method} {c : Code} {Q : State → Prop} {G : wG} {L : Mem} {x0 m0 b LL j : Nat} {xs : Nat → Int32} {Sim : SimT} (hC : Cx G p s m args meth c cL_law 4 RL wsL_law) (hX : va_X b LL xs s s.heap) (hbl : b < s.heap.size) (hbA : ¬ As G (fun _ => none) s.heap.size b) (hin : ∀ c : Nat, c < 6 → vp_in (nI (6 * j) + nI c) LL)
    (hst : St_report G L x0 Sim) {M : Mem} {u : MS} {sz nc nr : Nat} (hSim : Sim M u sz nc nr) (hro : isO M (some x0) 14 = true) {H : Heap} {locs : List Loc} {cells slots : Nat} (hcc : cells + 1000 ≤ 600000) (hcs : slots + 60000 ≤ 7302250) (hw : lD G s m0 L M u sz H locs) {ls : Array Slot} (hl : lv_has ls 4 [(0, .ref b), (1, .ref x0), (2, .ref m0), (3, .int (nI (6 * j)))])
    (kk : ∀ (M1 : Mem) (u1 : MS) (sz1 dc dr : Nat) (H1 : Heap) (locs1 : List Loc) (ls1 : Array Slot), Sim M1 u1 sz1 (nc + dc) (nr + dr) → lD G s m0 L M1 u1 sz1 H1 locs1 → lv_has ls1 4 [(0, .ref b), (1, .ref x0), (2, .ref m0), (3, .int (nI (6 * j)))] → W p l e room_1 s m args below meth c H1 locs1 (cells + 94 + dc * 136 + dr * 110) (slots + 7265 + dc * 39857 + dr * 31184) Q (F0 m 1223 ls1 [])) :
    W p l e room_1 s m args below meth c H locs cells slots Q (F0 m 336 ls []) := by
  have hx := hC.1
  have hb := hC.2.1
  obtain ⟨n, r, M1, sz1, u1, big, e1, e2, hS1⟩ := hst M u sz nc nr (xs (nI (6 * j) + (1 : Int32)).toNatClampNeg) (xs (nI (6 * j) + (2 : Int32)).toNatClampNeg) hSim
  refine lv_aload_n hx hb dL_law_336 rfl (lv_at hl 1 rfl) ?_
  refine lv_aload_n hx hb dL_law_337 rfl (lv_at hl 0 rfl) ?_
  refine lv_iload_n hx hb dL_law_338 rfl (lv_at hl 3 rfl) ?_
  refine lv_iconst (v := (1 : Int32)) hx hb dL_law_339 (by decide) ?_
  refine lv_iadd hx hb dL_law_340 ?_
  refine va_sld hx hb hX hbl hbA hw.1.2.2.1 (hin 1 (by omega)) dL_law_341 ?_
  refine lv_aload_n hx hb dL_law_342 rfl (lv_at hl 0 rfl) ?_
  refine lv_iload_n hx hb dL_law_343 rfl (lv_at hl 3 rfl) ?_
  refine lv_iconst (v := (2 : Int32)) hx hb dL_law_344 (by decide) ?_
  refine lv_iadd hx hb dL_law_345 ?_
  refine va_sld hx hb hX hbl hbA hw.1.2.2.1 (hin 2 (by omega)) dL_law_346 ?_
  refine l_contC hC hw (m_runV hC hw.1 (x := some x0) (ci := 14) (N := 11) (C := RX11) (T := TX11) (n := 2) (av := [.int (xs (nI (6 * j) + (1 : Int32)).toNatClampNeg), .int (xs (nI (6 * j) + (2 : Int32)).toNatClampNeg)]) (rest := []) (c_X11_report (G := G) (l := l) e1) gL_law_X11_report rfl (by decide +kernel) ⟨(Nat.le_of_ble_eq_true rfl), (Nat.le_of_ble_eq_true rfl)⟩ hro rfl rfl hl.1 rfl (Nat.le_of_ble_eq_true rfl) dL_law_347 ⟨(show cells + (if big then 110 else 0) ≤ 600000 by cases big <;> simp <;> omega), (show slots + (if big then 31184 else 0) ≤ 7302250 by cases big <;> simp <;> omega)⟩) (fun H locs hw => ?_)
  refine lv_aload_n hx hb dL_law_350 rfl (lv_at hl 2 rfl) ?_
  refine lv_aload_n hx hb dL_law_351 rfl (lv_at hl 0 rfl) ?_
  refine lv_iload_n hx hb dL_law_352 rfl (lv_at hl 3 rfl) ?_
  refine lv_iconst (v := (1 : Int32)) hx hb dL_law_353 (by decide) ?_
  refine lv_iadd hx hb dL_law_354 ?_
  refine va_sld hx hb hX hbl hbA hw.1.2.2.1 (hin 1 (by omega)) dL_law_355 ?_
  refine lv_aload_n hx hb dL_law_356 rfl (lv_at hl 0 rfl) ?_
  refine lv_iload_n hx hb dL_law_357 rfl (lv_at hl 3 rfl) ?_
  refine lv_iconst (v := (2 : Int32)) hx hb dL_law_358 (by decide) ?_
  refine lv_iadd hx hb dL_law_359 ?_
  refine va_sld hx hb hX hbl hbA hw.1.2.2.1 (hin 2 (by omega)) dL_law_360 ?_
  refine l_contM hC hw (m_runV hC hw.2.1 (x := some m0) (ci := 15) (N := 51) (C := RX12) (T := TX12) (n := 2) (av := [.int (xs (nI (6 * j) + (1 : Int32)).toNatClampNeg), .int (xs (nI (6 * j) + (2 : Int32)).toNatClampNeg)]) (rest := [.int _]) (c_X12_report (G := G) (l := l) hw.2.2.1 e2) gL_law_X12_report rfl (by decide +kernel) ⟨(Nat.le_of_ble_eq_true rfl), (Nat.le_of_ble_eq_true rfl)⟩ (isO_Mm _ _ _) rfl rfl hl.1 rfl (Nat.le_of_ble_eq_true rfl) dL_law_361 ⟨(show cells + (if big then 110 else 0) + 0 ≤ 600000 by cases big <;> simp <;> omega), (show slots + (if big then 31184 else 0) + 0 ≤ 7302250 by cases big <;> simp <;> omega)⟩) (fun H locs hw => ?_)
  refine lv_icmp_eq (tgt := 1223) hx hb dL_law_364 (by decide) (fun _ => ?_) (fun c => absurd rfl c)
  refine W.widen (k := cells + 94 + 0 * 136 + (if big then 1 else 0) * 110) (n := slots + 7265 + 0 * 39857 + (if big then 1 else 0) * 31184) (show cells + (if big then 110 else 0) + 0 ≤ _ by cases big <;> simp <;> omega) (show slots + (if big then 31184 else 0) + 0 ≤ _ by cases big <;> simp <;> omega) ?_
  exact kk _ _ _ 0 (if big then 1 else 0) _ _ _ hS1 hw hl
