/-! THE LAW: its loop -/
theorem lw_iI (n : Nat) : Int32.ofNat n = iI (n : Int) := by
  show Int32.ofNat n = Int32.ofInt n
  rw [Int32.ofInt_eq_ofNat]
/-- the loop's test -/
theorem lw_test {j LL : Nat} (hj : 6 * j ≤ LL) (hL : LL ≤ 3072) : (Int32.ofNat LL - 6 < nI (6 * j)) ↔ LL < 6 * j + 6 := by
  have e1 : Int32.ofNat LL - 6 = iI ((LL : Int) - 6) := by
    rw [lw_iI LL, show (6 : Int32) = iI 6 from rfl, iI_sub]
  have e2 : nI (6 * j) = iI ((6 * j : Nat) : Int) := lw_iI (6 * j)
  rw [e1, e2, iI_lt _ _ (by omega)]
  omega
set_option maxHeartbeats 4000000 in
set_option maxRecDepth 100000 in
theorem law_loop {p : Program} {l : Launch} {e : Env} {s : State} {m : MethodId} {below : List Frame} {meth : Method} {c : Code} {G : wG} {L : Mem} {x0 m0 b LL : Nat} {xs : Nat → Int32} (hC : Cx G p s m #[Value.ref b] meth c cL_law 4 RL wsL_law) (hr : meth.sig.returnType = ret) (hX : va_X b LL xs s s.heap) (hbl : b < s.heap.size) (hLL : LL ≤ 3072) (hB : G.2.2.1 = s.heap.size) (hk : lwK G L) : ∀ (n j : Nat), LL < 6 * (j + n) → 6 * j ≤ LL → ∀ (M : Mem) (u : MS) (sz nc nr : Nat) (H : Heap) (locs : List Loc) (ls : Array Slot), SimB G.2.2.1 G.2.2.2 L x0 M u sz nc nr → lD G s m0 L M u sz H locs → lv_has ls 4 [(0, .ref b), (1, .ref x0), (2, .ref m0), (3, .int (nI (6 * j)))] → W p l e room_1 s m #[Value.ref b] below meth c H locs (49 + 94 * j + nc * 136 + nr * 110) (6228 + 7265 * j + nc * 39857 + nr * 31184) (lw_Z below #[Value.ref b] s) (F0 m 18 ls []) := by
  have hx := hC.1
  have hb := hC.2.1
  have hlocks : meth.locks = false := hC.2.2.2.2.2.1
  have hbA : ¬ As G (fun _ => none) s.heap.size b := fun h => by
    have := (lAs hB b).mp h
    omega
  intro n
  induction n with
  | zero => intro j h1 h2; omega
  | succ n ih =>
    intro j h1 h2 M u sz nc nr H locs ls hSim hw hl
    have hbd : nc ≤ 8 ∧ nr ≤ 48 ∧ isO M (some x0) 14 = true := by
      obtain ⟨ad, rho, xl, hK, hI, g1, g2⟩ := hSim
      have q1 := hI.n19
      have q2 := hI.n33
      refine ⟨by omega, by omega, ?_⟩
      simp [isO, hK.book]
    obtain ⟨hnc, hnr, hro⟩ := hbd
    refine lv_iload_n hx hb dL_law_18 rfl (lv_at hl 3 rfl) ?_
    refine lv_aload_n hx hb dL_law_19 rfl (lv_at hl 0 rfl) ?_
    refine va_slen hx hb hX hbl hbA hw.1.2.2.1 dL_law_20 ?_
    refine lv_bipush (v := (6 : Int32)) hx hb dL_law_21 (by decide) ?_
    refine lv_isub hx hb dL_law_23 ?_
    refine lv_icmp_gt (tgt := 1229) hx hb dL_law_24 (by decide) (fun hc => ?_) (fun hc => ?_)
    · refine lv_iconst (v := (1 : Int32)) hx hb dL_law_1229 (by decide) ?_
      refine va_forget (fun q hq => (lAs hB _).mp (hw.1.2.2.1.2.2 q hq)) ?_
      refine W.widen (k := 600000) (n := 7302250) (by omega) (by omega) ?_
      exact lw_ret hx hb hr hlocks dL_law_1230
    · have hlt : 6 * j + 6 ≤ LL := Nat.not_lt.mp (fun q => hc ((lw_test h2 hLL).mpr q))
      have hin : ∀ c : Nat, c < 6 → vp_in (nI (6 * j) + nI c) LL := fun c hc => by
        rw [nI_add]
        exact vp_in_nI (by omega) (by omega)
      have kk : ∀ (M1 : Mem) (u1 : MS) (sz1 dc dr : Nat) (H1 : Heap) (locs1 : List Loc) (ls1 : Array Slot), SimB G.2.2.1 G.2.2.2 L x0 M1 u1 sz1 (nc + dc) (nr + dr) → lD G s m0 L M1 u1 sz1 H1 locs1 → lv_has ls1 4 [(0, .ref b), (1, .ref x0), (2, .ref m0), (3, .int (nI (6 * j)))] → W p l e room_1 s m #[Value.ref b] below meth c H1 locs1 (49 + 94 * j + nc * 136 + nr * 110 + 94 + dc * 136 + dr * 110) (6228 + 7265 * j + nc * 39857 + nr * 31184 + 7265 + dc * 39857 + dr * 31184) (lw_Z below #[Value.ref b] s) (F0 m 1223 ls1 []) := by
        intro M1 u1 sz1 dc dr H1 locs1 ls1 g1 g2 g3
        have e6 : nI (6 * j) + Int32.ofInt 6 = nI (6 * (j + 1)) := by
          have q := nI_add (6 * j) 6
          rw [show 6 * j + 6 = 6 * (j + 1) by omega] at q
          exact q
        refine lv_iinc (v := nI (6 * (j + 1))) (lv' := [(3, .int (nI (6 * (j + 1)))), (0, .ref b), (1, .ref x0), (2, .ref m0)]) hx hb dL_law_1223 g3 (k := 3) rfl e6 (by decide) rfl (fun ls2 g4 => ?_)
        refine lv_goto (tgt := 18) hx hb dL_law_1226 (by decide) ?_
        have h := ih (j + 1) (by omega) (by omega) M1 u1 sz1 (nc + dc) (nr + dr) H1 locs1 ls2 g1 g2 (lv_sub g4 [1, 2, 3, 0] rfl)
        rw [show 49 + 94 * j + nc * 136 + nr * 110 + 94 + dc * 136 + dr * 110 = 49 + 94 * (j + 1) + (nc + dc) * 136 + (nr + dr) * 110 by omega, show 6228 + 7265 * j + nc * 39857 + nr * 31184 + 7265 + dc * 39857 + dr * 31184 = 6228 + 7265 * (j + 1) + (nc + dc) * 39857 + (nr + dr) * 31184 by omega]
        exact h
      refine lv_aload_n hx hb dL_law_27 rfl (lv_at hl 0 rfl) ?_
      refine lv_iload_n hx hb dL_law_28 rfl (lv_at hl 3 rfl) ?_
      refine va_sld hx hb hX hbl hbA hw.1.2.2.1 (vp_in_nI (show 6 * j < LL by omega) (by omega)) dL_law_29 ?_
      refine lv_bipush (v := (63 : Int32)) hx hb dL_law_30 (by decide) ?_
      refine lv_iand hx hb dL_law_32 ?_
      refine lv_topi (fun v ev => ?_)
      by_cases ho : v.toInt < 0 ∨ 34 < v.toInt
      · refine lv_tableOut (tgt := 1223) hx hb dL_law_33 ho (by decide) ?_
        refine W.widen (k := 49 + 94 * j + nc * 136 + nr * 110 + 94 + 0 * 136 + 0 * 110) (n := 6228 + 7265 * j + nc * 39857 + nr * 31184 + 7265 + 0 * 39857 + 0 * 31184) (by omega) (by omega) ?_
        exact kk M u sz 0 0 H locs ls hSim hw hl
      obtain ⟨k, hk35, hv⟩ : ∃ k : Nat, k < 35 ∧ v.toInt = (k : Int) := ⟨v.toInt.toNat, by omega, by omega⟩
      clear ev ho
      match k, hk35, hv with
      | 0, _, hv =>
        refine lv_tableIn (tgt := 188) hx hb dL_law_33 (by rw [hv]; decide) (by rw [hv]; decide) (by rw [hv]; rfl) (by decide) ?_
        exact law_feed hC hX hbl hbA hin (lw_feed hk) hSim hro (by omega) (by omega) hw hl kk
      | 1, _, hv =>
        refine lv_tableIn (tgt := 251) hx hb dL_law_33 (by rw [hv]; decide) (by rw [hv]; decide) (by rw [hv]; rfl) (by decide) ?_
        exact law_end hC hX hbl hbA hin (lw_end hk) hSim hro (by omega) (by omega) hw hl kk
      | 2, _, hv =>
        refine lv_tableIn (tgt := 274) hx hb dL_law_33 (by rw [hv]; decide) (by rw [hv]; decide) (by rw [hv]; rfl) (by decide) ?_
        exact law_thing hC hX hbl hbA hin (lw_thing hk) hSim hro (by omega) (by omega) hw hl kk
      | 3, _, hv =>
        refine lv_tableIn (tgt := 287) hx hb dL_law_33 (by rw [hv]; decide) (by rw [hv]; decide) (by rw [hv]; rfl) (by decide) ?_
        exact law_house hC hX hbl hbA hin (lw_house hk) hSim hro (by omega) (by omega) hw hl kk
      | 4, _, hv =>
        refine lv_tableIn (tgt := 300) hx hb dL_law_33 (by rw [hv]; decide) (by rw [hv]; decide) (by rw [hv]; rfl) (by decide) ?_
        exact law_courier hC hX hbl hbA hin (lw_courier hk) hSim hro (by omega) (by omega) hw hl kk
      | 5, _, hv =>
        refine lv_tableIn (tgt := 313) hx hb dL_law_33 (by rw [hv]; decide) (by rw [hv]; decide) (by rw [hv]; rfl) (by decide) ?_
        exact law_loan hC hX hbl hbA hin (lw_loan hk) hSim hro (by omega) (by omega) hw hl kk
      | 6, _, hv =>
        refine lv_tableIn (tgt := 336) hx hb dL_law_33 (by rw [hv]; decide) (by rw [hv]; decide) (by rw [hv]; rfl) (by decide) ?_
        exact law_report hC hX hbl hbA hin (lw_report hk) hSim hro (by omega) (by omega) hw hl kk
      | 7, _, hv =>
        refine lv_tableIn (tgt := 369) hx hb dL_law_33 (by rw [hv]; decide) (by rw [hv]; decide) (by rw [hv]; rfl) (by decide) ?_
        exact law_appraise hC hX hbl hbA hin (lw_appraise hk) hSim hro (by omega) (by omega) hw hl kk
      | 8, _, hv =>
        refine lv_tableIn (tgt := 412) hx hb dL_law_33 (by rw [hv]; decide) (by rw [hv]; decide) (by rw [hv]; rfl) (by decide) ?_
        exact law_cancel hC hX hbl hbA hin (lw_cancel hk) hSim hro (by omega) (by omega) hw hl kk
      | 9, _, hv =>
        refine lv_tableIn (tgt := 435) hx hb dL_law_33 (by rw [hv]; decide) (by rw [hv]; decide) (by rw [hv]; rfl) (by decide) ?_
        exact law_place hC hX hbl hbA hin (lw_place hk) hSim hro (by omega) (by omega) hw hl kk
      | 10, _, hv =>
        refine lv_tableIn (tgt := 448) hx hb dL_law_33 (by rw [hv]; decide) (by rw [hv]; decide) (by rw [hv]; rfl) (by decide) ?_
        exact law_fault hC hX hbl hbA hin (lw_fault hk) hSim hro (by omega) (by omega) hw hl kk
      | 11, _, hv =>
        refine lv_tableIn (tgt := 461) hx hb dL_law_33 (by rw [hv]; decide) (by rw [hv]; decide) (by rw [hv]; rfl) (by decide) ?_
        exact law_count hC hX hbl hbA hin (lw_count hk) hSim hro (by omega) (by omega) hw hl kk
      | 12, _, hv =>
        refine lv_tableIn (tgt := 484) hx hb dL_law_33 (by rw [hv]; decide) (by rw [hv]; decide) (by rw [hv]; rfl) (by decide) ?_
        exact law_value hC hX hbl hbA hin (lw_value hk) hSim hro (by omega) (by omega) hw hl kk
      | 13, _, hv =>
        refine lv_tableIn (tgt := 517) hx hb dL_law_33 (by rw [hv]; decide) (by rw [hv]; decide) (by rw [hv]; rfl) (by decide) ?_
        exact law_together hC hX hbl hbA hin (lw_together hk) hSim hro (by omega) (by omega) hw hl kk
      | 14, _, hv =>
        refine lv_tableIn (tgt := 550) hx hb dL_law_33 (by rw [hv]; decide) (by rw [hv]; decide) (by rw [hv]; rfl) (by decide) ?_
        exact law_where hC hX hbl hbA hin (lw_where hk) hSim hro (by omega) (by omega) hw hl kk
      | 15, _, hv =>
        refine lv_tableIn (tgt := 583) hx hb dL_law_33 (by rw [hv]; decide) (by rw [hv]; decide) (by rw [hv]; rfl) (by decide) ?_
        exact law_free hC hX hbl hbA hin (lw_free hk) hSim hro (by omega) (by omega) hw hl kk
      | 16, _, hv =>
        refine lv_tableIn (tgt := 626) hx hb dL_law_33 (by rw [hv]; decide) (by rw [hv]; decide) (by rw [hv]; rfl) (by decide) ?_
        exact law_stage hC hX hbl hbA hin (lw_stage hk) hSim hro (by omega) (by omega) hw hl kk
      | 17, _, hv =>
        refine lv_tableIn (tgt := 659) hx hb dL_law_33 (by rw [hv]; decide) (by rw [hv]; decide) (by rw [hv]; rfl) (by decide) ?_
        exact law_parcels hC hX hbl hbA hin (lw_parcels hk) hSim hro (by omega) (by omega) hw hl kk
      | 18, _, hv =>
        refine lv_tableIn (tgt := 682) hx hb dL_law_33 (by rw [hv]; decide) (by rw [hv]; decide) (by rw [hv]; rfl) (by decide) ?_
        exact law_parcel hC hX hbl hbA hin (lw_parcel hk) hSim hro (by omega) (by omega) hw hl kk
      | 19, _, hv =>
        refine lv_tableIn (tgt := 715) hx hb dL_law_33 (by rw [hv]; decide) (by rw [hv]; decide) (by rw [hv]; rfl) (by decide) ?_
        exact law_weight hC hX hbl hbA hin (lw_weight hk) hSim hro (by omega) (by omega) hw hl kk
      | 20, _, hv =>
        refine lv_tableIn (tgt := 748) hx hb dL_law_33 (by rw [hv]; decide) (by rw [hv]; decide) (by rw [hv]; rfl) (by decide) ?_
        exact law_guard hC hX hbl hbA hin (lw_guard hk) hSim hro (by omega) (by omega) hw hl kk
      | 21, _, hv =>
        refine lv_tableIn (tgt := 791) hx hb dL_law_33 (by rw [hv]; decide) (by rw [hv]; decide) (by rw [hv]; rfl) (by decide) ?_
        exact law_busy hC hX hbl hbA hin (lw_busy hk) hSim hro (by omega) (by omega) hw hl kk
      | 22, _, hv =>
        refine lv_tableIn (tgt := 814) hx hb dL_law_33 (by rw [hv]; decide) (by rw [hv]; decide) (by rw [hv]; rfl) (by decide) ?_
        exact law_with hC hX hbl hbA hin (lw_with hk) hSim hro (by omega) (by omega) hw hl kk
      | 23, _, hv =>
        refine lv_tableIn (tgt := 847) hx hb dL_law_33 (by rw [hv]; decide) (by rw [hv]; decide) (by rw [hv]; rfl) (by decide) ?_
        exact law_ready hC hX hbl hbA hin (lw_ready hk) hSim hro (by omega) (by omega) hw hl kk
      | 24, _, hv =>
        refine lv_tableIn (tgt := 890) hx hb dL_law_33 (by rw [hv]; decide) (by rw [hv]; decide) (by rw [hv]; rfl) (by decide) ?_
        exact law_cost hC hX hbl hbA hin (lw_cost hk) hSim hro (by omega) (by omega) hw hl kk
      | 25, _, hv =>
        refine lv_tableIn (tgt := 923) hx hb dL_law_33 (by rw [hv]; decide) (by rw [hv]; decide) (by rw [hv]; rfl) (by decide) ?_
        exact law_premium hC hX hbl hbA hin (lw_premium hk) hSim hro (by omega) (by omega) hw hl kk
      | 26, _, hv =>
        refine lv_tableIn (tgt := 966) hx hb dL_law_33 (by rw [hv]; decide) (by rw [hv]; decide) (by rw [hv]; rfl) (by decide) ?_
        exact law_dearest hC hX hbl hbA hin (lw_dearest hk) hSim hro (by omega) (by omega) hw hl kk
      | 27, _, hv =>
        refine lv_tableIn (tgt := 989) hx hb dL_law_33 (by rw [hv]; decide) (by rw [hv]; decide) (by rw [hv]; rfl) (by decide) ?_
        exact law_harms hC hX hbl hbA hin (lw_harms hk) hSim hro (by omega) (by omega) hw hl kk
      | 28, _, hv =>
        refine lv_tableIn (tgt := 1022) hx hb dL_law_33 (by rw [hv]; decide) (by rw [hv]; decide) (by rw [hv]; rfl) (by decide) ?_
        exact law_note hC hX hbl hbA hin (lw_note hk) hSim hro (by omega) (by omega) hw hl kk
      | 29, _, hv =>
        refine lv_tableIn (tgt := 1065) hx hb dL_law_33 (by rw [hv]; decide) (by rw [hv]; decide) (by rw [hv]; rfl) (by decide) ?_
        exact law_damage hC hX hbl hbA hin (lw_damage hk) hSim hro (by omega) (by omega) hw hl kk
      | 30, _, hv =>
        refine lv_tableIn (tgt := 1098) hx hb dL_law_33 (by rw [hv]; decide) (by rw [hv]; decide) (by rw [hv]; rfl) (by decide) ?_
        exact law_bearer hC hX hbl hbA hin (lw_bearer hk) hSim hro (by omega) (by omega) hw hl kk
      | 31, _, hv =>
        refine lv_tableIn (tgt := 1131) hx hb dL_law_33 (by rw [hv]; decide) (by rw [hv]; decide) (by rw [hv]; rfl) (by decide) ?_
        exact law_charge hC hX hbl hbA hin (lw_charge hk) hSim hro (by omega) (by omega) hw hl kk
      | 32, _, hv =>
        refine lv_tableIn (tgt := 1154) hx hb dL_law_33 (by rw [hv]; decide) (by rw [hv]; decide) (by rw [hv]; rfl) (by decide) ?_
        exact law_home hC hX hbl hbA hin (lw_home hk) hSim hro (by omega) (by omega) hw hl kk
      | 33, _, hv =>
        refine lv_tableIn (tgt := 1167) hx hb dL_law_33 (by rw [hv]; decide) (by rw [hv]; decide) (by rw [hv]; rfl) (by decide) ?_
        exact law_letter hC hX hbl hbA hin (lw_letter hk) hSim hro (by omega) (by omega) hw hl kk
      | 34, _, hv =>
        refine lv_tableIn (tgt := 1210) hx hb dL_law_33 (by rw [hv]; decide) (by rw [hv]; decide) (by rw [hv]; rfl) (by decide) ?_
        exact law_status hC hX hbl hbA hin (lw_status hk) hSim hro (by omega) (by omega) hw hl kk
      | k + 35, hk35, _ => exact absurd hk35 (by omega)
