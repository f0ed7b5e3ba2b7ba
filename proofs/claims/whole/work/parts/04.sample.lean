def f_X11_isDay (M : Mem) (a1 : Int32) : Option (Int32) := if a1 < 0 then (some (0 : Int32)) else (if (1000 : Int32) ≤ a1 then (some (0 : Int32)) else (some (1 : Int32)))
def rmX11_isDay : Room := { frames := 0, cells := 0, slots := 0, locals := 0 }
set_option maxHeartbeats 4000000 in
set_option maxRecDepth 100000 in
theorem c_X11_isDay {G : wG} {l : Launch} {M : Mem} {sz : Nat} {a1 : Int32} {r : Int32} (h : f_X11_isDay M a1 = some r) : CtrI G l yX11_isDay wsX11_isDay rmX11_isDay [.int a1] M sz r M sz := by
  refine m_startZ (own := RX11) (cc := cX11_isDay) (maxL := 1) (lv0 := [(0, .int a1)]) (by decide) rfl rfl (by simp [lg_sl, va_rf_cat, cat_i, cat_r]) (by simp [lv_args, va_rf_cat, cat_i, cat_r]) ?_
  intro p e s m args below meth c Q hC hname RET hsz hw ls hl
  have hx := hC.1
  have hb := hC.2.1
  unfold f_X11_isDay at h
  refine lv_iload_n hx hb dX11_isDay_0 rfl (lv_at hl 0 rfl) ?_
  refine lv_if_lt (tgt := 15) hx hb dX11_isDay_1 (by decide) (fun c1 => ?_) (fun c1 => ?_)
  · replace h := itt h c1
    refine lv_iconst (v := (0 : Int32)) hx hb dX11_isDay_15 (by decide) ?_
    cases h
    exact RET (by decide) hw ⟨(Nat.le_of_ble_eq_true rfl), (Nat.le_of_ble_eq_true rfl)⟩ dX11_isDay_16
  · replace h := itf h c1
    refine lv_iload_n hx hb dX11_isDay_4 rfl (lv_at hl 0 rfl) ?_
    refine lv_sipush (v := (1000 : Int32)) hx hb dX11_isDay_5 (by decide) ?_
    refine lv_icmp_ge (tgt := 15) hx hb dX11_isDay_8 (by decide) (fun c2 => ?_) (fun c2 => ?_)
    · replace h := itt h c2
      refine lv_iconst (v := (0 : Int32)) hx hb dX11_isDay_15 (by decide) ?_
      cases h
      exact RET (by decide) hw ⟨(Nat.le_of_ble_eq_true rfl), (Nat.le_of_ble_eq_true rfl)⟩ dX11_isDay_16
    · replace h := itf h c2
      refine lv_iconst (v := (1 : Int32)) hx hb dX11_isDay_11 (by decide) ?_
      refine lv_goto (tgt := 16) hx hb dX11_isDay_12 (by decide) ?_
      cases h
      exact RET (by decide) hw ⟨(Nat.le_of_ble_eq_true rfl), (Nat.le_of_ble_eq_true rfl)⟩ dX11_isDay_16

def f_X1_isOpen_L18 (n : Nat) (M : Mem) (x0 : Option Nat) (x2 : Int32) : Nat → Int32 → Option (Int32)
  | 0, _ => none
  | k + 1, x3 => if x2 < x3 then (some ((1 : Int32))) else ((gR M x0 4 0).bind fun v6 => (aI M 0 v6 x3).bind fun v7 => if v7 = (-1 : Int32) then (f_X1_isOpen_L18 n M x0 x2 k (x3 + (1 : Int32))) else (some ((0 : Int32))))
def f_X1_isOpen (n : Nat) (M : Mem) (this : Option Nat) (a1 : Int32) (a2 : Int32) : Option (Int32) := (f_X11_isDay M a1).bind fun r1 => if r1 = 0 then (some (0 : Int32)) else ((f_X11_isDay M a2).bind fun r3 => if r3 = 0 then (some (0 : Int32)) else (f_X1_isOpen_L18 n M this a2 n a1))
def rmX1_isOpen : Room := { frames := 1, cells := 0, slots := 0, locals := 20 }
theorem k_X1_isOpen_stX11_isDay : Cond.static yX11_isDay ∈ wsX1_isOpen := List.mem_of_getElem? (i := 2) rfl
theorem k_X1_isOpen_inX11 : Cond.initialized RX11 ∈ wsX1_isOpen := List.mem_of_getElem? (i := 3) rfl
theorem k_X1_isOpen_9 : Cond.fieldLink RX1 9 "LoanBook$Calendar" "days" "[I" ∈ wsX1_isOpen := List.mem_of_getElem? (i := 1) rfl
theorem ki_X1_isOpen_X1 : ∀ w ∈ u_ws RX1 TX1 2, w ∈ wsX1_isOpen := sub_r [5, 6] (by decide +kernel)
set_option maxHeartbeats 4000000 in
set_option maxRecDepth 100000 in
theorem c_X1_isOpen {G : wG} {l : Launch} {n : Nat} {M : Mem} {sz : Nat} {this : Option Nat} {a1 : Int32} {a2 : Int32} {r : Int32} (h : f_X1_isOpen n M this a1 a2 = some r) : CtrI G l yX1_isOpen wsX1_isOpen rmX1_isOpen [va_rf this, .int a1, .int a2] M sz r M sz := by
  refine m_startZ (own := RX1) (cc := cX1_isOpen) (maxL := 4) (lv0 := [(0, va_rf this), (1, .int a1), (2, .int a2)]) (by decide) rfl rfl (by simp [lg_sl, va_rf_cat, cat_i, cat_r]) (by simp [lv_args, va_rf_cat, cat_i, cat_r]) ?_
  intro p e s m args below meth c Q hC hname RET hsz hw ls hl
  have hx := hC.1
  have hb := hC.2.1
  have L18 : ∀ (x0 : Option Nat) (x2 : Int32) (k : Nat) (x3 : Int32) (H : Heap) (locs : List Loc) (ls : Array Slot), f_X1_isOpen_L18 n M x0 x2 k x3 = some r → wD G s M M sz H locs → lv_has ls 4 [(0, va_rf x0), (2, .int x2), (3, .int x3)] → W p l e rmX1_isOpen s m args below meth c H locs 0 0 Q (F0 m 18 ls []) := by
    intro x0 x2 k
    induction k with
    | zero =>
      intro x3 H locs ls h
      exact absurd (show (none : Option (Int32)) = some r from h) (fun z => by cases z)
    | succ k ih =>
      intro x3 H locs ls h hw hl
      rw [f_X1_isOpen_L18] at h
      refine lv_iload_n hx hb dX1_isOpen_18 rfl (lv_at hl 2 rfl) ?_
      refine lv_iload_n hx hb dX1_isOpen_19 rfl (lv_at hl 1 rfl) ?_
      refine lv_icmp_gt (tgt := 41) hx hb dX1_isOpen_20 (by decide) (fun c5 => ?_) (fun c5 => ?_)
      · replace h := itt h c5
        refine lv_iconst (v := (1 : Int32)) hx hb dX1_isOpen_41 (by decide) ?_
        cases h
        exact RET (by decide) hw ⟨(Nat.le_of_ble_eq_true rfl), (Nat.le_of_ble_eq_true rfl)⟩ dX1_isOpen_42
      · replace h := itf h c5
        refine m_aload_n (x := x0) hx hb dX1_isOpen_23 rfl (lv_at hl 0 rfl) ?_
        obtain ⟨v6, hv6, h⟩ := ob h
        refine m_getR hC hw (C := RX1) (T := TX1) (N := 2) hv6 ki_X1_isOpen_X1 rfl (by decide) k_X1_isOpen_9 (fun _ z => z) dX1_isOpen_24 ?_
        refine lv_iload_n hx hb dX1_isOpen_27 rfl (lv_at hl 2 rfl) ?_
        obtain ⟨v7, hv7, h⟩ := ob h
        refine m_iald (x := v6) hC hw hv7 dX1_isOpen_28 ?_
        refine lv_iconst (v := (-1 : Int32)) hx hb dX1_isOpen_29 (by decide) ?_
        refine lv_icmp_eq (tgt := 35) hx hb dX1_isOpen_30 (by decide) (fun c8 => ?_) (fun c8 => ?_)
        · replace h := itt h c8
          refine lv_iinc (v := (x3 + (1 : Int32))) (lv' := [(3, .int (x3 + (1 : Int32))), (0, va_rf x0), (2, .int x2)]) hx hb dX1_isOpen_35 hl (k := 2) rfl rfl (by decide) rfl (fun ls hl => ?_)
          refine lv_goto (tgt := 18) hx hb dX1_isOpen_38 (by decide) ?_
          exact ih _ _ _ _ h hw (lv_sub hl [1, 2, 0] rfl)
        · replace h := itf h c8
          refine lv_iconst (v := (0 : Int32)) hx hb dX1_isOpen_33 (by decide) ?_
          cases h
          exact RET (by decide) hw ⟨(Nat.le_of_ble_eq_true rfl), (Nat.le_of_ble_eq_true rfl)⟩ dX1_isOpen_34
  unfold f_X1_isOpen at h
  refine lv_iload_n hx hb dX1_isOpen_0 rfl (lv_at hl 1 rfl) ?_
  obtain ⟨r1, hr1, h⟩ := ob h
  refine m_contI hC hw (m_runSN hC hw (host := "LoanBook") (n := 1) (av := [.int a1]) (rest := []) (c_X11_isDay (G := G) (l := l) hr1) gX1_isOpen_X11_isDay_n28 (by decide +kernel) k_X1_isOpen_stX11_isDay k_X1_isOpen_inX11 rfl (by decide +kernel) ⟨(Nat.le_of_ble_eq_true rfl), (Nat.le_of_ble_eq_true rfl)⟩ rfl hl.1 rfl (Nat.le_of_ble_eq_true rfl) dX1_isOpen_1 ⟨(Nat.le_of_ble_eq_true rfl), (Nat.le_of_ble_eq_true rfl)⟩) (fun H locs hw => ?_)
  refine lv_if_eq (tgt := 14) hx hb dX1_isOpen_4 (by decide) (fun c2 => ?_) (fun c2 => ?_)
  · replace h := itt h c2
    refine lv_iconst (v := (0 : Int32)) hx hb dX1_isOpen_14 (by decide) ?_
    cases h
    exact RET (by decide) hw ⟨(Nat.le_of_ble_eq_true rfl), (Nat.le_of_ble_eq_true rfl)⟩ dX1_isOpen_15
  · replace h := itf h c2
    refine lv_iload_n hx hb dX1_isOpen_7 rfl (lv_at hl 2 rfl) ?_
    obtain ⟨r3, hr3, h⟩ := ob h
    refine m_contI hC hw (m_runSN hC hw (host := "LoanBook") (n := 1) (av := [.int a2]) (rest := []) (c_X11_isDay (G := G) (l := l) hr3) gX1_isOpen_X11_isDay_n28 (by decide +kernel) k_X1_isOpen_stX11_isDay k_X1_isOpen_inX11 rfl (by decide +kernel) ⟨(Nat.le_of_ble_eq_true rfl), (Nat.le_of_ble_eq_true rfl)⟩ rfl hl.1 rfl (Nat.le_of_ble_eq_true rfl) dX1_isOpen_8 ⟨(Nat.le_of_ble_eq_true rfl), (Nat.le_of_ble_eq_true rfl)⟩) (fun H locs hw => ?_)
    refine lv_if_ne (tgt := 16) hx hb dX1_isOpen_11 (by decide) (fun c4 => ?_) (fun c4 => ?_)
    · replace h := itf h c4
      refine lv_iload_n hx hb dX1_isOpen_16 rfl (lv_at hl 1 rfl) ?_
      refine lv_istore_n (lv' := [(3, .int a1), (0, va_rf this), (1, .int a1), (2, .int a2)]) hx hb dX1_isOpen_17 rfl hl (by decide) rfl (fun ls hl => ?_)
      exact L18 this a2 _ _ _ _ _ h hw (lv_sub hl [1, 3, 0] rfl)
    · replace h := itt h c4
      refine lv_iconst (v := (0 : Int32)) hx hb dX1_isOpen_14 (by decide) ?_
      cases h
      exact RET (by decide) hw ⟨(Nat.le_of_ble_eq_true rfl), (Nat.le_of_ble_eq_true rfl)⟩ dX1_isOpen_15

def f_X1_fill_L7 (B : Nat) (n : Nat) (x0 : Option Nat) (x2 : Int32) (x3 : Int32) : Nat → Mem → Int32 → Option (Mem)
  | 0, _, _ => none
  | k + 1, Mz, x4 => if x2 < x4 then (some (Mz)) else (if (1000 : Int32) ≤ x4 then (some (Mz)) else ((gR Mz x0 4 0).bind fun v3 => (sI B Mz 0 v3 x4 x3).bind fun M4 => f_X1_fill_L7 B n x0 x2 x3 k M4 (x4 + (1 : Int32))))
def f_X1_fill (B : Nat) (n : Nat) (M : Mem) (this : Option Nat) (a1 : Int32) (a2 : Int32) (a3 : Int32) : Option (Mem) := f_X1_fill_L7 B n this a2 a3 n M (if a1 < (0 : Int32) then (0 : Int32) else a1)
def rmX1_fill : Room := { frames := 1, cells := 0, slots := 0, locals := 21 }
theorem k_X1_fill_max32_0 : Cond.methodLink RX1 32 Lib.Math.max.name ∈ wsX1_fill := List.mem_of_getElem? (i := 1) rfl
theorem k_X1_fill_max32_1 : Cond.static Lib.Math.max.name ∈ wsX1_fill := List.mem_of_getElem? (i := 2) rfl
theorem k_X1_fill_max32_2 : Cond.initialized "java/lang/Math" ∈ wsX1_fill := List.mem_of_getElem? (i := 3) rfl
theorem k_X1_fill_max32_3 : Cond.code Lib.Math.max.name Lib.Math.max.code 2 (some .int) ∈ wsX1_fill := List.mem_of_getElem? (i := 4) rfl
theorem k_X1_fill_9 : Cond.fieldLink RX1 9 "LoanBook$Calendar" "days" "[I" ∈ wsX1_fill := List.mem_of_getElem? (i := 5) rfl
theorem ki_X1_fill_X1 : ∀ w ∈ u_ws RX1 TX1 2, w ∈ wsX1_fill := sub_r [6, 7] (by decide +kernel)
set_option maxHeartbeats 4000000 in
set_option maxRecDepth 100000 in
theorem c_X1_fill {G : wG} {l : Launch} {n : Nat} {M : Mem} {sz : Nat} {this : Option Nat} {a1 : Int32} {a2 : Int32} {a3 : Int32} {r : Mem} (h : f_X1_fill G.2.2.1 n M this a1 a2 a3 = some r) : CtrV G l yX1_fill wsX1_fill rmX1_fill [va_rf this, .int a1, .int a2, .int a3] M sz r sz := by
  refine m_startV (own := RX1) (cc := cX1_fill) (maxL := 5) (lv0 := [(0, va_rf this), (1, .int a1), (2, .int a2), (3, .int a3)]) (by decide) rfl rfl (by simp [lg_sl, va_rf_cat, cat_i, cat_r]) (by simp [lv_args, va_rf_cat, cat_i, cat_r]) ?_
  intro p e s m args below meth c Q hC hname RET hsz hw ls hl
  have hx := hC.1
  have hb := hC.2.1
  have L7 : ∀ (x0 : Option Nat) (x2 : Int32) (x3 : Int32) (k : Nat) (Mz : Mem) (x4 : Int32) (H : Heap) (locs : List Loc) (ls : Array Slot), f_X1_fill_L7 G.2.2.1 n x0 x2 x3 k Mz x4 = some r → wD G s M Mz sz H locs → lv_has ls 5 [(0, va_rf x0), (2, .int x2), (3, .int x3), (4, .int x4)] → W p l e rmX1_fill s m args below meth c H locs 0 0 Q (F0 m 7 ls []) := by
    intro x0 x2 x3 k
    induction k with
    | zero =>
      intro Mz x4 H locs ls h
      exact absurd (show (none : Option (Mem)) = some r from h) (fun z => by cases z)
    | succ k ih =>
      intro Mz x4 H locs ls h hw hl
      rw [f_X1_fill_L7] at h
      refine lv_iload hx hb dX1_fill_7 (lv_at hl 3 rfl) ?_
      refine lv_iload_n hx hb dX1_fill_9 rfl (lv_at hl 1 rfl) ?_
      refine lv_icmp_gt (tgt := 35) hx hb dX1_fill_10 (by decide) (fun c1 => ?_) (fun c1 => ?_)
      · replace h := itt h c1
        cases h
        exact RET hw ⟨(Nat.le_of_ble_eq_true rfl), (Nat.le_of_ble_eq_true rfl)⟩ dX1_fill_35
      · replace h := itf h c1
        refine lv_iload hx hb dX1_fill_13 (lv_at hl 3 rfl) ?_
        refine lv_sipush (v := (1000 : Int32)) hx hb dX1_fill_15 (by decide) ?_
        refine lv_icmp_ge (tgt := 35) hx hb dX1_fill_18 (by decide) (fun c2 => ?_) (fun c2 => ?_)
        · replace h := itt h c2
          cases h
          exact RET hw ⟨(Nat.le_of_ble_eq_true rfl), (Nat.le_of_ble_eq_true rfl)⟩ dX1_fill_35
        · replace h := itf h c2
          refine m_aload_n (x := x0) hx hb dX1_fill_21 rfl (lv_at hl 0 rfl) ?_
          obtain ⟨v3, hv3, h⟩ := ob h
          refine m_getR hC hw (C := RX1) (T := TX1) (N := 2) hv3 ki_X1_fill_X1 rfl (by decide) k_X1_fill_9 (fun _ z => z) dX1_fill_22 ?_
          refine lv_iload hx hb dX1_fill_25 (lv_at hl 3 rfl) ?_
          refine lv_iload_n hx hb dX1_fill_27 rfl (lv_at hl 2 rfl) ?_
          obtain ⟨M4, hM4, h⟩ := ob h
          refine m_iast (x := v3) hC hw hM4 dX1_fill_28 (fun H locs hw => ?_)
          refine lv_iinc (v := (x4 + (1 : Int32))) (lv' := [(4, .int (x4 + (1 : Int32))), (0, va_rf x0), (2, .int x2), (3, .int x3)]) hx hb dX1_fill_29 hl (k := 3) rfl rfl (by decide) rfl (fun ls hl => ?_)
          refine lv_goto (tgt := 7) hx hb dX1_fill_32 (by decide) ?_
          exact ih _ _ _ _ _ h hw (lv_sub hl [1, 2, 3, 0] rfl)
  unfold f_X1_fill at h
  refine lv_iload_n hx hb dX1_fill_0 rfl (lv_at hl 1 rfl) ?_
  refine lv_iconst (v := (0 : Int32)) hx hb dX1_fill_1 (by decide) ?_
  refine va_mmax hx hb (hC.2.2.1.trans hl.1.symm) hC.2.2.2.1 (hC.tab _ k_X1_fill_max32_0) (hC.tab _ k_X1_fill_max32_1) (hC.tab _ k_X1_fill_max32_2) (hC.tab _ k_X1_fill_max32_3) (Nat.le_of_ble_eq_true rfl) (cat_13 (Nat.le_of_ble_eq_true rfl) (Nat.le_of_ble_eq_true rfl)) (Nat.le_of_ble_eq_true rfl) (Nat.le_of_ble_eq_true rfl) dX1_fill_2 ?_
  refine lv_istore (lv' := [(4, .int (if a1 < (0 : Int32) then (0 : Int32) else a1)), (0, va_rf this), (1, .int a1), (2, .int a2), (3, .int a3)]) hx hb dX1_fill_5 hl (by decide) rfl (fun ls hl => ?_)
  exact L7 this a2 a3 _ _ _ _ _ _ h hw (lv_sub hl [1, 3, 4, 0] rfl)

def f_X1_take (B : Nat) (n : Nat) (M : Mem) (this : Option Nat) (a1 : Int32) (a2 : Int32) (a3 : Int32) : Option (Mem) := if isO M this 4 = true then ((f_X1_fill B n M this a1 a2 a3).bind fun r2 => (gI r2 this 4 1).bind fun v3 => (pF B r2 this 4 1 (.int (v3 + ((a2 - a1) + (1 : Int32))))).bind fun M4 => some (M4)) else none
def rmX1_take : Room := { frames := 2, cells := 0, slots := 0, locals := 45 }
theorem k_X1_take_15 : Cond.fieldLink RX1 15 "LoanBook$Calendar" "taken" "I" ∈ wsX1_take := List.mem_of_getElem? (i := 1) rfl
theorem ki_X1_take_X1 : ∀ w ∈ u_ws RX1 TX1 2, w ∈ wsX1_take := sub_r [12, 13] (by decide +kernel)
set_option maxHeartbeats 4000000 in
set_option maxRecDepth 100000 in
theorem c_X1_take {G : wG} {l : Launch} {n : Nat} {M : Mem} {sz : Nat} {this : Option Nat} {a1 : Int32} {a2 : Int32} {a3 : Int32} {r : Mem} (h : f_X1_take G.2.2.1 n M this a1 a2 a3 = some r) : CtrV G l yX1_take wsX1_take rmX1_take [va_rf this, .int a1, .int a2, .int a3] M sz r sz := by
  refine m_startV (own := RX1) (cc := cX1_take) (maxL := 4) (lv0 := [(0, va_rf this), (1, .int a1), (2, .int a2), (3, .int a3)]) (by decide) rfl rfl (by simp [lg_sl, va_rf_cat, cat_i, cat_r]) (by simp [lv_args, va_rf_cat, cat_i, cat_r]) ?_
  intro p e s m args below meth c Q hC hname RET hsz hw ls hl
  have hx := hC.1
  have hb := hC.2.1
  unfold f_X1_take at h
  refine m_aload_n (x := this) hx hb dX1_take_0 rfl (lv_at hl 0 rfl) ?_
  refine lv_iload_n hx hb dX1_take_1 rfl (lv_at hl 1 rfl) ?_
  refine lv_iload_n hx hb dX1_take_2 rfl (lv_at hl 2 rfl) ?_
  refine lv_iload_n hx hb dX1_take_3 rfl (lv_at hl 3 rfl) ?_
  obtain ⟨g1, h⟩ := itg h
  obtain ⟨r2, hr2, h⟩ := ob h
  refine m_contV hC hw (m_runV hC hw (x := this) (ci := 4) (N := 2) (C := RX1) (T := TX1) (n := 3) (av := [.int a1, .int a2, .int a3]) (rest := []) (c_X1_fill (G := G) (l := l) hr2) gX1_take_X1_fill rfl (by decide +kernel) ⟨(Nat.le_of_ble_eq_true rfl), (Nat.le_of_ble_eq_true rfl)⟩ g1 rfl rfl hl.1 rfl (Nat.le_of_ble_eq_true rfl) dX1_take_4 ⟨(Nat.le_of_ble_eq_true rfl), (Nat.le_of_ble_eq_true rfl)⟩) (fun H locs hw => ?_)
  refine m_aload_n (x := this) hx hb dX1_take_7 rfl (lv_at hl 0 rfl) ?_
  refine m_dup (x := this) hx hb dX1_take_8 ?_
  obtain ⟨v3, hv3, h⟩ := ob h
  refine m_getI hC hw (C := RX1) (T := TX1) (N := 2) hv3 ki_X1_take_X1 rfl (by decide) k_X1_take_15 (fun _ z => z) dX1_take_9 ?_
  refine lv_iload_n hx hb dX1_take_12 rfl (lv_at hl 2 rfl) ?_
  refine lv_iload_n hx hb dX1_take_13 rfl (lv_at hl 1 rfl) ?_
  refine lv_isub hx hb dX1_take_14 ?_
  refine lv_iconst (v := (1 : Int32)) hx hb dX1_take_15 (by decide) ?_
  refine lv_iadd hx hb dX1_take_16 ?_
  refine lv_iadd hx hb dX1_take_17 ?_
  obtain ⟨M4, hM4, h⟩ := ob h
  refine m_put hC hw (C := RX1) (T := TX1) (N := 2) (x := this) hM4 ki_X1_take_X1 tyX1 tyX1_ok nmX1 rfl (by decide) k_X1_take_15 (fun _ z => z) rfl rfl rfl dX1_take_18 (fun H locs hw => ?_)
  cases h
  exact RET hw ⟨(Nat.le_of_ble_eq_true rfl), (Nat.le_of_ble_eq_true rfl)⟩ dX1_take_21

def f_X0_latest_L7 (n : Nat) (M : Mem) (x0 : Option Nat) (x1 : Int32) : Nat → Int32 → Option (Int32)
  | 0, _ => none
  | k + 1, x2 => if x2 < 0 then (some (x2)) else ((gR M x0 3 0).bind fun v3 => (aI M 0 v3 x2).bind fun v4 => if v4 ≤ x1 then (some (x2)) else (f_X0_latest_L7 n M x0 x1 k (x2 + (-1 : Int32))))
def f_X0_latest (n : Nat) (M : Mem) (this : Option Nat) (a1 : Int32) : Option (Int32) := (gI M this 3 2).bind fun v1 => f_X0_latest_L7 n M this a1 n (v1 - (1 : Int32))
def rmX0_latest : Room := { frames := 0, cells := 0, slots := 0, locals := 0 }
theorem k_X0_latest_18 : Cond.fieldLink RX0 18 "LoanBook$Appraisals" "size" "I" ∈ wsX0_latest := List.mem_of_getElem? (i := 1) rfl
theorem ki_X0_latest_X0 : ∀ w ∈ u_ws RX0 TX0 3, w ∈ wsX0_latest := sub_r [3, 4, 5] (by decide +kernel)
theorem k_X0_latest_9 : Cond.fieldLink RX0 9 "LoanBook$Appraisals" "days" "[I" ∈ wsX0_latest := List.mem_of_getElem? (i := 2) rfl
set_option maxHeartbeats 4000000 in
set_option maxRecDepth 100000 in
theorem c_X0_latest {G : wG} {l : Launch} {n : Nat} {M : Mem} {sz : Nat} {this : Option Nat} {a1 : Int32} {r : Int32} (h : f_X0_latest n M this a1 = some r) : CtrI G l yX0_latest wsX0_latest rmX0_latest [va_rf this, .int a1] M sz r M sz := by
  refine m_startI (own := RX0) (cc := cX0_latest) (maxL := 3) (lv0 := [(0, va_rf this), (1, .int a1)]) (by decide) rfl rfl (by simp [lg_sl, va_rf_cat, cat_i, cat_r]) (by simp [lv_args, va_rf_cat, cat_i, cat_r]) ?_
  intro p e s m args below meth c Q hC hname RET hsz hw ls hl
  have hx := hC.1
  have hb := hC.2.1
  have L7 : ∀ (x0 : Option Nat) (x1 : Int32) (k : Nat) (x2 : Int32) (H : Heap) (locs : List Loc) (ls : Array Slot), f_X0_latest_L7 n M x0 x1 k x2 = some r → wD G s M M sz H locs → lv_has ls 3 [(0, va_rf x0), (1, .int x1), (2, .int x2)] → W p l e rmX0_latest s m args below meth c H locs 0 0 Q (F0 m 7 ls []) := by
    intro x0 x1 k
    induction k with
    | zero =>
      intro x2 H locs ls h
      exact absurd (show (none : Option (Int32)) = some r from h) (fun z => by cases z)
    | succ k ih =>
      intro x2 H locs ls h hw hl
      rw [f_X0_latest_L7] at h
      refine lv_iload_n hx hb dX0_latest_7 rfl (lv_at hl 2 rfl) ?_
      refine lv_if_lt (tgt := 27) hx hb dX0_latest_8 (by decide) (fun c2 => ?_) (fun c2 => ?_)
      · replace h := itt h c2
        refine lv_iload_n hx hb dX0_latest_27 rfl (lv_at hl 2 rfl) ?_
        cases h
        exact RET hw ⟨(Nat.le_of_ble_eq_true rfl), (Nat.le_of_ble_eq_true rfl)⟩ dX0_latest_28
      · replace h := itf h c2
        refine m_aload_n (x := x0) hx hb dX0_latest_11 rfl (lv_at hl 0 rfl) ?_
        obtain ⟨v3, hv3, h⟩ := ob h
        refine m_getR hC hw (C := RX0) (T := TX0) (N := 3) hv3 ki_X0_latest_X0 rfl (by decide) k_X0_latest_9 (fun _ z => z) dX0_latest_12 ?_
        refine lv_iload_n hx hb dX0_latest_15 rfl (lv_at hl 2 rfl) ?_
        obtain ⟨v4, hv4, h⟩ := ob h
        refine m_iald (x := v3) hC hw hv4 dX0_latest_16 ?_
        refine lv_iload_n hx hb dX0_latest_17 rfl (lv_at hl 1 rfl) ?_
        refine lv_icmp_le (tgt := 27) hx hb dX0_latest_18 (by decide) (fun c5 => ?_) (fun c5 => ?_)
        · replace h := itt h c5
          refine lv_iload_n hx hb dX0_latest_27 rfl (lv_at hl 2 rfl) ?_
          cases h
          exact RET hw ⟨(Nat.le_of_ble_eq_true rfl), (Nat.le_of_ble_eq_true rfl)⟩ dX0_latest_28
        · replace h := itf h c5
          refine lv_iinc (v := (x2 + (-1 : Int32))) (lv' := [(2, .int (x2 + (-1 : Int32))), (0, va_rf x0), (1, .int x1)]) hx hb dX0_latest_21 hl (k := 2) rfl rfl (by decide) rfl (fun ls hl => ?_)
          refine lv_goto (tgt := 7) hx hb dX0_latest_24 (by decide) ?_
          exact ih _ _ _ _ h hw (lv_sub hl [1, 2, 0] rfl)
  unfold f_X0_latest at h
  refine m_aload_n (x := this) hx hb dX0_latest_0 rfl (lv_at hl 0 rfl) ?_
  obtain ⟨v1, hv1, h⟩ := ob h
  refine m_getI hC hw (C := RX0) (T := TX0) (N := 3) hv1 ki_X0_latest_X0 rfl (by decide) k_X0_latest_18 (fun _ z => z) dX0_latest_1 ?_
  refine lv_iconst (v := (1 : Int32)) hx hb dX0_latest_4 (by decide) ?_
  refine lv_isub hx hb dX0_latest_5 ?_
  refine lv_istore_n (lv' := [(2, .int (v1 - (1 : Int32))), (0, va_rf this), (1, .int a1)]) hx hb dX0_latest_6 rfl hl (by decide) rfl (fun ls hl => ?_)
  exact L7 this a1 _ _ _ _ _ h hw (lv_sub hl [1, 2, 0] rfl)

def f_X0_insertAt_L27 (B : Nat) (n : Nat) (x0 : Option Nat) (x1 : Int32) (x2 : Int32) : Nat → Mem → Int32 → Option (Mem)
  | 0, _, _ => none
  | k + 1, Mz, x3 => if x3 ≤ x1 then ((gR Mz x0 3 0).bind fun v8 => (sI B Mz 0 v8 x1 x2).bind fun M9 => (gI M9 x0 3 2).bind fun v10 => (pF B M9 x0 3 2 (.int (v10 + (1 : Int32)))).bind fun M11 => some (M11)) else ((gR Mz x0 3 0).bind fun v12 => (gR Mz x0 3 0).bind fun v13 => (aI Mz 0 v13 (x3 - (1 : Int32))).bind fun v14 => (sI B Mz 0 v12 x3 v14).bind fun M15 => (gR M15 x0 3 1).bind fun v16 => (gR M15 x0 3 1).bind fun v17 => (aI M15 0 v17 (x3 - (1 : Int32))).bind fun v18 => (sI B M15 0 v16 x3 v18).bind fun M19 => f_X0_insertAt_L27 B n x0 x1 x2 k M19 (x3 + (-1 : Int32)))
def f_X0_insertAt (B : Nat) (n : Nat) (M : Mem) (this : Option Nat) (a1 : Int32) (a2 : Int32) : Option (Mem) := (gI M this 3 2).bind fun v1 => if (48 : Int32) ≤ v1 then (some (M)) else (if a1 < 0 then (some (M)) else ((gI M this 3 2).bind fun v4 => if a1 ≤ v4 then ((gI M this 3 2).bind fun v6 => f_X0_insertAt_L27 B n this a1 a2 n M v6) else (some (M))))
def rmX0_insertAt : Room := { frames := 0, cells := 0, slots := 0, locals := 0 }
theorem k_X0_insertAt_18 : Cond.fieldLink RX0 18 "LoanBook$Appraisals" "size" "I" ∈ wsX0_insertAt := List.mem_of_getElem? (i := 1) rfl
theorem ki_X0_insertAt_X0 : ∀ w ∈ u_ws RX0 TX0 3, w ∈ wsX0_insertAt := sub_r [4, 5, 6] (by decide +kernel)
theorem k_X0_insertAt_9 : Cond.fieldLink RX0 9 "LoanBook$Appraisals" "days" "[I" ∈ wsX0_insertAt := List.mem_of_getElem? (i := 2) rfl
theorem k_X0_insertAt_15 : Cond.fieldLink RX0 15 "LoanBook$Appraisals" "values" "[I" ∈ wsX0_insertAt := List.mem_of_getElem? (i := 3) rfl
set_option maxHeartbeats 4000000 in
set_option maxRecDepth 100000 in
theorem c_X0_insertAt {G : wG} {l : Launch} {n : Nat} {M : Mem} {sz : Nat} {this : Option Nat} {a1 : Int32} {a2 : Int32} {r : Mem} (h : f_X0_insertAt G.2.2.1 n M this a1 a2 = some r) : CtrV G l yX0_insertAt wsX0_insertAt rmX0_insertAt [va_rf this, .int a1, .int a2] M sz r sz := by
  refine m_startV (own := RX0) (cc := cX0_insertAt) (maxL := 4) (lv0 := [(0, va_rf this), (1, .int a1), (2, .int a2)]) (by decide) rfl rfl (by simp [lg_sl, va_rf_cat, cat_i, cat_r]) (by simp [lv_args, va_rf_cat, cat_i, cat_r]) ?_
  intro p e s m args below meth c Q hC hname RET hsz hw ls hl
  have hx := hC.1
  have hb := hC.2.1
  have L27 : ∀ (x0 : Option Nat) (x1 : Int32) (x2 : Int32) (k : Nat) (Mz : Mem) (x3 : Int32) (H : Heap) (locs : List Loc) (ls : Array Slot), f_X0_insertAt_L27 G.2.2.1 n x0 x1 x2 k Mz x3 = some r → wD G s M Mz sz H locs → lv_has ls 4 [(0, va_rf x0), (1, .int x1), (2, .int x2), (3, .int x3)] → W p l e rmX0_insertAt s m args below meth c H locs 0 0 Q (F0 m 27 ls []) := by
    intro x0 x1 x2 k
    induction k with
    | zero =>
      intro Mz x3 H locs ls h
      exact absurd (show (none : Option (Mem)) = some r from h) (fun z => by cases z)
    | succ k ih =>
      intro Mz x3 H locs ls h hw hl
      rw [f_X0_insertAt_L27] at h
      refine lv_iload_n hx hb dX0_insertAt_27 rfl (lv_at hl 3 rfl) ?_
      refine lv_iload_n hx hb dX0_insertAt_28 rfl (lv_at hl 1 rfl) ?_
      refine lv_icmp_le (tgt := 66) hx hb dX0_insertAt_29 (by decide) (fun c7 => ?_) (fun c7 => ?_)
      · replace h := itt h c7
        refine m_aload_n (x := x0) hx hb dX0_insertAt_66 rfl (lv_at hl 0 rfl) ?_
        obtain ⟨v8, hv8, h⟩ := ob h
        refine m_getR hC hw (C := RX0) (T := TX0) (N := 3) hv8 ki_X0_insertAt_X0 rfl (by decide) k_X0_insertAt_9 (fun _ z => z) dX0_insertAt_67 ?_
        refine lv_iload_n hx hb dX0_insertAt_70 rfl (lv_at hl 1 rfl) ?_
        refine lv_iload_n hx hb dX0_insertAt_71 rfl (lv_at hl 2 rfl) ?_
        obtain ⟨M9, hM9, h⟩ := ob h
        refine m_iast (x := v8) hC hw hM9 dX0_insertAt_72 (fun H locs hw => ?_)
        refine m_aload_n (x := x0) hx hb dX0_insertAt_73 rfl (lv_at hl 0 rfl) ?_
        refine m_dup (x := x0) hx hb dX0_insertAt_74 ?_
        obtain ⟨v10, hv10, h⟩ := ob h
        refine m_getI hC hw (C := RX0) (T := TX0) (N := 3) hv10 ki_X0_insertAt_X0 rfl (by decide) k_X0_insertAt_18 (fun _ z => z) dX0_insertAt_75 ?_
        refine lv_iconst (v := (1 : Int32)) hx hb dX0_insertAt_78 (by decide) ?_
        refine lv_iadd hx hb dX0_insertAt_79 ?_
        obtain ⟨M11, hM11, h⟩ := ob h
        refine m_put hC hw (C := RX0) (T := TX0) (N := 3) (x := x0) hM11 ki_X0_insertAt_X0 tyX0 tyX0_ok nmX0 rfl (by decide) k_X0_insertAt_18 (fun _ z => z) rfl rfl rfl dX0_insertAt_80 (fun H locs hw => ?_)
        cases h
        exact RET hw ⟨(Nat.le_of_ble_eq_true rfl), (Nat.le_of_ble_eq_true rfl)⟩ dX0_insertAt_83
      · replace h := itf h c7
        refine m_aload_n (x := x0) hx hb dX0_insertAt_32 rfl (lv_at hl 0 rfl) ?_
        obtain ⟨v12, hv12, h⟩ := ob h
        refine m_getR hC hw (C := RX0) (T := TX0) (N := 3) hv12 ki_X0_insertAt_X0 rfl (by decide) k_X0_insertAt_9 (fun _ z => z) dX0_insertAt_33 ?_
        refine lv_iload_n hx hb dX0_insertAt_36 rfl (lv_at hl 3 rfl) ?_
        refine m_aload_n (x := x0) hx hb dX0_insertAt_37 rfl (lv_at hl 0 rfl) ?_
        obtain ⟨v13, hv13, h⟩ := ob h
        refine m_getR hC hw (C := RX0) (T := TX0) (N := 3) hv13 ki_X0_insertAt_X0 rfl (by decide) k_X0_insertAt_9 (fun _ z => z) dX0_insertAt_38 ?_
        refine lv_iload_n hx hb dX0_insertAt_41 rfl (lv_at hl 3 rfl) ?_
        refine lv_iconst (v := (1 : Int32)) hx hb dX0_insertAt_42 (by decide) ?_
        refine lv_isub hx hb dX0_insertAt_43 ?_
        obtain ⟨v14, hv14, h⟩ := ob h
        refine m_iald (x := v13) hC hw hv14 dX0_insertAt_44 ?_
        obtain ⟨M15, hM15, h⟩ := ob h
        refine m_iast (x := v12) hC hw hM15 dX0_insertAt_45 (fun H locs hw => ?_)
        refine m_aload_n (x := x0) hx hb dX0_insertAt_46 rfl (lv_at hl 0 rfl) ?_
        obtain ⟨v16, hv16, h⟩ := ob h
        refine m_getR hC hw (C := RX0) (T := TX0) (N := 3) hv16 ki_X0_insertAt_X0 rfl (by decide) k_X0_insertAt_15 (fun _ z => z) dX0_insertAt_47 ?_
        refine lv_iload_n hx hb dX0_insertAt_50 rfl (lv_at hl 3 rfl) ?_
        refine m_aload_n (x := x0) hx hb dX0_insertAt_51 rfl (lv_at hl 0 rfl) ?_
        obtain ⟨v17, hv17, h⟩ := ob h
        refine m_getR hC hw (C := RX0) (T := TX0) (N := 3) hv17 ki_X0_insertAt_X0 rfl (by decide) k_X0_insertAt_15 (fun _ z => z) dX0_insertAt_52 ?_
        refine lv_iload_n hx hb dX0_insertAt_55 rfl (lv_at hl 3 rfl) ?_
        refine lv_iconst (v := (1 : Int32)) hx hb dX0_insertAt_56 (by decide) ?_
        refine lv_isub hx hb dX0_insertAt_57 ?_
        obtain ⟨v18, hv18, h⟩ := ob h
        refine m_iald (x := v17) hC hw hv18 dX0_insertAt_58 ?_
        obtain ⟨M19, hM19, h⟩ := ob h
        refine m_iast (x := v16) hC hw hM19 dX0_insertAt_59 (fun H locs hw => ?_)
        refine lv_iinc (v := (x3 + (-1 : Int32))) (lv' := [(3, .int (x3 + (-1 : Int32))), (0, va_rf x0), (1, .int x1), (2, .int x2)]) hx hb dX0_insertAt_60 hl (k := 3) rfl rfl (by decide) rfl (fun ls hl => ?_)
        refine lv_goto (tgt := 27) hx hb dX0_insertAt_63 (by decide) ?_
        exact ih _ _ _ _ _ h hw (lv_sub hl [1, 2, 3, 0] rfl)
  unfold f_X0_insertAt at h
  refine m_aload_n (x := this) hx hb dX0_insertAt_0 rfl (lv_at hl 0 rfl) ?_
  obtain ⟨v1, hv1, h⟩ := ob h
  refine m_getI hC hw (C := RX0) (T := TX0) (N := 3) hv1 ki_X0_insertAt_X0 rfl (by decide) k_X0_insertAt_18 (fun _ z => z) dX0_insertAt_1 ?_
  refine lv_bipush (v := (48 : Int32)) hx hb dX0_insertAt_4 (by decide) ?_
  refine lv_icmp_ge (tgt := 21) hx hb dX0_insertAt_6 (by decide) (fun c2 => ?_) (fun c2 => ?_)
  · replace h := itt h c2
    cases h
    exact RET hw ⟨(Nat.le_of_ble_eq_true rfl), (Nat.le_of_ble_eq_true rfl)⟩ dX0_insertAt_21
  · replace h := itf h c2
    refine lv_iload_n hx hb dX0_insertAt_9 rfl (lv_at hl 1 rfl) ?_
    refine lv_if_lt (tgt := 21) hx hb dX0_insertAt_10 (by decide) (fun c3 => ?_) (fun c3 => ?_)
    · replace h := itt h c3
      cases h
      exact RET hw ⟨(Nat.le_of_ble_eq_true rfl), (Nat.le_of_ble_eq_true rfl)⟩ dX0_insertAt_21
    · replace h := itf h c3
      refine lv_iload_n hx hb dX0_insertAt_13 rfl (lv_at hl 1 rfl) ?_
      refine m_aload_n (x := this) hx hb dX0_insertAt_14 rfl (lv_at hl 0 rfl) ?_
      obtain ⟨v4, hv4, h⟩ := ob h
      refine m_getI hC hw (C := RX0) (T := TX0) (N := 3) hv4 ki_X0_insertAt_X0 rfl (by decide) k_X0_insertAt_18 (fun _ z => z) dX0_insertAt_15 ?_
      refine lv_icmp_le (tgt := 22) hx hb dX0_insertAt_18 (by decide) (fun c5 => ?_) (fun c5 => ?_)
      · replace h := itt h c5
        refine m_aload_n (x := this) hx hb dX0_insertAt_22 rfl (lv_at hl 0 rfl) ?_
        obtain ⟨v6, hv6, h⟩ := ob h
        refine m_getI hC hw (C := RX0) (T := TX0) (N := 3) hv6 ki_X0_insertAt_X0 rfl (by decide) k_X0_insertAt_18 (fun _ z => z) dX0_insertAt_23 ?_
        refine lv_istore_n (lv' := [(3, .int v6), (0, va_rf this), (1, .int a1), (2, .int a2)]) hx hb dX0_insertAt_26 rfl hl (by decide) rfl (fun ls hl => ?_)
        exact L27 this a1 a2 _ _ _ _ _ _ h hw (lv_sub hl [1, 2, 3, 0] rfl)
      · replace h := itf h c5
        cases h
        exact RET hw ⟨(Nat.le_of_ble_eq_true rfl), (Nat.le_of_ble_eq_true rfl)⟩ dX0_insertAt_21

def f_X9_append_L3 (B : Nat) (n : Nat) (x0 : Option Nat) (x1 : Int32) : Nat → Mem → Int32 → Option (Mem)
  | 0, _, _ => none
  | k + 1, Mz, x2 => if x2 < 0 then (some (Mz)) else ((gI Mz x0 12 1).bind fun v2 => if (120 : Int32) ≤ v2 then (some (Mz)) else ((gR Mz x0 12 0).bind fun v4 => (gI Mz x0 12 1).bind fun v5 => (sI B Mz 0 v4 v5 ((x1.toUInt32 >>> ((x2 : Int32).toUInt32 &&& Int32.toUInt32 31)).toInt32 &&& (255 : Int32))).bind fun M6 => (gI M6 x0 12 1).bind fun v7 => (pF B M6 x0 12 1 (.int (v7 + (1 : Int32)))).bind fun M8 => f_X9_append_L3 B n x0 x1 k M8 (x2 + (-8 : Int32))))
def f_X9_append (B : Nat) (n : Nat) (M : Mem) (this : Option Nat) (a1 : Int32) : Option (Mem) := f_X9_append_L3 B n this a1 n M (24 : Int32)
def rmX9_append : Room := { frames := 0, cells := 0, slots := 0, locals := 0 }
theorem k_X9_append_15 : Cond.fieldLink RX9 15 "LoanBook$Tape" "size" "I" ∈ wsX9_append := List.mem_of_getElem? (i := 1) rfl
theorem ki_X9_append_X9 : ∀ w ∈ u_ws RX9 TX9 2, w ∈ wsX9_append := sub_r [3, 4] (by decide +kernel)
theorem k_X9_append_11 : Cond.fieldLink RX9 11 "LoanBook$Tape" "bytes" "[I" ∈ wsX9_append := List.mem_of_getElem? (i := 2) rfl
set_option maxHeartbeats 4000000 in
set_option maxRecDepth 100000 in
theorem c_X9_append {G : wG} {l : Launch} {n : Nat} {M : Mem} {sz : Nat} {this : Option Nat} {a1 : Int32} {r : Mem} (h : f_X9_append G.2.2.1 n M this a1 = some r) : CtrV G l yX9_append wsX9_append rmX9_append [va_rf this, .int a1] M sz r sz := by
  refine m_startV (own := RX9) (cc := cX9_append) (maxL := 3) (lv0 := [(0, va_rf this), (1, .int a1)]) (by decide) rfl rfl (by simp [lg_sl, va_rf_cat, cat_i, cat_r]) (by simp [lv_args, va_rf_cat, cat_i, cat_r]) ?_
  intro p e s m args below meth c Q hC hname RET hsz hw ls hl
  have hx := hC.1
  have hb := hC.2.1
  have L3 : ∀ (x0 : Option Nat) (x1 : Int32) (k : Nat) (Mz : Mem) (x2 : Int32) (H : Heap) (locs : List Loc) (ls : Array Slot), f_X9_append_L3 G.2.2.1 n x0 x1 k Mz x2 = some r → wD G s M Mz sz H locs → lv_has ls 3 [(0, va_rf x0), (1, .int x1), (2, .int x2)] → W p l e rmX9_append s m args below meth c H locs 0 0 Q (F0 m 3 ls []) := by
    intro x0 x1 k
    induction k with
    | zero =>
      intro Mz x2 H locs ls h
      exact absurd (show (none : Option (Mem)) = some r from h) (fun z => by cases z)
    | succ k ih =>
      intro Mz x2 H locs ls h hw hl
      rw [f_X9_append_L3] at h
      refine lv_iload_n hx hb dX9_append_3 rfl (lv_at hl 2 rfl) ?_
      refine lv_if_lt (tgt := 48) hx hb dX9_append_4 (by decide) (fun c1 => ?_) (fun c1 => ?_)
      · replace h := itt h c1
        cases h
        exact RET hw ⟨(Nat.le_of_ble_eq_true rfl), (Nat.le_of_ble_eq_true rfl)⟩ dX9_append_48
      · replace h := itf h c1
        refine m_aload_n (x := x0) hx hb dX9_append_7 rfl (lv_at hl 0 rfl) ?_
        obtain ⟨v2, hv2, h⟩ := ob h
        refine m_getI hC hw (C := RX9) (T := TX9) (N := 2) hv2 ki_X9_append_X9 rfl (by decide) k_X9_append_15 (fun _ z => z) dX9_append_8 ?_
        refine lv_bipush (v := (120 : Int32)) hx hb dX9_append_11 (by decide) ?_
        refine lv_icmp_ge (tgt := 48) hx hb dX9_append_13 (by decide) (fun c3 => ?_) (fun c3 => ?_)
        · replace h := itt h c3
          cases h
          exact RET hw ⟨(Nat.le_of_ble_eq_true rfl), (Nat.le_of_ble_eq_true rfl)⟩ dX9_append_48
        · replace h := itf h c3
          refine m_aload_n (x := x0) hx hb dX9_append_16 rfl (lv_at hl 0 rfl) ?_
          obtain ⟨v4, hv4, h⟩ := ob h
          refine m_getR hC hw (C := RX9) (T := TX9) (N := 2) hv4 ki_X9_append_X9 rfl (by decide) k_X9_append_11 (fun _ z => z) dX9_append_17 ?_
          refine m_aload_n (x := x0) hx hb dX9_append_20 rfl (lv_at hl 0 rfl) ?_
          obtain ⟨v5, hv5, h⟩ := ob h
          refine m_getI hC hw (C := RX9) (T := TX9) (N := 2) hv5 ki_X9_append_X9 rfl (by decide) k_X9_append_15 (fun _ z => z) dX9_append_21 ?_
          refine lv_iload_n hx hb dX9_append_24 rfl (lv_at hl 1 rfl) ?_
          refine lv_iload_n hx hb dX9_append_25 rfl (lv_at hl 2 rfl) ?_
          refine lv_iushr hx hb dX9_append_26 rfl ?_
          refine lv_sipush (v := (255 : Int32)) hx hb dX9_append_27 (by decide) ?_
          refine lv_iand hx hb dX9_append_30 ?_
          obtain ⟨M6, hM6, h⟩ := ob h
          refine m_iast (x := v4) hC hw hM6 dX9_append_31 (fun H locs hw => ?_)
          refine m_aload_n (x := x0) hx hb dX9_append_32 rfl (lv_at hl 0 rfl) ?_
          refine m_dup (x := x0) hx hb dX9_append_33 ?_
          obtain ⟨v7, hv7, h⟩ := ob h
          refine m_getI hC hw (C := RX9) (T := TX9) (N := 2) hv7 ki_X9_append_X9 rfl (by decide) k_X9_append_15 (fun _ z => z) dX9_append_34 ?_
          refine lv_iconst (v := (1 : Int32)) hx hb dX9_append_37 (by decide) ?_
          refine lv_iadd hx hb dX9_append_38 ?_
          obtain ⟨M8, hM8, h⟩ := ob h
          refine m_put hC hw (C := RX9) (T := TX9) (N := 2) (x := x0) hM8 ki_X9_append_X9 tyX9 tyX9_ok nmX9 rfl (by decide) k_X9_append_15 (fun _ z => z) rfl rfl rfl dX9_append_39 (fun H locs hw => ?_)
          refine lv_iinc (v := (x2 + (-8 : Int32))) (lv' := [(2, .int (x2 + (-8 : Int32))), (0, va_rf x0), (1, .int x1)]) hx hb dX9_append_42 hl (k := 2) rfl rfl (by decide) rfl (fun ls hl => ?_)
          refine lv_goto (tgt := 3) hx hb dX9_append_45 (by decide) ?_
          exact ih _ _ _ _ _ h hw (lv_sub hl [1, 2, 0] rfl)
  unfold f_X9_append at h
  refine lv_bipush (v := (24 : Int32)) hx hb dX9_append_0 (by decide) ?_
  refine lv_istore_n (lv' := [(2, .int (24 : Int32)), (0, va_rf this), (1, .int a1)]) hx hb dX9_append_2 rfl hl (by decide) rfl (fun ls hl => ?_)
  exact L3 this a1 _ _ _ _ _ _ h hw (lv_sub hl [1, 2, 0] rfl)

def f_X12_isIn (u : MS) (a1 : Int32) (a2 : Int32) (a3 : Int32) : Option (Int32) := if a1 < a2 then (some (0 : Int32)) else (if a3 < a1 then (some (0 : Int32)) else (some (1 : Int32)))
def rmX12_isIn : Room := { frames := 0, cells := 0, slots := 0, locals := 0 }
set_option maxHeartbeats 4000000 in
set_option maxRecDepth 100000 in
theorem c_X12_isIn {G : wG} {l : Launch} {m0 : Nat} {L : Mem} {u : MS} {sz : Nat} {a1 : Int32} {a2 : Int32} {a3 : Int32} {r : Int32} (hMo : MoOK G m0 L) (h : f_X12_isIn u a1 a2 a3 = some r) : CtrI G l yX12_isIn wsX12_isIn rmX12_isIn [.int a1, .int a2, .int a3] (Mm m0 u L) sz r (Mm m0 u L) sz := by
  refine m_startZ (own := RX12) (cc := cX12_isIn) (maxL := 3) (lv0 := [(0, .int a1), (1, .int a2), (2, .int a3)]) (by decide) rfl rfl (by simp [lg_sl, va_rf_cat, cat_i, cat_r]) (by simp [lv_args, va_rf_cat, cat_i, cat_r]) ?_
  intro p e s m args below meth c Q hC hname RET hsz hw ls hl
  have hx := hC.1
  have hb := hC.2.1
  unfold f_X12_isIn at h
  refine lv_iload_n hx hb dX12_isIn_0 rfl (lv_at hl 0 rfl) ?_
  refine lv_iload_n hx hb dX12_isIn_1 rfl (lv_at hl 1 rfl) ?_
  refine lv_icmp_lt (tgt := 14) hx hb dX12_isIn_2 (by decide) (fun c1 => ?_) (fun c1 => ?_)
  · replace h := itt h c1
    refine lv_iconst (v := (0 : Int32)) hx hb dX12_isIn_14 (by decide) ?_
    cases h
    exact RET (by decide) hw ⟨(Nat.le_of_ble_eq_true rfl), (Nat.le_of_ble_eq_true rfl)⟩ dX12_isIn_15
  · replace h := itf h c1
    refine lv_iload_n hx hb dX12_isIn_5 rfl (lv_at hl 0 rfl) ?_
    refine lv_iload_n hx hb dX12_isIn_6 rfl (lv_at hl 2 rfl) ?_
    refine lv_icmp_gt (tgt := 14) hx hb dX12_isIn_7 (by decide) (fun c2 => ?_) (fun c2 => ?_)
    · replace h := itt h c2
      refine lv_iconst (v := (0 : Int32)) hx hb dX12_isIn_14 (by decide) ?_
      cases h
      exact RET (by decide) hw ⟨(Nat.le_of_ble_eq_true rfl), (Nat.le_of_ble_eq_true rfl)⟩ dX12_isIn_15
    · replace h := itf h c2
      refine lv_iconst (v := (1 : Int32)) hx hb dX12_isIn_10 (by decide) ?_
      refine lv_goto (tgt := 15) hx hb dX12_isIn_11 (by decide) ?_
      cases h
      exact RET (by decide) hw ⟨(Nat.le_of_ble_eq_true rfl), (Nat.le_of_ble_eq_true rfl)⟩ dX12_isIn_15

def f_X12_fine (u : MS) (a1 : Int32) : Option (Int32 × MS) := some (a1, (uI u 2 (0 : Int32)))
def rmX12_fine : Room := { frames := 0, cells := 0, slots := 0, locals := 0 }
theorem k_X12_fine_1 : Cond.fieldLink RX12 1 "LoanBookModel" "status" "I" ∈ wsX12_fine := List.mem_of_getElem? (i := 1) rfl
theorem ki_X12_fine_X12 : ∀ w ∈ u_ws RX12 TX12 51, w ∈ wsX12_fine := sub_r [2, 3, 4, 5, 6, 7, 8, 9, 10, 11, 12, 13, 14, 15, 16, 17, 18, 19, 20, 21, 22, 23, 24, 25, 26, 27, 28, 29, 30, 31, 32, 33, 34, 35, 36, 37, 38, 39, 40, 41, 42, 43, 44, 45, 46, 47, 48, 49, 50, 51, 52] (by decide +kernel)
set_option maxHeartbeats 4000000 in
set_option maxRecDepth 100000 in
theorem c_X12_fine {G : wG} {l : Launch} {m0 : Nat} {L : Mem} {u : MS} {sz : Nat} {a1 : Int32} {r : Int32 × MS} (hMo : MoOK G m0 L) (h : f_X12_fine u a1 = some r) : CtrI G l yX12_fine wsX12_fine rmX12_fine [.ref m0, .int a1] (Mm m0 u L) sz r.1 (Mm m0 r.2 L) sz := by
  refine m_startI (own := RX12) (cc := cX12_fine) (maxL := 2) (lv0 := [(0, .ref m0), (1, .int a1)]) (by decide) rfl rfl (by simp [lg_sl, va_rf_cat, cat_i, cat_r]) (by simp [lv_args, va_rf_cat, cat_i, cat_r]) ?_
  intro p e s m args below meth c Q hC hname RET hsz hw ls hl
  have hx := hC.1
  have hb := hC.2.1
  unfold f_X12_fine at h
  refine lv_aload_n hx hb dX12_fine_0 rfl (lv_at hl 0 rfl) ?_
  refine lv_iconst (v := (0 : Int32)) hx hb dX12_fine_1 (by decide) ?_
  refine mo_put (k := 2) hMo hC hw (by decide) ki_X12_fine_X12 k_X12_fine_1 (fun _ z => z) rfl rfl rfl dX12_fine_2 (fun H locs hw => ?_)
  refine lv_iload_n hx hb dX12_fine_5 rfl (lv_at hl 1 rfl) ?_
  cases h
  exact RET hw ⟨(Nat.le_of_ble_eq_true rfl), (Nat.le_of_ble_eq_true rfl)⟩ dX12_fine_6

def f_X12_valueOn_L13 (n : Nat) (u : MS) (x1 : Int32) (x2 : Int32) : Nat → Int32 → Int32 → Int32 → Option (Int32)
  | 0, _, _, _ => none
  | k + 1, x3, x4, x5 => if (u.1 10) ≤ x5 then (some (x3)) else (if inb x5 48 then (if (u.2 11 (x5 : Int32).toNatClampNeg) = x1 then (if inb x5 48 then (if x2 < (u.2 12 (x5 : Int32).toNatClampNeg) then (f_X12_valueOn_L13 n u x1 x2 k x3 x4 (x5 + (1 : Int32))) else (if inb x5 48 then (if x4 ≤ (u.2 12 (x5 : Int32).toNatClampNeg) then (if inb x5 48 then (if inb x5 48 then (f_X12_valueOn_L13 n u x1 x2 k (u.2 13 (x5 : Int32).toNatClampNeg) (u.2 12 (x5 : Int32).toNatClampNeg) (x5 + (1 : Int32))) else none) else none) else (f_X12_valueOn_L13 n u x1 x2 k x3 x4 (x5 + (1 : Int32)))) else none)) else none) else (f_X12_valueOn_L13 n u x1 x2 k x3 x4 (x5 + (1 : Int32)))) else none)
def f_X12_valueOn (n : Nat) (u : MS) (a1 : Int32) (a2 : Int32) : Option (Int32) := if inb a1 16 then (f_X12_valueOn_L13 n u a1 a2 n (u.2 7 (a1 : Int32).toNatClampNeg) (-1 : Int32) (0 : Int32)) else none
def rmX12_valueOn : Room := { frames := 0, cells := 0, slots := 0, locals := 0 }
theorem k_X12_valueOn_31 : Cond.fieldLink RX12 31 "LoanBookModel" "firstValue" "[I" ∈ wsX12_valueOn := List.mem_of_getElem? (i := 1) rfl
theorem ki_X12_valueOn_X12 : ∀ w ∈ u_ws RX12 TX12 51, w ∈ wsX12_valueOn := sub_r [6, 7, 8, 9, 10, 11, 12, 13, 14, 15, 16, 17, 18, 19, 20, 21, 22, 23, 24, 25, 26, 27, 28, 29, 30, 31, 32, 33, 34, 35, 36, 37, 38, 39, 40, 41, 42, 43, 44, 45, 46, 47, 48, 49, 50, 51, 52, 53, 54, 55, 56] (by decide +kernel)
theorem k_X12_valueOn_34 : Cond.fieldLink RX12 34 "LoanBookModel" "appraised" "I" ∈ wsX12_valueOn := List.mem_of_getElem? (i := 2) rfl
theorem k_X12_valueOn_37 : Cond.fieldLink RX12 37 "LoanBookModel" "appraisedThing" "[I" ∈ wsX12_valueOn := List.mem_of_getElem? (i := 3) rfl
theorem k_X12_valueOn_40 : Cond.fieldLink RX12 40 "LoanBookModel" "appraisedDay" "[I" ∈ wsX12_valueOn := List.mem_of_getElem? (i := 4) rfl
theorem k_X12_valueOn_43 : Cond.fieldLink RX12 43 "LoanBookModel" "appraisedValue" "[I" ∈ wsX12_valueOn := List.mem_of_getElem? (i := 5) rfl
set_option maxHeartbeats 4000000 in
set_option maxRecDepth 100000 in
theorem c_X12_valueOn {G : wG} {l : Launch} {n : Nat} {m0 : Nat} {L : Mem} {u : MS} {sz : Nat} {a1 : Int32} {a2 : Int32} {r : Int32} (hMo : MoOK G m0 L) (h : f_X12_valueOn n u a1 a2 = some r) : CtrI G l yX12_valueOn wsX12_valueOn rmX12_valueOn [.ref m0, .int a1, .int a2] (Mm m0 u L) sz r (Mm m0 u L) sz := by
  refine m_startI (own := RX12) (cc := cX12_valueOn) (maxL := 6) (lv0 := [(0, .ref m0), (1, .int a1), (2, .int a2)]) (by decide) rfl rfl (by simp [lg_sl, va_rf_cat, cat_i, cat_r]) (by simp [lv_args, va_rf_cat, cat_i, cat_r]) ?_
  intro p e s m args below meth c Q hC hname RET hsz hw ls hl
  have hx := hC.1
  have hb := hC.2.1
  have L13 : ∀ (x1 : Int32) (x2 : Int32) (k : Nat) (x3 : Int32) (x4 : Int32) (x5 : Int32) (H : Heap) (locs : List Loc) (ls : Array Slot), f_X12_valueOn_L13 n u x1 x2 k x3 x4 x5 = some r → wD G s (Mm m0 u L) (Mm m0 u L) sz H locs → lv_has ls 6 [(0, .ref m0), (1, .int x1), (2, .int x2), (3, .int x3), (4, .int x4), (5, .int x5)] → W p l e rmX12_valueOn s m args below meth c H locs 0 0 Q (F0 m 13 ls []) := by
    intro x1 x2 k
    induction k with
    | zero =>
      intro x3 x4 x5 H locs ls h
      exact absurd (show (none : Option (Int32)) = some r from h) (fun z => by cases z)
    | succ k ih =>
      intro x3 x4 x5 H locs ls h hw hl
      rw [f_X12_valueOn_L13] at h
      refine lv_iload hx hb dX12_valueOn_13 (lv_at hl 5 rfl) ?_
      refine lv_aload_n hx hb dX12_valueOn_15 rfl (lv_at hl 0 rfl) ?_
      refine m_getV hC hw (ci := 15) (k := 10) (C := RX12) (T := TX12) (N := 51) (Mm_obj _ _ _) (v := .int (u.1 10)) rfl ki_X12_valueOn_X12 rfl (by decide) k_X12_valueOn_34 (fun _ z => z) dX12_valueOn_16 ?_
      refine lv_icmp_ge (tgt := 82) hx hb dX12_valueOn_19 (by decide) (fun c2 => ?_) (fun c2 => ?_)
      · replace h := itt h c2
        refine lv_iload_n hx hb dX12_valueOn_82 rfl (lv_at hl 3 rfl) ?_
        cases h
        exact RET hw ⟨(Nat.le_of_ble_eq_true rfl), (Nat.le_of_ble_eq_true rfl)⟩ dX12_valueOn_83
      · replace h := itf h c2
        refine lv_aload_n hx hb dX12_valueOn_22 rfl (lv_at hl 0 rfl) ?_
        refine m_getV hC hw (ci := 15) (k := 11) (C := RX12) (T := TX12) (N := 51) (Mm_obj _ _ _) (v := .ref (m0 + 6)) rfl ki_X12_valueOn_X12 rfl (by decide) k_X12_valueOn_37 (fun _ z => z) dX12_valueOn_23 ?_
        refine lv_iload hx hb dX12_valueOn_26 (lv_at hl 5 rfl) ?_
        obtain ⟨g3, h⟩ := itg h
        refine m_iald (x := some (m0 + 6)) hC hw (Mm_aI (j := 5) rfl g3) dX12_valueOn_28 ?_
        refine lv_iload_n hx hb dX12_valueOn_29 rfl (lv_at hl 1 rfl) ?_
        refine lv_icmp_ne (tgt := 76) hx hb dX12_valueOn_30 (by decide) (fun c4 => ?_) (fun c4 => ?_)
        · replace h := itf h c4
          refine lv_iinc (v := (x5 + (1 : Int32))) (lv' := [(5, .int (x5 + (1 : Int32))), (0, .ref m0), (1, .int x1), (2, .int x2), (3, .int x3), (4, .int x4)]) hx hb dX12_valueOn_76 hl (k := 5) rfl rfl (by decide) rfl (fun ls hl => ?_)
          refine lv_goto (tgt := 13) hx hb dX12_valueOn_79 (by decide) ?_
          exact ih _ _ _ _ _ _ h hw (lv_sub hl [1, 2, 3, 4, 5, 0] rfl)
        · replace h := itt h c4
          refine lv_aload_n hx hb dX12_valueOn_33 rfl (lv_at hl 0 rfl) ?_
          refine m_getV hC hw (ci := 15) (k := 12) (C := RX12) (T := TX12) (N := 51) (Mm_obj _ _ _) (v := .ref (m0 + 7)) rfl ki_X12_valueOn_X12 rfl (by decide) k_X12_valueOn_40 (fun _ z => z) dX12_valueOn_34 ?_
          refine lv_iload hx hb dX12_valueOn_37 (lv_at hl 5 rfl) ?_
          obtain ⟨g5, h⟩ := itg h
          refine m_iald (x := some (m0 + 7)) hC hw (Mm_aI (j := 6) rfl g5) dX12_valueOn_39 ?_
          refine lv_iload_n hx hb dX12_valueOn_40 rfl (lv_at hl 2 rfl) ?_
          refine lv_icmp_gt (tgt := 76) hx hb dX12_valueOn_41 (by decide) (fun c6 => ?_) (fun c6 => ?_)
          · replace h := itt h c6
            refine lv_iinc (v := (x5 + (1 : Int32))) (lv' := [(5, .int (x5 + (1 : Int32))), (0, .ref m0), (1, .int x1), (2, .int x2), (3, .int x3), (4, .int x4)]) hx hb dX12_valueOn_76 hl (k := 5) rfl rfl (by decide) rfl (fun ls hl => ?_)
            refine lv_goto (tgt := 13) hx hb dX12_valueOn_79 (by decide) ?_
            exact ih _ _ _ _ _ _ h hw (lv_sub hl [1, 2, 3, 4, 5, 0] rfl)
          · replace h := itf h c6
            refine lv_aload_n hx hb dX12_valueOn_44 rfl (lv_at hl 0 rfl) ?_
            refine m_getV hC hw (ci := 15) (k := 12) (C := RX12) (T := TX12) (N := 51) (Mm_obj _ _ _) (v := .ref (m0 + 7)) rfl ki_X12_valueOn_X12 rfl (by decide) k_X12_valueOn_40 (fun _ z => z) dX12_valueOn_45 ?_
            refine lv_iload hx hb dX12_valueOn_48 (lv_at hl 5 rfl) ?_
            obtain ⟨g7, h⟩ := itg h
            refine m_iald (x := some (m0 + 7)) hC hw (Mm_aI (j := 6) rfl g7) dX12_valueOn_50 ?_
            refine lv_iload hx hb dX12_valueOn_51 (lv_at hl 4 rfl) ?_
            refine lv_icmp_ge (tgt := 59) hx hb dX12_valueOn_53 (by decide) (fun c8 => ?_) (fun c8 => ?_)
            · replace h := itt h c8
              refine lv_aload_n hx hb dX12_valueOn_59 rfl (lv_at hl 0 rfl) ?_
              refine m_getV hC hw (ci := 15) (k := 12) (C := RX12) (T := TX12) (N := 51) (Mm_obj _ _ _) (v := .ref (m0 + 7)) rfl ki_X12_valueOn_X12 rfl (by decide) k_X12_valueOn_40 (fun _ z => z) dX12_valueOn_60 ?_
              refine lv_iload hx hb dX12_valueOn_63 (lv_at hl 5 rfl) ?_
              obtain ⟨g9, h⟩ := itg h
              refine m_iald (x := some (m0 + 7)) hC hw (Mm_aI (j := 6) rfl g9) dX12_valueOn_65 ?_
              refine lv_istore (lv' := [(4, .int (u.2 12 (x5 : Int32).toNatClampNeg)), (0, .ref m0), (1, .int x1), (2, .int x2), (3, .int x3), (5, .int x5)]) hx hb dX12_valueOn_66 hl (by decide) rfl (fun ls hl => ?_)
              refine lv_aload_n hx hb dX12_valueOn_68 rfl (lv_at hl 1 rfl) ?_
              refine m_getV hC hw (ci := 15) (k := 13) (C := RX12) (T := TX12) (N := 51) (Mm_obj _ _ _) (v := .ref (m0 + 8)) rfl ki_X12_valueOn_X12 rfl (by decide) k_X12_valueOn_43 (fun _ z => z) dX12_valueOn_69 ?_
              refine lv_iload hx hb dX12_valueOn_72 (lv_at hl 5 rfl) ?_
              obtain ⟨g10, h⟩ := itg h
              refine m_iald (x := some (m0 + 8)) hC hw (Mm_aI (j := 7) rfl g10) dX12_valueOn_74 ?_
              refine lv_istore_n (lv' := [(3, .int (u.2 13 (x5 : Int32).toNatClampNeg)), (4, .int (u.2 12 (x5 : Int32).toNatClampNeg)), (0, .ref m0), (1, .int x1), (2, .int x2), (5, .int x5)]) hx hb dX12_valueOn_75 rfl hl (by decide) rfl (fun ls hl => ?_)
              refine lv_iinc (v := (x5 + (1 : Int32))) (lv' := [(5, .int (x5 + (1 : Int32))), (3, .int (u.2 13 (x5 : Int32).toNatClampNeg)), (4, .int (u.2 12 (x5 : Int32).toNatClampNeg)), (0, .ref m0), (1, .int x1), (2, .int x2)]) hx hb dX12_valueOn_76 hl (k := 5) rfl rfl (by decide) rfl (fun ls hl => ?_)
              refine lv_goto (tgt := 13) hx hb dX12_valueOn_79 (by decide) ?_
              exact ih _ _ _ _ _ _ h hw (lv_sub hl [3, 4, 5, 1, 2, 0] rfl)
            · replace h := itf h c8
              refine lv_goto (tgt := 76) hx hb dX12_valueOn_56 (by decide) ?_
              refine lv_iinc (v := (x5 + (1 : Int32))) (lv' := [(5, .int (x5 + (1 : Int32))), (0, .ref m0), (1, .int x1), (2, .int x2), (3, .int x3), (4, .int x4)]) hx hb dX12_valueOn_76 hl (k := 5) rfl rfl (by decide) rfl (fun ls hl => ?_)
              refine lv_goto (tgt := 13) hx hb dX12_valueOn_79 (by decide) ?_
              exact ih _ _ _ _ _ _ h hw (lv_sub hl [1, 2, 3, 4, 5, 0] rfl)
  unfold f_X12_valueOn at h
  refine lv_aload_n hx hb dX12_valueOn_0 rfl (lv_at hl 0 rfl) ?_
  refine m_getV hC hw (ci := 15) (k := 7) (C := RX12) (T := TX12) (N := 51) (Mm_obj _ _ _) (v := .ref (m0 + 3)) rfl ki_X12_valueOn_X12 rfl (by decide) k_X12_valueOn_31 (fun _ z => z) dX12_valueOn_1 ?_
  refine lv_iload_n hx hb dX12_valueOn_4 rfl (lv_at hl 1 rfl) ?_
  obtain ⟨g1, h⟩ := itg h
  refine m_iald (x := some (m0 + 3)) hC hw (Mm_aI (j := 2) rfl g1) dX12_valueOn_5 ?_
  refine lv_istore_n (lv' := [(3, .int (u.2 7 (a1 : Int32).toNatClampNeg)), (0, .ref m0), (1, .int a1), (2, .int a2)]) hx hb dX12_valueOn_6 rfl hl (by decide) rfl (fun ls hl => ?_)
  refine lv_iconst (v := (-1 : Int32)) hx hb dX12_valueOn_7 (by decide) ?_
  refine lv_istore (lv' := [(4, .int (-1 : Int32)), (3, .int (u.2 7 (a1 : Int32).toNatClampNeg)), (0, .ref m0), (1, .int a1), (2, .int a2)]) hx hb dX12_valueOn_8 hl (by decide) rfl (fun ls hl => ?_)
  refine lv_iconst (v := (0 : Int32)) hx hb dX12_valueOn_10 (by decide) ?_
  refine lv_istore (lv' := [(5, .int (0 : Int32)), (4, .int (-1 : Int32)), (3, .int (u.2 7 (a1 : Int32).toNatClampNeg)), (0, .ref m0), (1, .int a1), (2, .int a2)]) hx hb dX12_valueOn_11 hl (by decide) rfl (fun ls hl => ?_)
  exact L13 a1 a2 _ _ _ _ _ _ _ h hw (lv_sub hl [3, 4, 5, 2, 1, 0] rfl)

def f_X12_no (u : MS) (a1 : Int32) : Option (Int32 × MS) := some ((-9999 : Int32), (uI u 2 a1))
def rmX12_no : Room := { frames := 0, cells := 0, slots := 0, locals := 0 }
theorem k_X12_no_1 : Cond.fieldLink RX12 1 "LoanBookModel" "status" "I" ∈ wsX12_no := List.mem_of_getElem? (i := 1) rfl
theorem ki_X12_no_X12 : ∀ w ∈ u_ws RX12 TX12 51, w ∈ wsX12_no := sub_r [2, 3, 4, 5, 6, 7, 8, 9, 10, 11, 12, 13, 14, 15, 16, 17, 18, 19, 20, 21, 22, 23, 24, 25, 26, 27, 28, 29, 30, 31, 32, 33, 34, 35, 36, 37, 38, 39, 40, 41, 42, 43, 44, 45, 46, 47, 48, 49, 50, 51, 52] (by decide +kernel)
set_option maxHeartbeats 4000000 in
set_option maxRecDepth 100000 in
theorem c_X12_no {G : wG} {l : Launch} {m0 : Nat} {L : Mem} {u : MS} {sz : Nat} {a1 : Int32} {r : Int32 × MS} (hMo : MoOK G m0 L) (h : f_X12_no u a1 = some r) : CtrI G l yX12_no wsX12_no rmX12_no [.ref m0, .int a1] (Mm m0 u L) sz r.1 (Mm m0 r.2 L) sz := by
  refine m_startI (own := RX12) (cc := cX12_no) (maxL := 2) (lv0 := [(0, .ref m0), (1, .int a1)]) (by decide) rfl rfl (by simp [lg_sl, va_rf_cat, cat_i, cat_r]) (by simp [lv_args, va_rf_cat, cat_i, cat_r]) ?_
  intro p e s m args below meth c Q hC hname RET hsz hw ls hl
  have hx := hC.1
  have hb := hC.2.1
  unfold f_X12_no at h
  refine lv_aload_n hx hb dX12_no_0 rfl (lv_at hl 0 rfl) ?_
  refine lv_iload_n hx hb dX12_no_1 rfl (lv_at hl 1 rfl) ?_
  refine mo_put (k := 2) hMo hC hw (by decide) ki_X12_no_X12 k_X12_no_1 (fun _ z => z) rfl rfl rfl dX12_no_2 (fun H locs hw => ?_)
  refine lv_sipush (v := (-9999 : Int32)) hx hb dX12_no_5 (by decide) ?_
  cases h
  exact RET hw ⟨(Nat.le_of_ble_eq_true rfl), (Nat.le_of_ble_eq_true rfl)⟩ dX12_no_8

def f_X12_feed_L22 (n : Nat) (x1 : Int32) (x2 : Int32) (x3 : Int32) (x4 : Int32) (x5 : Int32) : Nat → MS → Int32 → Option (Int32 × MS)
  | 0, _, _ => none
  | k + 1, uz, x6 => if (20 : Int32) ≤ x6 then ((f_X12_fine uz (uz.1 1)).bind fun r3 => some ((r3.1, r3.2))) else (((if (4 : Int32) ≤ x6 then (if (8 : Int32) ≤ x6 then (if (12 : Int32) ≤ x6 then (if (16 : Int32) ≤ x6 then (some (x5)) else (some (x4))) else (some (x3))) else (some (x2))) else (some (x1))) : Option (Int32)).bind fun o9 => if inb (uz.1 1) 120 then (f_X12_feed_L22 n x1 x2 x3 x4 x5 k (uI (uA uz 0 ((uz.1 1) : Int32).toNatClampNeg ((o9 >>> (((24 : Int32) - ((8 : Int32) * (x6 - x6 / (4 : Int32) * (4 : Int32)))) &&& 31)) &&& (255 : Int32))) 1 (((uA uz 0 ((uz.1 1) : Int32).toNatClampNeg ((o9 >>> (((24 : Int32) - ((8 : Int32) * (x6 - x6 / (4 : Int32) * (4 : Int32)))) &&& 31)) &&& (255 : Int32))).1 1) + (1 : Int32))) (x6 + (1 : Int32))) else none)
def f_X12_feed (n : Nat) (u : MS) (a1 : Int32) (a2 : Int32) (a3 : Int32) (a4 : Int32) (a5 : Int32) : Option (Int32 × MS) := if ((u.1 1) + (20 : Int32)) ≤ (120 : Int32) then (f_X12_feed_L22 n a1 a2 a3 a4 a5 n u (0 : Int32)) else ((f_X12_no u (9 : Int32)).bind fun r11 => some (r11.1, r11.2))
def rmX12_feed : Room := { frames := 1, cells := 0, slots := 0, locals := 21 }
theorem k_X12_feed_268 : Cond.fieldLink RX12 268 "LoanBookModel" "taped" "I" ∈ wsX12_feed := List.mem_of_getElem? (i := 1) rfl
theorem ki_X12_feed_X12 : ∀ w ∈ u_ws RX12 TX12 51, w ∈ wsX12_feed := sub_r [13, 14, 15, 16, 17, 18, 19, 20, 21, 22, 23, 24, 25, 26, 27, 28, 29, 30, 31, 32, 33, 34, 35, 36, 37, 38, 39, 40, 41, 42, 43, 44, 45, 46, 47, 48, 49, 50, 51, 52, 53, 54, 55, 56, 57, 58, 59, 60, 61, 62, 63] (by decide +kernel)
theorem k_X12_feed_259 : Cond.fieldLink RX12 259 "LoanBookModel" "tape" "[I" ∈ wsX12_feed := List.mem_of_getElem? (i := 2) rfl
set_option maxHeartbeats 4000000 in
set_option maxRecDepth 100000 in
theorem c_X12_feed {G : wG} {l : Launch} {n : Nat} {m0 : Nat} {L : Mem} {u : MS} {sz : Nat} {a1 : Int32} {a2 : Int32} {a3 : Int32} {a4 : Int32} {a5 : Int32} {r : Int32 × MS} (hMo : MoOK G m0 L) (h : f_X12_feed n u a1 a2 a3 a4 a5 = some r) : CtrI G l yX12_feed wsX12_feed rmX12_feed [.ref m0, .int a1, .int a2, .int a3, .int a4, .int a5] (Mm m0 u L) sz r.1 (Mm m0 r.2 L) sz := by
  refine m_startI (own := RX12) (cc := cX12_feed) (maxL := 8) (lv0 := [(0, .ref m0), (1, .int a1), (2, .int a2), (3, .int a3), (4, .int a4), (5, .int a5)]) (by decide) rfl rfl (by simp [lg_sl, va_rf_cat, cat_i, cat_r]) (by simp [lv_args, va_rf_cat, cat_i, cat_r]) ?_
  intro p e s m args below meth c Q hC hname RET hsz hw ls hl
  have hx := hC.1
  have hb := hC.2.1
  have L22 : ∀ (x1 : Int32) (x2 : Int32) (x3 : Int32) (x4 : Int32) (x5 : Int32) (k : Nat) (uz : MS) (x6 : Int32) (H : Heap) (locs : List Loc) (ls : Array Slot), f_X12_feed_L22 n x1 x2 x3 x4 x5 k uz x6 = some r → wD G s (Mm m0 u L) (Mm m0 uz L) sz H locs → lv_has ls 8 [(0, .ref m0), (1, .int x1), (2, .int x2), (3, .int x3), (4, .int x4), (5, .int x5), (6, .int x6)] → W p l e rmX12_feed s m args below meth c H locs 0 0 Q (F0 m 22 ls []) := by
    intro x1 x2 x3 x4 x5 k
    induction k with
    | zero =>
      intro uz x6 H locs ls h
      exact absurd (show (none : Option (Int32 × MS)) = some r from h) (fun z => by cases z)
    | succ k ih =>
      intro uz x6 H locs ls h hw hl
      rw [f_X12_feed_L22] at h
      refine lv_iload hx hb dX12_feed_22 (lv_at hl 6 rfl) ?_
      refine lv_bipush (v := (20 : Int32)) hx hb dX12_feed_24 (by decide) ?_
      refine lv_icmp_ge (tgt := 119) hx hb dX12_feed_26 (by decide) (fun c2 => ?_) (fun c2 => ?_)
      · replace h := itt h c2
        refine lv_aload_n hx hb dX12_feed_119 rfl (lv_at hl 0 rfl) ?_
        refine lv_aload_n hx hb dX12_feed_120 rfl (lv_at hl 0 rfl) ?_
        refine m_getV hC hw (ci := 15) (k := 1) (C := RX12) (T := TX12) (N := 51) (Mm_obj _ _ _) (v := .int (uz.1 1)) rfl ki_X12_feed_X12 rfl (by decide) k_X12_feed_268 (fun _ z => z) dX12_feed_121 ?_
        obtain ⟨r3, hr3, h⟩ := ob h
        refine m_contI hC hw (m_runV hC hw (x := (some m0)) (ci := 15) (N := 51) (C := RX12) (T := TX12) (n := 1) (av := [.int (uz.1 1)]) (rest := []) (c_X12_fine (G := G) (l := l) hMo hr3) gX12_feed_X12_fine rfl (by decide +kernel) ⟨(Nat.le_of_ble_eq_true rfl), (Nat.le_of_ble_eq_true rfl)⟩ (isO_Mm _ _ _) rfl rfl hl.1 rfl (Nat.le_of_ble_eq_true rfl) dX12_feed_124 ⟨(Nat.le_of_ble_eq_true rfl), (Nat.le_of_ble_eq_true rfl)⟩) (fun H locs hw => ?_)
        cases h
        exact RET hw ⟨(Nat.le_of_ble_eq_true rfl), (Nat.le_of_ble_eq_true rfl)⟩ dX12_feed_127
      · replace h := itf h c2
        refine lv_iload hx hb dX12_feed_29 (lv_at hl 6 rfl) ?_
        refine lv_iconst (v := (4 : Int32)) hx hb dX12_feed_31 (by decide) ?_
        obtain ⟨o9, ho9, h⟩ := ob h
        have J4 : ∀ (H : Heap) (locs : List Loc) (ls : Array Slot), wD G s (Mm m0 u L) (Mm m0 uz L) sz H locs → lv_has ls 8 [(0, .ref m0), (1, .int x1), (2, .int x2), (3, .int x3), (4, .int x4), (5, .int x5), (6, .int x6)] → W p l e rmX12_feed s m args below meth c H locs 0 0 Q (F0 m 75 ls [.int o9]) := by
          intro H locs ls hw hl
          refine lv_istore (lv' := [(7, .int o9), (0, .ref m0), (1, .int x1), (2, .int x2), (3, .int x3), (4, .int x4), (5, .int x5), (6, .int x6)]) hx hb dX12_feed_75 hl (by decide) rfl (fun ls hl => ?_)
          refine lv_aload_n hx hb dX12_feed_77 rfl (lv_at hl 1 rfl) ?_
          refine m_getV hC hw (ci := 15) (k := 0) (C := RX12) (T := TX12) (N := 51) (Mm_obj _ _ _) (v := .ref (m0 + 1)) rfl ki_X12_feed_X12 rfl (by decide) k_X12_feed_259 (fun _ z => z) dX12_feed_78 ?_
          refine lv_aload_n hx hb dX12_feed_81 rfl (lv_at hl 1 rfl) ?_
          refine m_getV hC hw (ci := 15) (k := 1) (C := RX12) (T := TX12) (N := 51) (Mm_obj _ _ _) (v := .int (uz.1 1)) rfl ki_X12_feed_X12 rfl (by decide) k_X12_feed_268 (fun _ z => z) dX12_feed_82 ?_
          refine lv_iload hx hb dX12_feed_85 (lv_at hl 0 rfl) ?_
          refine lv_bipush (v := (24 : Int32)) hx hb dX12_feed_87 (by decide) ?_
          refine lv_bipush (v := (8 : Int32)) hx hb dX12_feed_89 (by decide) ?_
          refine lv_iload hx hb dX12_feed_91 (lv_at hl 7 rfl) ?_
          refine lv_iconst (v := (4 : Int32)) hx hb dX12_feed_93 (by decide) ?_
          refine lv_irem hx hb dX12_feed_94 (by decide) ?_
          refine lv_imul hx hb dX12_feed_95 ?_
          refine lv_isub hx hb dX12_feed_96 ?_
          refine lv_ishr hx hb dX12_feed_97 ?_
          refine lv_sipush (v := (255 : Int32)) hx hb dX12_feed_98 (by decide) ?_
          refine lv_iand hx hb dX12_feed_101 ?_
          obtain ⟨g10, h⟩ := itg h
          refine m_iast (x := some (m0 + 1)) (M1 := Mm m0 (uA uz 0 ((uz.1 1) : Int32).toNatClampNeg ((o9 >>> (((24 : Int32) - ((8 : Int32) * (x6 - x6 / (4 : Int32) * (4 : Int32)))) &&& 31)) &&& (255 : Int32))) L) hC hw (Mm_sI hMo (j := 0) rfl g10) dX12_feed_102 (fun H locs hw => ?_)
          refine lv_aload_n hx hb dX12_feed_103 rfl (lv_at hl 1 rfl) ?_
          refine lv_dup hx hb dX12_feed_104 rfl ?_
          refine m_getV hC hw (ci := 15) (k := 1) (C := RX12) (T := TX12) (N := 51) (Mm_obj _ _ _) (v := .int ((uA uz 0 ((uz.1 1) : Int32).toNatClampNeg ((o9 >>> (((24 : Int32) - ((8 : Int32) * (x6 - x6 / (4 : Int32) * (4 : Int32)))) &&& 31)) &&& (255 : Int32))).1 1)) rfl ki_X12_feed_X12 rfl (by decide) k_X12_feed_268 (fun _ z => z) dX12_feed_105 ?_
          refine lv_iconst (v := (1 : Int32)) hx hb dX12_feed_108 (by decide) ?_
          refine lv_iadd hx hb dX12_feed_109 ?_
          refine mo_put (k := 1) hMo hC hw (by decide) ki_X12_feed_X12 k_X12_feed_268 (fun _ z => z) rfl rfl rfl dX12_feed_110 (fun H locs hw => ?_)
          refine lv_iinc (v := (x6 + (1 : Int32))) (lv' := [(6, .int (x6 + (1 : Int32))), (7, .int o9), (0, .ref m0), (1, .int x1), (2, .int x2), (3, .int x3), (4, .int x4), (5, .int x5)]) hx hb dX12_feed_113 hl (k := 7) rfl rfl (by decide) rfl (fun ls hl => ?_)
          refine lv_goto (tgt := 22) hx hb dX12_feed_116 (by decide) ?_
          exact ih _ _ _ _ _ h hw (lv_sub hl [2, 3, 4, 5, 6, 7, 0] rfl)
        clear h
        replace h := ho9
        refine lv_icmp_ge (tgt := 39) hx hb dX12_feed_32 (by decide) (fun c5 => ?_) (fun c5 => ?_)
        · replace h := itt h c5
          refine lv_iload hx hb dX12_feed_39 (lv_at hl 6 rfl) ?_
          refine lv_bipush (v := (8 : Int32)) hx hb dX12_feed_41 (by decide) ?_
          refine lv_icmp_ge (tgt := 50) hx hb dX12_feed_43 (by decide) (fun c6 => ?_) (fun c6 => ?_)
          · replace h := itt h c6
            refine lv_iload hx hb dX12_feed_50 (lv_at hl 6 rfl) ?_
            refine lv_bipush (v := (12 : Int32)) hx hb dX12_feed_52 (by decide) ?_
            refine lv_icmp_ge (tgt := 61) hx hb dX12_feed_54 (by decide) (fun c7 => ?_) (fun c7 => ?_)
            · replace h := itt h c7
              refine lv_iload hx hb dX12_feed_61 (lv_at hl 6 rfl) ?_
              refine lv_bipush (v := (16 : Int32)) hx hb dX12_feed_63 (by decide) ?_
              refine lv_icmp_ge (tgt := 73) hx hb dX12_feed_65 (by decide) (fun c8 => ?_) (fun c8 => ?_)
              · replace h := itt h c8
                refine lv_iload hx hb dX12_feed_73 (lv_at hl 5 rfl) ?_
                cases h
                exact J4 _ _ _ hw (lv_sub hl [0, 1, 2, 3, 4, 5, 6] rfl)
              · replace h := itf h c8
                refine lv_iload hx hb dX12_feed_68 (lv_at hl 4 rfl) ?_
                refine lv_goto (tgt := 75) hx hb dX12_feed_70 (by decide) ?_
                cases h
                exact J4 _ _ _ hw (lv_sub hl [0, 1, 2, 3, 4, 5, 6] rfl)
            · replace h := itf h c7
              refine lv_iload_n hx hb dX12_feed_57 rfl (lv_at hl 3 rfl) ?_
              refine lv_goto (tgt := 75) hx hb dX12_feed_58 (by decide) ?_
              cases h
              exact J4 _ _ _ hw (lv_sub hl [0, 1, 2, 3, 4, 5, 6] rfl)
          · replace h := itf h c6
            refine lv_iload_n hx hb dX12_feed_46 rfl (lv_at hl 2 rfl) ?_
            refine lv_goto (tgt := 75) hx hb dX12_feed_47 (by decide) ?_
            cases h
            exact J4 _ _ _ hw (lv_sub hl [0, 1, 2, 3, 4, 5, 6] rfl)
        · replace h := itf h c5
          refine lv_iload_n hx hb dX12_feed_35 rfl (lv_at hl 1 rfl) ?_
          refine lv_goto (tgt := 75) hx hb dX12_feed_36 (by decide) ?_
          cases h
          exact J4 _ _ _ hw (lv_sub hl [0, 1, 2, 3, 4, 5, 6] rfl)
  unfold f_X12_feed at h
  refine lv_aload_n hx hb dX12_feed_0 rfl (lv_at hl 0 rfl) ?_
  refine m_getV hC hw (ci := 15) (k := 1) (C := RX12) (T := TX12) (N := 51) (Mm_obj _ _ _) (v := .int (u.1 1)) rfl ki_X12_feed_X12 rfl (by decide) k_X12_feed_268 (fun _ z => z) dX12_feed_1 ?_
  refine lv_bipush (v := (20 : Int32)) hx hb dX12_feed_4 (by decide) ?_
  refine lv_iadd hx hb dX12_feed_6 ?_
  refine lv_bipush (v := (120 : Int32)) hx hb dX12_feed_7 (by decide) ?_
  refine lv_icmp_le (tgt := 19) hx hb dX12_feed_9 (by decide) (fun c1 => ?_) (fun c1 => ?_)
  · replace h := itt h c1
    refine lv_iconst (v := (0 : Int32)) hx hb dX12_feed_19 (by decide) ?_
    refine lv_istore (lv' := [(6, .int (0 : Int32)), (0, .ref m0), (1, .int a1), (2, .int a2), (3, .int a3), (4, .int a4), (5, .int a5)]) hx hb dX12_feed_20 hl (by decide) rfl (fun ls hl => ?_)
    exact L22 a1 a2 a3 a4 a5 _ _ _ _ _ _ h hw (lv_sub hl [1, 2, 3, 4, 5, 6, 0] rfl)
  · replace h := itf h c1
    refine lv_aload_n hx hb dX12_feed_12 rfl (lv_at hl 0 rfl) ?_
    refine lv_bipush (v := (9 : Int32)) hx hb dX12_feed_13 (by decide) ?_
    obtain ⟨r11, hr11, h⟩ := ob h
    refine m_contI hC hw (m_runV hC hw (x := (some m0)) (ci := 15) (N := 51) (C := RX12) (T := TX12) (n := 1) (av := [.int (9 : Int32)]) (rest := []) (c_X12_no (G := G) (l := l) hMo hr11) gX12_feed_X12_no rfl (by decide +kernel) ⟨(Nat.le_of_ble_eq_true rfl), (Nat.le_of_ble_eq_true rfl)⟩ (isO_Mm _ _ _) rfl rfl hl.1 rfl (Nat.le_of_ble_eq_true rfl) dX12_feed_15 ⟨(Nat.le_of_ble_eq_true rfl), (Nat.le_of_ble_eq_true rfl)⟩) (fun H locs hw => ?_)
    cases h
    exact RET hw ⟨(Nat.le_of_ble_eq_true rfl), (Nat.le_of_ble_eq_true rfl)⟩ dX12_feed_18

def f_X12_firstOfWay (u : MS) (a1 : Int32) (a2 : Int32) : Option (Int32) := if a2 = 0 then (if inb a1 17 then (if inb a1 17 then (if inb (u.2 25 (a1 : Int32).toNatClampNeg) 6 then (if inb a1 17 then (some (((u.2 26 (a1 : Int32).toNatClampNeg) + (u.2 15 ((u.2 25 (a1 : Int32).toNatClampNeg) : Int32).toNatClampNeg)) + (u.2 27 (a1 : Int32).toNatClampNeg))) else none) else none) else none) else none) else (if inb a1 17 then (some (u.2 26 (a1 : Int32).toNatClampNeg)) else none)
def rmX12_firstOfWay : Room := { frames := 0, cells := 0, slots := 0, locals := 0 }
theorem k_X12_firstOfWay_61 : Cond.fieldLink RX12 61 "LoanBookModel" "start" "[I" ∈ wsX12_firstOfWay := List.mem_of_getElem? (i := 1) rfl
theorem ki_X12_firstOfWay_X12 : ∀ w ∈ u_ws RX12 TX12 51, w ∈ wsX12_firstOfWay := sub_r [5, 6, 7, 8, 9, 10, 11, 12, 13, 14, 15, 16, 17, 18, 19, 20, 21, 22, 23, 24, 25, 26, 27, 28, 29, 30, 31, 32, 33, 34, 35, 36, 37, 38, 39, 40, 41, 42, 43, 44, 45, 46, 47, 48, 49, 50, 51, 52, 53, 54, 55] (by decide +kernel)
theorem k_X12_firstOfWay_52 : Cond.fieldLink RX12 52 "LoanBookModel" "way" "[I" ∈ wsX12_firstOfWay := List.mem_of_getElem? (i := 2) rfl
theorem k_X12_firstOfWay_55 : Cond.fieldLink RX12 55 "LoanBookModel" "houseOf" "[I" ∈ wsX12_firstOfWay := List.mem_of_getElem? (i := 3) rfl
theorem k_X12_firstOfWay_58 : Cond.fieldLink RX12 58 "LoanBookModel" "stay" "[I" ∈ wsX12_firstOfWay := List.mem_of_getElem? (i := 4) rfl
set_option maxHeartbeats 4000000 in
set_option maxRecDepth 100000 in
theorem c_X12_firstOfWay {G : wG} {l : Launch} {m0 : Nat} {L : Mem} {u : MS} {sz : Nat} {a1 : Int32} {a2 : Int32} {r : Int32} (hMo : MoOK G m0 L) (h : f_X12_firstOfWay u a1 a2 = some r) : CtrI G l yX12_firstOfWay wsX12_firstOfWay rmX12_firstOfWay [.ref m0, .int a1, .int a2] (Mm m0 u L) sz r (Mm m0 u L) sz := by
  refine m_startI (own := RX12) (cc := cX12_firstOfWay) (maxL := 3) (lv0 := [(0, .ref m0), (1, .int a1), (2, .int a2)]) (by decide) rfl rfl (by simp [lg_sl, va_rf_cat, cat_i, cat_r]) (by simp [lv_args, va_rf_cat, cat_i, cat_r]) ?_
  intro p e s m args below meth c Q hC hname RET hsz hw ls hl
  have hx := hC.1
  have hb := hC.2.1
  unfold f_X12_firstOfWay at h
  refine lv_iload_n hx hb dX12_firstOfWay_0 rfl (lv_at hl 2 rfl) ?_
  refine lv_if_eq (tgt := 13) hx hb dX12_firstOfWay_1 (by decide) (fun c1 => ?_) (fun c1 => ?_)
  · replace h := itt h c1
    refine lv_aload_n hx hb dX12_firstOfWay_13 rfl (lv_at hl 0 rfl) ?_
    refine m_getV hC hw (ci := 15) (k := 26) (C := RX12) (T := TX12) (N := 51) (Mm_obj _ _ _) (v := .ref (m0 + 18)) rfl ki_X12_firstOfWay_X12 rfl (by decide) k_X12_firstOfWay_61 (fun _ z => z) dX12_firstOfWay_14 ?_
    refine lv_iload_n hx hb dX12_firstOfWay_17 rfl (lv_at hl 1 rfl) ?_
    obtain ⟨g2, h⟩ := itg h
    refine m_iald (x := some (m0 + 18)) hC hw (Mm_aI (j := 17) rfl g2) dX12_firstOfWay_18 ?_
    refine lv_aload_n hx hb dX12_firstOfWay_19 rfl (lv_at hl 0 rfl) ?_
    refine m_getV hC hw (ci := 15) (k := 15) (C := RX12) (T := TX12) (N := 51) (Mm_obj _ _ _) (v := .ref (m0 + 9)) rfl ki_X12_firstOfWay_X12 rfl (by decide) k_X12_firstOfWay_52 (fun _ z => z) dX12_firstOfWay_20 ?_
    refine lv_aload_n hx hb dX12_firstOfWay_23 rfl (lv_at hl 0 rfl) ?_
    refine m_getV hC hw (ci := 15) (k := 25) (C := RX12) (T := TX12) (N := 51) (Mm_obj _ _ _) (v := .ref (m0 + 17)) rfl ki_X12_firstOfWay_X12 rfl (by decide) k_X12_firstOfWay_55 (fun _ z => z) dX12_firstOfWay_24 ?_
    refine lv_iload_n hx hb dX12_firstOfWay_27 rfl (lv_at hl 1 rfl) ?_
    obtain ⟨g3, h⟩ := itg h
    refine m_iald (x := some (m0 + 17)) hC hw (Mm_aI (j := 16) rfl g3) dX12_firstOfWay_28 ?_
    obtain ⟨g4, h⟩ := itg h
    refine m_iald (x := some (m0 + 9)) hC hw (Mm_aI (j := 8) rfl g4) dX12_firstOfWay_29 ?_
    refine lv_iadd hx hb dX12_firstOfWay_30 ?_
    refine lv_aload_n hx hb dX12_firstOfWay_31 rfl (lv_at hl 0 rfl) ?_
    refine m_getV hC hw (ci := 15) (k := 27) (C := RX12) (T := TX12) (N := 51) (Mm_obj _ _ _) (v := .ref (m0 + 19)) rfl ki_X12_firstOfWay_X12 rfl (by decide) k_X12_firstOfWay_58 (fun _ z => z) dX12_firstOfWay_32 ?_
    refine lv_iload_n hx hb dX12_firstOfWay_35 rfl (lv_at hl 1 rfl) ?_
    obtain ⟨g5, h⟩ := itg h
    refine m_iald (x := some (m0 + 19)) hC hw (Mm_aI (j := 18) rfl g5) dX12_firstOfWay_36 ?_
    refine lv_iadd hx hb dX12_firstOfWay_37 ?_
    cases h
    exact RET hw ⟨(Nat.le_of_ble_eq_true rfl), (Nat.le_of_ble_eq_true rfl)⟩ dX12_firstOfWay_38
  · replace h := itf h c1
    refine lv_aload_n hx hb dX12_firstOfWay_4 rfl (lv_at hl 0 rfl) ?_
    refine m_getV hC hw (ci := 15) (k := 26) (C := RX12) (T := TX12) (N := 51) (Mm_obj _ _ _) (v := .ref (m0 + 18)) rfl ki_X12_firstOfWay_X12 rfl (by decide) k_X12_firstOfWay_61 (fun _ z => z) dX12_firstOfWay_5 ?_
    refine lv_iload_n hx hb dX12_firstOfWay_8 rfl (lv_at hl 1 rfl) ?_
    obtain ⟨g6, h⟩ := itg h
    refine m_iald (x := some (m0 + 18)) hC hw (Mm_aI (j := 17) rfl g6) dX12_firstOfWay_9 ?_
    refine lv_goto (tgt := 38) hx hb dX12_firstOfWay_10 (by decide) ?_
    cases h
    exact RET hw ⟨(Nat.le_of_ble_eq_true rfl), (Nat.le_of_ble_eq_true rfl)⟩ dX12_firstOfWay_38

def f_X12_isHad (u : MS) (a1 : Int32) (a2 : Int32) : Option (Int32) := if inb a1 17 then (if (((u.2 28 (a1 : Int32).toNatClampNeg) >>> (a2 &&& 31)) &&& (1 : Int32)) = (1 : Int32) then (some (1 : Int32)) else (some (0 : Int32))) else none
def rmX12_isHad : Room := { frames := 0, cells := 0, slots := 0, locals := 0 }
theorem k_X12_isHad_27 : Cond.fieldLink RX12 27 "LoanBookModel" "has" "[I" ∈ wsX12_isHad := List.mem_of_getElem? (i := 1) rfl
theorem ki_X12_isHad_X12 : ∀ w ∈ u_ws RX12 TX12 51, w ∈ wsX12_isHad := sub_r [2, 3, 4, 5, 6, 7, 8, 9, 10, 11, 12, 13, 14, 15, 16, 17, 18, 19, 20, 21, 22, 23, 24, 25, 26, 27, 28, 29, 30, 31, 32, 33, 34, 35, 36, 37, 38, 39, 40, 41, 42, 43, 44, 45, 46, 47, 48, 49, 50, 51, 52] (by decide +kernel)
set_option maxHeartbeats 4000000 in
set_option maxRecDepth 100000 in
theorem c_X12_isHad {G : wG} {l : Launch} {m0 : Nat} {L : Mem} {u : MS} {sz : Nat} {a1 : Int32} {a2 : Int32} {r : Int32} (hMo : MoOK G m0 L) (h : f_X12_isHad u a1 a2 = some r) : CtrI G l yX12_isHad wsX12_isHad rmX12_isHad [.ref m0, .int a1, .int a2] (Mm m0 u L) sz r (Mm m0 u L) sz := by
  refine m_startZ (own := RX12) (cc := cX12_isHad) (maxL := 3) (lv0 := [(0, .ref m0), (1, .int a1), (2, .int a2)]) (by decide) rfl rfl (by simp [lg_sl, va_rf_cat, cat_i, cat_r]) (by simp [lv_args, va_rf_cat, cat_i, cat_r]) ?_
  intro p e s m args below meth c Q hC hname RET hsz hw ls hl
  have hx := hC.1
  have hb := hC.2.1
  unfold f_X12_isHad at h
  refine lv_aload_n hx hb dX12_isHad_0 rfl (lv_at hl 0 rfl) ?_
  refine m_getV hC hw (ci := 15) (k := 28) (C := RX12) (T := TX12) (N := 51) (Mm_obj _ _ _) (v := .ref (m0 + 20)) rfl ki_X12_isHad_X12 rfl (by decide) k_X12_isHad_27 (fun _ z => z) dX12_isHad_1 ?_
  refine lv_iload_n hx hb dX12_isHad_4 rfl (lv_at hl 1 rfl) ?_
  obtain ⟨g1, h⟩ := itg h
  refine m_iald (x := some (m0 + 20)) hC hw (Mm_aI (j := 19) rfl g1) dX12_isHad_5 ?_
  refine lv_iload_n hx hb dX12_isHad_6 rfl (lv_at hl 2 rfl) ?_
  refine lv_ishr hx hb dX12_isHad_7 ?_
  refine lv_iconst (v := (1 : Int32)) hx hb dX12_isHad_8 (by decide) ?_
  refine lv_iand hx hb dX12_isHad_9 ?_
  refine lv_iconst (v := (1 : Int32)) hx hb dX12_isHad_10 (by decide) ?_
  refine lv_icmp_ne (tgt := 18) hx hb dX12_isHad_11 (by decide) (fun c2 => ?_) (fun c2 => ?_)
  · replace h := itf h c2
    refine lv_iconst (v := (0 : Int32)) hx hb dX12_isHad_18 (by decide) ?_
    cases h
    exact RET (by decide) hw ⟨(Nat.le_of_ble_eq_true rfl), (Nat.le_of_ble_eq_true rfl)⟩ dX12_isHad_19
  · replace h := itt h c2
    refine lv_iconst (v := (1 : Int32)) hx hb dX12_isHad_14 (by decide) ?_
    refine lv_goto (tgt := 19) hx hb dX12_isHad_15 (by decide) ?_
    cases h
    exact RET (by decide) hw ⟨(Nat.le_of_ble_eq_true rfl), (Nat.le_of_ble_eq_true rfl)⟩ dX12_isHad_19

def f_X12_worthOf_L6 (n : Nat) (u : MS) (x1 : Int32) (x2 : Int32) (x3 : Int32) : Nat → Int32 → Int32 → Option (Int32)
  | 0, _, _ => none
  | k + 1, x4, x5 => if (u.1 5) ≤ x5 then (some (x4)) else ((f_X12_isHad u x1 x5).bind fun r2 => if r2 = 0 then (f_X12_worthOf_L6 n u x1 x2 x3 k (x4 + (0 : Int32)) (x5 + (1 : Int32))) else (if inb ((x1 * (16 : Int32)) + x5) 272 then (if (u.2 30 (((x1 * (16 : Int32)) + x5) : Int32).toNatClampNeg) = x2 then ((f_X12_valueOn n u x5 x3).bind fun r6 => f_X12_worthOf_L6 n u x1 x2 x3 k (x4 + r6) (x5 + (1 : Int32))) else (f_X12_worthOf_L6 n u x1 x2 x3 k (x4 + (0 : Int32)) (x5 + (1 : Int32)))) else none))
def f_X12_worthOf (n : Nat) (u : MS) (a1 : Int32) (a2 : Int32) (a3 : Int32) : Option (Int32) := f_X12_worthOf_L6 n u a1 a2 a3 n (0 : Int32) (0 : Int32)
def rmX12_worthOf : Room := { frames := 1, cells := 0, slots := 0, locals := 25 }
theorem k_X12_worthOf_7 : Cond.fieldLink RX12 7 "LoanBookModel" "things" "I" ∈ wsX12_worthOf := List.mem_of_getElem? (i := 1) rfl
theorem ki_X12_worthOf_X12 : ∀ w ∈ u_ws RX12 TX12 51, w ∈ wsX12_worthOf := sub_r [18, 19, 20, 21, 22, 23, 24, 25, 26, 27, 28, 29, 30, 31, 32, 33, 34, 35, 36, 37, 38, 39, 40, 41, 42, 43, 44, 45, 46, 47, 48, 49, 50, 51, 52, 53, 54, 55, 56, 57, 58, 59, 60, 61, 62, 63, 64, 65, 66, 67, 68] (by decide +kernel)
theorem k_X12_worthOf_104 : Cond.fieldLink RX12 104 "LoanBookModel" "parcelOf" "[I" ∈ wsX12_worthOf := List.mem_of_getElem? (i := 2) rfl
set_option maxHeartbeats 4000000 in
set_option maxRecDepth 100000 in
theorem c_X12_worthOf {G : wG} {l : Launch} {n : Nat} {m0 : Nat} {L : Mem} {u : MS} {sz : Nat} {a1 : Int32} {a2 : Int32} {a3 : Int32} {r : Int32} (hMo : MoOK G m0 L) (h : f_X12_worthOf n u a1 a2 a3 = some r) : CtrI G l yX12_worthOf wsX12_worthOf rmX12_worthOf [.ref m0, .int a1, .int a2, .int a3] (Mm m0 u L) sz r (Mm m0 u L) sz := by
  refine m_startI (own := RX12) (cc := cX12_worthOf) (maxL := 6) (lv0 := [(0, .ref m0), (1, .int a1), (2, .int a2), (3, .int a3)]) (by decide) rfl rfl (by simp [lg_sl, va_rf_cat, cat_i, cat_r]) (by simp [lv_args, va_rf_cat, cat_i, cat_r]) ?_
  intro p e s m args below meth c Q hC hname RET hsz hw ls hl
  have hx := hC.1
  have hb := hC.2.1
  have L6 : ∀ (x1 : Int32) (x2 : Int32) (x3 : Int32) (k : Nat) (x4 : Int32) (x5 : Int32) (H : Heap) (locs : List Loc) (ls : Array Slot), f_X12_worthOf_L6 n u x1 x2 x3 k x4 x5 = some r → wD G s (Mm m0 u L) (Mm m0 u L) sz H locs → lv_has ls 6 [(0, .ref m0), (1, .int x1), (2, .int x2), (3, .int x3), (4, .int x4), (5, .int x5)] → W p l e rmX12_worthOf s m args below meth c H locs 0 0 Q (F0 m 6 ls []) := by
    intro x1 x2 x3 k
    induction k with
    | zero =>
      intro x4 x5 H locs ls h
      exact absurd (show (none : Option (Int32)) = some r from h) (fun z => by cases z)
    | succ k ih =>
      intro x4 x5 H locs ls h hw hl
      rw [f_X12_worthOf_L6] at h
      refine lv_iload hx hb dX12_worthOf_6 (lv_at hl 5 rfl) ?_
      refine lv_aload_n hx hb dX12_worthOf_8 rfl (lv_at hl 0 rfl) ?_
      refine m_getV hC hw (ci := 15) (k := 5) (C := RX12) (T := TX12) (N := 51) (Mm_obj _ _ _) (v := .int (u.1 5)) rfl ki_X12_worthOf_X12 rfl (by decide) k_X12_worthOf_7 (fun _ z => z) dX12_worthOf_9 ?_
      refine lv_icmp_ge (tgt := 63) hx hb dX12_worthOf_12 (by decide) (fun c1 => ?_) (fun c1 => ?_)
      · replace h := itt h c1
        refine lv_iload hx hb dX12_worthOf_63 (lv_at hl 4 rfl) ?_
        cases h
        exact RET hw ⟨(Nat.le_of_ble_eq_true rfl), (Nat.le_of_ble_eq_true rfl)⟩ dX12_worthOf_65
      · replace h := itf h c1
        refine lv_iload hx hb dX12_worthOf_15 (lv_at hl 4 rfl) ?_
        refine lv_aload_n hx hb dX12_worthOf_17 rfl (lv_at hl 0 rfl) ?_
        refine lv_iload_n hx hb dX12_worthOf_18 rfl (lv_at hl 1 rfl) ?_
        refine lv_iload hx hb dX12_worthOf_19 (lv_at hl 5 rfl) ?_
        obtain ⟨r2, hr2, h⟩ := ob h
        refine m_contI hC hw (m_runV hC hw (x := (some m0)) (ci := 15) (N := 51) (C := RX12) (T := TX12) (n := 2) (av := [.int x1, .int x5]) (rest := [.int x4]) (c_X12_isHad (G := G) (l := l) hMo hr2) gX12_worthOf_X12_isHad rfl (by decide +kernel) ⟨(Nat.le_of_ble_eq_true rfl), (Nat.le_of_ble_eq_true rfl)⟩ (isO_Mm _ _ _) rfl rfl hl.1 rfl (Nat.le_of_ble_eq_true rfl) dX12_worthOf_21 ⟨(Nat.le_of_ble_eq_true rfl), (Nat.le_of_ble_eq_true rfl)⟩) (fun H locs hw => ?_)
        refine lv_if_eq (tgt := 53) hx hb dX12_worthOf_24 (by decide) (fun c3 => ?_) (fun c3 => ?_)
        · replace h := itt h c3
          refine lv_iconst (v := (0 : Int32)) hx hb dX12_worthOf_53 (by decide) ?_
          refine lv_iadd hx hb dX12_worthOf_54 ?_
          refine lv_istore (lv' := [(4, .int (x4 + (0 : Int32))), (0, .ref m0), (1, .int x1), (2, .int x2), (3, .int x3), (5, .int x5)]) hx hb dX12_worthOf_55 hl (by decide) rfl (fun ls hl => ?_)
          refine lv_iinc (v := (x5 + (1 : Int32))) (lv' := [(5, .int (x5 + (1 : Int32))), (4, .int (x4 + (0 : Int32))), (0, .ref m0), (1, .int x1), (2, .int x2), (3, .int x3)]) hx hb dX12_worthOf_57 hl (k := 5) rfl rfl (by decide) rfl (fun ls hl => ?_)
          refine lv_goto (tgt := 6) hx hb dX12_worthOf_60 (by decide) ?_
          exact ih _ _ _ _ _ h hw (lv_sub hl [2, 3, 4, 5, 1, 0] rfl)
        · replace h := itf h c3
          refine lv_aload_n hx hb dX12_worthOf_27 rfl (lv_at hl 0 rfl) ?_
          refine m_getV hC hw (ci := 15) (k := 30) (C := RX12) (T := TX12) (N := 51) (Mm_obj _ _ _) (v := .ref (m0 + 22)) rfl ki_X12_worthOf_X12 rfl (by decide) k_X12_worthOf_104 (fun _ z => z) dX12_worthOf_28 ?_
          refine lv_iload_n hx hb dX12_worthOf_31 rfl (lv_at hl 1 rfl) ?_
          refine lv_bipush (v := (16 : Int32)) hx hb dX12_worthOf_32 (by decide) ?_
          refine lv_imul hx hb dX12_worthOf_34 ?_
          refine lv_iload hx hb dX12_worthOf_35 (lv_at hl 5 rfl) ?_
          refine lv_iadd hx hb dX12_worthOf_37 ?_
          obtain ⟨g4, h⟩ := itg h
          refine m_iald (x := some (m0 + 22)) hC hw (Mm_aI (j := 21) rfl g4) dX12_worthOf_38 ?_
          refine lv_iload_n hx hb dX12_worthOf_39 rfl (lv_at hl 2 rfl) ?_
          refine lv_icmp_ne (tgt := 53) hx hb dX12_worthOf_40 (by decide) (fun c5 => ?_) (fun c5 => ?_)
          · replace h := itf h c5
            refine lv_iconst (v := (0 : Int32)) hx hb dX12_worthOf_53 (by decide) ?_
            refine lv_iadd hx hb dX12_worthOf_54 ?_
            refine lv_istore (lv' := [(4, .int (x4 + (0 : Int32))), (0, .ref m0), (1, .int x1), (2, .int x2), (3, .int x3), (5, .int x5)]) hx hb dX12_worthOf_55 hl (by decide) rfl (fun ls hl => ?_)
            refine lv_iinc (v := (x5 + (1 : Int32))) (lv' := [(5, .int (x5 + (1 : Int32))), (4, .int (x4 + (0 : Int32))), (0, .ref m0), (1, .int x1), (2, .int x2), (3, .int x3)]) hx hb dX12_worthOf_57 hl (k := 5) rfl rfl (by decide) rfl (fun ls hl => ?_)
            refine lv_goto (tgt := 6) hx hb dX12_worthOf_60 (by decide) ?_
            exact ih _ _ _ _ _ h hw (lv_sub hl [2, 3, 4, 5, 1, 0] rfl)
          · replace h := itt h c5
            refine lv_aload_n hx hb dX12_worthOf_43 rfl (lv_at hl 0 rfl) ?_
            refine lv_iload hx hb dX12_worthOf_44 (lv_at hl 5 rfl) ?_
            refine lv_iload_n hx hb dX12_worthOf_46 rfl (lv_at hl 3 rfl) ?_
            obtain ⟨r6, hr6, h⟩ := ob h
            refine m_contI hC hw (m_runV hC hw (x := (some m0)) (ci := 15) (N := 51) (C := RX12) (T := TX12) (n := 2) (av := [.int x5, .int x3]) (rest := [.int x4]) (c_X12_valueOn (G := G) (l := l) hMo hr6) gX12_worthOf_X12_valueOn rfl (by decide +kernel) ⟨(Nat.le_of_ble_eq_true rfl), (Nat.le_of_ble_eq_true rfl)⟩ (isO_Mm _ _ _) rfl rfl hl.1 rfl (Nat.le_of_ble_eq_true rfl) dX12_worthOf_47 ⟨(Nat.le_of_ble_eq_true rfl), (Nat.le_of_ble_eq_true rfl)⟩) (fun H locs hw => ?_)
            refine lv_goto (tgt := 54) hx hb dX12_worthOf_50 (by decide) ?_
            refine lv_iadd hx hb dX12_worthOf_54 ?_
            refine lv_istore (lv' := [(4, .int (x4 + r6)), (0, .ref m0), (1, .int x1), (2, .int x2), (3, .int x3), (5, .int x5)]) hx hb dX12_worthOf_55 hl (by decide) rfl (fun ls hl => ?_)
            refine lv_iinc (v := (x5 + (1 : Int32))) (lv' := [(5, .int (x5 + (1 : Int32))), (4, .int (x4 + r6)), (0, .ref m0), (1, .int x1), (2, .int x2), (3, .int x3)]) hx hb dX12_worthOf_57 hl (k := 5) rfl rfl (by decide) rfl (fun ls hl => ?_)
            refine lv_goto (tgt := 6) hx hb dX12_worthOf_60 (by decide) ?_
            exact ih _ _ _ _ _ h hw (lv_sub hl [2, 3, 4, 5, 1, 0] rfl)
  unfold f_X12_worthOf at h
  refine lv_iconst (v := (0 : Int32)) hx hb dX12_worthOf_0 (by decide) ?_
  refine lv_istore (lv' := [(4, .int (0 : Int32)), (0, .ref m0), (1, .int a1), (2, .int a2), (3, .int a3)]) hx hb dX12_worthOf_1 hl (by decide) rfl (fun ls hl => ?_)
  refine lv_iconst (v := (0 : Int32)) hx hb dX12_worthOf_3 (by decide) ?_
  refine lv_istore (lv' := [(5, .int (0 : Int32)), (4, .int (0 : Int32)), (0, .ref m0), (1, .int a1), (2, .int a2), (3, .int a3)]) hx hb dX12_worthOf_4 hl (by decide) rfl (fun ls hl => ?_)
  exact L6 a1 a2 a3 _ _ _ _ _ _ h hw (lv_sub hl [2, 3, 4, 5, 1, 0] rfl)

def f_X12_mayTravel_L5 (n : Nat) (u : MS) (x1 : Int32) (x2 : Int32) : Nat → Int32 → Int32 → Option (Int32)
  | 0, _, _ => none
  | k + 1, x3, x4 => if inb x1 8 then (if (u.2 20 (x1 : Int32).toNatClampNeg) ≤ x4 then (if x3 = 0 ∨ x3 = 1 then (some (x3)) else none) else (if x3 = 0 then (if inb ((x1 * (40 : Int32)) + x4) 320 then (if inb ((x1 * (40 : Int32)) + x4) 320 then ((f_X12_isIn u x2 (u.2 21 (((x1 * (40 : Int32)) + x4) : Int32).toNatClampNeg) (u.2 22 (((x1 * (40 : Int32)) + x4) : Int32).toNatClampNeg)).bind fun r7 => if r7 = 0 then (f_X12_mayTravel_L5 n u x1 x2 k (0 : Int32) (x4 + (1 : Int32))) else (f_X12_mayTravel_L5 n u x1 x2 k (1 : Int32) (x4 + (1 : Int32)))) else none) else none) else (f_X12_mayTravel_L5 n u x1 x2 k (1 : Int32) (x4 + (1 : Int32))))) else none
def f_X12_mayTravel (n : Nat) (u : MS) (a1 : Int32) (a2 : Int32) : Option (Int32) := f_X12_mayTravel_L5 n u a1 a2 n (0 : Int32) (0 : Int32)
def rmX12_mayTravel : Room := { frames := 1, cells := 0, slots := 0, locals := 22 }
theorem k_X12_mayTravel_75 : Cond.fieldLink RX12 75 "LoanBookModel" "spans" "[I" ∈ wsX12_mayTravel := List.mem_of_getElem? (i := 1) rfl
theorem ki_X12_mayTravel_X12 : ∀ w ∈ u_ws RX12 TX12 51, w ∈ wsX12_mayTravel := sub_r [8, 9, 10, 11, 12, 13, 14, 15, 16, 17, 18, 19, 20, 21, 22, 23, 24, 25, 26, 27, 28, 29, 30, 31, 32, 33, 34, 35, 36, 37, 38, 39, 40, 41, 42, 43, 44, 45, 46, 47, 48, 49, 50, 51, 52, 53, 54, 55, 56, 57, 58] (by decide +kernel)
theorem k_X12_mayTravel_78 : Cond.fieldLink RX12 78 "LoanBookModel" "spanFrom" "[I" ∈ wsX12_mayTravel := List.mem_of_getElem? (i := 2) rfl
theorem k_X12_mayTravel_81 : Cond.fieldLink RX12 81 "LoanBookModel" "spanTo" "[I" ∈ wsX12_mayTravel := List.mem_of_getElem? (i := 3) rfl
set_option maxHeartbeats 4000000 in
set_option maxRecDepth 100000 in
theorem c_X12_mayTravel {G : wG} {l : Launch} {n : Nat} {m0 : Nat} {L : Mem} {u : MS} {sz : Nat} {a1 : Int32} {a2 : Int32} {r : Int32} (hMo : MoOK G m0 L) (h : f_X12_mayTravel n u a1 a2 = some r) : CtrI G l yX12_mayTravel wsX12_mayTravel rmX12_mayTravel [.ref m0, .int a1, .int a2] (Mm m0 u L) sz r (Mm m0 u L) sz := by
  refine m_startZ (own := RX12) (cc := cX12_mayTravel) (maxL := 5) (lv0 := [(0, .ref m0), (1, .int a1), (2, .int a2)]) (by decide) rfl rfl (by simp [lg_sl, va_rf_cat, cat_i, cat_r]) (by simp [lv_args, va_rf_cat, cat_i, cat_r]) ?_
  intro p e s m args below meth c Q hC hname RET hsz hw ls hl
  have hx := hC.1
  have hb := hC.2.1
  have L5 : ∀ (x1 : Int32) (x2 : Int32) (k : Nat) (x3 : Int32) (x4 : Int32) (H : Heap) (locs : List Loc) (ls : Array Slot), f_X12_mayTravel_L5 n u x1 x2 k x3 x4 = some r → wD G s (Mm m0 u L) (Mm m0 u L) sz H locs → lv_has ls 5 [(0, .ref m0), (1, .int x1), (2, .int x2), (3, .int x3), (4, .int x4)] → W p l e rmX12_mayTravel s m args below meth c H locs 0 0 Q (F0 m 5 ls []) := by
    intro x1 x2 k
    induction k with
    | zero =>
      intro x3 x4 H locs ls h
      exact absurd (show (none : Option (Int32)) = some r from h) (fun z => by cases z)
    | succ k ih =>
      intro x3 x4 H locs ls h hw hl
      rw [f_X12_mayTravel_L5] at h
      refine lv_iload hx hb dX12_mayTravel_5 (lv_at hl 4 rfl) ?_
      refine lv_aload_n hx hb dX12_mayTravel_7 rfl (lv_at hl 0 rfl) ?_
      refine m_getV hC hw (ci := 15) (k := 20) (C := RX12) (T := TX12) (N := 51) (Mm_obj _ _ _) (v := .ref (m0 + 13)) rfl ki_X12_mayTravel_X12 rfl (by decide) k_X12_mayTravel_75 (fun _ z => z) dX12_mayTravel_8 ?_
      refine lv_iload_n hx hb dX12_mayTravel_11 rfl (lv_at hl 1 rfl) ?_
      obtain ⟨g1, h⟩ := itg h
      refine m_iald (x := some (m0 + 13)) hC hw (Mm_aI (j := 12) rfl g1) dX12_mayTravel_12 ?_
      refine lv_icmp_ge (tgt := 63) hx hb dX12_mayTravel_13 (by decide) (fun c2 => ?_) (fun c2 => ?_)
      · replace h := itt h c2
        refine lv_iload_n hx hb dX12_mayTravel_63 rfl (lv_at hl 3 rfl) ?_
        obtain ⟨g3, h⟩ := itg h
        cases h
        exact RET (isZ.nar g3) hw ⟨(Nat.le_of_ble_eq_true rfl), (Nat.le_of_ble_eq_true rfl)⟩ dX12_mayTravel_64
      · replace h := itf h c2
        refine lv_iload_n hx hb dX12_mayTravel_16 rfl (lv_at hl 3 rfl) ?_
        refine lv_if_ne (tgt := 51) hx hb dX12_mayTravel_17 (by decide) (fun c4 => ?_) (fun c4 => ?_)
        · replace h := itf h c4
          refine lv_iconst (v := (1 : Int32)) hx hb dX12_mayTravel_51 (by decide) ?_
          refine lv_goto (tgt := 56) hx hb dX12_mayTravel_52 (by decide) ?_
          refine lv_istore_n (lv' := [(3, .int (1 : Int32)), (0, .ref m0), (1, .int x1), (2, .int x2), (4, .int x4)]) hx hb dX12_mayTravel_56 rfl hl (by decide) rfl (fun ls hl => ?_)
          refine lv_iinc (v := (x4 + (1 : Int32))) (lv' := [(4, .int (x4 + (1 : Int32))), (3, .int (1 : Int32)), (0, .ref m0), (1, .int x1), (2, .int x2)]) hx hb dX12_mayTravel_57 hl (k := 4) rfl rfl (by decide) rfl (fun ls hl => ?_)
          refine lv_goto (tgt := 5) hx hb dX12_mayTravel_60 (by decide) ?_
          exact ih _ _ _ _ _ h hw (lv_sub hl [2, 3, 4, 1, 0] rfl)
        · replace h := itt h c4
          refine lv_iload_n hx hb dX12_mayTravel_20 rfl (lv_at hl 2 rfl) ?_
          refine lv_aload_n hx hb dX12_mayTravel_21 rfl (lv_at hl 0 rfl) ?_
          refine m_getV hC hw (ci := 15) (k := 21) (C := RX12) (T := TX12) (N := 51) (Mm_obj _ _ _) (v := .ref (m0 + 14)) rfl ki_X12_mayTravel_X12 rfl (by decide) k_X12_mayTravel_78 (fun _ z => z) dX12_mayTravel_22 ?_
          refine lv_iload_n hx hb dX12_mayTravel_25 rfl (lv_at hl 1 rfl) ?_
          refine lv_bipush (v := (40 : Int32)) hx hb dX12_mayTravel_26 (by decide) ?_
          refine lv_imul hx hb dX12_mayTravel_28 ?_
          refine lv_iload hx hb dX12_mayTravel_29 (lv_at hl 4 rfl) ?_
          refine lv_iadd hx hb dX12_mayTravel_31 ?_
          obtain ⟨g5, h⟩ := itg h
          refine m_iald (x := some (m0 + 14)) hC hw (Mm_aI (j := 13) rfl g5) dX12_mayTravel_32 ?_
          refine lv_aload_n hx hb dX12_mayTravel_33 rfl (lv_at hl 0 rfl) ?_
          refine m_getV hC hw (ci := 15) (k := 22) (C := RX12) (T := TX12) (N := 51) (Mm_obj _ _ _) (v := .ref (m0 + 15)) rfl ki_X12_mayTravel_X12 rfl (by decide) k_X12_mayTravel_81 (fun _ z => z) dX12_mayTravel_34 ?_
          refine lv_iload_n hx hb dX12_mayTravel_37 rfl (lv_at hl 1 rfl) ?_
          refine lv_bipush (v := (40 : Int32)) hx hb dX12_mayTravel_38 (by decide) ?_
          refine lv_imul hx hb dX12_mayTravel_40 ?_
          refine lv_iload hx hb dX12_mayTravel_41 (lv_at hl 4 rfl) ?_
          refine lv_iadd hx hb dX12_mayTravel_43 ?_
          obtain ⟨g6, h⟩ := itg h
          refine m_iald (x := some (m0 + 15)) hC hw (Mm_aI (j := 14) rfl g6) dX12_mayTravel_44 ?_
          obtain ⟨r7, hr7, h⟩ := ob h
          refine m_contI hC hw (m_runS hC hw (n := 3) (av := [.int x2, .int (u.2 21 (((x1 * (40 : Int32)) + x4) : Int32).toNatClampNeg), .int (u.2 22 (((x1 * (40 : Int32)) + x4) : Int32).toNatClampNeg)]) (rest := []) (c_X12_isIn (G := G) (l := l) hMo hr7) gX12_mayTravel_X12_isIn rfl (by decide +kernel) ⟨(Nat.le_of_ble_eq_true rfl), (Nat.le_of_ble_eq_true rfl)⟩ rfl hl.1 rfl (Nat.le_of_ble_eq_true rfl) dX12_mayTravel_45 ⟨(Nat.le_of_ble_eq_true rfl), (Nat.le_of_ble_eq_true rfl)⟩) (fun H locs hw => ?_)
          refine lv_if_eq (tgt := 55) hx hb dX12_mayTravel_48 (by decide) (fun c8 => ?_) (fun c8 => ?_)
          · replace h := itt h c8
            refine lv_iconst (v := (0 : Int32)) hx hb dX12_mayTravel_55 (by decide) ?_
            refine lv_istore_n (lv' := [(3, .int (0 : Int32)), (0, .ref m0), (1, .int x1), (2, .int x2), (4, .int x4)]) hx hb dX12_mayTravel_56 rfl hl (by decide) rfl (fun ls hl => ?_)
            refine lv_iinc (v := (x4 + (1 : Int32))) (lv' := [(4, .int (x4 + (1 : Int32))), (3, .int (0 : Int32)), (0, .ref m0), (1, .int x1), (2, .int x2)]) hx hb dX12_mayTravel_57 hl (k := 4) rfl rfl (by decide) rfl (fun ls hl => ?_)
            refine lv_goto (tgt := 5) hx hb dX12_mayTravel_60 (by decide) ?_
            exact ih _ _ _ _ _ h hw (lv_sub hl [2, 3, 4, 1, 0] rfl)
          · replace h := itf h c8
            refine lv_iconst (v := (1 : Int32)) hx hb dX12_mayTravel_51 (by decide) ?_
            refine lv_goto (tgt := 56) hx hb dX12_mayTravel_52 (by decide) ?_
            refine lv_istore_n (lv' := [(3, .int (1 : Int32)), (0, .ref m0), (1, .int x1), (2, .int x2), (4, .int x4)]) hx hb dX12_mayTravel_56 rfl hl (by decide) rfl (fun ls hl => ?_)
            refine lv_iinc (v := (x4 + (1 : Int32))) (lv' := [(4, .int (x4 + (1 : Int32))), (3, .int (1 : Int32)), (0, .ref m0), (1, .int x1), (2, .int x2)]) hx hb dX12_mayTravel_57 hl (k := 4) rfl rfl (by decide) rfl (fun ls hl => ?_)
            refine lv_goto (tgt := 5) hx hb dX12_mayTravel_60 (by decide) ?_
            exact ih _ _ _ _ _ h hw (lv_sub hl [2, 3, 4, 1, 0] rfl)
  unfold f_X12_mayTravel at h
  refine lv_iconst (v := (0 : Int32)) hx hb dX12_mayTravel_0 (by decide) ?_
  refine lv_istore_n (lv' := [(3, .int (0 : Int32)), (0, .ref m0), (1, .int a1), (2, .int a2)]) hx hb dX12_mayTravel_1 rfl hl (by decide) rfl (fun ls hl => ?_)
  refine lv_iconst (v := (0 : Int32)) hx hb dX12_mayTravel_2 (by decide) ?_
  refine lv_istore (lv' := [(4, .int (0 : Int32)), (3, .int (0 : Int32)), (0, .ref m0), (1, .int a1), (2, .int a2)]) hx hb dX12_mayTravel_3 hl (by decide) rfl (fun ls hl => ?_)
  exact L5 a1 a2 _ _ _ _ _ _ h hw (lv_sub hl [2, 3, 4, 1, 0] rfl)

def f_X12_stageOf (u : MS) (a1 : Int32) (a2 : Int32) : Option (Int32) := if inb a1 17 then (if inb (u.2 25 (a1 : Int32).toNatClampNeg) 6 then (if inb a1 17 then (if (a2 - (u.2 26 (a1 : Int32).toNatClampNeg)) < 0 then (some (0 : Int32)) else (if inb a1 17 then (if (a2 - (u.2 26 (a1 : Int32).toNatClampNeg)) < (((2 : Int32) * (u.2 15 ((u.2 25 (a1 : Int32).toNatClampNeg) : Int32).toNatClampNeg)) + (u.2 27 (a1 : Int32).toNatClampNeg)) then (if (u.2 15 ((u.2 25 (a1 : Int32).toNatClampNeg) : Int32).toNatClampNeg) ≤ (a2 - (u.2 26 (a1 : Int32).toNatClampNeg)) then (if inb a1 17 then (if ((u.2 15 ((u.2 25 (a1 : Int32).toNatClampNeg) : Int32).toNatClampNeg) + (u.2 27 (a1 : Int32).toNatClampNeg)) ≤ (a2 - (u.2 26 (a1 : Int32).toNatClampNeg)) then (some (3 : Int32)) else (some (2 : Int32))) else none) else (some (1 : Int32))) else (some (0 : Int32))) else none)) else none) else none) else none
def rmX12_stageOf : Room := { frames := 0, cells := 0, slots := 0, locals := 0 }
theorem k_X12_stageOf_52 : Cond.fieldLink RX12 52 "LoanBookModel" "way" "[I" ∈ wsX12_stageOf := List.mem_of_getElem? (i := 1) rfl
theorem ki_X12_stageOf_X12 : ∀ w ∈ u_ws RX12 TX12 51, w ∈ wsX12_stageOf := sub_r [5, 6, 7, 8, 9, 10, 11, 12, 13, 14, 15, 16, 17, 18, 19, 20, 21, 22, 23, 24, 25, 26, 27, 28, 29, 30, 31, 32, 33, 34, 35, 36, 37, 38, 39, 40, 41, 42, 43, 44, 45, 46, 47, 48, 49, 50, 51, 52, 53, 54, 55] (by decide +kernel)
theorem k_X12_stageOf_55 : Cond.fieldLink RX12 55 "LoanBookModel" "houseOf" "[I" ∈ wsX12_stageOf := List.mem_of_getElem? (i := 2) rfl
theorem k_X12_stageOf_61 : Cond.fieldLink RX12 61 "LoanBookModel" "start" "[I" ∈ wsX12_stageOf := List.mem_of_getElem? (i := 3) rfl
theorem k_X12_stageOf_58 : Cond.fieldLink RX12 58 "LoanBookModel" "stay" "[I" ∈ wsX12_stageOf := List.mem_of_getElem? (i := 4) rfl
set_option maxHeartbeats 4000000 in
set_option maxRecDepth 100000 in
theorem c_X12_stageOf {G : wG} {l : Launch} {m0 : Nat} {L : Mem} {u : MS} {sz : Nat} {a1 : Int32} {a2 : Int32} {r : Int32} (hMo : MoOK G m0 L) (h : f_X12_stageOf u a1 a2 = some r) : CtrI G l yX12_stageOf wsX12_stageOf rmX12_stageOf [.ref m0, .int a1, .int a2] (Mm m0 u L) sz r (Mm m0 u L) sz := by
  refine m_startI (own := RX12) (cc := cX12_stageOf) (maxL := 5) (lv0 := [(0, .ref m0), (1, .int a1), (2, .int a2)]) (by decide) rfl rfl (by simp [lg_sl, va_rf_cat, cat_i, cat_r]) (by simp [lv_args, va_rf_cat, cat_i, cat_r]) ?_
  intro p e s m args below meth c Q hC hname RET hsz hw ls hl
  have hx := hC.1
  have hb := hC.2.1
  unfold f_X12_stageOf at h
  refine lv_aload_n hx hb dX12_stageOf_0 rfl (lv_at hl 0 rfl) ?_
  refine m_getV hC hw (ci := 15) (k := 15) (C := RX12) (T := TX12) (N := 51) (Mm_obj _ _ _) (v := .ref (m0 + 9)) rfl ki_X12_stageOf_X12 rfl (by decide) k_X12_stageOf_52 (fun _ z => z) dX12_stageOf_1 ?_
  refine lv_aload_n hx hb dX12_stageOf_4 rfl (lv_at hl 0 rfl) ?_
  refine m_getV hC hw (ci := 15) (k := 25) (C := RX12) (T := TX12) (N := 51) (Mm_obj _ _ _) (v := .ref (m0 + 17)) rfl ki_X12_stageOf_X12 rfl (by decide) k_X12_stageOf_55 (fun _ z => z) dX12_stageOf_5 ?_
  refine lv_iload_n hx hb dX12_stageOf_8 rfl (lv_at hl 1 rfl) ?_
  obtain ⟨g1, h⟩ := itg h
  refine m_iald (x := some (m0 + 17)) hC hw (Mm_aI (j := 16) rfl g1) dX12_stageOf_9 ?_
  obtain ⟨g2, h⟩ := itg h
  refine m_iald (x := some (m0 + 9)) hC hw (Mm_aI (j := 8) rfl g2) dX12_stageOf_10 ?_
  refine lv_istore_n (lv' := [(3, .int (u.2 15 ((u.2 25 (a1 : Int32).toNatClampNeg) : Int32).toNatClampNeg)), (0, .ref m0), (1, .int a1), (2, .int a2)]) hx hb dX12_stageOf_11 rfl hl (by decide) rfl (fun ls hl => ?_)
  refine lv_iload_n hx hb dX12_stageOf_12 rfl (lv_at hl 3 rfl) ?_
  refine lv_aload_n hx hb dX12_stageOf_13 rfl (lv_at hl 1 rfl) ?_
  refine m_getV hC hw (ci := 15) (k := 26) (C := RX12) (T := TX12) (N := 51) (Mm_obj _ _ _) (v := .ref (m0 + 18)) rfl ki_X12_stageOf_X12 rfl (by decide) k_X12_stageOf_61 (fun _ z => z) dX12_stageOf_14 ?_
  refine lv_iload_n hx hb dX12_stageOf_17 rfl (lv_at hl 2 rfl) ?_
  obtain ⟨g3, h⟩ := itg h
  refine m_iald (x := some (m0 + 18)) hC hw (Mm_aI (j := 17) rfl g3) dX12_stageOf_18 ?_
  refine lv_isub hx hb dX12_stageOf_19 ?_
  refine lv_istore (lv' := [(4, .int (a2 - (u.2 26 (a1 : Int32).toNatClampNeg))), (3, .int (u.2 15 ((u.2 25 (a1 : Int32).toNatClampNeg) : Int32).toNatClampNeg)), (0, .ref m0), (1, .int a1), (2, .int a2)]) hx hb dX12_stageOf_20 hl (by decide) rfl (fun ls hl => ?_)
  refine lv_iload hx hb dX12_stageOf_22 (lv_at hl 0 rfl) ?_
  refine lv_if_lt (tgt := 42) hx hb dX12_stageOf_24 (by decide) (fun c4 => ?_) (fun c4 => ?_)
  · replace h := itt h c4
    refine lv_iconst (v := (0 : Int32)) hx hb dX12_stageOf_42 (by decide) ?_
    cases h
    exact RET hw ⟨(Nat.le_of_ble_eq_true rfl), (Nat.le_of_ble_eq_true rfl)⟩ dX12_stageOf_43
  · replace h := itf h c4
    refine lv_iload hx hb dX12_stageOf_27 (lv_at hl 0 rfl) ?_
    refine lv_iconst (v := (2 : Int32)) hx hb dX12_stageOf_29 (by decide) ?_
    refine lv_iload_n hx hb dX12_stageOf_30 rfl (lv_at hl 1 rfl) ?_
    refine lv_imul hx hb dX12_stageOf_31 ?_
    refine lv_aload_n hx hb dX12_stageOf_32 rfl (lv_at hl 2 rfl) ?_
    refine m_getV hC hw (ci := 15) (k := 27) (C := RX12) (T := TX12) (N := 51) (Mm_obj _ _ _) (v := .ref (m0 + 19)) rfl ki_X12_stageOf_X12 rfl (by decide) k_X12_stageOf_58 (fun _ z => z) dX12_stageOf_33 ?_
    refine lv_iload_n hx hb dX12_stageOf_36 rfl (lv_at hl 3 rfl) ?_
    obtain ⟨g5, h⟩ := itg h
    refine m_iald (x := some (m0 + 19)) hC hw (Mm_aI (j := 18) rfl g5) dX12_stageOf_37 ?_
    refine lv_iadd hx hb dX12_stageOf_38 ?_
    refine lv_icmp_lt (tgt := 44) hx hb dX12_stageOf_39 (by decide) (fun c6 => ?_) (fun c6 => ?_)
    · replace h := itt h c6
      refine lv_iload hx hb dX12_stageOf_44 (lv_at hl 0 rfl) ?_
      refine lv_iload_n hx hb dX12_stageOf_46 rfl (lv_at hl 1 rfl) ?_
      refine lv_icmp_ge (tgt := 54) hx hb dX12_stageOf_47 (by decide) (fun c7 => ?_) (fun c7 => ?_)
      · replace h := itt h c7
        refine lv_iload hx hb dX12_stageOf_54 (lv_at hl 0 rfl) ?_
        refine lv_iload_n hx hb dX12_stageOf_56 rfl (lv_at hl 1 rfl) ?_
        refine lv_aload_n hx hb dX12_stageOf_57 rfl (lv_at hl 2 rfl) ?_
        refine m_getV hC hw (ci := 15) (k := 27) (C := RX12) (T := TX12) (N := 51) (Mm_obj _ _ _) (v := .ref (m0 + 19)) rfl ki_X12_stageOf_X12 rfl (by decide) k_X12_stageOf_58 (fun _ z => z) dX12_stageOf_58 ?_
        refine lv_iload_n hx hb dX12_stageOf_61 rfl (lv_at hl 3 rfl) ?_
        obtain ⟨g8, h⟩ := itg h
        refine m_iald (x := some (m0 + 19)) hC hw (Mm_aI (j := 18) rfl g8) dX12_stageOf_62 ?_
        refine lv_iadd hx hb dX12_stageOf_63 ?_
        refine lv_icmp_ge (tgt := 71) hx hb dX12_stageOf_64 (by decide) (fun c9 => ?_) (fun c9 => ?_)
        · replace h := itt h c9
          refine lv_iconst (v := (3 : Int32)) hx hb dX12_stageOf_71 (by decide) ?_
          cases h
          exact RET hw ⟨(Nat.le_of_ble_eq_true rfl), (Nat.le_of_ble_eq_true rfl)⟩ dX12_stageOf_72
        · replace h := itf h c9
          refine lv_iconst (v := (2 : Int32)) hx hb dX12_stageOf_67 (by decide) ?_
          refine lv_goto (tgt := 72) hx hb dX12_stageOf_68 (by decide) ?_
          cases h
          exact RET hw ⟨(Nat.le_of_ble_eq_true rfl), (Nat.le_of_ble_eq_true rfl)⟩ dX12_stageOf_72
      · replace h := itf h c7
        refine lv_iconst (v := (1 : Int32)) hx hb dX12_stageOf_50 (by decide) ?_
        refine lv_goto (tgt := 72) hx hb dX12_stageOf_51 (by decide) ?_
        cases h
        exact RET hw ⟨(Nat.le_of_ble_eq_true rfl), (Nat.le_of_ble_eq_true rfl)⟩ dX12_stageOf_72
    · replace h := itf h c6
      refine lv_iconst (v := (0 : Int32)) hx hb dX12_stageOf_42 (by decide) ?_
      cases h
      exact RET hw ⟨(Nat.le_of_ble_eq_true rfl), (Nat.le_of_ble_eq_true rfl)⟩ dX12_stageOf_43

def f_X12_busyFor_L50 (n : Nat) (u : MS) (x1 : Int32) (x2 : Int32) (x3 : Int32) (x4 : Int32) (x5 : Int32) : Nat → Int32 → Option ((Int32) ⊕ (Unit))
  | 0, _ => none
  | k + 1, x6 => if inb x4 17 then (if (u.2 29 (x4 : Int32).toNatClampNeg) ≤ x6 then (some (Sum.inr ())) else (if x5 = (1 : Int32) then (if inb ((x4 * (16 : Int32)) + x6) 272 then (if (u.2 31 (((x4 * (16 : Int32)) + x6) : Int32).toNatClampNeg) = x1 then (some (Sum.inl x4)) else (f_X12_busyFor_L50 n u x1 x2 x3 x4 x5 k (x6 + (1 : Int32)))) else none) else (if inb ((x4 * (16 : Int32)) + x6) 272 then (if (u.2 32 (((x4 * (16 : Int32)) + x6) : Int32).toNatClampNeg) = x1 then (some (Sum.inl x4)) else (f_X12_busyFor_L50 n u x1 x2 x3 x4 x5 k (x6 + (1 : Int32)))) else none))) else none
def f_X12_busyFor_L3 (n : Nat) (u : MS) (x1 : Int32) (x2 : Int32) (x3 : Int32) : Nat → Int32 → Option (Int32)
  | 0, _ => none
  | k + 1, x4 => if x3 ≤ x4 then (some ((-1 : Int32))) else (if inb x4 17 then (if (u.2 24 (x4 : Int32).toNatClampNeg) = 0 then (f_X12_busyFor_L3 n u x1 x2 x3 k (x4 + (1 : Int32))) else ((f_X12_stageOf u x4 x2).bind fun r6 => if r6 = (1 : Int32) then ((f_X12_busyFor_L50 n u x1 x2 x3 x4 r6 n (0 : Int32)).bind fun o15s => Sum.elim (fun o15r => some o15r) (fun o15 => f_X12_busyFor_L3 n u x1 x2 x3 k (x4 + (1 : Int32))) o15s) else (if r6 = (3 : Int32) then ((f_X12_busyFor_L50 n u x1 x2 x3 x4 r6 n (0 : Int32)).bind fun o17s => Sum.elim (fun o17r => some o17r) (fun o17 => f_X12_busyFor_L3 n u x1 x2 x3 k (x4 + (1 : Int32))) o17s) else (f_X12_busyFor_L3 n u x1 x2 x3 k (x4 + (1 : Int32)))))) else none)
def f_X12_busyFor (n : Nat) (u : MS) (a1 : Int32) (a2 : Int32) (a3 : Int32) : Option (Int32) := f_X12_busyFor_L3 n u a1 a2 a3 n (0 : Int32)
def rmX12_busyFor : Room := { frames := 1, cells := 0, slots := 0, locals := 24 }
theorem k_X12_busyFor_23 : Cond.fieldLink RX12 23 "LoanBookModel" "stands" "[Z" ∈ wsX12_busyFor := List.mem_of_getElem? (i := 1) rfl
theorem ki_X12_busyFor_X12 : ∀ w ∈ u_ws RX12 TX12 51, w ∈ wsX12_busyFor := sub_r [14, 15, 16, 17, 18, 19, 20, 21, 22, 23, 24, 25, 26, 27, 28, 29, 30, 31, 32, 33, 34, 35, 36, 37, 38, 39, 40, 41, 42, 43, 44, 45, 46, 47, 48, 49, 50, 51, 52, 53, 54, 55, 56, 57, 58, 59, 60, 61, 62, 63, 64] (by decide +kernel)
theorem k_X12_busyFor_88 : Cond.fieldLink RX12 88 "LoanBookModel" "parcels" "[I" ∈ wsX12_busyFor := List.mem_of_getElem? (i := 2) rfl
theorem k_X12_busyFor_94 : Cond.fieldLink RX12 94 "LoanBookModel" "guardBack" "[I" ∈ wsX12_busyFor := List.mem_of_getElem? (i := 4) rfl
theorem k_X12_busyFor_91 : Cond.fieldLink RX12 91 "LoanBookModel" "guardOut" "[I" ∈ wsX12_busyFor := List.mem_of_getElem? (i := 3) rfl
set_option maxHeartbeats 4000000 in
set_option maxRecDepth 100000 in
theorem c_X12_busyFor {G : wG} {l : Launch} {n : Nat} {m0 : Nat} {L : Mem} {u : MS} {sz : Nat} {a1 : Int32} {a2 : Int32} {a3 : Int32} {r : Int32} (hMo : MoOK G m0 L) (h : f_X12_busyFor n u a1 a2 a3 = some r) : CtrI G l yX12_busyFor wsX12_busyFor rmX12_busyFor [.ref m0, .int a1, .int a2, .int a3] (Mm m0 u L) sz r (Mm m0 u L) sz := by
  refine m_startI (own := RX12) (cc := cX12_busyFor) (maxL := 7) (lv0 := [(0, .ref m0), (1, .int a1), (2, .int a2), (3, .int a3)]) (by decide) rfl rfl (by simp [lg_sl, va_rf_cat, cat_i, cat_r]) (by simp [lv_args, va_rf_cat, cat_i, cat_r]) ?_
  intro p e s m args below meth c Q hC hname RET hsz hw ls hl
  have hx := hC.1
  have hb := hC.2.1
  have L50 : ∀ (x1 : Int32) (x2 : Int32) (x3 : Int32) (x4 : Int32) (x5 : Int32) (k : Nat) (x6 : Int32) (H : Heap) (locs : List Loc) (ls : Array Slot) (o : (Int32) ⊕ (Unit)), f_X12_busyFor_L50 n u x1 x2 x3 x4 x5 k x6 = some o → wD G s (Mm m0 u L) (Mm m0 u L) sz H locs → lv_has ls 7 [(0, .ref m0), (1, .int x1), (2, .int x2), (3, .int x3), (4, .int x4), (5, .int x5), (6, .int x6)] → (∀ (H : Heap) (locs : List Loc) (ls : Array Slot) o1, o = Sum.inr o1 → wD G s (Mm m0 u L) (Mm m0 u L) sz H locs → lv_has ls 7 [(0, .ref m0), (1, .int x1), (2, .int x2), (3, .int x3), (4, .int x4)] → W p l e rmX12_busyFor s m args below meth c H locs 0 0 Q (F0 m 101 ls [])) → (∀ r1, o = Sum.inl r1 → r1 = r) → W p l e rmX12_busyFor s m args below meth c H locs 0 0 Q (F0 m 50 ls []) := by
    intro x1 x2 x3 x4 x5 k
    induction k with
    | zero =>
      intro x6 H locs ls o h
      exact absurd (show (none : Option ((Int32) ⊕ (Unit))) = some o from h) (fun z => by cases z)
    | succ k ih =>
      intro x6 H locs ls o h hw hl hk hret
      rw [f_X12_busyFor_L50] at h
      refine lv_iload hx hb dX12_busyFor_50 (lv_at hl 6 rfl) ?_
      refine lv_aload_n hx hb dX12_busyFor_52 rfl (lv_at hl 0 rfl) ?_
      refine m_getV hC hw (ci := 15) (k := 29) (C := RX12) (T := TX12) (N := 51) (Mm_obj _ _ _) (v := .ref (m0 + 21)) rfl ki_X12_busyFor_X12 rfl (by decide) k_X12_busyFor_88 (fun _ z => z) dX12_busyFor_53 ?_
      refine lv_iload hx hb dX12_busyFor_56 (lv_at hl 4 rfl) ?_
      obtain ⟨g8, h⟩ := itg h
      refine m_iald (x := some (m0 + 21)) hC hw (Mm_aI (j := 20) rfl g8) dX12_busyFor_58 ?_
      refine lv_icmp_ge (tgt := 101) hx hb dX12_busyFor_59 (by decide) (fun c9 => ?_) (fun c9 => ?_)
      · replace h := itt h c9
        cases h
        exact hk _ _ _ _ rfl hw (lv_sub hl [0, 1, 2, 3, 4] rfl)
      · replace h := itf h c9
        refine lv_iload hx hb dX12_busyFor_62 (lv_at hl 5 rfl) ?_
        refine lv_iconst (v := (1 : Int32)) hx hb dX12_busyFor_64 (by decide) ?_
        refine lv_icmp_ne (tgt := 75) hx hb dX12_busyFor_65 (by decide) (fun c10 => ?_) (fun c10 => ?_)
        · replace h := itf h c10
          refine lv_aload_n hx hb dX12_busyFor_75 rfl (lv_at hl 0 rfl) ?_
          refine m_getV hC hw (ci := 15) (k := 32) (C := RX12) (T := TX12) (N := 51) (Mm_obj _ _ _) (v := .ref (m0 + 24)) rfl ki_X12_busyFor_X12 rfl (by decide) k_X12_busyFor_94 (fun _ z => z) dX12_busyFor_76 ?_
          refine lv_iload hx hb dX12_busyFor_79 (lv_at hl 4 rfl) ?_
          refine lv_bipush (v := (16 : Int32)) hx hb dX12_busyFor_81 (by decide) ?_
          refine lv_imul hx hb dX12_busyFor_83 ?_
          refine lv_iload hx hb dX12_busyFor_84 (lv_at hl 6 rfl) ?_
          refine lv_iadd hx hb dX12_busyFor_86 ?_
          obtain ⟨g11, h⟩ := itg h
          refine m_iald (x := some (m0 + 24)) hC hw (Mm_aI (j := 23) rfl g11) dX12_busyFor_87 ?_
          refine lv_iload_n hx hb dX12_busyFor_88 rfl (lv_at hl 1 rfl) ?_
          refine lv_icmp_ne (tgt := 95) hx hb dX12_busyFor_89 (by decide) (fun c12 => ?_) (fun c12 => ?_)
          · replace h := itf h c12
            refine lv_iinc (v := (x6 + (1 : Int32))) (lv' := [(6, .int (x6 + (1 : Int32))), (0, .ref m0), (1, .int x1), (2, .int x2), (3, .int x3), (4, .int x4), (5, .int x5)]) hx hb dX12_busyFor_95 hl (k := 6) rfl rfl (by decide) rfl (fun ls hl => ?_)
            refine lv_goto (tgt := 50) hx hb dX12_busyFor_98 (by decide) ?_
            exact ih _ _ _ _ _ h hw (lv_sub hl [1, 2, 3, 4, 5, 6, 0] rfl) hk hret
          · replace h := itt h c12
            refine lv_iload hx hb dX12_busyFor_92 (lv_at hl 4 rfl) ?_
            cases h
            have e1 := hret _ rfl
            subst e1
            exact RET hw ⟨(Nat.le_of_ble_eq_true rfl), (Nat.le_of_ble_eq_true rfl)⟩ dX12_busyFor_94
        · replace h := itt h c10
          refine lv_aload_n hx hb dX12_busyFor_68 rfl (lv_at hl 0 rfl) ?_
          refine m_getV hC hw (ci := 15) (k := 31) (C := RX12) (T := TX12) (N := 51) (Mm_obj _ _ _) (v := .ref (m0 + 23)) rfl ki_X12_busyFor_X12 rfl (by decide) k_X12_busyFor_91 (fun _ z => z) dX12_busyFor_69 ?_
          refine lv_goto (tgt := 79) hx hb dX12_busyFor_72 (by decide) ?_
          refine lv_iload hx hb dX12_busyFor_79 (lv_at hl 4 rfl) ?_
          refine lv_bipush (v := (16 : Int32)) hx hb dX12_busyFor_81 (by decide) ?_
          refine lv_imul hx hb dX12_busyFor_83 ?_
          refine lv_iload hx hb dX12_busyFor_84 (lv_at hl 6 rfl) ?_
          refine lv_iadd hx hb dX12_busyFor_86 ?_
          obtain ⟨g13, h⟩ := itg h
          refine m_iald (x := some (m0 + 23)) hC hw (Mm_aI (j := 22) rfl g13) dX12_busyFor_87 ?_
          refine lv_iload_n hx hb dX12_busyFor_88 rfl (lv_at hl 1 rfl) ?_
          refine lv_icmp_ne (tgt := 95) hx hb dX12_busyFor_89 (by decide) (fun c14 => ?_) (fun c14 => ?_)
          · replace h := itf h c14
            refine lv_iinc (v := (x6 + (1 : Int32))) (lv' := [(6, .int (x6 + (1 : Int32))), (0, .ref m0), (1, .int x1), (2, .int x2), (3, .int x3), (4, .int x4), (5, .int x5)]) hx hb dX12_busyFor_95 hl (k := 6) rfl rfl (by decide) rfl (fun ls hl => ?_)
            refine lv_goto (tgt := 50) hx hb dX12_busyFor_98 (by decide) ?_
            exact ih _ _ _ _ _ h hw (lv_sub hl [1, 2, 3, 4, 5, 6, 0] rfl) hk hret
          · replace h := itt h c14
            refine lv_iload hx hb dX12_busyFor_92 (lv_at hl 4 rfl) ?_
            cases h
            have e1 := hret _ rfl
            subst e1
            exact RET hw ⟨(Nat.le_of_ble_eq_true rfl), (Nat.le_of_ble_eq_true rfl)⟩ dX12_busyFor_94
  have L3 : ∀ (x1 : Int32) (x2 : Int32) (x3 : Int32) (k : Nat) (x4 : Int32) (H : Heap) (locs : List Loc) (ls : Array Slot), f_X12_busyFor_L3 n u x1 x2 x3 k x4 = some r → wD G s (Mm m0 u L) (Mm m0 u L) sz H locs → lv_has ls 7 [(0, .ref m0), (1, .int x1), (2, .int x2), (3, .int x3), (4, .int x4)] → W p l e rmX12_busyFor s m args below meth c H locs 0 0 Q (F0 m 3 ls []) := by
    intro x1 x2 x3 k
    induction k with
    | zero =>
      intro x4 H locs ls h
      exact absurd (show (none : Option (Int32)) = some r from h) (fun z => by cases z)
    | succ k ih =>
      intro x4 H locs ls h hw hl
      rw [f_X12_busyFor_L3] at h
      refine lv_iload hx hb dX12_busyFor_3 (lv_at hl 4 rfl) ?_
      refine lv_iload_n hx hb dX12_busyFor_5 rfl (lv_at hl 3 rfl) ?_
      refine lv_icmp_ge (tgt := 107) hx hb dX12_busyFor_6 (by decide) (fun c1 => ?_) (fun c1 => ?_)
      · replace h := itt h c1
        refine lv_iconst (v := (-1 : Int32)) hx hb dX12_busyFor_107 (by decide) ?_
        cases h
        exact RET hw ⟨(Nat.le_of_ble_eq_true rfl), (Nat.le_of_ble_eq_true rfl)⟩ dX12_busyFor_108
      · replace h := itf h c1
        refine lv_aload_n hx hb dX12_busyFor_9 rfl (lv_at hl 0 rfl) ?_
        refine m_getV hC hw (ci := 15) (k := 24) (C := RX12) (T := TX12) (N := 51) (Mm_obj _ _ _) (v := .ref (m0 + 16)) rfl ki_X12_busyFor_X12 rfl (by decide) k_X12_busyFor_23 (fun _ z => z) dX12_busyFor_10 ?_
        refine lv_iload hx hb dX12_busyFor_13 (lv_at hl 4 rfl) ?_
        obtain ⟨g2, h⟩ := itg h
        refine m_zald (x := some (m0 + 16)) hC hw (Mm_aI (j := 15) rfl g2) dX12_busyFor_15 ?_
        refine lv_if_eq (tgt := 29) hx hb dX12_busyFor_16 (by decide) (fun c3 => ?_) (fun c3 => ?_)
        · replace h := itt h c3
          refine lv_iconst (v := (0 : Int32)) hx hb dX12_busyFor_29 (by decide) ?_
          refine lv_istore (lv' := [(5, .int (0 : Int32)), (0, .ref m0), (1, .int x1), (2, .int x2), (3, .int x3), (4, .int x4)]) hx hb dX12_busyFor_30 hl (by decide) rfl (fun ls hl => ?_)
          refine lv_iload hx hb dX12_busyFor_32 (lv_at hl 0 rfl) ?_
          refine lv_iconst (v := (1 : Int32)) hx hb dX12_busyFor_34 (by decide) ?_
          refine lv_icmp_eq (tgt := 47) hx hb dX12_busyFor_35 (by decide) (fun c5 => ?_) (fun _ => ?_)
          · first | exact absurd c5 (by decide) | exact (c5 (by decide)).elim | exact absurd rfl c5 | cases c5
          · refine lv_iload hx hb dX12_busyFor_38 (lv_at hl 0 rfl) ?_
            refine lv_iconst (v := (3 : Int32)) hx hb dX12_busyFor_40 (by decide) ?_
            refine lv_icmp_eq (tgt := 47) hx hb dX12_busyFor_41 (by decide) (fun c4 => ?_) (fun _ => ?_)
            · first | exact absurd c4 (by decide) | exact (c4 (by decide)).elim | exact absurd rfl c4 | cases c4
            · refine lv_goto (tgt := 101) hx hb dX12_busyFor_44 (by decide) ?_
              refine lv_iinc (v := (x4 + (1 : Int32))) (lv' := [(4, .int (x4 + (1 : Int32))), (5, .int (0 : Int32)), (0, .ref m0), (1, .int x1), (2, .int x2), (3, .int x3)]) hx hb dX12_busyFor_101 hl (k := 5) rfl rfl (by decide) rfl (fun ls hl => ?_)
              refine lv_goto (tgt := 3) hx hb dX12_busyFor_104 (by decide) ?_
              exact ih _ _ _ _ h hw (lv_sub hl [2, 3, 4, 5, 0] rfl)
        · replace h := itf h c3
          refine lv_aload_n hx hb dX12_busyFor_19 rfl (lv_at hl 0 rfl) ?_
          refine lv_iload hx hb dX12_busyFor_20 (lv_at hl 4 rfl) ?_
          refine lv_iload_n hx hb dX12_busyFor_22 rfl (lv_at hl 2 rfl) ?_
          obtain ⟨r6, hr6, h⟩ := ob h
          refine m_contI hC hw (m_runV hC hw (x := (some m0)) (ci := 15) (N := 51) (C := RX12) (T := TX12) (n := 2) (av := [.int x4, .int x2]) (rest := []) (c_X12_stageOf (G := G) (l := l) hMo hr6) gX12_busyFor_X12_stageOf rfl (by decide +kernel) ⟨(Nat.le_of_ble_eq_true rfl), (Nat.le_of_ble_eq_true rfl)⟩ (isO_Mm _ _ _) rfl rfl hl.1 rfl (Nat.le_of_ble_eq_true rfl) dX12_busyFor_23 ⟨(Nat.le_of_ble_eq_true rfl), (Nat.le_of_ble_eq_true rfl)⟩) (fun H locs hw => ?_)
          refine lv_goto (tgt := 30) hx hb dX12_busyFor_26 (by decide) ?_
          refine lv_istore (lv' := [(5, .int r6), (0, .ref m0), (1, .int x1), (2, .int x2), (3, .int x3), (4, .int x4)]) hx hb dX12_busyFor_30 hl (by decide) rfl (fun ls hl => ?_)
          refine lv_iload hx hb dX12_busyFor_32 (lv_at hl 0 rfl) ?_
          refine lv_iconst (v := (1 : Int32)) hx hb dX12_busyFor_34 (by decide) ?_
          refine lv_icmp_eq (tgt := 47) hx hb dX12_busyFor_35 (by decide) (fun c7 => ?_) (fun c7 => ?_)
          · replace h := itt h c7
            refine lv_iconst (v := (0 : Int32)) hx hb dX12_busyFor_47 (by decide) ?_
            refine lv_istore (lv' := [(6, .int (0 : Int32)), (5, .int r6), (0, .ref m0), (1, .int x1), (2, .int x2), (3, .int x3), (4, .int x4)]) hx hb dX12_busyFor_48 hl (by decide) rfl (fun ls hl => ?_)
            obtain ⟨o15s, ho15, h⟩ := ob h
            refine L50 x1 x2 x3 x4 r6 _ _ _ _ _ _ ho15 hw (lv_sub hl [2, 3, 4, 5, 6, 1, 0] rfl) (fun H locs ls o15 eo15 hw hl => ?_) (fun o15r eo15 => ?_)
            · subst eo15
              replace h := sumR h
              refine lv_iinc (v := (x4 + (1 : Int32))) (lv' := [(4, .int (x4 + (1 : Int32))), (0, .ref m0), (1, .int x1), (2, .int x2), (3, .int x3)]) hx hb dX12_busyFor_101 hl (k := 4) rfl rfl (by decide) rfl (fun ls hl => ?_)
              refine lv_goto (tgt := 3) hx hb dX12_busyFor_104 (by decide) ?_
              exact ih _ _ _ _ h hw (lv_sub hl [1, 2, 3, 4, 0] rfl)
            · subst eo15
              replace h := sumL h
              exact Option.some.inj h
          · replace h := itf h c7
            refine lv_iload hx hb dX12_busyFor_38 (lv_at hl 0 rfl) ?_
            refine lv_iconst (v := (3 : Int32)) hx hb dX12_busyFor_40 (by decide) ?_
            refine lv_icmp_eq (tgt := 47) hx hb dX12_busyFor_41 (by decide) (fun c16 => ?_) (fun c16 => ?_)
            · replace h := itt h c16
              refine lv_iconst (v := (0 : Int32)) hx hb dX12_busyFor_47 (by decide) ?_
              refine lv_istore (lv' := [(6, .int (0 : Int32)), (5, .int r6), (0, .ref m0), (1, .int x1), (2, .int x2), (3, .int x3), (4, .int x4)]) hx hb dX12_busyFor_48 hl (by decide) rfl (fun ls hl => ?_)
              obtain ⟨o17s, ho17, h⟩ := ob h
              refine L50 x1 x2 x3 x4 r6 _ _ _ _ _ _ ho17 hw (lv_sub hl [2, 3, 4, 5, 6, 1, 0] rfl) (fun H locs ls o17 eo17 hw hl => ?_) (fun o17r eo17 => ?_)
              · subst eo17
                replace h := sumR h
                refine lv_iinc (v := (x4 + (1 : Int32))) (lv' := [(4, .int (x4 + (1 : Int32))), (0, .ref m0), (1, .int x1), (2, .int x2), (3, .int x3)]) hx hb dX12_busyFor_101 hl (k := 4) rfl rfl (by decide) rfl (fun ls hl => ?_)
                refine lv_goto (tgt := 3) hx hb dX12_busyFor_104 (by decide) ?_
                exact ih _ _ _ _ h hw (lv_sub hl [1, 2, 3, 4, 0] rfl)
              · subst eo17
                replace h := sumL h
                exact Option.some.inj h
            · replace h := itf h c16
              refine lv_goto (tgt := 101) hx hb dX12_busyFor_44 (by decide) ?_
              refine lv_iinc (v := (x4 + (1 : Int32))) (lv' := [(4, .int (x4 + (1 : Int32))), (5, .int r6), (0, .ref m0), (1, .int x1), (2, .int x2), (3, .int x3)]) hx hb dX12_busyFor_101 hl (k := 5) rfl rfl (by decide) rfl (fun ls hl => ?_)
              refine lv_goto (tgt := 3) hx hb dX12_busyFor_104 (by decide) ?_
              exact ih _ _ _ _ h hw (lv_sub hl [2, 3, 4, 5, 0] rfl)
  unfold f_X12_busyFor at h
  refine lv_iconst (v := (0 : Int32)) hx hb dX12_busyFor_0 (by decide) ?_
  refine lv_istore (lv' := [(4, .int (0 : Int32)), (0, .ref m0), (1, .int a1), (2, .int a2), (3, .int a3)]) hx hb dX12_busyFor_1 hl (by decide) rfl (fun ls hl => ?_)
  exact L3 a1 a2 a3 _ _ _ _ _ h hw (lv_sub hl [1, 2, 3, 4, 0] rfl)

def f_X12_isReady_L6 (n : Nat) (u : MS) (x1 : Int32) (x2 : Int32) (x3 : Int32) (x4 : Int32) : Nat → Int32 → Int32 → Option (Int32)
  | 0, _, _ => none
  | k + 1, x5, x6 => if (x2 + x3) ≤ x6 then (if x5 = 0 ∨ x5 = 1 then (some (x5)) else none) else (if x5 = 0 then (if x5 = 0 ∨ x5 = 1 then (some (x5)) else none) else (if (1000 : Int32) ≤ x6 then (f_X12_isReady_L6 n u x1 x2 x3 x4 k (0 : Int32) (x6 + (1 : Int32))) else ((f_X12_mayTravel n u x1 x6).bind fun r6 => if r6 = 0 then (f_X12_isReady_L6 n u x1 x2 x3 x4 k (0 : Int32) (x6 + (1 : Int32))) else ((f_X12_busyFor n u x1 x6 x4).bind fun r8 => if 0 ≤ r8 then (f_X12_isReady_L6 n u x1 x2 x3 x4 k (0 : Int32) (x6 + (1 : Int32))) else (f_X12_isReady_L6 n u x1 x2 x3 x4 k (1 : Int32) (x6 + (1 : Int32)))))))
def f_X12_isReady (n : Nat) (u : MS) (a1 : Int32) (a2 : Int32) (a3 : Int32) (a4 : Int32) : Option (Int32) := f_X12_isReady_L6 n u a1 a2 a3 a4 n (1 : Int32) a2
def rmX12_isReady : Room := { frames := 2, cells := 0, slots := 0, locals := 50 }
set_option maxHeartbeats 4000000 in
set_option maxRecDepth 100000 in
theorem c_X12_isReady {G : wG} {l : Launch} {n : Nat} {m0 : Nat} {L : Mem} {u : MS} {sz : Nat} {a1 : Int32} {a2 : Int32} {a3 : Int32} {a4 : Int32} {r : Int32} (hMo : MoOK G m0 L) (h : f_X12_isReady n u a1 a2 a3 a4 = some r) : CtrI G l yX12_isReady wsX12_isReady rmX12_isReady [.ref m0, .int a1, .int a2, .int a3, .int a4] (Mm m0 u L) sz r (Mm m0 u L) sz := by
  refine m_startZ (own := RX12) (cc := cX12_isReady) (maxL := 7) (lv0 := [(0, .ref m0), (1, .int a1), (2, .int a2), (3, .int a3), (4, .int a4)]) (by decide) rfl rfl (by simp [lg_sl, va_rf_cat, cat_i, cat_r]) (by simp [lv_args, va_rf_cat, cat_i, cat_r]) ?_
  intro p e s m args below meth c Q hC hname RET hsz hw ls hl
  have hx := hC.1
  have hb := hC.2.1
  have L6 : ∀ (x1 : Int32) (x2 : Int32) (x3 : Int32) (x4 : Int32) (k : Nat) (x5 : Int32) (x6 : Int32) (H : Heap) (locs : List Loc) (ls : Array Slot), f_X12_isReady_L6 n u x1 x2 x3 x4 k x5 x6 = some r → wD G s (Mm m0 u L) (Mm m0 u L) sz H locs → lv_has ls 7 [(0, .ref m0), (1, .int x1), (2, .int x2), (3, .int x3), (4, .int x4), (5, .int x5), (6, .int x6)] → W p l e rmX12_isReady s m args below meth c H locs 0 0 Q (F0 m 6 ls []) := by
    intro x1 x2 x3 x4 k
    induction k with
    | zero =>
      intro x5 x6 H locs ls h
      exact absurd (show (none : Option (Int32)) = some r from h) (fun z => by cases z)
    | succ k ih =>
      intro x5 x6 H locs ls h hw hl
      rw [f_X12_isReady_L6] at h
      refine lv_iload hx hb dX12_isReady_6 (lv_at hl 6 rfl) ?_
      refine lv_iload_n hx hb dX12_isReady_8 rfl (lv_at hl 2 rfl) ?_
      refine lv_iload_n hx hb dX12_isReady_9 rfl (lv_at hl 3 rfl) ?_
      refine lv_iadd hx hb dX12_isReady_10 ?_
      refine lv_icmp_ge (tgt := 62) hx hb dX12_isReady_11 (by decide) (fun c1 => ?_) (fun c1 => ?_)
      · replace h := itt h c1
        refine lv_iload hx hb dX12_isReady_62 (lv_at hl 5 rfl) ?_
        obtain ⟨g2, h⟩ := itg h
        cases h
        exact RET (isZ.nar g2) hw ⟨(Nat.le_of_ble_eq_true rfl), (Nat.le_of_ble_eq_true rfl)⟩ dX12_isReady_64
      · replace h := itf h c1
        refine lv_iload hx hb dX12_isReady_14 (lv_at hl 5 rfl) ?_
        refine lv_if_eq (tgt := 62) hx hb dX12_isReady_16 (by decide) (fun c3 => ?_) (fun c3 => ?_)
        · replace h := itt h c3
          refine lv_iload hx hb dX12_isReady_62 (lv_at hl 5 rfl) ?_
          obtain ⟨g4, h⟩ := itg h
          cases h
          exact RET (isZ.nar g4) hw ⟨(Nat.le_of_ble_eq_true rfl), (Nat.le_of_ble_eq_true rfl)⟩ dX12_isReady_64
        · replace h := itf h c3
          refine lv_iload hx hb dX12_isReady_19 (lv_at hl 6 rfl) ?_
          refine lv_sipush (v := (1000 : Int32)) hx hb dX12_isReady_21 (by decide) ?_
          refine lv_icmp_ge (tgt := 53) hx hb dX12_isReady_24 (by decide) (fun c5 => ?_) (fun c5 => ?_)
          · replace h := itt h c5
            refine lv_iconst (v := (0 : Int32)) hx hb dX12_isReady_53 (by decide) ?_
            refine lv_istore (lv' := [(5, .int (0 : Int32)), (0, .ref m0), (1, .int x1), (2, .int x2), (3, .int x3), (4, .int x4), (6, .int x6)]) hx hb dX12_isReady_54 hl (by decide) rfl (fun ls hl => ?_)
            refine lv_iinc (v := (x6 + (1 : Int32))) (lv' := [(6, .int (x6 + (1 : Int32))), (5, .int (0 : Int32)), (0, .ref m0), (1, .int x1), (2, .int x2), (3, .int x3), (4, .int x4)]) hx hb dX12_isReady_56 hl (k := 6) rfl rfl (by decide) rfl (fun ls hl => ?_)
            refine lv_goto (tgt := 6) hx hb dX12_isReady_59 (by decide) ?_
            exact ih _ _ _ _ _ h hw (lv_sub hl [2, 3, 4, 5, 6, 1, 0] rfl)
          · replace h := itf h c5
            refine lv_aload_n hx hb dX12_isReady_27 rfl (lv_at hl 0 rfl) ?_
            refine lv_iload_n hx hb dX12_isReady_28 rfl (lv_at hl 1 rfl) ?_
            refine lv_iload hx hb dX12_isReady_29 (lv_at hl 6 rfl) ?_
            obtain ⟨r6, hr6, h⟩ := ob h
            refine m_contI hC hw (m_runV hC hw (x := (some m0)) (ci := 15) (N := 51) (C := RX12) (T := TX12) (n := 2) (av := [.int x1, .int x6]) (rest := []) (c_X12_mayTravel (G := G) (l := l) hMo hr6) gX12_isReady_X12_mayTravel rfl (by decide +kernel) ⟨(Nat.le_of_ble_eq_true rfl), (Nat.le_of_ble_eq_true rfl)⟩ (isO_Mm _ _ _) rfl rfl hl.1 rfl (Nat.le_of_ble_eq_true rfl) dX12_isReady_31 ⟨(Nat.le_of_ble_eq_true rfl), (Nat.le_of_ble_eq_true rfl)⟩) (fun H locs hw => ?_)
            refine lv_if_eq (tgt := 53) hx hb dX12_isReady_34 (by decide) (fun c7 => ?_) (fun c7 => ?_)
            · replace h := itt h c7
              refine lv_iconst (v := (0 : Int32)) hx hb dX12_isReady_53 (by decide) ?_
              refine lv_istore (lv' := [(5, .int (0 : Int32)), (0, .ref m0), (1, .int x1), (2, .int x2), (3, .int x3), (4, .int x4), (6, .int x6)]) hx hb dX12_isReady_54 hl (by decide) rfl (fun ls hl => ?_)
              refine lv_iinc (v := (x6 + (1 : Int32))) (lv' := [(6, .int (x6 + (1 : Int32))), (5, .int (0 : Int32)), (0, .ref m0), (1, .int x1), (2, .int x2), (3, .int x3), (4, .int x4)]) hx hb dX12_isReady_56 hl (k := 6) rfl rfl (by decide) rfl (fun ls hl => ?_)
              refine lv_goto (tgt := 6) hx hb dX12_isReady_59 (by decide) ?_
              exact ih _ _ _ _ _ h hw (lv_sub hl [2, 3, 4, 5, 6, 1, 0] rfl)
            · replace h := itf h c7
              refine lv_aload_n hx hb dX12_isReady_37 rfl (lv_at hl 0 rfl) ?_
              refine lv_iload_n hx hb dX12_isReady_38 rfl (lv_at hl 1 rfl) ?_
              refine lv_iload hx hb dX12_isReady_39 (lv_at hl 6 rfl) ?_
              refine lv_iload hx hb dX12_isReady_41 (lv_at hl 4 rfl) ?_
              obtain ⟨r8, hr8, h⟩ := ob h
              refine m_contI hC hw (m_runV hC hw (x := (some m0)) (ci := 15) (N := 51) (C := RX12) (T := TX12) (n := 3) (av := [.int x1, .int x6, .int x4]) (rest := []) (c_X12_busyFor (G := G) (l := l) hMo hr8) gX12_isReady_X12_busyFor rfl (by decide +kernel) ⟨(Nat.le_of_ble_eq_true rfl), (Nat.le_of_ble_eq_true rfl)⟩ (isO_Mm _ _ _) rfl rfl hl.1 rfl (Nat.le_of_ble_eq_true rfl) dX12_isReady_43 ⟨(Nat.le_of_ble_eq_true rfl), (Nat.le_of_ble_eq_true rfl)⟩) (fun H locs hw => ?_)
              refine lv_if_ge (tgt := 53) hx hb dX12_isReady_46 (by decide) (fun c9 => ?_) (fun c9 => ?_)
              · replace h := itt h c9
                refine lv_iconst (v := (0 : Int32)) hx hb dX12_isReady_53 (by decide) ?_
                refine lv_istore (lv' := [(5, .int (0 : Int32)), (0, .ref m0), (1, .int x1), (2, .int x2), (3, .int x3), (4, .int x4), (6, .int x6)]) hx hb dX12_isReady_54 hl (by decide) rfl (fun ls hl => ?_)
                refine lv_iinc (v := (x6 + (1 : Int32))) (lv' := [(6, .int (x6 + (1 : Int32))), (5, .int (0 : Int32)), (0, .ref m0), (1, .int x1), (2, .int x2), (3, .int x3), (4, .int x4)]) hx hb dX12_isReady_56 hl (k := 6) rfl rfl (by decide) rfl (fun ls hl => ?_)
                refine lv_goto (tgt := 6) hx hb dX12_isReady_59 (by decide) ?_
                exact ih _ _ _ _ _ h hw (lv_sub hl [2, 3, 4, 5, 6, 1, 0] rfl)
              · replace h := itf h c9
                refine lv_iconst (v := (1 : Int32)) hx hb dX12_isReady_49 (by decide) ?_
                refine lv_goto (tgt := 54) hx hb dX12_isReady_50 (by decide) ?_
                refine lv_istore (lv' := [(5, .int (1 : Int32)), (0, .ref m0), (1, .int x1), (2, .int x2), (3, .int x3), (4, .int x4), (6, .int x6)]) hx hb dX12_isReady_54 hl (by decide) rfl (fun ls hl => ?_)
                refine lv_iinc (v := (x6 + (1 : Int32))) (lv' := [(6, .int (x6 + (1 : Int32))), (5, .int (1 : Int32)), (0, .ref m0), (1, .int x1), (2, .int x2), (3, .int x3), (4, .int x4)]) hx hb dX12_isReady_56 hl (k := 6) rfl rfl (by decide) rfl (fun ls hl => ?_)
                refine lv_goto (tgt := 6) hx hb dX12_isReady_59 (by decide) ?_
                exact ih _ _ _ _ _ h hw (lv_sub hl [2, 3, 4, 5, 6, 1, 0] rfl)
  unfold f_X12_isReady at h
  refine lv_iconst (v := (1 : Int32)) hx hb dX12_isReady_0 (by decide) ?_
  refine lv_istore (lv' := [(5, .int (1 : Int32)), (0, .ref m0), (1, .int a1), (2, .int a2), (3, .int a3), (4, .int a4)]) hx hb dX12_isReady_1 hl (by decide) rfl (fun ls hl => ?_)
  refine lv_iload_n hx hb dX12_isReady_3 rfl (lv_at hl 3 rfl) ?_
  refine lv_istore (lv' := [(6, .int a2), (5, .int (1 : Int32)), (0, .ref m0), (1, .int a1), (2, .int a2), (3, .int a3), (4, .int a4)]) hx hb dX12_isReady_4 hl (by decide) rfl (fun ls hl => ?_)
  exact L6 a1 a2 a3 a4 _ _ _ _ _ _ h hw (lv_sub hl [2, 3, 4, 5, 6, 1, 0] rfl)

def f_X12_busyDays_L14 (n : Nat) (u : MS) (x1 : Int32) (x2 : Int32) (x4 : Int32) : Nat → Int32 → Int32 → Option (Int32)
  | 0, _, _ => none
  | k + 1, x3, x5 => if inb x4 17 then (if (u.2 29 (x4 : Int32).toNatClampNeg) ≤ x5 then (some ((x3))) else (if inb x4 17 then (if (u.2 24 (x4 : Int32).toNatClampNeg) = 0 then (some ((x3))) else (if inb ((x4 * (16 : Int32)) + x5) 272 then (((if (u.2 31 (((x4 * (16 : Int32)) + x5) : Int32).toNatClampNeg) = x1 then (if inb x4 17 then (if inb (u.2 25 (x4 : Int32).toNatClampNeg) 6 then (some ((u.2 15 ((u.2 25 (x4 : Int32).toNatClampNeg) : Int32).toNatClampNeg), x3)) else none) else none) else (some ((0 : Int32), x3))) : Option (Int32 × Int32)).bind fun o11 => if inb ((x4 * (16 : Int32)) + x5) 272 then (if (u.2 32 (((x4 * (16 : Int32)) + x5) : Int32).toNatClampNeg) = x1 then (if inb x4 17 then (if inb (u.2 25 (x4 : Int32).toNatClampNeg) 6 then (f_X12_busyDays_L14 n u x1 x2 x4 k ((o11.2 + o11.1) + (u.2 15 ((u.2 25 (x4 : Int32).toNatClampNeg) : Int32).toNatClampNeg)) (x5 + (1 : Int32))) else none) else none) else (f_X12_busyDays_L14 n u x1 x2 x4 k ((o11.2 + o11.1) + (0 : Int32)) (x5 + (1 : Int32)))) else none) else none)) else none)) else none
def f_X12_busyDays_L5 (n : Nat) (u : MS) (x1 : Int32) (x2 : Int32) : Nat → Int32 → Int32 → Option (Int32)
  | 0, _, _ => none
  | k + 1, x3, x4 => if x2 ≤ x4 then (some (x3)) else ((f_X12_busyDays_L14 n u x1 x2 x4 n x3 (0 : Int32)).bind fun o16 => f_X12_busyDays_L5 n u x1 x2 k o16 (x4 + (1 : Int32)))
def f_X12_busyDays (n : Nat) (u : MS) (a1 : Int32) (a2 : Int32) : Option (Int32) := f_X12_busyDays_L5 n u a1 a2 n (0 : Int32) (0 : Int32)
def rmX12_busyDays : Room := { frames := 0, cells := 0, slots := 0, locals := 0 }
theorem k_X12_busyDays_88 : Cond.fieldLink RX12 88 "LoanBookModel" "parcels" "[I" ∈ wsX12_busyDays := List.mem_of_getElem? (i := 1) rfl
theorem ki_X12_busyDays_X12 : ∀ w ∈ u_ws RX12 TX12 51, w ∈ wsX12_busyDays := sub_r [7, 8, 9, 10, 11, 12, 13, 14, 15, 16, 17, 18, 19, 20, 21, 22, 23, 24, 25, 26, 27, 28, 29, 30, 31, 32, 33, 34, 35, 36, 37, 38, 39, 40, 41, 42, 43, 44, 45, 46, 47, 48, 49, 50, 51, 52, 53, 54, 55, 56, 57] (by decide +kernel)
theorem k_X12_busyDays_23 : Cond.fieldLink RX12 23 "LoanBookModel" "stands" "[Z" ∈ wsX12_busyDays := List.mem_of_getElem? (i := 2) rfl
theorem k_X12_busyDays_91 : Cond.fieldLink RX12 91 "LoanBookModel" "guardOut" "[I" ∈ wsX12_busyDays := List.mem_of_getElem? (i := 3) rfl
theorem k_X12_busyDays_52 : Cond.fieldLink RX12 52 "LoanBookModel" "way" "[I" ∈ wsX12_busyDays := List.mem_of_getElem? (i := 4) rfl
theorem k_X12_busyDays_55 : Cond.fieldLink RX12 55 "LoanBookModel" "houseOf" "[I" ∈ wsX12_busyDays := List.mem_of_getElem? (i := 5) rfl
theorem k_X12_busyDays_94 : Cond.fieldLink RX12 94 "LoanBookModel" "guardBack" "[I" ∈ wsX12_busyDays := List.mem_of_getElem? (i := 6) rfl
set_option maxHeartbeats 4000000 in
set_option maxRecDepth 100000 in
theorem c_X12_busyDays {G : wG} {l : Launch} {n : Nat} {m0 : Nat} {L : Mem} {u : MS} {sz : Nat} {a1 : Int32} {a2 : Int32} {r : Int32} (hMo : MoOK G m0 L) (h : f_X12_busyDays n u a1 a2 = some r) : CtrI G l yX12_busyDays wsX12_busyDays rmX12_busyDays [.ref m0, .int a1, .int a2] (Mm m0 u L) sz r (Mm m0 u L) sz := by
  refine m_startI (own := RX12) (cc := cX12_busyDays) (maxL := 6) (lv0 := [(0, .ref m0), (1, .int a1), (2, .int a2)]) (by decide) rfl rfl (by simp [lg_sl, va_rf_cat, cat_i, cat_r]) (by simp [lv_args, va_rf_cat, cat_i, cat_r]) ?_
  intro p e s m args below meth c Q hC hname RET hsz hw ls hl
  have hx := hC.1
  have hb := hC.2.1
  have L14 : ∀ (x1 : Int32) (x2 : Int32) (x4 : Int32) (k : Nat) (x3 : Int32) (x5 : Int32) (H : Heap) (locs : List Loc) (ls : Array Slot) (o : Int32), f_X12_busyDays_L14 n u x1 x2 x4 k x3 x5 = some o → wD G s (Mm m0 u L) (Mm m0 u L) sz H locs → lv_has ls 6 [(0, .ref m0), (1, .int x1), (2, .int x2), (3, .int x3), (4, .int x4), (5, .int x5)] → (∀ (H : Heap) (locs : List Loc) (ls : Array Slot), wD G s (Mm m0 u L) (Mm m0 u L) sz H locs → lv_has ls 6 [(0, .ref m0), (1, .int x1), (2, .int x2), (3, .int o), (4, .int x4)] → W p l e rmX12_busyDays s m args below meth c H locs 0 0 Q (F0 m 114 ls [])) → W p l e rmX12_busyDays s m args below meth c H locs 0 0 Q (F0 m 14 ls []) := by
    intro x1 x2 x4 k
    induction k with
    | zero =>
      intro x3 x5 H locs ls o h
      exact absurd (show (none : Option (Int32)) = some o from h) (fun z => by cases z)
    | succ k ih =>
      intro x3 x5 H locs ls o h hw hl hk
      rw [f_X12_busyDays_L14] at h
      refine lv_iload hx hb dX12_busyDays_14 (lv_at hl 5 rfl) ?_
      refine lv_aload_n hx hb dX12_busyDays_16 rfl (lv_at hl 0 rfl) ?_
      refine m_getV hC hw (ci := 15) (k := 29) (C := RX12) (T := TX12) (N := 51) (Mm_obj _ _ _) (v := .ref (m0 + 21)) rfl ki_X12_busyDays_X12 rfl (by decide) k_X12_busyDays_88 (fun _ z => z) dX12_busyDays_17 ?_
      refine lv_iload hx hb dX12_busyDays_20 (lv_at hl 4 rfl) ?_
      obtain ⟨g2, h⟩ := itg h
      refine m_iald (x := some (m0 + 21)) hC hw (Mm_aI (j := 20) rfl g2) dX12_busyDays_22 ?_
      refine lv_icmp_ge (tgt := 114) hx hb dX12_busyDays_23 (by decide) (fun c3 => ?_) (fun c3 => ?_)
      · replace h := itt h c3
        cases h
        exact hk _ _ _  hw (lv_sub hl [0, 1, 2, 3, 4] rfl)
      · replace h := itf h c3
        refine lv_aload_n hx hb dX12_busyDays_26 rfl (lv_at hl 0 rfl) ?_
        refine m_getV hC hw (ci := 15) (k := 24) (C := RX12) (T := TX12) (N := 51) (Mm_obj _ _ _) (v := .ref (m0 + 16)) rfl ki_X12_busyDays_X12 rfl (by decide) k_X12_busyDays_23 (fun _ z => z) dX12_busyDays_27 ?_
        refine lv_iload hx hb dX12_busyDays_30 (lv_at hl 4 rfl) ?_
        obtain ⟨g4, h⟩ := itg h
        refine m_zald (x := some (m0 + 16)) hC hw (Mm_aI (j := 15) rfl g4) dX12_busyDays_32 ?_
        refine lv_if_eq (tgt := 114) hx hb dX12_busyDays_33 (by decide) (fun c5 => ?_) (fun c5 => ?_)
        · replace h := itt h c5
          cases h
          exact hk _ _ _  hw (lv_sub hl [0, 1, 2, 3, 4] rfl)
        · replace h := itf h c5
          refine lv_iload_n hx hb dX12_busyDays_36 rfl (lv_at hl 3 rfl) ?_
          refine lv_aload_n hx hb dX12_busyDays_37 rfl (lv_at hl 0 rfl) ?_
          refine m_getV hC hw (ci := 15) (k := 31) (C := RX12) (T := TX12) (N := 51) (Mm_obj _ _ _) (v := .ref (m0 + 23)) rfl ki_X12_busyDays_X12 rfl (by decide) k_X12_busyDays_91 (fun _ z => z) dX12_busyDays_38 ?_
          refine lv_iload hx hb dX12_busyDays_41 (lv_at hl 4 rfl) ?_
          refine lv_bipush (v := (16 : Int32)) hx hb dX12_busyDays_43 (by decide) ?_
          refine lv_imul hx hb dX12_busyDays_45 ?_
          refine lv_iload hx hb dX12_busyDays_46 (lv_at hl 5 rfl) ?_
          refine lv_iadd hx hb dX12_busyDays_48 ?_
          obtain ⟨g6, h⟩ := itg h
          refine m_iald (x := some (m0 + 23)) hC hw (Mm_aI (j := 22) rfl g6) dX12_busyDays_49 ?_
          refine lv_iload_n hx hb dX12_busyDays_50 rfl (lv_at hl 1 rfl) ?_
          obtain ⟨o11, ho11, h⟩ := ob h
          have J7 : ∀ (H : Heap) (locs : List Loc) (ls : Array Slot), wD G s (Mm m0 u L) (Mm m0 u L) sz H locs → lv_has ls 6 [(0, .ref m0), (1, .int x1), (2, .int x2), (4, .int x4), (5, .int x5)] → W p l e rmX12_busyDays s m args below meth c H locs 0 0 Q (F0 m 70 ls [.int o11.1, .int o11.2]) := by
            intro H locs ls hw hl
            refine lv_iadd hx hb dX12_busyDays_70 ?_
            refine lv_istore_n (lv' := [(3, .int (o11.2 + o11.1)), (0, .ref m0), (1, .int x1), (2, .int x2), (4, .int x4), (5, .int x5)]) hx hb dX12_busyDays_71 rfl hl (by decide) rfl (fun ls hl => ?_)
            refine lv_iload_n hx hb dX12_busyDays_72 rfl (lv_at hl 0 rfl) ?_
            refine lv_aload_n hx hb dX12_busyDays_73 rfl (lv_at hl 1 rfl) ?_
            refine m_getV hC hw (ci := 15) (k := 32) (C := RX12) (T := TX12) (N := 51) (Mm_obj _ _ _) (v := .ref (m0 + 24)) rfl ki_X12_busyDays_X12 rfl (by decide) k_X12_busyDays_94 (fun _ z => z) dX12_busyDays_74 ?_
            refine lv_iload hx hb dX12_busyDays_77 (lv_at hl 4 rfl) ?_
            refine lv_bipush (v := (16 : Int32)) hx hb dX12_busyDays_79 (by decide) ?_
            refine lv_imul hx hb dX12_busyDays_81 ?_
            refine lv_iload hx hb dX12_busyDays_82 (lv_at hl 5 rfl) ?_
            refine lv_iadd hx hb dX12_busyDays_84 ?_
            obtain ⟨g12, h⟩ := itg h
            refine m_iald (x := some (m0 + 24)) hC hw (Mm_aI (j := 23) rfl g12) dX12_busyDays_85 ?_
            refine lv_iload_n hx hb dX12_busyDays_86 rfl (lv_at hl 2 rfl) ?_
            refine lv_icmp_ne (tgt := 105) hx hb dX12_busyDays_87 (by decide) (fun c13 => ?_) (fun c13 => ?_)
            · replace h := itf h c13
              refine lv_iconst (v := (0 : Int32)) hx hb dX12_busyDays_105 (by decide) ?_
              refine lv_iadd hx hb dX12_busyDays_106 ?_
              refine lv_istore_n (lv' := [(3, .int ((o11.2 + o11.1) + (0 : Int32))), (0, .ref m0), (1, .int x1), (2, .int x2), (4, .int x4), (5, .int x5)]) hx hb dX12_busyDays_107 rfl hl (by decide) rfl (fun ls hl => ?_)
              refine lv_iinc (v := (x5 + (1 : Int32))) (lv' := [(5, .int (x5 + (1 : Int32))), (3, .int ((o11.2 + o11.1) + (0 : Int32))), (0, .ref m0), (1, .int x1), (2, .int x2), (4, .int x4)]) hx hb dX12_busyDays_108 hl (k := 5) rfl rfl (by decide) rfl (fun ls hl => ?_)
              refine lv_goto (tgt := 14) hx hb dX12_busyDays_111 (by decide) ?_
              exact ih _ _ _ _ _ _ h hw (lv_sub hl [2, 3, 4, 1, 5, 0] rfl) hk
            · replace h := itt h c13
              refine lv_aload_n hx hb dX12_busyDays_90 rfl (lv_at hl 1 rfl) ?_
              refine m_getV hC hw (ci := 15) (k := 15) (C := RX12) (T := TX12) (N := 51) (Mm_obj _ _ _) (v := .ref (m0 + 9)) rfl ki_X12_busyDays_X12 rfl (by decide) k_X12_busyDays_52 (fun _ z => z) dX12_busyDays_91 ?_
              refine lv_aload_n hx hb dX12_busyDays_94 rfl (lv_at hl 1 rfl) ?_
              refine m_getV hC hw (ci := 15) (k := 25) (C := RX12) (T := TX12) (N := 51) (Mm_obj _ _ _) (v := .ref (m0 + 17)) rfl ki_X12_busyDays_X12 rfl (by decide) k_X12_busyDays_55 (fun _ z => z) dX12_busyDays_95 ?_
              refine lv_iload hx hb dX12_busyDays_98 (lv_at hl 4 rfl) ?_
              obtain ⟨g14, h⟩ := itg h
              refine m_iald (x := some (m0 + 17)) hC hw (Mm_aI (j := 16) rfl g14) dX12_busyDays_100 ?_
              obtain ⟨g15, h⟩ := itg h
              refine m_iald (x := some (m0 + 9)) hC hw (Mm_aI (j := 8) rfl g15) dX12_busyDays_101 ?_
              refine lv_goto (tgt := 106) hx hb dX12_busyDays_102 (by decide) ?_
              refine lv_iadd hx hb dX12_busyDays_106 ?_
              refine lv_istore_n (lv' := [(3, .int ((o11.2 + o11.1) + (u.2 15 ((u.2 25 (x4 : Int32).toNatClampNeg) : Int32).toNatClampNeg))), (0, .ref m0), (1, .int x1), (2, .int x2), (4, .int x4), (5, .int x5)]) hx hb dX12_busyDays_107 rfl hl (by decide) rfl (fun ls hl => ?_)
              refine lv_iinc (v := (x5 + (1 : Int32))) (lv' := [(5, .int (x5 + (1 : Int32))), (3, .int ((o11.2 + o11.1) + (u.2 15 ((u.2 25 (x4 : Int32).toNatClampNeg) : Int32).toNatClampNeg))), (0, .ref m0), (1, .int x1), (2, .int x2), (4, .int x4)]) hx hb dX12_busyDays_108 hl (k := 5) rfl rfl (by decide) rfl (fun ls hl => ?_)
              refine lv_goto (tgt := 14) hx hb dX12_busyDays_111 (by decide) ?_
              exact ih _ _ _ _ _ _ h hw (lv_sub hl [2, 3, 4, 1, 5, 0] rfl) hk
          clear h
          replace h := ho11
          refine lv_icmp_ne (tgt := 69) hx hb dX12_busyDays_51 (by decide) (fun c8 => ?_) (fun c8 => ?_)
          · replace h := itf h c8
            refine lv_iconst (v := (0 : Int32)) hx hb dX12_busyDays_69 (by decide) ?_
            cases h
            exact J7 _ _ _ hw (lv_sub hl [0, 1, 2, 4, 5] rfl)
          · replace h := itt h c8
            refine lv_aload_n hx hb dX12_busyDays_54 rfl (lv_at hl 0 rfl) ?_
            refine m_getV hC hw (ci := 15) (k := 15) (C := RX12) (T := TX12) (N := 51) (Mm_obj _ _ _) (v := .ref (m0 + 9)) rfl ki_X12_busyDays_X12 rfl (by decide) k_X12_busyDays_52 (fun _ z => z) dX12_busyDays_55 ?_
            refine lv_aload_n hx hb dX12_busyDays_58 rfl (lv_at hl 0 rfl) ?_
            refine m_getV hC hw (ci := 15) (k := 25) (C := RX12) (T := TX12) (N := 51) (Mm_obj _ _ _) (v := .ref (m0 + 17)) rfl ki_X12_busyDays_X12 rfl (by decide) k_X12_busyDays_55 (fun _ z => z) dX12_busyDays_59 ?_
            refine lv_iload hx hb dX12_busyDays_62 (lv_at hl 4 rfl) ?_
            obtain ⟨g9, h⟩ := itg h
            refine m_iald (x := some (m0 + 17)) hC hw (Mm_aI (j := 16) rfl g9) dX12_busyDays_64 ?_
            obtain ⟨g10, h⟩ := itg h
            refine m_iald (x := some (m0 + 9)) hC hw (Mm_aI (j := 8) rfl g10) dX12_busyDays_65 ?_
            refine lv_goto (tgt := 70) hx hb dX12_busyDays_66 (by decide) ?_
            cases h
            exact J7 _ _ _ hw (lv_sub hl [0, 1, 2, 4, 5] rfl)
  have L5 : ∀ (x1 : Int32) (x2 : Int32) (k : Nat) (x3 : Int32) (x4 : Int32) (H : Heap) (locs : List Loc) (ls : Array Slot), f_X12_busyDays_L5 n u x1 x2 k x3 x4 = some r → wD G s (Mm m0 u L) (Mm m0 u L) sz H locs → lv_has ls 6 [(0, .ref m0), (1, .int x1), (2, .int x2), (3, .int x3), (4, .int x4)] → W p l e rmX12_busyDays s m args below meth c H locs 0 0 Q (F0 m 5 ls []) := by
    intro x1 x2 k
    induction k with
    | zero =>
      intro x3 x4 H locs ls h
      exact absurd (show (none : Option (Int32)) = some r from h) (fun z => by cases z)
    | succ k ih =>
      intro x3 x4 H locs ls h hw hl
      rw [f_X12_busyDays_L5] at h
      refine lv_iload hx hb dX12_busyDays_5 (lv_at hl 4 rfl) ?_
      refine lv_iload_n hx hb dX12_busyDays_7 rfl (lv_at hl 2 rfl) ?_
      refine lv_icmp_ge (tgt := 120) hx hb dX12_busyDays_8 (by decide) (fun c1 => ?_) (fun c1 => ?_)
      · replace h := itt h c1
        refine lv_iload_n hx hb dX12_busyDays_120 rfl (lv_at hl 3 rfl) ?_
        cases h
        exact RET hw ⟨(Nat.le_of_ble_eq_true rfl), (Nat.le_of_ble_eq_true rfl)⟩ dX12_busyDays_121
      · replace h := itf h c1
        refine lv_iconst (v := (0 : Int32)) hx hb dX12_busyDays_11 (by decide) ?_
        refine lv_istore (lv' := [(5, .int (0 : Int32)), (0, .ref m0), (1, .int x1), (2, .int x2), (3, .int x3), (4, .int x4)]) hx hb dX12_busyDays_12 hl (by decide) rfl (fun ls hl => ?_)
        obtain ⟨o16, ho16, h⟩ := ob h
        refine L14 x1 x2 x4 _ _ _ _ _ _ _ ho16 hw (lv_sub hl [1, 2, 3, 4, 5, 0] rfl) (fun H locs ls hw hl => ?_)
        refine lv_iinc (v := (x4 + (1 : Int32))) (lv' := [(4, .int (x4 + (1 : Int32))), (0, .ref m0), (1, .int x1), (2, .int x2), (3, .int o16)]) hx hb dX12_busyDays_114 hl (k := 4) rfl rfl (by decide) rfl (fun ls hl => ?_)
        refine lv_goto (tgt := 5) hx hb dX12_busyDays_117 (by decide) ?_
        exact ih _ _ _ _ _ h hw (lv_sub hl [1, 2, 3, 4, 0] rfl)
  unfold f_X12_busyDays at h
  refine lv_iconst (v := (0 : Int32)) hx hb dX12_busyDays_0 (by decide) ?_
  refine lv_istore_n (lv' := [(3, .int (0 : Int32)), (0, .ref m0), (1, .int a1), (2, .int a2)]) hx hb dX12_busyDays_1 rfl hl (by decide) rfl (fun ls hl => ?_)
  refine lv_iconst (v := (0 : Int32)) hx hb dX12_busyDays_2 (by decide) ?_
  refine lv_istore (lv' := [(4, .int (0 : Int32)), (3, .int (0 : Int32)), (0, .ref m0), (1, .int a1), (2, .int a2)]) hx hb dX12_busyDays_3 hl (by decide) rfl (fun ls hl => ?_)
  exact L5 a1 a2 _ _ _ _ _ _ h hw (lv_sub hl [2, 3, 4, 1, 0] rfl)

def f_X12_areGuarded_L10 (n : Nat) (x1 : Int32) (x2 : Int32) (x3 : Int32) : Nat → MS → Int32 → Option (MS)
  | 0, _, _ => none
  | k + 1, uz, x4 => if inb x1 17 then (if (uz.2 29 (x1 : Int32).toNatClampNeg) ≤ x4 then (some ((uz))) else ((f_X12_worthOf n uz x1 x4 x3).bind fun r4 => if inb x1 17 then (if inb (uz.2 25 (x1 : Int32).toNatClampNeg) 6 then (if (uz.2 17 ((uz.2 25 (x1 : Int32).toNatClampNeg) : Int32).toNatClampNeg) < r4 then (if inb x4 16 then (f_X12_areGuarded_L10 n x1 x2 x3 k (uA uz 40 (x4 : Int32).toNatClampNeg (0 : Int32)) (x4 + (1 : Int32))) else none) else (if inb x4 16 then (f_X12_areGuarded_L10 n x1 x2 x3 k (uA uz 40 (x4 : Int32).toNatClampNeg (1 : Int32)) (x4 + (1 : Int32))) else none)) else none) else none)) else none
def f_X12_areGuarded_L67 (n : Nat) (uz : MS) (x1 : Int32) (x2 : Int32) (x3 : Int32) : Nat → Int32 → Int32 → Option (Int32)
  | 0, _, _ => none
  | k + 1, x4, x5 => if inb x1 17 then (if (uz.2 29 (x1 : Int32).toNatClampNeg) ≤ x5 then (some ((x4))) else (if inb x5 16 then (if (uz.2 40 (x5 : Int32).toNatClampNeg) = 0 then (if x4 < 0 then (f_X12_areGuarded_L67 n uz x1 x2 x3 k x5 (x5 + (1 : Int32))) else ((f_X12_worthOf n uz x1 x5 x3).bind fun r16 => (f_X12_worthOf n uz x1 x4 x3).bind fun r17 => if r16 ≤ r17 then (f_X12_areGuarded_L67 n uz x1 x2 x3 k x4 (x5 + (1 : Int32))) else (f_X12_areGuarded_L67 n uz x1 x2 x3 k x5 (x5 + (1 : Int32))))) else (f_X12_areGuarded_L67 n uz x1 x2 x3 k x4 (x5 + (1 : Int32)))) else none)) else none
def f_X12_areGuarded_L146 (n : Nat) (uz : MS) (x1 : Int32) (x2 : Int32) (x3 : Int32) (x4 : Int32) : Nat → Int32 → Int32 → Int32 → Option (Int32)
  | 0, _, _, _ => none
  | k + 1, x5, x6, x7 => if (uz.1 19) ≤ x7 then (some ((x5))) else (if inb x1 17 then (if inb (uz.2 25 (x1 : Int32).toNatClampNeg) 6 then ((f_X12_isReady n uz x7 x3 (uz.2 15 ((uz.2 25 (x1 : Int32).toNatClampNeg) : Int32).toNatClampNeg) (x1 + (1 : Int32))).bind fun r25 => if r25 = 0 then (f_X12_areGuarded_L146 n uz x1 x2 x3 x4 k x5 x6 (x7 + (1 : Int32))) else ((f_X12_busyDays n uz x7 (x1 + (1 : Int32))).bind fun r27 => if x5 < 0 then (f_X12_areGuarded_L146 n uz x1 x2 x3 x4 k x7 r27 (x7 + (1 : Int32))) else (if r27 < x6 then (f_X12_areGuarded_L146 n uz x1 x2 x3 x4 k x7 r27 (x7 + (1 : Int32))) else (f_X12_areGuarded_L146 n uz x1 x2 x3 x4 k x5 x6 (x7 + (1 : Int32)))))) else none) else none)
def f_X12_areGuarded_L61 (n : Nat) (x1 : Int32) (x2 : Int32) (x3 : Int32) : Nat → MS → Option (Int32 × MS)
  | 0, _ => none
  | k + 1, uz => (f_X12_areGuarded_L67 n uz x1 x2 x3 n (-1 : Int32) (0 : Int32)).bind fun o19 => if 0 ≤ o19 then (if inb o19 16 then ((f_X12_areGuarded_L146 n (uA uz 40 (o19 : Int32).toNatClampNeg (1 : Int32)) x1 x2 x3 o19 n (-1 : Int32) (0 : Int32) (0 : Int32)).bind fun o30 => if 0 ≤ o30 then (if x2 = 0 then (if inb ((x1 * (16 : Int32)) + o19) 272 then (f_X12_areGuarded_L61 n x1 x2 x3 k (uA (uA uz 40 (o19 : Int32).toNatClampNeg (1 : Int32)) 32 (((x1 * (16 : Int32)) + o19) : Int32).toNatClampNeg o30)) else none) else (if inb ((x1 * (16 : Int32)) + o19) 272 then (f_X12_areGuarded_L61 n x1 x2 x3 k (uA (uA uz 40 (o19 : Int32).toNatClampNeg (1 : Int32)) 31 (((x1 * (16 : Int32)) + o19) : Int32).toNatClampNeg o30)) else none)) else (some (((0 : Int32), (uA uz 40 (o19 : Int32).toNatClampNeg (1 : Int32)))))) else none) else (some (((1 : Int32), uz)))
def f_X12_areGuarded (n : Nat) (u : MS) (a1 : Int32) (a2 : Int32) : Option (Int32 × MS) := (f_X12_firstOfWay u a1 a2).bind fun r1 => (f_X12_areGuarded_L10 n a1 a2 r1 n u (0 : Int32)).bind fun o10 => f_X12_areGuarded_L61 n a1 a2 r1 n o10
def rmX12_areGuarded : Room := { frames := 3, cells := 0, slots := 0, locals := 76 }
theorem k_X12_areGuarded_88 : Cond.fieldLink RX12 88 "LoanBookModel" "parcels" "[I" ∈ wsX12_areGuarded := List.mem_of_getElem? (i := 1) rfl
theorem ki_X12_areGuarded_X12 : ∀ w ∈ u_ws RX12 TX12 51, w ∈ wsX12_areGuarded := sub_r [63, 64, 65, 66, 67, 68, 69, 70, 71, 72, 73, 74, 75, 76, 77, 78, 79, 80, 81, 82, 83, 84, 85, 86, 87, 88, 89, 90, 91, 92, 93, 94, 95, 96, 97, 98, 99, 100, 101, 102, 103, 104, 105, 106, 107, 108, 109, 110, 111, 112, 113] (by decide +kernel)
theorem k_X12_areGuarded_129 : Cond.fieldLink RX12 129 "LoanBookModel" "isDone" "[Z" ∈ wsX12_areGuarded := List.mem_of_getElem? (i := 2) rfl
theorem k_X12_areGuarded_135 : Cond.fieldLink RX12 135 "LoanBookModel" "least" "[I" ∈ wsX12_areGuarded := List.mem_of_getElem? (i := 3) rfl
theorem k_X12_areGuarded_55 : Cond.fieldLink RX12 55 "LoanBookModel" "houseOf" "[I" ∈ wsX12_areGuarded := List.mem_of_getElem? (i := 4) rfl
theorem k_X12_areGuarded_17 : Cond.fieldLink RX12 17 "LoanBookModel" "couriers" "I" ∈ wsX12_areGuarded := List.mem_of_getElem? (i := 5) rfl
theorem k_X12_areGuarded_52 : Cond.fieldLink RX12 52 "LoanBookModel" "way" "[I" ∈ wsX12_areGuarded := List.mem_of_getElem? (i := 6) rfl
theorem k_X12_areGuarded_94 : Cond.fieldLink RX12 94 "LoanBookModel" "guardBack" "[I" ∈ wsX12_areGuarded := List.mem_of_getElem? (i := 8) rfl
theorem k_X12_areGuarded_91 : Cond.fieldLink RX12 91 "LoanBookModel" "guardOut" "[I" ∈ wsX12_areGuarded := List.mem_of_getElem? (i := 7) rfl
set_option maxHeartbeats 4000000 in
set_option maxRecDepth 100000 in
theorem c_X12_areGuarded {G : wG} {l : Launch} {n : Nat} {m0 : Nat} {L : Mem} {u : MS} {sz : Nat} {a1 : Int32} {a2 : Int32} {r : Int32 × MS} (hMo : MoOK G m0 L) (h : f_X12_areGuarded n u a1 a2 = some r) : CtrI G l yX12_areGuarded wsX12_areGuarded rmX12_areGuarded [.ref m0, .int a1, .int a2] (Mm m0 u L) sz r.1 (Mm m0 r.2 L) sz := by
  refine m_startZ (own := RX12) (cc := cX12_areGuarded) (maxL := 9) (lv0 := [(0, .ref m0), (1, .int a1), (2, .int a2)]) (by decide) rfl rfl (by simp [lg_sl, va_rf_cat, cat_i, cat_r]) (by simp [lv_args, va_rf_cat, cat_i, cat_r]) ?_
  intro p e s m args below meth c Q hC hname RET hsz hw ls hl
  have hx := hC.1
  have hb := hC.2.1
  have L10 : ∀ (x1 : Int32) (x2 : Int32) (x3 : Int32) (k : Nat) (uz : MS) (x4 : Int32) (H : Heap) (locs : List Loc) (ls : Array Slot) (o : MS), f_X12_areGuarded_L10 n x1 x2 x3 k uz x4 = some o → wD G s (Mm m0 u L) (Mm m0 uz L) sz H locs → lv_has ls 9 [(0, .ref m0), (1, .int x1), (2, .int x2), (3, .int x3), (4, .int x4)] → (∀ (H : Heap) (locs : List Loc) (ls : Array Slot), wD G s (Mm m0 u L) (Mm m0 o L) sz H locs → lv_has ls 9 [(0, .ref m0), (1, .int x1), (2, .int x2), (3, .int x3)] → W p l e rmX12_areGuarded s m args below meth c H locs 0 0 Q (F0 m 61 ls [])) → W p l e rmX12_areGuarded s m args below meth c H locs 0 0 Q (F0 m 10 ls []) := by
    intro x1 x2 x3 k
    induction k with
    | zero =>
      intro uz x4 H locs ls o h
      exact absurd (show (none : Option (MS)) = some o from h) (fun z => by cases z)
    | succ k ih =>
      intro uz x4 H locs ls o h hw hl hk
      rw [f_X12_areGuarded_L10] at h
      refine lv_iload hx hb dX12_areGuarded_10 (lv_at hl 4 rfl) ?_
      refine lv_aload_n hx hb dX12_areGuarded_12 rfl (lv_at hl 0 rfl) ?_
      refine m_getV hC hw (ci := 15) (k := 29) (C := RX12) (T := TX12) (N := 51) (Mm_obj _ _ _) (v := .ref (m0 + 21)) rfl ki_X12_areGuarded_X12 rfl (by decide) k_X12_areGuarded_88 (fun _ z => z) dX12_areGuarded_13 ?_
      refine lv_iload_n hx hb dX12_areGuarded_16 rfl (lv_at hl 1 rfl) ?_
      obtain ⟨g2, h⟩ := itg h
      refine m_iald (x := some (m0 + 21)) hC hw (Mm_aI (j := 20) rfl g2) dX12_areGuarded_17 ?_
      refine lv_icmp_ge (tgt := 61) hx hb dX12_areGuarded_18 (by decide) (fun c3 => ?_) (fun c3 => ?_)
      · replace h := itt h c3
        cases h
        exact hk _ _ _  hw (lv_sub hl [0, 1, 2, 3] rfl)
      · replace h := itf h c3
        refine lv_aload_n hx hb dX12_areGuarded_21 rfl (lv_at hl 0 rfl) ?_
        refine m_getV hC hw (ci := 15) (k := 40) (C := RX12) (T := TX12) (N := 51) (Mm_obj _ _ _) (v := .ref (m0 + 31)) rfl ki_X12_areGuarded_X12 rfl (by decide) k_X12_areGuarded_129 (fun _ z => z) dX12_areGuarded_22 ?_
        refine lv_iload hx hb dX12_areGuarded_25 (lv_at hl 4 rfl) ?_
        refine lv_aload_n hx hb dX12_areGuarded_27 rfl (lv_at hl 0 rfl) ?_
        refine lv_iload_n hx hb dX12_areGuarded_28 rfl (lv_at hl 1 rfl) ?_
        refine lv_iload hx hb dX12_areGuarded_29 (lv_at hl 4 rfl) ?_
        refine lv_iload_n hx hb dX12_areGuarded_31 rfl (lv_at hl 3 rfl) ?_
        obtain ⟨r4, hr4, h⟩ := ob h
        refine m_contI hC hw (m_runV hC hw (x := (some m0)) (ci := 15) (N := 51) (C := RX12) (T := TX12) (n := 3) (av := [.int x1, .int x4, .int x3]) (rest := [.int x4, .ref (m0 + 31)]) (c_X12_worthOf (G := G) (l := l) hMo hr4) gX12_areGuarded_X12_worthOf rfl (by decide +kernel) ⟨(Nat.le_of_ble_eq_true rfl), (Nat.le_of_ble_eq_true rfl)⟩ (isO_Mm _ _ _) rfl rfl hl.1 rfl (Nat.le_of_ble_eq_true rfl) dX12_areGuarded_32 ⟨(Nat.le_of_ble_eq_true rfl), (Nat.le_of_ble_eq_true rfl)⟩) (fun H locs hw => ?_)
        refine lv_aload_n hx hb dX12_areGuarded_35 rfl (lv_at hl 0 rfl) ?_
        refine m_getV hC hw (ci := 15) (k := 17) (C := RX12) (T := TX12) (N := 51) (Mm_obj _ _ _) (v := .ref (m0 + 11)) rfl ki_X12_areGuarded_X12 rfl (by decide) k_X12_areGuarded_135 (fun _ z => z) dX12_areGuarded_36 ?_
        refine lv_aload_n hx hb dX12_areGuarded_39 rfl (lv_at hl 0 rfl) ?_
        refine m_getV hC hw (ci := 15) (k := 25) (C := RX12) (T := TX12) (N := 51) (Mm_obj _ _ _) (v := .ref (m0 + 17)) rfl ki_X12_areGuarded_X12 rfl (by decide) k_X12_areGuarded_55 (fun _ z => z) dX12_areGuarded_40 ?_
        refine lv_iload_n hx hb dX12_areGuarded_43 rfl (lv_at hl 1 rfl) ?_
        obtain ⟨g5, h⟩ := itg h
        refine m_iald (x := some (m0 + 17)) hC hw (Mm_aI (j := 16) rfl g5) dX12_areGuarded_44 ?_
        obtain ⟨g6, h⟩ := itg h
        refine m_iald (x := some (m0 + 11)) hC hw (Mm_aI (j := 10) rfl g6) dX12_areGuarded_45 ?_
        refine lv_icmp_gt (tgt := 53) hx hb dX12_areGuarded_46 (by decide) (fun c7 => ?_) (fun c7 => ?_)
        · replace h := itt h c7
          refine lv_iconst (v := (0 : Int32)) hx hb dX12_areGuarded_53 (by decide) ?_
          obtain ⟨g8, h⟩ := itg h
          refine m_zast (x := some (m0 + 31)) (M1 := Mm m0 (uA uz 40 (x4 : Int32).toNatClampNeg (0 : Int32)) L) hC hw (Mm_sI hMo (j := 30) rfl g8) (by decide) dX12_areGuarded_54 (fun H locs hw => ?_)
          refine lv_iinc (v := (x4 + (1 : Int32))) (lv' := [(4, .int (x4 + (1 : Int32))), (0, .ref m0), (1, .int x1), (2, .int x2), (3, .int x3)]) hx hb dX12_areGuarded_55 hl (k := 4) rfl rfl (by decide) rfl (fun ls hl => ?_)
          refine lv_goto (tgt := 10) hx hb dX12_areGuarded_58 (by decide) ?_
          exact ih _ _ _ _ _ _ h hw (lv_sub hl [1, 2, 3, 4, 0] rfl) hk
        · replace h := itf h c7
          refine lv_iconst (v := (1 : Int32)) hx hb dX12_areGuarded_49 (by decide) ?_
          refine lv_goto (tgt := 54) hx hb dX12_areGuarded_50 (by decide) ?_
          obtain ⟨g9, h⟩ := itg h
          refine m_zast (x := some (m0 + 31)) (M1 := Mm m0 (uA uz 40 (x4 : Int32).toNatClampNeg (1 : Int32)) L) hC hw (Mm_sI hMo (j := 30) rfl g9) (by decide) dX12_areGuarded_54 (fun H locs hw => ?_)
          refine lv_iinc (v := (x4 + (1 : Int32))) (lv' := [(4, .int (x4 + (1 : Int32))), (0, .ref m0), (1, .int x1), (2, .int x2), (3, .int x3)]) hx hb dX12_areGuarded_55 hl (k := 4) rfl rfl (by decide) rfl (fun ls hl => ?_)
          refine lv_goto (tgt := 10) hx hb dX12_areGuarded_58 (by decide) ?_
          exact ih _ _ _ _ _ _ h hw (lv_sub hl [1, 2, 3, 4, 0] rfl) hk
  have L67 : ∀ (uz : MS) (x1 : Int32) (x2 : Int32) (x3 : Int32) (k : Nat) (x4 : Int32) (x5 : Int32) (H : Heap) (locs : List Loc) (ls : Array Slot) (o : Int32), f_X12_areGuarded_L67 n uz x1 x2 x3 k x4 x5 = some o → wD G s (Mm m0 u L) (Mm m0 uz L) sz H locs → lv_has ls 9 [(0, .ref m0), (1, .int x1), (2, .int x2), (3, .int x3), (4, .int x4), (5, .int x5)] → (∀ (H : Heap) (locs : List Loc) (ls : Array Slot), wD G s (Mm m0 u L) (Mm m0 uz L) sz H locs → lv_has ls 9 [(0, .ref m0), (1, .int x1), (2, .int x2), (3, .int x3), (4, .int o)] → W p l e rmX12_areGuarded s m args below meth c H locs 0 0 Q (F0 m 122 ls [])) → W p l e rmX12_areGuarded s m args below meth c H locs 0 0 Q (F0 m 67 ls []) := by
    intro uz x1 x2 x3 k
    induction k with
    | zero =>
      intro x4 x5 H locs ls o h
      exact absurd (show (none : Option (Int32)) = some o from h) (fun z => by cases z)
    | succ k ih =>
      intro x4 x5 H locs ls o h hw hl hk
      rw [f_X12_areGuarded_L67] at h
      refine lv_iload hx hb dX12_areGuarded_67 (lv_at hl 5 rfl) ?_
      refine lv_aload_n hx hb dX12_areGuarded_69 rfl (lv_at hl 0 rfl) ?_
      refine m_getV hC hw (ci := 15) (k := 29) (C := RX12) (T := TX12) (N := 51) (Mm_obj _ _ _) (v := .ref (m0 + 21)) rfl ki_X12_areGuarded_X12 rfl (by decide) k_X12_areGuarded_88 (fun _ z => z) dX12_areGuarded_70 ?_
      refine lv_iload_n hx hb dX12_areGuarded_73 rfl (lv_at hl 1 rfl) ?_
      obtain ⟨g11, h⟩ := itg h
      refine m_iald (x := some (m0 + 21)) hC hw (Mm_aI (j := 20) rfl g11) dX12_areGuarded_74 ?_
      refine lv_icmp_ge (tgt := 122) hx hb dX12_areGuarded_75 (by decide) (fun c12 => ?_) (fun c12 => ?_)
      · replace h := itt h c12
        cases h
        exact hk _ _ _  hw (lv_sub hl [0, 1, 2, 3, 4] rfl)
      · replace h := itf h c12
        refine lv_aload_n hx hb dX12_areGuarded_78 rfl (lv_at hl 0 rfl) ?_
        refine m_getV hC hw (ci := 15) (k := 40) (C := RX12) (T := TX12) (N := 51) (Mm_obj _ _ _) (v := .ref (m0 + 31)) rfl ki_X12_areGuarded_X12 rfl (by decide) k_X12_areGuarded_129 (fun _ z => z) dX12_areGuarded_79 ?_
        refine lv_iload hx hb dX12_areGuarded_82 (lv_at hl 5 rfl) ?_
        obtain ⟨g13, h⟩ := itg h
        refine m_zald (x := some (m0 + 31)) hC hw (Mm_aI (j := 30) rfl g13) dX12_areGuarded_84 ?_
        refine lv_if_ne (tgt := 116) hx hb dX12_areGuarded_85 (by decide) (fun c14 => ?_) (fun c14 => ?_)
        · replace h := itf h c14
          refine lv_iinc (v := (x5 + (1 : Int32))) (lv' := [(5, .int (x5 + (1 : Int32))), (0, .ref m0), (1, .int x1), (2, .int x2), (3, .int x3), (4, .int x4)]) hx hb dX12_areGuarded_116 hl (k := 5) rfl rfl (by decide) rfl (fun ls hl => ?_)
          refine lv_goto (tgt := 67) hx hb dX12_areGuarded_119 (by decide) ?_
          exact ih _ _ _ _ _ _ h hw (lv_sub hl [1, 2, 3, 4, 5, 0] rfl) hk
        · replace h := itt h c14
          refine lv_iload hx hb dX12_areGuarded_88 (lv_at hl 4 rfl) ?_
          refine lv_if_lt (tgt := 112) hx hb dX12_areGuarded_90 (by decide) (fun c15 => ?_) (fun c15 => ?_)
          · replace h := itt h c15
            refine lv_iload hx hb dX12_areGuarded_112 (lv_at hl 5 rfl) ?_
            refine lv_istore (lv' := [(4, .int x5), (0, .ref m0), (1, .int x1), (2, .int x2), (3, .int x3), (5, .int x5)]) hx hb dX12_areGuarded_114 hl (by decide) rfl (fun ls hl => ?_)
            refine lv_iinc (v := (x5 + (1 : Int32))) (lv' := [(5, .int (x5 + (1 : Int32))), (4, .int x5), (0, .ref m0), (1, .int x1), (2, .int x2), (3, .int x3)]) hx hb dX12_areGuarded_116 hl (k := 5) rfl rfl (by decide) rfl (fun ls hl => ?_)
            refine lv_goto (tgt := 67) hx hb dX12_areGuarded_119 (by decide) ?_
            exact ih _ _ _ _ _ _ h hw (lv_sub hl [2, 3, 4, 5, 1, 0] rfl) hk
          · replace h := itf h c15
            refine lv_aload_n hx hb dX12_areGuarded_93 rfl (lv_at hl 0 rfl) ?_
            refine lv_iload_n hx hb dX12_areGuarded_94 rfl (lv_at hl 1 rfl) ?_
            refine lv_iload hx hb dX12_areGuarded_95 (lv_at hl 5 rfl) ?_
            refine lv_iload_n hx hb dX12_areGuarded_97 rfl (lv_at hl 3 rfl) ?_
            obtain ⟨r16, hr16, h⟩ := ob h
            refine m_contI hC hw (m_runV hC hw (x := (some m0)) (ci := 15) (N := 51) (C := RX12) (T := TX12) (n := 3) (av := [.int x1, .int x5, .int x3]) (rest := []) (c_X12_worthOf (G := G) (l := l) hMo hr16) gX12_areGuarded_X12_worthOf rfl (by decide +kernel) ⟨(Nat.le_of_ble_eq_true rfl), (Nat.le_of_ble_eq_true rfl)⟩ (isO_Mm _ _ _) rfl rfl hl.1 rfl (Nat.le_of_ble_eq_true rfl) dX12_areGuarded_98 ⟨(Nat.le_of_ble_eq_true rfl), (Nat.le_of_ble_eq_true rfl)⟩) (fun H locs hw => ?_)
            refine lv_aload_n hx hb dX12_areGuarded_101 rfl (lv_at hl 0 rfl) ?_
            refine lv_iload_n hx hb dX12_areGuarded_102 rfl (lv_at hl 1 rfl) ?_
            refine lv_iload hx hb dX12_areGuarded_103 (lv_at hl 4 rfl) ?_
            refine lv_iload_n hx hb dX12_areGuarded_105 rfl (lv_at hl 3 rfl) ?_
            obtain ⟨r17, hr17, h⟩ := ob h
            refine m_contI hC hw (m_runV hC hw (x := (some m0)) (ci := 15) (N := 51) (C := RX12) (T := TX12) (n := 3) (av := [.int x1, .int x4, .int x3]) (rest := [.int r16]) (c_X12_worthOf (G := G) (l := l) hMo hr17) gX12_areGuarded_X12_worthOf rfl (by decide +kernel) ⟨(Nat.le_of_ble_eq_true rfl), (Nat.le_of_ble_eq_true rfl)⟩ (isO_Mm _ _ _) rfl rfl hl.1 rfl (Nat.le_of_ble_eq_true rfl) dX12_areGuarded_106 ⟨(Nat.le_of_ble_eq_true rfl), (Nat.le_of_ble_eq_true rfl)⟩) (fun H locs hw => ?_)
            refine lv_icmp_le (tgt := 116) hx hb dX12_areGuarded_109 (by decide) (fun c18 => ?_) (fun c18 => ?_)
            · replace h := itt h c18
              refine lv_iinc (v := (x5 + (1 : Int32))) (lv' := [(5, .int (x5 + (1 : Int32))), (0, .ref m0), (1, .int x1), (2, .int x2), (3, .int x3), (4, .int x4)]) hx hb dX12_areGuarded_116 hl (k := 5) rfl rfl (by decide) rfl (fun ls hl => ?_)
              refine lv_goto (tgt := 67) hx hb dX12_areGuarded_119 (by decide) ?_
              exact ih _ _ _ _ _ _ h hw (lv_sub hl [1, 2, 3, 4, 5, 0] rfl) hk
            · replace h := itf h c18
              refine lv_iload hx hb dX12_areGuarded_112 (lv_at hl 5 rfl) ?_
              refine lv_istore (lv' := [(4, .int x5), (0, .ref m0), (1, .int x1), (2, .int x2), (3, .int x3), (5, .int x5)]) hx hb dX12_areGuarded_114 hl (by decide) rfl (fun ls hl => ?_)
              refine lv_iinc (v := (x5 + (1 : Int32))) (lv' := [(5, .int (x5 + (1 : Int32))), (4, .int x5), (0, .ref m0), (1, .int x1), (2, .int x2), (3, .int x3)]) hx hb dX12_areGuarded_116 hl (k := 5) rfl rfl (by decide) rfl (fun ls hl => ?_)
              refine lv_goto (tgt := 67) hx hb dX12_areGuarded_119 (by decide) ?_
              exact ih _ _ _ _ _ _ h hw (lv_sub hl [2, 3, 4, 5, 1, 0] rfl) hk
  have L146 : ∀ (uz : MS) (x1 : Int32) (x2 : Int32) (x3 : Int32) (x4 : Int32) (k : Nat) (x5 : Int32) (x6 : Int32) (x7 : Int32) (H : Heap) (locs : List Loc) (ls : Array Slot) (o : Int32), f_X12_areGuarded_L146 n uz x1 x2 x3 x4 k x5 x6 x7 = some o → wD G s (Mm m0 u L) (Mm m0 uz L) sz H locs → lv_has ls 9 [(0, .ref m0), (1, .int x1), (2, .int x2), (3, .int x3), (4, .int x4), (5, .int x5), (6, .int x6), (7, .int x7)] → (∀ (H : Heap) (locs : List Loc) (ls : Array Slot), wD G s (Mm m0 u L) (Mm m0 uz L) sz H locs → lv_has ls 9 [(0, .ref m0), (1, .int x1), (2, .int x2), (3, .int x3), (4, .int x4), (5, .int o)] → W p l e rmX12_areGuarded s m args below meth c H locs 0 0 Q (F0 m 222 ls [])) → W p l e rmX12_areGuarded s m args below meth c H locs 0 0 Q (F0 m 146 ls []) := by
    intro uz x1 x2 x3 x4 k
    induction k with
    | zero =>
      intro x5 x6 x7 H locs ls o h
      exact absurd (show (none : Option (Int32)) = some o from h) (fun z => by cases z)
    | succ k ih =>
      intro x5 x6 x7 H locs ls o h hw hl hk
      rw [f_X12_areGuarded_L146] at h
      refine lv_iload hx hb dX12_areGuarded_146 (lv_at hl 7 rfl) ?_
      refine lv_aload_n hx hb dX12_areGuarded_148 rfl (lv_at hl 0 rfl) ?_
      refine m_getV hC hw (ci := 15) (k := 19) (C := RX12) (T := TX12) (N := 51) (Mm_obj _ _ _) (v := .int (uz.1 19)) rfl ki_X12_areGuarded_X12 rfl (by decide) k_X12_areGuarded_17 (fun _ z => z) dX12_areGuarded_149 ?_
      refine lv_icmp_ge (tgt := 222) hx hb dX12_areGuarded_152 (by decide) (fun c22 => ?_) (fun c22 => ?_)
      · replace h := itt h c22
        cases h
        exact hk _ _ _  hw (lv_sub hl [0, 1, 2, 3, 4, 5] rfl)
      · replace h := itf h c22
        refine lv_aload_n hx hb dX12_areGuarded_155 rfl (lv_at hl 0 rfl) ?_
        refine lv_iload hx hb dX12_areGuarded_156 (lv_at hl 7 rfl) ?_
        refine lv_iload_n hx hb dX12_areGuarded_158 rfl (lv_at hl 3 rfl) ?_
        refine lv_aload_n hx hb dX12_areGuarded_159 rfl (lv_at hl 0 rfl) ?_
        refine m_getV hC hw (ci := 15) (k := 15) (C := RX12) (T := TX12) (N := 51) (Mm_obj _ _ _) (v := .ref (m0 + 9)) rfl ki_X12_areGuarded_X12 rfl (by decide) k_X12_areGuarded_52 (fun _ z => z) dX12_areGuarded_160 ?_
        refine lv_aload_n hx hb dX12_areGuarded_163 rfl (lv_at hl 0 rfl) ?_
        refine m_getV hC hw (ci := 15) (k := 25) (C := RX12) (T := TX12) (N := 51) (Mm_obj _ _ _) (v := .ref (m0 + 17)) rfl ki_X12_areGuarded_X12 rfl (by decide) k_X12_areGuarded_55 (fun _ z => z) dX12_areGuarded_164 ?_
        refine lv_iload_n hx hb dX12_areGuarded_167 rfl (lv_at hl 1 rfl) ?_
        obtain ⟨g23, h⟩ := itg h
        refine m_iald (x := some (m0 + 17)) hC hw (Mm_aI (j := 16) rfl g23) dX12_areGuarded_168 ?_
        obtain ⟨g24, h⟩ := itg h
        refine m_iald (x := some (m0 + 9)) hC hw (Mm_aI (j := 8) rfl g24) dX12_areGuarded_169 ?_
        refine lv_iload_n hx hb dX12_areGuarded_170 rfl (lv_at hl 1 rfl) ?_
        refine lv_iconst (v := (1 : Int32)) hx hb dX12_areGuarded_171 (by decide) ?_
        refine lv_iadd hx hb dX12_areGuarded_172 ?_
        obtain ⟨r25, hr25, h⟩ := ob h
        refine m_contI hC hw (m_runV hC hw (x := (some m0)) (ci := 15) (N := 51) (C := RX12) (T := TX12) (n := 4) (av := [.int x7, .int x3, .int (uz.2 15 ((uz.2 25 (x1 : Int32).toNatClampNeg) : Int32).toNatClampNeg), .int (x1 + (1 : Int32))]) (rest := []) (c_X12_isReady (G := G) (l := l) hMo hr25) gX12_areGuarded_X12_isReady rfl (by decide +kernel) ⟨(Nat.le_of_ble_eq_true rfl), (Nat.le_of_ble_eq_true rfl)⟩ (isO_Mm _ _ _) rfl rfl hl.1 rfl (Nat.le_of_ble_eq_true rfl) dX12_areGuarded_173 ⟨(Nat.le_of_ble_eq_true rfl), (Nat.le_of_ble_eq_true rfl)⟩) (fun H locs hw => ?_)
        refine lv_if_ne (tgt := 182) hx hb dX12_areGuarded_176 (by decide) (fun c26 => ?_) (fun c26 => ?_)
        · replace h := itf h c26
          refine lv_aload_n hx hb dX12_areGuarded_182 rfl (lv_at hl 0 rfl) ?_
          refine lv_iload hx hb dX12_areGuarded_183 (lv_at hl 7 rfl) ?_
          refine lv_iload_n hx hb dX12_areGuarded_185 rfl (lv_at hl 1 rfl) ?_
          refine lv_iconst (v := (1 : Int32)) hx hb dX12_areGuarded_186 (by decide) ?_
          refine lv_iadd hx hb dX12_areGuarded_187 ?_
          obtain ⟨r27, hr27, h⟩ := ob h
          refine m_contI hC hw (m_runV hC hw (x := (some m0)) (ci := 15) (N := 51) (C := RX12) (T := TX12) (n := 2) (av := [.int x7, .int (x1 + (1 : Int32))]) (rest := []) (c_X12_busyDays (G := G) (l := l) hMo hr27) gX12_areGuarded_X12_busyDays rfl (by decide +kernel) ⟨(Nat.le_of_ble_eq_true rfl), (Nat.le_of_ble_eq_true rfl)⟩ (isO_Mm _ _ _) rfl rfl hl.1 rfl (Nat.le_of_ble_eq_true rfl) dX12_areGuarded_188 ⟨(Nat.le_of_ble_eq_true rfl), (Nat.le_of_ble_eq_true rfl)⟩) (fun H locs hw => ?_)
          refine lv_istore (lv' := [(8, .int r27), (0, .ref m0), (1, .int x1), (2, .int x2), (3, .int x3), (4, .int x4), (5, .int x5), (6, .int x6), (7, .int x7)]) hx hb dX12_areGuarded_191 hl (by decide) rfl (fun ls hl => ?_)
          refine lv_iload hx hb dX12_areGuarded_193 (lv_at hl 6 rfl) ?_
          refine lv_if_lt (tgt := 208) hx hb dX12_areGuarded_195 (by decide) (fun c28 => ?_) (fun c28 => ?_)
          · replace h := itt h c28
            refine lv_iload hx hb dX12_areGuarded_208 (lv_at hl 8 rfl) ?_
            refine lv_istore (lv' := [(5, .int x7), (8, .int r27), (0, .ref m0), (1, .int x1), (2, .int x2), (3, .int x3), (4, .int x4), (6, .int x6), (7, .int x7)]) hx hb dX12_areGuarded_210 hl (by decide) rfl (fun ls hl => ?_)
            refine lv_iload hx hb dX12_areGuarded_212 (lv_at hl 1 rfl) ?_
            refine lv_istore (lv' := [(6, .int r27), (5, .int x7), (8, .int r27), (0, .ref m0), (1, .int x1), (2, .int x2), (3, .int x3), (4, .int x4), (7, .int x7)]) hx hb dX12_areGuarded_214 hl (by decide) rfl (fun ls hl => ?_)
            refine lv_iinc (v := (x7 + (1 : Int32))) (lv' := [(7, .int (x7 + (1 : Int32))), (6, .int r27), (5, .int x7), (8, .int r27), (0, .ref m0), (1, .int x1), (2, .int x2), (3, .int x3), (4, .int x4)]) hx hb dX12_areGuarded_216 hl (k := 8) rfl rfl (by decide) rfl (fun ls hl => ?_)
            refine lv_goto (tgt := 146) hx hb dX12_areGuarded_219 (by decide) ?_
            exact ih _ _ _ _ _ _ _ h hw (lv_sub hl [4, 5, 6, 7, 8, 2, 1, 0] rfl) hk
          · replace h := itf h c28
            refine lv_iload hx hb dX12_areGuarded_198 (lv_at hl 0 rfl) ?_
            refine lv_iload hx hb dX12_areGuarded_200 (lv_at hl 7 rfl) ?_
            refine lv_icmp_lt (tgt := 208) hx hb dX12_areGuarded_202 (by decide) (fun c29 => ?_) (fun c29 => ?_)
            · replace h := itt h c29
              refine lv_iload hx hb dX12_areGuarded_208 (lv_at hl 8 rfl) ?_
              refine lv_istore (lv' := [(5, .int x7), (8, .int r27), (0, .ref m0), (1, .int x1), (2, .int x2), (3, .int x3), (4, .int x4), (6, .int x6), (7, .int x7)]) hx hb dX12_areGuarded_210 hl (by decide) rfl (fun ls hl => ?_)
              refine lv_iload hx hb dX12_areGuarded_212 (lv_at hl 1 rfl) ?_
              refine lv_istore (lv' := [(6, .int r27), (5, .int x7), (8, .int r27), (0, .ref m0), (1, .int x1), (2, .int x2), (3, .int x3), (4, .int x4), (7, .int x7)]) hx hb dX12_areGuarded_214 hl (by decide) rfl (fun ls hl => ?_)
              refine lv_iinc (v := (x7 + (1 : Int32))) (lv' := [(7, .int (x7 + (1 : Int32))), (6, .int r27), (5, .int x7), (8, .int r27), (0, .ref m0), (1, .int x1), (2, .int x2), (3, .int x3), (4, .int x4)]) hx hb dX12_areGuarded_216 hl (k := 8) rfl rfl (by decide) rfl (fun ls hl => ?_)
              refine lv_goto (tgt := 146) hx hb dX12_areGuarded_219 (by decide) ?_
              exact ih _ _ _ _ _ _ _ h hw (lv_sub hl [4, 5, 6, 7, 8, 2, 1, 0] rfl) hk
            · replace h := itf h c29
              refine lv_goto (tgt := 216) hx hb dX12_areGuarded_205 (by decide) ?_
              refine lv_iinc (v := (x7 + (1 : Int32))) (lv' := [(7, .int (x7 + (1 : Int32))), (8, .int r27), (0, .ref m0), (1, .int x1), (2, .int x2), (3, .int x3), (4, .int x4), (5, .int x5), (6, .int x6)]) hx hb dX12_areGuarded_216 hl (k := 8) rfl rfl (by decide) rfl (fun ls hl => ?_)
              refine lv_goto (tgt := 146) hx hb dX12_areGuarded_219 (by decide) ?_
              exact ih _ _ _ _ _ _ _ h hw (lv_sub hl [2, 3, 4, 5, 6, 7, 8, 0] rfl) hk
        · replace h := itt h c26
          refine lv_goto (tgt := 216) hx hb dX12_areGuarded_179 (by decide) ?_
          refine lv_iinc (v := (x7 + (1 : Int32))) (lv' := [(7, .int (x7 + (1 : Int32))), (0, .ref m0), (1, .int x1), (2, .int x2), (3, .int x3), (4, .int x4), (5, .int x5), (6, .int x6)]) hx hb dX12_areGuarded_216 hl (k := 7) rfl rfl (by decide) rfl (fun ls hl => ?_)
          refine lv_goto (tgt := 146) hx hb dX12_areGuarded_219 (by decide) ?_
          exact ih _ _ _ _ _ _ _ h hw (lv_sub hl [1, 2, 3, 4, 5, 6, 7, 0] rfl) hk
  have L61 : ∀ (x1 : Int32) (x2 : Int32) (x3 : Int32) (k : Nat) (uz : MS) (H : Heap) (locs : List Loc) (ls : Array Slot), f_X12_areGuarded_L61 n x1 x2 x3 k uz = some r → wD G s (Mm m0 u L) (Mm m0 uz L) sz H locs → lv_has ls 9 [(0, .ref m0), (1, .int x1), (2, .int x2), (3, .int x3)] → W p l e rmX12_areGuarded s m args below meth c H locs 0 0 Q (F0 m 61 ls []) := by
    intro x1 x2 x3 k
    induction k with
    | zero =>
      intro uz H locs ls h
      exact absurd (show (none : Option (Int32 × MS)) = some r from h) (fun z => by cases z)
    | succ k ih =>
      intro uz H locs ls h hw hl
      rw [f_X12_areGuarded_L61] at h
      refine lv_iconst (v := (-1 : Int32)) hx hb dX12_areGuarded_61 (by decide) ?_
      refine lv_istore (lv' := [(4, .int (-1 : Int32)), (0, .ref m0), (1, .int x1), (2, .int x2), (3, .int x3)]) hx hb dX12_areGuarded_62 hl (by decide) rfl (fun ls hl => ?_)
      refine lv_iconst (v := (0 : Int32)) hx hb dX12_areGuarded_64 (by decide) ?_
      refine lv_istore (lv' := [(5, .int (0 : Int32)), (4, .int (-1 : Int32)), (0, .ref m0), (1, .int x1), (2, .int x2), (3, .int x3)]) hx hb dX12_areGuarded_65 hl (by decide) rfl (fun ls hl => ?_)
      obtain ⟨o19, ho19, h⟩ := ob h
      refine L67 uz x1 x2 x3 _ _ _ _ _ _ _ ho19 hw (lv_sub hl [2, 3, 4, 5, 1, 0] rfl) (fun H locs ls hw hl => ?_)
      refine lv_iload hx hb dX12_areGuarded_122 (lv_at hl 4 rfl) ?_
      refine lv_if_ge (tgt := 129) hx hb dX12_areGuarded_124 (by decide) (fun c20 => ?_) (fun c20 => ?_)
      · replace h := itt h c20
        refine lv_aload_n hx hb dX12_areGuarded_129 rfl (lv_at hl 0 rfl) ?_
        refine m_getV hC hw (ci := 15) (k := 40) (C := RX12) (T := TX12) (N := 51) (Mm_obj _ _ _) (v := .ref (m0 + 31)) rfl ki_X12_areGuarded_X12 rfl (by decide) k_X12_areGuarded_129 (fun _ z => z) dX12_areGuarded_130 ?_
        refine lv_iload hx hb dX12_areGuarded_133 (lv_at hl 4 rfl) ?_
        refine lv_iconst (v := (1 : Int32)) hx hb dX12_areGuarded_135 (by decide) ?_
        obtain ⟨g21, h⟩ := itg h
        refine m_zast (x := some (m0 + 31)) (M1 := Mm m0 (uA uz 40 (o19 : Int32).toNatClampNeg (1 : Int32)) L) hC hw (Mm_sI hMo (j := 30) rfl g21) (by decide) dX12_areGuarded_136 (fun H locs hw => ?_)
        refine lv_iconst (v := (-1 : Int32)) hx hb dX12_areGuarded_137 (by decide) ?_
        refine lv_istore (lv' := [(5, .int (-1 : Int32)), (0, .ref m0), (1, .int x1), (2, .int x2), (3, .int x3), (4, .int o19)]) hx hb dX12_areGuarded_138 hl (by decide) rfl (fun ls hl => ?_)
        refine lv_iconst (v := (0 : Int32)) hx hb dX12_areGuarded_140 (by decide) ?_
        refine lv_istore (lv' := [(6, .int (0 : Int32)), (5, .int (-1 : Int32)), (0, .ref m0), (1, .int x1), (2, .int x2), (3, .int x3), (4, .int o19)]) hx hb dX12_areGuarded_141 hl (by decide) rfl (fun ls hl => ?_)
        refine lv_iconst (v := (0 : Int32)) hx hb dX12_areGuarded_143 (by decide) ?_
        refine lv_istore (lv' := [(7, .int (0 : Int32)), (6, .int (0 : Int32)), (5, .int (-1 : Int32)), (0, .ref m0), (1, .int x1), (2, .int x2), (3, .int x3), (4, .int o19)]) hx hb dX12_areGuarded_144 hl (by decide) rfl (fun ls hl => ?_)
        obtain ⟨o30, ho30, h⟩ := ob h
        refine L146 (uA uz 40 (o19 : Int32).toNatClampNeg (1 : Int32)) x1 x2 x3 o19 _ _ _ _ _ _ _ _ ho30 hw (lv_sub hl [3, 4, 5, 6, 7, 2, 1, 0] rfl) (fun H locs ls hw hl => ?_)
        refine lv_iload hx hb dX12_areGuarded_222 (lv_at hl 5 rfl) ?_
        refine lv_if_ge (tgt := 229) hx hb dX12_areGuarded_224 (by decide) (fun c31 => ?_) (fun c31 => ?_)
        · replace h := itt h c31
          refine lv_iload_n hx hb dX12_areGuarded_229 rfl (lv_at hl 2 rfl) ?_
          refine lv_if_eq (tgt := 240) hx hb dX12_areGuarded_230 (by decide) (fun c32 => ?_) (fun c32 => ?_)
          · replace h := itt h c32
            refine lv_aload_n hx hb dX12_areGuarded_240 rfl (lv_at hl 0 rfl) ?_
            refine m_getV hC hw (ci := 15) (k := 32) (C := RX12) (T := TX12) (N := 51) (Mm_obj _ _ _) (v := .ref (m0 + 24)) rfl ki_X12_areGuarded_X12 rfl (by decide) k_X12_areGuarded_94 (fun _ z => z) dX12_areGuarded_241 ?_
            refine lv_iload_n hx hb dX12_areGuarded_244 rfl (lv_at hl 1 rfl) ?_
            refine lv_bipush (v := (16 : Int32)) hx hb dX12_areGuarded_245 (by decide) ?_
            refine lv_imul hx hb dX12_areGuarded_247 ?_
            refine lv_iload hx hb dX12_areGuarded_248 (lv_at hl 4 rfl) ?_
            refine lv_iadd hx hb dX12_areGuarded_250 ?_
            refine lv_iload hx hb dX12_areGuarded_251 (lv_at hl 5 rfl) ?_
            obtain ⟨g33, h⟩ := itg h
            refine m_iast (x := some (m0 + 24)) (M1 := Mm m0 (uA (uA uz 40 (o19 : Int32).toNatClampNeg (1 : Int32)) 32 (((x1 * (16 : Int32)) + o19) : Int32).toNatClampNeg o30) L) hC hw (Mm_sI hMo (j := 23) rfl g33) dX12_areGuarded_253 (fun H locs hw => ?_)
            refine lv_goto (tgt := 61) hx hb dX12_areGuarded_254 (by decide) ?_
            exact ih _ _ _ _ h hw (lv_sub hl [0, 1, 2, 3] rfl)
          · replace h := itf h c32
            refine lv_aload_n hx hb dX12_areGuarded_233 rfl (lv_at hl 0 rfl) ?_
            refine m_getV hC hw (ci := 15) (k := 31) (C := RX12) (T := TX12) (N := 51) (Mm_obj _ _ _) (v := .ref (m0 + 23)) rfl ki_X12_areGuarded_X12 rfl (by decide) k_X12_areGuarded_91 (fun _ z => z) dX12_areGuarded_234 ?_
            refine lv_goto (tgt := 244) hx hb dX12_areGuarded_237 (by decide) ?_
            refine lv_iload_n hx hb dX12_areGuarded_244 rfl (lv_at hl 1 rfl) ?_
            refine lv_bipush (v := (16 : Int32)) hx hb dX12_areGuarded_245 (by decide) ?_
            refine lv_imul hx hb dX12_areGuarded_247 ?_
            refine lv_iload hx hb dX12_areGuarded_248 (lv_at hl 4 rfl) ?_
            refine lv_iadd hx hb dX12_areGuarded_250 ?_
            refine lv_iload hx hb dX12_areGuarded_251 (lv_at hl 5 rfl) ?_
            obtain ⟨g34, h⟩ := itg h
            refine m_iast (x := some (m0 + 23)) (M1 := Mm m0 (uA (uA uz 40 (o19 : Int32).toNatClampNeg (1 : Int32)) 31 (((x1 * (16 : Int32)) + o19) : Int32).toNatClampNeg o30) L) hC hw (Mm_sI hMo (j := 22) rfl g34) dX12_areGuarded_253 (fun H locs hw => ?_)
            refine lv_goto (tgt := 61) hx hb dX12_areGuarded_254 (by decide) ?_
            exact ih _ _ _ _ h hw (lv_sub hl [0, 1, 2, 3] rfl)
        · replace h := itf h c31
          refine lv_iconst (v := (0 : Int32)) hx hb dX12_areGuarded_227 (by decide) ?_
          cases h
          exact RET (by decide) hw ⟨(Nat.le_of_ble_eq_true rfl), (Nat.le_of_ble_eq_true rfl)⟩ dX12_areGuarded_228
      · replace h := itf h c20
        refine lv_iconst (v := (1 : Int32)) hx hb dX12_areGuarded_127 (by decide) ?_
        cases h
        exact RET (by decide) hw ⟨(Nat.le_of_ble_eq_true rfl), (Nat.le_of_ble_eq_true rfl)⟩ dX12_areGuarded_128
  unfold f_X12_areGuarded at h
  refine lv_aload_n hx hb dX12_areGuarded_0 rfl (lv_at hl 0 rfl) ?_
  refine lv_iload_n hx hb dX12_areGuarded_1 rfl (lv_at hl 1 rfl) ?_
  refine lv_iload_n hx hb dX12_areGuarded_2 rfl (lv_at hl 2 rfl) ?_
  obtain ⟨r1, hr1, h⟩ := ob h
  refine m_contI hC hw (m_runV hC hw (x := (some m0)) (ci := 15) (N := 51) (C := RX12) (T := TX12) (n := 2) (av := [.int a1, .int a2]) (rest := []) (c_X12_firstOfWay (G := G) (l := l) hMo hr1) gX12_areGuarded_X12_firstOfWay rfl (by decide +kernel) ⟨(Nat.le_of_ble_eq_true rfl), (Nat.le_of_ble_eq_true rfl)⟩ (isO_Mm _ _ _) rfl rfl hl.1 rfl (Nat.le_of_ble_eq_true rfl) dX12_areGuarded_3 ⟨(Nat.le_of_ble_eq_true rfl), (Nat.le_of_ble_eq_true rfl)⟩) (fun H locs hw => ?_)
  refine lv_istore_n (lv' := [(3, .int r1), (0, .ref m0), (1, .int a1), (2, .int a2)]) hx hb dX12_areGuarded_6 rfl hl (by decide) rfl (fun ls hl => ?_)
  refine lv_iconst (v := (0 : Int32)) hx hb dX12_areGuarded_7 (by decide) ?_
  refine lv_istore (lv' := [(4, .int (0 : Int32)), (3, .int r1), (0, .ref m0), (1, .int a1), (2, .int a2)]) hx hb dX12_areGuarded_8 hl (by decide) rfl (fun ls hl => ?_)
  obtain ⟨o10, ho10, h⟩ := ob h
  refine L10 a1 a2 r1 _ _ _ _ _ _ _ ho10 hw (lv_sub hl [2, 3, 4, 1, 0] rfl) (fun H locs ls hw hl => ?_)
  exact L61 a1 a2 r1 _ _ _ _ _ h hw (lv_sub hl [0, 1, 2, 3] rfl)

def f_X12_inForce_L5 (n : Nat) (u : MS) (x1 : Int32) (x2 : Int32) : Nat → Int32 → Int32 → Option (Int32)
  | 0, _, _ => none
  | k + 1, x3, x4 => if (u.1 33) ≤ x4 then (some (x3)) else (if inb x4 48 then (if (u.2 34 (x4 : Int32).toNatClampNeg) = x1 then (if inb x4 48 then (if x2 < (u.2 35 (x4 : Int32).toNatClampNeg) then (f_X12_inForce_L5 n u x1 x2 k x3 (x4 + (1 : Int32))) else (if x3 < 0 then (f_X12_inForce_L5 n u x1 x2 k x4 (x4 + (1 : Int32))) else (if inb x4 48 then (if inb x3 48 then (if (u.2 35 (x4 : Int32).toNatClampNeg) ≤ (u.2 35 (x3 : Int32).toNatClampNeg) then (f_X12_inForce_L5 n u x1 x2 k x3 (x4 + (1 : Int32))) else (f_X12_inForce_L5 n u x1 x2 k x4 (x4 + (1 : Int32)))) else none) else none))) else none) else (f_X12_inForce_L5 n u x1 x2 k x3 (x4 + (1 : Int32)))) else none)
def f_X12_inForce (n : Nat) (u : MS) (a1 : Int32) (a2 : Int32) : Option (Int32) := f_X12_inForce_L5 n u a1 a2 n (-1 : Int32) (0 : Int32)
def rmX12_inForce : Room := { frames := 0, cells := 0, slots := 0, locals := 0 }
theorem k_X12_inForce_145 : Cond.fieldLink RX12 145 "LoanBookModel" "reports" "I" ∈ wsX12_inForce := List.mem_of_getElem? (i := 1) rfl
theorem ki_X12_inForce_X12 : ∀ w ∈ u_ws RX12 TX12 51, w ∈ wsX12_inForce := sub_r [4, 5, 6, 7, 8, 9, 10, 11, 12, 13, 14, 15, 16, 17, 18, 19, 20, 21, 22, 23, 24, 25, 26, 27, 28, 29, 30, 31, 32, 33, 34, 35, 36, 37, 38, 39, 40, 41, 42, 43, 44, 45, 46, 47, 48, 49, 50, 51, 52, 53, 54] (by decide +kernel)
theorem k_X12_inForce_148 : Cond.fieldLink RX12 148 "LoanBookModel" "reportThing" "[I" ∈ wsX12_inForce := List.mem_of_getElem? (i := 2) rfl
theorem k_X12_inForce_151 : Cond.fieldLink RX12 151 "LoanBookModel" "reportDay" "[I" ∈ wsX12_inForce := List.mem_of_getElem? (i := 3) rfl
set_option maxHeartbeats 4000000 in
set_option maxRecDepth 100000 in
theorem c_X12_inForce {G : wG} {l : Launch} {n : Nat} {m0 : Nat} {L : Mem} {u : MS} {sz : Nat} {a1 : Int32} {a2 : Int32} {r : Int32} (hMo : MoOK G m0 L) (h : f_X12_inForce n u a1 a2 = some r) : CtrI G l yX12_inForce wsX12_inForce rmX12_inForce [.ref m0, .int a1, .int a2] (Mm m0 u L) sz r (Mm m0 u L) sz := by
  refine m_startI (own := RX12) (cc := cX12_inForce) (maxL := 5) (lv0 := [(0, .ref m0), (1, .int a1), (2, .int a2)]) (by decide) rfl rfl (by simp [lg_sl, va_rf_cat, cat_i, cat_r]) (by simp [lv_args, va_rf_cat, cat_i, cat_r]) ?_
  intro p e s m args below meth c Q hC hname RET hsz hw ls hl
  have hx := hC.1
  have hb := hC.2.1
  have L5 : ∀ (x1 : Int32) (x2 : Int32) (k : Nat) (x3 : Int32) (x4 : Int32) (H : Heap) (locs : List Loc) (ls : Array Slot), f_X12_inForce_L5 n u x1 x2 k x3 x4 = some r → wD G s (Mm m0 u L) (Mm m0 u L) sz H locs → lv_has ls 5 [(0, .ref m0), (1, .int x1), (2, .int x2), (3, .int x3), (4, .int x4)] → W p l e rmX12_inForce s m args below meth c H locs 0 0 Q (F0 m 5 ls []) := by
    intro x1 x2 k
    induction k with
    | zero =>
      intro x3 x4 H locs ls h
      exact absurd (show (none : Option (Int32)) = some r from h) (fun z => by cases z)
    | succ k ih =>
      intro x3 x4 H locs ls h hw hl
      rw [f_X12_inForce_L5] at h
      refine lv_iload hx hb dX12_inForce_5 (lv_at hl 4 rfl) ?_
      refine lv_aload_n hx hb dX12_inForce_7 rfl (lv_at hl 0 rfl) ?_
      refine m_getV hC hw (ci := 15) (k := 33) (C := RX12) (T := TX12) (N := 51) (Mm_obj _ _ _) (v := .int (u.1 33)) rfl ki_X12_inForce_X12 rfl (by decide) k_X12_inForce_145 (fun _ z => z) dX12_inForce_8 ?_
      refine lv_icmp_ge (tgt := 65) hx hb dX12_inForce_11 (by decide) (fun c1 => ?_) (fun c1 => ?_)
      · replace h := itt h c1
        refine lv_iload_n hx hb dX12_inForce_65 rfl (lv_at hl 3 rfl) ?_
        cases h
        exact RET hw ⟨(Nat.le_of_ble_eq_true rfl), (Nat.le_of_ble_eq_true rfl)⟩ dX12_inForce_66
      · replace h := itf h c1
        refine lv_aload_n hx hb dX12_inForce_14 rfl (lv_at hl 0 rfl) ?_
        refine m_getV hC hw (ci := 15) (k := 34) (C := RX12) (T := TX12) (N := 51) (Mm_obj _ _ _) (v := .ref (m0 + 25)) rfl ki_X12_inForce_X12 rfl (by decide) k_X12_inForce_148 (fun _ z => z) dX12_inForce_15 ?_
        refine lv_iload hx hb dX12_inForce_18 (lv_at hl 4 rfl) ?_
        obtain ⟨g2, h⟩ := itg h
        refine m_iald (x := some (m0 + 25)) hC hw (Mm_aI (j := 24) rfl g2) dX12_inForce_20 ?_
        refine lv_iload_n hx hb dX12_inForce_21 rfl (lv_at hl 1 rfl) ?_
        refine lv_icmp_ne (tgt := 59) hx hb dX12_inForce_22 (by decide) (fun c3 => ?_) (fun c3 => ?_)
        · replace h := itf h c3
          refine lv_iinc (v := (x4 + (1 : Int32))) (lv' := [(4, .int (x4 + (1 : Int32))), (0, .ref m0), (1, .int x1), (2, .int x2), (3, .int x3)]) hx hb dX12_inForce_59 hl (k := 4) rfl rfl (by decide) rfl (fun ls hl => ?_)
          refine lv_goto (tgt := 5) hx hb dX12_inForce_62 (by decide) ?_
          exact ih _ _ _ _ _ h hw (lv_sub hl [1, 2, 3, 4, 0] rfl)
        · replace h := itt h c3
          refine lv_aload_n hx hb dX12_inForce_25 rfl (lv_at hl 0 rfl) ?_
          refine m_getV hC hw (ci := 15) (k := 35) (C := RX12) (T := TX12) (N := 51) (Mm_obj _ _ _) (v := .ref (m0 + 26)) rfl ki_X12_inForce_X12 rfl (by decide) k_X12_inForce_151 (fun _ z => z) dX12_inForce_26 ?_
          refine lv_iload hx hb dX12_inForce_29 (lv_at hl 4 rfl) ?_
          obtain ⟨g4, h⟩ := itg h
          refine m_iald (x := some (m0 + 26)) hC hw (Mm_aI (j := 25) rfl g4) dX12_inForce_31 ?_
          refine lv_iload_n hx hb dX12_inForce_32 rfl (lv_at hl 2 rfl) ?_
          refine lv_icmp_gt (tgt := 59) hx hb dX12_inForce_33 (by decide) (fun c5 => ?_) (fun c5 => ?_)
          · replace h := itt h c5
            refine lv_iinc (v := (x4 + (1 : Int32))) (lv' := [(4, .int (x4 + (1 : Int32))), (0, .ref m0), (1, .int x1), (2, .int x2), (3, .int x3)]) hx hb dX12_inForce_59 hl (k := 4) rfl rfl (by decide) rfl (fun ls hl => ?_)
            refine lv_goto (tgt := 5) hx hb dX12_inForce_62 (by decide) ?_
            exact ih _ _ _ _ _ h hw (lv_sub hl [1, 2, 3, 4, 0] rfl)
          · replace h := itf h c5
            refine lv_iload_n hx hb dX12_inForce_36 rfl (lv_at hl 3 rfl) ?_
            refine lv_if_lt (tgt := 56) hx hb dX12_inForce_37 (by decide) (fun c6 => ?_) (fun c6 => ?_)
            · replace h := itt h c6
              refine lv_iload hx hb dX12_inForce_56 (lv_at hl 4 rfl) ?_
              refine lv_istore_n (lv' := [(3, .int x4), (0, .ref m0), (1, .int x1), (2, .int x2), (4, .int x4)]) hx hb dX12_inForce_58 rfl hl (by decide) rfl (fun ls hl => ?_)
              refine lv_iinc (v := (x4 + (1 : Int32))) (lv' := [(4, .int (x4 + (1 : Int32))), (3, .int x4), (0, .ref m0), (1, .int x1), (2, .int x2)]) hx hb dX12_inForce_59 hl (k := 4) rfl rfl (by decide) rfl (fun ls hl => ?_)
              refine lv_goto (tgt := 5) hx hb dX12_inForce_62 (by decide) ?_
              exact ih _ _ _ _ _ h hw (lv_sub hl [2, 3, 4, 1, 0] rfl)
            · replace h := itf h c6
              refine lv_aload_n hx hb dX12_inForce_40 rfl (lv_at hl 0 rfl) ?_
              refine m_getV hC hw (ci := 15) (k := 35) (C := RX12) (T := TX12) (N := 51) (Mm_obj _ _ _) (v := .ref (m0 + 26)) rfl ki_X12_inForce_X12 rfl (by decide) k_X12_inForce_151 (fun _ z => z) dX12_inForce_41 ?_
              refine lv_iload hx hb dX12_inForce_44 (lv_at hl 4 rfl) ?_
              obtain ⟨g7, h⟩ := itg h
              refine m_iald (x := some (m0 + 26)) hC hw (Mm_aI (j := 25) rfl g7) dX12_inForce_46 ?_
              refine lv_aload_n hx hb dX12_inForce_47 rfl (lv_at hl 0 rfl) ?_
              refine m_getV hC hw (ci := 15) (k := 35) (C := RX12) (T := TX12) (N := 51) (Mm_obj _ _ _) (v := .ref (m0 + 26)) rfl ki_X12_inForce_X12 rfl (by decide) k_X12_inForce_151 (fun _ z => z) dX12_inForce_48 ?_
              refine lv_iload_n hx hb dX12_inForce_51 rfl (lv_at hl 3 rfl) ?_
              obtain ⟨g8, h⟩ := itg h
              refine m_iald (x := some (m0 + 26)) hC hw (Mm_aI (j := 25) rfl g8) dX12_inForce_52 ?_
              refine lv_icmp_le (tgt := 59) hx hb dX12_inForce_53 (by decide) (fun c9 => ?_) (fun c9 => ?_)
              · replace h := itt h c9
                refine lv_iinc (v := (x4 + (1 : Int32))) (lv' := [(4, .int (x4 + (1 : Int32))), (0, .ref m0), (1, .int x1), (2, .int x2), (3, .int x3)]) hx hb dX12_inForce_59 hl (k := 4) rfl rfl (by decide) rfl (fun ls hl => ?_)
                refine lv_goto (tgt := 5) hx hb dX12_inForce_62 (by decide) ?_
                exact ih _ _ _ _ _ h hw (lv_sub hl [1, 2, 3, 4, 0] rfl)
              · replace h := itf h c9
                refine lv_iload hx hb dX12_inForce_56 (lv_at hl 4 rfl) ?_
                refine lv_istore_n (lv' := [(3, .int x4), (0, .ref m0), (1, .int x1), (2, .int x2), (4, .int x4)]) hx hb dX12_inForce_58 rfl hl (by decide) rfl (fun ls hl => ?_)
                refine lv_iinc (v := (x4 + (1 : Int32))) (lv' := [(4, .int (x4 + (1 : Int32))), (3, .int x4), (0, .ref m0), (1, .int x1), (2, .int x2)]) hx hb dX12_inForce_59 hl (k := 4) rfl rfl (by decide) rfl (fun ls hl => ?_)
                refine lv_goto (tgt := 5) hx hb dX12_inForce_62 (by decide) ?_
                exact ih _ _ _ _ _ h hw (lv_sub hl [2, 3, 4, 1, 0] rfl)
  unfold f_X12_inForce at h
  refine lv_iconst (v := (-1 : Int32)) hx hb dX12_inForce_0 (by decide) ?_
  refine lv_istore_n (lv' := [(3, .int (-1 : Int32)), (0, .ref m0), (1, .int a1), (2, .int a2)]) hx hb dX12_inForce_1 rfl hl (by decide) rfl (fun ls hl => ?_)
  refine lv_iconst (v := (0 : Int32)) hx hb dX12_inForce_2 (by decide) ?_
  refine lv_istore (lv' := [(4, .int (0 : Int32)), (3, .int (-1 : Int32)), (0, .ref m0), (1, .int a1), (2, .int a2)]) hx hb dX12_inForce_3 hl (by decide) rfl (fun ls hl => ?_)
  exact L5 a1 a2 _ _ _ _ _ _ h hw (lv_sub hl [2, 3, 4, 1, 0] rfl)

def f_X12_harmsOn (n : Nat) (u : MS) (a1 : Int32) (a2 : Int32) : Option (Int32) := (f_X12_inForce n u a1 a2).bind fun r1 => if 0 ≤ r1 then (if inb r1 48 then (some (u.2 36 (r1 : Int32).toNatClampNeg)) else none) else (some (0 : Int32))
def rmX12_harmsOn : Room := { frames := 1, cells := 0, slots := 0, locals := 24 }
theorem k_X12_harmsOn_157 : Cond.fieldLink RX12 157 "LoanBookModel" "harms" "[I" ∈ wsX12_harmsOn := List.mem_of_getElem? (i := 1) rfl
theorem ki_X12_harmsOn_X12 : ∀ w ∈ u_ws RX12 TX12 51, w ∈ wsX12_harmsOn := sub_r [10, 11, 12, 13, 14, 15, 16, 17, 18, 19, 20, 21, 22, 23, 24, 25, 26, 27, 28, 29, 30, 31, 32, 33, 34, 35, 36, 37, 38, 39, 40, 41, 42, 43, 44, 45, 46, 47, 48, 49, 50, 51, 52, 53, 54, 55, 56, 57, 58, 59, 60] (by decide +kernel)
set_option maxHeartbeats 4000000 in
set_option maxRecDepth 100000 in
theorem c_X12_harmsOn {G : wG} {l : Launch} {n : Nat} {m0 : Nat} {L : Mem} {u : MS} {sz : Nat} {a1 : Int32} {a2 : Int32} {r : Int32} (hMo : MoOK G m0 L) (h : f_X12_harmsOn n u a1 a2 = some r) : CtrI G l yX12_harmsOn wsX12_harmsOn rmX12_harmsOn [.ref m0, .int a1, .int a2] (Mm m0 u L) sz r (Mm m0 u L) sz := by
  refine m_startI (own := RX12) (cc := cX12_harmsOn) (maxL := 4) (lv0 := [(0, .ref m0), (1, .int a1), (2, .int a2)]) (by decide) rfl rfl (by simp [lg_sl, va_rf_cat, cat_i, cat_r]) (by simp [lv_args, va_rf_cat, cat_i, cat_r]) ?_
  intro p e s m args below meth c Q hC hname RET hsz hw ls hl
  have hx := hC.1
  have hb := hC.2.1
  unfold f_X12_harmsOn at h
  refine lv_aload_n hx hb dX12_harmsOn_0 rfl (lv_at hl 0 rfl) ?_
  refine lv_iload_n hx hb dX12_harmsOn_1 rfl (lv_at hl 1 rfl) ?_
  refine lv_iload_n hx hb dX12_harmsOn_2 rfl (lv_at hl 2 rfl) ?_
  obtain ⟨r1, hr1, h⟩ := ob h
  refine m_contI hC hw (m_runV hC hw (x := (some m0)) (ci := 15) (N := 51) (C := RX12) (T := TX12) (n := 2) (av := [.int a1, .int a2]) (rest := []) (c_X12_inForce (G := G) (l := l) hMo hr1) gX12_harmsOn_X12_inForce rfl (by decide +kernel) ⟨(Nat.le_of_ble_eq_true rfl), (Nat.le_of_ble_eq_true rfl)⟩ (isO_Mm _ _ _) rfl rfl hl.1 rfl (Nat.le_of_ble_eq_true rfl) dX12_harmsOn_3 ⟨(Nat.le_of_ble_eq_true rfl), (Nat.le_of_ble_eq_true rfl)⟩) (fun H locs hw => ?_)
  refine lv_istore_n (lv' := [(3, .int r1), (0, .ref m0), (1, .int a1), (2, .int a2)]) hx hb dX12_harmsOn_6 rfl hl (by decide) rfl (fun ls hl => ?_)
  refine lv_iload_n hx hb dX12_harmsOn_7 rfl (lv_at hl 0 rfl) ?_
  refine lv_if_ge (tgt := 15) hx hb dX12_harmsOn_8 (by decide) (fun c2 => ?_) (fun c2 => ?_)
  · replace h := itt h c2
    refine lv_aload_n hx hb dX12_harmsOn_15 rfl (lv_at hl 1 rfl) ?_
    refine m_getV hC hw (ci := 15) (k := 36) (C := RX12) (T := TX12) (N := 51) (Mm_obj _ _ _) (v := .ref (m0 + 27)) rfl ki_X12_harmsOn_X12 rfl (by decide) k_X12_harmsOn_157 (fun _ z => z) dX12_harmsOn_16 ?_
    refine lv_iload_n hx hb dX12_harmsOn_19 rfl (lv_at hl 0 rfl) ?_
    obtain ⟨g3, h⟩ := itg h
    refine m_iald (x := some (m0 + 27)) hC hw (Mm_aI (j := 26) rfl g3) dX12_harmsOn_20 ?_
    cases h
    exact RET hw ⟨(Nat.le_of_ble_eq_true rfl), (Nat.le_of_ble_eq_true rfl)⟩ dX12_harmsOn_21
  · replace h := itf h c2
    refine lv_iconst (v := (0 : Int32)) hx hb dX12_harmsOn_11 (by decide) ?_
    refine lv_goto (tgt := 21) hx hb dX12_harmsOn_12 (by decide) ?_
    cases h
    exact RET hw ⟨(Nat.le_of_ble_eq_true rfl), (Nat.le_of_ble_eq_true rfl)⟩ dX12_harmsOn_21

def f_X12_costOf_L19 (n : Nat) (u : MS) (x1 : Int32) (x2 : Int32) (x3 : Int32) : Nat → Int32 → Int32 → Option (Int32)
  | 0, _, _ => none
  | k + 1, x4, x5 => if (u.1 5) ≤ x5 then (some (x4)) else ((f_X12_isHad u x1 x5).bind fun r4 => if r4 = 0 then (f_X12_costOf_L19 n u x1 x2 x3 k x4 (x5 + (1 : Int32))) else (if inb ((x1 * (16 : Int32)) + x5) 272 then (if x3 = (2 : Int32) then ((f_X12_valueOn n u x5 x2).bind fun r29 => if inb x1 17 then (if inb (u.2 25 (x1 : Int32).toNatClampNeg) 6 then ((f_X12_harmsOn n u x5 x2).bind fun r32 => f_X12_costOf_L19 n u x1 x2 x3 k (x4 + (((r29 * (u.2 18 ((u.2 25 (x1 : Int32).toNatClampNeg) : Int32).toNatClampNeg)) * (1 : Int32)) * ((10 : Int32) + r32))) (x5 + (1 : Int32))) else none) else none) else (if x3 = (1 : Int32) then (if inb ((x1 * (16 : Int32)) + (u.2 30 (((x1 * (16 : Int32)) + x5) : Int32).toNatClampNeg)) 272 then (if (u.2 31 (((x1 * (16 : Int32)) + (u.2 30 (((x1 * (16 : Int32)) + x5) : Int32).toNatClampNeg)) : Int32).toNatClampNeg) < 0 then ((f_X12_valueOn n u x5 x2).bind fun r21 => if inb x1 17 then (if inb (u.2 25 (x1 : Int32).toNatClampNeg) 6 then ((f_X12_harmsOn n u x5 x2).bind fun r24 => f_X12_costOf_L19 n u x1 x2 x3 k (x4 + (((r21 * (u.2 18 ((u.2 25 (x1 : Int32).toNatClampNeg) : Int32).toNatClampNeg)) * (3 : Int32)) * ((10 : Int32) + r24))) (x5 + (1 : Int32))) else none) else none) else ((f_X12_valueOn n u x5 x2).bind fun r25 => if inb x1 17 then (if inb (u.2 25 (x1 : Int32).toNatClampNeg) 6 then ((f_X12_harmsOn n u x5 x2).bind fun r28 => f_X12_costOf_L19 n u x1 x2 x3 k (x4 + (((r25 * (u.2 18 ((u.2 25 (x1 : Int32).toNatClampNeg) : Int32).toNatClampNeg)) * (2 : Int32)) * ((10 : Int32) + r28))) (x5 + (1 : Int32))) else none) else none)) else none) else (if inb ((x1 * (16 : Int32)) + (u.2 30 (((x1 * (16 : Int32)) + x5) : Int32).toNatClampNeg)) 272 then (if (u.2 32 (((x1 * (16 : Int32)) + (u.2 30 (((x1 * (16 : Int32)) + x5) : Int32).toNatClampNeg)) : Int32).toNatClampNeg) < 0 then ((f_X12_valueOn n u x5 x2).bind fun r11 => if inb x1 17 then (if inb (u.2 25 (x1 : Int32).toNatClampNeg) 6 then ((f_X12_harmsOn n u x5 x2).bind fun r14 => f_X12_costOf_L19 n u x1 x2 x3 k (x4 + (((r11 * (u.2 18 ((u.2 25 (x1 : Int32).toNatClampNeg) : Int32).toNatClampNeg)) * (3 : Int32)) * ((10 : Int32) + r14))) (x5 + (1 : Int32))) else none) else none) else ((f_X12_valueOn n u x5 x2).bind fun r15 => if inb x1 17 then (if inb (u.2 25 (x1 : Int32).toNatClampNeg) 6 then ((f_X12_harmsOn n u x5 x2).bind fun r18 => f_X12_costOf_L19 n u x1 x2 x3 k (x4 + (((r15 * (u.2 18 ((u.2 25 (x1 : Int32).toNatClampNeg) : Int32).toNatClampNeg)) * (2 : Int32)) * ((10 : Int32) + r18))) (x5 + (1 : Int32))) else none) else none)) else none))) else none))
def f_X12_costOf (n : Nat) (u : MS) (a1 : Int32) (a2 : Int32) : Option (Int32) := (f_X12_stageOf u a1 a2).bind fun r1 => if r1 = 0 then (some (0 : Int32)) else (f_X12_costOf_L19 n u a1 a2 r1 n (0 : Int32) (0 : Int32))
def rmX12_costOf : Room := { frames := 2, cells := 0, slots := 0, locals := 47 }
theorem k_X12_costOf_7 : Cond.fieldLink RX12 7 "LoanBookModel" "things" "I" ∈ wsX12_costOf := List.mem_of_getElem? (i := 1) rfl
theorem ki_X12_costOf_X12 : ∀ w ∈ u_ws RX12 TX12 51, w ∈ wsX12_costOf := sub_r [41, 42, 43, 44, 45, 46, 47, 48, 49, 50, 51, 52, 53, 54, 55, 56, 57, 58, 59, 60, 61, 62, 63, 64, 65, 66, 67, 68, 69, 70, 71, 72, 73, 74, 75, 76, 77, 78, 79, 80, 81, 82, 83, 84, 85, 86, 87, 88, 89, 90, 91] (by decide +kernel)
theorem k_X12_costOf_104 : Cond.fieldLink RX12 104 "LoanBookModel" "parcelOf" "[I" ∈ wsX12_costOf := List.mem_of_getElem? (i := 2) rfl
theorem k_X12_costOf_94 : Cond.fieldLink RX12 94 "LoanBookModel" "guardBack" "[I" ∈ wsX12_costOf := List.mem_of_getElem? (i := 4) rfl
theorem k_X12_costOf_183 : Cond.fieldLink RX12 183 "LoanBookModel" "rate" "[I" ∈ wsX12_costOf := List.mem_of_getElem? (i := 5) rfl
theorem k_X12_costOf_55 : Cond.fieldLink RX12 55 "LoanBookModel" "houseOf" "[I" ∈ wsX12_costOf := List.mem_of_getElem? (i := 6) rfl
theorem k_X12_costOf_91 : Cond.fieldLink RX12 91 "LoanBookModel" "guardOut" "[I" ∈ wsX12_costOf := List.mem_of_getElem? (i := 3) rfl
set_option maxHeartbeats 4000000 in
set_option maxRecDepth 100000 in
theorem c_X12_costOf {G : wG} {l : Launch} {n : Nat} {m0 : Nat} {L : Mem} {u : MS} {sz : Nat} {a1 : Int32} {a2 : Int32} {r : Int32} (hMo : MoOK G m0 L) (h : f_X12_costOf n u a1 a2 = some r) : CtrI G l yX12_costOf wsX12_costOf rmX12_costOf [.ref m0, .int a1, .int a2] (Mm m0 u L) sz r (Mm m0 u L) sz := by
  refine m_startI (own := RX12) (cc := cX12_costOf) (maxL := 8) (lv0 := [(0, .ref m0), (1, .int a1), (2, .int a2)]) (by decide) rfl rfl (by simp [lg_sl, va_rf_cat, cat_i, cat_r]) (by simp [lv_args, va_rf_cat, cat_i, cat_r]) ?_
  intro p e s m args below meth c Q hC hname RET hsz hw ls hl
  have hx := hC.1
  have hb := hC.2.1
  have L19 : ∀ (x1 : Int32) (x2 : Int32) (x3 : Int32) (k : Nat) (x4 : Int32) (x5 : Int32) (H : Heap) (locs : List Loc) (ls : Array Slot), f_X12_costOf_L19 n u x1 x2 x3 k x4 x5 = some r → wD G s (Mm m0 u L) (Mm m0 u L) sz H locs → lv_has ls 8 [(0, .ref m0), (1, .int x1), (2, .int x2), (3, .int x3), (4, .int x4), (5, .int x5)] → W p l e rmX12_costOf s m args below meth c H locs 0 0 Q (F0 m 19 ls []) := by
    intro x1 x2 x3 k
    induction k with
    | zero =>
      intro x4 x5 H locs ls h
      exact absurd (show (none : Option (Int32)) = some r from h) (fun z => by cases z)
    | succ k ih =>
      intro x4 x5 H locs ls h hw hl
      rw [f_X12_costOf_L19] at h
      refine lv_iload hx hb dX12_costOf_19 (lv_at hl 5 rfl) ?_
      refine lv_aload_n hx hb dX12_costOf_21 rfl (lv_at hl 0 rfl) ?_
      refine m_getV hC hw (ci := 15) (k := 5) (C := RX12) (T := TX12) (N := 51) (Mm_obj _ _ _) (v := .int (u.1 5)) rfl ki_X12_costOf_X12 rfl (by decide) k_X12_costOf_7 (fun _ z => z) dX12_costOf_22 ?_
      refine lv_icmp_ge (tgt := 145) hx hb dX12_costOf_25 (by decide) (fun c3 => ?_) (fun c3 => ?_)
      · replace h := itt h c3
        refine lv_iload hx hb dX12_costOf_145 (lv_at hl 4 rfl) ?_
        cases h
        exact RET hw ⟨(Nat.le_of_ble_eq_true rfl), (Nat.le_of_ble_eq_true rfl)⟩ dX12_costOf_147
      · replace h := itf h c3
        refine lv_aload_n hx hb dX12_costOf_28 rfl (lv_at hl 0 rfl) ?_
        refine lv_iload_n hx hb dX12_costOf_29 rfl (lv_at hl 1 rfl) ?_
        refine lv_iload hx hb dX12_costOf_30 (lv_at hl 5 rfl) ?_
        obtain ⟨r4, hr4, h⟩ := ob h
        refine m_contI hC hw (m_runV hC hw (x := (some m0)) (ci := 15) (N := 51) (C := RX12) (T := TX12) (n := 2) (av := [.int x1, .int x5]) (rest := []) (c_X12_isHad (G := G) (l := l) hMo hr4) gX12_costOf_X12_isHad rfl (by decide +kernel) ⟨(Nat.le_of_ble_eq_true rfl), (Nat.le_of_ble_eq_true rfl)⟩ (isO_Mm _ _ _) rfl rfl hl.1 rfl (Nat.le_of_ble_eq_true rfl) dX12_costOf_32 ⟨(Nat.le_of_ble_eq_true rfl), (Nat.le_of_ble_eq_true rfl)⟩) (fun H locs hw => ?_)
        refine lv_if_ne (tgt := 41) hx hb dX12_costOf_35 (by decide) (fun c5 => ?_) (fun c5 => ?_)
        · replace h := itf h c5
          refine lv_iload_n hx hb dX12_costOf_41 rfl (lv_at hl 1 rfl) ?_
          refine lv_bipush (v := (16 : Int32)) hx hb dX12_costOf_42 (by decide) ?_
          refine lv_imul hx hb dX12_costOf_44 ?_
          refine lv_aload_n hx hb dX12_costOf_45 rfl (lv_at hl 0 rfl) ?_
          refine m_getV hC hw (ci := 15) (k := 30) (C := RX12) (T := TX12) (N := 51) (Mm_obj _ _ _) (v := .ref (m0 + 22)) rfl ki_X12_costOf_X12 rfl (by decide) k_X12_costOf_104 (fun _ z => z) dX12_costOf_46 ?_
          refine lv_iload_n hx hb dX12_costOf_49 rfl (lv_at hl 1 rfl) ?_
          refine lv_bipush (v := (16 : Int32)) hx hb dX12_costOf_50 (by decide) ?_
          refine lv_imul hx hb dX12_costOf_52 ?_
          refine lv_iload hx hb dX12_costOf_53 (lv_at hl 5 rfl) ?_
          refine lv_iadd hx hb dX12_costOf_55 ?_
          obtain ⟨g6, h⟩ := itg h
          refine m_iald (x := some (m0 + 22)) hC hw (Mm_aI (j := 21) rfl g6) dX12_costOf_56 ?_
          refine lv_iadd hx hb dX12_costOf_57 ?_
          refine lv_istore (lv' := [(6, .int ((x1 * (16 : Int32)) + (u.2 30 (((x1 * (16 : Int32)) + x5) : Int32).toNatClampNeg))), (0, .ref m0), (1, .int x1), (2, .int x2), (3, .int x3), (4, .int x4), (5, .int x5)]) hx hb dX12_costOf_58 hl (by decide) rfl (fun ls hl => ?_)
          refine lv_iload_n hx hb dX12_costOf_60 rfl (lv_at hl 4 rfl) ?_
          refine lv_iconst (v := (2 : Int32)) hx hb dX12_costOf_61 (by decide) ?_
          refine lv_icmp_ne (tgt := 69) hx hb dX12_costOf_62 (by decide) (fun c7 => ?_) (fun c7 => ?_)
          · replace h := itf h c7
            refine lv_iload_n hx hb dX12_costOf_69 rfl (lv_at hl 4 rfl) ?_
            refine lv_iconst (v := (1 : Int32)) hx hb dX12_costOf_70 (by decide) ?_
            refine lv_icmp_ne (tgt := 84) hx hb dX12_costOf_71 (by decide) (fun c8 => ?_) (fun c8 => ?_)
            · replace h := itf h c8
              refine lv_aload_n hx hb dX12_costOf_84 rfl (lv_at hl 1 rfl) ?_
              refine m_getV hC hw (ci := 15) (k := 32) (C := RX12) (T := TX12) (N := 51) (Mm_obj _ _ _) (v := .ref (m0 + 24)) rfl ki_X12_costOf_X12 rfl (by decide) k_X12_costOf_94 (fun _ z => z) dX12_costOf_85 ?_
              refine lv_iload hx hb dX12_costOf_88 (lv_at hl 0 rfl) ?_
              obtain ⟨g9, h⟩ := itg h
              refine m_iald (x := some (m0 + 24)) hC hw (Mm_aI (j := 23) rfl g9) dX12_costOf_90 ?_
              refine lv_if_lt (tgt := 98) hx hb dX12_costOf_91 (by decide) (fun c10 => ?_) (fun c10 => ?_)
              · replace h := itt h c10
                refine lv_iconst (v := (3 : Int32)) hx hb dX12_costOf_98 (by decide) ?_
                refine lv_istore (lv' := [(7, .int (3 : Int32)), (6, .int ((x1 * (16 : Int32)) + (u.2 30 (((x1 * (16 : Int32)) + x5) : Int32).toNatClampNeg))), (0, .ref m0), (1, .int x1), (2, .int x2), (3, .int x3), (4, .int x4), (5, .int x5)]) hx hb dX12_costOf_99 hl (by decide) rfl (fun ls hl => ?_)
                refine lv_iload hx hb dX12_costOf_101 (lv_at hl 6 rfl) ?_
                refine lv_aload_n hx hb dX12_costOf_103 rfl (lv_at hl 2 rfl) ?_
                refine lv_iload hx hb dX12_costOf_104 (lv_at hl 7 rfl) ?_
                refine lv_iload_n hx hb dX12_costOf_106 rfl (lv_at hl 4 rfl) ?_
                obtain ⟨r11, hr11, h⟩ := ob h
                refine m_contI hC hw (m_runV hC hw (x := (some m0)) (ci := 15) (N := 51) (C := RX12) (T := TX12) (n := 2) (av := [.int x5, .int x2]) (rest := [.int x4]) (c_X12_valueOn (G := G) (l := l) hMo hr11) gX12_costOf_X12_valueOn rfl (by decide +kernel) ⟨(Nat.le_of_ble_eq_true rfl), (Nat.le_of_ble_eq_true rfl)⟩ (isO_Mm _ _ _) rfl rfl hl.1 rfl (Nat.le_of_ble_eq_true rfl) dX12_costOf_107 ⟨(Nat.le_of_ble_eq_true rfl), (Nat.le_of_ble_eq_true rfl)⟩) (fun H locs hw => ?_)
                refine lv_aload_n hx hb dX12_costOf_110 rfl (lv_at hl 2 rfl) ?_
                refine m_getV hC hw (ci := 15) (k := 18) (C := RX12) (T := TX12) (N := 51) (Mm_obj _ _ _) (v := .ref (m0 + 12)) rfl ki_X12_costOf_X12 rfl (by decide) k_X12_costOf_183 (fun _ z => z) dX12_costOf_111 ?_
                refine lv_aload_n hx hb dX12_costOf_114 rfl (lv_at hl 2 rfl) ?_
                refine m_getV hC hw (ci := 15) (k := 25) (C := RX12) (T := TX12) (N := 51) (Mm_obj _ _ _) (v := .ref (m0 + 17)) rfl ki_X12_costOf_X12 rfl (by decide) k_X12_costOf_55 (fun _ z => z) dX12_costOf_115 ?_
                refine lv_iload_n hx hb dX12_costOf_118 rfl (lv_at hl 3 rfl) ?_
                obtain ⟨g12, h⟩ := itg h
                refine m_iald (x := some (m0 + 17)) hC hw (Mm_aI (j := 16) rfl g12) dX12_costOf_119 ?_
                obtain ⟨g13, h⟩ := itg h
                refine m_iald (x := some (m0 + 12)) hC hw (Mm_aI (j := 11) rfl g13) dX12_costOf_120 ?_
                refine lv_imul hx hb dX12_costOf_121 ?_
                refine lv_iload hx hb dX12_costOf_122 (lv_at hl 0 rfl) ?_
                refine lv_imul hx hb dX12_costOf_124 ?_
                refine lv_bipush (v := (10 : Int32)) hx hb dX12_costOf_125 (by decide) ?_
                refine lv_aload_n hx hb dX12_costOf_127 rfl (lv_at hl 2 rfl) ?_
                refine lv_iload hx hb dX12_costOf_128 (lv_at hl 7 rfl) ?_
                refine lv_iload_n hx hb dX12_costOf_130 rfl (lv_at hl 4 rfl) ?_
                obtain ⟨r14, hr14, h⟩ := ob h
                refine m_contI hC hw (m_runV hC hw (x := (some m0)) (ci := 15) (N := 51) (C := RX12) (T := TX12) (n := 2) (av := [.int x5, .int x2]) (rest := [.int (10 : Int32), .int ((r11 * (u.2 18 ((u.2 25 (x1 : Int32).toNatClampNeg) : Int32).toNatClampNeg)) * (3 : Int32)), .int x4]) (c_X12_harmsOn (G := G) (l := l) hMo hr14) gX12_costOf_X12_harmsOn rfl (by decide +kernel) ⟨(Nat.le_of_ble_eq_true rfl), (Nat.le_of_ble_eq_true rfl)⟩ (isO_Mm _ _ _) rfl rfl hl.1 rfl (Nat.le_of_ble_eq_true rfl) dX12_costOf_131 ⟨(Nat.le_of_ble_eq_true rfl), (Nat.le_of_ble_eq_true rfl)⟩) (fun H locs hw => ?_)
                refine lv_iadd hx hb dX12_costOf_134 ?_
                refine lv_imul hx hb dX12_costOf_135 ?_
                refine lv_iadd hx hb dX12_costOf_136 ?_
                refine lv_istore (lv' := [(4, .int (x4 + (((r11 * (u.2 18 ((u.2 25 (x1 : Int32).toNatClampNeg) : Int32).toNatClampNeg)) * (3 : Int32)) * ((10 : Int32) + r14)))), (7, .int (3 : Int32)), (6, .int ((x1 * (16 : Int32)) + (u.2 30 (((x1 * (16 : Int32)) + x5) : Int32).toNatClampNeg))), (0, .ref m0), (1, .int x1), (2, .int x2), (3, .int x3), (5, .int x5)]) hx hb dX12_costOf_137 hl (by decide) rfl (fun ls hl => ?_)
                refine lv_iinc (v := (x5 + (1 : Int32))) (lv' := [(5, .int (x5 + (1 : Int32))), (4, .int (x4 + (((r11 * (u.2 18 ((u.2 25 (x1 : Int32).toNatClampNeg) : Int32).toNatClampNeg)) * (3 : Int32)) * ((10 : Int32) + r14)))), (7, .int (3 : Int32)), (6, .int ((x1 * (16 : Int32)) + (u.2 30 (((x1 * (16 : Int32)) + x5) : Int32).toNatClampNeg))), (0, .ref m0), (1, .int x1), (2, .int x2), (3, .int x3)]) hx hb dX12_costOf_139 hl (k := 7) rfl rfl (by decide) rfl (fun ls hl => ?_)
                refine lv_goto (tgt := 19) hx hb dX12_costOf_142 (by decide) ?_
                exact ih _ _ _ _ _ h hw (lv_sub hl [4, 5, 6, 7, 1, 0] rfl)
              · replace h := itf h c10
                refine lv_iconst (v := (2 : Int32)) hx hb dX12_costOf_94 (by decide) ?_
                refine lv_goto (tgt := 99) hx hb dX12_costOf_95 (by decide) ?_
                refine lv_istore (lv' := [(7, .int (2 : Int32)), (6, .int ((x1 * (16 : Int32)) + (u.2 30 (((x1 * (16 : Int32)) + x5) : Int32).toNatClampNeg))), (0, .ref m0), (1, .int x1), (2, .int x2), (3, .int x3), (4, .int x4), (5, .int x5)]) hx hb dX12_costOf_99 hl (by decide) rfl (fun ls hl => ?_)
                refine lv_iload hx hb dX12_costOf_101 (lv_at hl 6 rfl) ?_
                refine lv_aload_n hx hb dX12_costOf_103 rfl (lv_at hl 2 rfl) ?_
                refine lv_iload hx hb dX12_costOf_104 (lv_at hl 7 rfl) ?_
                refine lv_iload_n hx hb dX12_costOf_106 rfl (lv_at hl 4 rfl) ?_
                obtain ⟨r15, hr15, h⟩ := ob h
                refine m_contI hC hw (m_runV hC hw (x := (some m0)) (ci := 15) (N := 51) (C := RX12) (T := TX12) (n := 2) (av := [.int x5, .int x2]) (rest := [.int x4]) (c_X12_valueOn (G := G) (l := l) hMo hr15) gX12_costOf_X12_valueOn rfl (by decide +kernel) ⟨(Nat.le_of_ble_eq_true rfl), (Nat.le_of_ble_eq_true rfl)⟩ (isO_Mm _ _ _) rfl rfl hl.1 rfl (Nat.le_of_ble_eq_true rfl) dX12_costOf_107 ⟨(Nat.le_of_ble_eq_true rfl), (Nat.le_of_ble_eq_true rfl)⟩) (fun H locs hw => ?_)
                refine lv_aload_n hx hb dX12_costOf_110 rfl (lv_at hl 2 rfl) ?_
                refine m_getV hC hw (ci := 15) (k := 18) (C := RX12) (T := TX12) (N := 51) (Mm_obj _ _ _) (v := .ref (m0 + 12)) rfl ki_X12_costOf_X12 rfl (by decide) k_X12_costOf_183 (fun _ z => z) dX12_costOf_111 ?_
                refine lv_aload_n hx hb dX12_costOf_114 rfl (lv_at hl 2 rfl) ?_
                refine m_getV hC hw (ci := 15) (k := 25) (C := RX12) (T := TX12) (N := 51) (Mm_obj _ _ _) (v := .ref (m0 + 17)) rfl ki_X12_costOf_X12 rfl (by decide) k_X12_costOf_55 (fun _ z => z) dX12_costOf_115 ?_
                refine lv_iload_n hx hb dX12_costOf_118 rfl (lv_at hl 3 rfl) ?_
                obtain ⟨g16, h⟩ := itg h
                refine m_iald (x := some (m0 + 17)) hC hw (Mm_aI (j := 16) rfl g16) dX12_costOf_119 ?_
                obtain ⟨g17, h⟩ := itg h
                refine m_iald (x := some (m0 + 12)) hC hw (Mm_aI (j := 11) rfl g17) dX12_costOf_120 ?_
                refine lv_imul hx hb dX12_costOf_121 ?_
                refine lv_iload hx hb dX12_costOf_122 (lv_at hl 0 rfl) ?_
                refine lv_imul hx hb dX12_costOf_124 ?_
                refine lv_bipush (v := (10 : Int32)) hx hb dX12_costOf_125 (by decide) ?_
                refine lv_aload_n hx hb dX12_costOf_127 rfl (lv_at hl 2 rfl) ?_
                refine lv_iload hx hb dX12_costOf_128 (lv_at hl 7 rfl) ?_
                refine lv_iload_n hx hb dX12_costOf_130 rfl (lv_at hl 4 rfl) ?_
                obtain ⟨r18, hr18, h⟩ := ob h
                refine m_contI hC hw (m_runV hC hw (x := (some m0)) (ci := 15) (N := 51) (C := RX12) (T := TX12) (n := 2) (av := [.int x5, .int x2]) (rest := [.int (10 : Int32), .int ((r15 * (u.2 18 ((u.2 25 (x1 : Int32).toNatClampNeg) : Int32).toNatClampNeg)) * (2 : Int32)), .int x4]) (c_X12_harmsOn (G := G) (l := l) hMo hr18) gX12_costOf_X12_harmsOn rfl (by decide +kernel) ⟨(Nat.le_of_ble_eq_true rfl), (Nat.le_of_ble_eq_true rfl)⟩ (isO_Mm _ _ _) rfl rfl hl.1 rfl (Nat.le_of_ble_eq_true rfl) dX12_costOf_131 ⟨(Nat.le_of_ble_eq_true rfl), (Nat.le_of_ble_eq_true rfl)⟩) (fun H locs hw => ?_)
                refine lv_iadd hx hb dX12_costOf_134 ?_
                refine lv_imul hx hb dX12_costOf_135 ?_
                refine lv_iadd hx hb dX12_costOf_136 ?_
                refine lv_istore (lv' := [(4, .int (x4 + (((r15 * (u.2 18 ((u.2 25 (x1 : Int32).toNatClampNeg) : Int32).toNatClampNeg)) * (2 : Int32)) * ((10 : Int32) + r18)))), (7, .int (2 : Int32)), (6, .int ((x1 * (16 : Int32)) + (u.2 30 (((x1 * (16 : Int32)) + x5) : Int32).toNatClampNeg))), (0, .ref m0), (1, .int x1), (2, .int x2), (3, .int x3), (5, .int x5)]) hx hb dX12_costOf_137 hl (by decide) rfl (fun ls hl => ?_)
                refine lv_iinc (v := (x5 + (1 : Int32))) (lv' := [(5, .int (x5 + (1 : Int32))), (4, .int (x4 + (((r15 * (u.2 18 ((u.2 25 (x1 : Int32).toNatClampNeg) : Int32).toNatClampNeg)) * (2 : Int32)) * ((10 : Int32) + r18)))), (7, .int (2 : Int32)), (6, .int ((x1 * (16 : Int32)) + (u.2 30 (((x1 * (16 : Int32)) + x5) : Int32).toNatClampNeg))), (0, .ref m0), (1, .int x1), (2, .int x2), (3, .int x3)]) hx hb dX12_costOf_139 hl (k := 7) rfl rfl (by decide) rfl (fun ls hl => ?_)
                refine lv_goto (tgt := 19) hx hb dX12_costOf_142 (by decide) ?_
                exact ih _ _ _ _ _ h hw (lv_sub hl [4, 5, 6, 7, 1, 0] rfl)
            · replace h := itt h c8
              refine lv_aload_n hx hb dX12_costOf_74 rfl (lv_at hl 1 rfl) ?_
              refine m_getV hC hw (ci := 15) (k := 31) (C := RX12) (T := TX12) (N := 51) (Mm_obj _ _ _) (v := .ref (m0 + 23)) rfl ki_X12_costOf_X12 rfl (by decide) k_X12_costOf_91 (fun _ z => z) dX12_costOf_75 ?_
              refine lv_iload hx hb dX12_costOf_78 (lv_at hl 0 rfl) ?_
              obtain ⟨g19, h⟩ := itg h
              refine m_iald (x := some (m0 + 23)) hC hw (Mm_aI (j := 22) rfl g19) dX12_costOf_80 ?_
              refine lv_goto (tgt := 91) hx hb dX12_costOf_81 (by decide) ?_
              refine lv_if_lt (tgt := 98) hx hb dX12_costOf_91 (by decide) (fun c20 => ?_) (fun c20 => ?_)
              · replace h := itt h c20
                refine lv_iconst (v := (3 : Int32)) hx hb dX12_costOf_98 (by decide) ?_
                refine lv_istore (lv' := [(7, .int (3 : Int32)), (6, .int ((x1 * (16 : Int32)) + (u.2 30 (((x1 * (16 : Int32)) + x5) : Int32).toNatClampNeg))), (0, .ref m0), (1, .int x1), (2, .int x2), (3, .int x3), (4, .int x4), (5, .int x5)]) hx hb dX12_costOf_99 hl (by decide) rfl (fun ls hl => ?_)
                refine lv_iload hx hb dX12_costOf_101 (lv_at hl 6 rfl) ?_
                refine lv_aload_n hx hb dX12_costOf_103 rfl (lv_at hl 2 rfl) ?_
                refine lv_iload hx hb dX12_costOf_104 (lv_at hl 7 rfl) ?_
                refine lv_iload_n hx hb dX12_costOf_106 rfl (lv_at hl 4 rfl) ?_
                obtain ⟨r21, hr21, h⟩ := ob h
                refine m_contI hC hw (m_runV hC hw (x := (some m0)) (ci := 15) (N := 51) (C := RX12) (T := TX12) (n := 2) (av := [.int x5, .int x2]) (rest := [.int x4]) (c_X12_valueOn (G := G) (l := l) hMo hr21) gX12_costOf_X12_valueOn rfl (by decide +kernel) ⟨(Nat.le_of_ble_eq_true rfl), (Nat.le_of_ble_eq_true rfl)⟩ (isO_Mm _ _ _) rfl rfl hl.1 rfl (Nat.le_of_ble_eq_true rfl) dX12_costOf_107 ⟨(Nat.le_of_ble_eq_true rfl), (Nat.le_of_ble_eq_true rfl)⟩) (fun H locs hw => ?_)
                refine lv_aload_n hx hb dX12_costOf_110 rfl (lv_at hl 2 rfl) ?_
                refine m_getV hC hw (ci := 15) (k := 18) (C := RX12) (T := TX12) (N := 51) (Mm_obj _ _ _) (v := .ref (m0 + 12)) rfl ki_X12_costOf_X12 rfl (by decide) k_X12_costOf_183 (fun _ z => z) dX12_costOf_111 ?_
                refine lv_aload_n hx hb dX12_costOf_114 rfl (lv_at hl 2 rfl) ?_
                refine m_getV hC hw (ci := 15) (k := 25) (C := RX12) (T := TX12) (N := 51) (Mm_obj _ _ _) (v := .ref (m0 + 17)) rfl ki_X12_costOf_X12 rfl (by decide) k_X12_costOf_55 (fun _ z => z) dX12_costOf_115 ?_
                refine lv_iload_n hx hb dX12_costOf_118 rfl (lv_at hl 3 rfl) ?_
                obtain ⟨g22, h⟩ := itg h
                refine m_iald (x := some (m0 + 17)) hC hw (Mm_aI (j := 16) rfl g22) dX12_costOf_119 ?_
                obtain ⟨g23, h⟩ := itg h
                refine m_iald (x := some (m0 + 12)) hC hw (Mm_aI (j := 11) rfl g23) dX12_costOf_120 ?_
                refine lv_imul hx hb dX12_costOf_121 ?_
                refine lv_iload hx hb dX12_costOf_122 (lv_at hl 0 rfl) ?_
                refine lv_imul hx hb dX12_costOf_124 ?_
                refine lv_bipush (v := (10 : Int32)) hx hb dX12_costOf_125 (by decide) ?_
                refine lv_aload_n hx hb dX12_costOf_127 rfl (lv_at hl 2 rfl) ?_
                refine lv_iload hx hb dX12_costOf_128 (lv_at hl 7 rfl) ?_
                refine lv_iload_n hx hb dX12_costOf_130 rfl (lv_at hl 4 rfl) ?_
                obtain ⟨r24, hr24, h⟩ := ob h
                refine m_contI hC hw (m_runV hC hw (x := (some m0)) (ci := 15) (N := 51) (C := RX12) (T := TX12) (n := 2) (av := [.int x5, .int x2]) (rest := [.int (10 : Int32), .int ((r21 * (u.2 18 ((u.2 25 (x1 : Int32).toNatClampNeg) : Int32).toNatClampNeg)) * (3 : Int32)), .int x4]) (c_X12_harmsOn (G := G) (l := l) hMo hr24) gX12_costOf_X12_harmsOn rfl (by decide +kernel) ⟨(Nat.le_of_ble_eq_true rfl), (Nat.le_of_ble_eq_true rfl)⟩ (isO_Mm _ _ _) rfl rfl hl.1 rfl (Nat.le_of_ble_eq_true rfl) dX12_costOf_131 ⟨(Nat.le_of_ble_eq_true rfl), (Nat.le_of_ble_eq_true rfl)⟩) (fun H locs hw => ?_)
                refine lv_iadd hx hb dX12_costOf_134 ?_
                refine lv_imul hx hb dX12_costOf_135 ?_
                refine lv_iadd hx hb dX12_costOf_136 ?_
                refine lv_istore (lv' := [(4, .int (x4 + (((r21 * (u.2 18 ((u.2 25 (x1 : Int32).toNatClampNeg) : Int32).toNatClampNeg)) * (3 : Int32)) * ((10 : Int32) + r24)))), (7, .int (3 : Int32)), (6, .int ((x1 * (16 : Int32)) + (u.2 30 (((x1 * (16 : Int32)) + x5) : Int32).toNatClampNeg))), (0, .ref m0), (1, .int x1), (2, .int x2), (3, .int x3), (5, .int x5)]) hx hb dX12_costOf_137 hl (by decide) rfl (fun ls hl => ?_)
                refine lv_iinc (v := (x5 + (1 : Int32))) (lv' := [(5, .int (x5 + (1 : Int32))), (4, .int (x4 + (((r21 * (u.2 18 ((u.2 25 (x1 : Int32).toNatClampNeg) : Int32).toNatClampNeg)) * (3 : Int32)) * ((10 : Int32) + r24)))), (7, .int (3 : Int32)), (6, .int ((x1 * (16 : Int32)) + (u.2 30 (((x1 * (16 : Int32)) + x5) : Int32).toNatClampNeg))), (0, .ref m0), (1, .int x1), (2, .int x2), (3, .int x3)]) hx hb dX12_costOf_139 hl (k := 7) rfl rfl (by decide) rfl (fun ls hl => ?_)
                refine lv_goto (tgt := 19) hx hb dX12_costOf_142 (by decide) ?_
                exact ih _ _ _ _ _ h hw (lv_sub hl [4, 5, 6, 7, 1, 0] rfl)
              · replace h := itf h c20
                refine lv_iconst (v := (2 : Int32)) hx hb dX12_costOf_94 (by decide) ?_
                refine lv_goto (tgt := 99) hx hb dX12_costOf_95 (by decide) ?_
                refine lv_istore (lv' := [(7, .int (2 : Int32)), (6, .int ((x1 * (16 : Int32)) + (u.2 30 (((x1 * (16 : Int32)) + x5) : Int32).toNatClampNeg))), (0, .ref m0), (1, .int x1), (2, .int x2), (3, .int x3), (4, .int x4), (5, .int x5)]) hx hb dX12_costOf_99 hl (by decide) rfl (fun ls hl => ?_)
                refine lv_iload hx hb dX12_costOf_101 (lv_at hl 6 rfl) ?_
                refine lv_aload_n hx hb dX12_costOf_103 rfl (lv_at hl 2 rfl) ?_
                refine lv_iload hx hb dX12_costOf_104 (lv_at hl 7 rfl) ?_
                refine lv_iload_n hx hb dX12_costOf_106 rfl (lv_at hl 4 rfl) ?_
                obtain ⟨r25, hr25, h⟩ := ob h
                refine m_contI hC hw (m_runV hC hw (x := (some m0)) (ci := 15) (N := 51) (C := RX12) (T := TX12) (n := 2) (av := [.int x5, .int x2]) (rest := [.int x4]) (c_X12_valueOn (G := G) (l := l) hMo hr25) gX12_costOf_X12_valueOn rfl (by decide +kernel) ⟨(Nat.le_of_ble_eq_true rfl), (Nat.le_of_ble_eq_true rfl)⟩ (isO_Mm _ _ _) rfl rfl hl.1 rfl (Nat.le_of_ble_eq_true rfl) dX12_costOf_107 ⟨(Nat.le_of_ble_eq_true rfl), (Nat.le_of_ble_eq_true rfl)⟩) (fun H locs hw => ?_)
                refine lv_aload_n hx hb dX12_costOf_110 rfl (lv_at hl 2 rfl) ?_
                refine m_getV hC hw (ci := 15) (k := 18) (C := RX12) (T := TX12) (N := 51) (Mm_obj _ _ _) (v := .ref (m0 + 12)) rfl ki_X12_costOf_X12 rfl (by decide) k_X12_costOf_183 (fun _ z => z) dX12_costOf_111 ?_
                refine lv_aload_n hx hb dX12_costOf_114 rfl (lv_at hl 2 rfl) ?_
                refine m_getV hC hw (ci := 15) (k := 25) (C := RX12) (T := TX12) (N := 51) (Mm_obj _ _ _) (v := .ref (m0 + 17)) rfl ki_X12_costOf_X12 rfl (by decide) k_X12_costOf_55 (fun _ z => z) dX12_costOf_115 ?_
                refine lv_iload_n hx hb dX12_costOf_118 rfl (lv_at hl 3 rfl) ?_
                obtain ⟨g26, h⟩ := itg h
                refine m_iald (x := some (m0 + 17)) hC hw (Mm_aI (j := 16) rfl g26) dX12_costOf_119 ?_
                obtain ⟨g27, h⟩ := itg h
                refine m_iald (x := some (m0 + 12)) hC hw (Mm_aI (j := 11) rfl g27) dX12_costOf_120 ?_
                refine lv_imul hx hb dX12_costOf_121 ?_
                refine lv_iload hx hb dX12_costOf_122 (lv_at hl 0 rfl) ?_
                refine lv_imul hx hb dX12_costOf_124 ?_
                refine lv_bipush (v := (10 : Int32)) hx hb dX12_costOf_125 (by decide) ?_
                refine lv_aload_n hx hb dX12_costOf_127 rfl (lv_at hl 2 rfl) ?_
                refine lv_iload hx hb dX12_costOf_128 (lv_at hl 7 rfl) ?_
                refine lv_iload_n hx hb dX12_costOf_130 rfl (lv_at hl 4 rfl) ?_
                obtain ⟨r28, hr28, h⟩ := ob h
                refine m_contI hC hw (m_runV hC hw (x := (some m0)) (ci := 15) (N := 51) (C := RX12) (T := TX12) (n := 2) (av := [.int x5, .int x2]) (rest := [.int (10 : Int32), .int ((r25 * (u.2 18 ((u.2 25 (x1 : Int32).toNatClampNeg) : Int32).toNatClampNeg)) * (2 : Int32)), .int x4]) (c_X12_harmsOn (G := G) (l := l) hMo hr28) gX12_costOf_X12_harmsOn rfl (by decide +kernel) ⟨(Nat.le_of_ble_eq_true rfl), (Nat.le_of_ble_eq_true rfl)⟩ (isO_Mm _ _ _) rfl rfl hl.1 rfl (Nat.le_of_ble_eq_true rfl) dX12_costOf_131 ⟨(Nat.le_of_ble_eq_true rfl), (Nat.le_of_ble_eq_true rfl)⟩) (fun H locs hw => ?_)
                refine lv_iadd hx hb dX12_costOf_134 ?_
                refine lv_imul hx hb dX12_costOf_135 ?_
                refine lv_iadd hx hb dX12_costOf_136 ?_
                refine lv_istore (lv' := [(4, .int (x4 + (((r25 * (u.2 18 ((u.2 25 (x1 : Int32).toNatClampNeg) : Int32).toNatClampNeg)) * (2 : Int32)) * ((10 : Int32) + r28)))), (7, .int (2 : Int32)), (6, .int ((x1 * (16 : Int32)) + (u.2 30 (((x1 * (16 : Int32)) + x5) : Int32).toNatClampNeg))), (0, .ref m0), (1, .int x1), (2, .int x2), (3, .int x3), (5, .int x5)]) hx hb dX12_costOf_137 hl (by decide) rfl (fun ls hl => ?_)
                refine lv_iinc (v := (x5 + (1 : Int32))) (lv' := [(5, .int (x5 + (1 : Int32))), (4, .int (x4 + (((r25 * (u.2 18 ((u.2 25 (x1 : Int32).toNatClampNeg) : Int32).toNatClampNeg)) * (2 : Int32)) * ((10 : Int32) + r28)))), (7, .int (2 : Int32)), (6, .int ((x1 * (16 : Int32)) + (u.2 30 (((x1 * (16 : Int32)) + x5) : Int32).toNatClampNeg))), (0, .ref m0), (1, .int x1), (2, .int x2), (3, .int x3)]) hx hb dX12_costOf_139 hl (k := 7) rfl rfl (by decide) rfl (fun ls hl => ?_)
                refine lv_goto (tgt := 19) hx hb dX12_costOf_142 (by decide) ?_
                exact ih _ _ _ _ _ h hw (lv_sub hl [4, 5, 6, 7, 1, 0] rfl)
          · replace h := itt h c7
            refine lv_iconst (v := (1 : Int32)) hx hb dX12_costOf_65 (by decide) ?_
            refine lv_goto (tgt := 99) hx hb dX12_costOf_66 (by decide) ?_
            refine lv_istore (lv' := [(7, .int (1 : Int32)), (6, .int ((x1 * (16 : Int32)) + (u.2 30 (((x1 * (16 : Int32)) + x5) : Int32).toNatClampNeg))), (0, .ref m0), (1, .int x1), (2, .int x2), (3, .int x3), (4, .int x4), (5, .int x5)]) hx hb dX12_costOf_99 hl (by decide) rfl (fun ls hl => ?_)
            refine lv_iload hx hb dX12_costOf_101 (lv_at hl 6 rfl) ?_
            refine lv_aload_n hx hb dX12_costOf_103 rfl (lv_at hl 2 rfl) ?_
            refine lv_iload hx hb dX12_costOf_104 (lv_at hl 7 rfl) ?_
            refine lv_iload_n hx hb dX12_costOf_106 rfl (lv_at hl 4 rfl) ?_
            obtain ⟨r29, hr29, h⟩ := ob h
            refine m_contI hC hw (m_runV hC hw (x := (some m0)) (ci := 15) (N := 51) (C := RX12) (T := TX12) (n := 2) (av := [.int x5, .int x2]) (rest := [.int x4]) (c_X12_valueOn (G := G) (l := l) hMo hr29) gX12_costOf_X12_valueOn rfl (by decide +kernel) ⟨(Nat.le_of_ble_eq_true rfl), (Nat.le_of_ble_eq_true rfl)⟩ (isO_Mm _ _ _) rfl rfl hl.1 rfl (Nat.le_of_ble_eq_true rfl) dX12_costOf_107 ⟨(Nat.le_of_ble_eq_true rfl), (Nat.le_of_ble_eq_true rfl)⟩) (fun H locs hw => ?_)
            refine lv_aload_n hx hb dX12_costOf_110 rfl (lv_at hl 2 rfl) ?_
            refine m_getV hC hw (ci := 15) (k := 18) (C := RX12) (T := TX12) (N := 51) (Mm_obj _ _ _) (v := .ref (m0 + 12)) rfl ki_X12_costOf_X12 rfl (by decide) k_X12_costOf_183 (fun _ z => z) dX12_costOf_111 ?_
            refine lv_aload_n hx hb dX12_costOf_114 rfl (lv_at hl 2 rfl) ?_
            refine m_getV hC hw (ci := 15) (k := 25) (C := RX12) (T := TX12) (N := 51) (Mm_obj _ _ _) (v := .ref (m0 + 17)) rfl ki_X12_costOf_X12 rfl (by decide) k_X12_costOf_55 (fun _ z => z) dX12_costOf_115 ?_
            refine lv_iload_n hx hb dX12_costOf_118 rfl (lv_at hl 3 rfl) ?_
            obtain ⟨g30, h⟩ := itg h
            refine m_iald (x := some (m0 + 17)) hC hw (Mm_aI (j := 16) rfl g30) dX12_costOf_119 ?_
            obtain ⟨g31, h⟩ := itg h
            refine m_iald (x := some (m0 + 12)) hC hw (Mm_aI (j := 11) rfl g31) dX12_costOf_120 ?_
            refine lv_imul hx hb dX12_costOf_121 ?_
            refine lv_iload hx hb dX12_costOf_122 (lv_at hl 0 rfl) ?_
            refine lv_imul hx hb dX12_costOf_124 ?_
            refine lv_bipush (v := (10 : Int32)) hx hb dX12_costOf_125 (by decide) ?_
            refine lv_aload_n hx hb dX12_costOf_127 rfl (lv_at hl 2 rfl) ?_
            refine lv_iload hx hb dX12_costOf_128 (lv_at hl 7 rfl) ?_
            refine lv_iload_n hx hb dX12_costOf_130 rfl (lv_at hl 4 rfl) ?_
            obtain ⟨r32, hr32, h⟩ := ob h
            refine m_contI hC hw (m_runV hC hw (x := (some m0)) (ci := 15) (N := 51) (C := RX12) (T := TX12) (n := 2) (av := [.int x5, .int x2]) (rest := [.int (10 : Int32), .int ((r29 * (u.2 18 ((u.2 25 (x1 : Int32).toNatClampNeg) : Int32).toNatClampNeg)) * (1 : Int32)), .int x4]) (c_X12_harmsOn (G := G) (l := l) hMo hr32) gX12_costOf_X12_harmsOn rfl (by decide +kernel) ⟨(Nat.le_of_ble_eq_true rfl), (Nat.le_of_ble_eq_true rfl)⟩ (isO_Mm _ _ _) rfl rfl hl.1 rfl (Nat.le_of_ble_eq_true rfl) dX12_costOf_131 ⟨(Nat.le_of_ble_eq_true rfl), (Nat.le_of_ble_eq_true rfl)⟩) (fun H locs hw => ?_)
            refine lv_iadd hx hb dX12_costOf_134 ?_
            refine lv_imul hx hb dX12_costOf_135 ?_
            refine lv_iadd hx hb dX12_costOf_136 ?_
            refine lv_istore (lv' := [(4, .int (x4 + (((r29 * (u.2 18 ((u.2 25 (x1 : Int32).toNatClampNeg) : Int32).toNatClampNeg)) * (1 : Int32)) * ((10 : Int32) + r32)))), (7, .int (1 : Int32)), (6, .int ((x1 * (16 : Int32)) + (u.2 30 (((x1 * (16 : Int32)) + x5) : Int32).toNatClampNeg))), (0, .ref m0), (1, .int x1), (2, .int x2), (3, .int x3), (5, .int x5)]) hx hb dX12_costOf_137 hl (by decide) rfl (fun ls hl => ?_)
            refine lv_iinc (v := (x5 + (1 : Int32))) (lv' := [(5, .int (x5 + (1 : Int32))), (4, .int (x4 + (((r29 * (u.2 18 ((u.2 25 (x1 : Int32).toNatClampNeg) : Int32).toNatClampNeg)) * (1 : Int32)) * ((10 : Int32) + r32)))), (7, .int (1 : Int32)), (6, .int ((x1 * (16 : Int32)) + (u.2 30 (((x1 * (16 : Int32)) + x5) : Int32).toNatClampNeg))), (0, .ref m0), (1, .int x1), (2, .int x2), (3, .int x3)]) hx hb dX12_costOf_139 hl (k := 7) rfl rfl (by decide) rfl (fun ls hl => ?_)
            refine lv_goto (tgt := 19) hx hb dX12_costOf_142 (by decide) ?_
            exact ih _ _ _ _ _ h hw (lv_sub hl [4, 5, 6, 7, 1, 0] rfl)
        · replace h := itt h c5
          refine lv_goto (tgt := 139) hx hb dX12_costOf_38 (by decide) ?_
          refine lv_iinc (v := (x5 + (1 : Int32))) (lv' := [(5, .int (x5 + (1 : Int32))), (0, .ref m0), (1, .int x1), (2, .int x2), (3, .int x3), (4, .int x4)]) hx hb dX12_costOf_139 hl (k := 5) rfl rfl (by decide) rfl (fun ls hl => ?_)
          refine lv_goto (tgt := 19) hx hb dX12_costOf_142 (by decide) ?_
          exact ih _ _ _ _ _ h hw (lv_sub hl [1, 2, 3, 4, 5, 0] rfl)
  unfold f_X12_costOf at h
  refine lv_aload_n hx hb dX12_costOf_0 rfl (lv_at hl 0 rfl) ?_
  refine lv_iload_n hx hb dX12_costOf_1 rfl (lv_at hl 1 rfl) ?_
  refine lv_iload_n hx hb dX12_costOf_2 rfl (lv_at hl 2 rfl) ?_
  obtain ⟨r1, hr1, h⟩ := ob h
  refine m_contI hC hw (m_runV hC hw (x := (some m0)) (ci := 15) (N := 51) (C := RX12) (T := TX12) (n := 2) (av := [.int a1, .int a2]) (rest := []) (c_X12_stageOf (G := G) (l := l) hMo hr1) gX12_costOf_X12_stageOf rfl (by decide +kernel) ⟨(Nat.le_of_ble_eq_true rfl), (Nat.le_of_ble_eq_true rfl)⟩ (isO_Mm _ _ _) rfl rfl hl.1 rfl (Nat.le_of_ble_eq_true rfl) dX12_costOf_3 ⟨(Nat.le_of_ble_eq_true rfl), (Nat.le_of_ble_eq_true rfl)⟩) (fun H locs hw => ?_)
  refine lv_istore_n (lv' := [(3, .int r1), (0, .ref m0), (1, .int a1), (2, .int a2)]) hx hb dX12_costOf_6 rfl hl (by decide) rfl (fun ls hl => ?_)
  refine lv_iload_n hx hb dX12_costOf_7 rfl (lv_at hl 0 rfl) ?_
  refine lv_if_ne (tgt := 13) hx hb dX12_costOf_8 (by decide) (fun c2 => ?_) (fun c2 => ?_)
  · replace h := itf h c2
    refine lv_iconst (v := (0 : Int32)) hx hb dX12_costOf_13 (by decide) ?_
    refine lv_istore (lv' := [(4, .int (0 : Int32)), (3, .int r1), (0, .ref m0), (1, .int a1), (2, .int a2)]) hx hb dX12_costOf_14 hl (by decide) rfl (fun ls hl => ?_)
    refine lv_iconst (v := (0 : Int32)) hx hb dX12_costOf_16 (by decide) ?_
    refine lv_istore (lv' := [(5, .int (0 : Int32)), (4, .int (0 : Int32)), (3, .int r1), (0, .ref m0), (1, .int a1), (2, .int a2)]) hx hb dX12_costOf_17 hl (by decide) rfl (fun ls hl => ?_)
    exact L19 a1 a2 r1 _ _ _ _ _ _ h hw (lv_sub hl [3, 4, 5, 2, 1, 0] rfl)
  · replace h := itt h c2
    refine lv_iconst (v := (0 : Int32)) hx hb dX12_costOf_11 (by decide) ?_
    cases h
    exact RET hw ⟨(Nat.le_of_ble_eq_true rfl), (Nat.le_of_ble_eq_true rfl)⟩ dX12_costOf_12

def f_X11_refusalOfText (B : Nat) (M : Mem) (this : Option Nat) (a1 : Int32) (a2 : Int32) (a3 : Int32) : Option (Int32 × Mem) := (pF B M this 14 9 (.int a2)).bind fun M1 => if a1 = 0 then (some ((2 : Int32), M1)) else (if a2 = 0 then (if a3 = 0 then (some ((9 : Int32), M1)) else (some ((0 : Int32), M1))) else (some ((4 : Int32), M1)))
def rmX11_refusalOfText : Room := { frames := 0, cells := 0, slots := 0, locals := 0 }
theorem k_X11_refusalOfText_49 : Cond.fieldLink RX11 49 "LoanBook" "lastFault" "I" ∈ wsX11_refusalOfText := List.mem_of_getElem? (i := 1) rfl
theorem ki_X11_refusalOfText_X11 : ∀ w ∈ u_ws RX11 TX11 11, w ∈ wsX11_refusalOfText := sub_r [2, 3, 4, 5, 6, 7, 8, 9, 10, 11, 12] (by decide +kernel)
set_option maxHeartbeats 4000000 in
set_option maxRecDepth 100000 in
theorem c_X11_refusalOfText {G : wG} {l : Launch} {M : Mem} {sz : Nat} {this : Option Nat} {a1 : Int32} {a2 : Int32} {a3 : Int32} {r : Int32 × Mem} (h : f_X11_refusalOfText G.2.2.1 M this a1 a2 a3 = some r) : CtrI G l yX11_refusalOfText wsX11_refusalOfText rmX11_refusalOfText [va_rf this, .int a1, .int a2, .int a3] M sz r.1 r.2 sz := by
  refine m_startI (own := RX11) (cc := cX11_refusalOfText) (maxL := 4) (lv0 := [(0, va_rf this), (1, .int a1), (2, .int a2), (3, .int a3)]) (by decide) rfl rfl (by simp [lg_sl, va_rf_cat, cat_i, cat_r]) (by simp [lv_args, va_rf_cat, cat_i, cat_r]) ?_
  intro p e s m args below meth c Q hC hname RET hsz hw ls hl
  have hx := hC.1
  have hb := hC.2.1
  unfold f_X11_refusalOfText at h
  refine m_aload_n (x := this) hx hb dX11_refusalOfText_0 rfl (lv_at hl 0 rfl) ?_
  refine lv_iload_n hx hb dX11_refusalOfText_1 rfl (lv_at hl 2 rfl) ?_
  obtain ⟨M1, hM1, h⟩ := ob h
  refine m_put hC hw (C := RX11) (T := TX11) (N := 11) (x := this) hM1 ki_X11_refusalOfText_X11 tyX11 tyX11_ok nmX11 rfl (by decide) k_X11_refusalOfText_49 (fun _ z => z) rfl rfl rfl dX11_refusalOfText_2 (fun H locs hw => ?_)
  refine lv_iload_n hx hb dX11_refusalOfText_5 rfl (lv_at hl 1 rfl) ?_
  refine lv_if_ne (tgt := 11) hx hb dX11_refusalOfText_6 (by decide) (fun c2 => ?_) (fun c2 => ?_)
  · replace h := itf h c2
    refine lv_iload_n hx hb dX11_refusalOfText_11 rfl (lv_at hl 2 rfl) ?_
    refine lv_if_eq (tgt := 17) hx hb dX11_refusalOfText_12 (by decide) (fun c3 => ?_) (fun c3 => ?_)
    · replace h := itt h c3
      refine lv_iload_n hx hb dX11_refusalOfText_17 rfl (lv_at hl 3 rfl) ?_
      refine lv_if_eq (tgt := 25) hx hb dX11_refusalOfText_18 (by decide) (fun c4 => ?_) (fun c4 => ?_)
      · replace h := itt h c4
        refine lv_bipush (v := (9 : Int32)) hx hb dX11_refusalOfText_25 (by decide) ?_
        cases h
        exact RET hw ⟨(Nat.le_of_ble_eq_true rfl), (Nat.le_of_ble_eq_true rfl)⟩ dX11_refusalOfText_27
      · replace h := itf h c4
        refine lv_iconst (v := (0 : Int32)) hx hb dX11_refusalOfText_21 (by decide) ?_
        refine lv_goto (tgt := 27) hx hb dX11_refusalOfText_22 (by decide) ?_
        cases h
        exact RET hw ⟨(Nat.le_of_ble_eq_true rfl), (Nat.le_of_ble_eq_true rfl)⟩ dX11_refusalOfText_27
    · replace h := itf h c3
      refine lv_iconst (v := (4 : Int32)) hx hb dX11_refusalOfText_15 (by decide) ?_
      cases h
      exact RET hw ⟨(Nat.le_of_ble_eq_true rfl), (Nat.le_of_ble_eq_true rfl)⟩ dX11_refusalOfText_16
  · replace h := itt h c2
    refine lv_iconst (v := (2 : Int32)) hx hb dX11_refusalOfText_9 (by decide) ?_
    cases h
    exact RET hw ⟨(Nat.le_of_ble_eq_true rfl), (Nat.le_of_ble_eq_true rfl)⟩ dX11_refusalOfText_10

def f_X11_gravity (M : Mem) (a1 : Int32) : Option (Int32) := if a1 = (0 : Int32) then (some (3 : Int32)) else (if a1 = (1 : Int32) then (some (2 : Int32)) else (if a1 = (2 : Int32) then (some (5 : Int32)) else (some (8 : Int32))))
def rmX11_gravity : Room := { frames := 0, cells := 0, slots := 0, locals := 0 }
set_option maxHeartbeats 4000000 in
set_option maxRecDepth 100000 in
theorem c_X11_gravity {G : wG} {l : Launch} {M : Mem} {sz : Nat} {a1 : Int32} {r : Int32} (h : f_X11_gravity M a1 = some r) : CtrI G l yX11_gravity wsX11_gravity rmX11_gravity [.int a1] M sz r M sz := by
  refine m_startI (own := RX11) (cc := cX11_gravity) (maxL := 1) (lv0 := [(0, .int a1)]) (by decide) rfl rfl (by simp [lg_sl, va_rf_cat, cat_i, cat_r]) (by simp [lv_args, va_rf_cat, cat_i, cat_r]) ?_
  intro p e s m args below meth c Q hC hname RET hsz hw ls hl
  have hx := hC.1
  have hb := hC.2.1
  unfold f_X11_gravity at h
  refine lv_iload_n hx hb dX11_gravity_0 rfl (lv_at hl 0 rfl) ?_
  by_cases c1 : a1 = (0 : Int32)
  · replace h := itt h c1
    refine lv_tableIn (tgt := 28) hx hb dX11_gravity_1 (by rw [c1]; decide) (by rw [c1]; decide) (by rw [c1]; rfl) (by decide) ?_
    refine lv_iconst (v := (3 : Int32)) hx hb dX11_gravity_28 (by decide) ?_
    cases h
    exact RET hw ⟨(Nat.le_of_ble_eq_true rfl), (Nat.le_of_ble_eq_true rfl)⟩ dX11_gravity_29
  replace h := itf h c1
  by_cases c2 : a1 = (1 : Int32)
  · replace h := itt h c2
    refine lv_tableIn (tgt := 30) hx hb dX11_gravity_1 (by rw [c2]; decide) (by rw [c2]; decide) (by rw [c2]; rfl) (by decide) ?_
    refine lv_iconst (v := (2 : Int32)) hx hb dX11_gravity_30 (by decide) ?_
    cases h
    exact RET hw ⟨(Nat.le_of_ble_eq_true rfl), (Nat.le_of_ble_eq_true rfl)⟩ dX11_gravity_31
  replace h := itf h c2
  by_cases c3 : a1 = (2 : Int32)
  · replace h := itt h c3
    refine lv_tableIn (tgt := 32) hx hb dX11_gravity_1 (by rw [c3]; decide) (by rw [c3]; decide) (by rw [c3]; rfl) (by decide) ?_
    refine lv_iconst (v := (5 : Int32)) hx hb dX11_gravity_32 (by decide) ?_
    cases h
    exact RET hw ⟨(Nat.le_of_ble_eq_true rfl), (Nat.le_of_ble_eq_true rfl)⟩ dX11_gravity_33
  replace h := itf h c3
  refine lv_tableOut (tgt := 34) hx hb dX11_gravity_1 (by have tc1 := lv_neT c1 (a := 0) rfl; have tc2 := lv_neT c2 (a := 1) rfl; have tc3 := lv_neT c3 (a := 2) rfl; omega) (by decide) ?_
  refine lv_bipush (v := (8 : Int32)) hx hb dX11_gravity_34 (by decide) ?_
  cases h
  exact RET hw ⟨(Nat.le_of_ble_eq_true rfl), (Nat.le_of_ble_eq_true rfl)⟩ dX11_gravity_36

def f_X11_spelling (S : Nat → Nat) (M : Mem) (a1 : Int32) : Option (Option Nat) := if a1 = (100 : Int32) then (some (some (S 0))) else (if a1 = (101 : Int32) then (some (some (S 1))) else (if a1 = (102 : Int32) then (some (some (S 2))) else (if a1 = (103 : Int32) then (some (some (S 3))) else (if a1 = (104 : Int32) then (some (some (S 4))) else (if a1 = (105 : Int32) then (some (some (S 5))) else (if a1 = (106 : Int32) then (some (some (S 6))) else (if a1 = (107 : Int32) then (some (some (S 7))) else (if a1 = (108 : Int32) then (some (some (S 8))) else (if a1 = (109 : Int32) then (some (some (S 9))) else (if a1 = (110 : Int32) then (some (some (S 10))) else (some (some (S 11)))))))))))))
def rmX11_spelling : Room := { frames := 0, cells := 0, slots := 0, locals := 0 }
set_option maxHeartbeats 4000000 in
set_option maxRecDepth 100000 in
theorem c_X11_spelling {G : wG} {l : Launch} {M : Mem} {sz : Nat} {a1 : Int32} {r : Option Nat} (h : f_X11_spelling G.2.2.2 M a1 = some r) : CtrQ G l yX11_spelling wsX11_spelling rmX11_spelling [.int a1] M sz r M sz := by
  refine m_startQ (own := RX11) (cc := cX11_spelling) (maxL := 1) (lv0 := [(0, .int a1)]) (by decide) rfl rfl (by simp [lg_sl, va_rf_cat, cat_i, cat_r]) (by simp [lv_args, va_rf_cat, cat_i, cat_r]) (Or.inl ⟨_, rfl⟩) ?_
  intro p e s m args below meth c Q hC hname RET hsz hw ls hl
  have hx := hC.1
  have hb := hC.2.1
  unfold f_X11_spelling at h
  refine lv_iload_n hx hb dX11_spelling_0 rfl (lv_at hl 0 rfl) ?_
  by_cases c1 : a1 = (100 : Int32)
  · replace h := itt h c1
    refine lv_tableIn (tgt := 60) hx hb dX11_spelling_1 (by rw [c1]; decide) (by rw [c1]; decide) (by rw [c1]; rfl) (by decide) ?_
    refine m_ldc_w (tx := "not") (i := 0) hC (by decide) dX11_spelling_60 ?_
    cases h
    exact RET hw ⟨(Nat.le_of_ble_eq_true rfl), (Nat.le_of_ble_eq_true rfl)⟩ dX11_spelling_63
  replace h := itf h c1
  by_cases c2 : a1 = (101 : Int32)
  · replace h := itt h c2
    refine lv_tableIn (tgt := 64) hx hb dX11_spelling_1 (by rw [c2]; decide) (by rw [c2]; decide) (by rw [c2]; rfl) (by decide) ?_
    refine m_ldc_w (tx := "sound") (i := 1) hC (by decide) dX11_spelling_64 ?_
    cases h
    exact RET hw ⟨(Nat.le_of_ble_eq_true rfl), (Nat.le_of_ble_eq_true rfl)⟩ dX11_spelling_67
  replace h := itf h c2
  by_cases c3 : a1 = (102 : Int32)
  · replace h := itt h c3
    refine lv_tableIn (tgt := 68) hx hb dX11_spelling_1 (by rw [c3]; decide) (by rw [c3]; decide) (by rw [c3]; rfl) (by decide) ?_
    refine m_ldc_w (tx := "sheet") (i := 2) hC (by decide) dX11_spelling_68 ?_
    cases h
    exact RET hw ⟨(Nat.le_of_ble_eq_true rfl), (Nat.le_of_ble_eq_true rfl)⟩ dX11_spelling_71
  replace h := itf h c3
  by_cases c4 : a1 = (103 : Int32)
  · replace h := itt h c4
    refine lv_tableIn (tgt := 72) hx hb dX11_spelling_1 (by rw [c4]; decide) (by rw [c4]; decide) (by rw [c4]; rfl) (by decide) ?_
    refine m_ldc_w (tx := "jar") (i := 3) hC (by decide) dX11_spelling_72 ?_
    cases h
    exact RET hw ⟨(Nat.le_of_ble_eq_true rfl), (Nat.le_of_ble_eq_true rfl)⟩ dX11_spelling_75
  replace h := itf h c4
  by_cases c5 : a1 = (104 : Int32)
  · replace h := itt h c5
    refine lv_tableIn (tgt := 76) hx hb dX11_spelling_1 (by rw [c5]; decide) (by rw [c5]; decide) (by rw [c5]; rfl) (by decide) ?_
    refine m_ldc_w (tx := "skin") (i := 4) hC (by decide) dX11_spelling_76 ?_
    cases h
    exact RET hw ⟨(Nat.le_of_ble_eq_true rfl), (Nat.le_of_ble_eq_true rfl)⟩ dX11_spelling_79
  replace h := itf h c5
  by_cases c6 : a1 = (105 : Int32)
  · replace h := itt h c6
    refine lv_tableIn (tgt := 80) hx hb dX11_spelling_1 (by rw [c6]; decide) (by rw [c6]; decide) (by rw [c6]; rfl) (by decide) ?_
    refine m_ldc_w (tx := "cast") (i := 5) hC (by decide) dX11_spelling_80 ?_
    cases h
    exact RET hw ⟨(Nat.le_of_ble_eq_true rfl), (Nat.le_of_ble_eq_true rfl)⟩ dX11_spelling_83
  replace h := itf h c6
  by_cases c7 : a1 = (106 : Int32)
  · replace h := itt h c7
    refine lv_tableIn (tgt := 84) hx hb dX11_spelling_1 (by rw [c7]; decide) (by rw [c7]; decide) (by rw [c7]; rfl) (by decide) ?_
    refine m_ldc_w (tx := "book") (i := 6) hC (by decide) dX11_spelling_84 ?_
    cases h
    exact RET hw ⟨(Nat.le_of_ble_eq_true rfl), (Nat.le_of_ble_eq_true rfl)⟩ dX11_spelling_87
  replace h := itf h c7
  by_cases c8 : a1 = (107 : Int32)
  · replace h := itt h c8
    refine lv_tableIn (tgt := 88) hx hb dX11_spelling_1 (by rw [c8]; decide) (by rw [c8]; decide) (by rw [c8]; rfl) (by decide) ?_
    refine m_ldc_w (tx := "tear") (i := 7) hC (by decide) dX11_spelling_88 ?_
    cases h
    exact RET hw ⟨(Nat.le_of_ble_eq_true rfl), (Nat.le_of_ble_eq_true rfl)⟩ dX11_spelling_91
  replace h := itf h c8
  by_cases c9 : a1 = (108 : Int32)
  · replace h := itt h c9
    refine lv_tableIn (tgt := 92) hx hb dX11_spelling_1 (by rw [c9]; decide) (by rw [c9]; decide) (by rw [c9]; rfl) (by decide) ?_
    refine m_ldc_w (tx := "stain") (i := 8) hC (by decide) dX11_spelling_92 ?_
    cases h
    exact RET hw ⟨(Nat.le_of_ble_eq_true rfl), (Nat.le_of_ble_eq_true rfl)⟩ dX11_spelling_95
  replace h := itf h c9
  by_cases c10 : a1 = (109 : Int32)
  · replace h := itt h c10
    refine lv_tableIn (tgt := 96) hx hb dX11_spelling_1 (by rw [c10]; decide) (by rw [c10]; decide) (by rw [c10]; rfl) (by decide) ?_
    refine m_ldc_w (tx := "crack") (i := 9) hC (by decide) dX11_spelling_96 ?_
    cases h
    exact RET hw ⟨(Nat.le_of_ble_eq_true rfl), (Nat.le_of_ble_eq_true rfl)⟩ dX11_spelling_99
  replace h := itf h c10
  by_cases c11 : a1 = (110 : Int32)
  · replace h := itt h c11
    refine lv_tableIn (tgt := 100) hx hb dX11_spelling_1 (by rw [c11]; decide) (by rw [c11]; decide) (by rw [c11]; rfl) (by decide) ?_
    refine m_ldc_w (tx := "loss") (i := 10) hC (by decide) dX11_spelling_100 ?_
    cases h
    exact RET hw ⟨(Nat.le_of_ble_eq_true rfl), (Nat.le_of_ble_eq_true rfl)⟩ dX11_spelling_103
  replace h := itf h c11
  refine lv_tableOut (tgt := 104) hx hb dX11_spelling_1 (by have tc1 := lv_neT c1 (a := 100) rfl; have tc2 := lv_neT c2 (a := 101) rfl; have tc3 := lv_neT c3 (a := 102) rfl; have tc4 := lv_neT c4 (a := 103) rfl; have tc5 := lv_neT c5 (a := 104) rfl; have tc6 := lv_neT c6 (a := 105) rfl; have tc7 := lv_neT c7 (a := 106) rfl; have tc8 := lv_neT c8 (a := 107) rfl; have tc9 := lv_neT c9 (a := 108) rfl; have tc10 := lv_neT c10 (a := 109) rfl; have tc11 := lv_neT c11 (a := 110) rfl; omega) (by decide) ?_
  refine m_ldc_w (tx := "") (i := 11) hC (by decide) dX11_spelling_104 ?_
  cases h
  exact RET hw ⟨(Nat.le_of_ble_eq_true rfl), (Nat.le_of_ble_eq_true rfl)⟩ dX11_spelling_107
