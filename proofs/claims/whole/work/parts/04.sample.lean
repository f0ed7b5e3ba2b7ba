def f_X11_isDay (M : Mem) (a1 : Int32) : Option (Int32) := if a1 < 0 then (some (0 : Int32)) else (if (1000 : Int32) ≤ a1 then (some (0 : Int32)) else (some (1 : Int32)))
def rmX11_isDay : Room := { frames := 0, cells := 0, slots := 0, locals := 0 }
set_option maxHeartbeats 4000000 in
set_option maxRecDepth 100000 in
theorem c_X11_isDay {G : wG} {l : Launch} {n : Nat} {M : Mem} {sz : Nat} {a1 : Int32} {r : Int32} (h : f_X11_isDay M a1 = some r) : CtrI G l yX11_isDay wsX11_isDay rmX11_isDay [.int a1] M sz r M sz := by
  refine m_startZ (own := RX11) (cc := cX11_isDay) (maxL := 1) (by decide) rfl rfl (Nat.le_of_ble_eq_true rfl) ?_
  intro p e s m args below meth c Q hC hname RET hsz hw ls hl
  have hx := hC.1
  have hb := hC.2.1
  replace hl : lv_has ls 1 [(0, .int a1)] := hl
  unfold f_X11_isDay at h
  refine lv_iload_n hx hb dX11_isDay_0 rfl (lv_at hl 0 rfl) ?_
  refine lv_if_lt (tgt := 15) hx hb dX11_isDay_1 (by decide) (fun c1 => ?_) (fun c1 => ?_)
  · replace h := itt h c1
    refine lv_iconst (v := (0 : Int32)) hx hb dX11_isDay_15 (by decide) ?_
    cases h
    exact RET (by decide) hw ⟨(Nat.le_of_ble_eq_true rfl), (Nat.le_of_ble_eq_true rfl)⟩ dX11_isDay_16
  · replace h := itf h c1
    refine lv_iload_n hx hb dX11_isDay_4 rfl (lv_at hl 0 rfl) ?_
    refine lv_sipush (v := (1000 : Int32)) hx hb dX11_isDay_5 (by decide) ?_
    refine lv_icmp_ge (tgt := 15) hx hb dX11_isDay_8 (by decide) (fun c2 => ?_) (fun c2 => ?_)
    · replace h := itt h c2
      refine lv_iconst (v := (0 : Int32)) hx hb dX11_isDay_15 (by decide) ?_
      cases h
      exact RET (by decide) hw ⟨(Nat.le_of_ble_eq_true rfl), (Nat.le_of_ble_eq_true rfl)⟩ dX11_isDay_16
    · replace h := itf h c2
      refine lv_iconst (v := (1 : Int32)) hx hb dX11_isDay_11 (by decide) ?_
      refine lv_goto (tgt := 16) hx hb dX11_isDay_12 (by decide) ?_
      cases h
      exact RET (by decide) hw ⟨(Nat.le_of_ble_eq_true rfl), (Nat.le_of_ble_eq_true rfl)⟩ dX11_isDay_16

def f_X1_isOpen_L18 (n : Nat) (M : Mem) (x0 : Option Nat) (x2 : Int32) : Nat → Int32 → Option (Int32)
  | 0, _ => none
  | k + 1, x3 => if x2 < x3 then (some ((1 : Int32))) else ((gR M x0 4 0).bind fun v6 => (aI M 0 v6 x3).bind fun v7 => if v7 = (-1 : Int32) then (f_X1_isOpen_L18 n M x0 x2 k (x3 + (1 : Int32))) else (some ((0 : Int32))))
def f_X1_isOpen (n : Nat) (M : Mem) (this : Option Nat) (a1 : Int32) (a2 : Int32) : Option (Int32) := (f_X11_isDay M a1).bind fun r1 => if r1 = 0 then (some (0 : Int32)) else ((f_X11_isDay M a2).bind fun r3 => if r3 = 0 then (some (0 : Int32)) else (f_X1_isOpen_L18 n M this a2 n a1))
def rmX1_isOpen : Room := { frames := 1, cells := 0, slots := 0, locals := 20 }
theorem k_X1_isOpen_stX11_isDay : Cond.static yX11_isDay ∈ wsX1_isOpen := List.mem_of_getElem? (i := 2) rfl
theorem k_X1_isOpen_inX11 : Cond.initialized RX11 ∈ wsX1_isOpen := List.mem_of_getElem? (i := 3) rfl
theorem k_X1_isOpen_9 : Cond.fieldLink RX1 9 "LoanBook$Calendar" "days" "[I" ∈ wsX1_isOpen := List.mem_of_getElem? (i := 1) rfl
theorem ki_X1_isOpen_X1 : ∀ w ∈ u_ws RX1 TX1 2, w ∈ wsX1_isOpen := sub_r _ [5, 6] (by decide +kernel)
set_option maxHeartbeats 4000000 in
set_option maxRecDepth 100000 in
theorem c_X1_isOpen {G : wG} {l : Launch} {n : Nat} {M : Mem} {sz : Nat} {this : Option Nat} {a1 : Int32} {a2 : Int32} {r : Int32} (h : f_X1_isOpen n M this a1 a2 = some r) : CtrI G l yX1_isOpen wsX1_isOpen rmX1_isOpen [va_rf this, .int a1, .int a2] M sz r M sz := by
  refine m_startZ (own := RX1) (cc := cX1_isOpen) (maxL := 4) (by decide) rfl rfl (Nat.le_of_ble_eq_true rfl) ?_
  intro p e s m args below meth c Q hC hname RET hsz hw ls hl
  have hx := hC.1
  have hb := hC.2.1
  replace hl : lv_has ls 4 [(0, va_rf this), (1, .int a1), (2, .int a2)] := hl
  have L18 : ∀ (x0 : Option Nat) (x2 : Int32) (k : Nat) (x3 : Int32) (H : Heap) (locs : List Loc) (ls : Array Slot), f_X1_isOpen_L18 n M x0 x2 k x3 = some r → wD G s M M sz H locs → lv_has ls 4 [(0, va_rf x0), (2, .int x2), (3, .int x3)] → W p l e rmX1_isOpen s m args below meth c H locs 0 0 Q (F0 m 18 ls []) := by
    intro x0 x2 k
    induction k with
    | zero =>
      intro x3 H locs ls h
      exact absurd (show (none : Option (Int32)) = some r from h) (fun z => by cases z)
    | succ k ih =>
      intro x3 H locs ls h hw hl
      rw [f_X1_isOpen_L18] at h
      refine lv_iload_n hx hb dX1_isOpen_18 rfl (lv_at hl 2 rfl) ?_
      refine lv_iload_n hx hb dX1_isOpen_19 rfl (lv_at hl 1 rfl) ?_
      refine lv_icmp_gt (tgt := 41) hx hb dX1_isOpen_20 (by decide) (fun c5 => ?_) (fun c5 => ?_)
      · replace h := itt h c5
        refine lv_iconst (v := (1 : Int32)) hx hb dX1_isOpen_41 (by decide) ?_
        cases h
        exact RET (by decide) hw ⟨(Nat.le_of_ble_eq_true rfl), (Nat.le_of_ble_eq_true rfl)⟩ dX1_isOpen_42
      · replace h := itf h c5
        refine m_aload_n (x := x0) hx hb dX1_isOpen_23 rfl (lv_at hl 0 rfl) ?_
        obtain ⟨v6, hv6, h⟩ := ob h
        refine m_getR hC hw (C := RX1) (T := TX1) (N := 2) hv6 ki_X1_isOpen_X1 rfl (by decide) k_X1_isOpen_9 (fun _ z => z) dX1_isOpen_24 ?_
        refine lv_iload_n hx hb dX1_isOpen_27 rfl (lv_at hl 2 rfl) ?_
        obtain ⟨v7, hv7, h⟩ := ob h
        refine m_iald (x := v6) hC hw hv7 dX1_isOpen_28 ?_
        refine lv_iconst (v := (-1 : Int32)) hx hb dX1_isOpen_29 (by decide) ?_
        refine lv_icmp_eq (tgt := 35) hx hb dX1_isOpen_30 (by decide) (fun c8 => ?_) (fun c8 => ?_)
        · replace h := itt h c8
          refine lv_iinc (v := (x3 + (1 : Int32))) (lv' := [(3, .int (x3 + (1 : Int32))), (0, va_rf x0), (2, .int x2)]) hx hb dX1_isOpen_35 hl (k := 2) rfl rfl (by decide) rfl (fun ls hl => ?_)
          refine lv_goto (tgt := 18) hx hb dX1_isOpen_38 (by decide) ?_
          exact ih _ _ _ _ h hw (lv_sub hl [1, 2, 0] rfl)
        · replace h := itf h c8
          refine lv_iconst (v := (0 : Int32)) hx hb dX1_isOpen_33 (by decide) ?_
          cases h
          exact RET (by decide) hw ⟨(Nat.le_of_ble_eq_true rfl), (Nat.le_of_ble_eq_true rfl)⟩ dX1_isOpen_34
  unfold f_X1_isOpen at h
  refine lv_iload_n hx hb dX1_isOpen_0 rfl (lv_at hl 1 rfl) ?_
  obtain ⟨r1, hr1, h⟩ := ob h
  refine m_contI hC hw (m_runSN hC hw (host := "LoanBook") (n := 1) (av := [.int a1]) (rest := []) (c_X11_isDay (G := G) (l := l) hr1) gX1_isOpen_X11_isDay_n28 (by decide +kernel) k_X1_isOpen_stX11_isDay k_X1_isOpen_inX11 rfl (by decide +kernel) ⟨(Nat.le_of_ble_eq_true rfl), (Nat.le_of_ble_eq_true rfl)⟩ rfl hl.1 rfl (Nat.le_of_ble_eq_true rfl) dX1_isOpen_1 ⟨(Nat.le_of_ble_eq_true rfl), (Nat.le_of_ble_eq_true rfl)⟩) (fun H locs hw => ?_)
  refine lv_if_eq (tgt := 14) hx hb dX1_isOpen_4 (by decide) (fun c2 => ?_) (fun c2 => ?_)
  · replace h := itt h c2
    refine lv_iconst (v := (0 : Int32)) hx hb dX1_isOpen_14 (by decide) ?_
    cases h
    exact RET (by decide) hw ⟨(Nat.le_of_ble_eq_true rfl), (Nat.le_of_ble_eq_true rfl)⟩ dX1_isOpen_15
  · replace h := itf h c2
    refine lv_iload_n hx hb dX1_isOpen_7 rfl (lv_at hl 2 rfl) ?_
    obtain ⟨r3, hr3, h⟩ := ob h
    refine m_contI hC hw (m_runSN hC hw (host := "LoanBook") (n := 1) (av := [.int a2]) (rest := []) (c_X11_isDay (G := G) (l := l) hr3) gX1_isOpen_X11_isDay_n28 (by decide +kernel) k_X1_isOpen_stX11_isDay k_X1_isOpen_inX11 rfl (by decide +kernel) ⟨(Nat.le_of_ble_eq_true rfl), (Nat.le_of_ble_eq_true rfl)⟩ rfl hl.1 rfl (Nat.le_of_ble_eq_true rfl) dX1_isOpen_8 ⟨(Nat.le_of_ble_eq_true rfl), (Nat.le_of_ble_eq_true rfl)⟩) (fun H locs hw => ?_)
    refine lv_if_ne (tgt := 16) hx hb dX1_isOpen_11 (by decide) (fun c4 => ?_) (fun c4 => ?_)
    · replace h := itf h c4
      refine lv_iload_n hx hb dX1_isOpen_16 rfl (lv_at hl 1 rfl) ?_
      refine lv_istore_n (lv' := [(3, .int a1), (0, va_rf this), (1, .int a1), (2, .int a2)]) hx hb dX1_isOpen_17 rfl hl (by decide) rfl (fun ls hl => ?_)
      exact L18 this a2 _ _ _ _ _ h hw (lv_sub hl [1, 3, 0] rfl)
    · replace h := itt h c4
      refine lv_iconst (v := (0 : Int32)) hx hb dX1_isOpen_14 (by decide) ?_
      cases h
      exact RET (by decide) hw ⟨(Nat.le_of_ble_eq_true rfl), (Nat.le_of_ble_eq_true rfl)⟩ dX1_isOpen_15

def f_X1_fill_L7 (B : Nat) (n : Nat) (x0 : Option Nat) (x2 : Int32) (x3 : Int32) : Nat → Mem → Int32 → Option (Mem)
  | 0, _, _ => none
  | k + 1, Mz, x4 => if x2 < x4 then (some (Mz)) else (if (1000 : Int32) ≤ x4 then (some (Mz)) else ((gR Mz x0 4 0).bind fun v3 => (sI B Mz 0 v3 x4 x3).bind fun M4 => f_X1_fill_L7 B n x0 x2 x3 k M4 (x4 + (1 : Int32))))
def f_X1_fill (B : Nat) (n : Nat) (M : Mem) (this : Option Nat) (a1 : Int32) (a2 : Int32) (a3 : Int32) : Option (Mem) := f_X1_fill_L7 B n this a2 a3 n M (if a1 < (0 : Int32) then (0 : Int32) else a1)
def rmX1_fill : Room := { frames := 1, cells := 0, slots := 0, locals := 21 }
theorem k_X1_fill_max32_0 : Cond.methodLink RX1 32 Lib.Math.max.name ∈ wsX1_fill := List.mem_of_getElem? (i := 1) rfl
theorem k_X1_fill_max32_1 : Cond.static Lib.Math.max.name ∈ wsX1_fill := List.mem_of_getElem? (i := 2) rfl
theorem k_X1_fill_max32_2 : Cond.initialized "java/lang/Math" ∈ wsX1_fill := List.mem_of_getElem? (i := 3) rfl
theorem k_X1_fill_max32_3 : Cond.code Lib.Math.max.name Lib.Math.max.code 2 (some .int) ∈ wsX1_fill := List.mem_of_getElem? (i := 4) rfl
theorem k_X1_fill_9 : Cond.fieldLink RX1 9 "LoanBook$Calendar" "days" "[I" ∈ wsX1_fill := List.mem_of_getElem? (i := 5) rfl
theorem ki_X1_fill_X1 : ∀ w ∈ u_ws RX1 TX1 2, w ∈ wsX1_fill := sub_r _ [6, 7] (by decide +kernel)
set_option maxHeartbeats 4000000 in
set_option maxRecDepth 100000 in
theorem c_X1_fill {G : wG} {l : Launch} {n : Nat} {M : Mem} {sz : Nat} {this : Option Nat} {a1 : Int32} {a2 : Int32} {a3 : Int32} {r : Mem} (h : f_X1_fill G.2.2.1 n M this a1 a2 a3 = some r) : CtrV G l yX1_fill wsX1_fill rmX1_fill [va_rf this, .int a1, .int a2, .int a3] M sz r sz := by
  refine m_startV (own := RX1) (cc := cX1_fill) (maxL := 5) (by decide) rfl rfl (Nat.le_of_ble_eq_true rfl) ?_
  intro p e s m args below meth c Q hC hname RET hsz hw ls hl
  have hx := hC.1
  have hb := hC.2.1
  replace hl : lv_has ls 5 [(0, va_rf this), (1, .int a1), (2, .int a2), (3, .int a3)] := hl
  have L7 : ∀ (x0 : Option Nat) (x2 : Int32) (x3 : Int32) (k : Nat) (Mz : Mem) (x4 : Int32) (H : Heap) (locs : List Loc) (ls : Array Slot), f_X1_fill_L7 G.2.2.1 n x0 x2 x3 k Mz x4 = some r → wD G s M Mz sz H locs → lv_has ls 5 [(0, va_rf x0), (2, .int x2), (3, .int x3), (4, .int x4)] → W p l e rmX1_fill s m args below meth c H locs 0 0 Q (F0 m 7 ls []) := by
    intro x0 x2 x3 k
    induction k with
    | zero =>
      intro Mz x4 H locs ls h
      exact absurd (show (none : Option (Mem)) = some r from h) (fun z => by cases z)
    | succ k ih =>
      intro Mz x4 H locs ls h hw hl
      rw [f_X1_fill_L7] at h
      refine lv_iload hx hb dX1_fill_7 (lv_at hl 3 rfl) ?_
      refine lv_iload_n hx hb dX1_fill_9 rfl (lv_at hl 1 rfl) ?_
      refine lv_icmp_gt (tgt := 35) hx hb dX1_fill_10 (by decide) (fun c1 => ?_) (fun c1 => ?_)
      · replace h := itt h c1
        cases h
        exact RET hw ⟨(Nat.le_of_ble_eq_true rfl), (Nat.le_of_ble_eq_true rfl)⟩ dX1_fill_35
      · replace h := itf h c1
        refine lv_iload hx hb dX1_fill_13 (lv_at hl 3 rfl) ?_
        refine lv_sipush (v := (1000 : Int32)) hx hb dX1_fill_15 (by decide) ?_
        refine lv_icmp_ge (tgt := 35) hx hb dX1_fill_18 (by decide) (fun c2 => ?_) (fun c2 => ?_)
        · replace h := itt h c2
          cases h
          exact RET hw ⟨(Nat.le_of_ble_eq_true rfl), (Nat.le_of_ble_eq_true rfl)⟩ dX1_fill_35
        · replace h := itf h c2
          refine m_aload_n (x := x0) hx hb dX1_fill_21 rfl (lv_at hl 0 rfl) ?_
          obtain ⟨v3, hv3, h⟩ := ob h
          refine m_getR hC hw (C := RX1) (T := TX1) (N := 2) hv3 ki_X1_fill_X1 rfl (by decide) k_X1_fill_9 (fun _ z => z) dX1_fill_22 ?_
          refine lv_iload hx hb dX1_fill_25 (lv_at hl 3 rfl) ?_
          refine lv_iload_n hx hb dX1_fill_27 rfl (lv_at hl 2 rfl) ?_
          obtain ⟨M4, hM4, h⟩ := ob h
          refine m_iast (x := v3) hC hw hM4 dX1_fill_28 (fun H locs hw => ?_)
          refine lv_iinc (v := (x4 + (1 : Int32))) (lv' := [(4, .int (x4 + (1 : Int32))), (0, va_rf x0), (2, .int x2), (3, .int x3)]) hx hb dX1_fill_29 hl (k := 3) rfl rfl (by decide) rfl (fun ls hl => ?_)
          refine lv_goto (tgt := 7) hx hb dX1_fill_32 (by decide) ?_
          exact ih _ _ _ _ _ h hw (lv_sub hl [1, 2, 3, 0] rfl)
  unfold f_X1_fill at h
  refine lv_iload_n hx hb dX1_fill_0 rfl (lv_at hl 1 rfl) ?_
  refine lv_iconst (v := (0 : Int32)) hx hb dX1_fill_1 (by decide) ?_
  refine va_mmax hx hb (hC.2.2.1.trans hl.1.symm) hC.2.2.2.1 (hC.tab _ k_X1_fill_max32_0) (hC.tab _ k_X1_fill_max32_1) (hC.tab _ k_X1_fill_max32_2) (hC.tab _ k_X1_fill_max32_3) (Nat.le_of_ble_eq_true rfl) (Nat.le_trans (Nat.add_le_add_right (Nat.le_of_ble_eq_true rfl) 13) (Nat.le_of_ble_eq_true rfl)) (Nat.le_of_ble_eq_true rfl) (Nat.le_of_ble_eq_true rfl) dX1_fill_2 ?_
  refine lv_istore (lv' := [(4, .int (if a1 < (0 : Int32) then (0 : Int32) else a1)), (0, va_rf this), (1, .int a1), (2, .int a2), (3, .int a3)]) hx hb dX1_fill_5 hl (by decide) rfl (fun ls hl => ?_)
  exact L7 this a2 a3 _ _ _ _ _ _ h hw (lv_sub hl [1, 3, 4, 0] rfl)

def f_X1_take (B : Nat) (n : Nat) (M : Mem) (this : Option Nat) (a1 : Int32) (a2 : Int32) (a3 : Int32) : Option (Mem) := if isO M this 4 = true then ((f_X1_fill B n M this a1 a2 a3).bind fun r2 => (gI r2 this 4 1).bind fun v3 => (pF B r2 this 4 1 (.int (v3 + ((a2 - a1) + (1 : Int32))))).bind fun M4 => some (M4)) else none
def rmX1_take : Room := { frames := 2, cells := 0, slots := 0, locals := 45 }
theorem k_X1_take_15 : Cond.fieldLink RX1 15 "LoanBook$Calendar" "taken" "I" ∈ wsX1_take := List.mem_of_getElem? (i := 1) rfl
theorem ki_X1_take_X1 : ∀ w ∈ u_ws RX1 TX1 2, w ∈ wsX1_take := sub_r _ [12, 13] (by decide +kernel)
set_option maxHeartbeats 4000000 in
set_option maxRecDepth 100000 in
theorem c_X1_take {G : wG} {l : Launch} {n : Nat} {M : Mem} {sz : Nat} {this : Option Nat} {a1 : Int32} {a2 : Int32} {a3 : Int32} {r : Mem} (h : f_X1_take G.2.2.1 n M this a1 a2 a3 = some r) : CtrV G l yX1_take wsX1_take rmX1_take [va_rf this, .int a1, .int a2, .int a3] M sz r sz := by
  refine m_startV (own := RX1) (cc := cX1_take) (maxL := 4) (by decide) rfl rfl (Nat.le_of_ble_eq_true rfl) ?_
  intro p e s m args below meth c Q hC hname RET hsz hw ls hl
  have hx := hC.1
  have hb := hC.2.1
  replace hl : lv_has ls 4 [(0, va_rf this), (1, .int a1), (2, .int a2), (3, .int a3)] := hl
  unfold f_X1_take at h
  refine m_aload_n (x := this) hx hb dX1_take_0 rfl (lv_at hl 0 rfl) ?_
  refine lv_iload_n hx hb dX1_take_1 rfl (lv_at hl 1 rfl) ?_
  refine lv_iload_n hx hb dX1_take_2 rfl (lv_at hl 2 rfl) ?_
  refine lv_iload_n hx hb dX1_take_3 rfl (lv_at hl 3 rfl) ?_
  obtain ⟨g1, h⟩ := itg h
  obtain ⟨r2, hr2, h⟩ := ob h
  refine m_contV hC hw (m_runV hC hw (x := this) (ci := 4) (N := 2) (C := RX1) (T := TX1) (n := 3) (av := [.int a1, .int a2, .int a3]) (rest := []) (c_X1_fill (G := G) (l := l) hr2) gX1_take_X1_fill rfl (by decide +kernel) ⟨(Nat.le_of_ble_eq_true rfl), (Nat.le_of_ble_eq_true rfl)⟩ g1 rfl rfl hl.1 rfl (Nat.le_of_ble_eq_true rfl) dX1_take_4 ⟨(Nat.le_of_ble_eq_true rfl), (Nat.le_of_ble_eq_true rfl)⟩) (fun H locs hw => ?_)
  refine m_aload_n (x := this) hx hb dX1_take_7 rfl (lv_at hl 0 rfl) ?_
  refine m_dup (x := this) hx hb dX1_take_8 ?_
  obtain ⟨v3, hv3, h⟩ := ob h
  refine m_getI hC hw (C := RX1) (T := TX1) (N := 2) hv3 ki_X1_take_X1 rfl (by decide) k_X1_take_15 (fun _ z => z) dX1_take_9 ?_
  refine lv_iload_n hx hb dX1_take_12 rfl (lv_at hl 2 rfl) ?_
  refine lv_iload_n hx hb dX1_take_13 rfl (lv_at hl 1 rfl) ?_
  refine lv_isub hx hb dX1_take_14 ?_
  refine lv_iconst (v := (1 : Int32)) hx hb dX1_take_15 (by decide) ?_
  refine lv_iadd hx hb dX1_take_16 ?_
  refine lv_iadd hx hb dX1_take_17 ?_
  obtain ⟨M4, hM4, h⟩ := ob h
  refine m_put hC hw (C := RX1) (T := TX1) (N := 2) (x := this) hM4 ki_X1_take_X1 tyX1 tyX1_ok nmX1 rfl (by decide) k_X1_take_15 (fun _ z => z) rfl rfl rfl dX1_take_18 (fun H locs hw => ?_)
  cases h
  exact RET hw ⟨(Nat.le_of_ble_eq_true rfl), (Nat.le_of_ble_eq_true rfl)⟩ dX1_take_21

def f_X0_latest_L7 (n : Nat) (M : Mem) (x0 : Option Nat) (x1 : Int32) : Nat → Int32 → Option (Int32)
  | 0, _ => none
  | k + 1, x2 => if x2 < 0 then (some (x2)) else ((gR M x0 3 0).bind fun v3 => (aI M 0 v3 x2).bind fun v4 => if v4 ≤ x1 then (some (x2)) else (f_X0_latest_L7 n M x0 x1 k (x2 + (-1 : Int32))))
def f_X0_latest (n : Nat) (M : Mem) (this : Option Nat) (a1 : Int32) : Option (Int32) := (gI M this 3 2).bind fun v1 => f_X0_latest_L7 n M this a1 n (v1 - (1 : Int32))
def rmX0_latest : Room := { frames := 0, cells := 0, slots := 0, locals := 0 }
theorem k_X0_latest_18 : Cond.fieldLink RX0 18 "LoanBook$Appraisals" "size" "I" ∈ wsX0_latest := List.mem_of_getElem? (i := 1) rfl
theorem ki_X0_latest_X0 : ∀ w ∈ u_ws RX0 TX0 3, w ∈ wsX0_latest := sub_r _ [3, 4, 5] (by decide +kernel)
theorem k_X0_latest_9 : Cond.fieldLink RX0 9 "LoanBook$Appraisals" "days" "[I" ∈ wsX0_latest := List.mem_of_getElem? (i := 2) rfl
set_option maxHeartbeats 4000000 in
set_option maxRecDepth 100000 in
theorem c_X0_latest {G : wG} {l : Launch} {n : Nat} {M : Mem} {sz : Nat} {this : Option Nat} {a1 : Int32} {r : Int32} (h : f_X0_latest n M this a1 = some r) : CtrI G l yX0_latest wsX0_latest rmX0_latest [va_rf this, .int a1] M sz r M sz := by
  refine m_startI (own := RX0) (cc := cX0_latest) (maxL := 3) (by decide) rfl rfl (Nat.le_of_ble_eq_true rfl) ?_
  intro p e s m args below meth c Q hC hname RET hsz hw ls hl
  have hx := hC.1
  have hb := hC.2.1
  replace hl : lv_has ls 3 [(0, va_rf this), (1, .int a1)] := hl
  have L7 : ∀ (x0 : Option Nat) (x1 : Int32) (k : Nat) (x2 : Int32) (H : Heap) (locs : List Loc) (ls : Array Slot), f_X0_latest_L7 n M x0 x1 k x2 = some r → wD G s M M sz H locs → lv_has ls 3 [(0, va_rf x0), (1, .int x1), (2, .int x2)] → W p l e rmX0_latest s m args below meth c H locs 0 0 Q (F0 m 7 ls []) := by
    intro x0 x1 k
    induction k with
    | zero =>
      intro x2 H locs ls h
      exact absurd (show (none : Option (Int32)) = some r from h) (fun z => by cases z)
    | succ k ih =>
      intro x2 H locs ls h hw hl
      rw [f_X0_latest_L7] at h
      refine lv_iload_n hx hb dX0_latest_7 rfl (lv_at hl 2 rfl) ?_
      refine lv_if_lt (tgt := 27) hx hb dX0_latest_8 (by decide) (fun c2 => ?_) (fun c2 => ?_)
      · replace h := itt h c2
        refine lv_iload_n hx hb dX0_latest_27 rfl (lv_at hl 2 rfl) ?_
        cases h
        exact RET hw ⟨(Nat.le_of_ble_eq_true rfl), (Nat.le_of_ble_eq_true rfl)⟩ dX0_latest_28
      · replace h := itf h c2
        refine m_aload_n (x := x0) hx hb dX0_latest_11 rfl (lv_at hl 0 rfl) ?_
        obtain ⟨v3, hv3, h⟩ := ob h
        refine m_getR hC hw (C := RX0) (T := TX0) (N := 3) hv3 ki_X0_latest_X0 rfl (by decide) k_X0_latest_9 (fun _ z => z) dX0_latest_12 ?_
        refine lv_iload_n hx hb dX0_latest_15 rfl (lv_at hl 2 rfl) ?_
        obtain ⟨v4, hv4, h⟩ := ob h
        refine m_iald (x := v3) hC hw hv4 dX0_latest_16 ?_
        refine lv_iload_n hx hb dX0_latest_17 rfl (lv_at hl 1 rfl) ?_
        refine lv_icmp_le (tgt := 27) hx hb dX0_latest_18 (by decide) (fun c5 => ?_) (fun c5 => ?_)
        · replace h := itt h c5
          refine lv_iload_n hx hb dX0_latest_27 rfl (lv_at hl 2 rfl) ?_
          cases h
          exact RET hw ⟨(Nat.le_of_ble_eq_true rfl), (Nat.le_of_ble_eq_true rfl)⟩ dX0_latest_28
        · replace h := itf h c5
          refine lv_iinc (v := (x2 + (-1 : Int32))) (lv' := [(2, .int (x2 + (-1 : Int32))), (0, va_rf x0), (1, .int x1)]) hx hb dX0_latest_21 hl (k := 2) rfl rfl (by decide) rfl (fun ls hl => ?_)
          refine lv_goto (tgt := 7) hx hb dX0_latest_24 (by decide) ?_
          exact ih _ _ _ _ h hw (lv_sub hl [1, 2, 0] rfl)
  unfold f_X0_latest at h
  refine m_aload_n (x := this) hx hb dX0_latest_0 rfl (lv_at hl 0 rfl) ?_
  obtain ⟨v1, hv1, h⟩ := ob h
  refine m_getI hC hw (C := RX0) (T := TX0) (N := 3) hv1 ki_X0_latest_X0 rfl (by decide) k_X0_latest_18 (fun _ z => z) dX0_latest_1 ?_
  refine lv_iconst (v := (1 : Int32)) hx hb dX0_latest_4 (by decide) ?_
  refine lv_isub hx hb dX0_latest_5 ?_
  refine lv_istore_n (lv' := [(2, .int (v1 - (1 : Int32))), (0, va_rf this), (1, .int a1)]) hx hb dX0_latest_6 rfl hl (by decide) rfl (fun ls hl => ?_)
  exact L7 this a1 _ _ _ _ _ h hw (lv_sub hl [1, 2, 0] rfl)

def f_X0_insertAt_L27 (B : Nat) (n : Nat) (x0 : Option Nat) (x1 : Int32) (x2 : Int32) : Nat → Mem → Int32 → Option (Mem)
  | 0, _, _ => none
  | k + 1, Mz, x3 => if x3 ≤ x1 then ((gR Mz x0 3 0).bind fun v8 => (sI B Mz 0 v8 x1 x2).bind fun M9 => (gI M9 x0 3 2).bind fun v10 => (pF B M9 x0 3 2 (.int (v10 + (1 : Int32)))).bind fun M11 => some (M11)) else ((gR Mz x0 3 0).bind fun v12 => (gR Mz x0 3 0).bind fun v13 => (aI Mz 0 v13 (x3 - (1 : Int32))).bind fun v14 => (sI B Mz 0 v12 x3 v14).bind fun M15 => (gR M15 x0 3 1).bind fun v16 => (gR M15 x0 3 1).bind fun v17 => (aI M15 0 v17 (x3 - (1 : Int32))).bind fun v18 => (sI B M15 0 v16 x3 v18).bind fun M19 => f_X0_insertAt_L27 B n x0 x1 x2 k M19 (x3 + (-1 : Int32)))
def f_X0_insertAt (B : Nat) (n : Nat) (M : Mem) (this : Option Nat) (a1 : Int32) (a2 : Int32) : Option (Mem) := (gI M this 3 2).bind fun v1 => if (48 : Int32) ≤ v1 then (some (M)) else (if a1 < 0 then (some (M)) else ((gI M this 3 2).bind fun v4 => if a1 ≤ v4 then ((gI M this 3 2).bind fun v6 => f_X0_insertAt_L27 B n this a1 a2 n M v6) else (some (M))))
def rmX0_insertAt : Room := { frames := 0, cells := 0, slots := 0, locals := 0 }
theorem k_X0_insertAt_18 : Cond.fieldLink RX0 18 "LoanBook$Appraisals" "size" "I" ∈ wsX0_insertAt := List.mem_of_getElem? (i := 1) rfl
theorem ki_X0_insertAt_X0 : ∀ w ∈ u_ws RX0 TX0 3, w ∈ wsX0_insertAt := sub_r _ [4, 5, 6] (by decide +kernel)
theorem k_X0_insertAt_9 : Cond.fieldLink RX0 9 "LoanBook$Appraisals" "days" "[I" ∈ wsX0_insertAt := List.mem_of_getElem? (i := 2) rfl
theorem k_X0_insertAt_15 : Cond.fieldLink RX0 15 "LoanBook$Appraisals" "values" "[I" ∈ wsX0_insertAt := List.mem_of_getElem? (i := 3) rfl
set_option maxHeartbeats 4000000 in
set_option maxRecDepth 100000 in
theorem c_X0_insertAt {G : wG} {l : Launch} {n : Nat} {M : Mem} {sz : Nat} {this : Option Nat} {a1 : Int32} {a2 : Int32} {r : Mem} (h : f_X0_insertAt G.2.2.1 n M this a1 a2 = some r) : CtrV G l yX0_insertAt wsX0_insertAt rmX0_insertAt [va_rf this, .int a1, .int a2] M sz r sz := by
  refine m_startV (own := RX0) (cc := cX0_insertAt) (maxL := 4) (by decide) rfl rfl (Nat.le_of_ble_eq_true rfl) ?_
  intro p e s m args below meth c Q hC hname RET hsz hw ls hl
  have hx := hC.1
  have hb := hC.2.1
  replace hl : lv_has ls 4 [(0, va_rf this), (1, .int a1), (2, .int a2)] := hl
  have L27 : ∀ (x0 : Option Nat) (x1 : Int32) (x2 : Int32) (k : Nat) (Mz : Mem) (x3 : Int32) (H : Heap) (locs : List Loc) (ls : Array Slot), f_X0_insertAt_L27 G.2.2.1 n x0 x1 x2 k Mz x3 = some r → wD G s M Mz sz H locs → lv_has ls 4 [(0, va_rf x0), (1, .int x1), (2, .int x2), (3, .int x3)] → W p l e rmX0_insertAt s m args below meth c H locs 0 0 Q (F0 m 27 ls []) := by
    intro x0 x1 x2 k
    induction k with
    | zero =>
      intro Mz x3 H locs ls h
      exact absurd (show (none : Option (Mem)) = some r from h) (fun z => by cases z)
    | succ k ih =>
      intro Mz x3 H locs ls h hw hl
      rw [f_X0_insertAt_L27] at h
      refine lv_iload_n hx hb dX0_insertAt_27 rfl (lv_at hl 3 rfl) ?_
      refine lv_iload_n hx hb dX0_insertAt_28 rfl (lv_at hl 1 rfl) ?_
      refine lv_icmp_le (tgt := 66) hx hb dX0_insertAt_29 (by decide) (fun c7 => ?_) (fun c7 => ?_)
      · replace h := itt h c7
        refine m_aload_n (x := x0) hx hb dX0_insertAt_66 rfl (lv_at hl 0 rfl) ?_
        obtain ⟨v8, hv8, h⟩ := ob h
        refine m_getR hC hw (C := RX0) (T := TX0) (N := 3) hv8 ki_X0_insertAt_X0 rfl (by decide) k_X0_insertAt_9 (fun _ z => z) dX0_insertAt_67 ?_
        refine lv_iload_n hx hb dX0_insertAt_70 rfl (lv_at hl 1 rfl) ?_
        refine lv_iload_n hx hb dX0_insertAt_71 rfl (lv_at hl 2 rfl) ?_
        obtain ⟨M9, hM9, h⟩ := ob h
        refine m_iast (x := v8) hC hw hM9 dX0_insertAt_72 (fun H locs hw => ?_)
        refine m_aload_n (x := x0) hx hb dX0_insertAt_73 rfl (lv_at hl 0 rfl) ?_
        refine m_dup (x := x0) hx hb dX0_insertAt_74 ?_
        obtain ⟨v10, hv10, h⟩ := ob h
        refine m_getI hC hw (C := RX0) (T := TX0) (N := 3) hv10 ki_X0_insertAt_X0 rfl (by decide) k_X0_insertAt_18 (fun _ z => z) dX0_insertAt_75 ?_
        refine lv_iconst (v := (1 : Int32)) hx hb dX0_insertAt_78 (by decide) ?_
        refine lv_iadd hx hb dX0_insertAt_79 ?_
        obtain ⟨M11, hM11, h⟩ := ob h
        refine m_put hC hw (C := RX0) (T := TX0) (N := 3) (x := x0) hM11 ki_X0_insertAt_X0 tyX0 tyX0_ok nmX0 rfl (by decide) k_X0_insertAt_18 (fun _ z => z) rfl rfl rfl dX0_insertAt_80 (fun H locs hw => ?_)
        cases h
        exact RET hw ⟨(Nat.le_of_ble_eq_true rfl), (Nat.le_of_ble_eq_true rfl)⟩ dX0_insertAt_83
      · replace h := itf h c7
        refine m_aload_n (x := x0) hx hb dX0_insertAt_32 rfl (lv_at hl 0 rfl) ?_
        obtain ⟨v12, hv12, h⟩ := ob h
        refine m_getR hC hw (C := RX0) (T := TX0) (N := 3) hv12 ki_X0_insertAt_X0 rfl (by decide) k_X0_insertAt_9 (fun _ z => z) dX0_insertAt_33 ?_
        refine lv_iload_n hx hb dX0_insertAt_36 rfl (lv_at hl 3 rfl) ?_
        refine m_aload_n (x := x0) hx hb dX0_insertAt_37 rfl (lv_at hl 0 rfl) ?_
        obtain ⟨v13, hv13, h⟩ := ob h
        refine m_getR hC hw (C := RX0) (T := TX0) (N := 3) hv13 ki_X0_insertAt_X0 rfl (by decide) k_X0_insertAt_9 (fun _ z => z) dX0_insertAt_38 ?_
        refine lv_iload_n hx hb dX0_insertAt_41 rfl (lv_at hl 3 rfl) ?_
        refine lv_iconst (v := (1 : Int32)) hx hb dX0_insertAt_42 (by decide) ?_
        refine lv_isub hx hb dX0_insertAt_43 ?_
        obtain ⟨v14, hv14, h⟩ := ob h
        refine m_iald (x := v13) hC hw hv14 dX0_insertAt_44 ?_
        obtain ⟨M15, hM15, h⟩ := ob h
        refine m_iast (x := v12) hC hw hM15 dX0_insertAt_45 (fun H locs hw => ?_)
        refine m_aload_n (x := x0) hx hb dX0_insertAt_46 rfl (lv_at hl 0 rfl) ?_
        obtain ⟨v16, hv16, h⟩ := ob h
        refine m_getR hC hw (C := RX0) (T := TX0) (N := 3) hv16 ki_X0_insertAt_X0 rfl (by decide) k_X0_insertAt_15 (fun _ z => z) dX0_insertAt_47 ?_
        refine lv_iload_n hx hb dX0_insertAt_50 rfl (lv_at hl 3 rfl) ?_
        refine m_aload_n (x := x0) hx hb dX0_insertAt_51 rfl (lv_at hl 0 rfl) ?_
        obtain ⟨v17, hv17, h⟩ := ob h
        refine m_getR hC hw (C := RX0) (T := TX0) (N := 3) hv17 ki_X0_insertAt_X0 rfl (by decide) k_X0_insertAt_15 (fun _ z => z) dX0_insertAt_52 ?_
        refine lv_iload_n hx hb dX0_insertAt_55 rfl (lv_at hl 3 rfl) ?_
        refine lv_iconst (v := (1 : Int32)) hx hb dX0_insertAt_56 (by decide) ?_
        refine lv_isub hx hb dX0_insertAt_57 ?_
        obtain ⟨v18, hv18, h⟩ := ob h
        refine m_iald (x := v17) hC hw hv18 dX0_insertAt_58 ?_
        obtain ⟨M19, hM19, h⟩ := ob h
        refine m_iast (x := v16) hC hw hM19 dX0_insertAt_59 (fun H locs hw => ?_)
        refine lv_iinc (v := (x3 + (-1 : Int32))) (lv' := [(3, .int (x3 + (-1 : Int32))), (0, va_rf x0), (1, .int x1), (2, .int x2)]) hx hb dX0_insertAt_60 hl (k := 3) rfl rfl (by decide) rfl (fun ls hl => ?_)
        refine lv_goto (tgt := 27) hx hb dX0_insertAt_63 (by decide) ?_
        exact ih _ _ _ _ _ h hw (lv_sub hl [1, 2, 3, 0] rfl)
  unfold f_X0_insertAt at h
  refine m_aload_n (x := this) hx hb dX0_insertAt_0 rfl (lv_at hl 0 rfl) ?_
  obtain ⟨v1, hv1, h⟩ := ob h
  refine m_getI hC hw (C := RX0) (T := TX0) (N := 3) hv1 ki_X0_insertAt_X0 rfl (by decide) k_X0_insertAt_18 (fun _ z => z) dX0_insertAt_1 ?_
  refine lv_bipush (v := (48 : Int32)) hx hb dX0_insertAt_4 (by decide) ?_
  refine lv_icmp_ge (tgt := 21) hx hb dX0_insertAt_6 (by decide) (fun c2 => ?_) (fun c2 => ?_)
  · replace h := itt h c2
    cases h
    exact RET hw ⟨(Nat.le_of_ble_eq_true rfl), (Nat.le_of_ble_eq_true rfl)⟩ dX0_insertAt_21
  · replace h := itf h c2
    refine lv_iload_n hx hb dX0_insertAt_9 rfl (lv_at hl 1 rfl) ?_
    refine lv_if_lt (tgt := 21) hx hb dX0_insertAt_10 (by decide) (fun c3 => ?_) (fun c3 => ?_)
    · replace h := itt h c3
      cases h
      exact RET hw ⟨(Nat.le_of_ble_eq_true rfl), (Nat.le_of_ble_eq_true rfl)⟩ dX0_insertAt_21
    · replace h := itf h c3
      refine lv_iload_n hx hb dX0_insertAt_13 rfl (lv_at hl 1 rfl) ?_
      refine m_aload_n (x := this) hx hb dX0_insertAt_14 rfl (lv_at hl 0 rfl) ?_
      obtain ⟨v4, hv4, h⟩ := ob h
      refine m_getI hC hw (C := RX0) (T := TX0) (N := 3) hv4 ki_X0_insertAt_X0 rfl (by decide) k_X0_insertAt_18 (fun _ z => z) dX0_insertAt_15 ?_
      refine lv_icmp_le (tgt := 22) hx hb dX0_insertAt_18 (by decide) (fun c5 => ?_) (fun c5 => ?_)
      · replace h := itt h c5
        refine m_aload_n (x := this) hx hb dX0_insertAt_22 rfl (lv_at hl 0 rfl) ?_
        obtain ⟨v6, hv6, h⟩ := ob h
        refine m_getI hC hw (C := RX0) (T := TX0) (N := 3) hv6 ki_X0_insertAt_X0 rfl (by decide) k_X0_insertAt_18 (fun _ z => z) dX0_insertAt_23 ?_
        refine lv_istore_n (lv' := [(3, .int v6), (0, va_rf this), (1, .int a1), (2, .int a2)]) hx hb dX0_insertAt_26 rfl hl (by decide) rfl (fun ls hl => ?_)
        exact L27 this a1 a2 _ _ _ _ _ _ h hw (lv_sub hl [1, 2, 3, 0] rfl)
      · replace h := itf h c5
        cases h
        exact RET hw ⟨(Nat.le_of_ble_eq_true rfl), (Nat.le_of_ble_eq_true rfl)⟩ dX0_insertAt_21

def f_X9_append_L3 (B : Nat) (n : Nat) (x0 : Option Nat) (x1 : Int32) : Nat → Mem → Int32 → Option (Mem)
  | 0, _, _ => none
  | k + 1, Mz, x2 => if x2 < 0 then (some (Mz)) else ((gI Mz x0 12 1).bind fun v2 => if (120 : Int32) ≤ v2 then (some (Mz)) else ((gR Mz x0 12 0).bind fun v4 => (gI Mz x0 12 1).bind fun v5 => (sI B Mz 0 v4 v5 ((x1.toUInt32 >>> ((x2 : Int32).toUInt32 &&& Int32.toUInt32 31)).toInt32 &&& (255 : Int32))).bind fun M6 => (gI M6 x0 12 1).bind fun v7 => (pF B M6 x0 12 1 (.int (v7 + (1 : Int32)))).bind fun M8 => f_X9_append_L3 B n x0 x1 k M8 (x2 + (-8 : Int32))))
def f_X9_append (B : Nat) (n : Nat) (M : Mem) (this : Option Nat) (a1 : Int32) : Option (Mem) := f_X9_append_L3 B n this a1 n M (24 : Int32)
def rmX9_append : Room := { frames := 0, cells := 0, slots := 0, locals := 0 }
theorem k_X9_append_15 : Cond.fieldLink RX9 15 "LoanBook$Tape" "size" "I" ∈ wsX9_append := List.mem_of_getElem? (i := 1) rfl
theorem ki_X9_append_X9 : ∀ w ∈ u_ws RX9 TX9 2, w ∈ wsX9_append := sub_r _ [3, 4] (by decide +kernel)
theorem k_X9_append_11 : Cond.fieldLink RX9 11 "LoanBook$Tape" "bytes" "[I" ∈ wsX9_append := List.mem_of_getElem? (i := 2) rfl
set_option maxHeartbeats 4000000 in
set_option maxRecDepth 100000 in
theorem c_X9_append {G : wG} {l : Launch} {n : Nat} {M : Mem} {sz : Nat} {this : Option Nat} {a1 : Int32} {r : Mem} (h : f_X9_append G.2.2.1 n M this a1 = some r) : CtrV G l yX9_append wsX9_append rmX9_append [va_rf this, .int a1] M sz r sz := by
  refine m_startV (own := RX9) (cc := cX9_append) (maxL := 3) (by decide) rfl rfl (Nat.le_of_ble_eq_true rfl) ?_
  intro p e s m args below meth c Q hC hname RET hsz hw ls hl
  have hx := hC.1
  have hb := hC.2.1
  replace hl : lv_has ls 3 [(0, va_rf this), (1, .int a1)] := hl
  have L3 : ∀ (x0 : Option Nat) (x1 : Int32) (k : Nat) (Mz : Mem) (x2 : Int32) (H : Heap) (locs : List Loc) (ls : Array Slot), f_X9_append_L3 G.2.2.1 n x0 x1 k Mz x2 = some r → wD G s M Mz sz H locs → lv_has ls 3 [(0, va_rf x0), (1, .int x1), (2, .int x2)] → W p l e rmX9_append s m args below meth c H locs 0 0 Q (F0 m 3 ls []) := by
    intro x0 x1 k
    induction k with
    | zero =>
      intro Mz x2 H locs ls h
      exact absurd (show (none : Option (Mem)) = some r from h) (fun z => by cases z)
    | succ k ih =>
      intro Mz x2 H locs ls h hw hl
      rw [f_X9_append_L3] at h
      refine lv_iload_n hx hb dX9_append_3 rfl (lv_at hl 2 rfl) ?_
      refine lv_if_lt (tgt := 48) hx hb dX9_append_4 (by decide) (fun c1 => ?_) (fun c1 => ?_)
      · replace h := itt h c1
        cases h
        exact RET hw ⟨(Nat.le_of_ble_eq_true rfl), (Nat.le_of_ble_eq_true rfl)⟩ dX9_append_48
      · replace h := itf h c1
        refine m_aload_n (x := x0) hx hb dX9_append_7 rfl (lv_at hl 0 rfl) ?_
        obtain ⟨v2, hv2, h⟩ := ob h
        refine m_getI hC hw (C := RX9) (T := TX9) (N := 2) hv2 ki_X9_append_X9 rfl (by decide) k_X9_append_15 (fun _ z => z) dX9_append_8 ?_
        refine lv_bipush (v := (120 : Int32)) hx hb dX9_append_11 (by decide) ?_
        refine lv_icmp_ge (tgt := 48) hx hb dX9_append_13 (by decide) (fun c3 => ?_) (fun c3 => ?_)
        · replace h := itt h c3
          cases h
          exact RET hw ⟨(Nat.le_of_ble_eq_true rfl), (Nat.le_of_ble_eq_true rfl)⟩ dX9_append_48
        · replace h := itf h c3
          refine m_aload_n (x := x0) hx hb dX9_append_16 rfl (lv_at hl 0 rfl) ?_
          obtain ⟨v4, hv4, h⟩ := ob h
          refine m_getR hC hw (C := RX9) (T := TX9) (N := 2) hv4 ki_X9_append_X9 rfl (by decide) k_X9_append_11 (fun _ z => z) dX9_append_17 ?_
          refine m_aload_n (x := x0) hx hb dX9_append_20 rfl (lv_at hl 0 rfl) ?_
          obtain ⟨v5, hv5, h⟩ := ob h
          refine m_getI hC hw (C := RX9) (T := TX9) (N := 2) hv5 ki_X9_append_X9 rfl (by decide) k_X9_append_15 (fun _ z => z) dX9_append_21 ?_
          refine lv_iload_n hx hb dX9_append_24 rfl (lv_at hl 1 rfl) ?_
          refine lv_iload_n hx hb dX9_append_25 rfl (lv_at hl 2 rfl) ?_
          refine lv_iushr hx hb dX9_append_26 rfl ?_
          refine lv_sipush (v := (255 : Int32)) hx hb dX9_append_27 (by decide) ?_
          refine lv_iand hx hb dX9_append_30 ?_
          obtain ⟨M6, hM6, h⟩ := ob h
          refine m_iast (x := v4) hC hw hM6 dX9_append_31 (fun H locs hw => ?_)
          refine m_aload_n (x := x0) hx hb dX9_append_32 rfl (lv_at hl 0 rfl) ?_
          refine m_dup (x := x0) hx hb dX9_append_33 ?_
          obtain ⟨v7, hv7, h⟩ := ob h
          refine m_getI hC hw (C := RX9) (T := TX9) (N := 2) hv7 ki_X9_append_X9 rfl (by decide) k_X9_append_15 (fun _ z => z) dX9_append_34 ?_
          refine lv_iconst (v := (1 : Int32)) hx hb dX9_append_37 (by decide) ?_
          refine lv_iadd hx hb dX9_append_38 ?_
          obtain ⟨M8, hM8, h⟩ := ob h
          refine m_put hC hw (C := RX9) (T := TX9) (N := 2) (x := x0) hM8 ki_X9_append_X9 tyX9 tyX9_ok nmX9 rfl (by decide) k_X9_append_15 (fun _ z => z) rfl rfl rfl dX9_append_39 (fun H locs hw => ?_)
          refine lv_iinc (v := (x2 + (-8 : Int32))) (lv' := [(2, .int (x2 + (-8 : Int32))), (0, va_rf x0), (1, .int x1)]) hx hb dX9_append_42 hl (k := 2) rfl rfl (by decide) rfl (fun ls hl => ?_)
          refine lv_goto (tgt := 3) hx hb dX9_append_45 (by decide) ?_
          exact ih _ _ _ _ _ h hw (lv_sub hl [1, 2, 0] rfl)
  unfold f_X9_append at h
  refine lv_bipush (v := (24 : Int32)) hx hb dX9_append_0 (by decide) ?_
  refine lv_istore_n (lv' := [(2, .int (24 : Int32)), (0, va_rf this), (1, .int a1)]) hx hb dX9_append_2 rfl hl (by decide) rfl (fun ls hl => ?_)
  exact L3 this a1 _ _ _ _ _ _ h hw (lv_sub hl [1, 2, 0] rfl)

def f_X12_isIn (u : MS) (a1 : Int32) (a2 : Int32) (a3 : Int32) : Option (Int32) := if a1 < a2 then (some (0 : Int32)) else (if a3 < a1 then (some (0 : Int32)) else (some (1 : Int32)))
def rmX12_isIn : Room := { frames := 0, cells := 0, slots := 0, locals := 0 }
set_option maxHeartbeats 4000000 in
set_option maxRecDepth 100000 in
theorem c_X12_isIn {G : wG} {l : Launch} {n : Nat} {m0 : Nat} {L : Mem} {u : MS} {sz : Nat} {a1 : Int32} {a2 : Int32} {a3 : Int32} {r : Int32} (hMo : MoOK G m0 L) (h : f_X12_isIn u a1 a2 a3 = some r) : CtrI G l yX12_isIn wsX12_isIn rmX12_isIn [.int a1, .int a2, .int a3] (Mm m0 u L) sz r (Mm m0 u L) sz := by
  refine m_startZ (own := RX12) (cc := cX12_isIn) (maxL := 3) (by decide) rfl rfl (Nat.le_of_ble_eq_true rfl) ?_
  intro p e s m args below meth c Q hC hname RET hsz hw ls hl
  have hx := hC.1
  have hb := hC.2.1
  replace hl : lv_has ls 3 [(0, .int a1), (1, .int a2), (2, .int a3)] := hl
  unfold f_X12_isIn at h
  refine lv_iload_n hx hb dX12_isIn_0 rfl (lv_at hl 0 rfl) ?_
  refine lv_iload_n hx hb dX12_isIn_1 rfl (lv_at hl 1 rfl) ?_
  refine lv_icmp_lt (tgt := 14) hx hb dX12_isIn_2 (by decide) (fun c1 => ?_) (fun c1 => ?_)
  · replace h := itt h c1
    refine lv_iconst (v := (0 : Int32)) hx hb dX12_isIn_14 (by decide) ?_
    cases h
    exact RET (by decide) hw ⟨(Nat.le_of_ble_eq_true rfl), (Nat.le_of_ble_eq_true rfl)⟩ dX12_isIn_15
  · replace h := itf h c1
    refine lv_iload_n hx hb dX12_isIn_5 rfl (lv_at hl 0 rfl) ?_
    refine lv_iload_n hx hb dX12_isIn_6 rfl (lv_at hl 2 rfl) ?_
    refine lv_icmp_gt (tgt := 14) hx hb dX12_isIn_7 (by decide) (fun c2 => ?_) (fun c2 => ?_)
    · replace h := itt h c2
      refine lv_iconst (v := (0 : Int32)) hx hb dX12_isIn_14 (by decide) ?_
      cases h
      exact RET (by decide) hw ⟨(Nat.le_of_ble_eq_true rfl), (Nat.le_of_ble_eq_true rfl)⟩ dX12_isIn_15
    · replace h := itf h c2
      refine lv_iconst (v := (1 : Int32)) hx hb dX12_isIn_10 (by decide) ?_
      refine lv_goto (tgt := 15) hx hb dX12_isIn_11 (by decide) ?_
      cases h
      exact RET (by decide) hw ⟨(Nat.le_of_ble_eq_true rfl), (Nat.le_of_ble_eq_true rfl)⟩ dX12_isIn_15

def f_X12_fine (u : MS) (a1 : Int32) : Option (Int32 × MS) := some (a1, (uI u 2 (0 : Int32)))
def rmX12_fine : Room := { frames := 0, cells := 0, slots := 0, locals := 0 }
theorem k_X12_fine_1 : Cond.fieldLink RX12 1 "LoanBookModel" "status" "I" ∈ wsX12_fine := List.mem_of_getElem? (i := 1) rfl
theorem ki_X12_fine_X12 : ∀ w ∈ u_ws RX12 TX12 51, w ∈ wsX12_fine := sub_r _ [2, 3, 4, 5, 6, 7, 8, 9, 10, 11, 12, 13, 14, 15, 16, 17, 18, 19, 20, 21, 22, 23, 24, 25, 26, 27, 28, 29, 30, 31, 32, 33, 34, 35, 36, 37, 38, 39, 40, 41, 42, 43, 44, 45, 46, 47, 48, 49, 50, 51, 52] (by decide +kernel)
set_option maxHeartbeats 4000000 in
set_option maxRecDepth 100000 in
theorem c_X12_fine {G : wG} {l : Launch} {n : Nat} {m0 : Nat} {L : Mem} {u : MS} {sz : Nat} {a1 : Int32} {r : Int32 × MS} (hMo : MoOK G m0 L) (h : f_X12_fine u a1 = some r) : CtrI G l yX12_fine wsX12_fine rmX12_fine [.ref m0, .int a1] (Mm m0 u L) sz r.1 (Mm m0 r.2 L) sz := by
  refine m_startI (own := RX12) (cc := cX12_fine) (maxL := 2) (by decide) rfl rfl (Nat.le_of_ble_eq_true rfl) ?_
  intro p e s m args below meth c Q hC hname RET hsz hw ls hl
  have hx := hC.1
  have hb := hC.2.1
  replace hl : lv_has ls 2 [(0, .ref m0), (1, .int a1)] := hl
  unfold f_X12_fine at h
  refine lv_aload_n hx hb dX12_fine_0 rfl (lv_at hl 0 rfl) ?_
  refine lv_iconst (v := (0 : Int32)) hx hb dX12_fine_1 (by decide) ?_
  refine mo_put (k := 2) hMo hC hw (by decide) ki_X12_fine_X12 k_X12_fine_1 (fun _ z => z) rfl rfl rfl dX12_fine_2 (fun H locs hw => ?_)
  refine lv_iload_n hx hb dX12_fine_5 rfl (lv_at hl 1 rfl) ?_
  cases h
  exact RET hw ⟨(Nat.le_of_ble_eq_true rfl), (Nat.le_of_ble_eq_true rfl)⟩ dX12_fine_6

def f_X12_valueOn_L13 (n : Nat) (u : MS) (x1 : Int32) (x2 : Int32) : Nat → Int32 → Int32 → Int32 → Option (Int32)
  | 0, _, _, _ => none
  | k + 1, x3, x4, x5 => if (u.1 10) ≤ x5 then (some (x3)) else (if inb x5 48 then (if (u.2 11 (x5 : Int32).toNatClampNeg) = x1 then (if inb x5 48 then (if x2 < (u.2 12 (x5 : Int32).toNatClampNeg) then (f_X12_valueOn_L13 n u x1 x2 k x3 x4 (x5 + (1 : Int32))) else (if inb x5 48 then (if x4 ≤ (u.2 12 (x5 : Int32).toNatClampNeg) then (if inb x5 48 then (if inb x5 48 then (f_X12_valueOn_L13 n u x1 x2 k (u.2 13 (x5 : Int32).toNatClampNeg) (u.2 12 (x5 : Int32).toNatClampNeg) (x5 + (1 : Int32))) else none) else none) else (f_X12_valueOn_L13 n u x1 x2 k x3 x4 (x5 + (1 : Int32)))) else none)) else none) else (f_X12_valueOn_L13 n u x1 x2 k x3 x4 (x5 + (1 : Int32)))) else none)
def f_X12_valueOn (n : Nat) (u : MS) (a1 : Int32) (a2 : Int32) : Option (Int32) := if inb a1 16 then (f_X12_valueOn_L13 n u a1 a2 n (u.2 7 (a1 : Int32).toNatClampNeg) (-1 : Int32) (0 : Int32)) else none
def rmX12_valueOn : Room := { frames := 0, cells := 0, slots := 0, locals := 0 }
theorem k_X12_valueOn_31 : Cond.fieldLink RX12 31 "LoanBookModel" "firstValue" "[I" ∈ wsX12_valueOn := List.mem_of_getElem? (i := 1) rfl
theorem ki_X12_valueOn_X12 : ∀ w ∈ u_ws RX12 TX12 51, w ∈ wsX12_valueOn := sub_r _ [6, 7, 8, 9, 10, 11, 12, 13, 14, 15, 16, 17, 18, 19, 20, 21, 22, 23, 24, 25, 26, 27, 28, 29, 30, 31, 32, 33, 34, 35, 36, 37, 38, 39, 40, 41, 42, 43, 44, 45, 46, 47, 48, 49, 50, 51, 52, 53, 54, 55, 56] (by decide +kernel)
theorem k_X12_valueOn_34 : Cond.fieldLink RX12 34 "LoanBookModel" "appraised" "I" ∈ wsX12_valueOn := List.mem_of_getElem? (i := 2) rfl
theorem k_X12_valueOn_37 : Cond.fieldLink RX12 37 "LoanBookModel" "appraisedThing" "[I" ∈ wsX12_valueOn := List.mem_of_getElem? (i := 3) rfl
theorem k_X12_valueOn_40 : Cond.fieldLink RX12 40 "LoanBookModel" "appraisedDay" "[I" ∈ wsX12_valueOn := List.mem_of_getElem? (i := 4) rfl
theorem k_X12_valueOn_43 : Cond.fieldLink RX12 43 "LoanBookModel" "appraisedValue" "[I" ∈ wsX12_valueOn := List.mem_of_getElem? (i := 5) rfl
set_option maxHeartbeats 4000000 in
set_option maxRecDepth 100000 in
theorem c_X12_valueOn {G : wG} {l : Launch} {n : Nat} {m0 : Nat} {L : Mem} {u : MS} {sz : Nat} {a1 : Int32} {a2 : Int32} {r : Int32} (hMo : MoOK G m0 L) (h : f_X12_valueOn n u a1 a2 = some r) : CtrI G l yX12_valueOn wsX12_valueOn rmX12_valueOn [.ref m0, .int a1, .int a2] (Mm m0 u L) sz r (Mm m0 u L) sz := by
  refine m_startI (own := RX12) (cc := cX12_valueOn) (maxL := 6) (by decide) rfl rfl (Nat.le_of_ble_eq_true rfl) ?_
  intro p e s m args below meth c Q hC hname RET hsz hw ls hl
  have hx := hC.1
  have hb := hC.2.1
  replace hl : lv_has ls 6 [(0, .ref m0), (1, .int a1), (2, .int a2)] := hl
  have L13 : ∀ (x1 : Int32) (x2 : Int32) (k : Nat) (x3 : Int32) (x4 : Int32) (x5 : Int32) (H : Heap) (locs : List Loc) (ls : Array Slot), f_X12_valueOn_L13 n u x1 x2 k x3 x4 x5 = some r → wD G s (Mm m0 u L) (Mm m0 u L) sz H locs → lv_has ls 6 [(0, .ref m0), (1, .int x1), (2, .int x2), (3, .int x3), (4, .int x4), (5, .int x5)] → W p l e rmX12_valueOn s m args below meth c H locs 0 0 Q (F0 m 13 ls []) := by
    intro x1 x2 k
    induction k with
    | zero =>
      intro x3 x4 x5 H locs ls h
      exact absurd (show (none : Option (Int32)) = some r from h) (fun z => by cases z)
    | succ k ih =>
      intro x3 x4 x5 H locs ls h hw hl
      rw [f_X12_valueOn_L13] at h
      refine lv_iload hx hb dX12_valueOn_13 (lv_at hl 5 rfl) ?_
      refine lv_aload_n hx hb dX12_valueOn_15 rfl (lv_at hl 0 rfl) ?_
      refine m_getV hC hw (ci := 15) (k := 10) (C := RX12) (T := TX12) (N := 51) (Mm_obj _ _ _) (v := .int (u.1 10)) rfl ki_X12_valueOn_X12 rfl (by decide) k_X12_valueOn_34 (fun _ z => z) dX12_valueOn_16 ?_
      refine lv_icmp_ge (tgt := 82) hx hb dX12_valueOn_19 (by decide) (fun c2 => ?_) (fun c2 => ?_)
      · replace h := itt h c2
        refine lv_iload_n hx hb dX12_valueOn_82 rfl (lv_at hl 3 rfl) ?_
        cases h
        exact RET hw ⟨(Nat.le_of_ble_eq_true rfl), (Nat.le_of_ble_eq_true rfl)⟩ dX12_valueOn_83
      · replace h := itf h c2
        refine lv_aload_n hx hb dX12_valueOn_22 rfl (lv_at hl 0 rfl) ?_
        refine m_getV hC hw (ci := 15) (k := 11) (C := RX12) (T := TX12) (N := 51) (Mm_obj _ _ _) (v := .ref (m0 + 6)) rfl ki_X12_valueOn_X12 rfl (by decide) k_X12_valueOn_37 (fun _ z => z) dX12_valueOn_23 ?_
        refine lv_iload hx hb dX12_valueOn_26 (lv_at hl 5 rfl) ?_
        obtain ⟨g3, h⟩ := itg h
        refine m_iald (x := some (m0 + 6)) hC hw (Mm_aI (j := 5) rfl g3) dX12_valueOn_28 ?_
        refine lv_iload_n hx hb dX12_valueOn_29 rfl (lv_at hl 1 rfl) ?_
        refine lv_icmp_ne (tgt := 76) hx hb dX12_valueOn_30 (by decide) (fun c4 => ?_) (fun c4 => ?_)
        · replace h := itf h c4
          refine lv_iinc (v := (x5 + (1 : Int32))) (lv' := [(5, .int (x5 + (1 : Int32))), (0, .ref m0), (1, .int x1), (2, .int x2), (3, .int x3), (4, .int x4)]) hx hb dX12_valueOn_76 hl (k := 5) rfl rfl (by decide) rfl (fun ls hl => ?_)
          refine lv_goto (tgt := 13) hx hb dX12_valueOn_79 (by decide) ?_
          exact ih _ _ _ _ _ _ h hw (lv_sub hl [1, 2, 3, 4, 5, 0] rfl)
        · replace h := itt h c4
          refine lv_aload_n hx hb dX12_valueOn_33 rfl (lv_at hl 0 rfl) ?_
          refine m_getV hC hw (ci := 15) (k := 12) (C := RX12) (T := TX12) (N := 51) (Mm_obj _ _ _) (v := .ref (m0 + 7)) rfl ki_X12_valueOn_X12 rfl (by decide) k_X12_valueOn_40 (fun _ z => z) dX12_valueOn_34 ?_
          refine lv_iload hx hb dX12_valueOn_37 (lv_at hl 5 rfl) ?_
          obtain ⟨g5, h⟩ := itg h
          refine m_iald (x := some (m0 + 7)) hC hw (Mm_aI (j := 6) rfl g5) dX12_valueOn_39 ?_
          refine lv_iload_n hx hb dX12_valueOn_40 rfl (lv_at hl 2 rfl) ?_
          refine lv_icmp_gt (tgt := 76) hx hb dX12_valueOn_41 (by decide) (fun c6 => ?_) (fun c6 => ?_)
          · replace h := itt h c6
            refine lv_iinc (v := (x5 + (1 : Int32))) (lv' := [(5, .int (x5 + (1 : Int32))), (0, .ref m0), (1, .int x1), (2, .int x2), (3, .int x3), (4, .int x4)]) hx hb dX12_valueOn_76 hl (k := 5) rfl rfl (by decide) rfl (fun ls hl => ?_)
            refine lv_goto (tgt := 13) hx hb dX12_valueOn_79 (by decide) ?_
            exact ih _ _ _ _ _ _ h hw (lv_sub hl [1, 2, 3, 4, 5, 0] rfl)
          · replace h := itf h c6
            refine lv_aload_n hx hb dX12_valueOn_44 rfl (lv_at hl 0 rfl) ?_
            refine m_getV hC hw (ci := 15) (k := 12) (C := RX12) (T := TX12) (N := 51) (Mm_obj _ _ _) (v := .ref (m0 + 7)) rfl ki_X12_valueOn_X12 rfl (by decide) k_X12_valueOn_40 (fun _ z => z) dX12_valueOn_45 ?_
            refine lv_iload hx hb dX12_valueOn_48 (lv_at hl 5 rfl) ?_
            obtain ⟨g7, h⟩ := itg h
            refine m_iald (x := some (m0 + 7)) hC hw (Mm_aI (j := 6) rfl g7) dX12_valueOn_50 ?_
            refine lv_iload hx hb dX12_valueOn_51 (lv_at hl 4 rfl) ?_
            refine lv_icmp_ge (tgt := 59) hx hb dX12_valueOn_53 (by decide) (fun c8 => ?_) (fun c8 => ?_)
            · replace h := itt h c8
              refine lv_aload_n hx hb dX12_valueOn_59 rfl (lv_at hl 0 rfl) ?_
              refine m_getV hC hw (ci := 15) (k := 12) (C := RX12) (T := TX12) (N := 51) (Mm_obj _ _ _) (v := .ref (m0 + 7)) rfl ki_X12_valueOn_X12 rfl (by decide) k_X12_valueOn_40 (fun _ z => z) dX12_valueOn_60 ?_
              refine lv_iload hx hb dX12_valueOn_63 (lv_at hl 5 rfl) ?_
              obtain ⟨g9, h⟩ := itg h
              refine m_iald (x := some (m0 + 7)) hC hw (Mm_aI (j := 6) rfl g9) dX12_valueOn_65 ?_
              refine lv_istore (lv' := [(4, .int (u.2 12 (x5 : Int32).toNatClampNeg)), (0, .ref m0), (1, .int x1), (2, .int x2), (3, .int x3), (5, .int x5)]) hx hb dX12_valueOn_66 hl (by decide) rfl (fun ls hl => ?_)
              refine lv_aload_n hx hb dX12_valueOn_68 rfl (lv_at hl 1 rfl) ?_
              refine m_getV hC hw (ci := 15) (k := 13) (C := RX12) (T := TX12) (N := 51) (Mm_obj _ _ _) (v := .ref (m0 + 8)) rfl ki_X12_valueOn_X12 rfl (by decide) k_X12_valueOn_43 (fun _ z => z) dX12_valueOn_69 ?_
              refine lv_iload hx hb dX12_valueOn_72 (lv_at hl 5 rfl) ?_
              obtain ⟨g10, h⟩ := itg h
              refine m_iald (x := some (m0 + 8)) hC hw (Mm_aI (j := 7) rfl g10) dX12_valueOn_74 ?_
              refine lv_istore_n (lv' := [(3, .int (u.2 13 (x5 : Int32).toNatClampNeg)), (4, .int (u.2 12 (x5 : Int32).toNatClampNeg)), (0, .ref m0), (1, .int x1), (2, .int x2), (5, .int x5)]) hx hb dX12_valueOn_75 rfl hl (by decide) rfl (fun ls hl => ?_)
              refine lv_iinc (v := (x5 + (1 : Int32))) (lv' := [(5, .int (x5 + (1 : Int32))), (3, .int (u.2 13 (x5 : Int32).toNatClampNeg)), (4, .int (u.2 12 (x5 : Int32).toNatClampNeg)), (0, .ref m0), (1, .int x1), (2, .int x2)]) hx hb dX12_valueOn_76 hl (k := 5) rfl rfl (by decide) rfl (fun ls hl => ?_)
              refine lv_goto (tgt := 13) hx hb dX12_valueOn_79 (by decide) ?_
              exact ih _ _ _ _ _ _ h hw (lv_sub hl [3, 4, 5, 1, 2, 0] rfl)
            · replace h := itf h c8
              refine lv_goto (tgt := 76) hx hb dX12_valueOn_56 (by decide) ?_
              refine lv_iinc (v := (x5 + (1 : Int32))) (lv' := [(5, .int (x5 + (1 : Int32))), (0, .ref m0), (1, .int x1), (2, .int x2), (3, .int x3), (4, .int x4)]) hx hb dX12_valueOn_76 hl (k := 5) rfl rfl (by decide) rfl (fun ls hl => ?_)
              refine lv_goto (tgt := 13) hx hb dX12_valueOn_79 (by decide) ?_
              exact ih _ _ _ _ _ _ h hw (lv_sub hl [1, 2, 3, 4, 5, 0] rfl)
  unfold f_X12_valueOn at h
  refine lv_aload_n hx hb dX12_valueOn_0 rfl (lv_at hl 0 rfl) ?_
  refine m_getV hC hw (ci := 15) (k := 7) (C := RX12) (T := TX12) (N := 51) (Mm_obj _ _ _) (v := .ref (m0 + 3)) rfl ki_X12_valueOn_X12 rfl (by decide) k_X12_valueOn_31 (fun _ z => z) dX12_valueOn_1 ?_
  refine lv_iload_n hx hb dX12_valueOn_4 rfl (lv_at hl 1 rfl) ?_
  obtain ⟨g1, h⟩ := itg h
  refine m_iald (x := some (m0 + 3)) hC hw (Mm_aI (j := 2) rfl g1) dX12_valueOn_5 ?_
  refine lv_istore_n (lv' := [(3, .int (u.2 7 (a1 : Int32).toNatClampNeg)), (0, .ref m0), (1, .int a1), (2, .int a2)]) hx hb dX12_valueOn_6 rfl hl (by decide) rfl (fun ls hl => ?_)
  refine lv_iconst (v := (-1 : Int32)) hx hb dX12_valueOn_7 (by decide) ?_
  refine lv_istore (lv' := [(4, .int (-1 : Int32)), (3, .int (u.2 7 (a1 : Int32).toNatClampNeg)), (0, .ref m0), (1, .int a1), (2, .int a2)]) hx hb dX12_valueOn_8 hl (by decide) rfl (fun ls hl => ?_)
  refine lv_iconst (v := (0 : Int32)) hx hb dX12_valueOn_10 (by decide) ?_
  refine lv_istore (lv' := [(5, .int (0 : Int32)), (4, .int (-1 : Int32)), (3, .int (u.2 7 (a1 : Int32).toNatClampNeg)), (0, .ref m0), (1, .int a1), (2, .int a2)]) hx hb dX12_valueOn_11 hl (by decide) rfl (fun ls hl => ?_)
  exact L13 a1 a2 _ _ _ _ _ _ _ h hw (lv_sub hl [3, 4, 5, 2, 1, 0] rfl)

def f_X12_feed_L22 (n : Nat) (x1 : Int32) (x2 : Int32) (x3 : Int32) (x4 : Int32) (x5 : Int32) : Nat → MS → Int32 → Option (Int32 × MS)
  | 0, _, _ => none
  | k + 1, uz, x6 => if (20 : Int32) ≤ x6 then ((f_X12_fine uz (uz.1 1)).bind fun r3 => some ((r3.1, r3.2))) else (((if (4 : Int32) ≤ x6 then (if (8 : Int32) ≤ x6 then (if (12 : Int32) ≤ x6 then (if (16 : Int32) ≤ x6 then (some (x5)) else (some (x4))) else (some (x3))) else (some (x2))) else (some (x1))) : Option (Int32)).bind fun o9 => if inb (uz.1 1) 120 then (f_X12_feed_L22 n x1 x2 x3 x4 x5 k (uI (uA uz 0 ((uz.1 1) : Int32).toNatClampNeg ((o9 >>> (((24 : Int32) - ((8 : Int32) * (x6 - x6 / (4 : Int32) * (4 : Int32)))) &&& 31)) &&& (255 : Int32))) 1 (((uA uz 0 ((uz.1 1) : Int32).toNatClampNeg ((o9 >>> (((24 : Int32) - ((8 : Int32) * (x6 - x6 / (4 : Int32) * (4 : Int32)))) &&& 31)) &&& (255 : Int32))).1 1) + (1 : Int32))) (x6 + (1 : Int32))) else none)
def f_X12_feed (n : Nat) (u : MS) (a1 : Int32) (a2 : Int32) (a3 : Int32) (a4 : Int32) (a5 : Int32) : Option (Int32 × MS) := if ((u.1 1) + (20 : Int32)) ≤ (120 : Int32) then (f_X12_feed_L22 n a1 a2 a3 a4 a5 n u (0 : Int32)) else ((f_X12_no u (9 : Int32)).bind fun r11 => some (r11.1, r11.2))
def rmX12_feed : Room := { frames := 1, cells := 0, slots := 0, locals := 21 }
theorem k_X12_feed_268 : Cond.fieldLink RX12 268 "LoanBookModel" "taped" "I" ∈ wsX12_feed := List.mem_of_getElem? (i := 1) rfl
theorem ki_X12_feed_X12 : ∀ w ∈ u_ws RX12 TX12 51, w ∈ wsX12_feed := sub_r _ [13, 14, 15, 16, 17, 18, 19, 20, 21, 22, 23, 24, 25, 26, 27, 28, 29, 30, 31, 32, 33, 34, 35, 36, 37, 38, 39, 40, 41, 42, 43, 44, 45, 46, 47, 48, 49, 50, 51, 52, 53, 54, 55, 56, 57, 58, 59, 60, 61, 62, 63] (by decide +kernel)
theorem k_X12_feed_259 : Cond.fieldLink RX12 259 "LoanBookModel" "tape" "[I" ∈ wsX12_feed := List.mem_of_getElem? (i := 2) rfl
set_option maxHeartbeats 4000000 in
set_option maxRecDepth 100000 in
theorem c_X12_feed {G : wG} {l : Launch} {n : Nat} {m0 : Nat} {L : Mem} {u : MS} {sz : Nat} {a1 : Int32} {a2 : Int32} {a3 : Int32} {a4 : Int32} {a5 : Int32} {r : Int32 × MS} (hMo : MoOK G m0 L) (h : f_X12_feed n u a1 a2 a3 a4 a5 = some r) : CtrI G l yX12_feed wsX12_feed rmX12_feed [.ref m0, .int a1, .int a2, .int a3, .int a4, .int a5] (Mm m0 u L) sz r.1 (Mm m0 r.2 L) sz := by
  refine m_startI (own := RX12) (cc := cX12_feed) (maxL := 8) (by decide) rfl rfl (Nat.le_of_ble_eq_true rfl) ?_
  intro p e s m args below meth c Q hC hname RET hsz hw ls hl
  have hx := hC.1
  have hb := hC.2.1
  replace hl : lv_has ls 8 [(0, .ref m0), (1, .int a1), (2, .int a2), (3, .int a3), (4, .int a4), (5, .int a5)] := hl
  have L22 : ∀ (x1 : Int32) (x2 : Int32) (x3 : Int32) (x4 : Int32) (x5 : Int32) (k : Nat) (uz : MS) (x6 : Int32) (H : Heap) (locs : List Loc) (ls : Array Slot), f_X12_feed_L22 n x1 x2 x3 x4 x5 k uz x6 = some r → wD G s (Mm m0 u L) (Mm m0 uz L) sz H locs → lv_has ls 8 [(0, .ref m0), (1, .int x1), (2, .int x2), (3, .int x3), (4, .int x4), (5, .int x5), (6, .int x6)] → W p l e rmX12_feed s m args below meth c H locs 0 0 Q (F0 m 22 ls []) := by
    intro x1 x2 x3 x4 x5 k
    induction k with
    | zero =>
      intro uz x6 H locs ls h
      exact absurd (show (none : Option (Int32 × MS)) = some r from h) (fun z => by cases z)
    | succ k ih =>
      intro uz x6 H locs ls h hw hl
      rw [f_X12_feed_L22] at h
      refine lv_iload hx hb dX12_feed_22 (lv_at hl 6 rfl) ?_
      refine lv_bipush (v := (20 : Int32)) hx hb dX12_feed_24 (by decide) ?_
      refine lv_icmp_ge (tgt := 119) hx hb dX12_feed_26 (by decide) (fun c2 => ?_) (fun c2 => ?_)
      · replace h := itt h c2
        refine lv_aload_n hx hb dX12_feed_119 rfl (lv_at hl 0 rfl) ?_
        refine lv_aload_n hx hb dX12_feed_120 rfl (lv_at hl 0 rfl) ?_
        refine m_getV hC hw (ci := 15) (k := 1) (C := RX12) (T := TX12) (N := 51) (Mm_obj _ _ _) (v := .int (uz.1 1)) rfl ki_X12_feed_X12 rfl (by decide) k_X12_feed_268 (fun _ z => z) dX12_feed_121 ?_
        obtain ⟨r3, hr3, h⟩ := ob h
        refine m_contI hC hw (m_runV hC hw (x := (some m0)) (ci := 15) (N := 51) (C := RX12) (T := TX12) (n := 1) (av := [.int (uz.1 1)]) (rest := []) (c_X12_fine (G := G) (l := l) hMo hr3) gX12_feed_X12_fine rfl (by decide +kernel) ⟨(Nat.le_of_ble_eq_true rfl), (Nat.le_of_ble_eq_true rfl)⟩ (isO_Mm _ _ _) rfl rfl hl.1 rfl (Nat.le_of_ble_eq_true rfl) dX12_feed_124 ⟨(Nat.le_of_ble_eq_true rfl), (Nat.le_of_ble_eq_true rfl)⟩) (fun H locs hw => ?_)
        cases h
        exact RET hw ⟨(Nat.le_of_ble_eq_true rfl), (Nat.le_of_ble_eq_true rfl)⟩ dX12_feed_127
      · replace h := itf h c2
        refine lv_iload hx hb dX12_feed_29 (lv_at hl 6 rfl) ?_
        refine lv_iconst (v := (4 : Int32)) hx hb dX12_feed_31 (by decide) ?_
        obtain ⟨o9, ho9, h⟩ := ob h
        have J4 : ∀ (H : Heap) (locs : List Loc) (ls : Array Slot), wD G s (Mm m0 u L) (Mm m0 uz L) sz H locs → lv_has ls 8 [(0, .ref m0), (1, .int x1), (2, .int x2), (3, .int x3), (4, .int x4), (5, .int x5), (6, .int x6)] → W p l e rmX12_feed s m args below meth c H locs 0 0 Q (F0 m 75 ls [.int o9]) := by
          intro H locs ls hw hl
          refine lv_istore (lv' := [(7, .int o9), (0, .ref m0), (1, .int x1), (2, .int x2), (3, .int x3), (4, .int x4), (5, .int x5), (6, .int x6)]) hx hb dX12_feed_75 hl (by decide) rfl (fun ls hl => ?_)
          refine lv_aload_n hx hb dX12_feed_77 rfl (lv_at hl 1 rfl) ?_
          refine m_getV hC hw (ci := 15) (k := 0) (C := RX12) (T := TX12) (N := 51) (Mm_obj _ _ _) (v := .ref (m0 + 1)) rfl ki_X12_feed_X12 rfl (by decide) k_X12_feed_259 (fun _ z => z) dX12_feed_78 ?_
          refine lv_aload_n hx hb dX12_feed_81 rfl (lv_at hl 1 rfl) ?_
          refine m_getV hC hw (ci := 15) (k := 1) (C := RX12) (T := TX12) (N := 51) (Mm_obj _ _ _) (v := .int (uz.1 1)) rfl ki_X12_feed_X12 rfl (by decide) k_X12_feed_268 (fun _ z => z) dX12_feed_82 ?_
          refine lv_iload hx hb dX12_feed_85 (lv_at hl 0 rfl) ?_
          refine lv_bipush (v := (24 : Int32)) hx hb dX12_feed_87 (by decide) ?_
          refine lv_bipush (v := (8 : Int32)) hx hb dX12_feed_89 (by decide) ?_
          refine lv_iload hx hb dX12_feed_91 (lv_at hl 7 rfl) ?_
          refine lv_iconst (v := (4 : Int32)) hx hb dX12_feed_93 (by decide) ?_
          refine lv_irem hx hb dX12_feed_94 (by decide) ?_
          refine lv_imul hx hb dX12_feed_95 ?_
          refine lv_isub hx hb dX12_feed_96 ?_
          refine lv_ishr hx hb dX12_feed_97 ?_
          refine lv_sipush (v := (255 : Int32)) hx hb dX12_feed_98 (by decide) ?_
          refine lv_iand hx hb dX12_feed_101 ?_
          obtain ⟨g10, h⟩ := itg h
          refine m_iast (x := some (m0 + 1)) (M1 := Mm m0 (uA uz 0 ((uz.1 1) : Int32).toNatClampNeg ((o9 >>> (((24 : Int32) - ((8 : Int32) * (x6 - x6 / (4 : Int32) * (4 : Int32)))) &&& 31)) &&& (255 : Int32))) L) hC hw (Mm_sI hMo (j := 0) rfl g10) dX12_feed_102 (fun H locs hw => ?_)
          refine lv_aload_n hx hb dX12_feed_103 rfl (lv_at hl 1 rfl) ?_
          refine lv_dup hx hb dX12_feed_104 rfl ?_
          refine m_getV hC hw (ci := 15) (k := 1) (C := RX12) (T := TX12) (N := 51) (Mm_obj _ _ _) (v := .int ((uA uz 0 ((uz.1 1) : Int32).toNatClampNeg ((o9 >>> (((24 : Int32) - ((8 : Int32) * (x6 - x6 / (4 : Int32) * (4 : Int32)))) &&& 31)) &&& (255 : Int32))).1 1)) rfl ki_X12_feed_X12 rfl (by decide) k_X12_feed_268 (fun _ z => z) dX12_feed_105 ?_
          refine lv_iconst (v := (1 : Int32)) hx hb dX12_feed_108 (by decide) ?_
          refine lv_iadd hx hb dX12_feed_109 ?_
          refine mo_put (k := 1) hMo hC hw (by decide) ki_X12_feed_X12 k_X12_feed_268 (fun _ z => z) rfl rfl rfl dX12_feed_110 (fun H locs hw => ?_)
          refine lv_iinc (v := (x6 + (1 : Int32))) (lv' := [(6, .int (x6 + (1 : Int32))), (7, .int o9), (0, .ref m0), (1, .int x1), (2, .int x2), (3, .int x3), (4, .int x4), (5, .int x5)]) hx hb dX12_feed_113 hl (k := 7) rfl rfl (by decide) rfl (fun ls hl => ?_)
          refine lv_goto (tgt := 22) hx hb dX12_feed_116 (by decide) ?_
          exact ih _ _ _ _ _ h hw (lv_sub hl [2, 3, 4, 5, 6, 7, 0] rfl)
        clear h
        replace h := ho9
        refine lv_icmp_ge (tgt := 39) hx hb dX12_feed_32 (by decide) (fun c5 => ?_) (fun c5 => ?_)
        · replace h := itt h c5
          refine lv_iload hx hb dX12_feed_39 (lv_at hl 6 rfl) ?_
          refine lv_bipush (v := (8 : Int32)) hx hb dX12_feed_41 (by decide) ?_
          refine lv_icmp_ge (tgt := 50) hx hb dX12_feed_43 (by decide) (fun c6 => ?_) (fun c6 => ?_)
          · replace h := itt h c6
            refine lv_iload hx hb dX12_feed_50 (lv_at hl 6 rfl) ?_
            refine lv_bipush (v := (12 : Int32)) hx hb dX12_feed_52 (by decide) ?_
            refine lv_icmp_ge (tgt := 61) hx hb dX12_feed_54 (by decide) (fun c7 => ?_) (fun c7 => ?_)
            · replace h := itt h c7
              refine lv_iload hx hb dX12_feed_61 (lv_at hl 6 rfl) ?_
              refine lv_bipush (v := (16 : Int32)) hx hb dX12_feed_63 (by decide) ?_
              refine lv_icmp_ge (tgt := 73) hx hb dX12_feed_65 (by decide) (fun c8 => ?_) (fun c8 => ?_)
              · replace h := itt h c8
                refine lv_iload hx hb dX12_feed_73 (lv_at hl 5 rfl) ?_
                cases h
                exact J4 _ _ _ hw (lv_sub hl [0, 1, 2, 3, 4, 5, 6] rfl)
              · replace h := itf h c8
                refine lv_iload hx hb dX12_feed_68 (lv_at hl 4 rfl) ?_
                refine lv_goto (tgt := 75) hx hb dX12_feed_70 (by decide) ?_
                cases h
                exact J4 _ _ _ hw (lv_sub hl [0, 1, 2, 3, 4, 5, 6] rfl)
            · replace h := itf h c7
              refine lv_iload_n hx hb dX12_feed_57 rfl (lv_at hl 3 rfl) ?_
              refine lv_goto (tgt := 75) hx hb dX12_feed_58 (by decide) ?_
              cases h
              exact J4 _ _ _ hw (lv_sub hl [0, 1, 2, 3, 4, 5, 6] rfl)
          · replace h := itf h c6
            refine lv_iload_n hx hb dX12_feed_46 rfl (lv_at hl 2 rfl) ?_
            refine lv_goto (tgt := 75) hx hb dX12_feed_47 (by decide) ?_
            cases h
            exact J4 _ _ _ hw (lv_sub hl [0, 1, 2, 3, 4, 5, 6] rfl)
        · replace h := itf h c5
          refine lv_iload_n hx hb dX12_feed_35 rfl (lv_at hl 1 rfl) ?_
          refine lv_goto (tgt := 75) hx hb dX12_feed_36 (by decide) ?_
          cases h
          exact J4 _ _ _ hw (lv_sub hl [0, 1, 2, 3, 4, 5, 6] rfl)
  unfold f_X12_feed at h
  refine lv_aload_n hx hb dX12_feed_0 rfl (lv_at hl 0 rfl) ?_
  refine m_getV hC hw (ci := 15) (k := 1) (C := RX12) (T := TX12) (N := 51) (Mm_obj _ _ _) (v := .int (u.1 1)) rfl ki_X12_feed_X12 rfl (by decide) k_X12_feed_268 (fun _ z => z) dX12_feed_1 ?_
  refine lv_bipush (v := (20 : Int32)) hx hb dX12_feed_4 (by decide) ?_
  refine lv_iadd hx hb dX12_feed_6 ?_
  refine lv_bipush (v := (120 : Int32)) hx hb dX12_feed_7 (by decide) ?_
  refine lv_icmp_le (tgt := 19) hx hb dX12_feed_9 (by decide) (fun c1 => ?_) (fun c1 => ?_)
  · replace h := itt h c1
    refine lv_iconst (v := (0 : Int32)) hx hb dX12_feed_19 (by decide) ?_
    refine lv_istore (lv' := [(6, .int (0 : Int32)), (0, .ref m0), (1, .int a1), (2, .int a2), (3, .int a3), (4, .int a4), (5, .int a5)]) hx hb dX12_feed_20 hl (by decide) rfl (fun ls hl => ?_)
    exact L22 a1 a2 a3 a4 a5 _ _ _ _ _ _ h hw (lv_sub hl [1, 2, 3, 4, 5, 6, 0] rfl)
  · replace h := itf h c1
    refine lv_aload_n hx hb dX12_feed_12 rfl (lv_at hl 0 rfl) ?_
    refine lv_bipush (v := (9 : Int32)) hx hb dX12_feed_13 (by decide) ?_
    obtain ⟨r11, hr11, h⟩ := ob h
    refine m_contI hC hw (m_runV hC hw (x := (some m0)) (ci := 15) (N := 51) (C := RX12) (T := TX12) (n := 1) (av := [.int (9 : Int32)]) (rest := []) (c_X12_no (G := G) (l := l) hMo hr11) gX12_feed_X12_no rfl (by decide +kernel) ⟨(Nat.le_of_ble_eq_true rfl), (Nat.le_of_ble_eq_true rfl)⟩ (isO_Mm _ _ _) rfl rfl hl.1 rfl (Nat.le_of_ble_eq_true rfl) dX12_feed_15 ⟨(Nat.le_of_ble_eq_true rfl), (Nat.le_of_ble_eq_true rfl)⟩) (fun H locs hw => ?_)
    cases h
    exact RET hw ⟨(Nat.le_of_ble_eq_true rfl), (Nat.le_of_ble_eq_true rfl)⟩ dX12_feed_18
