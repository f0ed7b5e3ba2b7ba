def f_X9_init (B : Nat) (M : Mem) (sz : Nat) (this : Option Nat) : Option (Mem × Nat) := if this ≠ none then (if ¬ (120 : Int32) < 0 ∧ ((120 : Int32) : Int32).toNatClampNeg ≤ 120 then ((some (va_up M sz (some (.inr (.inl (0, ((120 : Int32) : Int32).toNatClampNeg, fun _ => 0)))))).bind fun M2 => (pF B M2 this 12 0 (va_rf (some sz))).bind fun M4 => (pF B M4 this 12 1 (.int (0 : Int32))).bind fun M5 => some (M5, (sz + 1))) else none) else none
def rmX9_init : Room := { frames := 1, cells := 1, slots := 120, locals := 20 }
theorem k_X9_init_oi3 : Cond.methodLink RX9 3 objectInit ∈ wsX9_init := List.mem_of_getElem? (i := 1) rfl
theorem k_X9_init_oj : Cond.instanceMethod objectInit ∈ wsX9_init := List.mem_of_getElem? (i := 2) rfl
theorem k_X9_init_ok : Cond.code objectInit ⟨#[0xb1]⟩ 1 none ∈ wsX9_init := List.mem_of_getElem? (i := 3) rfl
theorem k_X9_init_naint : Cond.arrayClass .int ∈ wsX9_init := List.mem_of_getElem? (i := 4) rfl
theorem k_X9_init_11 : Cond.fieldLink RX9 11 "LoanBook$Tape" "bytes" "[I" ∈ wsX9_init := List.mem_of_getElem? (i := 5) rfl
theorem ki_X9_init_X9 : ∀ w ∈ u_ws RX9 TX9 2, w ∈ wsX9_init := sub_r [7, 8] (by decide +kernel)
theorem k_X9_init_15 : Cond.fieldLink RX9 15 "LoanBook$Tape" "size" "I" ∈ wsX9_init := List.mem_of_getElem? (i := 6) rfl
set_option maxHeartbeats 4000000 in
set_option maxRecDepth 100000 in
theorem c_X9_init {G : wG} {l : Launch} {M : Mem} {sz : Nat} {this : Option Nat} {r : Mem × Nat} (h : f_X9_init G.2.2.1 M sz this = some r) : CtrV G l yX9_init wsX9_init rmX9_init [va_rf this] M sz r.1 r.2 := by
  refine m_startV (own := RX9) (cc := cX9_init) (maxL := 1) (lv0 := [(0, va_rf this)]) (by decide) rfl rfl (by simp [lg_sl, va_rf_cat, cat_i, cat_r]) (by simp [lv_args, va_rf_cat, cat_i, cat_r]) ?_
  intro p e s m args below meth c Q hC hname RET hsz hw ls hl
  have hx := hC.1
  have hb := hC.2.1
  unfold f_X9_init at h
  refine m_aload_n (x := this) hx hb dX9_init_0 rfl (lv_at hl 0 rfl) ?_
  obtain ⟨g1, h⟩ := itg h
  refine m_objInit (x := this) (isN_some g1) hC (hC.tab _ k_X9_init_oi3) (hC.tab _ k_X9_init_oj) (hC.tab _ k_X9_init_ok) hl.1 ((Nat.le_of_ble_eq_true rfl)) (Nat.le_of_ble_eq_true rfl) (Nat.le_of_ble_eq_true rfl) dX9_init_1 ?_
  refine m_aload_n (x := this) hx hb dX9_init_4 rfl (lv_at hl 0 rfl) ?_
  refine lv_bipush (v := (120 : Int32)) hx hb dX9_init_5 (by decide) ?_
  obtain ⟨g3, h⟩ := itg h
  obtain ⟨M2, hM2, h⟩ := ob h
  refine m_newI (atype := .int) (t := 0) (n := (120 : Int32)) (cap := 120) hC hw rfl (fun _ _ => rfl) (by decide) k_X9_init_naint (nmA0 hC) g3.1 g3.2 (by decide) (Nat.le_of_ble_eq_true rfl) (Nat.le_of_ble_eq_true rfl) dX9_init_7 (fun H hw => ?_)
  rw [Option.some.inj hM2] at hw
  obtain ⟨M4, hM4, h⟩ := ob h
  refine m_putF hC hw (C := RX9) (T := TX9) (N := 2) (x := this) hM4 ki_X9_init_X9 tyX9 tyX9_ok nmX9 rfl (by decide) k_X9_init_11 (fun _ z => z) rfl hname rfl (nar_rf _ _ (by decide)) (fit_rf _ _ (by decide)) dX9_init_9 (fun H locs hw => ?_)
  refine m_aload_n (x := this) hx hb dX9_init_12 rfl (lv_at hl 0 rfl) ?_
  refine lv_iconst (v := (0 : Int32)) hx hb dX9_init_13 (by decide) ?_
  obtain ⟨M5, hM5, h⟩ := ob h
  refine m_put hC hw (C := RX9) (T := TX9) (N := 2) (x := this) hM5 ki_X9_init_X9 tyX9 tyX9_ok nmX9 rfl (by decide) k_X9_init_15 (fun _ z => z) rfl rfl rfl dX9_init_14 (fun H locs hw => ?_)
  replace h := Option.some.inj h
  subst h
  exact RET hw ⟨(Nat.le_of_ble_eq_true rfl), (Nat.le_of_ble_eq_true rfl)⟩ dX9_init_17

def f_X6_init (B : Nat) (M : Mem) (sz : Nat) (this : Option Nat) : Option (Mem × Nat) := if this ≠ none then (if ¬ (120 : Int32) < 0 ∧ ((120 : Int32) : Int32).toNatClampNeg ≤ 120 then ((some (va_up M sz (some (.inr (.inl (0, ((120 : Int32) : Int32).toNatClampNeg, fun _ => 0)))))).bind fun M2 => (pF B M2 this 9 0 (va_rf (some sz))).bind fun M4 => if ¬ (120 : Int32) < 0 ∧ ((120 : Int32) : Int32).toNatClampNeg ≤ 120 then ((some (va_up M4 (sz + 1) (some (.inr (.inl (0, ((120 : Int32) : Int32).toNatClampNeg, fun _ => 0)))))).bind fun M5 => (pF B M5 this 9 1 (va_rf (some (sz + 1)))).bind fun M7 => if ¬ (120 : Int32) < 0 ∧ ((120 : Int32) : Int32).toNatClampNeg ≤ 120 then ((some (va_up M7 ((sz + 1) + 1) (some (.inr (.inl (0, ((120 : Int32) : Int32).toNatClampNeg, fun _ => 0)))))).bind fun M8 => (pF B M8 this 9 2 (va_rf (some ((sz + 1) + 1)))).bind fun M10 => (pF B M10 this 9 3 (.int (0 : Int32))).bind fun M11 => (pF B M11 this 9 4 (.int (0 : Int32))).bind fun M12 => some (M12, (((sz + 1) + 1) + 1))) else none) else none) else none) else none
def rmX6_init : Room := { frames := 1, cells := 3, slots := 360, locals := 20 }
theorem k_X6_init_oi3 : Cond.methodLink RX6 3 objectInit ∈ wsX6_init := List.mem_of_getElem? (i := 1) rfl
theorem k_X6_init_oj : Cond.instanceMethod objectInit ∈ wsX6_init := List.mem_of_getElem? (i := 2) rfl
theorem k_X6_init_ok : Cond.code objectInit ⟨#[0xb1]⟩ 1 none ∈ wsX6_init := List.mem_of_getElem? (i := 3) rfl
theorem k_X6_init_naint : Cond.arrayClass .int ∈ wsX6_init := List.mem_of_getElem? (i := 4) rfl
theorem k_X6_init_11 : Cond.fieldLink RX6 11 "LoanBook$Pieces" "starts" "[I" ∈ wsX6_init := List.mem_of_getElem? (i := 5) rfl
theorem ki_X6_init_X6 : ∀ w ∈ u_ws RX6 TX6 5, w ∈ wsX6_init := sub_r [10, 11, 12, 13, 14] (by decide +kernel)
theorem k_X6_init_17 : Cond.fieldLink RX6 17 "LoanBook$Pieces" "codes" "[I" ∈ wsX6_init := List.mem_of_getElem? (i := 6) rfl
theorem k_X6_init_20 : Cond.fieldLink RX6 20 "LoanBook$Pieces" "numbers" "[I" ∈ wsX6_init := List.mem_of_getElem? (i := 7) rfl
theorem k_X6_init_23 : Cond.fieldLink RX6 23 "LoanBook$Pieces" "size" "I" ∈ wsX6_init := List.mem_of_getElem? (i := 8) rfl
theorem k_X6_init_27 : Cond.fieldLink RX6 27 "LoanBook$Pieces" "end" "I" ∈ wsX6_init := List.mem_of_getElem? (i := 9) rfl
set_option maxHeartbeats 4000000 in
set_option maxRecDepth 100000 in
theorem c_X6_init {G : wG} {l : Launch} {M : Mem} {sz : Nat} {this : Option Nat} {r : Mem × Nat} (h : f_X6_init G.2.2.1 M sz this = some r) : CtrV G l yX6_init wsX6_init rmX6_init [va_rf this] M sz r.1 r.2 := by
  refine m_startV (own := RX6) (cc := cX6_init) (maxL := 1) (lv0 := [(0, va_rf this)]) (by decide) rfl rfl (by simp [lg_sl, va_rf_cat, cat_i, cat_r]) (by simp [lv_args, va_rf_cat, cat_i, cat_r]) ?_
  intro p e s m args below meth c Q hC hname RET hsz hw ls hl
  have hx := hC.1
  have hb := hC.2.1
  unfold f_X6_init at h
  refine m_aload_n (x := this) hx hb dX6_init_0 rfl (lv_at hl 0 rfl) ?_
  obtain ⟨g1, h⟩ := itg h
  refine m_objInit (x := this) (isN_some g1) hC (hC.tab _ k_X6_init_oi3) (hC.tab _ k_X6_init_oj) (hC.tab _ k_X6_init_ok) hl.1 ((Nat.le_of_ble_eq_true rfl)) (Nat.le_of_ble_eq_true rfl) (Nat.le_of_ble_eq_true rfl) dX6_init_1 ?_
  refine m_aload_n (x := this) hx hb dX6_init_4 rfl (lv_at hl 0 rfl) ?_
  refine lv_bipush (v := (120 : Int32)) hx hb dX6_init_5 (by decide) ?_
  obtain ⟨g3, h⟩ := itg h
  obtain ⟨M2, hM2, h⟩ := ob h
  refine m_newI (atype := .int) (t := 0) (n := (120 : Int32)) (cap := 120) hC hw rfl (fun _ _ => rfl) (by decide) k_X6_init_naint (nmA0 hC) g3.1 g3.2 (by decide) (Nat.le_of_ble_eq_true rfl) (Nat.le_of_ble_eq_true rfl) dX6_init_7 (fun H hw => ?_)
  rw [Option.some.inj hM2] at hw
  obtain ⟨M4, hM4, h⟩ := ob h
  refine m_putF hC hw (C := RX6) (T := TX6) (N := 5) (x := this) hM4 ki_X6_init_X6 tyX6 tyX6_ok nmX6 rfl (by decide) k_X6_init_11 (fun _ z => z) rfl hname rfl (nar_rf _ _ (by decide)) (fit_rf _ _ (by decide)) dX6_init_9 (fun H locs hw => ?_)
  refine m_aload_n (x := this) hx hb dX6_init_12 rfl (lv_at hl 0 rfl) ?_
  refine lv_bipush (v := (120 : Int32)) hx hb dX6_init_13 (by decide) ?_
  obtain ⟨g6, h⟩ := itg h
  obtain ⟨M5, hM5, h⟩ := ob h
  refine m_newI (atype := .int) (t := 0) (n := (120 : Int32)) (cap := 120) hC hw rfl (fun _ _ => rfl) (by decide) k_X6_init_naint (nmA0 hC) g6.1 g6.2 (by decide) (Nat.le_of_ble_eq_true rfl) (Nat.le_of_ble_eq_true rfl) dX6_init_15 (fun H hw => ?_)
  rw [Option.some.inj hM5] at hw
  obtain ⟨M7, hM7, h⟩ := ob h
  refine m_putF hC hw (C := RX6) (T := TX6) (N := 5) (x := this) hM7 ki_X6_init_X6 tyX6 tyX6_ok nmX6 rfl (by decide) k_X6_init_17 (fun _ z => z) rfl hname rfl (nar_rf _ _ (by decide)) (fit_rf _ _ (by decide)) dX6_init_17 (fun H locs hw => ?_)
  refine m_aload_n (x := this) hx hb dX6_init_20 rfl (lv_at hl 0 rfl) ?_
  refine lv_bipush (v := (120 : Int32)) hx hb dX6_init_21 (by decide) ?_
  obtain ⟨g9, h⟩ := itg h
  obtain ⟨M8, hM8, h⟩ := ob h
  refine m_newI (atype := .int) (t := 0) (n := (120 : Int32)) (cap := 120) hC hw rfl (fun _ _ => rfl) (by decide) k_X6_init_naint (nmA0 hC) g9.1 g9.2 (by decide) (Nat.le_of_ble_eq_true rfl) (Nat.le_of_ble_eq_true rfl) dX6_init_23 (fun H hw => ?_)
  rw [Option.some.inj hM8] at hw
  obtain ⟨M10, hM10, h⟩ := ob h
  refine m_putF hC hw (C := RX6) (T := TX6) (N := 5) (x := this) hM10 ki_X6_init_X6 tyX6 tyX6_ok nmX6 rfl (by decide) k_X6_init_20 (fun _ z => z) rfl hname rfl (nar_rf _ _ (by decide)) (fit_rf _ _ (by decide)) dX6_init_25 (fun H locs hw => ?_)
  refine m_aload_n (x := this) hx hb dX6_init_28 rfl (lv_at hl 0 rfl) ?_
  refine lv_iconst (v := (0 : Int32)) hx hb dX6_init_29 (by decide) ?_
  obtain ⟨M11, hM11, h⟩ := ob h
  refine m_put hC hw (C := RX6) (T := TX6) (N := 5) (x := this) hM11 ki_X6_init_X6 tyX6 tyX6_ok nmX6 rfl (by decide) k_X6_init_23 (fun _ z => z) rfl rfl rfl dX6_init_30 (fun H locs hw => ?_)
  refine m_aload_n (x := this) hx hb dX6_init_33 rfl (lv_at hl 0 rfl) ?_
  refine lv_iconst (v := (0 : Int32)) hx hb dX6_init_34 (by decide) ?_
  obtain ⟨M12, hM12, h⟩ := ob h
  refine m_put hC hw (C := RX6) (T := TX6) (N := 5) (x := this) hM12 ki_X6_init_X6 tyX6 tyX6_ok nmX6 rfl (by decide) k_X6_init_27 (fun _ z => z) rfl rfl rfl dX6_init_35 (fun H locs hw => ?_)
  replace h := Option.some.inj h
  subst h
  exact RET hw ⟨(Nat.le_of_ble_eq_true rfl), (Nat.le_of_ble_eq_true rfl)⟩ dX6_init_38

def f_X7_init (B : Nat) (M : Mem) (sz : Nat) (this : Option Nat) : Option (Mem × Nat) := if this ≠ none then ((some (va_up M sz (some (.inl (9, [.null, .null, .null, .int 0, .int 0]))))).bind fun M2 => (f_X6_init B M2 (sz + 1) (some sz)).bind fun r3 => (pF B r3.1 this 10 0 (va_rf (some sz))).bind fun M4 => if ¬ (120 : Int32) < 0 ∧ ((120 : Int32) : Int32).toNatClampNeg ≤ 120 then ((some (va_up M4 r3.2 (some (.inr (.inl (0, ((120 : Int32) : Int32).toNatClampNeg, fun _ => 0)))))).bind fun M5 => (pF B M5 this 10 1 (va_rf (some r3.2))).bind fun M7 => (pF B M7 this 10 2 (.int (0 : Int32))).bind fun M8 => (pF B M8 this 10 3 (.int (0 : Int32))).bind fun M9 => (pF B M9 this 10 4 (.int (-9999 : Int32))).bind fun M10 => some (M10, (r3.2 + 1))) else none) else none
def rmX7_init : Room := { frames := 2, cells := 5, slots := 485, locals := 40 }
theorem k_X7_init_oi3 : Cond.methodLink RX7 3 objectInit ∈ wsX7_init := List.mem_of_getElem? (i := 1) rfl
theorem k_X7_init_oj : Cond.instanceMethod objectInit ∈ wsX7_init := List.mem_of_getElem? (i := 2) rfl
theorem k_X7_init_ok : Cond.code objectInit ⟨#[0xb1]⟩ 1 none ∈ wsX7_init := List.mem_of_getElem? (i := 3) rfl
theorem k_X7_init_n9 : Cond.classLink RX7 9 RX6 ∈ wsX7_init := List.mem_of_getElem? (i := 4) rfl
theorem k_X7_init_ni9 : Cond.instantiable RX6 5 ∈ wsX7_init := List.mem_of_getElem? (i := 5) rfl
theorem k_X7_init_nj9 : Cond.initialized RX6 ∈ wsX7_init := List.mem_of_getElem? (i := 6) rfl
theorem ki_X7_init_X6 : ∀ w ∈ u_ws RX6 TX6 5, w ∈ wsX7_init := sub_r [21, 22, 23, 24, 25] (by decide +kernel)
theorem k_X7_init_imX6_init : Cond.instanceMethod yX6_init ∈ wsX7_init := List.mem_of_getElem? (i := 13) rfl
theorem k_X7_init_inX6 : Cond.initialized RX6 ∈ wsX7_init := List.mem_of_getElem? (i := 6) rfl
theorem k_X7_init_12 : Cond.fieldLink RX7 12 "LoanBook$Reader" "pieces" "LLoanBook$Pieces;" ∈ wsX7_init := List.mem_of_getElem? (i := 7) rfl
theorem ki_X7_init_X7 : ∀ w ∈ u_ws RX7 TX7 5, w ∈ wsX7_init := sub_r [26, 27, 28, 29, 30] (by decide +kernel)
theorem k_X7_init_naint : Cond.arrayClass .int ∈ wsX7_init := List.mem_of_getElem? (i := 8) rfl
theorem k_X7_init_20 : Cond.fieldLink RX7 20 "LoanBook$Reader" "row" "[I" ∈ wsX7_init := List.mem_of_getElem? (i := 9) rfl
theorem k_X7_init_24 : Cond.fieldLink RX7 24 "LoanBook$Reader" "size" "I" ∈ wsX7_init := List.mem_of_getElem? (i := 10) rfl
theorem k_X7_init_28 : Cond.fieldLink RX7 28 "LoanBook$Reader" "at" "I" ∈ wsX7_init := List.mem_of_getElem? (i := 11) rfl
theorem k_X7_init_31 : Cond.fieldLink RX7 31 "LoanBook$Reader" "wrongAt" "I" ∈ wsX7_init := List.mem_of_getElem? (i := 12) rfl
set_option maxHeartbeats 4000000 in
set_option maxRecDepth 100000 in
theorem c_X7_init {G : wG} {l : Launch} {M : Mem} {sz : Nat} {this : Option Nat} {r : Mem × Nat} (h : f_X7_init G.2.2.1 M sz this = some r) : CtrV G l yX7_init wsX7_init rmX7_init [va_rf this] M sz r.1 r.2 := by
  refine m_startV (own := RX7) (cc := cX7_init) (maxL := 1) (lv0 := [(0, va_rf this)]) (by decide) rfl rfl (by simp [lg_sl, va_rf_cat, cat_i, cat_r]) (by simp [lv_args, va_rf_cat, cat_i, cat_r]) ?_
  intro p e s m args below meth c Q hC hname RET hsz hw ls hl
  have hx := hC.1
  have hb := hC.2.1
  unfold f_X7_init at h
  refine m_aload_n (x := this) hx hb dX7_init_0 rfl (lv_at hl 0 rfl) ?_
  obtain ⟨g1, h⟩ := itg h
  refine m_objInit (x := this) (isN_some g1) hC (hC.tab _ k_X7_init_oi3) (hC.tab _ k_X7_init_oj) (hC.tab _ k_X7_init_ok) hl.1 ((Nat.le_of_ble_eq_true rfl)) (Nat.le_of_ble_eq_true rfl) (Nat.le_of_ble_eq_true rfl) dX7_init_1 ?_
  refine m_aload_n (x := this) hx hb dX7_init_4 rfl (lv_at hl 0 rfl) ?_
  obtain ⟨M2, hM2, h⟩ := ob h
  refine m_new hC hw (C := RX6) (T := TX6) (N := 5) (ci := 9) (fs := [.null, .null, .null, .int 0, .int 0]) ki_X7_init_X6 tyX6 tyX6_ok k_X7_init_n9 k_X7_init_ni9 k_X7_init_nj9 rfl (fun j hj => by match j, hj with | 0, _ => rfl | 1, _ => rfl | 2, _ => rfl | 3, _ => rfl | 4, _ => rfl) (Nat.le_of_ble_eq_true rfl) (Nat.le_of_ble_eq_true rfl) dX7_init_5 (fun H hw => ?_)
  rw [Option.some.inj hM2] at hw
  refine m_dup (x := (some sz)) hx hb dX7_init_8 ?_
  obtain ⟨r3, hr3, h⟩ := ob h
  refine m_contV hC hw (m_runIN hC hw (x := (some sz)) (host := "LoanBook") (n := 0) (av := []) (rest := [va_rf (some sz), va_rf this]) (c_X6_init (G := G) (l := l) hr3) gX7_init_X6_init_n11 (by decide +kernel) k_X7_init_imX6_init k_X7_init_inX6 rfl rfl (by decide +kernel) ⟨(Nat.le_of_ble_eq_true rfl), (Nat.le_of_ble_eq_true rfl)⟩ rfl rfl hl.1 rfl (by simp [va_rf_cat, cat_i, cat_r, cat_l]) dX7_init_9 ⟨(Nat.le_of_ble_eq_true rfl), (Nat.le_of_ble_eq_true rfl)⟩) (fun H locs hw => ?_)
  obtain ⟨M4, hM4, h⟩ := ob h
  refine m_putF hC hw (C := RX7) (T := TX7) (N := 5) (x := this) hM4 ki_X7_init_X7 tyX7 tyX7_ok nmX7 rfl (by decide) k_X7_init_12 (fun _ z => z) rfl hname rfl (nar_rf _ _ (by decide)) (fit_rf _ _ (by decide)) dX7_init_12 (fun H locs hw => ?_)
  refine m_aload_n (x := this) hx hb dX7_init_15 rfl (lv_at hl 0 rfl) ?_
  refine lv_bipush (v := (120 : Int32)) hx hb dX7_init_16 (by decide) ?_
  obtain ⟨g6, h⟩ := itg h
  obtain ⟨M5, hM5, h⟩ := ob h
  refine m_newI (atype := .int) (t := 0) (n := (120 : Int32)) (cap := 120) hC hw rfl (fun _ _ => rfl) (by decide) k_X7_init_naint (nmA0 hC) g6.1 g6.2 (by decide) (Nat.le_of_ble_eq_true rfl) (Nat.le_of_ble_eq_true rfl) dX7_init_18 (fun H hw => ?_)
  rw [Option.some.inj hM5] at hw
  obtain ⟨M7, hM7, h⟩ := ob h
  refine m_putF hC hw (C := RX7) (T := TX7) (N := 5) (x := this) hM7 ki_X7_init_X7 tyX7 tyX7_ok nmX7 rfl (by decide) k_X7_init_20 (fun _ z => z) rfl hname rfl (nar_rf _ _ (by decide)) (fit_rf _ _ (by decide)) dX7_init_20 (fun H locs hw => ?_)
  refine m_aload_n (x := this) hx hb dX7_init_23 rfl (lv_at hl 0 rfl) ?_
  refine lv_iconst (v := (0 : Int32)) hx hb dX7_init_24 (by decide) ?_
  obtain ⟨M8, hM8, h⟩ := ob h
  refine m_put hC hw (C := RX7) (T := TX7) (N := 5) (x := this) hM8 ki_X7_init_X7 tyX7 tyX7_ok nmX7 rfl (by decide) k_X7_init_24 (fun _ z => z) rfl rfl rfl dX7_init_25 (fun H locs hw => ?_)
  refine m_aload_n (x := this) hx hb dX7_init_28 rfl (lv_at hl 0 rfl) ?_
  refine lv_iconst (v := (0 : Int32)) hx hb dX7_init_29 (by decide) ?_
  obtain ⟨M9, hM9, h⟩ := ob h
  refine m_put hC hw (C := RX7) (T := TX7) (N := 5) (x := this) hM9 ki_X7_init_X7 tyX7 tyX7_ok nmX7 rfl (by decide) k_X7_init_28 (fun _ z => z) rfl rfl rfl dX7_init_30 (fun H locs hw => ?_)
  refine m_aload_n (x := this) hx hb dX7_init_33 rfl (lv_at hl 0 rfl) ?_
  refine lv_sipush (v := (-9999 : Int32)) hx hb dX7_init_34 (by decide) ?_
  obtain ⟨M10, hM10, h⟩ := ob h
  refine m_put hC hw (C := RX7) (T := TX7) (N := 5) (x := this) hM10 ki_X7_init_X7 tyX7 tyX7_ok nmX7 rfl (by decide) k_X7_init_31 (fun _ z => z) rfl rfl rfl dX7_init_37 (fun H locs hw => ?_)
  replace h := Option.some.inj h
  subst h
  exact RET hw ⟨(Nat.le_of_ble_eq_true rfl), (Nat.le_of_ble_eq_true rfl)⟩ dX7_init_40

def f_X9_hasRoomForFive (M : Mem) (this : Option Nat) : Option (Int32) := (gI M this 12 1).bind fun v1 => if (120 : Int32) < (v1 + (20 : Int32)) then (some (0 : Int32)) else (some (1 : Int32))
def rmX9_hasRoomForFive : Room := { frames := 0, cells := 0, slots := 0, locals := 0 }
theorem k_X9_hasRoomForFive_15 : Cond.fieldLink RX9 15 "LoanBook$Tape" "size" "I" ∈ wsX9_hasRoomForFive := List.mem_of_getElem? (i := 1) rfl
theorem ki_X9_hasRoomForFive_X9 : ∀ w ∈ u_ws RX9 TX9 2, w ∈ wsX9_hasRoomForFive := sub_r [2, 3] (by decide +kernel)
set_option maxHeartbeats 4000000 in
set_option maxRecDepth 100000 in
theorem c_X9_hasRoomForFive {G : wG} {l : Launch} {M : Mem} {sz : Nat} {this : Option Nat} {r : Int32} (h : f_X9_hasRoomForFive M this = some r) : CtrI G l yX9_hasRoomForFive wsX9_hasRoomForFive rmX9_hasRoomForFive [va_rf this] M sz r M sz := by
  refine m_startZ (own := RX9) (cc := cX9_hasRoomForFive) (maxL := 1) (lv0 := [(0, va_rf this)]) (by decide) rfl rfl (by simp [lg_sl, va_rf_cat, cat_i, cat_r]) (by simp [lv_args, va_rf_cat, cat_i, cat_r]) ?_
  intro p e s m args below meth c Q hC hname RET hsz hw ls hl
  have hx := hC.1
  have hb := hC.2.1
  unfold f_X9_hasRoomForFive at h
  refine m_aload_n (x := this) hx hb dX9_hasRoomForFive_0 rfl (lv_at hl 0 rfl) ?_
  obtain ⟨v1, hv1, h⟩ := ob h
  refine m_getI hC hw (C := RX9) (T := TX9) (N := 2) hv1 ki_X9_hasRoomForFive_X9 rfl (by decide) k_X9_hasRoomForFive_15 (fun _ z => z) dX9_hasRoomForFive_1 ?_
  refine lv_bipush (v := (20 : Int32)) hx hb dX9_hasRoomForFive_4 (by decide) ?_
  refine lv_iadd hx hb dX9_hasRoomForFive_6 ?_
  refine lv_bipush (v := (120 : Int32)) hx hb dX9_hasRoomForFive_7 (by decide) ?_
  refine lv_icmp_gt (tgt := 16) hx hb dX9_hasRoomForFive_9 (by decide) (fun c2 => ?_) (fun c2 => ?_)
  · replace h := itt h c2
    refine lv_iconst (v := (0 : Int32)) hx hb dX9_hasRoomForFive_16 (by decide) ?_
    replace h := Option.some.inj h
    subst h
    exact RET (isZ.nar (Or.inl rfl)) hw ⟨(Nat.zero_le _), (Nat.zero_le _)⟩ dX9_hasRoomForFive_17
  · replace h := itf h c2
    refine lv_iconst (v := (1 : Int32)) hx hb dX9_hasRoomForFive_12 (by decide) ?_
    refine lv_goto (tgt := 17) hx hb dX9_hasRoomForFive_13 (by decide) ?_
    replace h := Option.some.inj h
    subst h
    exact RET (isZ.nar (Or.inr rfl)) hw ⟨(Nat.zero_le _), (Nat.zero_le _)⟩ dX9_hasRoomForFive_17

def f_X9_append_L3 (B : Nat) (n : Nat) (x0 : Option Nat) (x1 : Int32) : Nat → Mem → Int32 → Option (Mem)
  | 0, _, _ => none
  | k + 1, Mz, x2 => if x2 < 0 then (some (Mz)) else ((gI Mz x0 12 1).bind fun v2 => if (120 : Int32) ≤ v2 then (some (Mz)) else ((gR Mz x0 12 0).bind fun v4 => (gI Mz x0 12 1).bind fun v5 => (sI B Mz 0 v4 v5 ((x1.toUInt32 >>> ((x2 : Int32).toUInt32 &&& Int32.toUInt32 31)).toInt32 &&& (255 : Int32))).bind fun M6 => (gI M6 x0 12 1).bind fun v7 => (pF B M6 x0 12 1 (.int (v7 + (1 : Int32)))).bind fun M8 => f_X9_append_L3 B n x0 x1 k M8 (x2 + (-8 : Int32))))
def f_X9_append (B : Nat) (n : Nat) (M : Mem) (this : Option Nat) (a1 : Int32) : Option (Mem) := f_X9_append_L3 B n this a1 n M (24 : Int32)
def rmX9_append : Room := { frames := 0, cells := 0, slots := 0, locals := 0 }
theorem k_X9_append_15 : Cond.fieldLink RX9 15 "LoanBook$Tape" "size" "I" ∈ wsX9_append := List.mem_of_getElem? (i := 1) rfl
theorem ki_X9_append_X9 : ∀ w ∈ u_ws RX9 TX9 2, w ∈ wsX9_append := sub_r [3, 4] (by decide +kernel)
theorem k_X9_append_11 : Cond.fieldLink RX9 11 "LoanBook$Tape" "bytes" "[I" ∈ wsX9_append := List.mem_of_getElem? (i := 2) rfl
set_option maxHeartbeats 4000000 in
set_option maxRecDepth 100000 in
theorem c_X9_append {G : wG} {l : Launch} {n : Nat} {M : Mem} {sz : Nat} {this : Option Nat} {a1 : Int32} {r : Mem} (h : f_X9_append G.2.2.1 n M this a1 = some r) : CtrV G l yX9_append wsX9_append rmX9_append [va_rf this, .int a1] M sz r sz := by
  refine m_startV (own := RX9) (cc := cX9_append) (maxL := 3) (lv0 := [(0, va_rf this), (1, .int a1)]) (by decide) rfl rfl (by simp [lg_sl, va_rf_cat, cat_i, cat_r]) (by simp [lv_args, va_rf_cat, cat_i, cat_r]) ?_
  intro p e s m args below meth c Q hC hname RET hsz hw ls hl
  have hx := hC.1
  have hb := hC.2.1
  have L3 : ∀ (x0 : Option Nat) (x1 : Int32) (k : Nat) (Mz : Mem) (x2 : Int32) (cells slots : Nat) (H : Heap) (locs : List Loc) (ls : Array Slot), f_X9_append_L3 G.2.2.1 n x0 x1 k Mz x2 = some r → cells ≤ 0 → slots ≤ 0 → wD G s M Mz sz H locs → lv_has ls 3 [(0, va_rf x0), (1, .int x1), (2, .int x2)] → W p l e rmX9_append s m args below meth c H locs cells slots Q (F0 m 3 ls []) := by
    intro x0 x1 k
    induction k with
    | zero =>
      intro Mz x2 cells slots H locs ls h
      exact absurd (show (none : Option (Mem)) = some r from h) (fun z => by cases z)
    | succ k ih =>
      intro Mz x2 cells slots H locs ls h hcl hsl hw hl
      rw [f_X9_append_L3] at h
      refine lv_iload_n hx hb dX9_append_3 rfl (lv_at hl 2 rfl) ?_
      refine lv_if_lt (tgt := 48) hx hb dX9_append_4 (by decide) (fun c1 => ?_) (fun c1 => ?_)
      · replace h := itt h c1
        replace h := Option.some.inj h
        subst h
        exact RET hw ⟨(show cells + 0 ≤ 0 from by omega), (show slots + 0 ≤ 0 from by omega)⟩ dX9_append_48
      · replace h := itf h c1
        refine m_aload_n (x := x0) hx hb dX9_append_7 rfl (lv_at hl 0 rfl) ?_
        obtain ⟨v2, hv2, h⟩ := ob h
        refine m_getI hC hw (C := RX9) (T := TX9) (N := 2) hv2 ki_X9_append_X9 rfl (by decide) k_X9_append_15 (fun _ z => z) dX9_append_8 ?_
        refine lv_bipush (v := (120 : Int32)) hx hb dX9_append_11 (by decide) ?_
        refine lv_icmp_ge (tgt := 48) hx hb dX9_append_13 (by decide) (fun c3 => ?_) (fun c3 => ?_)
        · replace h := itt h c3
          replace h := Option.some.inj h
          subst h
          exact RET hw ⟨(show cells + 0 ≤ 0 from by omega), (show slots + 0 ≤ 0 from by omega)⟩ dX9_append_48
        · replace h := itf h c3
          refine m_aload_n (x := x0) hx hb dX9_append_16 rfl (lv_at hl 0 rfl) ?_
          obtain ⟨v4, hv4, h⟩ := ob h
          refine m_getR hC hw (C := RX9) (T := TX9) (N := 2) hv4 ki_X9_append_X9 rfl (by decide) k_X9_append_11 (fun _ z => z) dX9_append_17 ?_
          refine m_aload_n (x := x0) hx hb dX9_append_20 rfl (lv_at hl 0 rfl) ?_
          obtain ⟨v5, hv5, h⟩ := ob h
          refine m_getI hC hw (C := RX9) (T := TX9) (N := 2) hv5 ki_X9_append_X9 rfl (by decide) k_X9_append_15 (fun _ z => z) dX9_append_21 ?_
          refine lv_iload_n hx hb dX9_append_24 rfl (lv_at hl 1 rfl) ?_
          refine lv_iload_n hx hb dX9_append_25 rfl (lv_at hl 2 rfl) ?_
          refine lv_iushr hx hb dX9_append_26 rfl ?_
          refine lv_sipush (v := (255 : Int32)) hx hb dX9_append_27 (by decide) ?_
          refine lv_iand hx hb dX9_append_30 ?_
          obtain ⟨M6, hM6, h⟩ := ob h
          refine m_iast (x := v4) hC hw hM6 dX9_append_31 (fun H locs hw => ?_)
          refine m_aload_n (x := x0) hx hb dX9_append_32 rfl (lv_at hl 0 rfl) ?_
          refine m_dup (x := x0) hx hb dX9_append_33 ?_
          obtain ⟨v7, hv7, h⟩ := ob h
          refine m_getI hC hw (C := RX9) (T := TX9) (N := 2) hv7 ki_X9_append_X9 rfl (by decide) k_X9_append_15 (fun _ z => z) dX9_append_34 ?_
          refine lv_iconst (v := (1 : Int32)) hx hb dX9_append_37 (by decide) ?_
          refine lv_iadd hx hb dX9_append_38 ?_
          obtain ⟨M8, hM8, h⟩ := ob h
          refine m_put hC hw (C := RX9) (T := TX9) (N := 2) (x := x0) hM8 ki_X9_append_X9 tyX9 tyX9_ok nmX9 rfl (by decide) k_X9_append_15 (fun _ z => z) rfl rfl rfl dX9_append_39 (fun H locs hw => ?_)
          refine lv_iinc (v := (x2 + (-8 : Int32))) (lv' := [(2, .int (x2 + (-8 : Int32))), (0, va_rf x0), (1, .int x1)]) hx hb dX9_append_42 hl (k := 2) rfl rfl (by decide) rfl (fun ls hl => ?_)
          refine lv_goto (tgt := 3) hx hb dX9_append_45 (by decide) ?_
          exact ih _ _ _ _ _ _ _ h hcl hsl hw (lv_sub hl [1, 2, 0] rfl)
  unfold f_X9_append at h
  refine lv_bipush (v := (24 : Int32)) hx hb dX9_append_0 (by decide) ?_
  refine lv_istore_n (i := 2) (lv' := [(2, .int (24 : Int32)), (0, va_rf this), (1, .int a1)]) hx hb dX9_append_2 rfl hl (by decide) rfl (fun ls hl => ?_)
  exact L3 this a1 _ _ _ _ _ _ _ _ h (Nat.zero_le _) (Nat.zero_le _) hw (lv_sub hl [1, 2, 0] rfl)

def f_X9_size (M : Mem) (this : Option Nat) : Option (Int32) := (gI M this 12 1).bind fun v1 => some (v1)
def rmX9_size : Room := { frames := 0, cells := 0, slots := 0, locals := 0 }
theorem k_X9_size_15 : Cond.fieldLink RX9 15 "LoanBook$Tape" "size" "I" ∈ wsX9_size := List.mem_of_getElem? (i := 1) rfl
theorem ki_X9_size_X9 : ∀ w ∈ u_ws RX9 TX9 2, w ∈ wsX9_size := sub_r [2, 3] (by decide +kernel)
set_option maxHeartbeats 4000000 in
set_option maxRecDepth 100000 in
theorem c_X9_size {G : wG} {l : Launch} {M : Mem} {sz : Nat} {this : Option Nat} {r : Int32} (h : f_X9_size M this = some r) : CtrI G l yX9_size wsX9_size rmX9_size [va_rf this] M sz r M sz := by
  refine m_startI (own := RX9) (cc := cX9_size) (maxL := 1) (lv0 := [(0, va_rf this)]) (by decide) rfl rfl (by simp [lg_sl, va_rf_cat, cat_i, cat_r]) (by simp [lv_args, va_rf_cat, cat_i, cat_r]) ?_
  intro p e s m args below meth c Q hC hname RET hsz hw ls hl
  have hx := hC.1
  have hb := hC.2.1
  unfold f_X9_size at h
  refine m_aload_n (x := this) hx hb dX9_size_0 rfl (lv_at hl 0 rfl) ?_
  obtain ⟨v1, hv1, h⟩ := ob h
  refine m_getI hC hw (C := RX9) (T := TX9) (N := 2) hv1 ki_X9_size_X9 rfl (by decide) k_X9_size_15 (fun _ z => z) dX9_size_1 ?_
  replace h := Option.some.inj h
  subst h
  exact RET hw ⟨(Nat.zero_le _), (Nat.zero_le _)⟩ dX9_size_4

def f_X9_keep (B : Nat) (M : Mem) (this : Option Nat) (a1 : Int32) : Option (Mem) := if a1 < 0 then (some (M)) else ((gI M this 12 1).bind fun v2 => if v2 < a1 then (some (M)) else ((pF B M this 12 1 (.int a1)).bind fun M4 => some (M4)))
def rmX9_keep : Room := { frames := 0, cells := 0, slots := 0, locals := 0 }
theorem k_X9_keep_15 : Cond.fieldLink RX9 15 "LoanBook$Tape" "size" "I" ∈ wsX9_keep := List.mem_of_getElem? (i := 1) rfl
theorem ki_X9_keep_X9 : ∀ w ∈ u_ws RX9 TX9 2, w ∈ wsX9_keep := sub_r [2, 3] (by decide +kernel)
set_option maxHeartbeats 4000000 in
set_option maxRecDepth 100000 in
theorem c_X9_keep {G : wG} {l : Launch} {M : Mem} {sz : Nat} {this : Option Nat} {a1 : Int32} {r : Mem} (h : f_X9_keep G.2.2.1 M this a1 = some r) : CtrV G l yX9_keep wsX9_keep rmX9_keep [va_rf this, .int a1] M sz r sz := by
  refine m_startV (own := RX9) (cc := cX9_keep) (maxL := 2) (lv0 := [(0, va_rf this), (1, .int a1)]) (by decide) rfl rfl (by simp [lg_sl, va_rf_cat, cat_i, cat_r]) (by simp [lv_args, va_rf_cat, cat_i, cat_r]) ?_
  intro p e s m args below meth c Q hC hname RET hsz hw ls hl
  have hx := hC.1
  have hb := hC.2.1
  unfold f_X9_keep at h
  refine lv_iload_n hx hb dX9_keep_0 rfl (lv_at hl 1 rfl) ?_
  refine lv_if_lt (tgt := 17) hx hb dX9_keep_1 (by decide) (fun c1 => ?_) (fun c1 => ?_)
  · replace h := itt h c1
    replace h := Option.some.inj h
    subst h
    exact RET hw ⟨(Nat.zero_le _), (Nat.zero_le _)⟩ dX9_keep_17
  · replace h := itf h c1
    refine lv_iload_n hx hb dX9_keep_4 rfl (lv_at hl 1 rfl) ?_
    refine m_aload_n (x := this) hx hb dX9_keep_5 rfl (lv_at hl 0 rfl) ?_
    obtain ⟨v2, hv2, h⟩ := ob h
    refine m_getI hC hw (C := RX9) (T := TX9) (N := 2) hv2 ki_X9_keep_X9 rfl (by decide) k_X9_keep_15 (fun _ z => z) dX9_keep_6 ?_
    refine lv_icmp_gt (tgt := 17) hx hb dX9_keep_9 (by decide) (fun c3 => ?_) (fun c3 => ?_)
    · replace h := itt h c3
      replace h := Option.some.inj h
      subst h
      exact RET hw ⟨(Nat.zero_le _), (Nat.zero_le _)⟩ dX9_keep_17
    · replace h := itf h c3
      refine m_aload_n (x := this) hx hb dX9_keep_12 rfl (lv_at hl 0 rfl) ?_
      refine lv_iload_n hx hb dX9_keep_13 rfl (lv_at hl 1 rfl) ?_
      obtain ⟨M4, hM4, h⟩ := ob h
      refine m_put hC hw (C := RX9) (T := TX9) (N := 2) (x := this) hM4 ki_X9_keep_X9 tyX9 tyX9_ok nmX9 rfl (by decide) k_X9_keep_15 (fun _ z => z) rfl rfl rfl dX9_keep_14 (fun H locs hw => ?_)
      replace h := Option.some.inj h
      subst h
      exact RET hw ⟨(Nat.zero_le _), (Nat.zero_le _)⟩ dX9_keep_17

def f_X9_byteAt (M : Mem) (this : Option Nat) (a1 : Int32) : Option (Int32) := if a1 < 0 then (some (-1 : Int32)) else ((gI M this 12 1).bind fun v2 => if v2 ≤ a1 then (some (-1 : Int32)) else ((gR M this 12 0).bind fun v4 => (aI M 0 v4 a1).bind fun v5 => some (v5)))
def rmX9_byteAt : Room := { frames := 0, cells := 0, slots := 0, locals := 0 }
theorem k_X9_byteAt_15 : Cond.fieldLink RX9 15 "LoanBook$Tape" "size" "I" ∈ wsX9_byteAt := List.mem_of_getElem? (i := 1) rfl
theorem ki_X9_byteAt_X9 : ∀ w ∈ u_ws RX9 TX9 2, w ∈ wsX9_byteAt := sub_r [3, 4] (by decide +kernel)
theorem k_X9_byteAt_11 : Cond.fieldLink RX9 11 "LoanBook$Tape" "bytes" "[I" ∈ wsX9_byteAt := List.mem_of_getElem? (i := 2) rfl
set_option maxHeartbeats 4000000 in
set_option maxRecDepth 100000 in
theorem c_X9_byteAt {G : wG} {l : Launch} {M : Mem} {sz : Nat} {this : Option Nat} {a1 : Int32} {r : Int32} (h : f_X9_byteAt M this a1 = some r) : CtrI G l yX9_byteAt wsX9_byteAt rmX9_byteAt [va_rf this, .int a1] M sz r M sz := by
  refine m_startI (own := RX9) (cc := cX9_byteAt) (maxL := 2) (lv0 := [(0, va_rf this), (1, .int a1)]) (by decide) rfl rfl (by simp [lg_sl, va_rf_cat, cat_i, cat_r]) (by simp [lv_args, va_rf_cat, cat_i, cat_r]) ?_
  intro p e s m args below meth c Q hC hname RET hsz hw ls hl
  have hx := hC.1
  have hb := hC.2.1
  unfold f_X9_byteAt at h
  refine lv_iload_n hx hb dX9_byteAt_0 rfl (lv_at hl 1 rfl) ?_
  refine lv_if_lt (tgt := 21) hx hb dX9_byteAt_1 (by decide) (fun c1 => ?_) (fun c1 => ?_)
  · replace h := itt h c1
    refine lv_iconst (v := (-1 : Int32)) hx hb dX9_byteAt_21 (by decide) ?_
    replace h := Option.some.inj h
    subst h
    exact RET hw ⟨(Nat.zero_le _), (Nat.zero_le _)⟩ dX9_byteAt_22
  · replace h := itf h c1
    refine lv_iload_n hx hb dX9_byteAt_4 rfl (lv_at hl 1 rfl) ?_
    refine m_aload_n (x := this) hx hb dX9_byteAt_5 rfl (lv_at hl 0 rfl) ?_
    obtain ⟨v2, hv2, h⟩ := ob h
    refine m_getI hC hw (C := RX9) (T := TX9) (N := 2) hv2 ki_X9_byteAt_X9 rfl (by decide) k_X9_byteAt_15 (fun _ z => z) dX9_byteAt_6 ?_
    refine lv_icmp_ge (tgt := 21) hx hb dX9_byteAt_9 (by decide) (fun c3 => ?_) (fun c3 => ?_)
    · replace h := itt h c3
      refine lv_iconst (v := (-1 : Int32)) hx hb dX9_byteAt_21 (by decide) ?_
      replace h := Option.some.inj h
      subst h
      exact RET hw ⟨(Nat.zero_le _), (Nat.zero_le _)⟩ dX9_byteAt_22
    · replace h := itf h c3
      refine m_aload_n (x := this) hx hb dX9_byteAt_12 rfl (lv_at hl 0 rfl) ?_
      obtain ⟨v4, hv4, h⟩ := ob h
      refine m_getR hC hw (C := RX9) (T := TX9) (N := 2) hv4 ki_X9_byteAt_X9 rfl (by decide) k_X9_byteAt_11 (fun _ z => z) dX9_byteAt_13 ?_
      refine lv_iload_n hx hb dX9_byteAt_16 rfl (lv_at hl 1 rfl) ?_
      obtain ⟨v5, hv5, h⟩ := ob h
      refine m_iald (x := v4) hC hw hv5 dX9_byteAt_17 ?_
      refine lv_goto (tgt := 22) hx hb dX9_byteAt_18 (by decide) ?_
      replace h := Option.some.inj h
      subst h
      exact RET hw ⟨(Nat.zero_le _), (Nat.zero_le _)⟩ dX9_byteAt_22

def f_X6_behindRow_L3 (n : Nat) (M : Mem) (x0 : Option Nat) (x1 : Option Nat) (x3 : Int32) (x4 : Int32) : Nat → Int32 → Option (Int32)
  | 0, _ => none
  | k + 1, x5 => (gI M x0 9 4).bind fun v1 => if v1 ≤ x5 then (some (x5)) else (if isO M x1 12 = true then ((f_X9_byteAt M x1 x5).bind fun r4 => if r4 < x3 then (some (x5)) else (if isO M x1 12 = true then ((f_X9_byteAt M x1 x5).bind fun r7 => if x4 < r7 then (some (x5)) else (f_X6_behindRow_L3 n M x0 x1 x3 x4 k (x5 + (1 : Int32)))) else none)) else none)
def f_X6_behindRow (n : Nat) (M : Mem) (this : Option Nat) (a1 : Option Nat) (a2 : Int32) (a3 : Int32) (a4 : Int32) : Option (Int32) := f_X6_behindRow_L3 n M this a1 a3 a4 n a2
def rmX6_behindRow : Room := { frames := 1, cells := 0, slots := 0, locals := 21 }
theorem k_X6_behindRow_27 : Cond.fieldLink RX6 27 "LoanBook$Pieces" "end" "I" ∈ wsX6_behindRow := List.mem_of_getElem? (i := 1) rfl
theorem ki_X6_behindRow_X6 : ∀ w ∈ u_ws RX6 TX6 5, w ∈ wsX6_behindRow := sub_r [9, 10, 11, 12, 13] (by decide +kernel)
set_option maxHeartbeats 4000000 in
set_option maxRecDepth 100000 in
theorem c_X6_behindRow {G : wG} {l : Launch} {n : Nat} {M : Mem} {sz : Nat} {this : Option Nat} {a1 : Option Nat} {a2 : Int32} {a3 : Int32} {a4 : Int32} {r : Int32} (h : f_X6_behindRow n M this a1 a2 a3 a4 = some r) : CtrI G l yX6_behindRow wsX6_behindRow rmX6_behindRow [va_rf this, va_rf a1, .int a2, .int a3, .int a4] M sz r M sz := by
  refine m_startI (own := RX6) (cc := cX6_behindRow) (maxL := 6) (lv0 := [(0, va_rf this), (1, va_rf a1), (2, .int a2), (3, .int a3), (4, .int a4)]) (by decide) rfl rfl (by simp [lg_sl, va_rf_cat, cat_i, cat_r]) (by simp [lv_args, va_rf_cat, cat_i, cat_r]) ?_
  intro p e s m args below meth c Q hC hname RET hsz hw ls hl
  have hx := hC.1
  have hb := hC.2.1
  have L3 : ∀ (x0 : Option Nat) (x1 : Option Nat) (x3 : Int32) (x4 : Int32) (k : Nat) (x5 : Int32) (cells slots : Nat) (H : Heap) (locs : List Loc) (ls : Array Slot), f_X6_behindRow_L3 n M x0 x1 x3 x4 k x5 = some r → cells ≤ 0 → slots ≤ 0 → wD G s M M sz H locs → lv_has ls 6 [(0, va_rf x0), (1, va_rf x1), (3, .int x3), (4, .int x4), (5, .int x5)] → W p l e rmX6_behindRow s m args below meth c H locs cells slots Q (F0 m 3 ls []) := by
    intro x0 x1 x3 x4 k
    induction k with
    | zero =>
      intro x5 cells slots H locs ls h
      exact absurd (show (none : Option (Int32)) = some r from h) (fun z => by cases z)
    | succ k ih =>
      intro x5 cells slots H locs ls h hcl hsl hw hl
      rw [f_X6_behindRow_L3] at h
      refine lv_iload hx hb dX6_behindRow_3 (lv_at hl 4 rfl) ?_
      refine m_aload_n (x := x0) hx hb dX6_behindRow_5 rfl (lv_at hl 0 rfl) ?_
      obtain ⟨v1, hv1, h⟩ := ob h
      refine m_getI hC hw (C := RX6) (T := TX6) (N := 5) hv1 ki_X6_behindRow_X6 rfl (by decide) k_X6_behindRow_27 (fun _ z => z) dX6_behindRow_6 ?_
      refine lv_icmp_ge (tgt := 39) hx hb dX6_behindRow_9 (by decide) (fun c2 => ?_) (fun c2 => ?_)
      · replace h := itt h c2
        refine lv_iload hx hb dX6_behindRow_39 (lv_at hl 4 rfl) ?_
        replace h := Option.some.inj h
        subst h
        exact RET hw ⟨(show cells + 0 ≤ 0 from by omega), (show slots + 0 ≤ 0 from by omega)⟩ dX6_behindRow_41
      · replace h := itf h c2
        refine m_aload_n (x := x1) hx hb dX6_behindRow_12 rfl (lv_at hl 1 rfl) ?_
        refine lv_iload hx hb dX6_behindRow_13 (lv_at hl 4 rfl) ?_
        obtain ⟨g3, h⟩ := itg h
        obtain ⟨r4, hr4, h⟩ := ob h
        refine m_contI hC hw (m_runV hC hw (x := x1) (ci := 12) (N := 2) (C := RX9) (T := TX9) (n := 1) (av := [.int x5]) (rest := []) (c_X9_byteAt (G := G) (l := l) hr4) gX6_behindRow_X9_byteAt rfl (by decide +kernel) ⟨(Nat.le_of_ble_eq_true rfl), (Nat.le_of_ble_eq_true rfl)⟩ g3 rfl rfl hl.1 rfl (Nat.le_of_ble_eq_true rfl) dX6_behindRow_15 ⟨(show cells + 0 ≤ 0 from by omega), (show slots + 0 ≤ 0 from by omega)⟩) (fun H locs hw => ?_)
        refine lv_iload_n hx hb dX6_behindRow_18 rfl (lv_at hl 2 rfl) ?_
        refine lv_icmp_lt (tgt := 39) hx hb dX6_behindRow_19 (by decide) (fun c5 => ?_) (fun c5 => ?_)
        · replace h := itt h c5
          refine lv_iload hx hb dX6_behindRow_39 (lv_at hl 4 rfl) ?_
          replace h := Option.some.inj h
          subst h
          exact RET hw ⟨(show cells + 0 ≤ 0 from by omega), (show slots + 0 ≤ 0 from by omega)⟩ dX6_behindRow_41
        · replace h := itf h c5
          refine m_aload_n (x := x1) hx hb dX6_behindRow_22 rfl (lv_at hl 1 rfl) ?_
          refine lv_iload hx hb dX6_behindRow_23 (lv_at hl 4 rfl) ?_
          obtain ⟨g6, h⟩ := itg h
          obtain ⟨r7, hr7, h⟩ := ob h
          refine m_contI hC hw (m_runV hC hw (x := x1) (ci := 12) (N := 2) (C := RX9) (T := TX9) (n := 1) (av := [.int x5]) (rest := []) (c_X9_byteAt (G := G) (l := l) hr7) gX6_behindRow_X9_byteAt rfl (by decide +kernel) ⟨(Nat.le_of_ble_eq_true rfl), (Nat.le_of_ble_eq_true rfl)⟩ g6 rfl rfl hl.1 rfl (Nat.le_of_ble_eq_true rfl) dX6_behindRow_25 ⟨(show cells + 0 ≤ 0 from by omega), (show slots + 0 ≤ 0 from by omega)⟩) (fun H locs hw => ?_)
          refine lv_iload hx hb dX6_behindRow_28 (lv_at hl 3 rfl) ?_
          refine lv_icmp_gt (tgt := 39) hx hb dX6_behindRow_30 (by decide) (fun c8 => ?_) (fun c8 => ?_)
          · replace h := itt h c8
            refine lv_iload hx hb dX6_behindRow_39 (lv_at hl 4 rfl) ?_
            replace h := Option.some.inj h
            subst h
            exact RET hw ⟨(show cells + 0 ≤ 0 from by omega), (show slots + 0 ≤ 0 from by omega)⟩ dX6_behindRow_41
          · replace h := itf h c8
            refine lv_iinc (v := (x5 + (1 : Int32))) (lv' := [(5, .int (x5 + (1 : Int32))), (0, va_rf x0), (1, va_rf x1), (3, .int x3), (4, .int x4)]) hx hb dX6_behindRow_33 hl (k := 4) rfl rfl (by decide) rfl (fun ls hl => ?_)
            refine lv_goto (tgt := 3) hx hb dX6_behindRow_36 (by decide) ?_
            exact ih _ _ _ _ _ _ h hcl hsl hw (lv_sub hl [1, 2, 3, 4, 0] rfl)
  unfold f_X6_behindRow at h
  refine lv_iload_n hx hb dX6_behindRow_0 rfl (lv_at hl 2 rfl) ?_
  refine lv_istore (lv' := [(5, .int a2), (0, va_rf this), (1, va_rf a1), (2, .int a2), (3, .int a3), (4, .int a4)]) hx hb dX6_behindRow_1 hl (by decide) rfl (fun ls hl => ?_)
  exact L3 this a1 a3 a4 _ _ _ _ _ _ _ h (Nat.zero_le _) (Nat.zero_le _) hw (lv_sub hl [1, 2, 4, 5, 0] rfl)

def f_X6_numberIn_L6 (n : Nat) (M : Mem) (x1 : Option Nat) (x3 : Int32) : Nat → Int32 → Int32 → Option (Int32)
  | 0, _, _ => none
  | k + 1, x4, x5 => if x3 ≤ x5 then (some (x4)) else (if isO M x1 12 = true then ((f_X9_byteAt M x1 x5).bind fun r3 => f_X6_numberIn_L6 n M x1 x3 k (((x4 * (10 : Int32)) + r3) - (48 : Int32)) (x5 + (1 : Int32))) else none)
def f_X6_numberIn (n : Nat) (M : Mem) (this : Option Nat) (a1 : Option Nat) (a2 : Int32) (a3 : Int32) : Option (Int32) := f_X6_numberIn_L6 n M a1 a3 n (0 : Int32) a2
def rmX6_numberIn : Room := { frames := 1, cells := 0, slots := 0, locals := 21 }
set_option maxHeartbeats 4000000 in
set_option maxRecDepth 100000 in
theorem c_X6_numberIn {G : wG} {l : Launch} {n : Nat} {M : Mem} {sz : Nat} {this : Option Nat} {a1 : Option Nat} {a2 : Int32} {a3 : Int32} {r : Int32} (h : f_X6_numberIn n M this a1 a2 a3 = some r) : CtrI G l yX6_numberIn wsX6_numberIn rmX6_numberIn [va_rf this, va_rf a1, .int a2, .int a3] M sz r M sz := by
  refine m_startI (own := RX6) (cc := cX6_numberIn) (maxL := 6) (lv0 := [(0, va_rf this), (1, va_rf a1), (2, .int a2), (3, .int a3)]) (by decide) rfl rfl (by simp [lg_sl, va_rf_cat, cat_i, cat_r]) (by simp [lv_args, va_rf_cat, cat_i, cat_r]) ?_
  intro p e s m args below meth c Q hC hname RET hsz hw ls hl
  have hx := hC.1
  have hb := hC.2.1
  have L6 : ∀ (x1 : Option Nat) (x3 : Int32) (k : Nat) (x4 : Int32) (x5 : Int32) (cells slots : Nat) (H : Heap) (locs : List Loc) (ls : Array Slot), f_X6_numberIn_L6 n M x1 x3 k x4 x5 = some r → cells ≤ 0 → slots ≤ 0 → wD G s M M sz H locs → lv_has ls 6 [(1, va_rf x1), (3, .int x3), (4, .int x4), (5, .int x5)] → W p l e rmX6_numberIn s m args below meth c H locs cells slots Q (F0 m 6 ls []) := by
    intro x1 x3 k
    induction k with
    | zero =>
      intro x4 x5 cells slots H locs ls h
      exact absurd (show (none : Option (Int32)) = some r from h) (fun z => by cases z)
    | succ k ih =>
      intro x4 x5 cells slots H locs ls h hcl hsl hw hl
      rw [f_X6_numberIn_L6] at h
      refine lv_iload hx hb dX6_numberIn_6 (lv_at hl 3 rfl) ?_
      refine lv_iload_n hx hb dX6_numberIn_8 rfl (lv_at hl 1 rfl) ?_
      refine lv_icmp_ge (tgt := 35) hx hb dX6_numberIn_9 (by decide) (fun c1 => ?_) (fun c1 => ?_)
      · replace h := itt h c1
        refine lv_iload hx hb dX6_numberIn_35 (lv_at hl 2 rfl) ?_
        replace h := Option.some.inj h
        subst h
        exact RET hw ⟨(show cells + 0 ≤ 0 from by omega), (show slots + 0 ≤ 0 from by omega)⟩ dX6_numberIn_37
      · replace h := itf h c1
        refine lv_iload hx hb dX6_numberIn_12 (lv_at hl 2 rfl) ?_
        refine lv_bipush (v := (10 : Int32)) hx hb dX6_numberIn_14 (by decide) ?_
        refine lv_imul hx hb dX6_numberIn_16 ?_
        refine m_aload_n (x := x1) hx hb dX6_numberIn_17 rfl (lv_at hl 0 rfl) ?_
        refine lv_iload hx hb dX6_numberIn_18 (lv_at hl 3 rfl) ?_
        obtain ⟨g2, h⟩ := itg h
        obtain ⟨r3, hr3, h⟩ := ob h
        refine m_contI hC hw (m_runV hC hw (x := x1) (ci := 12) (N := 2) (C := RX9) (T := TX9) (n := 1) (av := [.int x5]) (rest := [.int (x4 * (10 : Int32))]) (c_X9_byteAt (G := G) (l := l) hr3) gX6_numberIn_X9_byteAt rfl (by decide +kernel) ⟨(Nat.le_of_ble_eq_true rfl), (Nat.le_of_ble_eq_true rfl)⟩ g2 rfl rfl hl.1 rfl (Nat.le_of_ble_eq_true rfl) dX6_numberIn_20 ⟨(show cells + 0 ≤ 0 from by omega), (show slots + 0 ≤ 0 from by omega)⟩) (fun H locs hw => ?_)
        refine lv_iadd hx hb dX6_numberIn_23 ?_
        refine lv_bipush (v := (48 : Int32)) hx hb dX6_numberIn_24 (by decide) ?_
        refine lv_isub hx hb dX6_numberIn_26 ?_
        refine lv_istore (lv' := [(4, .int (((x4 * (10 : Int32)) + r3) - (48 : Int32))), (1, va_rf x1), (3, .int x3), (5, .int x5)]) hx hb dX6_numberIn_27 hl (by decide) rfl (fun ls hl => ?_)
        refine lv_iinc (v := (x5 + (1 : Int32))) (lv' := [(5, .int (x5 + (1 : Int32))), (4, .int (((x4 * (10 : Int32)) + r3) - (48 : Int32))), (1, va_rf x1), (3, .int x3)]) hx hb dX6_numberIn_29 hl (k := 3) rfl rfl (by decide) rfl (fun ls hl => ?_)
        refine lv_goto (tgt := 6) hx hb dX6_numberIn_32 (by decide) ?_
        exact ih _ _ _ _ _ _ _ h hcl hsl hw (lv_sub hl [2, 3, 1, 0] rfl)
  unfold f_X6_numberIn at h
  refine lv_iconst (v := (0 : Int32)) hx hb dX6_numberIn_0 (by decide) ?_
  refine lv_istore (lv' := [(4, .int (0 : Int32)), (0, va_rf this), (1, va_rf a1), (2, .int a2), (3, .int a3)]) hx hb dX6_numberIn_1 hl (by decide) rfl (fun ls hl => ?_)
  refine lv_iload_n hx hb dX6_numberIn_3 rfl (lv_at hl 3 rfl) ?_
  refine lv_istore (lv' := [(5, .int a2), (4, .int (0 : Int32)), (0, va_rf this), (1, va_rf a1), (2, .int a2), (3, .int a3)]) hx hb dX6_numberIn_4 hl (by decide) rfl (fun ls hl => ?_)
  exact L6 a1 a3 _ _ _ _ _ _ _ _ h (Nat.zero_le _) (Nat.zero_le _) hw (lv_sub hl [3, 5, 1, 0] rfl)

def f_X6_add (B : Nat) (M : Mem) (this : Option Nat) (a1 : Int32) (a2 : Int32) (a3 : Int32) : Option (Mem) := (gI M this 9 3).bind fun v1 => if (120 : Int32) ≤ v1 then (some (M)) else ((gR M this 9 0).bind fun v3 => (gI M this 9 3).bind fun v4 => (sI B M 0 v3 v4 a1).bind fun M5 => (gR M5 this 9 1).bind fun v6 => (gI M5 this 9 3).bind fun v7 => (sI B M5 0 v6 v7 a2).bind fun M8 => (gR M8 this 9 2).bind fun v9 => (gI M8 this 9 3).bind fun v10 => (sI B M8 0 v9 v10 a3).bind fun M11 => (gI M11 this 9 3).bind fun v12 => (pF B M11 this 9 3 (.int (v12 + (1 : Int32)))).bind fun M13 => some (M13))
def rmX6_add : Room := { frames := 0, cells := 0, slots := 0, locals := 0 }
theorem k_X6_add_23 : Cond.fieldLink RX6 23 "LoanBook$Pieces" "size" "I" ∈ wsX6_add := List.mem_of_getElem? (i := 1) rfl
theorem ki_X6_add_X6 : ∀ w ∈ u_ws RX6 TX6 5, w ∈ wsX6_add := sub_r [5, 6, 7, 8, 9] (by decide +kernel)
theorem k_X6_add_11 : Cond.fieldLink RX6 11 "LoanBook$Pieces" "starts" "[I" ∈ wsX6_add := List.mem_of_getElem? (i := 2) rfl
theorem k_X6_add_17 : Cond.fieldLink RX6 17 "LoanBook$Pieces" "codes" "[I" ∈ wsX6_add := List.mem_of_getElem? (i := 3) rfl
theorem k_X6_add_20 : Cond.fieldLink RX6 20 "LoanBook$Pieces" "numbers" "[I" ∈ wsX6_add := List.mem_of_getElem? (i := 4) rfl
set_option maxHeartbeats 4000000 in
set_option maxRecDepth 100000 in
theorem c_X6_add {G : wG} {l : Launch} {M : Mem} {sz : Nat} {this : Option Nat} {a1 : Int32} {a2 : Int32} {a3 : Int32} {r : Mem} (h : f_X6_add G.2.2.1 M this a1 a2 a3 = some r) : CtrV G l yX6_add wsX6_add rmX6_add [va_rf this, .int a1, .int a2, .int a3] M sz r sz := by
  refine m_startV (own := RX6) (cc := cX6_add) (maxL := 4) (lv0 := [(0, va_rf this), (1, .int a1), (2, .int a2), (3, .int a3)]) (by decide) rfl rfl (by simp [lg_sl, va_rf_cat, cat_i, cat_r]) (by simp [lv_args, va_rf_cat, cat_i, cat_r]) ?_
  intro p e s m args below meth c Q hC hname RET hsz hw ls hl
  have hx := hC.1
  have hb := hC.2.1
  unfold f_X6_add at h
  refine m_aload_n (x := this) hx hb dX6_add_0 rfl (lv_at hl 0 rfl) ?_
  obtain ⟨v1, hv1, h⟩ := ob h
  refine m_getI hC hw (C := RX6) (T := TX6) (N := 5) hv1 ki_X6_add_X6 rfl (by decide) k_X6_add_23 (fun _ z => z) dX6_add_1 ?_
  refine lv_bipush (v := (120 : Int32)) hx hb dX6_add_4 (by decide) ?_
  refine lv_icmp_ge (tgt := 49) hx hb dX6_add_6 (by decide) (fun c2 => ?_) (fun c2 => ?_)
  · replace h := itt h c2
    replace h := Option.some.inj h
    subst h
    exact RET hw ⟨(Nat.zero_le _), (Nat.zero_le _)⟩ dX6_add_49
  · replace h := itf h c2
    refine m_aload_n (x := this) hx hb dX6_add_9 rfl (lv_at hl 0 rfl) ?_
    obtain ⟨v3, hv3, h⟩ := ob h
    refine m_getR hC hw (C := RX6) (T := TX6) (N := 5) hv3 ki_X6_add_X6 rfl (by decide) k_X6_add_11 (fun _ z => z) dX6_add_10 ?_
    refine m_aload_n (x := this) hx hb dX6_add_13 rfl (lv_at hl 0 rfl) ?_
    obtain ⟨v4, hv4, h⟩ := ob h
    refine m_getI hC hw (C := RX6) (T := TX6) (N := 5) hv4 ki_X6_add_X6 rfl (by decide) k_X6_add_23 (fun _ z => z) dX6_add_14 ?_
    refine lv_iload_n hx hb dX6_add_17 rfl (lv_at hl 1 rfl) ?_
    obtain ⟨M5, hM5, h⟩ := ob h
    refine m_iast (x := v3) hC hw hM5 dX6_add_18 (fun H locs hw => ?_)
    refine m_aload_n (x := this) hx hb dX6_add_19 rfl (lv_at hl 0 rfl) ?_
    obtain ⟨v6, hv6, h⟩ := ob h
    refine m_getR hC hw (C := RX6) (T := TX6) (N := 5) hv6 ki_X6_add_X6 rfl (by decide) k_X6_add_17 (fun _ z => z) dX6_add_20 ?_
    refine m_aload_n (x := this) hx hb dX6_add_23 rfl (lv_at hl 0 rfl) ?_
    obtain ⟨v7, hv7, h⟩ := ob h
    refine m_getI hC hw (C := RX6) (T := TX6) (N := 5) hv7 ki_X6_add_X6 rfl (by decide) k_X6_add_23 (fun _ z => z) dX6_add_24 ?_
    refine lv_iload_n hx hb dX6_add_27 rfl (lv_at hl 2 rfl) ?_
    obtain ⟨M8, hM8, h⟩ := ob h
    refine m_iast (x := v6) hC hw hM8 dX6_add_28 (fun H locs hw => ?_)
    refine m_aload_n (x := this) hx hb dX6_add_29 rfl (lv_at hl 0 rfl) ?_
    obtain ⟨v9, hv9, h⟩ := ob h
    refine m_getR hC hw (C := RX6) (T := TX6) (N := 5) hv9 ki_X6_add_X6 rfl (by decide) k_X6_add_20 (fun _ z => z) dX6_add_30 ?_
    refine m_aload_n (x := this) hx hb dX6_add_33 rfl (lv_at hl 0 rfl) ?_
    obtain ⟨v10, hv10, h⟩ := ob h
    refine m_getI hC hw (C := RX6) (T := TX6) (N := 5) hv10 ki_X6_add_X6 rfl (by decide) k_X6_add_23 (fun _ z => z) dX6_add_34 ?_
    refine lv_iload_n hx hb dX6_add_37 rfl (lv_at hl 3 rfl) ?_
    obtain ⟨M11, hM11, h⟩ := ob h
    refine m_iast (x := v9) hC hw hM11 dX6_add_38 (fun H locs hw => ?_)
    refine m_aload_n (x := this) hx hb dX6_add_39 rfl (lv_at hl 0 rfl) ?_
    refine m_dup (x := this) hx hb dX6_add_40 ?_
    obtain ⟨v12, hv12, h⟩ := ob h
    refine m_getI hC hw (C := RX6) (T := TX6) (N := 5) hv12 ki_X6_add_X6 rfl (by decide) k_X6_add_23 (fun _ z => z) dX6_add_41 ?_
    refine lv_iconst (v := (1 : Int32)) hx hb dX6_add_44 (by decide) ?_
    refine lv_iadd hx hb dX6_add_45 ?_
    obtain ⟨M13, hM13, h⟩ := ob h
    refine m_put hC hw (C := RX6) (T := TX6) (N := 5) (x := this) hM13 ki_X6_add_X6 tyX6 tyX6_ok nmX6 rfl (by decide) k_X6_add_23 (fun _ z => z) rfl rfl rfl dX6_add_46 (fun H locs hw => ?_)
    replace h := Option.some.inj h
    subst h
    exact RET hw ⟨(Nat.zero_le _), (Nat.zero_le _)⟩ dX6_add_49

def f_X11_spelling (S : Nat → Nat) (M : Mem) (a1 : Int32) : Option (Option Nat) := if a1 = (100 : Int32) then (some (some (S 0))) else (if a1 = (101 : Int32) then (some (some (S 1))) else (if a1 = (102 : Int32) then (some (some (S 2))) else (if a1 = (103 : Int32) then (some (some (S 3))) else (if a1 = (104 : Int32) then (some (some (S 4))) else (if a1 = (105 : Int32) then (some (some (S 5))) else (if a1 = (106 : Int32) then (some (some (S 6))) else (if a1 = (107 : Int32) then (some (some (S 7))) else (if a1 = (108 : Int32) then (some (some (S 8))) else (if a1 = (109 : Int32) then (some (some (S 9))) else (if a1 = (110 : Int32) then (some (some (S 10))) else (some (some (S 11)))))))))))))
def rmX11_spelling : Room := { frames := 0, cells := 0, slots := 0, locals := 0 }
set_option maxHeartbeats 4000000 in
set_option maxRecDepth 100000 in
theorem c_X11_spelling {G : wG} {l : Launch} {M : Mem} {sz : Nat} {a1 : Int32} {r : Option Nat} (h : f_X11_spelling G.2.2.2 M a1 = some r) : CtrQ G l yX11_spelling wsX11_spelling rmX11_spelling [.int a1] M sz r M sz := by
  refine m_startQ (own := RX11) (cc := cX11_spelling) (maxL := 1) (lv0 := [(0, .int a1)]) (by decide) rfl rfl (by simp [lg_sl, va_rf_cat, cat_i, cat_r]) (by simp [lv_args, va_rf_cat, cat_i, cat_r]) (Or.inl ⟨_, rfl⟩) ?_
  intro p e s m args below meth c Q hC hname RET hsz hw ls hl
  have hx := hC.1
  have hb := hC.2.1
  unfold f_X11_spelling at h
  refine lv_iload_n hx hb dX11_spelling_0 rfl (lv_at hl 0 rfl) ?_
  by_cases c1 : a1 = (100 : Int32)
  · replace h := itt h c1
    refine lv_tableIn (tgt := 60) hx hb dX11_spelling_1 (by rw [c1]; decide) (by rw [c1]; decide) (by rw [c1]; rfl) (by decide) ?_
    refine m_ldc_w (tx := "not") (i := 0) hC (by decide) dX11_spelling_60 ?_
    replace h := Option.some.inj h
    subst h
    exact RET hw ⟨(Nat.zero_le _), (Nat.zero_le _)⟩ dX11_spelling_63
  replace h := itf h c1
  by_cases c2 : a1 = (101 : Int32)
  · replace h := itt h c2
    refine lv_tableIn (tgt := 64) hx hb dX11_spelling_1 (by rw [c2]; decide) (by rw [c2]; decide) (by rw [c2]; rfl) (by decide) ?_
    refine m_ldc_w (tx := "sound") (i := 1) hC (by decide) dX11_spelling_64 ?_
    replace h := Option.some.inj h
    subst h
    exact RET hw ⟨(Nat.zero_le _), (Nat.zero_le _)⟩ dX11_spelling_67
  replace h := itf h c2
  by_cases c3 : a1 = (102 : Int32)
  · replace h := itt h c3
    refine lv_tableIn (tgt := 68) hx hb dX11_spelling_1 (by rw [c3]; decide) (by rw [c3]; decide) (by rw [c3]; rfl) (by decide) ?_
    refine m_ldc_w (tx := "sheet") (i := 2) hC (by decide) dX11_spelling_68 ?_
    replace h := Option.some.inj h
    subst h
    exact RET hw ⟨(Nat.zero_le _), (Nat.zero_le _)⟩ dX11_spelling_71
  replace h := itf h c3
  by_cases c4 : a1 = (103 : Int32)
  · replace h := itt h c4
    refine lv_tableIn (tgt := 72) hx hb dX11_spelling_1 (by rw [c4]; decide) (by rw [c4]; decide) (by rw [c4]; rfl) (by decide) ?_
    refine m_ldc_w (tx := "jar") (i := 3) hC (by decide) dX11_spelling_72 ?_
    replace h := Option.some.inj h
    subst h
    exact RET hw ⟨(Nat.zero_le _), (Nat.zero_le _)⟩ dX11_spelling_75
  replace h := itf h c4
  by_cases c5 : a1 = (104 : Int32)
  · replace h := itt h c5
    refine lv_tableIn (tgt := 76) hx hb dX11_spelling_1 (by rw [c5]; decide) (by rw [c5]; decide) (by rw [c5]; rfl) (by decide) ?_
    refine m_ldc_w (tx := "skin") (i := 4) hC (by decide) dX11_spelling_76 ?_
    replace h := Option.some.inj h
    subst h
    exact RET hw ⟨(Nat.zero_le _), (Nat.zero_le _)⟩ dX11_spelling_79
  replace h := itf h c5
  by_cases c6 : a1 = (105 : Int32)
  · replace h := itt h c6
    refine lv_tableIn (tgt := 80) hx hb dX11_spelling_1 (by rw [c6]; decide) (by rw [c6]; decide) (by rw [c6]; rfl) (by decide) ?_
    refine m_ldc_w (tx := "cast") (i := 5) hC (by decide) dX11_spelling_80 ?_
    replace h := Option.some.inj h
    subst h
    exact RET hw ⟨(Nat.zero_le _), (Nat.zero_le _)⟩ dX11_spelling_83
  replace h := itf h c6
  by_cases c7 : a1 = (106 : Int32)
  · replace h := itt h c7
    refine lv_tableIn (tgt := 84) hx hb dX11_spelling_1 (by rw [c7]; decide) (by rw [c7]; decide) (by rw [c7]; rfl) (by decide) ?_
    refine m_ldc_w (tx := "book") (i := 6) hC (by decide) dX11_spelling_84 ?_
    replace h := Option.some.inj h
    subst h
    exact RET hw ⟨(Nat.zero_le _), (Nat.zero_le _)⟩ dX11_spelling_87
  replace h := itf h c7
  by_cases c8 : a1 = (107 : Int32)
  · replace h := itt h c8
    refine lv_tableIn (tgt := 88) hx hb dX11_spelling_1 (by rw [c8]; decide) (by rw [c8]; decide) (by rw [c8]; rfl) (by decide) ?_
    refine m_ldc_w (tx := "tear") (i := 7) hC (by decide) dX11_spelling_88 ?_
    replace h := Option.some.inj h
    subst h
    exact RET hw ⟨(Nat.zero_le _), (Nat.zero_le _)⟩ dX11_spelling_91
  replace h := itf h c8
  by_cases c9 : a1 = (108 : Int32)
  · replace h := itt h c9
    refine lv_tableIn (tgt := 92) hx hb dX11_spelling_1 (by rw [c9]; decide) (by rw [c9]; decide) (by rw [c9]; rfl) (by decide) ?_
    refine m_ldc_w (tx := "stain") (i := 8) hC (by decide) dX11_spelling_92 ?_
    replace h := Option.some.inj h
    subst h
    exact RET hw ⟨(Nat.zero_le _), (Nat.zero_le _)⟩ dX11_spelling_95
  replace h := itf h c9
  by_cases c10 : a1 = (109 : Int32)
  · replace h := itt h c10
    refine lv_tableIn (tgt := 96) hx hb dX11_spelling_1 (by rw [c10]; decide) (by rw [c10]; decide) (by rw [c10]; rfl) (by decide) ?_
    refine m_ldc_w (tx := "crack") (i := 9) hC (by decide) dX11_spelling_96 ?_
    replace h := Option.some.inj h
    subst h
    exact RET hw ⟨(Nat.zero_le _), (Nat.zero_le _)⟩ dX11_spelling_99
  replace h := itf h c10
  by_cases c11 : a1 = (110 : Int32)
  · replace h := itt h c11
    refine lv_tableIn (tgt := 100) hx hb dX11_spelling_1 (by rw [c11]; decide) (by rw [c11]; decide) (by rw [c11]; rfl) (by decide) ?_
    refine m_ldc_w (tx := "loss") (i := 10) hC (by decide) dX11_spelling_100 ?_
    replace h := Option.some.inj h
    subst h
    exact RET hw ⟨(Nat.zero_le _), (Nat.zero_le _)⟩ dX11_spelling_103
  replace h := itf h c11
  refine lv_tableOut (tgt := 104) hx hb dX11_spelling_1 (by have tc1 := lv_neT c1 (a := 100) rfl; have tc2 := lv_neT c2 (a := 101) rfl; have tc3 := lv_neT c3 (a := 102) rfl; have tc4 := lv_neT c4 (a := 103) rfl; have tc5 := lv_neT c5 (a := 104) rfl; have tc6 := lv_neT c6 (a := 105) rfl; have tc7 := lv_neT c7 (a := 106) rfl; have tc8 := lv_neT c8 (a := 107) rfl; have tc9 := lv_neT c9 (a := 108) rfl; have tc10 := lv_neT c10 (a := 109) rfl; have tc11 := lv_neT c11 (a := 110) rfl; omega) (by decide) ?_
  refine m_ldc_w (tx := "") (i := 11) hC (by decide) dX11_spelling_104 ?_
  replace h := Option.some.inj h
  subst h
  exact RET hw ⟨(Nat.zero_le _), (Nat.zero_le _)⟩ dX11_spelling_107

def f_X6_isSpelt_L16 (n : Nat) (M : Mem) (x1 : Option Nat) (x2 : Option Nat) (x3 : Int32) : Nat → Int32 → Option (Int32)
  | 0, _ => none
  | k + 1, x5 => if isO M x2 0 = true then ((f_J0_length_8abf5 M x2).bind fun r5 => if r5 ≤ x5 then (some ((1 : Int32))) else (if isO M x2 0 = true then ((f_J0_charAt_5068e M x2 x5).bind fun r8 => if isO M x1 12 = true then ((f_X9_byteAt M x1 (x3 + x5)).bind fun r10 => if r8 = r10 then (f_X6_isSpelt_L16 n M x1 x2 x3 k (x5 + (1 : Int32))) else (some ((0 : Int32)))) else none) else none)) else none
def f_X6_isSpelt (n : Nat) (M : Mem) (this : Option Nat) (a1 : Option Nat) (a2 : Option Nat) (a3 : Int32) (a4 : Int32) : Option (Int32) := if isO M a2 0 = true then ((f_J0_length_8abf5 M a2).bind fun r2 => if r2 = (a4 - a3) then (f_X6_isSpelt_L16 n M a1 a2 a3 n (0 : Int32)) else (some (0 : Int32))) else none
def rmX6_isSpelt : Room := { frames := 4, cells := 0, slots := 0, locals := 85 }
set_option maxHeartbeats 4000000 in
set_option maxRecDepth 100000 in
theorem c_X6_isSpelt {G : wG} {l : Launch} {n : Nat} {M : Mem} {sz : Nat} {this : Option Nat} {a1 : Option Nat} {a2 : Option Nat} {a3 : Int32} {a4 : Int32} {r : Int32} (h : f_X6_isSpelt n M this a1 a2 a3 a4 = some r) : CtrI G l yX6_isSpelt wsX6_isSpelt rmX6_isSpelt [va_rf this, va_rf a1, va_rf a2, .int a3, .int a4] M sz r M sz := by
  refine m_startZ (own := RX6) (cc := cX6_isSpelt) (maxL := 6) (lv0 := [(0, va_rf this), (1, va_rf a1), (2, va_rf a2), (3, .int a3), (4, .int a4)]) (by decide) rfl rfl (by simp [lg_sl, va_rf_cat, cat_i, cat_r]) (by simp [lv_args, va_rf_cat, cat_i, cat_r]) ?_
  intro p e s m args below meth c Q hC hname RET hsz hw ls hl
  have hx := hC.1
  have hb := hC.2.1
  have L16 : ∀ (x1 : Option Nat) (x2 : Option Nat) (x3 : Int32) (k : Nat) (x5 : Int32) (cells slots : Nat) (H : Heap) (locs : List Loc) (ls : Array Slot), f_X6_isSpelt_L16 n M x1 x2 x3 k x5 = some r → cells ≤ 0 → slots ≤ 0 → wD G s M M sz H locs → lv_has ls 6 [(1, va_rf x1), (2, va_rf x2), (3, .int x3), (5, .int x5)] → W p l e rmX6_isSpelt s m args below meth c H locs cells slots Q (F0 m 16 ls []) := by
    intro x1 x2 x3 k
    induction k with
    | zero =>
      intro x5 cells slots H locs ls h
      exact absurd (show (none : Option (Int32)) = some r from h) (fun z => by cases z)
    | succ k ih =>
      intro x5 cells slots H locs ls h hcl hsl hw hl
      rw [f_X6_isSpelt_L16] at h
      refine lv_iload hx hb dX6_isSpelt_16 (lv_at hl 3 rfl) ?_
      refine m_aload_n (x := x2) hx hb dX6_isSpelt_18 rfl (lv_at hl 1 rfl) ?_
      obtain ⟨g4, h⟩ := itg h
      obtain ⟨r5, hr5, h⟩ := ob h
      refine m_contI hC hw (m_runV hC hw (x := x2) (ci := 0) (N := 4) (C := RJ0) (T := TJ0) (n := 0) (av := []) (rest := [.int x5]) (c_J0_length_8abf5 (G := G) (l := l) hr5) gX6_isSpelt_J0_length_8abf5 rfl (by decide +kernel) ⟨(Nat.le_of_ble_eq_true rfl), (Nat.le_of_ble_eq_true rfl)⟩ g4 rfl rfl hl.1 rfl (Nat.le_of_ble_eq_true rfl) dX6_isSpelt_19 ⟨(show cells + 0 ≤ 0 from by omega), (show slots + 0 ≤ 0 from by omega)⟩) (fun H locs hw => ?_)
      refine lv_icmp_ge (tgt := 50) hx hb dX6_isSpelt_22 (by decide) (fun c6 => ?_) (fun c6 => ?_)
      · replace h := itt h c6
        refine lv_iconst (v := (1 : Int32)) hx hb dX6_isSpelt_50 (by decide) ?_
        replace h := Option.some.inj h
        subst h
        exact RET (isZ.nar (Or.inr rfl)) hw ⟨(show cells + 0 ≤ 0 from by omega), (show slots + 0 ≤ 0 from by omega)⟩ dX6_isSpelt_51
      · replace h := itf h c6
        refine m_aload_n (x := x2) hx hb dX6_isSpelt_25 rfl (lv_at hl 1 rfl) ?_
        refine lv_iload hx hb dX6_isSpelt_26 (lv_at hl 3 rfl) ?_
        obtain ⟨g7, h⟩ := itg h
        obtain ⟨r8, hr8, h⟩ := ob h
        refine m_contI hC hw (m_runV hC hw (x := x2) (ci := 0) (N := 4) (C := RJ0) (T := TJ0) (n := 1) (av := [.int x5]) (rest := []) (c_J0_charAt_5068e (G := G) (l := l) hr8) gX6_isSpelt_J0_charAt_5068e rfl (by decide +kernel) ⟨(Nat.le_of_ble_eq_true rfl), (Nat.le_of_ble_eq_true rfl)⟩ g7 rfl rfl hl.1 rfl (Nat.le_of_ble_eq_true rfl) dX6_isSpelt_28 ⟨(show cells + 0 ≤ 0 from by omega), (show slots + 0 ≤ 0 from by omega)⟩) (fun H locs hw => ?_)
        refine m_aload_n (x := x1) hx hb dX6_isSpelt_31 rfl (lv_at hl 0 rfl) ?_
        refine lv_iload_n hx hb dX6_isSpelt_32 rfl (lv_at hl 2 rfl) ?_
        refine lv_iload hx hb dX6_isSpelt_33 (lv_at hl 3 rfl) ?_
        refine lv_iadd hx hb dX6_isSpelt_35 ?_
        obtain ⟨g9, h⟩ := itg h
        obtain ⟨r10, hr10, h⟩ := ob h
        refine m_contI hC hw (m_runV hC hw (x := x1) (ci := 12) (N := 2) (C := RX9) (T := TX9) (n := 1) (av := [.int (x3 + x5)]) (rest := [.int r8]) (c_X9_byteAt (G := G) (l := l) hr10) gX6_isSpelt_X9_byteAt rfl (by decide +kernel) ⟨(Nat.le_of_ble_eq_true rfl), (Nat.le_of_ble_eq_true rfl)⟩ g9 rfl rfl hl.1 rfl (Nat.le_of_ble_eq_true rfl) dX6_isSpelt_36 ⟨(show cells + 0 ≤ 0 from by omega), (show slots + 0 ≤ 0 from by omega)⟩) (fun H locs hw => ?_)
        refine lv_icmp_eq (tgt := 44) hx hb dX6_isSpelt_39 (by decide) (fun c11 => ?_) (fun c11 => ?_)
        · replace h := itt h c11
          refine lv_iinc (v := (x5 + (1 : Int32))) (lv' := [(5, .int (x5 + (1 : Int32))), (1, va_rf x1), (2, va_rf x2), (3, .int x3)]) hx hb dX6_isSpelt_44 hl (k := 3) rfl rfl (by decide) rfl (fun ls hl => ?_)
          refine lv_goto (tgt := 16) hx hb dX6_isSpelt_47 (by decide) ?_
          exact ih _ _ _ _ _ _ h hcl hsl hw (lv_sub hl [1, 2, 3, 0] rfl)
        · replace h := itf h c11
          refine lv_iconst (v := (0 : Int32)) hx hb dX6_isSpelt_42 (by decide) ?_
          replace h := Option.some.inj h
          subst h
          exact RET (isZ.nar (Or.inl rfl)) hw ⟨(show cells + 0 ≤ 0 from by omega), (show slots + 0 ≤ 0 from by omega)⟩ dX6_isSpelt_43
  unfold f_X6_isSpelt at h
  refine m_aload_n (x := a2) hx hb dX6_isSpelt_0 rfl (lv_at hl 2 rfl) ?_
  obtain ⟨g1, h⟩ := itg h
  obtain ⟨r2, hr2, h⟩ := ob h
  refine m_contI hC hw (m_runV hC hw (x := a2) (ci := 0) (N := 4) (C := RJ0) (T := TJ0) (n := 0) (av := []) (rest := []) (c_J0_length_8abf5 (G := G) (l := l) hr2) gX6_isSpelt_J0_length_8abf5 rfl (by decide +kernel) ⟨(Nat.le_of_ble_eq_true rfl), (Nat.le_of_ble_eq_true rfl)⟩ g1 rfl rfl hl.1 rfl (Nat.le_of_ble_eq_true rfl) dX6_isSpelt_1 ⟨(Nat.zero_le _), (Nat.zero_le _)⟩) (fun H locs hw => ?_)
  refine lv_iload hx hb dX6_isSpelt_4 (lv_at hl 4 rfl) ?_
  refine lv_iload_n hx hb dX6_isSpelt_6 rfl (lv_at hl 3 rfl) ?_
  refine lv_isub hx hb dX6_isSpelt_7 ?_
  refine lv_icmp_eq (tgt := 13) hx hb dX6_isSpelt_8 (by decide) (fun c3 => ?_) (fun c3 => ?_)
  · replace h := itt h c3
    refine lv_iconst (v := (0 : Int32)) hx hb dX6_isSpelt_13 (by decide) ?_
    refine lv_istore (lv' := [(5, .int (0 : Int32)), (0, va_rf this), (1, va_rf a1), (2, va_rf a2), (3, .int a3), (4, .int a4)]) hx hb dX6_isSpelt_14 hl (by decide) rfl (fun ls hl => ?_)
    exact L16 a1 a2 a3 _ _ _ _ _ _ _ h (Nat.zero_le _) (Nat.zero_le _) hw (lv_sub hl [2, 3, 4, 0] rfl)
  · replace h := itf h c3
    refine lv_iconst (v := (0 : Int32)) hx hb dX6_isSpelt_11 (by decide) ?_
    replace h := Option.some.inj h
    subst h
    exact RET (isZ.nar (Or.inl rfl)) hw ⟨(Nat.zero_le _), (Nat.zero_le _)⟩ dX6_isSpelt_12

def f_X6_wordIn_L4 (S : Nat → Nat) (n : Nat) (M : Mem) (x0 : Option Nat) (x1 : Option Nat) (x2 : Int32) (x3 : Int32) : Nat → Int32 → Option (Int32)
  | 0, _ => none
  | k + 1, x4 => if (111 : Int32) ≤ x4 then (some ((0 : Int32))) else ((f_X11_spelling S M x4).bind fun r2 => if isO M x0 9 = true then ((f_X6_isSpelt n M x0 x1 r2 x2 x3).bind fun r4 => if r4 = 0 then (f_X6_wordIn_L4 S n M x0 x1 x2 x3 k (x4 + (1 : Int32))) else (some (x4))) else none)
def f_X6_wordIn (S : Nat → Nat) (n : Nat) (M : Mem) (this : Option Nat) (a1 : Option Nat) (a2 : Int32) (a3 : Int32) : Option (Int32) := f_X6_wordIn_L4 S n M this a1 a2 a3 n (100 : Int32)
def rmX6_wordIn : Room := { frames := 5, cells := 0, slots := 0, locals := 110 }
theorem k_X6_wordIn_stX11_spelling : Cond.static yX11_spelling ∈ wsX6_wordIn := List.mem_of_getElem? (i := 1) rfl
theorem k_X6_wordIn_inX11 : Cond.initialized RX11 ∈ wsX6_wordIn := List.mem_of_getElem? (i := 2) rfl
set_option maxHeartbeats 4000000 in
set_option maxRecDepth 100000 in
theorem c_X6_wordIn {G : wG} {l : Launch} {n : Nat} {M : Mem} {sz : Nat} {this : Option Nat} {a1 : Option Nat} {a2 : Int32} {a3 : Int32} {r : Int32} (h : f_X6_wordIn G.2.2.2 n M this a1 a2 a3 = some r) : CtrI G l yX6_wordIn wsX6_wordIn rmX6_wordIn [va_rf this, va_rf a1, .int a2, .int a3] M sz r M sz := by
  refine m_startI (own := RX6) (cc := cX6_wordIn) (maxL := 5) (lv0 := [(0, va_rf this), (1, va_rf a1), (2, .int a2), (3, .int a3)]) (by decide) rfl rfl (by simp [lg_sl, va_rf_cat, cat_i, cat_r]) (by simp [lv_args, va_rf_cat, cat_i, cat_r]) ?_
  intro p e s m args below meth c Q hC hname RET hsz hw ls hl
  have hx := hC.1
  have hb := hC.2.1
  have L4 : ∀ (x0 : Option Nat) (x1 : Option Nat) (x2 : Int32) (x3 : Int32) (k : Nat) (x4 : Int32) (cells slots : Nat) (H : Heap) (locs : List Loc) (ls : Array Slot), f_X6_wordIn_L4 G.2.2.2 n M x0 x1 x2 x3 k x4 = some r → cells ≤ 0 → slots ≤ 0 → wD G s M M sz H locs → lv_has ls 5 [(0, va_rf x0), (1, va_rf x1), (2, .int x2), (3, .int x3), (4, .int x4)] → W p l e rmX6_wordIn s m args below meth c H locs cells slots Q (F0 m 4 ls []) := by
    intro x0 x1 x2 x3 k
    induction k with
    | zero =>
      intro x4 cells slots H locs ls h
      exact absurd (show (none : Option (Int32)) = some r from h) (fun z => by cases z)
    | succ k ih =>
      intro x4 cells slots H locs ls h hcl hsl hw hl
      rw [f_X6_wordIn_L4] at h
      refine lv_iload hx hb dX6_wordIn_4 (lv_at hl 4 rfl) ?_
      refine lv_bipush (v := (111 : Int32)) hx hb dX6_wordIn_6 (by decide) ?_
      refine lv_icmp_ge (tgt := 35) hx hb dX6_wordIn_8 (by decide) (fun c1 => ?_) (fun c1 => ?_)
      · replace h := itt h c1
        refine lv_iconst (v := (0 : Int32)) hx hb dX6_wordIn_35 (by decide) ?_
        replace h := Option.some.inj h
        subst h
        exact RET hw ⟨(show cells + 0 ≤ 0 from by omega), (show slots + 0 ≤ 0 from by omega)⟩ dX6_wordIn_36
      · replace h := itf h c1
        refine m_aload_n (x := x0) hx hb dX6_wordIn_11 rfl (lv_at hl 0 rfl) ?_
        refine m_aload_n (x := x1) hx hb dX6_wordIn_12 rfl (lv_at hl 1 rfl) ?_
        refine lv_iload hx hb dX6_wordIn_13 (lv_at hl 4 rfl) ?_
        obtain ⟨r2, hr2, h⟩ := ob h
        refine m_contQ hC hw (m_runSN hC hw (host := "LoanBook") (n := 1) (av := [.int x4]) (rest := [va_rf x1, va_rf x0]) (c_X11_spelling (G := G) (l := l) hr2) gX6_wordIn_X11_spelling_n56 (by decide +kernel) k_X6_wordIn_stX11_spelling k_X6_wordIn_inX11 rfl (by decide +kernel) ⟨(Nat.le_of_ble_eq_true rfl), (Nat.le_of_ble_eq_true rfl)⟩ rfl hl.1 rfl (by simp [va_rf_cat, cat_i, cat_r, cat_l]) dX6_wordIn_15 ⟨(show cells + 0 ≤ 0 from by omega), (show slots + 0 ≤ 0 from by omega)⟩) (fun H locs hw => ?_)
        refine lv_iload_n hx hb dX6_wordIn_18 rfl (lv_at hl 2 rfl) ?_
        refine lv_iload_n hx hb dX6_wordIn_19 rfl (lv_at hl 3 rfl) ?_
        obtain ⟨g3, h⟩ := itg h
        obtain ⟨r4, hr4, h⟩ := ob h
        refine m_contI hC hw (m_runV hC hw (x := x0) (ci := 9) (N := 5) (C := RX6) (T := TX6) (n := 4) (av := [va_rf x1, va_rf r2, .int x2, .int x3]) (rest := []) (c_X6_isSpelt (G := G) (l := l) hr4) gX6_wordIn_X6_isSpelt rfl (by decide +kernel) ⟨(Nat.le_of_ble_eq_true rfl), (Nat.le_of_ble_eq_true rfl)⟩ g3 rfl rfl hl.1 rfl (Nat.le_of_ble_eq_true rfl) dX6_wordIn_20 ⟨(show cells + 0 ≤ 0 from by omega), (show slots + 0 ≤ 0 from by omega)⟩) (fun H locs hw => ?_)
        refine lv_if_eq (tgt := 29) hx hb dX6_wordIn_23 (by decide) (fun c5 => ?_) (fun c5 => ?_)
        · replace h := itt h c5
          refine lv_iinc (v := (x4 + (1 : Int32))) (lv' := [(4, .int (x4 + (1 : Int32))), (0, va_rf x0), (1, va_rf x1), (2, .int x2), (3, .int x3)]) hx hb dX6_wordIn_29 hl (k := 4) rfl rfl (by decide) rfl (fun ls hl => ?_)
          refine lv_goto (tgt := 4) hx hb dX6_wordIn_32 (by decide) ?_
          exact ih _ _ _ _ _ _ h hcl hsl hw (lv_sub hl [1, 2, 3, 4, 0] rfl)
        · replace h := itf h c5
          refine lv_iload hx hb dX6_wordIn_26 (lv_at hl 4 rfl) ?_
          replace h := Option.some.inj h
          subst h
          exact RET hw ⟨(show cells + 0 ≤ 0 from by omega), (show slots + 0 ≤ 0 from by omega)⟩ dX6_wordIn_28
  unfold f_X6_wordIn at h
  refine lv_bipush (v := (100 : Int32)) hx hb dX6_wordIn_0 (by decide) ?_
  refine lv_istore (lv' := [(4, .int (100 : Int32)), (0, va_rf this), (1, va_rf a1), (2, .int a2), (3, .int a3)]) hx hb dX6_wordIn_2 hl (by decide) rfl (fun ls hl => ?_)
  exact L4 this a1 a2 a3 _ _ _ _ _ _ _ h (Nat.zero_le _) (Nat.zero_le _) hw (lv_sub hl [1, 2, 3, 4, 0] rfl)

def f_X6_cutFrom (B : Nat) (S : Nat → Nat) (n : Nat) (M : Mem) (this : Option Nat) (a1 : Option Nat) (a2 : Int32) : Option (Int32 × Mem) := if isO M a1 12 = true then ((f_X9_byteAt M a1 a2).bind fun r2 => if r2 = (32 : Int32) then (some ((a2 + (1 : Int32)), M)) else (if r2 < (48 : Int32) then (if r2 < (97 : Int32) then (((if r2 = (43 : Int32) then (some ((1 : Int32))) else (if r2 = (45 : Int32) then (some ((1 : Int32))) else (if r2 = (44 : Int32) then (some ((1 : Int32))) else (if r2 = (58 : Int32) then (some ((1 : Int32))) else (some ((0 : Int32))))))) : Option (Int32)).bind fun o11 => if o11 = 0 then (if isO M this 9 = true then ((f_X6_add B M this a2 (0 : Int32) (0 : Int32)).bind fun r14 => some ((a2 + (1 : Int32)), r14)) else none) else (if isO M this 9 = true then ((f_X6_add B M this a2 r2 (0 : Int32)).bind fun r16 => some ((a2 + (1 : Int32)), r16)) else none)) else (if (122 : Int32) < r2 then (((if r2 = (43 : Int32) then (some ((1 : Int32))) else (if r2 = (45 : Int32) then (some ((1 : Int32))) else (if r2 = (44 : Int32) then (some ((1 : Int32))) else (if r2 = (58 : Int32) then (some ((1 : Int32))) else (some ((0 : Int32))))))) : Option (Int32)).bind fun o23 => if o23 = 0 then (if isO M this 9 = true then ((f_X6_add B M this a2 (0 : Int32) (0 : Int32)).bind fun r26 => some ((a2 + (1 : Int32)), r26)) else none) else (if isO M this 9 = true then ((f_X6_add B M this a2 r2 (0 : Int32)).bind fun r28 => some ((a2 + (1 : Int32)), r28)) else none)) else (if isO M this 9 = true then ((f_X6_behindRow n M this a1 a2 (97 : Int32) (122 : Int32)).bind fun r30 => if isO M this 9 = true then ((f_X6_wordIn S n M this a1 a2 r30).bind fun r32 => if isO M this 9 = true then ((f_X6_add B M this a2 r32 (0 : Int32)).bind fun r34 => some (r30, r34)) else none) else none) else none))) else (if (57 : Int32) < r2 then (if r2 < (97 : Int32) then (((if r2 = (43 : Int32) then (some ((1 : Int32))) else (if r2 = (45 : Int32) then (some ((1 : Int32))) else (if r2 = (44 : Int32) then (some ((1 : Int32))) else (if r2 = (58 : Int32) then (some ((1 : Int32))) else (some ((0 : Int32))))))) : Option (Int32)).bind fun o42 => if o42 = 0 then (if isO M this 9 = true then ((f_X6_add B M this a2 (0 : Int32) (0 : Int32)).bind fun r45 => some ((a2 + (1 : Int32)), r45)) else none) else (if isO M this 9 = true then ((f_X6_add B M this a2 r2 (0 : Int32)).bind fun r47 => some ((a2 + (1 : Int32)), r47)) else none)) else (if (122 : Int32) < r2 then (((if r2 = (43 : Int32) then (some ((1 : Int32))) else (if r2 = (45 : Int32) then (some ((1 : Int32))) else (if r2 = (44 : Int32) then (some ((1 : Int32))) else (if r2 = (58 : Int32) then (some ((1 : Int32))) else (some ((0 : Int32))))))) : Option (Int32)).bind fun o54 => if o54 = 0 then (if isO M this 9 = true then ((f_X6_add B M this a2 (0 : Int32) (0 : Int32)).bind fun r57 => some ((a2 + (1 : Int32)), r57)) else none) else (if isO M this 9 = true then ((f_X6_add B M this a2 r2 (0 : Int32)).bind fun r59 => some ((a2 + (1 : Int32)), r59)) else none)) else (if isO M this 9 = true then ((f_X6_behindRow n M this a1 a2 (97 : Int32) (122 : Int32)).bind fun r61 => if isO M this 9 = true then ((f_X6_wordIn S n M this a1 a2 r61).bind fun r63 => if isO M this 9 = true then ((f_X6_add B M this a2 r63 (0 : Int32)).bind fun r65 => some (r61, r65)) else none) else none) else none))) else (if isO M this 9 = true then ((f_X6_behindRow n M this a1 a2 (48 : Int32) (57 : Int32)).bind fun r67 => ((if (4 : Int32) < (r67 - a2) then (some ((0 : Int32))) else (some ((1 : Int32)))) : Option (Int32)).bind fun o70 => ((if o70 = 0 then (some ((0 : Int32), a2, this)) else (some ((1 : Int32), a2, this))) : Option (Int32 × Int32 × Option Nat)).bind fun o73 => if o70 = 0 then (if isO M o73.2.2 9 = true then ((f_X6_add B M o73.2.2 o73.2.1 o73.1 (0 : Int32)).bind fun r76 => some (r67, r76)) else none) else (if isO M this 9 = true then ((f_X6_numberIn n M this a1 a2 r67).bind fun r78 => if isO M o73.2.2 9 = true then ((f_X6_add B M o73.2.2 o73.2.1 o73.1 r78).bind fun r80 => some (r67, r80)) else none) else none)) else none)))) else none
def rmX6_cutFrom : Room := { frames := 6, cells := 0, slots := 0, locals := 134 }
set_option maxHeartbeats 4000000 in
set_option maxRecDepth 100000 in
theorem c_X6_cutFrom {G : wG} {l : Launch} {n : Nat} {M : Mem} {sz : Nat} {this : Option Nat} {a1 : Option Nat} {a2 : Int32} {r : Int32 × Mem} (h : f_X6_cutFrom G.2.2.1 G.2.2.2 n M this a1 a2 = some r) : CtrI G l yX6_cutFrom wsX6_cutFrom rmX6_cutFrom [va_rf this, va_rf a1, .int a2] M sz r.1 r.2 sz := by
  refine m_startI (own := RX6) (cc := cX6_cutFrom) (maxL := 6) (lv0 := [(0, va_rf this), (1, va_rf a1), (2, .int a2)]) (by decide) rfl rfl (by simp [lg_sl, va_rf_cat, cat_i, cat_r]) (by simp [lv_args, va_rf_cat, cat_i, cat_r]) ?_
  intro p e s m args below meth c Q hC hname RET hsz hw ls hl
  have hx := hC.1
  have hb := hC.2.1
  unfold f_X6_cutFrom at h
  refine m_aload_n (x := a1) hx hb dX6_cutFrom_0 rfl (lv_at hl 1 rfl) ?_
  refine lv_iload_n hx hb dX6_cutFrom_1 rfl (lv_at hl 2 rfl) ?_
  obtain ⟨g1, h⟩ := itg h
  obtain ⟨r2, hr2, h⟩ := ob h
  refine m_contI hC hw (m_runV hC hw (x := a1) (ci := 12) (N := 2) (C := RX9) (T := TX9) (n := 1) (av := [.int a2]) (rest := []) (c_X9_byteAt (G := G) (l := l) hr2) gX6_cutFrom_X9_byteAt rfl (by decide +kernel) ⟨(Nat.le_of_ble_eq_true rfl), (Nat.le_of_ble_eq_true rfl)⟩ g1 rfl rfl hl.1 rfl (Nat.le_of_ble_eq_true rfl) dX6_cutFrom_2 ⟨(Nat.zero_le _), (Nat.zero_le _)⟩) (fun H locs hw => ?_)
  refine lv_istore_n (i := 3) (lv' := [(3, .int r2), (0, va_rf this), (1, va_rf a1), (2, .int a2)]) hx hb dX6_cutFrom_5 rfl hl (by decide) rfl (fun ls hl => ?_)
  refine lv_iload_n hx hb dX6_cutFrom_6 rfl (lv_at hl 0 rfl) ?_
  refine lv_bipush (v := (32 : Int32)) hx hb dX6_cutFrom_7 (by decide) ?_
  refine lv_icmp_ne (tgt := 16) hx hb dX6_cutFrom_9 (by decide) (fun c3 => ?_) (fun c3 => ?_)
  · replace h := itf h c3
    refine lv_iload_n hx hb dX6_cutFrom_16 rfl (lv_at hl 0 rfl) ?_
    refine lv_bipush (v := (48 : Int32)) hx hb dX6_cutFrom_17 (by decide) ?_
    refine lv_icmp_lt (tgt := 90) hx hb dX6_cutFrom_19 (by decide) (fun c4 => ?_) (fun c4 => ?_)
    · replace h := itt h c4
      refine lv_iload_n hx hb dX6_cutFrom_90 rfl (lv_at hl 0 rfl) ?_
      refine lv_bipush (v := (97 : Int32)) hx hb dX6_cutFrom_91 (by decide) ?_
      refine lv_icmp_lt (tgt := 131) hx hb dX6_cutFrom_93 (by decide) (fun c5 => ?_) (fun c5 => ?_)
      · replace h := itt h c5
        refine lv_iload_n hx hb dX6_cutFrom_131 rfl (lv_at hl 0 rfl) ?_
        refine lv_bipush (v := (43 : Int32)) hx hb dX6_cutFrom_132 (by decide) ?_
        obtain ⟨o11, ho11, h⟩ := ob h
        have J6 : ∀ (H : Heap) (locs : List Loc) (ls : Array Slot), wD G s M M sz H locs → lv_has ls 6 [(0, va_rf this), (2, .int a2), (3, .int r2)] → W p l e rmX6_cutFrom s m args below meth c H locs 0 0 Q (F0 m 160 ls [.int o11]) := by
          intro H locs ls hw hl
          refine lv_istore (lv' := [(4, .int o11), (0, va_rf this), (2, .int a2), (3, .int r2)]) hx hb dX6_cutFrom_160 hl (by decide) rfl (fun ls hl => ?_)
          refine m_aload_n (x := this) hx hb dX6_cutFrom_162 rfl (lv_at hl 1 rfl) ?_
          refine lv_iload_n hx hb dX6_cutFrom_163 rfl (lv_at hl 2 rfl) ?_
          refine lv_iload hx hb dX6_cutFrom_164 (lv_at hl 0 rfl) ?_
          refine lv_if_eq (tgt := 173) hx hb dX6_cutFrom_166 (by decide) (fun c12 => ?_) (fun c12 => ?_)
          · replace h := itt h c12
            refine lv_iconst (v := (0 : Int32)) hx hb dX6_cutFrom_173 (by decide) ?_
            refine lv_iconst (v := (0 : Int32)) hx hb dX6_cutFrom_174 (by decide) ?_
            obtain ⟨g13, h⟩ := itg h
            obtain ⟨r14, hr14, h⟩ := ob h
            refine m_contV hC hw (m_runV hC hw (x := this) (ci := 9) (N := 5) (C := RX6) (T := TX6) (n := 3) (av := [.int a2, .int (0 : Int32), .int (0 : Int32)]) (rest := []) (c_X6_add (G := G) (l := l) hr14) gX6_cutFrom_X6_add rfl (by decide +kernel) ⟨(Nat.le_of_ble_eq_true rfl), (Nat.le_of_ble_eq_true rfl)⟩ g13 rfl rfl hl.1 rfl (Nat.le_of_ble_eq_true rfl) dX6_cutFrom_175 ⟨(Nat.zero_le _), (Nat.zero_le _)⟩) (fun H locs hw => ?_)
            refine lv_iload_n hx hb dX6_cutFrom_178 rfl (lv_at hl 2 rfl) ?_
            refine lv_iconst (v := (1 : Int32)) hx hb dX6_cutFrom_179 (by decide) ?_
            refine lv_iadd hx hb dX6_cutFrom_180 ?_
            replace h := Option.some.inj h
            subst h
            exact RET hw ⟨(Nat.zero_le _), (Nat.zero_le _)⟩ dX6_cutFrom_181
          · replace h := itf h c12
            refine lv_iload_n hx hb dX6_cutFrom_169 rfl (lv_at hl 3 rfl) ?_
            refine lv_goto (tgt := 174) hx hb dX6_cutFrom_170 (by decide) ?_
            refine lv_iconst (v := (0 : Int32)) hx hb dX6_cutFrom_174 (by decide) ?_
            obtain ⟨g15, h⟩ := itg h
            obtain ⟨r16, hr16, h⟩ := ob h
            refine m_contV hC hw (m_runV hC hw (x := this) (ci := 9) (N := 5) (C := RX6) (T := TX6) (n := 3) (av := [.int a2, .int r2, .int (0 : Int32)]) (rest := []) (c_X6_add (G := G) (l := l) hr16) gX6_cutFrom_X6_add rfl (by decide +kernel) ⟨(Nat.le_of_ble_eq_true rfl), (Nat.le_of_ble_eq_true rfl)⟩ g15 rfl rfl hl.1 rfl (Nat.le_of_ble_eq_true rfl) dX6_cutFrom_175 ⟨(Nat.zero_le _), (Nat.zero_le _)⟩) (fun H locs hw => ?_)
            refine lv_iload_n hx hb dX6_cutFrom_178 rfl (lv_at hl 2 rfl) ?_
            refine lv_iconst (v := (1 : Int32)) hx hb dX6_cutFrom_179 (by decide) ?_
            refine lv_iadd hx hb dX6_cutFrom_180 ?_
            replace h := Option.some.inj h
            subst h
            exact RET hw ⟨(Nat.zero_le _), (Nat.zero_le _)⟩ dX6_cutFrom_181
        clear h
        replace h := ho11
        refine lv_icmp_eq (tgt := 155) hx hb dX6_cutFrom_134 (by decide) (fun c7 => ?_) (fun c7 => ?_)
        · replace h := itt h c7
          refine lv_iconst (v := (1 : Int32)) hx hb dX6_cutFrom_155 (by decide) ?_
          refine lv_goto (tgt := 160) hx hb dX6_cutFrom_156 (by decide) ?_
          replace h := Option.some.inj h
          subst h
          exact J6 _ _ _ hw (lv_sub hl [1, 3, 0] rfl)
        · replace h := itf h c7
          refine lv_iload_n hx hb dX6_cutFrom_137 rfl (lv_at hl 0 rfl) ?_
          refine lv_bipush (v := (45 : Int32)) hx hb dX6_cutFrom_138 (by decide) ?_
          refine lv_icmp_eq (tgt := 155) hx hb dX6_cutFrom_140 (by decide) (fun c8 => ?_) (fun c8 => ?_)
          · replace h := itt h c8
            refine lv_iconst (v := (1 : Int32)) hx hb dX6_cutFrom_155 (by decide) ?_
            refine lv_goto (tgt := 160) hx hb dX6_cutFrom_156 (by decide) ?_
            replace h := Option.some.inj h
            subst h
            exact J6 _ _ _ hw (lv_sub hl [1, 3, 0] rfl)
          · replace h := itf h c8
            refine lv_iload_n hx hb dX6_cutFrom_143 rfl (lv_at hl 0 rfl) ?_
            refine lv_bipush (v := (44 : Int32)) hx hb dX6_cutFrom_144 (by decide) ?_
            refine lv_icmp_eq (tgt := 155) hx hb dX6_cutFrom_146 (by decide) (fun c9 => ?_) (fun c9 => ?_)
            · replace h := itt h c9
              refine lv_iconst (v := (1 : Int32)) hx hb dX6_cutFrom_155 (by decide) ?_
              refine lv_goto (tgt := 160) hx hb dX6_cutFrom_156 (by decide) ?_
              replace h := Option.some.inj h
              subst h
              exact J6 _ _ _ hw (lv_sub hl [1, 3, 0] rfl)
            · replace h := itf h c9
              refine lv_iload_n hx hb dX6_cutFrom_149 rfl (lv_at hl 0 rfl) ?_
              refine lv_bipush (v := (58 : Int32)) hx hb dX6_cutFrom_150 (by decide) ?_
              refine lv_icmp_ne (tgt := 159) hx hb dX6_cutFrom_152 (by decide) (fun c10 => ?_) (fun c10 => ?_)
              · replace h := itf h c10
                refine lv_iconst (v := (0 : Int32)) hx hb dX6_cutFrom_159 (by decide) ?_
                replace h := Option.some.inj h
                subst h
                exact J6 _ _ _ hw (lv_sub hl [1, 3, 0] rfl)
              · replace h := itt h c10
                refine lv_iconst (v := (1 : Int32)) hx hb dX6_cutFrom_155 (by decide) ?_
                refine lv_goto (tgt := 160) hx hb dX6_cutFrom_156 (by decide) ?_
                replace h := Option.some.inj h
                subst h
                exact J6 _ _ _ hw (lv_sub hl [1, 3, 0] rfl)
      · replace h := itf h c5
        refine lv_iload_n hx hb dX6_cutFrom_96 rfl (lv_at hl 0 rfl) ?_
        refine lv_bipush (v := (122 : Int32)) hx hb dX6_cutFrom_97 (by decide) ?_
        refine lv_icmp_gt (tgt := 131) hx hb dX6_cutFrom_99 (by decide) (fun c17 => ?_) (fun c17 => ?_)
        · replace h := itt h c17
          refine lv_iload_n hx hb dX6_cutFrom_131 rfl (lv_at hl 0 rfl) ?_
          refine lv_bipush (v := (43 : Int32)) hx hb dX6_cutFrom_132 (by decide) ?_
          obtain ⟨o23, ho23, h⟩ := ob h
          have J18 : ∀ (H : Heap) (locs : List Loc) (ls : Array Slot), wD G s M M sz H locs → lv_has ls 6 [(0, va_rf this), (2, .int a2), (3, .int r2)] → W p l e rmX6_cutFrom s m args below meth c H locs 0 0 Q (F0 m 160 ls [.int o23]) := by
            intro H locs ls hw hl
            refine lv_istore (lv' := [(4, .int o23), (0, va_rf this), (2, .int a2), (3, .int r2)]) hx hb dX6_cutFrom_160 hl (by decide) rfl (fun ls hl => ?_)
            refine m_aload_n (x := this) hx hb dX6_cutFrom_162 rfl (lv_at hl 1 rfl) ?_
            refine lv_iload_n hx hb dX6_cutFrom_163 rfl (lv_at hl 2 rfl) ?_
            refine lv_iload hx hb dX6_cutFrom_164 (lv_at hl 0 rfl) ?_
            refine lv_if_eq (tgt := 173) hx hb dX6_cutFrom_166 (by decide) (fun c24 => ?_) (fun c24 => ?_)
            · replace h := itt h c24
              refine lv_iconst (v := (0 : Int32)) hx hb dX6_cutFrom_173 (by decide) ?_
              refine lv_iconst (v := (0 : Int32)) hx hb dX6_cutFrom_174 (by decide) ?_
              obtain ⟨g25, h⟩ := itg h
              obtain ⟨r26, hr26, h⟩ := ob h
              refine m_contV hC hw (m_runV hC hw (x := this) (ci := 9) (N := 5) (C := RX6) (T := TX6) (n := 3) (av := [.int a2, .int (0 : Int32), .int (0 : Int32)]) (rest := []) (c_X6_add (G := G) (l := l) hr26) gX6_cutFrom_X6_add rfl (by decide +kernel) ⟨(Nat.le_of_ble_eq_true rfl), (Nat.le_of_ble_eq_true rfl)⟩ g25 rfl rfl hl.1 rfl (Nat.le_of_ble_eq_true rfl) dX6_cutFrom_175 ⟨(Nat.zero_le _), (Nat.zero_le _)⟩) (fun H locs hw => ?_)
              refine lv_iload_n hx hb dX6_cutFrom_178 rfl (lv_at hl 2 rfl) ?_
              refine lv_iconst (v := (1 : Int32)) hx hb dX6_cutFrom_179 (by decide) ?_
              refine lv_iadd hx hb dX6_cutFrom_180 ?_
              replace h := Option.some.inj h
              subst h
              exact RET hw ⟨(Nat.zero_le _), (Nat.zero_le _)⟩ dX6_cutFrom_181
            · replace h := itf h c24
              refine lv_iload_n hx hb dX6_cutFrom_169 rfl (lv_at hl 3 rfl) ?_
              refine lv_goto (tgt := 174) hx hb dX6_cutFrom_170 (by decide) ?_
              refine lv_iconst (v := (0 : Int32)) hx hb dX6_cutFrom_174 (by decide) ?_
              obtain ⟨g27, h⟩ := itg h
              obtain ⟨r28, hr28, h⟩ := ob h
              refine m_contV hC hw (m_runV hC hw (x := this) (ci := 9) (N := 5) (C := RX6) (T := TX6) (n := 3) (av := [.int a2, .int r2, .int (0 : Int32)]) (rest := []) (c_X6_add (G := G) (l := l) hr28) gX6_cutFrom_X6_add rfl (by decide +kernel) ⟨(Nat.le_of_ble_eq_true rfl), (Nat.le_of_ble_eq_true rfl)⟩ g27 rfl rfl hl.1 rfl (Nat.le_of_ble_eq_true rfl) dX6_cutFrom_175 ⟨(Nat.zero_le _), (Nat.zero_le _)⟩) (fun H locs hw => ?_)
              refine lv_iload_n hx hb dX6_cutFrom_178 rfl (lv_at hl 2 rfl) ?_
              refine lv_iconst (v := (1 : Int32)) hx hb dX6_cutFrom_179 (by decide) ?_
              refine lv_iadd hx hb dX6_cutFrom_180 ?_
              replace h := Option.some.inj h
              subst h
              exact RET hw ⟨(Nat.zero_le _), (Nat.zero_le _)⟩ dX6_cutFrom_181
          clear h
          replace h := ho23
          refine lv_icmp_eq (tgt := 155) hx hb dX6_cutFrom_134 (by decide) (fun c19 => ?_) (fun c19 => ?_)
          · replace h := itt h c19
            refine lv_iconst (v := (1 : Int32)) hx hb dX6_cutFrom_155 (by decide) ?_
            refine lv_goto (tgt := 160) hx hb dX6_cutFrom_156 (by decide) ?_
            replace h := Option.some.inj h
            subst h
            exact J18 _ _ _ hw (lv_sub hl [1, 3, 0] rfl)
          · replace h := itf h c19
            refine lv_iload_n hx hb dX6_cutFrom_137 rfl (lv_at hl 0 rfl) ?_
            refine lv_bipush (v := (45 : Int32)) hx hb dX6_cutFrom_138 (by decide) ?_
            refine lv_icmp_eq (tgt := 155) hx hb dX6_cutFrom_140 (by decide) (fun c20 => ?_) (fun c20 => ?_)
            · replace h := itt h c20
              refine lv_iconst (v := (1 : Int32)) hx hb dX6_cutFrom_155 (by decide) ?_
              refine lv_goto (tgt := 160) hx hb dX6_cutFrom_156 (by decide) ?_
              replace h := Option.some.inj h
              subst h
              exact J18 _ _ _ hw (lv_sub hl [1, 3, 0] rfl)
            · replace h := itf h c20
              refine lv_iload_n hx hb dX6_cutFrom_143 rfl (lv_at hl 0 rfl) ?_
              refine lv_bipush (v := (44 : Int32)) hx hb dX6_cutFrom_144 (by decide) ?_
              refine lv_icmp_eq (tgt := 155) hx hb dX6_cutFrom_146 (by decide) (fun c21 => ?_) (fun c21 => ?_)
              · replace h := itt h c21
                refine lv_iconst (v := (1 : Int32)) hx hb dX6_cutFrom_155 (by decide) ?_
                refine lv_goto (tgt := 160) hx hb dX6_cutFrom_156 (by decide) ?_
                replace h := Option.some.inj h
                subst h
                exact J18 _ _ _ hw (lv_sub hl [1, 3, 0] rfl)
              · replace h := itf h c21
                refine lv_iload_n hx hb dX6_cutFrom_149 rfl (lv_at hl 0 rfl) ?_
                refine lv_bipush (v := (58 : Int32)) hx hb dX6_cutFrom_150 (by decide) ?_
                refine lv_icmp_ne (tgt := 159) hx hb dX6_cutFrom_152 (by decide) (fun c22 => ?_) (fun c22 => ?_)
                · replace h := itf h c22
                  refine lv_iconst (v := (0 : Int32)) hx hb dX6_cutFrom_159 (by decide) ?_
                  replace h := Option.some.inj h
                  subst h
                  exact J18 _ _ _ hw (lv_sub hl [1, 3, 0] rfl)
                · replace h := itt h c22
                  refine lv_iconst (v := (1 : Int32)) hx hb dX6_cutFrom_155 (by decide) ?_
                  refine lv_goto (tgt := 160) hx hb dX6_cutFrom_156 (by decide) ?_
                  replace h := Option.some.inj h
                  subst h
                  exact J18 _ _ _ hw (lv_sub hl [1, 3, 0] rfl)
        · replace h := itf h c17
          refine m_aload_n (x := this) hx hb dX6_cutFrom_102 rfl (lv_at hl 1 rfl) ?_
          refine m_aload_n (x := a1) hx hb dX6_cutFrom_103 rfl (lv_at hl 2 rfl) ?_
          refine lv_iload_n hx hb dX6_cutFrom_104 rfl (lv_at hl 3 rfl) ?_
          refine lv_bipush (v := (97 : Int32)) hx hb dX6_cutFrom_105 (by decide) ?_
          refine lv_bipush (v := (122 : Int32)) hx hb dX6_cutFrom_107 (by decide) ?_
          obtain ⟨g29, h⟩ := itg h
          obtain ⟨r30, hr30, h⟩ := ob h
          refine m_contI hC hw (m_runV hC hw (x := this) (ci := 9) (N := 5) (C := RX6) (T := TX6) (n := 4) (av := [va_rf a1, .int a2, .int (97 : Int32), .int (122 : Int32)]) (rest := []) (c_X6_behindRow (G := G) (l := l) hr30) gX6_cutFrom_X6_behindRow rfl (by decide +kernel) ⟨(Nat.le_of_ble_eq_true rfl), (Nat.le_of_ble_eq_true rfl)⟩ g29 rfl rfl hl.1 rfl (Nat.le_of_ble_eq_true rfl) dX6_cutFrom_109 ⟨(Nat.zero_le _), (Nat.zero_le _)⟩) (fun H locs hw => ?_)
          refine lv_istore (lv' := [(4, .int r30), (3, .int r2), (0, va_rf this), (1, va_rf a1), (2, .int a2)]) hx hb dX6_cutFrom_112 hl (by decide) rfl (fun ls hl => ?_)
          refine m_aload_n (x := this) hx hb dX6_cutFrom_114 rfl (lv_at hl 2 rfl) ?_
          refine lv_iload_n hx hb dX6_cutFrom_115 rfl (lv_at hl 4 rfl) ?_
          refine m_aload_n (x := this) hx hb dX6_cutFrom_116 rfl (lv_at hl 2 rfl) ?_
          refine m_aload_n (x := a1) hx hb dX6_cutFrom_117 rfl (lv_at hl 3 rfl) ?_
          refine lv_iload_n hx hb dX6_cutFrom_118 rfl (lv_at hl 4 rfl) ?_
          refine lv_iload hx hb dX6_cutFrom_119 (lv_at hl 0 rfl) ?_
          obtain ⟨g31, h⟩ := itg h
          obtain ⟨r32, hr32, h⟩ := ob h
          refine m_contI hC hw (m_runV hC hw (x := this) (ci := 9) (N := 5) (C := RX6) (T := TX6) (n := 3) (av := [va_rf a1, .int a2, .int r30]) (rest := [.int a2, va_rf this]) (c_X6_wordIn (G := G) (l := l) hr32) gX6_cutFrom_X6_wordIn rfl (by decide +kernel) ⟨(Nat.le_of_ble_eq_true rfl), (Nat.le_of_ble_eq_true rfl)⟩ g31 rfl rfl hl.1 rfl (by simp [va_rf_cat, cat_i, cat_r, cat_l]) dX6_cutFrom_121 ⟨(Nat.zero_le _), (Nat.zero_le _)⟩) (fun H locs hw => ?_)
          refine lv_iconst (v := (0 : Int32)) hx hb dX6_cutFrom_124 (by decide) ?_
          obtain ⟨g33, h⟩ := itg h
          obtain ⟨r34, hr34, h⟩ := ob h
          refine m_contV hC hw (m_runV hC hw (x := this) (ci := 9) (N := 5) (C := RX6) (T := TX6) (n := 3) (av := [.int a2, .int r32, .int (0 : Int32)]) (rest := []) (c_X6_add (G := G) (l := l) hr34) gX6_cutFrom_X6_add rfl (by decide +kernel) ⟨(Nat.le_of_ble_eq_true rfl), (Nat.le_of_ble_eq_true rfl)⟩ g33 rfl rfl hl.1 rfl (Nat.le_of_ble_eq_true rfl) dX6_cutFrom_125 ⟨(Nat.zero_le _), (Nat.zero_le _)⟩) (fun H locs hw => ?_)
          refine lv_iload hx hb dX6_cutFrom_128 (lv_at hl 0 rfl) ?_
          replace h := Option.some.inj h
          subst h
          exact RET hw ⟨(Nat.zero_le _), (Nat.zero_le _)⟩ dX6_cutFrom_130
    · replace h := itf h c4
      refine lv_iload_n hx hb dX6_cutFrom_22 rfl (lv_at hl 0 rfl) ?_
      refine lv_bipush (v := (57 : Int32)) hx hb dX6_cutFrom_23 (by decide) ?_
      refine lv_icmp_gt (tgt := 90) hx hb dX6_cutFrom_25 (by decide) (fun c35 => ?_) (fun c35 => ?_)
      · replace h := itt h c35
        refine lv_iload_n hx hb dX6_cutFrom_90 rfl (lv_at hl 0 rfl) ?_
        refine lv_bipush (v := (97 : Int32)) hx hb dX6_cutFrom_91 (by decide) ?_
        refine lv_icmp_lt (tgt := 131) hx hb dX6_cutFrom_93 (by decide) (fun c36 => ?_) (fun c36 => ?_)
        · replace h := itt h c36
          refine lv_iload_n hx hb dX6_cutFrom_131 rfl (lv_at hl 0 rfl) ?_
          refine lv_bipush (v := (43 : Int32)) hx hb dX6_cutFrom_132 (by decide) ?_
          obtain ⟨o42, ho42, h⟩ := ob h
          have J37 : ∀ (H : Heap) (locs : List Loc) (ls : Array Slot), wD G s M M sz H locs → lv_has ls 6 [(0, va_rf this), (2, .int a2), (3, .int r2)] → W p l e rmX6_cutFrom s m args below meth c H locs 0 0 Q (F0 m 160 ls [.int o42]) := by
            intro H locs ls hw hl
            refine lv_istore (lv' := [(4, .int o42), (0, va_rf this), (2, .int a2), (3, .int r2)]) hx hb dX6_cutFrom_160 hl (by decide) rfl (fun ls hl => ?_)
            refine m_aload_n (x := this) hx hb dX6_cutFrom_162 rfl (lv_at hl 1 rfl) ?_
            refine lv_iload_n hx hb dX6_cutFrom_163 rfl (lv_at hl 2 rfl) ?_
            refine lv_iload hx hb dX6_cutFrom_164 (lv_at hl 0 rfl) ?_
            refine lv_if_eq (tgt := 173) hx hb dX6_cutFrom_166 (by decide) (fun c43 => ?_) (fun c43 => ?_)
            · replace h := itt h c43
              refine lv_iconst (v := (0 : Int32)) hx hb dX6_cutFrom_173 (by decide) ?_
              refine lv_iconst (v := (0 : Int32)) hx hb dX6_cutFrom_174 (by decide) ?_
              obtain ⟨g44, h⟩ := itg h
              obtain ⟨r45, hr45, h⟩ := ob h
              refine m_contV hC hw (m_runV hC hw (x := this) (ci := 9) (N := 5) (C := RX6) (T := TX6) (n := 3) (av := [.int a2, .int (0 : Int32), .int (0 : Int32)]) (rest := []) (c_X6_add (G := G) (l := l) hr45) gX6_cutFrom_X6_add rfl (by decide +kernel) ⟨(Nat.le_of_ble_eq_true rfl), (Nat.le_of_ble_eq_true rfl)⟩ g44 rfl rfl hl.1 rfl (Nat.le_of_ble_eq_true rfl) dX6_cutFrom_175 ⟨(Nat.zero_le _), (Nat.zero_le _)⟩) (fun H locs hw => ?_)
              refine lv_iload_n hx hb dX6_cutFrom_178 rfl (lv_at hl 2 rfl) ?_
              refine lv_iconst (v := (1 : Int32)) hx hb dX6_cutFrom_179 (by decide) ?_
              refine lv_iadd hx hb dX6_cutFrom_180 ?_
              replace h := Option.some.inj h
              subst h
              exact RET hw ⟨(Nat.zero_le _), (Nat.zero_le _)⟩ dX6_cutFrom_181
            · replace h := itf h c43
              refine lv_iload_n hx hb dX6_cutFrom_169 rfl (lv_at hl 3 rfl) ?_
              refine lv_goto (tgt := 174) hx hb dX6_cutFrom_170 (by decide) ?_
              refine lv_iconst (v := (0 : Int32)) hx hb dX6_cutFrom_174 (by decide) ?_
              obtain ⟨g46, h⟩ := itg h
              obtain ⟨r47, hr47, h⟩ := ob h
              refine m_contV hC hw (m_runV hC hw (x := this) (ci := 9) (N := 5) (C := RX6) (T := TX6) (n := 3) (av := [.int a2, .int r2, .int (0 : Int32)]) (rest := []) (c_X6_add (G := G) (l := l) hr47) gX6_cutFrom_X6_add rfl (by decide +kernel) ⟨(Nat.le_of_ble_eq_true rfl), (Nat.le_of_ble_eq_true rfl)⟩ g46 rfl rfl hl.1 rfl (Nat.le_of_ble_eq_true rfl) dX6_cutFrom_175 ⟨(Nat.zero_le _), (Nat.zero_le _)⟩) (fun H locs hw => ?_)
              refine lv_iload_n hx hb dX6_cutFrom_178 rfl (lv_at hl 2 rfl) ?_
              refine lv_iconst (v := (1 : Int32)) hx hb dX6_cutFrom_179 (by decide) ?_
              refine lv_iadd hx hb dX6_cutFrom_180 ?_
              replace h := Option.some.inj h
              subst h
              exact RET hw ⟨(Nat.zero_le _), (Nat.zero_le _)⟩ dX6_cutFrom_181
          clear h
          replace h := ho42
          refine lv_icmp_eq (tgt := 155) hx hb dX6_cutFrom_134 (by decide) (fun c38 => ?_) (fun c38 => ?_)
          · replace h := itt h c38
            refine lv_iconst (v := (1 : Int32)) hx hb dX6_cutFrom_155 (by decide) ?_
            refine lv_goto (tgt := 160) hx hb dX6_cutFrom_156 (by decide) ?_
            replace h := Option.some.inj h
            subst h
            exact J37 _ _ _ hw (lv_sub hl [1, 3, 0] rfl)
          · replace h := itf h c38
            refine lv_iload_n hx hb dX6_cutFrom_137 rfl (lv_at hl 0 rfl) ?_
            refine lv_bipush (v := (45 : Int32)) hx hb dX6_cutFrom_138 (by decide) ?_
            refine lv_icmp_eq (tgt := 155) hx hb dX6_cutFrom_140 (by decide) (fun c39 => ?_) (fun c39 => ?_)
            · replace h := itt h c39
              refine lv_iconst (v := (1 : Int32)) hx hb dX6_cutFrom_155 (by decide) ?_
              refine lv_goto (tgt := 160) hx hb dX6_cutFrom_156 (by decide) ?_
              replace h := Option.some.inj h
              subst h
              exact J37 _ _ _ hw (lv_sub hl [1, 3, 0] rfl)
            · replace h := itf h c39
              refine lv_iload_n hx hb dX6_cutFrom_143 rfl (lv_at hl 0 rfl) ?_
              refine lv_bipush (v := (44 : Int32)) hx hb dX6_cutFrom_144 (by decide) ?_
              refine lv_icmp_eq (tgt := 155) hx hb dX6_cutFrom_146 (by decide) (fun c40 => ?_) (fun c40 => ?_)
              · replace h := itt h c40
                refine lv_iconst (v := (1 : Int32)) hx hb dX6_cutFrom_155 (by decide) ?_
                refine lv_goto (tgt := 160) hx hb dX6_cutFrom_156 (by decide) ?_
                replace h := Option.some.inj h
                subst h
                exact J37 _ _ _ hw (lv_sub hl [1, 3, 0] rfl)
              · replace h := itf h c40
                refine lv_iload_n hx hb dX6_cutFrom_149 rfl (lv_at hl 0 rfl) ?_
                refine lv_bipush (v := (58 : Int32)) hx hb dX6_cutFrom_150 (by decide) ?_
                refine lv_icmp_ne (tgt := 159) hx hb dX6_cutFrom_152 (by decide) (fun c41 => ?_) (fun c41 => ?_)
                · replace h := itf h c41
                  refine lv_iconst (v := (0 : Int32)) hx hb dX6_cutFrom_159 (by decide) ?_
                  replace h := Option.some.inj h
                  subst h
                  exact J37 _ _ _ hw (lv_sub hl [1, 3, 0] rfl)
                · replace h := itt h c41
                  refine lv_iconst (v := (1 : Int32)) hx hb dX6_cutFrom_155 (by decide) ?_
                  refine lv_goto (tgt := 160) hx hb dX6_cutFrom_156 (by decide) ?_
                  replace h := Option.some.inj h
                  subst h
                  exact J37 _ _ _ hw (lv_sub hl [1, 3, 0] rfl)
        · replace h := itf h c36
          refine lv_iload_n hx hb dX6_cutFrom_96 rfl (lv_at hl 0 rfl) ?_
          refine lv_bipush (v := (122 : Int32)) hx hb dX6_cutFrom_97 (by decide) ?_
          refine lv_icmp_gt (tgt := 131) hx hb dX6_cutFrom_99 (by decide) (fun c48 => ?_) (fun c48 => ?_)
          · replace h := itt h c48
            refine lv_iload_n hx hb dX6_cutFrom_131 rfl (lv_at hl 0 rfl) ?_
            refine lv_bipush (v := (43 : Int32)) hx hb dX6_cutFrom_132 (by decide) ?_
            obtain ⟨o54, ho54, h⟩ := ob h
            have J49 : ∀ (H : Heap) (locs : List Loc) (ls : Array Slot), wD G s M M sz H locs → lv_has ls 6 [(0, va_rf this), (2, .int a2), (3, .int r2)] → W p l e rmX6_cutFrom s m args below meth c H locs 0 0 Q (F0 m 160 ls [.int o54]) := by
              intro H locs ls hw hl
              refine lv_istore (lv' := [(4, .int o54), (0, va_rf this), (2, .int a2), (3, .int r2)]) hx hb dX6_cutFrom_160 hl (by decide) rfl (fun ls hl => ?_)
              refine m_aload_n (x := this) hx hb dX6_cutFrom_162 rfl (lv_at hl 1 rfl) ?_
              refine lv_iload_n hx hb dX6_cutFrom_163 rfl (lv_at hl 2 rfl) ?_
              refine lv_iload hx hb dX6_cutFrom_164 (lv_at hl 0 rfl) ?_
              refine lv_if_eq (tgt := 173) hx hb dX6_cutFrom_166 (by decide) (fun c55 => ?_) (fun c55 => ?_)
              · replace h := itt h c55
                refine lv_iconst (v := (0 : Int32)) hx hb dX6_cutFrom_173 (by decide) ?_
                refine lv_iconst (v := (0 : Int32)) hx hb dX6_cutFrom_174 (by decide) ?_
                obtain ⟨g56, h⟩ := itg h
                obtain ⟨r57, hr57, h⟩ := ob h
                refine m_contV hC hw (m_runV hC hw (x := this) (ci := 9) (N := 5) (C := RX6) (T := TX6) (n := 3) (av := [.int a2, .int (0 : Int32), .int (0 : Int32)]) (rest := []) (c_X6_add (G := G) (l := l) hr57) gX6_cutFrom_X6_add rfl (by decide +kernel) ⟨(Nat.le_of_ble_eq_true rfl), (Nat.le_of_ble_eq_true rfl)⟩ g56 rfl rfl hl.1 rfl (Nat.le_of_ble_eq_true rfl) dX6_cutFrom_175 ⟨(Nat.zero_le _), (Nat.zero_le _)⟩) (fun H locs hw => ?_)
                refine lv_iload_n hx hb dX6_cutFrom_178 rfl (lv_at hl 2 rfl) ?_
                refine lv_iconst (v := (1 : Int32)) hx hb dX6_cutFrom_179 (by decide) ?_
                refine lv_iadd hx hb dX6_cutFrom_180 ?_
                replace h := Option.some.inj h
                subst h
                exact RET hw ⟨(Nat.zero_le _), (Nat.zero_le _)⟩ dX6_cutFrom_181
              · replace h := itf h c55
                refine lv_iload_n hx hb dX6_cutFrom_169 rfl (lv_at hl 3 rfl) ?_
                refine lv_goto (tgt := 174) hx hb dX6_cutFrom_170 (by decide) ?_
                refine lv_iconst (v := (0 : Int32)) hx hb dX6_cutFrom_174 (by decide) ?_
                obtain ⟨g58, h⟩ := itg h
                obtain ⟨r59, hr59, h⟩ := ob h
                refine m_contV hC hw (m_runV hC hw (x := this) (ci := 9) (N := 5) (C := RX6) (T := TX6) (n := 3) (av := [.int a2, .int r2, .int (0 : Int32)]) (rest := []) (c_X6_add (G := G) (l := l) hr59) gX6_cutFrom_X6_add rfl (by decide +kernel) ⟨(Nat.le_of_ble_eq_true rfl), (Nat.le_of_ble_eq_true rfl)⟩ g58 rfl rfl hl.1 rfl (Nat.le_of_ble_eq_true rfl) dX6_cutFrom_175 ⟨(Nat.zero_le _), (Nat.zero_le _)⟩) (fun H locs hw => ?_)
                refine lv_iload_n hx hb dX6_cutFrom_178 rfl (lv_at hl 2 rfl) ?_
                refine lv_iconst (v := (1 : Int32)) hx hb dX6_cutFrom_179 (by decide) ?_
                refine lv_iadd hx hb dX6_cutFrom_180 ?_
                replace h := Option.some.inj h
                subst h
                exact RET hw ⟨(Nat.zero_le _), (Nat.zero_le _)⟩ dX6_cutFrom_181
            clear h
            replace h := ho54
            refine lv_icmp_eq (tgt := 155) hx hb dX6_cutFrom_134 (by decide) (fun c50 => ?_) (fun c50 => ?_)
            · replace h := itt h c50
              refine lv_iconst (v := (1 : Int32)) hx hb dX6_cutFrom_155 (by decide) ?_
              refine lv_goto (tgt := 160) hx hb dX6_cutFrom_156 (by decide) ?_
              replace h := Option.some.inj h
              subst h
              exact J49 _ _ _ hw (lv_sub hl [1, 3, 0] rfl)
            · replace h := itf h c50
              refine lv_iload_n hx hb dX6_cutFrom_137 rfl (lv_at hl 0 rfl) ?_
              refine lv_bipush (v := (45 : Int32)) hx hb dX6_cutFrom_138 (by decide) ?_
              refine lv_icmp_eq (tgt := 155) hx hb dX6_cutFrom_140 (by decide) (fun c51 => ?_) (fun c51 => ?_)
              · replace h := itt h c51
                refine lv_iconst (v := (1 : Int32)) hx hb dX6_cutFrom_155 (by decide) ?_
                refine lv_goto (tgt := 160) hx hb dX6_cutFrom_156 (by decide) ?_
                replace h := Option.some.inj h
                subst h
                exact J49 _ _ _ hw (lv_sub hl [1, 3, 0] rfl)
              · replace h := itf h c51
                refine lv_iload_n hx hb dX6_cutFrom_143 rfl (lv_at hl 0 rfl) ?_
                refine lv_bipush (v := (44 : Int32)) hx hb dX6_cutFrom_144 (by decide) ?_
                refine lv_icmp_eq (tgt := 155) hx hb dX6_cutFrom_146 (by decide) (fun c52 => ?_) (fun c52 => ?_)
                · replace h := itt h c52
                  refine lv_iconst (v := (1 : Int32)) hx hb dX6_cutFrom_155 (by decide) ?_
                  refine lv_goto (tgt := 160) hx hb dX6_cutFrom_156 (by decide) ?_
                  replace h := Option.some.inj h
                  subst h
                  exact J49 _ _ _ hw (lv_sub hl [1, 3, 0] rfl)
                · replace h := itf h c52
                  refine lv_iload_n hx hb dX6_cutFrom_149 rfl (lv_at hl 0 rfl) ?_
                  refine lv_bipush (v := (58 : Int32)) hx hb dX6_cutFrom_150 (by decide) ?_
                  refine lv_icmp_ne (tgt := 159) hx hb dX6_cutFrom_152 (by decide) (fun c53 => ?_) (fun c53 => ?_)
                  · replace h := itf h c53
                    refine lv_iconst (v := (0 : Int32)) hx hb dX6_cutFrom_159 (by decide) ?_
                    replace h := Option.some.inj h
                    subst h
                    exact J49 _ _ _ hw (lv_sub hl [1, 3, 0] rfl)
                  · replace h := itt h c53
                    refine lv_iconst (v := (1 : Int32)) hx hb dX6_cutFrom_155 (by decide) ?_
                    refine lv_goto (tgt := 160) hx hb dX6_cutFrom_156 (by decide) ?_
                    replace h := Option.some.inj h
                    subst h
                    exact J49 _ _ _ hw (lv_sub hl [1, 3, 0] rfl)
          · replace h := itf h c48
            refine m_aload_n (x := this) hx hb dX6_cutFrom_102 rfl (lv_at hl 1 rfl) ?_
            refine m_aload_n (x := a1) hx hb dX6_cutFrom_103 rfl (lv_at hl 2 rfl) ?_
            refine lv_iload_n hx hb dX6_cutFrom_104 rfl (lv_at hl 3 rfl) ?_
            refine lv_bipush (v := (97 : Int32)) hx hb dX6_cutFrom_105 (by decide) ?_
            refine lv_bipush (v := (122 : Int32)) hx hb dX6_cutFrom_107 (by decide) ?_
            obtain ⟨g60, h⟩ := itg h
            obtain ⟨r61, hr61, h⟩ := ob h
            refine m_contI hC hw (m_runV hC hw (x := this) (ci := 9) (N := 5) (C := RX6) (T := TX6) (n := 4) (av := [va_rf a1, .int a2, .int (97 : Int32), .int (122 : Int32)]) (rest := []) (c_X6_behindRow (G := G) (l := l) hr61) gX6_cutFrom_X6_behindRow rfl (by decide +kernel) ⟨(Nat.le_of_ble_eq_true rfl), (Nat.le_of_ble_eq_true rfl)⟩ g60 rfl rfl hl.1 rfl (Nat.le_of_ble_eq_true rfl) dX6_cutFrom_109 ⟨(Nat.zero_le _), (Nat.zero_le _)⟩) (fun H locs hw => ?_)
            refine lv_istore (lv' := [(4, .int r61), (3, .int r2), (0, va_rf this), (1, va_rf a1), (2, .int a2)]) hx hb dX6_cutFrom_112 hl (by decide) rfl (fun ls hl => ?_)
            refine m_aload_n (x := this) hx hb dX6_cutFrom_114 rfl (lv_at hl 2 rfl) ?_
            refine lv_iload_n hx hb dX6_cutFrom_115 rfl (lv_at hl 4 rfl) ?_
            refine m_aload_n (x := this) hx hb dX6_cutFrom_116 rfl (lv_at hl 2 rfl) ?_
            refine m_aload_n (x := a1) hx hb dX6_cutFrom_117 rfl (lv_at hl 3 rfl) ?_
            refine lv_iload_n hx hb dX6_cutFrom_118 rfl (lv_at hl 4 rfl) ?_
            refine lv_iload hx hb dX6_cutFrom_119 (lv_at hl 0 rfl) ?_
            obtain ⟨g62, h⟩ := itg h
            obtain ⟨r63, hr63, h⟩ := ob h
            refine m_contI hC hw (m_runV hC hw (x := this) (ci := 9) (N := 5) (C := RX6) (T := TX6) (n := 3) (av := [va_rf a1, .int a2, .int r61]) (rest := [.int a2, va_rf this]) (c_X6_wordIn (G := G) (l := l) hr63) gX6_cutFrom_X6_wordIn rfl (by decide +kernel) ⟨(Nat.le_of_ble_eq_true rfl), (Nat.le_of_ble_eq_true rfl)⟩ g62 rfl rfl hl.1 rfl (by simp [va_rf_cat, cat_i, cat_r, cat_l]) dX6_cutFrom_121 ⟨(Nat.zero_le _), (Nat.zero_le _)⟩) (fun H locs hw => ?_)
            refine lv_iconst (v := (0 : Int32)) hx hb dX6_cutFrom_124 (by decide) ?_
            obtain ⟨g64, h⟩ := itg h
            obtain ⟨r65, hr65, h⟩ := ob h
            refine m_contV hC hw (m_runV hC hw (x := this) (ci := 9) (N := 5) (C := RX6) (T := TX6) (n := 3) (av := [.int a2, .int r63, .int (0 : Int32)]) (rest := []) (c_X6_add (G := G) (l := l) hr65) gX6_cutFrom_X6_add rfl (by decide +kernel) ⟨(Nat.le_of_ble_eq_true rfl), (Nat.le_of_ble_eq_true rfl)⟩ g64 rfl rfl hl.1 rfl (Nat.le_of_ble_eq_true rfl) dX6_cutFrom_125 ⟨(Nat.zero_le _), (Nat.zero_le _)⟩) (fun H locs hw => ?_)
            refine lv_iload hx hb dX6_cutFrom_128 (lv_at hl 0 rfl) ?_
            replace h := Option.some.inj h
            subst h
            exact RET hw ⟨(Nat.zero_le _), (Nat.zero_le _)⟩ dX6_cutFrom_130
      · replace h := itf h c35
        refine m_aload_n (x := this) hx hb dX6_cutFrom_28 rfl (lv_at hl 1 rfl) ?_
        refine m_aload_n (x := a1) hx hb dX6_cutFrom_29 rfl (lv_at hl 2 rfl) ?_
        refine lv_iload_n hx hb dX6_cutFrom_30 rfl (lv_at hl 3 rfl) ?_
        refine lv_bipush (v := (48 : Int32)) hx hb dX6_cutFrom_31 (by decide) ?_
        refine lv_bipush (v := (57 : Int32)) hx hb dX6_cutFrom_33 (by decide) ?_
        obtain ⟨g66, h⟩ := itg h
        obtain ⟨r67, hr67, h⟩ := ob h
        refine m_contI hC hw (m_runV hC hw (x := this) (ci := 9) (N := 5) (C := RX6) (T := TX6) (n := 4) (av := [va_rf a1, .int a2, .int (48 : Int32), .int (57 : Int32)]) (rest := []) (c_X6_behindRow (G := G) (l := l) hr67) gX6_cutFrom_X6_behindRow rfl (by decide +kernel) ⟨(Nat.le_of_ble_eq_true rfl), (Nat.le_of_ble_eq_true rfl)⟩ g66 rfl rfl hl.1 rfl (Nat.le_of_ble_eq_true rfl) dX6_cutFrom_35 ⟨(Nat.zero_le _), (Nat.zero_le _)⟩) (fun H locs hw => ?_)
        refine lv_istore (lv' := [(4, .int r67), (3, .int r2), (0, va_rf this), (1, va_rf a1), (2, .int a2)]) hx hb dX6_cutFrom_38 hl (by decide) rfl (fun ls hl => ?_)
        refine lv_iload hx hb dX6_cutFrom_40 (lv_at hl 0 rfl) ?_
        refine lv_iload_n hx hb dX6_cutFrom_42 rfl (lv_at hl 4 rfl) ?_
        refine lv_isub hx hb dX6_cutFrom_43 ?_
        refine lv_iconst (v := (4 : Int32)) hx hb dX6_cutFrom_44 (by decide) ?_
        obtain ⟨o70, ho70, h⟩ := ob h
        have J68 : ∀ (H : Heap) (locs : List Loc) (ls : Array Slot), wD G s M M sz H locs → lv_has ls 6 [(0, va_rf this), (1, va_rf a1), (2, .int a2), (4, .int r67)] → W p l e rmX6_cutFrom s m args below meth c H locs 0 0 Q (F0 m 53 ls [.int o70]) := by
          intro H locs ls hw hl
          refine lv_istore (lv' := [(5, .int o70), (0, va_rf this), (1, va_rf a1), (2, .int a2), (4, .int r67)]) hx hb dX6_cutFrom_53 hl (by decide) rfl (fun ls hl => ?_)
          refine m_aload_n (x := this) hx hb dX6_cutFrom_55 rfl (lv_at hl 1 rfl) ?_
          refine lv_iload_n hx hb dX6_cutFrom_56 rfl (lv_at hl 3 rfl) ?_
          refine lv_iload hx hb dX6_cutFrom_57 (lv_at hl 0 rfl) ?_
          obtain ⟨o73, ho73, h⟩ := ob h
          have J71 : ∀ (H : Heap) (locs : List Loc) (ls : Array Slot), wD G s M M sz H locs → lv_has ls 6 [(0, va_rf this), (1, va_rf a1), (2, .int a2), (4, .int r67), (5, .int o70)] → W p l e rmX6_cutFrom s m args below meth c H locs 0 0 Q (F0 m 67 ls [.int o73.1, .int o73.2.1, va_rf o73.2.2]) := by
            intro H locs ls hw hl
            refine lv_iload hx hb dX6_cutFrom_67 (lv_at hl 4 rfl) ?_
            refine lv_if_eq (tgt := 83) hx hb dX6_cutFrom_69 (by decide) (fun c74 => ?_) (fun c74 => ?_)
            · replace h := itt h c74
              refine lv_iconst (v := (0 : Int32)) hx hb dX6_cutFrom_83 (by decide) ?_
              obtain ⟨g75, h⟩ := itg h
              obtain ⟨r76, hr76, h⟩ := ob h
              refine m_contV hC hw (m_runV hC hw (x := o73.2.2) (ci := 9) (N := 5) (C := RX6) (T := TX6) (n := 3) (av := [.int o73.2.1, .int o73.1, .int (0 : Int32)]) (rest := []) (c_X6_add (G := G) (l := l) hr76) gX6_cutFrom_X6_add rfl (by decide +kernel) ⟨(Nat.le_of_ble_eq_true rfl), (Nat.le_of_ble_eq_true rfl)⟩ g75 rfl rfl hl.1 rfl (Nat.le_of_ble_eq_true rfl) dX6_cutFrom_84 ⟨(Nat.zero_le _), (Nat.zero_le _)⟩) (fun H locs hw => ?_)
              refine lv_iload hx hb dX6_cutFrom_87 (lv_at hl 3 rfl) ?_
              replace h := Option.some.inj h
              subst h
              exact RET hw ⟨(Nat.zero_le _), (Nat.zero_le _)⟩ dX6_cutFrom_89
            · replace h := itf h c74
              refine m_aload_n (x := this) hx hb dX6_cutFrom_72 rfl (lv_at hl 0 rfl) ?_
              refine m_aload_n (x := a1) hx hb dX6_cutFrom_73 rfl (lv_at hl 1 rfl) ?_
              refine lv_iload_n hx hb dX6_cutFrom_74 rfl (lv_at hl 2 rfl) ?_
              refine lv_iload hx hb dX6_cutFrom_75 (lv_at hl 3 rfl) ?_
              obtain ⟨g77, h⟩ := itg h
              obtain ⟨r78, hr78, h⟩ := ob h
              refine m_contI hC hw (m_runV hC hw (x := this) (ci := 9) (N := 5) (C := RX6) (T := TX6) (n := 3) (av := [va_rf a1, .int a2, .int r67]) (rest := [.int o73.1, .int o73.2.1, va_rf o73.2.2]) (c_X6_numberIn (G := G) (l := l) hr78) gX6_cutFrom_X6_numberIn rfl (by decide +kernel) ⟨(Nat.le_of_ble_eq_true rfl), (Nat.le_of_ble_eq_true rfl)⟩ g77 rfl rfl hl.1 rfl (by simp [va_rf_cat, cat_i, cat_r, cat_l]) dX6_cutFrom_77 ⟨(Nat.zero_le _), (Nat.zero_le _)⟩) (fun H locs hw => ?_)
              refine lv_goto (tgt := 84) hx hb dX6_cutFrom_80 (by decide) ?_
              obtain ⟨g79, h⟩ := itg h
              obtain ⟨r80, hr80, h⟩ := ob h
              refine m_contV hC hw (m_runV hC hw (x := o73.2.2) (ci := 9) (N := 5) (C := RX6) (T := TX6) (n := 3) (av := [.int o73.2.1, .int o73.1, .int r78]) (rest := []) (c_X6_add (G := G) (l := l) hr80) gX6_cutFrom_X6_add rfl (by decide +kernel) ⟨(Nat.le_of_ble_eq_true rfl), (Nat.le_of_ble_eq_true rfl)⟩ g79 rfl rfl hl.1 rfl (Nat.le_of_ble_eq_true rfl) dX6_cutFrom_84 ⟨(Nat.zero_le _), (Nat.zero_le _)⟩) (fun H locs hw => ?_)
              refine lv_iload hx hb dX6_cutFrom_87 (lv_at hl 3 rfl) ?_
              replace h := Option.some.inj h
              subst h
              exact RET hw ⟨(Nat.zero_le _), (Nat.zero_le _)⟩ dX6_cutFrom_89
          clear h
          replace h := ho73
          refine lv_if_eq (tgt := 66) hx hb dX6_cutFrom_59 (by decide) (fun c72 => ?_) (fun c72 => ?_)
          · replace h := itt h c72
            refine lv_iconst (v := (0 : Int32)) hx hb dX6_cutFrom_66 (by decide) ?_
            replace h := Option.some.inj h
            subst h
            exact J71 _ _ _ hw (lv_sub hl [1, 2, 3, 4, 0] rfl)
          · replace h := itf h c72
            refine lv_iconst (v := (1 : Int32)) hx hb dX6_cutFrom_62 (by decide) ?_
            refine lv_goto (tgt := 67) hx hb dX6_cutFrom_63 (by decide) ?_
            replace h := Option.some.inj h
            subst h
            exact J71 _ _ _ hw (lv_sub hl [1, 2, 3, 4, 0] rfl)
        clear h
        replace h := ho70
        refine lv_icmp_gt (tgt := 52) hx hb dX6_cutFrom_45 (by decide) (fun c69 => ?_) (fun c69 => ?_)
        · replace h := itt h c69
          refine lv_iconst (v := (0 : Int32)) hx hb dX6_cutFrom_52 (by decide) ?_
          replace h := Option.some.inj h
          subst h
          exact J68 _ _ _ hw (lv_sub hl [2, 3, 4, 0] rfl)
        · replace h := itf h c69
          refine lv_iconst (v := (1 : Int32)) hx hb dX6_cutFrom_48 (by decide) ?_
          refine lv_goto (tgt := 53) hx hb dX6_cutFrom_49 (by decide) ?_
          replace h := Option.some.inj h
          subst h
          exact J68 _ _ _ hw (lv_sub hl [2, 3, 4, 0] rfl)
  · replace h := itt h c3
    refine lv_iload_n hx hb dX6_cutFrom_12 rfl (lv_at hl 3 rfl) ?_
    refine lv_iconst (v := (1 : Int32)) hx hb dX6_cutFrom_13 (by decide) ?_
    refine lv_iadd hx hb dX6_cutFrom_14 ?_
    replace h := Option.some.inj h
    subst h
    exact RET hw ⟨(Nat.zero_le _), (Nat.zero_le _)⟩ dX6_cutFrom_15

def f_X6_cut_L17 (B : Nat) (S : Nat → Nat) (n : Nat) (x0 : Option Nat) (x1 : Option Nat) : Nat → Mem → Int32 → Int32 → Option (Mem)
  | 0, _, _, _ => none
  | k + 1, Mz, x2, x3 => if (120 : Int32) ≤ x3 then (some (Mz)) else ((gI Mz x0 9 4).bind fun v6 => if v6 ≤ x2 then (some (Mz)) else (if isO Mz x0 9 = true then ((f_X6_cutFrom B S n Mz x0 x1 x2).bind fun r9 => f_X6_cut_L17 B S n x0 x1 k r9.2 r9.1 (x3 + (1 : Int32))) else none))
def f_X6_cut (B : Nat) (S : Nat → Nat) (n : Nat) (M : Mem) (this : Option Nat) (a1 : Option Nat) : Option (Mem) := (pF B M this 9 3 (.int (0 : Int32))).bind fun M1 => if isO M1 a1 12 = true then ((f_X9_size M1 a1).bind fun r3 => (pF B M1 this 9 4 (.int r3)).bind fun M4 => f_X6_cut_L17 B S n this a1 n M4 (0 : Int32) (0 : Int32)) else none
def rmX6_cut : Room := { frames := 7, cells := 0, slots := 0, locals := 159 }
theorem k_X6_cut_23 : Cond.fieldLink RX6 23 "LoanBook$Pieces" "size" "I" ∈ wsX6_cut := List.mem_of_getElem? (i := 1) rfl
theorem ki_X6_cut_X6 : ∀ w ∈ u_ws RX6 TX6 5, w ∈ wsX6_cut := sub_r [94, 95, 96, 97, 98] (by decide +kernel)
theorem k_X6_cut_27 : Cond.fieldLink RX6 27 "LoanBook$Pieces" "end" "I" ∈ wsX6_cut := List.mem_of_getElem? (i := 2) rfl
set_option maxHeartbeats 4000000 in
set_option maxRecDepth 100000 in
theorem c_X6_cut {G : wG} {l : Launch} {n : Nat} {M : Mem} {sz : Nat} {this : Option Nat} {a1 : Option Nat} {r : Mem} (h : f_X6_cut G.2.2.1 G.2.2.2 n M this a1 = some r) : CtrV G l yX6_cut wsX6_cut rmX6_cut [va_rf this, va_rf a1] M sz r sz := by
  refine m_startV (own := RX6) (cc := cX6_cut) (maxL := 4) (lv0 := [(0, va_rf this), (1, va_rf a1)]) (by decide) rfl rfl (by simp [lg_sl, va_rf_cat, cat_i, cat_r]) (by simp [lv_args, va_rf_cat, cat_i, cat_r]) ?_
  intro p e s m args below meth c Q hC hname RET hsz hw ls hl
  have hx := hC.1
  have hb := hC.2.1
  have L17 : ∀ (x0 : Option Nat) (x1 : Option Nat) (k : Nat) (Mz : Mem) (x2 : Int32) (x3 : Int32) (cells slots : Nat) (H : Heap) (locs : List Loc) (ls : Array Slot), f_X6_cut_L17 G.2.2.1 G.2.2.2 n x0 x1 k Mz x2 x3 = some r → cells ≤ 0 → slots ≤ 0 → wD G s M Mz sz H locs → lv_has ls 4 [(0, va_rf x0), (1, va_rf x1), (2, .int x2), (3, .int x3)] → W p l e rmX6_cut s m args below meth c H locs cells slots Q (F0 m 17 ls []) := by
    intro x0 x1 k
    induction k with
    | zero =>
      intro Mz x2 x3 cells slots H locs ls h
      exact absurd (show (none : Option (Mem)) = some r from h) (fun z => by cases z)
    | succ k ih =>
      intro Mz x2 x3 cells slots H locs ls h hcl hsl hw hl
      rw [f_X6_cut_L17] at h
      refine lv_iload_n hx hb dX6_cut_17 rfl (lv_at hl 3 rfl) ?_
      refine lv_bipush (v := (120 : Int32)) hx hb dX6_cut_18 (by decide) ?_
      refine lv_icmp_ge (tgt := 44) hx hb dX6_cut_20 (by decide) (fun c5 => ?_) (fun c5 => ?_)
      · replace h := itt h c5
        replace h := Option.some.inj h
        subst h
        exact RET hw ⟨(show cells + 0 ≤ 0 from by omega), (show slots + 0 ≤ 0 from by omega)⟩ dX6_cut_44
      · replace h := itf h c5
        refine lv_iload_n hx hb dX6_cut_23 rfl (lv_at hl 2 rfl) ?_
        refine m_aload_n (x := x0) hx hb dX6_cut_24 rfl (lv_at hl 0 rfl) ?_
        obtain ⟨v6, hv6, h⟩ := ob h
        refine m_getI hC hw (C := RX6) (T := TX6) (N := 5) hv6 ki_X6_cut_X6 rfl (by decide) k_X6_cut_27 (fun _ z => z) dX6_cut_25 ?_
        refine lv_icmp_ge (tgt := 44) hx hb dX6_cut_28 (by decide) (fun c7 => ?_) (fun c7 => ?_)
        · replace h := itt h c7
          replace h := Option.some.inj h
          subst h
          exact RET hw ⟨(show cells + 0 ≤ 0 from by omega), (show slots + 0 ≤ 0 from by omega)⟩ dX6_cut_44
        · replace h := itf h c7
          refine m_aload_n (x := x0) hx hb dX6_cut_31 rfl (lv_at hl 0 rfl) ?_
          refine m_aload_n (x := x1) hx hb dX6_cut_32 rfl (lv_at hl 1 rfl) ?_
          refine lv_iload_n hx hb dX6_cut_33 rfl (lv_at hl 2 rfl) ?_
          obtain ⟨g8, h⟩ := itg h
          obtain ⟨r9, hr9, h⟩ := ob h
          refine m_contI hC hw (m_runV hC hw (x := x0) (ci := 9) (N := 5) (C := RX6) (T := TX6) (n := 2) (av := [va_rf x1, .int x2]) (rest := []) (c_X6_cutFrom (G := G) (l := l) hr9) gX6_cut_X6_cutFrom rfl (by decide +kernel) ⟨(Nat.le_of_ble_eq_true rfl), (Nat.le_of_ble_eq_true rfl)⟩ g8 rfl rfl hl.1 rfl (Nat.le_of_ble_eq_true rfl) dX6_cut_34 ⟨(show cells + 0 ≤ 0 from by omega), (show slots + 0 ≤ 0 from by omega)⟩) (fun H locs hw => ?_)
          refine lv_istore_n (i := 2) (lv' := [(2, .int r9.1), (0, va_rf x0), (1, va_rf x1), (3, .int x3)]) hx hb dX6_cut_37 rfl hl (by decide) (by simp [va_rf_cat, cat_i, cat_l]) (fun ls hl => ?_)
          refine lv_iinc (v := (x3 + (1 : Int32))) (lv' := [(3, .int (x3 + (1 : Int32))), (2, .int r9.1), (0, va_rf x0), (1, va_rf x1)]) hx hb dX6_cut_38 hl (k := 3) rfl rfl (by decide) rfl (fun ls hl => ?_)
          refine lv_goto (tgt := 17) hx hb dX6_cut_41 (by decide) ?_
          exact ih _ _ _ _ _ _ _ _ h hcl hsl hw (lv_sub hl [2, 3, 1, 0] rfl)
  unfold f_X6_cut at h
  refine m_aload_n (x := this) hx hb dX6_cut_0 rfl (lv_at hl 0 rfl) ?_
  refine lv_iconst (v := (0 : Int32)) hx hb dX6_cut_1 (by decide) ?_
  obtain ⟨M1, hM1, h⟩ := ob h
  refine m_put hC hw (C := RX6) (T := TX6) (N := 5) (x := this) hM1 ki_X6_cut_X6 tyX6 tyX6_ok nmX6 rfl (by decide) k_X6_cut_23 (fun _ z => z) rfl rfl rfl dX6_cut_2 (fun H locs hw => ?_)
  refine m_aload_n (x := this) hx hb dX6_cut_5 rfl (lv_at hl 0 rfl) ?_
  refine m_aload_n (x := a1) hx hb dX6_cut_6 rfl (lv_at hl 1 rfl) ?_
  obtain ⟨g2, h⟩ := itg h
  obtain ⟨r3, hr3, h⟩ := ob h
  refine m_contI hC hw (m_runV hC hw (x := a1) (ci := 12) (N := 2) (C := RX9) (T := TX9) (n := 0) (av := []) (rest := [va_rf this]) (c_X9_size (G := G) (l := l) hr3) gX6_cut_X9_size rfl (by decide +kernel) ⟨(Nat.le_of_ble_eq_true rfl), (Nat.le_of_ble_eq_true rfl)⟩ g2 rfl rfl hl.1 rfl (by simp [va_rf_cat, cat_i, cat_r, cat_l]) dX6_cut_7 ⟨(Nat.zero_le _), (Nat.zero_le _)⟩) (fun H locs hw => ?_)
  obtain ⟨M4, hM4, h⟩ := ob h
  refine m_put hC hw (C := RX6) (T := TX6) (N := 5) (x := this) hM4 ki_X6_cut_X6 tyX6 tyX6_ok nmX6 rfl (by decide) k_X6_cut_27 (fun _ z => z) rfl rfl rfl dX6_cut_10 (fun H locs hw => ?_)
  refine lv_iconst (v := (0 : Int32)) hx hb dX6_cut_13 (by decide) ?_
  refine lv_istore_n (i := 2) (lv' := [(2, .int (0 : Int32)), (0, va_rf this), (1, va_rf a1)]) hx hb dX6_cut_14 rfl hl (by decide) (by simp [va_rf_cat, cat_i, cat_l]) (fun ls hl => ?_)
  refine lv_iconst (v := (0 : Int32)) hx hb dX6_cut_15 (by decide) ?_
  refine lv_istore_n (i := 3) (lv' := [(3, .int (0 : Int32)), (2, .int (0 : Int32)), (0, va_rf this), (1, va_rf a1)]) hx hb dX6_cut_16 rfl hl (by decide) rfl (fun ls hl => ?_)
  exact L17 this a1 _ _ _ _ _ _ _ _ _ h (Nat.zero_le _) (Nat.zero_le _) hw (lv_sub hl [2, 3, 1, 0] rfl)

def f_X7_begin (B : Nat) (S : Nat → Nat) (n : Nat) (M : Mem) (this : Option Nat) (a1 : Option Nat) : Option (Mem) := (gR M this 10 0).bind fun v1 => if isO M v1 9 = true then ((f_X6_cut B S n M v1 a1).bind fun r3 => (pF B r3 this 10 2 (.int (0 : Int32))).bind fun M4 => (pF B M4 this 10 3 (.int (0 : Int32))).bind fun M5 => (pF B M5 this 10 4 (.int (-9999 : Int32))).bind fun M6 => some (M6)) else none
def rmX7_begin : Room := { frames := 8, cells := 0, slots := 0, locals := 182 }
theorem k_X7_begin_12 : Cond.fieldLink RX7 12 "LoanBook$Reader" "pieces" "LLoanBook$Pieces;" ∈ wsX7_begin := List.mem_of_getElem? (i := 1) rfl
theorem ki_X7_begin_X7 : ∀ w ∈ u_ws RX7 TX7 5, w ∈ wsX7_begin := sub_r [102, 103, 104, 105, 106] (by decide +kernel)
theorem k_X7_begin_24 : Cond.fieldLink RX7 24 "LoanBook$Reader" "size" "I" ∈ wsX7_begin := List.mem_of_getElem? (i := 2) rfl
theorem k_X7_begin_28 : Cond.fieldLink RX7 28 "LoanBook$Reader" "at" "I" ∈ wsX7_begin := List.mem_of_getElem? (i := 3) rfl
theorem k_X7_begin_31 : Cond.fieldLink RX7 31 "LoanBook$Reader" "wrongAt" "I" ∈ wsX7_begin := List.mem_of_getElem? (i := 4) rfl
set_option maxHeartbeats 4000000 in
set_option maxRecDepth 100000 in
theorem c_X7_begin {G : wG} {l : Launch} {n : Nat} {M : Mem} {sz : Nat} {this : Option Nat} {a1 : Option Nat} {r : Mem} (h : f_X7_begin G.2.2.1 G.2.2.2 n M this a1 = some r) : CtrV G l yX7_begin wsX7_begin rmX7_begin [va_rf this, va_rf a1] M sz r sz := by
  refine m_startV (own := RX7) (cc := cX7_begin) (maxL := 2) (lv0 := [(0, va_rf this), (1, va_rf a1)]) (by decide) rfl rfl (by simp [lg_sl, va_rf_cat, cat_i, cat_r]) (by simp [lv_args, va_rf_cat, cat_i, cat_r]) ?_
  intro p e s m args below meth c Q hC hname RET hsz hw ls hl
  have hx := hC.1
  have hb := hC.2.1
  unfold f_X7_begin at h
  refine m_aload_n (x := this) hx hb dX7_begin_0 rfl (lv_at hl 0 rfl) ?_
  obtain ⟨v1, hv1, h⟩ := ob h
  refine m_getR hC hw (C := RX7) (T := TX7) (N := 5) hv1 ki_X7_begin_X7 rfl (by decide) k_X7_begin_12 (fun _ z => z) dX7_begin_1 ?_
  refine m_aload_n (x := a1) hx hb dX7_begin_4 rfl (lv_at hl 1 rfl) ?_
  obtain ⟨g2, h⟩ := itg h
  obtain ⟨r3, hr3, h⟩ := ob h
  refine m_contV hC hw (m_runV hC hw (x := v1) (ci := 9) (N := 5) (C := RX6) (T := TX6) (n := 1) (av := [va_rf a1]) (rest := []) (c_X6_cut (G := G) (l := l) hr3) gX7_begin_X6_cut rfl (by decide +kernel) ⟨(Nat.le_of_ble_eq_true rfl), (Nat.le_of_ble_eq_true rfl)⟩ g2 rfl rfl hl.1 rfl (Nat.le_of_ble_eq_true rfl) dX7_begin_5 ⟨(Nat.zero_le _), (Nat.zero_le _)⟩) (fun H locs hw => ?_)
  refine m_aload_n (x := this) hx hb dX7_begin_8 rfl (lv_at hl 0 rfl) ?_
  refine lv_iconst (v := (0 : Int32)) hx hb dX7_begin_9 (by decide) ?_
  obtain ⟨M4, hM4, h⟩ := ob h
  refine m_put hC hw (C := RX7) (T := TX7) (N := 5) (x := this) hM4 ki_X7_begin_X7 tyX7 tyX7_ok nmX7 rfl (by decide) k_X7_begin_24 (fun _ z => z) rfl rfl rfl dX7_begin_10 (fun H locs hw => ?_)
  refine m_aload_n (x := this) hx hb dX7_begin_13 rfl (lv_at hl 0 rfl) ?_
  refine lv_iconst (v := (0 : Int32)) hx hb dX7_begin_14 (by decide) ?_
  obtain ⟨M5, hM5, h⟩ := ob h
  refine m_put hC hw (C := RX7) (T := TX7) (N := 5) (x := this) hM5 ki_X7_begin_X7 tyX7 tyX7_ok nmX7 rfl (by decide) k_X7_begin_28 (fun _ z => z) rfl rfl rfl dX7_begin_15 (fun H locs hw => ?_)
  refine m_aload_n (x := this) hx hb dX7_begin_18 rfl (lv_at hl 0 rfl) ?_
  refine lv_sipush (v := (-9999 : Int32)) hx hb dX7_begin_19 (by decide) ?_
  obtain ⟨M6, hM6, h⟩ := ob h
  refine m_put hC hw (C := RX7) (T := TX7) (N := 5) (x := this) hM6 ki_X7_begin_X7 tyX7 tyX7_ok nmX7 rfl (by decide) k_X7_begin_31 (fun _ z => z) rfl rfl rfl dX7_begin_22 (fun H locs hw => ?_)
  replace h := Option.some.inj h
  subst h
  exact RET hw ⟨(Nat.zero_le _), (Nat.zero_le _)⟩ dX7_begin_25

def f_X6_codeAt (M : Mem) (this : Option Nat) (a1 : Int32) : Option (Int32) := if a1 < 0 then (some (-1 : Int32)) else ((gI M this 9 3).bind fun v2 => if v2 ≤ a1 then (some (-1 : Int32)) else ((gR M this 9 1).bind fun v4 => (aI M 0 v4 a1).bind fun v5 => some (v5)))
def rmX6_codeAt : Room := { frames := 0, cells := 0, slots := 0, locals := 0 }
theorem k_X6_codeAt_23 : Cond.fieldLink RX6 23 "LoanBook$Pieces" "size" "I" ∈ wsX6_codeAt := List.mem_of_getElem? (i := 1) rfl
theorem ki_X6_codeAt_X6 : ∀ w ∈ u_ws RX6 TX6 5, w ∈ wsX6_codeAt := sub_r [3, 4, 5, 6, 7] (by decide +kernel)
theorem k_X6_codeAt_17 : Cond.fieldLink RX6 17 "LoanBook$Pieces" "codes" "[I" ∈ wsX6_codeAt := List.mem_of_getElem? (i := 2) rfl
set_option maxHeartbeats 4000000 in
set_option maxRecDepth 100000 in
theorem c_X6_codeAt {G : wG} {l : Launch} {M : Mem} {sz : Nat} {this : Option Nat} {a1 : Int32} {r : Int32} (h : f_X6_codeAt M this a1 = some r) : CtrI G l yX6_codeAt wsX6_codeAt rmX6_codeAt [va_rf this, .int a1] M sz r M sz := by
  refine m_startI (own := RX6) (cc := cX6_codeAt) (maxL := 2) (lv0 := [(0, va_rf this), (1, .int a1)]) (by decide) rfl rfl (by simp [lg_sl, va_rf_cat, cat_i, cat_r]) (by simp [lv_args, va_rf_cat, cat_i, cat_r]) ?_
  intro p e s m args below meth c Q hC hname RET hsz hw ls hl
  have hx := hC.1
  have hb := hC.2.1
  unfold f_X6_codeAt at h
  refine lv_iload_n hx hb dX6_codeAt_0 rfl (lv_at hl 1 rfl) ?_
  refine lv_if_lt (tgt := 21) hx hb dX6_codeAt_1 (by decide) (fun c1 => ?_) (fun c1 => ?_)
  · replace h := itt h c1
    refine lv_iconst (v := (-1 : Int32)) hx hb dX6_codeAt_21 (by decide) ?_
    replace h := Option.some.inj h
    subst h
    exact RET hw ⟨(Nat.zero_le _), (Nat.zero_le _)⟩ dX6_codeAt_22
  · replace h := itf h c1
    refine lv_iload_n hx hb dX6_codeAt_4 rfl (lv_at hl 1 rfl) ?_
    refine m_aload_n (x := this) hx hb dX6_codeAt_5 rfl (lv_at hl 0 rfl) ?_
    obtain ⟨v2, hv2, h⟩ := ob h
    refine m_getI hC hw (C := RX6) (T := TX6) (N := 5) hv2 ki_X6_codeAt_X6 rfl (by decide) k_X6_codeAt_23 (fun _ z => z) dX6_codeAt_6 ?_
    refine lv_icmp_ge (tgt := 21) hx hb dX6_codeAt_9 (by decide) (fun c3 => ?_) (fun c3 => ?_)
    · replace h := itt h c3
      refine lv_iconst (v := (-1 : Int32)) hx hb dX6_codeAt_21 (by decide) ?_
      replace h := Option.some.inj h
      subst h
      exact RET hw ⟨(Nat.zero_le _), (Nat.zero_le _)⟩ dX6_codeAt_22
    · replace h := itf h c3
      refine m_aload_n (x := this) hx hb dX6_codeAt_12 rfl (lv_at hl 0 rfl) ?_
      obtain ⟨v4, hv4, h⟩ := ob h
      refine m_getR hC hw (C := RX6) (T := TX6) (N := 5) hv4 ki_X6_codeAt_X6 rfl (by decide) k_X6_codeAt_17 (fun _ z => z) dX6_codeAt_13 ?_
      refine lv_iload_n hx hb dX6_codeAt_16 rfl (lv_at hl 1 rfl) ?_
      obtain ⟨v5, hv5, h⟩ := ob h
      refine m_iald (x := v4) hC hw hv5 dX6_codeAt_17 ?_
      refine lv_goto (tgt := 22) hx hb dX6_codeAt_18 (by decide) ?_
      replace h := Option.some.inj h
      subst h
      exact RET hw ⟨(Nat.zero_le _), (Nat.zero_le _)⟩ dX6_codeAt_22

def f_X6_startAt (M : Mem) (this : Option Nat) (a1 : Int32) : Option (Int32) := if a1 < 0 then ((gI M this 9 4).bind fun v2 => some (v2)) else ((gI M this 9 3).bind fun v3 => if v3 ≤ a1 then ((gI M this 9 4).bind fun v5 => some (v5)) else ((gR M this 9 0).bind fun v6 => (aI M 0 v6 a1).bind fun v7 => some (v7)))
def rmX6_startAt : Room := { frames := 0, cells := 0, slots := 0, locals := 0 }
theorem k_X6_startAt_27 : Cond.fieldLink RX6 27 "LoanBook$Pieces" "end" "I" ∈ wsX6_startAt := List.mem_of_getElem? (i := 3) rfl
theorem ki_X6_startAt_X6 : ∀ w ∈ u_ws RX6 TX6 5, w ∈ wsX6_startAt := sub_r [4, 5, 6, 7, 8] (by decide +kernel)
theorem k_X6_startAt_23 : Cond.fieldLink RX6 23 "LoanBook$Pieces" "size" "I" ∈ wsX6_startAt := List.mem_of_getElem? (i := 1) rfl
theorem k_X6_startAt_11 : Cond.fieldLink RX6 11 "LoanBook$Pieces" "starts" "[I" ∈ wsX6_startAt := List.mem_of_getElem? (i := 2) rfl
set_option maxHeartbeats 4000000 in
set_option maxRecDepth 100000 in
theorem c_X6_startAt {G : wG} {l : Launch} {M : Mem} {sz : Nat} {this : Option Nat} {a1 : Int32} {r : Int32} (h : f_X6_startAt M this a1 = some r) : CtrI G l yX6_startAt wsX6_startAt rmX6_startAt [va_rf this, .int a1] M sz r M sz := by
  refine m_startI (own := RX6) (cc := cX6_startAt) (maxL := 2) (lv0 := [(0, va_rf this), (1, .int a1)]) (by decide) rfl rfl (by simp [lg_sl, va_rf_cat, cat_i, cat_r]) (by simp [lv_args, va_rf_cat, cat_i, cat_r]) ?_
  intro p e s m args below meth c Q hC hname RET hsz hw ls hl
  have hx := hC.1
  have hb := hC.2.1
  unfold f_X6_startAt at h
  refine lv_iload_n hx hb dX6_startAt_0 rfl (lv_at hl 1 rfl) ?_
  refine lv_if_lt (tgt := 21) hx hb dX6_startAt_1 (by decide) (fun c1 => ?_) (fun c1 => ?_)
  · replace h := itt h c1
    refine m_aload_n (x := this) hx hb dX6_startAt_21 rfl (lv_at hl 0 rfl) ?_
    obtain ⟨v2, hv2, h⟩ := ob h
    refine m_getI hC hw (C := RX6) (T := TX6) (N := 5) hv2 ki_X6_startAt_X6 rfl (by decide) k_X6_startAt_27 (fun _ z => z) dX6_startAt_22 ?_
    replace h := Option.some.inj h
    subst h
    exact RET hw ⟨(Nat.zero_le _), (Nat.zero_le _)⟩ dX6_startAt_25
  · replace h := itf h c1
    refine lv_iload_n hx hb dX6_startAt_4 rfl (lv_at hl 1 rfl) ?_
    refine m_aload_n (x := this) hx hb dX6_startAt_5 rfl (lv_at hl 0 rfl) ?_
    obtain ⟨v3, hv3, h⟩ := ob h
    refine m_getI hC hw (C := RX6) (T := TX6) (N := 5) hv3 ki_X6_startAt_X6 rfl (by decide) k_X6_startAt_23 (fun _ z => z) dX6_startAt_6 ?_
    refine lv_icmp_ge (tgt := 21) hx hb dX6_startAt_9 (by decide) (fun c4 => ?_) (fun c4 => ?_)
    · replace h := itt h c4
      refine m_aload_n (x := this) hx hb dX6_startAt_21 rfl (lv_at hl 0 rfl) ?_
      obtain ⟨v5, hv5, h⟩ := ob h
      refine m_getI hC hw (C := RX6) (T := TX6) (N := 5) hv5 ki_X6_startAt_X6 rfl (by decide) k_X6_startAt_27 (fun _ z => z) dX6_startAt_22 ?_
      replace h := Option.some.inj h
      subst h
      exact RET hw ⟨(Nat.zero_le _), (Nat.zero_le _)⟩ dX6_startAt_25
    · replace h := itf h c4
      refine m_aload_n (x := this) hx hb dX6_startAt_12 rfl (lv_at hl 0 rfl) ?_
      obtain ⟨v6, hv6, h⟩ := ob h
      refine m_getR hC hw (C := RX6) (T := TX6) (N := 5) hv6 ki_X6_startAt_X6 rfl (by decide) k_X6_startAt_11 (fun _ z => z) dX6_startAt_13 ?_
      refine lv_iload_n hx hb dX6_startAt_16 rfl (lv_at hl 1 rfl) ?_
      obtain ⟨v7, hv7, h⟩ := ob h
      refine m_iald (x := v6) hC hw hv7 dX6_startAt_17 ?_
      refine lv_goto (tgt := 25) hx hb dX6_startAt_18 (by decide) ?_
      replace h := Option.some.inj h
      subst h
      exact RET hw ⟨(Nat.zero_le _), (Nat.zero_le _)⟩ dX6_startAt_25

def f_X7_isWrongHere (B : Nat) (M : Mem) (this : Option Nat) : Option (Int32 × Mem) := (gR M this 10 0).bind fun v1 => (gI M this 10 3).bind fun v2 => if isO M v1 9 = true then ((f_X6_startAt M v1 v2).bind fun r4 => (pF B M this 10 4 (.int r4)).bind fun M5 => some ((0 : Int32), M5)) else none
def rmX7_isWrongHere : Room := { frames := 1, cells := 0, slots := 0, locals := 21 }
theorem k_X7_isWrongHere_12 : Cond.fieldLink RX7 12 "LoanBook$Reader" "pieces" "LLoanBook$Pieces;" ∈ wsX7_isWrongHere := List.mem_of_getElem? (i := 1) rfl
theorem ki_X7_isWrongHere_X7 : ∀ w ∈ u_ws RX7 TX7 5, w ∈ wsX7_isWrongHere := sub_r [12, 13, 14, 15, 16] (by decide +kernel)
theorem k_X7_isWrongHere_28 : Cond.fieldLink RX7 28 "LoanBook$Reader" "at" "I" ∈ wsX7_isWrongHere := List.mem_of_getElem? (i := 2) rfl
theorem k_X7_isWrongHere_31 : Cond.fieldLink RX7 31 "LoanBook$Reader" "wrongAt" "I" ∈ wsX7_isWrongHere := List.mem_of_getElem? (i := 3) rfl
set_option maxHeartbeats 4000000 in
set_option maxRecDepth 100000 in
theorem c_X7_isWrongHere {G : wG} {l : Launch} {M : Mem} {sz : Nat} {this : Option Nat} {r : Int32 × Mem} (h : f_X7_isWrongHere G.2.2.1 M this = some r) : CtrI G l yX7_isWrongHere wsX7_isWrongHere rmX7_isWrongHere [va_rf this] M sz r.1 r.2 sz := by
  refine m_startZ (own := RX7) (cc := cX7_isWrongHere) (maxL := 1) (lv0 := [(0, va_rf this)]) (by decide) rfl rfl (by simp [lg_sl, va_rf_cat, cat_i, cat_r]) (by simp [lv_args, va_rf_cat, cat_i, cat_r]) ?_
  intro p e s m args below meth c Q hC hname RET hsz hw ls hl
  have hx := hC.1
  have hb := hC.2.1
  unfold f_X7_isWrongHere at h
  refine m_aload_n (x := this) hx hb dX7_isWrongHere_0 rfl (lv_at hl 0 rfl) ?_
  refine m_aload_n (x := this) hx hb dX7_isWrongHere_1 rfl (lv_at hl 0 rfl) ?_
  obtain ⟨v1, hv1, h⟩ := ob h
  refine m_getR hC hw (C := RX7) (T := TX7) (N := 5) hv1 ki_X7_isWrongHere_X7 rfl (by decide) k_X7_isWrongHere_12 (fun _ z => z) dX7_isWrongHere_2 ?_
  refine m_aload_n (x := this) hx hb dX7_isWrongHere_5 rfl (lv_at hl 0 rfl) ?_
  obtain ⟨v2, hv2, h⟩ := ob h
  refine m_getI hC hw (C := RX7) (T := TX7) (N := 5) hv2 ki_X7_isWrongHere_X7 rfl (by decide) k_X7_isWrongHere_28 (fun _ z => z) dX7_isWrongHere_6 ?_
  obtain ⟨g3, h⟩ := itg h
  obtain ⟨r4, hr4, h⟩ := ob h
  refine m_contI hC hw (m_runV hC hw (x := v1) (ci := 9) (N := 5) (C := RX6) (T := TX6) (n := 1) (av := [.int v2]) (rest := [va_rf this]) (c_X6_startAt (G := G) (l := l) hr4) gX7_isWrongHere_X6_startAt rfl (by decide +kernel) ⟨(Nat.le_of_ble_eq_true rfl), (Nat.le_of_ble_eq_true rfl)⟩ g3 rfl rfl hl.1 rfl (by simp [va_rf_cat, cat_i, cat_r, cat_l]) dX7_isWrongHere_9 ⟨(Nat.zero_le _), (Nat.zero_le _)⟩) (fun H locs hw => ?_)
  obtain ⟨M5, hM5, h⟩ := ob h
  refine m_put hC hw (C := RX7) (T := TX7) (N := 5) (x := this) hM5 ki_X7_isWrongHere_X7 tyX7 tyX7_ok nmX7 rfl (by decide) k_X7_isWrongHere_31 (fun _ z => z) rfl rfl rfl dX7_isWrongHere_12 (fun H locs hw => ?_)
  refine lv_iconst (v := (0 : Int32)) hx hb dX7_isWrongHere_15 (by decide) ?_
  replace h := Option.some.inj h
  subst h
  exact RET (isZ.nar (Or.inl rfl)) hw ⟨(Nat.zero_le _), (Nat.zero_le _)⟩ dX7_isWrongHere_16

def f_X7_add (B : Nat) (M : Mem) (this : Option Nat) (a1 : Int32) : Option (Mem) := (gI M this 10 2).bind fun v1 => if (120 : Int32) ≤ v1 then (some (M)) else ((gR M this 10 1).bind fun v3 => (gI M this 10 2).bind fun v4 => (sI B M 0 v3 v4 a1).bind fun M5 => (gI M5 this 10 2).bind fun v6 => (pF B M5 this 10 2 (.int (v6 + (1 : Int32)))).bind fun M7 => some (M7))
def rmX7_add : Room := { frames := 0, cells := 0, slots := 0, locals := 0 }
theorem k_X7_add_24 : Cond.fieldLink RX7 24 "LoanBook$Reader" "size" "I" ∈ wsX7_add := List.mem_of_getElem? (i := 1) rfl
theorem ki_X7_add_X7 : ∀ w ∈ u_ws RX7 TX7 5, w ∈ wsX7_add := sub_r [3, 4, 5, 6, 7] (by decide +kernel)
theorem k_X7_add_20 : Cond.fieldLink RX7 20 "LoanBook$Reader" "row" "[I" ∈ wsX7_add := List.mem_of_getElem? (i := 2) rfl
set_option maxHeartbeats 4000000 in
set_option maxRecDepth 100000 in
theorem c_X7_add {G : wG} {l : Launch} {M : Mem} {sz : Nat} {this : Option Nat} {a1 : Int32} {r : Mem} (h : f_X7_add G.2.2.1 M this a1 = some r) : CtrV G l yX7_add wsX7_add rmX7_add [va_rf this, .int a1] M sz r sz := by
  refine m_startV (own := RX7) (cc := cX7_add) (maxL := 2) (lv0 := [(0, va_rf this), (1, .int a1)]) (by decide) rfl rfl (by simp [lg_sl, va_rf_cat, cat_i, cat_r]) (by simp [lv_args, va_rf_cat, cat_i, cat_r]) ?_
  intro p e s m args below meth c Q hC hname RET hsz hw ls hl
  have hx := hC.1
  have hb := hC.2.1
  unfold f_X7_add at h
  refine m_aload_n (x := this) hx hb dX7_add_0 rfl (lv_at hl 0 rfl) ?_
  obtain ⟨v1, hv1, h⟩ := ob h
  refine m_getI hC hw (C := RX7) (T := TX7) (N := 5) hv1 ki_X7_add_X7 rfl (by decide) k_X7_add_24 (fun _ z => z) dX7_add_1 ?_
  refine lv_bipush (v := (120 : Int32)) hx hb dX7_add_4 (by decide) ?_
  refine lv_icmp_ge (tgt := 29) hx hb dX7_add_6 (by decide) (fun c2 => ?_) (fun c2 => ?_)
  · replace h := itt h c2
    replace h := Option.some.inj h
    subst h
    exact RET hw ⟨(Nat.zero_le _), (Nat.zero_le _)⟩ dX7_add_29
  · replace h := itf h c2
    refine m_aload_n (x := this) hx hb dX7_add_9 rfl (lv_at hl 0 rfl) ?_
    obtain ⟨v3, hv3, h⟩ := ob h
    refine m_getR hC hw (C := RX7) (T := TX7) (N := 5) hv3 ki_X7_add_X7 rfl (by decide) k_X7_add_20 (fun _ z => z) dX7_add_10 ?_
    refine m_aload_n (x := this) hx hb dX7_add_13 rfl (lv_at hl 0 rfl) ?_
    obtain ⟨v4, hv4, h⟩ := ob h
    refine m_getI hC hw (C := RX7) (T := TX7) (N := 5) hv4 ki_X7_add_X7 rfl (by decide) k_X7_add_24 (fun _ z => z) dX7_add_14 ?_
    refine lv_iload_n hx hb dX7_add_17 rfl (lv_at hl 1 rfl) ?_
    obtain ⟨M5, hM5, h⟩ := ob h
    refine m_iast (x := v3) hC hw hM5 dX7_add_18 (fun H locs hw => ?_)
    refine m_aload_n (x := this) hx hb dX7_add_19 rfl (lv_at hl 0 rfl) ?_
    refine m_dup (x := this) hx hb dX7_add_20 ?_
    obtain ⟨v6, hv6, h⟩ := ob h
    refine m_getI hC hw (C := RX7) (T := TX7) (N := 5) hv6 ki_X7_add_X7 rfl (by decide) k_X7_add_24 (fun _ z => z) dX7_add_21 ?_
    refine lv_iconst (v := (1 : Int32)) hx hb dX7_add_24 (by decide) ?_
    refine lv_iadd hx hb dX7_add_25 ?_
    obtain ⟨M7, hM7, h⟩ := ob h
    refine m_put hC hw (C := RX7) (T := TX7) (N := 5) (x := this) hM7 ki_X7_add_X7 tyX7 tyX7_ok nmX7 rfl (by decide) k_X7_add_24 (fun _ z => z) rfl rfl rfl dX7_add_26 (fun H locs hw => ?_)
    replace h := Option.some.inj h
    subst h
    exact RET hw ⟨(Nat.zero_le _), (Nat.zero_le _)⟩ dX7_add_29

def f_X7_takesWord (B : Nat) (M : Mem) (this : Option Nat) (a1 : Int32) (a2 : Int32) : Option (Int32 × Mem) := (gR M this 10 0).bind fun v1 => (gI M this 10 3).bind fun v2 => if isO M v1 9 = true then ((f_X6_codeAt M v1 v2).bind fun r4 => if (r4 - a1) < 0 then (if isO M this 10 = true then ((f_X7_isWrongHere B M this).bind fun r7 => if r7.1 = 0 ∨ r7.1 = 1 then (some (r7.1, r7.2)) else none) else none) else (if (r4 - a1) < a2 then (if isO M this 10 = true then ((f_X7_add B M this (r4 - a1)).bind fun r11 => (gI r11 this 10 3).bind fun v12 => (pF B r11 this 10 3 (.int (v12 + (1 : Int32)))).bind fun M13 => some ((1 : Int32), M13)) else none) else (if isO M this 10 = true then ((f_X7_isWrongHere B M this).bind fun r15 => if r15.1 = 0 ∨ r15.1 = 1 then (some (r15.1, r15.2)) else none) else none))) else none
def rmX7_takesWord : Room := { frames := 2, cells := 0, slots := 0, locals := 41 }
theorem k_X7_takesWord_12 : Cond.fieldLink RX7 12 "LoanBook$Reader" "pieces" "LLoanBook$Pieces;" ∈ wsX7_takesWord := List.mem_of_getElem? (i := 1) rfl
theorem ki_X7_takesWord_X7 : ∀ w ∈ u_ws RX7 TX7 5, w ∈ wsX7_takesWord := sub_r [28, 29, 30, 31, 32] (by decide +kernel)
theorem k_X7_takesWord_28 : Cond.fieldLink RX7 28 "LoanBook$Reader" "at" "I" ∈ wsX7_takesWord := List.mem_of_getElem? (i := 2) rfl
set_option maxHeartbeats 4000000 in
set_option maxRecDepth 100000 in
theorem c_X7_takesWord {G : wG} {l : Launch} {M : Mem} {sz : Nat} {this : Option Nat} {a1 : Int32} {a2 : Int32} {r : Int32 × Mem} (h : f_X7_takesWord G.2.2.1 M this a1 a2 = some r) : CtrI G l yX7_takesWord wsX7_takesWord rmX7_takesWord [va_rf this, .int a1, .int a2] M sz r.1 r.2 sz := by
  refine m_startZ (own := RX7) (cc := cX7_takesWord) (maxL := 4) (lv0 := [(0, va_rf this), (1, .int a1), (2, .int a2)]) (by decide) rfl rfl (by simp [lg_sl, va_rf_cat, cat_i, cat_r]) (by simp [lv_args, va_rf_cat, cat_i, cat_r]) ?_
  intro p e s m args below meth c Q hC hname RET hsz hw ls hl
  have hx := hC.1
  have hb := hC.2.1
  unfold f_X7_takesWord at h
  refine m_aload_n (x := this) hx hb dX7_takesWord_0 rfl (lv_at hl 0 rfl) ?_
  obtain ⟨v1, hv1, h⟩ := ob h
  refine m_getR hC hw (C := RX7) (T := TX7) (N := 5) hv1 ki_X7_takesWord_X7 rfl (by decide) k_X7_takesWord_12 (fun _ z => z) dX7_takesWord_1 ?_
  refine m_aload_n (x := this) hx hb dX7_takesWord_4 rfl (lv_at hl 0 rfl) ?_
  obtain ⟨v2, hv2, h⟩ := ob h
  refine m_getI hC hw (C := RX7) (T := TX7) (N := 5) hv2 ki_X7_takesWord_X7 rfl (by decide) k_X7_takesWord_28 (fun _ z => z) dX7_takesWord_5 ?_
  obtain ⟨g3, h⟩ := itg h
  obtain ⟨r4, hr4, h⟩ := ob h
  refine m_contI hC hw (m_runV hC hw (x := v1) (ci := 9) (N := 5) (C := RX6) (T := TX6) (n := 1) (av := [.int v2]) (rest := []) (c_X6_codeAt (G := G) (l := l) hr4) gX7_takesWord_X6_codeAt rfl (by decide +kernel) ⟨(Nat.le_of_ble_eq_true rfl), (Nat.le_of_ble_eq_true rfl)⟩ g3 rfl rfl hl.1 rfl (Nat.le_of_ble_eq_true rfl) dX7_takesWord_8 ⟨(Nat.zero_le _), (Nat.zero_le _)⟩) (fun H locs hw => ?_)
  refine lv_iload_n hx hb dX7_takesWord_11 rfl (lv_at hl 1 rfl) ?_
  refine lv_isub hx hb dX7_takesWord_12 ?_
  refine lv_istore_n (i := 3) (lv' := [(3, .int (r4 - a1)), (0, va_rf this), (1, .int a1), (2, .int a2)]) hx hb dX7_takesWord_13 rfl hl (by decide) rfl (fun ls hl => ?_)
  refine lv_iload_n hx hb dX7_takesWord_14 rfl (lv_at hl 0 rfl) ?_
  refine lv_if_lt (tgt := 23) hx hb dX7_takesWord_15 (by decide) (fun c5 => ?_) (fun c5 => ?_)
  · replace h := itt h c5
    refine m_aload_n (x := this) hx hb dX7_takesWord_23 rfl (lv_at hl 1 rfl) ?_
    obtain ⟨g6, h⟩ := itg h
    obtain ⟨r7, hr7, h⟩ := ob h
    refine m_contI hC hw (m_runV hC hw (x := this) (ci := 10) (N := 5) (C := RX7) (T := TX7) (n := 0) (av := []) (rest := []) (c_X7_isWrongHere (G := G) (l := l) hr7) gX7_takesWord_X7_isWrongHere rfl (by decide +kernel) ⟨(Nat.le_of_ble_eq_true rfl), (Nat.le_of_ble_eq_true rfl)⟩ g6 rfl rfl hl.1 rfl (Nat.le_of_ble_eq_true rfl) dX7_takesWord_24 ⟨(Nat.zero_le _), (Nat.zero_le _)⟩) (fun H locs hw => ?_)
    obtain ⟨g8, h⟩ := itg h
    replace h := Option.some.inj h
    subst h
    exact RET (isZ.nar g8) hw ⟨(Nat.zero_le _), (Nat.zero_le _)⟩ dX7_takesWord_27
  · replace h := itf h c5
    refine lv_iload_n hx hb dX7_takesWord_18 rfl (lv_at hl 0 rfl) ?_
    refine lv_iload_n hx hb dX7_takesWord_19 rfl (lv_at hl 3 rfl) ?_
    refine lv_icmp_lt (tgt := 28) hx hb dX7_takesWord_20 (by decide) (fun c9 => ?_) (fun c9 => ?_)
    · replace h := itt h c9
      refine m_aload_n (x := this) hx hb dX7_takesWord_28 rfl (lv_at hl 1 rfl) ?_
      refine lv_iload_n hx hb dX7_takesWord_29 rfl (lv_at hl 0 rfl) ?_
      obtain ⟨g10, h⟩ := itg h
      obtain ⟨r11, hr11, h⟩ := ob h
      refine m_contV hC hw (m_runV hC hw (x := this) (ci := 10) (N := 5) (C := RX7) (T := TX7) (n := 1) (av := [.int (r4 - a1)]) (rest := []) (c_X7_add (G := G) (l := l) hr11) gX7_takesWord_X7_add rfl (by decide +kernel) ⟨(Nat.le_of_ble_eq_true rfl), (Nat.le_of_ble_eq_true rfl)⟩ g10 rfl rfl hl.1 rfl (Nat.le_of_ble_eq_true rfl) dX7_takesWord_30 ⟨(Nat.zero_le _), (Nat.zero_le _)⟩) (fun H locs hw => ?_)
      refine m_aload_n (x := this) hx hb dX7_takesWord_33 rfl (lv_at hl 1 rfl) ?_
      refine m_dup (x := this) hx hb dX7_takesWord_34 ?_
      obtain ⟨v12, hv12, h⟩ := ob h
      refine m_getI hC hw (C := RX7) (T := TX7) (N := 5) hv12 ki_X7_takesWord_X7 rfl (by decide) k_X7_takesWord_28 (fun _ z => z) dX7_takesWord_35 ?_
      refine lv_iconst (v := (1 : Int32)) hx hb dX7_takesWord_38 (by decide) ?_
      refine lv_iadd hx hb dX7_takesWord_39 ?_
      obtain ⟨M13, hM13, h⟩ := ob h
      refine m_put hC hw (C := RX7) (T := TX7) (N := 5) (x := this) hM13 ki_X7_takesWord_X7 tyX7 tyX7_ok nmX7 rfl (by decide) k_X7_takesWord_28 (fun _ z => z) rfl rfl rfl dX7_takesWord_40 (fun H locs hw => ?_)
      refine lv_iconst (v := (1 : Int32)) hx hb dX7_takesWord_43 (by decide) ?_
      replace h := Option.some.inj h
      subst h
      exact RET (isZ.nar (Or.inr rfl)) hw ⟨(Nat.zero_le _), (Nat.zero_le _)⟩ dX7_takesWord_44
    · replace h := itf h c9
      refine m_aload_n (x := this) hx hb dX7_takesWord_23 rfl (lv_at hl 1 rfl) ?_
      obtain ⟨g14, h⟩ := itg h
      obtain ⟨r15, hr15, h⟩ := ob h
      refine m_contI hC hw (m_runV hC hw (x := this) (ci := 10) (N := 5) (C := RX7) (T := TX7) (n := 0) (av := []) (rest := []) (c_X7_isWrongHere (G := G) (l := l) hr15) gX7_takesWord_X7_isWrongHere rfl (by decide +kernel) ⟨(Nat.le_of_ble_eq_true rfl), (Nat.le_of_ble_eq_true rfl)⟩ g14 rfl rfl hl.1 rfl (Nat.le_of_ble_eq_true rfl) dX7_takesWord_24 ⟨(Nat.zero_le _), (Nat.zero_le _)⟩) (fun H locs hw => ?_)
      obtain ⟨g16, h⟩ := itg h
      replace h := Option.some.inj h
      subst h
      exact RET (isZ.nar g16) hw ⟨(Nat.zero_le _), (Nat.zero_le _)⟩ dX7_takesWord_27

def f_X6_numberAt (M : Mem) (this : Option Nat) (a1 : Int32) : Option (Int32) := if a1 < 0 then (some (0 : Int32)) else ((gI M this 9 3).bind fun v2 => if v2 ≤ a1 then (some (0 : Int32)) else ((gR M this 9 2).bind fun v4 => (aI M 0 v4 a1).bind fun v5 => some (v5)))
def rmX6_numberAt : Room := { frames := 0, cells := 0, slots := 0, locals := 0 }
theorem k_X6_numberAt_23 : Cond.fieldLink RX6 23 "LoanBook$Pieces" "size" "I" ∈ wsX6_numberAt := List.mem_of_getElem? (i := 1) rfl
theorem ki_X6_numberAt_X6 : ∀ w ∈ u_ws RX6 TX6 5, w ∈ wsX6_numberAt := sub_r [3, 4, 5, 6, 7] (by decide +kernel)
theorem k_X6_numberAt_20 : Cond.fieldLink RX6 20 "LoanBook$Pieces" "numbers" "[I" ∈ wsX6_numberAt := List.mem_of_getElem? (i := 2) rfl
set_option maxHeartbeats 4000000 in
set_option maxRecDepth 100000 in
theorem c_X6_numberAt {G : wG} {l : Launch} {M : Mem} {sz : Nat} {this : Option Nat} {a1 : Int32} {r : Int32} (h : f_X6_numberAt M this a1 = some r) : CtrI G l yX6_numberAt wsX6_numberAt rmX6_numberAt [va_rf this, .int a1] M sz r M sz := by
  refine m_startI (own := RX6) (cc := cX6_numberAt) (maxL := 2) (lv0 := [(0, va_rf this), (1, .int a1)]) (by decide) rfl rfl (by simp [lg_sl, va_rf_cat, cat_i, cat_r]) (by simp [lv_args, va_rf_cat, cat_i, cat_r]) ?_
  intro p e s m args below meth c Q hC hname RET hsz hw ls hl
  have hx := hC.1
  have hb := hC.2.1
  unfold f_X6_numberAt at h
  refine lv_iload_n hx hb dX6_numberAt_0 rfl (lv_at hl 1 rfl) ?_
  refine lv_if_lt (tgt := 21) hx hb dX6_numberAt_1 (by decide) (fun c1 => ?_) (fun c1 => ?_)
  · replace h := itt h c1
    refine lv_iconst (v := (0 : Int32)) hx hb dX6_numberAt_21 (by decide) ?_
    replace h := Option.some.inj h
    subst h
    exact RET hw ⟨(Nat.zero_le _), (Nat.zero_le _)⟩ dX6_numberAt_22
  · replace h := itf h c1
    refine lv_iload_n hx hb dX6_numberAt_4 rfl (lv_at hl 1 rfl) ?_
    refine m_aload_n (x := this) hx hb dX6_numberAt_5 rfl (lv_at hl 0 rfl) ?_
    obtain ⟨v2, hv2, h⟩ := ob h
    refine m_getI hC hw (C := RX6) (T := TX6) (N := 5) hv2 ki_X6_numberAt_X6 rfl (by decide) k_X6_numberAt_23 (fun _ z => z) dX6_numberAt_6 ?_
    refine lv_icmp_ge (tgt := 21) hx hb dX6_numberAt_9 (by decide) (fun c3 => ?_) (fun c3 => ?_)
    · replace h := itt h c3
      refine lv_iconst (v := (0 : Int32)) hx hb dX6_numberAt_21 (by decide) ?_
      replace h := Option.some.inj h
      subst h
      exact RET hw ⟨(Nat.zero_le _), (Nat.zero_le _)⟩ dX6_numberAt_22
    · replace h := itf h c3
      refine m_aload_n (x := this) hx hb dX6_numberAt_12 rfl (lv_at hl 0 rfl) ?_
      obtain ⟨v4, hv4, h⟩ := ob h
      refine m_getR hC hw (C := RX6) (T := TX6) (N := 5) hv4 ki_X6_numberAt_X6 rfl (by decide) k_X6_numberAt_20 (fun _ z => z) dX6_numberAt_13 ?_
      refine lv_iload_n hx hb dX6_numberAt_16 rfl (lv_at hl 1 rfl) ?_
      obtain ⟨v5, hv5, h⟩ := ob h
      refine m_iald (x := v4) hC hw hv5 dX6_numberAt_17 ?_
      refine lv_goto (tgt := 22) hx hb dX6_numberAt_18 (by decide) ?_
      replace h := Option.some.inj h
      subst h
      exact RET hw ⟨(Nat.zero_le _), (Nat.zero_le _)⟩ dX6_numberAt_22

def f_X7_takesNumber (B : Nat) (M : Mem) (this : Option Nat) : Option (Int32 × Mem) := (gR M this 10 0).bind fun v1 => (gI M this 10 3).bind fun v2 => if isO M v1 9 = true then ((f_X6_codeAt M v1 v2).bind fun r4 => if r4 = (1 : Int32) then ((gR M this 10 0).bind fun v6 => (gI M this 10 3).bind fun v7 => if isO M v6 9 = true then ((f_X6_numberAt M v6 v7).bind fun r9 => if isO M this 10 = true then ((f_X7_add B M this r9).bind fun r11 => (gI r11 this 10 3).bind fun v12 => (pF B r11 this 10 3 (.int (v12 + (1 : Int32)))).bind fun M13 => some ((1 : Int32), M13)) else none) else none) else (if isO M this 10 = true then ((f_X7_isWrongHere B M this).bind fun r15 => if r15.1 = 0 ∨ r15.1 = 1 then (some (r15.1, r15.2)) else none) else none)) else none
def rmX7_takesNumber : Room := { frames := 2, cells := 0, slots := 0, locals := 41 }
theorem k_X7_takesNumber_12 : Cond.fieldLink RX7 12 "LoanBook$Reader" "pieces" "LLoanBook$Pieces;" ∈ wsX7_takesNumber := List.mem_of_getElem? (i := 1) rfl
theorem ki_X7_takesNumber_X7 : ∀ w ∈ u_ws RX7 TX7 5, w ∈ wsX7_takesNumber := sub_r [33, 34, 35, 36, 37] (by decide +kernel)
theorem k_X7_takesNumber_28 : Cond.fieldLink RX7 28 "LoanBook$Reader" "at" "I" ∈ wsX7_takesNumber := List.mem_of_getElem? (i := 2) rfl
set_option maxHeartbeats 4000000 in
set_option maxRecDepth 100000 in
theorem c_X7_takesNumber {G : wG} {l : Launch} {M : Mem} {sz : Nat} {this : Option Nat} {r : Int32 × Mem} (h : f_X7_takesNumber G.2.2.1 M this = some r) : CtrI G l yX7_takesNumber wsX7_takesNumber rmX7_takesNumber [va_rf this] M sz r.1 r.2 sz := by
  refine m_startZ (own := RX7) (cc := cX7_takesNumber) (maxL := 1) (lv0 := [(0, va_rf this)]) (by decide) rfl rfl (by simp [lg_sl, va_rf_cat, cat_i, cat_r]) (by simp [lv_args, va_rf_cat, cat_i, cat_r]) ?_
  intro p e s m args below meth c Q hC hname RET hsz hw ls hl
  have hx := hC.1
  have hb := hC.2.1
  unfold f_X7_takesNumber at h
  refine m_aload_n (x := this) hx hb dX7_takesNumber_0 rfl (lv_at hl 0 rfl) ?_
  obtain ⟨v1, hv1, h⟩ := ob h
  refine m_getR hC hw (C := RX7) (T := TX7) (N := 5) hv1 ki_X7_takesNumber_X7 rfl (by decide) k_X7_takesNumber_12 (fun _ z => z) dX7_takesNumber_1 ?_
  refine m_aload_n (x := this) hx hb dX7_takesNumber_4 rfl (lv_at hl 0 rfl) ?_
  obtain ⟨v2, hv2, h⟩ := ob h
  refine m_getI hC hw (C := RX7) (T := TX7) (N := 5) hv2 ki_X7_takesNumber_X7 rfl (by decide) k_X7_takesNumber_28 (fun _ z => z) dX7_takesNumber_5 ?_
  obtain ⟨g3, h⟩ := itg h
  obtain ⟨r4, hr4, h⟩ := ob h
  refine m_contI hC hw (m_runV hC hw (x := v1) (ci := 9) (N := 5) (C := RX6) (T := TX6) (n := 1) (av := [.int v2]) (rest := []) (c_X6_codeAt (G := G) (l := l) hr4) gX7_takesNumber_X6_codeAt rfl (by decide +kernel) ⟨(Nat.le_of_ble_eq_true rfl), (Nat.le_of_ble_eq_true rfl)⟩ g3 rfl rfl hl.1 rfl (Nat.le_of_ble_eq_true rfl) dX7_takesNumber_8 ⟨(Nat.zero_le _), (Nat.zero_le _)⟩) (fun H locs hw => ?_)
  refine lv_iconst (v := (1 : Int32)) hx hb dX7_takesNumber_11 (by decide) ?_
  refine lv_icmp_eq (tgt := 20) hx hb dX7_takesNumber_12 (by decide) (fun c5 => ?_) (fun c5 => ?_)
  · replace h := itt h c5
    refine m_aload_n (x := this) hx hb dX7_takesNumber_20 rfl (lv_at hl 0 rfl) ?_
    refine m_aload_n (x := this) hx hb dX7_takesNumber_21 rfl (lv_at hl 0 rfl) ?_
    obtain ⟨v6, hv6, h⟩ := ob h
    refine m_getR hC hw (C := RX7) (T := TX7) (N := 5) hv6 ki_X7_takesNumber_X7 rfl (by decide) k_X7_takesNumber_12 (fun _ z => z) dX7_takesNumber_22 ?_
    refine m_aload_n (x := this) hx hb dX7_takesNumber_25 rfl (lv_at hl 0 rfl) ?_
    obtain ⟨v7, hv7, h⟩ := ob h
    refine m_getI hC hw (C := RX7) (T := TX7) (N := 5) hv7 ki_X7_takesNumber_X7 rfl (by decide) k_X7_takesNumber_28 (fun _ z => z) dX7_takesNumber_26 ?_
    obtain ⟨g8, h⟩ := itg h
    obtain ⟨r9, hr9, h⟩ := ob h
    refine m_contI hC hw (m_runV hC hw (x := v6) (ci := 9) (N := 5) (C := RX6) (T := TX6) (n := 1) (av := [.int v7]) (rest := [va_rf this]) (c_X6_numberAt (G := G) (l := l) hr9) gX7_takesNumber_X6_numberAt rfl (by decide +kernel) ⟨(Nat.le_of_ble_eq_true rfl), (Nat.le_of_ble_eq_true rfl)⟩ g8 rfl rfl hl.1 rfl (by simp [va_rf_cat, cat_i, cat_r, cat_l]) dX7_takesNumber_29 ⟨(Nat.zero_le _), (Nat.zero_le _)⟩) (fun H locs hw => ?_)
    obtain ⟨g10, h⟩ := itg h
    obtain ⟨r11, hr11, h⟩ := ob h
    refine m_contV hC hw (m_runV hC hw (x := this) (ci := 10) (N := 5) (C := RX7) (T := TX7) (n := 1) (av := [.int r9]) (rest := []) (c_X7_add (G := G) (l := l) hr11) gX7_takesNumber_X7_add rfl (by decide +kernel) ⟨(Nat.le_of_ble_eq_true rfl), (Nat.le_of_ble_eq_true rfl)⟩ g10 rfl rfl hl.1 rfl (Nat.le_of_ble_eq_true rfl) dX7_takesNumber_32 ⟨(Nat.zero_le _), (Nat.zero_le _)⟩) (fun H locs hw => ?_)
    refine m_aload_n (x := this) hx hb dX7_takesNumber_35 rfl (lv_at hl 0 rfl) ?_
    refine m_dup (x := this) hx hb dX7_takesNumber_36 ?_
    obtain ⟨v12, hv12, h⟩ := ob h
    refine m_getI hC hw (C := RX7) (T := TX7) (N := 5) hv12 ki_X7_takesNumber_X7 rfl (by decide) k_X7_takesNumber_28 (fun _ z => z) dX7_takesNumber_37 ?_
    refine lv_iconst (v := (1 : Int32)) hx hb dX7_takesNumber_40 (by decide) ?_
    refine lv_iadd hx hb dX7_takesNumber_41 ?_
    obtain ⟨M13, hM13, h⟩ := ob h
    refine m_put hC hw (C := RX7) (T := TX7) (N := 5) (x := this) hM13 ki_X7_takesNumber_X7 tyX7 tyX7_ok nmX7 rfl (by decide) k_X7_takesNumber_28 (fun _ z => z) rfl rfl rfl dX7_takesNumber_42 (fun H locs hw => ?_)
    refine lv_iconst (v := (1 : Int32)) hx hb dX7_takesNumber_45 (by decide) ?_
    replace h := Option.some.inj h
    subst h
    exact RET (isZ.nar (Or.inr rfl)) hw ⟨(Nat.zero_le _), (Nat.zero_le _)⟩ dX7_takesNumber_46
  · replace h := itf h c5
    refine m_aload_n (x := this) hx hb dX7_takesNumber_15 rfl (lv_at hl 0 rfl) ?_
    obtain ⟨g14, h⟩ := itg h
    obtain ⟨r15, hr15, h⟩ := ob h
    refine m_contI hC hw (m_runV hC hw (x := this) (ci := 10) (N := 5) (C := RX7) (T := TX7) (n := 0) (av := []) (rest := []) (c_X7_isWrongHere (G := G) (l := l) hr15) gX7_takesNumber_X7_isWrongHere rfl (by decide +kernel) ⟨(Nat.le_of_ble_eq_true rfl), (Nat.le_of_ble_eq_true rfl)⟩ g14 rfl rfl hl.1 rfl (Nat.le_of_ble_eq_true rfl) dX7_takesNumber_16 ⟨(Nat.zero_le _), (Nat.zero_le _)⟩) (fun H locs hw => ?_)
    obtain ⟨g16, h⟩ := itg h
    replace h := Option.some.inj h
    subst h
    exact RET (isZ.nar g16) hw ⟨(Nat.zero_le _), (Nat.zero_le _)⟩ dX7_takesNumber_19

def f_X7_skips (B : Nat) (M : Mem) (this : Option Nat) (a1 : Int32) : Option (Int32 × Mem) := (gR M this 10 0).bind fun v1 => (gI M this 10 3).bind fun v2 => if isO M v1 9 = true then ((f_X6_codeAt M v1 v2).bind fun r4 => if r4 = a1 then ((gI M this 10 3).bind fun v6 => (pF B M this 10 3 (.int (v6 + (1 : Int32)))).bind fun M7 => some ((1 : Int32), M7)) else (some ((0 : Int32), M))) else none
def rmX7_skips : Room := { frames := 1, cells := 0, slots := 0, locals := 21 }
theorem k_X7_skips_12 : Cond.fieldLink RX7 12 "LoanBook$Reader" "pieces" "LLoanBook$Pieces;" ∈ wsX7_skips := List.mem_of_getElem? (i := 1) rfl
theorem ki_X7_skips_X7 : ∀ w ∈ u_ws RX7 TX7 5, w ∈ wsX7_skips := sub_r [10, 11, 12, 13, 14] (by decide +kernel)
theorem k_X7_skips_28 : Cond.fieldLink RX7 28 "LoanBook$Reader" "at" "I" ∈ wsX7_skips := List.mem_of_getElem? (i := 2) rfl
set_option maxHeartbeats 4000000 in
set_option maxRecDepth 100000 in
theorem c_X7_skips {G : wG} {l : Launch} {M : Mem} {sz : Nat} {this : Option Nat} {a1 : Int32} {r : Int32 × Mem} (h : f_X7_skips G.2.2.1 M this a1 = some r) : CtrI G l yX7_skips wsX7_skips rmX7_skips [va_rf this, .int a1] M sz r.1 r.2 sz := by
  refine m_startZ (own := RX7) (cc := cX7_skips) (maxL := 2) (lv0 := [(0, va_rf this), (1, .int a1)]) (by decide) rfl rfl (by simp [lg_sl, va_rf_cat, cat_i, cat_r]) (by simp [lv_args, va_rf_cat, cat_i, cat_r]) ?_
  intro p e s m args below meth c Q hC hname RET hsz hw ls hl
  have hx := hC.1
  have hb := hC.2.1
  unfold f_X7_skips at h
  refine m_aload_n (x := this) hx hb dX7_skips_0 rfl (lv_at hl 0 rfl) ?_
  obtain ⟨v1, hv1, h⟩ := ob h
  refine m_getR hC hw (C := RX7) (T := TX7) (N := 5) hv1 ki_X7_skips_X7 rfl (by decide) k_X7_skips_12 (fun _ z => z) dX7_skips_1 ?_
  refine m_aload_n (x := this) hx hb dX7_skips_4 rfl (lv_at hl 0 rfl) ?_
  obtain ⟨v2, hv2, h⟩ := ob h
  refine m_getI hC hw (C := RX7) (T := TX7) (N := 5) hv2 ki_X7_skips_X7 rfl (by decide) k_X7_skips_28 (fun _ z => z) dX7_skips_5 ?_
  obtain ⟨g3, h⟩ := itg h
  obtain ⟨r4, hr4, h⟩ := ob h
  refine m_contI hC hw (m_runV hC hw (x := v1) (ci := 9) (N := 5) (C := RX6) (T := TX6) (n := 1) (av := [.int v2]) (rest := []) (c_X6_codeAt (G := G) (l := l) hr4) gX7_skips_X6_codeAt rfl (by decide +kernel) ⟨(Nat.le_of_ble_eq_true rfl), (Nat.le_of_ble_eq_true rfl)⟩ g3 rfl rfl hl.1 rfl (Nat.le_of_ble_eq_true rfl) dX7_skips_8 ⟨(Nat.zero_le _), (Nat.zero_le _)⟩) (fun H locs hw => ?_)
  refine lv_iload_n hx hb dX7_skips_11 rfl (lv_at hl 1 rfl) ?_
  refine lv_icmp_eq (tgt := 17) hx hb dX7_skips_12 (by decide) (fun c5 => ?_) (fun c5 => ?_)
  · replace h := itt h c5
    refine m_aload_n (x := this) hx hb dX7_skips_17 rfl (lv_at hl 0 rfl) ?_
    refine m_dup (x := this) hx hb dX7_skips_18 ?_
    obtain ⟨v6, hv6, h⟩ := ob h
    refine m_getI hC hw (C := RX7) (T := TX7) (N := 5) hv6 ki_X7_skips_X7 rfl (by decide) k_X7_skips_28 (fun _ z => z) dX7_skips_19 ?_
    refine lv_iconst (v := (1 : Int32)) hx hb dX7_skips_22 (by decide) ?_
    refine lv_iadd hx hb dX7_skips_23 ?_
    obtain ⟨M7, hM7, h⟩ := ob h
    refine m_put hC hw (C := RX7) (T := TX7) (N := 5) (x := this) hM7 ki_X7_skips_X7 tyX7 tyX7_ok nmX7 rfl (by decide) k_X7_skips_28 (fun _ z => z) rfl rfl rfl dX7_skips_24 (fun H locs hw => ?_)
    refine lv_iconst (v := (1 : Int32)) hx hb dX7_skips_27 (by decide) ?_
    replace h := Option.some.inj h
    subst h
    exact RET (isZ.nar (Or.inr rfl)) hw ⟨(Nat.zero_le _), (Nat.zero_le _)⟩ dX7_skips_28
  · replace h := itf h c5
    refine lv_iconst (v := (0 : Int32)) hx hb dX7_skips_15 (by decide) ?_
    replace h := Option.some.inj h
    subst h
    exact RET (isZ.nar (Or.inl rfl)) hw ⟨(Nat.zero_le _), (Nat.zero_le _)⟩ dX7_skips_16

def f_X7_takesBars_L4 (B : Nat) (n : Nat) (x0 : Option Nat) : Nat → Mem → Int32 → Int32 → Option (Int32 × Mem)
  | 0, _, _, _ => none
  | k + 1, Mz, x1, x2 => if (120 : Int32) ≤ x2 then (if x1 = 0 ∨ x1 = 1 then (some ((x1, Mz))) else none) else (if x1 = 0 then (if x1 = 0 ∨ x1 = 1 then (some ((x1, Mz))) else none) else (if isO Mz x0 10 = true then ((f_X7_skips B Mz x0 (100 : Int32)).bind fun r6 => if r6.1 = 0 then (if x1 = 0 ∨ x1 = 1 then (some ((x1, r6.2))) else none) else (if isO r6.2 x0 10 = true then ((f_X7_takesWord B r6.2 x0 (102 : Int32) (5 : Int32)).bind fun r10 => f_X7_takesBars_L4 B n x0 k r10.2 r10.1 (x2 + (1 : Int32))) else none)) else none))
def f_X7_takesBars (B : Nat) (n : Nat) (M : Mem) (this : Option Nat) : Option (Int32 × Mem) := f_X7_takesBars_L4 B n this n M (1 : Int32) (0 : Int32)
def rmX7_takesBars : Room := { frames := 3, cells := 0, slots := 0, locals := 64 }
set_option maxHeartbeats 4000000 in
set_option maxRecDepth 100000 in
theorem c_X7_takesBars {G : wG} {l : Launch} {n : Nat} {M : Mem} {sz : Nat} {this : Option Nat} {r : Int32 × Mem} (h : f_X7_takesBars G.2.2.1 n M this = some r) : CtrI G l yX7_takesBars wsX7_takesBars rmX7_takesBars [va_rf this] M sz r.1 r.2 sz := by
  refine m_startZ (own := RX7) (cc := cX7_takesBars) (maxL := 3) (lv0 := [(0, va_rf this)]) (by decide) rfl rfl (by simp [lg_sl, va_rf_cat, cat_i, cat_r]) (by simp [lv_args, va_rf_cat, cat_i, cat_r]) ?_
  intro p e s m args below meth c Q hC hname RET hsz hw ls hl
  have hx := hC.1
  have hb := hC.2.1
  have L4 : ∀ (x0 : Option Nat) (k : Nat) (Mz : Mem) (x1 : Int32) (x2 : Int32) (cells slots : Nat) (H : Heap) (locs : List Loc) (ls : Array Slot), f_X7_takesBars_L4 G.2.2.1 n x0 k Mz x1 x2 = some r → cells ≤ 0 → slots ≤ 0 → wD G s M Mz sz H locs → lv_has ls 3 [(0, va_rf x0), (1, .int x1), (2, .int x2)] → W p l e rmX7_takesBars s m args below meth c H locs cells slots Q (F0 m 4 ls []) := by
    intro x0 k
    induction k with
    | zero =>
      intro Mz x1 x2 cells slots H locs ls h
      exact absurd (show (none : Option (Int32 × Mem)) = some r from h) (fun z => by cases z)
    | succ k ih =>
      intro Mz x1 x2 cells slots H locs ls h hcl hsl hw hl
      rw [f_X7_takesBars_L4] at h
      refine lv_iload_n hx hb dX7_takesBars_4 rfl (lv_at hl 2 rfl) ?_
      refine lv_bipush (v := (120 : Int32)) hx hb dX7_takesBars_5 (by decide) ?_
      refine lv_icmp_ge (tgt := 37) hx hb dX7_takesBars_7 (by decide) (fun c1 => ?_) (fun c1 => ?_)
      · replace h := itt h c1
        refine lv_iload_n hx hb dX7_takesBars_37 rfl (lv_at hl 1 rfl) ?_
        obtain ⟨g2, h⟩ := itg h
        replace h := Option.some.inj h
        subst h
        exact RET (isZ.nar g2) hw ⟨(show cells + 0 ≤ 0 from by omega), (show slots + 0 ≤ 0 from by omega)⟩ dX7_takesBars_38
      · replace h := itf h c1
        refine lv_iload_n hx hb dX7_takesBars_10 rfl (lv_at hl 1 rfl) ?_
        refine lv_if_eq (tgt := 37) hx hb dX7_takesBars_11 (by decide) (fun c3 => ?_) (fun c3 => ?_)
        · replace h := itt h c3
          refine lv_iload_n hx hb dX7_takesBars_37 rfl (lv_at hl 1 rfl) ?_
          obtain ⟨g4, h⟩ := itg h
          replace h := Option.some.inj h
          subst h
          exact RET (isZ.nar g4) hw ⟨(show cells + 0 ≤ 0 from by omega), (show slots + 0 ≤ 0 from by omega)⟩ dX7_takesBars_38
        · replace h := itf h c3
          refine m_aload_n (x := x0) hx hb dX7_takesBars_14 rfl (lv_at hl 0 rfl) ?_
          refine lv_bipush (v := (100 : Int32)) hx hb dX7_takesBars_15 (by decide) ?_
          obtain ⟨g5, h⟩ := itg h
          obtain ⟨r6, hr6, h⟩ := ob h
          refine m_contI hC hw (m_runV hC hw (x := x0) (ci := 10) (N := 5) (C := RX7) (T := TX7) (n := 1) (av := [.int (100 : Int32)]) (rest := []) (c_X7_skips (G := G) (l := l) hr6) gX7_takesBars_X7_skips rfl (by decide +kernel) ⟨(Nat.le_of_ble_eq_true rfl), (Nat.le_of_ble_eq_true rfl)⟩ g5 rfl rfl hl.1 rfl (Nat.le_of_ble_eq_true rfl) dX7_takesBars_17 ⟨(show cells + 0 ≤ 0 from by omega), (show slots + 0 ≤ 0 from by omega)⟩) (fun H locs hw => ?_)
          refine lv_if_eq (tgt := 37) hx hb dX7_takesBars_20 (by decide) (fun c7 => ?_) (fun c7 => ?_)
          · replace h := itt h c7
            refine lv_iload_n hx hb dX7_takesBars_37 rfl (lv_at hl 1 rfl) ?_
            obtain ⟨g8, h⟩ := itg h
            replace h := Option.some.inj h
            subst h
            exact RET (isZ.nar g8) hw ⟨(show cells + 0 ≤ 0 from by omega), (show slots + 0 ≤ 0 from by omega)⟩ dX7_takesBars_38
          · replace h := itf h c7
            refine m_aload_n (x := x0) hx hb dX7_takesBars_23 rfl (lv_at hl 0 rfl) ?_
            refine lv_bipush (v := (102 : Int32)) hx hb dX7_takesBars_24 (by decide) ?_
            refine lv_iconst (v := (5 : Int32)) hx hb dX7_takesBars_26 (by decide) ?_
            obtain ⟨g9, h⟩ := itg h
            obtain ⟨r10, hr10, h⟩ := ob h
            refine m_contI hC hw (m_runV hC hw (x := x0) (ci := 10) (N := 5) (C := RX7) (T := TX7) (n := 2) (av := [.int (102 : Int32), .int (5 : Int32)]) (rest := []) (c_X7_takesWord (G := G) (l := l) hr10) gX7_takesBars_X7_takesWord rfl (by decide +kernel) ⟨(Nat.le_of_ble_eq_true rfl), (Nat.le_of_ble_eq_true rfl)⟩ g9 rfl rfl hl.1 rfl (Nat.le_of_ble_eq_true rfl) dX7_takesBars_27 ⟨(show cells + 0 ≤ 0 from by omega), (show slots + 0 ≤ 0 from by omega)⟩) (fun H locs hw => ?_)
            refine lv_istore_n (i := 1) (lv' := [(1, .int r10.1), (0, va_rf x0), (2, .int x2)]) hx hb dX7_takesBars_30 rfl hl (by decide) (by simp [va_rf_cat, cat_i, cat_l]) (fun ls hl => ?_)
            refine lv_iinc (v := (x2 + (1 : Int32))) (lv' := [(2, .int (x2 + (1 : Int32))), (1, .int r10.1), (0, va_rf x0)]) hx hb dX7_takesBars_31 hl (k := 2) rfl rfl (by decide) rfl (fun ls hl => ?_)
            refine lv_goto (tgt := 4) hx hb dX7_takesBars_34 (by decide) ?_
            exact ih _ _ _ _ _ _ _ _ h hcl hsl hw (lv_sub hl [2, 1, 0] rfl)
  unfold f_X7_takesBars at h
  refine lv_iconst (v := (1 : Int32)) hx hb dX7_takesBars_0 (by decide) ?_
  refine lv_istore_n (i := 1) (lv' := [(1, .int (1 : Int32)), (0, va_rf this)]) hx hb dX7_takesBars_1 rfl hl (by decide) (by simp [va_rf_cat, cat_i, cat_l]) (fun ls hl => ?_)
  refine lv_iconst (v := (0 : Int32)) hx hb dX7_takesBars_2 (by decide) ?_
  refine lv_istore_n (i := 2) (lv' := [(2, .int (0 : Int32)), (1, .int (1 : Int32)), (0, va_rf this)]) hx hb dX7_takesBars_3 rfl hl (by decide) rfl (fun ls hl => ?_)
  exact L4 this _ _ _ _ _ _ _ _ _ h (Nat.zero_le _) (Nat.zero_le _) hw (lv_sub hl [2, 1, 0] rfl)

def f_X7_isAtEnd (B : Nat) (M : Mem) (this : Option Nat) : Option (Int32 × Mem) := (gR M this 10 0).bind fun v1 => (gI M this 10 3).bind fun v2 => if isO M v1 9 = true then ((f_X6_codeAt M v1 v2).bind fun r4 => if r4 = (-1 : Int32) then (some ((1 : Int32), M)) else (if isO M this 10 = true then ((f_X7_isWrongHere B M this).bind fun r7 => if r7.1 = 0 then (some ((0 : Int32), r7.2)) else (some ((1 : Int32), r7.2))) else none)) else none
def rmX7_isAtEnd : Room := { frames := 2, cells := 0, slots := 0, locals := 41 }
theorem k_X7_isAtEnd_12 : Cond.fieldLink RX7 12 "LoanBook$Reader" "pieces" "LLoanBook$Pieces;" ∈ wsX7_isAtEnd := List.mem_of_getElem? (i := 1) rfl
theorem ki_X7_isAtEnd_X7 : ∀ w ∈ u_ws RX7 TX7 5, w ∈ wsX7_isAtEnd := sub_r [22, 23, 24, 25, 26] (by decide +kernel)
theorem k_X7_isAtEnd_28 : Cond.fieldLink RX7 28 "LoanBook$Reader" "at" "I" ∈ wsX7_isAtEnd := List.mem_of_getElem? (i := 2) rfl
set_option maxHeartbeats 4000000 in
set_option maxRecDepth 100000 in
theorem c_X7_isAtEnd {G : wG} {l : Launch} {M : Mem} {sz : Nat} {this : Option Nat} {r : Int32 × Mem} (h : f_X7_isAtEnd G.2.2.1 M this = some r) : CtrI G l yX7_isAtEnd wsX7_isAtEnd rmX7_isAtEnd [va_rf this] M sz r.1 r.2 sz := by
  refine m_startZ (own := RX7) (cc := cX7_isAtEnd) (maxL := 1) (lv0 := [(0, va_rf this)]) (by decide) rfl rfl (by simp [lg_sl, va_rf_cat, cat_i, cat_r]) (by simp [lv_args, va_rf_cat, cat_i, cat_r]) ?_
  intro p e s m args below meth c Q hC hname RET hsz hw ls hl
  have hx := hC.1
  have hb := hC.2.1
  unfold f_X7_isAtEnd at h
  refine m_aload_n (x := this) hx hb dX7_isAtEnd_0 rfl (lv_at hl 0 rfl) ?_
  obtain ⟨v1, hv1, h⟩ := ob h
  refine m_getR hC hw (C := RX7) (T := TX7) (N := 5) hv1 ki_X7_isAtEnd_X7 rfl (by decide) k_X7_isAtEnd_12 (fun _ z => z) dX7_isAtEnd_1 ?_
  refine m_aload_n (x := this) hx hb dX7_isAtEnd_4 rfl (lv_at hl 0 rfl) ?_
  obtain ⟨v2, hv2, h⟩ := ob h
  refine m_getI hC hw (C := RX7) (T := TX7) (N := 5) hv2 ki_X7_isAtEnd_X7 rfl (by decide) k_X7_isAtEnd_28 (fun _ z => z) dX7_isAtEnd_5 ?_
  obtain ⟨g3, h⟩ := itg h
  obtain ⟨r4, hr4, h⟩ := ob h
  refine m_contI hC hw (m_runV hC hw (x := v1) (ci := 9) (N := 5) (C := RX6) (T := TX6) (n := 1) (av := [.int v2]) (rest := []) (c_X6_codeAt (G := G) (l := l) hr4) gX7_isAtEnd_X6_codeAt rfl (by decide +kernel) ⟨(Nat.le_of_ble_eq_true rfl), (Nat.le_of_ble_eq_true rfl)⟩ g3 rfl rfl hl.1 rfl (Nat.le_of_ble_eq_true rfl) dX7_isAtEnd_8 ⟨(Nat.zero_le _), (Nat.zero_le _)⟩) (fun H locs hw => ?_)
  refine lv_iconst (v := (-1 : Int32)) hx hb dX7_isAtEnd_11 (by decide) ?_
  refine lv_icmp_eq (tgt := 22) hx hb dX7_isAtEnd_12 (by decide) (fun c5 => ?_) (fun c5 => ?_)
  · replace h := itt h c5
    refine lv_iconst (v := (1 : Int32)) hx hb dX7_isAtEnd_22 (by decide) ?_
    refine lv_goto (tgt := 27) hx hb dX7_isAtEnd_23 (by decide) ?_
    replace h := Option.some.inj h
    subst h
    exact RET (isZ.nar (Or.inr rfl)) hw ⟨(Nat.zero_le _), (Nat.zero_le _)⟩ dX7_isAtEnd_27
  · replace h := itf h c5
    refine m_aload_n (x := this) hx hb dX7_isAtEnd_15 rfl (lv_at hl 0 rfl) ?_
    obtain ⟨g6, h⟩ := itg h
    obtain ⟨r7, hr7, h⟩ := ob h
    refine m_contI hC hw (m_runV hC hw (x := this) (ci := 10) (N := 5) (C := RX7) (T := TX7) (n := 0) (av := []) (rest := []) (c_X7_isWrongHere (G := G) (l := l) hr7) gX7_isAtEnd_X7_isWrongHere rfl (by decide +kernel) ⟨(Nat.le_of_ble_eq_true rfl), (Nat.le_of_ble_eq_true rfl)⟩ g6 rfl rfl hl.1 rfl (Nat.le_of_ble_eq_true rfl) dX7_isAtEnd_16 ⟨(Nat.zero_le _), (Nat.zero_le _)⟩) (fun H locs hw => ?_)
    refine lv_if_eq (tgt := 26) hx hb dX7_isAtEnd_19 (by decide) (fun c8 => ?_) (fun c8 => ?_)
    · replace h := itt h c8
      refine lv_iconst (v := (0 : Int32)) hx hb dX7_isAtEnd_26 (by decide) ?_
      replace h := Option.some.inj h
      subst h
      exact RET (isZ.nar (Or.inl rfl)) hw ⟨(Nat.zero_le _), (Nat.zero_le _)⟩ dX7_isAtEnd_27
    · replace h := itf h c8
      refine lv_iconst (v := (1 : Int32)) hx hb dX7_isAtEnd_22 (by decide) ?_
      refine lv_goto (tgt := 27) hx hb dX7_isAtEnd_23 (by decide) ?_
      replace h := Option.some.inj h
      subst h
      exact RET (isZ.nar (Or.inr rfl)) hw ⟨(Nat.zero_le _), (Nat.zero_le _)⟩ dX7_isAtEnd_27

def f_X7_readsThing (B : Nat) (n : Nat) (M : Mem) (this : Option Nat) : Option (Int32 × Mem) := if isO M this 10 = true then ((f_X7_takesWord B M this (102 : Int32) (5 : Int32)).bind fun r2 => if r2.1 = 0 then (some ((0 : Int32), r2.2)) else (if isO r2.2 this 10 = true then ((f_X7_takesNumber B r2.2 this).bind fun r5 => if r5.1 = 0 then (some ((0 : Int32), r5.2)) else (if isO r5.2 this 10 = true then ((f_X7_takesNumber B r5.2 this).bind fun r8 => if r8.1 = 0 then (some ((0 : Int32), r8.2)) else (if isO r8.2 this 10 = true then ((f_X7_takesBars B n r8.2 this).bind fun r11 => if r11.1 = 0 then (some ((0 : Int32), r11.2)) else (if isO r11.2 this 10 = true then ((f_X7_isAtEnd B r11.2 this).bind fun r14 => if r14.1 = 0 then (some ((0 : Int32), r14.2)) else (some ((1 : Int32), r14.2))) else none)) else none)) else none)) else none)) else none
def rmX7_readsThing : Room := { frames := 4, cells := 0, slots := 0, locals := 86 }
set_option maxHeartbeats 4000000 in
set_option maxRecDepth 100000 in
theorem c_X7_readsThing {G : wG} {l : Launch} {n : Nat} {M : Mem} {sz : Nat} {this : Option Nat} {r : Int32 × Mem} (h : f_X7_readsThing G.2.2.1 n M this = some r) : CtrI G l yX7_readsThing wsX7_readsThing rmX7_readsThing [va_rf this] M sz r.1 r.2 sz := by
  refine m_startZ (own := RX7) (cc := cX7_readsThing) (maxL := 1) (lv0 := [(0, va_rf this)]) (by decide) rfl rfl (by simp [lg_sl, va_rf_cat, cat_i, cat_r]) (by simp [lv_args, va_rf_cat, cat_i, cat_r]) ?_
  intro p e s m args below meth c Q hC hname RET hsz hw ls hl
  have hx := hC.1
  have hb := hC.2.1
  unfold f_X7_readsThing at h
  refine m_aload_n (x := this) hx hb dX7_readsThing_0 rfl (lv_at hl 0 rfl) ?_
  refine lv_bipush (v := (102 : Int32)) hx hb dX7_readsThing_1 (by decide) ?_
  refine lv_iconst (v := (5 : Int32)) hx hb dX7_readsThing_3 (by decide) ?_
  obtain ⟨g1, h⟩ := itg h
  obtain ⟨r2, hr2, h⟩ := ob h
  refine m_contI hC hw (m_runV hC hw (x := this) (ci := 10) (N := 5) (C := RX7) (T := TX7) (n := 2) (av := [.int (102 : Int32), .int (5 : Int32)]) (rest := []) (c_X7_takesWord (G := G) (l := l) hr2) gX7_readsThing_X7_takesWord rfl (by decide +kernel) ⟨(Nat.le_of_ble_eq_true rfl), (Nat.le_of_ble_eq_true rfl)⟩ g1 rfl rfl hl.1 rfl (Nat.le_of_ble_eq_true rfl) dX7_readsThing_4 ⟨(Nat.zero_le _), (Nat.zero_le _)⟩) (fun H locs hw => ?_)
  refine lv_if_eq (tgt := 42) hx hb dX7_readsThing_7 (by decide) (fun c3 => ?_) (fun c3 => ?_)
  · replace h := itt h c3
    refine lv_iconst (v := (0 : Int32)) hx hb dX7_readsThing_42 (by decide) ?_
    replace h := Option.some.inj h
    subst h
    exact RET (isZ.nar (Or.inl rfl)) hw ⟨(Nat.zero_le _), (Nat.zero_le _)⟩ dX7_readsThing_43
  · replace h := itf h c3
    refine m_aload_n (x := this) hx hb dX7_readsThing_10 rfl (lv_at hl 0 rfl) ?_
    obtain ⟨g4, h⟩ := itg h
    obtain ⟨r5, hr5, h⟩ := ob h
    refine m_contI hC hw (m_runV hC hw (x := this) (ci := 10) (N := 5) (C := RX7) (T := TX7) (n := 0) (av := []) (rest := []) (c_X7_takesNumber (G := G) (l := l) hr5) gX7_readsThing_X7_takesNumber rfl (by decide +kernel) ⟨(Nat.le_of_ble_eq_true rfl), (Nat.le_of_ble_eq_true rfl)⟩ g4 rfl rfl hl.1 rfl (Nat.le_of_ble_eq_true rfl) dX7_readsThing_11 ⟨(Nat.zero_le _), (Nat.zero_le _)⟩) (fun H locs hw => ?_)
    refine lv_if_eq (tgt := 42) hx hb dX7_readsThing_14 (by decide) (fun c6 => ?_) (fun c6 => ?_)
    · replace h := itt h c6
      refine lv_iconst (v := (0 : Int32)) hx hb dX7_readsThing_42 (by decide) ?_
      replace h := Option.some.inj h
      subst h
      exact RET (isZ.nar (Or.inl rfl)) hw ⟨(Nat.zero_le _), (Nat.zero_le _)⟩ dX7_readsThing_43
    · replace h := itf h c6
      refine m_aload_n (x := this) hx hb dX7_readsThing_17 rfl (lv_at hl 0 rfl) ?_
      obtain ⟨g7, h⟩ := itg h
      obtain ⟨r8, hr8, h⟩ := ob h
      refine m_contI hC hw (m_runV hC hw (x := this) (ci := 10) (N := 5) (C := RX7) (T := TX7) (n := 0) (av := []) (rest := []) (c_X7_takesNumber (G := G) (l := l) hr8) gX7_readsThing_X7_takesNumber rfl (by decide +kernel) ⟨(Nat.le_of_ble_eq_true rfl), (Nat.le_of_ble_eq_true rfl)⟩ g7 rfl rfl hl.1 rfl (Nat.le_of_ble_eq_true rfl) dX7_readsThing_18 ⟨(Nat.zero_le _), (Nat.zero_le _)⟩) (fun H locs hw => ?_)
      refine lv_if_eq (tgt := 42) hx hb dX7_readsThing_21 (by decide) (fun c9 => ?_) (fun c9 => ?_)
      · replace h := itt h c9
        refine lv_iconst (v := (0 : Int32)) hx hb dX7_readsThing_42 (by decide) ?_
        replace h := Option.some.inj h
        subst h
        exact RET (isZ.nar (Or.inl rfl)) hw ⟨(Nat.zero_le _), (Nat.zero_le _)⟩ dX7_readsThing_43
      · replace h := itf h c9
        refine m_aload_n (x := this) hx hb dX7_readsThing_24 rfl (lv_at hl 0 rfl) ?_
        obtain ⟨g10, h⟩ := itg h
        obtain ⟨r11, hr11, h⟩ := ob h
        refine m_contI hC hw (m_runV hC hw (x := this) (ci := 10) (N := 5) (C := RX7) (T := TX7) (n := 0) (av := []) (rest := []) (c_X7_takesBars (G := G) (l := l) hr11) gX7_readsThing_X7_takesBars rfl (by decide +kernel) ⟨(Nat.le_of_ble_eq_true rfl), (Nat.le_of_ble_eq_true rfl)⟩ g10 rfl rfl hl.1 rfl (Nat.le_of_ble_eq_true rfl) dX7_readsThing_25 ⟨(Nat.zero_le _), (Nat.zero_le _)⟩) (fun H locs hw => ?_)
        refine lv_if_eq (tgt := 42) hx hb dX7_readsThing_28 (by decide) (fun c12 => ?_) (fun c12 => ?_)
        · replace h := itt h c12
          refine lv_iconst (v := (0 : Int32)) hx hb dX7_readsThing_42 (by decide) ?_
          replace h := Option.some.inj h
          subst h
          exact RET (isZ.nar (Or.inl rfl)) hw ⟨(Nat.zero_le _), (Nat.zero_le _)⟩ dX7_readsThing_43
        · replace h := itf h c12
          refine m_aload_n (x := this) hx hb dX7_readsThing_31 rfl (lv_at hl 0 rfl) ?_
          obtain ⟨g13, h⟩ := itg h
          obtain ⟨r14, hr14, h⟩ := ob h
          refine m_contI hC hw (m_runV hC hw (x := this) (ci := 10) (N := 5) (C := RX7) (T := TX7) (n := 0) (av := []) (rest := []) (c_X7_isAtEnd (G := G) (l := l) hr14) gX7_readsThing_X7_isAtEnd rfl (by decide +kernel) ⟨(Nat.le_of_ble_eq_true rfl), (Nat.le_of_ble_eq_true rfl)⟩ g13 rfl rfl hl.1 rfl (Nat.le_of_ble_eq_true rfl) dX7_readsThing_32 ⟨(Nat.zero_le _), (Nat.zero_le _)⟩) (fun H locs hw => ?_)
          refine lv_if_eq (tgt := 42) hx hb dX7_readsThing_35 (by decide) (fun c15 => ?_) (fun c15 => ?_)
          · replace h := itt h c15
            refine lv_iconst (v := (0 : Int32)) hx hb dX7_readsThing_42 (by decide) ?_
            replace h := Option.some.inj h
            subst h
            exact RET (isZ.nar (Or.inl rfl)) hw ⟨(Nat.zero_le _), (Nat.zero_le _)⟩ dX7_readsThing_43
          · replace h := itf h c15
            refine lv_iconst (v := (1 : Int32)) hx hb dX7_readsThing_38 (by decide) ?_
            refine lv_goto (tgt := 43) hx hb dX7_readsThing_39 (by decide) ?_
            replace h := Option.some.inj h
            subst h
            exact RET (isZ.nar (Or.inr rfl)) hw ⟨(Nat.zero_le _), (Nat.zero_le _)⟩ dX7_readsThing_43

def f_X7_told (M : Mem) (this : Option Nat) (a1 : Int32) : Option (Int32) := if a1 < 0 then (some (0 : Int32)) else ((gI M this 10 2).bind fun v2 => if v2 ≤ a1 then (some (0 : Int32)) else ((gR M this 10 1).bind fun v4 => (aI M 0 v4 a1).bind fun v5 => some (v5)))
def rmX7_told : Room := { frames := 0, cells := 0, slots := 0, locals := 0 }
theorem k_X7_told_24 : Cond.fieldLink RX7 24 "LoanBook$Reader" "size" "I" ∈ wsX7_told := List.mem_of_getElem? (i := 1) rfl
theorem ki_X7_told_X7 : ∀ w ∈ u_ws RX7 TX7 5, w ∈ wsX7_told := sub_r [3, 4, 5, 6, 7] (by decide +kernel)
theorem k_X7_told_20 : Cond.fieldLink RX7 20 "LoanBook$Reader" "row" "[I" ∈ wsX7_told := List.mem_of_getElem? (i := 2) rfl
set_option maxHeartbeats 4000000 in
set_option maxRecDepth 100000 in
theorem c_X7_told {G : wG} {l : Launch} {M : Mem} {sz : Nat} {this : Option Nat} {a1 : Int32} {r : Int32} (h : f_X7_told M this a1 = some r) : CtrI G l yX7_told wsX7_told rmX7_told [va_rf this, .int a1] M sz r M sz := by
  refine m_startI (own := RX7) (cc := cX7_told) (maxL := 2) (lv0 := [(0, va_rf this), (1, .int a1)]) (by decide) rfl rfl (by simp [lg_sl, va_rf_cat, cat_i, cat_r]) (by simp [lv_args, va_rf_cat, cat_i, cat_r]) ?_
  intro p e s m args below meth c Q hC hname RET hsz hw ls hl
  have hx := hC.1
  have hb := hC.2.1
  unfold f_X7_told at h
  refine lv_iload_n hx hb dX7_told_0 rfl (lv_at hl 1 rfl) ?_
  refine lv_if_lt (tgt := 21) hx hb dX7_told_1 (by decide) (fun c1 => ?_) (fun c1 => ?_)
  · replace h := itt h c1
    refine lv_iconst (v := (0 : Int32)) hx hb dX7_told_21 (by decide) ?_
    replace h := Option.some.inj h
    subst h
    exact RET hw ⟨(Nat.zero_le _), (Nat.zero_le _)⟩ dX7_told_22
  · replace h := itf h c1
    refine lv_iload_n hx hb dX7_told_4 rfl (lv_at hl 1 rfl) ?_
    refine m_aload_n (x := this) hx hb dX7_told_5 rfl (lv_at hl 0 rfl) ?_
    obtain ⟨v2, hv2, h⟩ := ob h
    refine m_getI hC hw (C := RX7) (T := TX7) (N := 5) hv2 ki_X7_told_X7 rfl (by decide) k_X7_told_24 (fun _ z => z) dX7_told_6 ?_
    refine lv_icmp_ge (tgt := 21) hx hb dX7_told_9 (by decide) (fun c3 => ?_) (fun c3 => ?_)
    · replace h := itt h c3
      refine lv_iconst (v := (0 : Int32)) hx hb dX7_told_21 (by decide) ?_
      replace h := Option.some.inj h
      subst h
      exact RET hw ⟨(Nat.zero_le _), (Nat.zero_le _)⟩ dX7_told_22
    · replace h := itf h c3
      refine m_aload_n (x := this) hx hb dX7_told_12 rfl (lv_at hl 0 rfl) ?_
      obtain ⟨v4, hv4, h⟩ := ob h
      refine m_getR hC hw (C := RX7) (T := TX7) (N := 5) hv4 ki_X7_told_X7 rfl (by decide) k_X7_told_20 (fun _ z => z) dX7_told_13 ?_
      refine lv_iload_n hx hb dX7_told_16 rfl (lv_at hl 1 rfl) ?_
      obtain ⟨v5, hv5, h⟩ := ob h
      refine m_iald (x := v4) hC hw hv5 dX7_told_17 ?_
      refine lv_goto (tgt := 22) hx hb dX7_told_18 (by decide) ?_
      replace h := Option.some.inj h
      subst h
      exact RET hw ⟨(Nat.zero_le _), (Nat.zero_le _)⟩ dX7_told_22

def f_X7_size (M : Mem) (this : Option Nat) : Option (Int32) := (gI M this 10 2).bind fun v1 => some (v1)
def rmX7_size : Room := { frames := 0, cells := 0, slots := 0, locals := 0 }
theorem k_X7_size_24 : Cond.fieldLink RX7 24 "LoanBook$Reader" "size" "I" ∈ wsX7_size := List.mem_of_getElem? (i := 1) rfl
theorem ki_X7_size_X7 : ∀ w ∈ u_ws RX7 TX7 5, w ∈ wsX7_size := sub_r [2, 3, 4, 5, 6] (by decide +kernel)
set_option maxHeartbeats 4000000 in
set_option maxRecDepth 100000 in
theorem c_X7_size {G : wG} {l : Launch} {M : Mem} {sz : Nat} {this : Option Nat} {r : Int32} (h : f_X7_size M this = some r) : CtrI G l yX7_size wsX7_size rmX7_size [va_rf this] M sz r M sz := by
  refine m_startI (own := RX7) (cc := cX7_size) (maxL := 1) (lv0 := [(0, va_rf this)]) (by decide) rfl rfl (by simp [lg_sl, va_rf_cat, cat_i, cat_r]) (by simp [lv_args, va_rf_cat, cat_i, cat_r]) ?_
  intro p e s m args below meth c Q hC hname RET hsz hw ls hl
  have hx := hC.1
  have hb := hC.2.1
  unfold f_X7_size at h
  refine m_aload_n (x := this) hx hb dX7_size_0 rfl (lv_at hl 0 rfl) ?_
  obtain ⟨v1, hv1, h⟩ := ob h
  refine m_getI hC hw (C := RX7) (T := TX7) (N := 5) hv1 ki_X7_size_X7 rfl (by decide) k_X7_size_24 (fun _ z => z) dX7_size_1 ?_
  replace h := Option.some.inj h
  subst h
  exact RET hw ⟨(Nat.zero_le _), (Nat.zero_le _)⟩ dX7_size_4

def f_X10_holdsBit (M : Mem) (a1 : Int32) (a2 : Int32) : Option (Int32) := if ((a1 >>> (a2 &&& 31)) &&& (1 : Int32)) = (1 : Int32) then (some (1 : Int32)) else (some (0 : Int32))
def rmX10_holdsBit : Room := { frames := 0, cells := 0, slots := 0, locals := 0 }
set_option maxHeartbeats 4000000 in
set_option maxRecDepth 100000 in
theorem c_X10_holdsBit {G : wG} {l : Launch} {M : Mem} {sz : Nat} {a1 : Int32} {a2 : Int32} {r : Int32} (h : f_X10_holdsBit M a1 a2 = some r) : CtrI G l yX10_holdsBit wsX10_holdsBit rmX10_holdsBit [.int a1, .int a2] M sz r M sz := by
  refine m_startZ (own := RX10) (cc := cX10_holdsBit) (maxL := 2) (lv0 := [(0, .int a1), (1, .int a2)]) (by decide) rfl rfl (by simp [lg_sl, va_rf_cat, cat_i, cat_r]) (by simp [lv_args, va_rf_cat, cat_i, cat_r]) ?_
  intro p e s m args below meth c Q hC hname RET hsz hw ls hl
  have hx := hC.1
  have hb := hC.2.1
  unfold f_X10_holdsBit at h
  refine lv_iload_n hx hb dX10_holdsBit_0 rfl (lv_at hl 0 rfl) ?_
  refine lv_iload_n hx hb dX10_holdsBit_1 rfl (lv_at hl 1 rfl) ?_
  refine lv_ishr hx hb dX10_holdsBit_2 ?_
  refine lv_iconst (v := (1 : Int32)) hx hb dX10_holdsBit_3 (by decide) ?_
  refine lv_iand hx hb dX10_holdsBit_4 ?_
  refine lv_iconst (v := (1 : Int32)) hx hb dX10_holdsBit_5 (by decide) ?_
  refine lv_icmp_ne (tgt := 13) hx hb dX10_holdsBit_6 (by decide) (fun c1 => ?_) (fun c1 => ?_)
  · replace h := itf h c1
    refine lv_iconst (v := (0 : Int32)) hx hb dX10_holdsBit_13 (by decide) ?_
    replace h := Option.some.inj h
    subst h
    exact RET (isZ.nar (Or.inl rfl)) hw ⟨(Nat.zero_le _), (Nat.zero_le _)⟩ dX10_holdsBit_14
  · replace h := itt h c1
    refine lv_iconst (v := (1 : Int32)) hx hb dX10_holdsBit_9 (by decide) ?_
    refine lv_goto (tgt := 14) hx hb dX10_holdsBit_10 (by decide) ?_
    replace h := Option.some.inj h
    subst h
    exact RET (isZ.nar (Or.inr rfl)) hw ⟨(Nat.zero_le _), (Nat.zero_le _)⟩ dX10_holdsBit_14

def f_X10_faultIn_L35 (n : Nat) (M : Mem) (x0 : Option Nat) : Nat → Int32 → Int32 → Option (Int32)
  | 0, _, _ => none
  | k + 1, x1, x2 => if isO M x0 10 = true then ((f_X7_size M x0).bind fun r11 => if r11 ≤ x2 then (some ((0 : Int32))) else (if isO M x0 10 = true then ((f_X7_told M x0 x2).bind fun r14 => (f_X10_holdsBit M x1 r14).bind fun r15 => if r15 = 0 then (if isO M x0 10 = true then ((f_X7_told M x0 x2).bind fun r18 => f_X10_faultIn_L35 n M x0 k (x1 ||| ((1 : Int32) <<< (r18 &&& 31))) (x2 + (1 : Int32))) else none) else (some ((2 : Int32)))) else none)) else none
def f_X10_faultIn (n : Nat) (M : Mem) (a1 : Option Nat) : Option (Int32) := if isO M a1 10 = true then ((f_X7_told M a1 (1 : Int32)).bind fun r2 => if r2 < (1 : Int32) then (some (1 : Int32)) else (if isO M a1 10 = true then ((f_X7_told M a1 (2 : Int32)).bind fun r5 => if r5 < (1 : Int32) then (some (1 : Int32)) else (if isO M a1 10 = true then ((f_X7_told M a1 (2 : Int32)).bind fun r8 => if r8 ≤ (999 : Int32) then (f_X10_faultIn_L35 n M a1 n (0 : Int32) (3 : Int32)) else (some (1 : Int32))) else none)) else none)) else none
def rmX10_faultIn : Room := { frames := 1, cells := 0, slots := 0, locals := 21 }
set_option maxHeartbeats 4000000 in
set_option maxRecDepth 100000 in
theorem c_X10_faultIn {G : wG} {l : Launch} {n : Nat} {M : Mem} {sz : Nat} {a1 : Option Nat} {r : Int32} (h : f_X10_faultIn n M a1 = some r) : CtrI G l yX10_faultIn wsX10_faultIn rmX10_faultIn [va_rf a1] M sz r M sz := by
  refine m_startI (own := RX10) (cc := cX10_faultIn) (maxL := 3) (lv0 := [(0, va_rf a1)]) (by decide) rfl rfl (by simp [lg_sl, va_rf_cat, cat_i, cat_r]) (by simp [lv_args, va_rf_cat, cat_i, cat_r]) ?_
  intro p e s m args below meth c Q hC hname RET hsz hw ls hl
  have hx := hC.1
  have hb := hC.2.1
  have L35 : ∀ (x0 : Option Nat) (k : Nat) (x1 : Int32) (x2 : Int32) (cells slots : Nat) (H : Heap) (locs : List Loc) (ls : Array Slot), f_X10_faultIn_L35 n M x0 k x1 x2 = some r → cells ≤ 0 → slots ≤ 0 → wD G s M M sz H locs → lv_has ls 3 [(0, va_rf x0), (1, .int x1), (2, .int x2)] → W p l e rmX10_faultIn s m args below meth c H locs cells slots Q (F0 m 35 ls []) := by
    intro x0 k
    induction k with
    | zero =>
      intro x1 x2 cells slots H locs ls h
      exact absurd (show (none : Option (Int32)) = some r from h) (fun z => by cases z)
    | succ k ih =>
      intro x1 x2 cells slots H locs ls h hcl hsl hw hl
      rw [f_X10_faultIn_L35] at h
      refine lv_iload_n hx hb dX10_faultIn_35 rfl (lv_at hl 2 rfl) ?_
      refine m_aload_n (x := x0) hx hb dX10_faultIn_36 rfl (lv_at hl 0 rfl) ?_
      obtain ⟨g10, h⟩ := itg h
      obtain ⟨r11, hr11, h⟩ := ob h
      refine m_contI hC hw (m_runV hC hw (x := x0) (ci := 10) (N := 5) (C := RX7) (T := TX7) (n := 0) (av := []) (rest := [.int x2]) (c_X7_size (G := G) (l := l) hr11) gX10_faultIn_X7_size rfl (by decide +kernel) ⟨(Nat.le_of_ble_eq_true rfl), (Nat.le_of_ble_eq_true rfl)⟩ g10 rfl rfl hl.1 rfl (Nat.le_of_ble_eq_true rfl) dX10_faultIn_37 ⟨(show cells + 0 ≤ 0 from by omega), (show slots + 0 ≤ 0 from by omega)⟩) (fun H locs hw => ?_)
      refine lv_icmp_ge (tgt := 73) hx hb dX10_faultIn_40 (by decide) (fun c12 => ?_) (fun c12 => ?_)
      · replace h := itt h c12
        refine lv_iconst (v := (0 : Int32)) hx hb dX10_faultIn_73 (by decide) ?_
        replace h := Option.some.inj h
        subst h
        exact RET hw ⟨(show cells + 0 ≤ 0 from by omega), (show slots + 0 ≤ 0 from by omega)⟩ dX10_faultIn_74
      · replace h := itf h c12
        refine lv_iload_n hx hb dX10_faultIn_43 rfl (lv_at hl 1 rfl) ?_
        refine m_aload_n (x := x0) hx hb dX10_faultIn_44 rfl (lv_at hl 0 rfl) ?_
        refine lv_iload_n hx hb dX10_faultIn_45 rfl (lv_at hl 2 rfl) ?_
        obtain ⟨g13, h⟩ := itg h
        obtain ⟨r14, hr14, h⟩ := ob h
        refine m_contI hC hw (m_runV hC hw (x := x0) (ci := 10) (N := 5) (C := RX7) (T := TX7) (n := 1) (av := [.int x2]) (rest := [.int x1]) (c_X7_told (G := G) (l := l) hr14) gX10_faultIn_X7_told rfl (by decide +kernel) ⟨(Nat.le_of_ble_eq_true rfl), (Nat.le_of_ble_eq_true rfl)⟩ g13 rfl rfl hl.1 rfl (Nat.le_of_ble_eq_true rfl) dX10_faultIn_46 ⟨(show cells + 0 ≤ 0 from by omega), (show slots + 0 ≤ 0 from by omega)⟩) (fun H locs hw => ?_)
        obtain ⟨r15, hr15, h⟩ := ob h
        refine m_contI hC hw (m_runS hC hw (n := 2) (av := [.int x1, .int r14]) (rest := []) (c_X10_holdsBit (G := G) (l := l) hr15) gX10_faultIn_X10_holdsBit rfl (by decide +kernel) ⟨(Nat.le_of_ble_eq_true rfl), (Nat.le_of_ble_eq_true rfl)⟩ rfl hl.1 rfl (Nat.le_of_ble_eq_true rfl) dX10_faultIn_49 ⟨(show cells + 0 ≤ 0 from by omega), (show slots + 0 ≤ 0 from by omega)⟩) (fun H locs hw => ?_)
        refine lv_if_eq (tgt := 57) hx hb dX10_faultIn_52 (by decide) (fun c16 => ?_) (fun c16 => ?_)
        · replace h := itt h c16
          refine lv_iload_n hx hb dX10_faultIn_57 rfl (lv_at hl 1 rfl) ?_
          refine lv_iconst (v := (1 : Int32)) hx hb dX10_faultIn_58 (by decide) ?_
          refine m_aload_n (x := x0) hx hb dX10_faultIn_59 rfl (lv_at hl 0 rfl) ?_
          refine lv_iload_n hx hb dX10_faultIn_60 rfl (lv_at hl 2 rfl) ?_
          obtain ⟨g17, h⟩ := itg h
          obtain ⟨r18, hr18, h⟩ := ob h
          refine m_contI hC hw (m_runV hC hw (x := x0) (ci := 10) (N := 5) (C := RX7) (T := TX7) (n := 1) (av := [.int x2]) (rest := [.int (1 : Int32), .int x1]) (c_X7_told (G := G) (l := l) hr18) gX10_faultIn_X7_told rfl (by decide +kernel) ⟨(Nat.le_of_ble_eq_true rfl), (Nat.le_of_ble_eq_true rfl)⟩ g17 rfl rfl hl.1 rfl (Nat.le_of_ble_eq_true rfl) dX10_faultIn_61 ⟨(show cells + 0 ≤ 0 from by omega), (show slots + 0 ≤ 0 from by omega)⟩) (fun H locs hw => ?_)
          refine lv_ishl hx hb dX10_faultIn_64 ?_
          refine lv_ior hx hb dX10_faultIn_65 ?_
          refine lv_istore_n (i := 1) (lv' := [(1, .int (x1 ||| ((1 : Int32) <<< (r18 &&& 31)))), (0, va_rf x0), (2, .int x2)]) hx hb dX10_faultIn_66 rfl hl (by decide) (by simp [va_rf_cat, cat_i, cat_l]) (fun ls hl => ?_)
          refine lv_iinc (v := (x2 + (1 : Int32))) (lv' := [(2, .int (x2 + (1 : Int32))), (1, .int (x1 ||| ((1 : Int32) <<< (r18 &&& 31)))), (0, va_rf x0)]) hx hb dX10_faultIn_67 hl (k := 2) rfl rfl (by decide) rfl (fun ls hl => ?_)
          refine lv_goto (tgt := 35) hx hb dX10_faultIn_70 (by decide) ?_
          exact ih _ _ _ _ _ _ _ h hcl hsl hw (lv_sub hl [2, 1, 0] rfl)
        · replace h := itf h c16
          refine lv_iconst (v := (2 : Int32)) hx hb dX10_faultIn_55 (by decide) ?_
          replace h := Option.some.inj h
          subst h
          exact RET hw ⟨(show cells + 0 ≤ 0 from by omega), (show slots + 0 ≤ 0 from by omega)⟩ dX10_faultIn_56
  unfold f_X10_faultIn at h
  refine m_aload_n (x := a1) hx hb dX10_faultIn_0 rfl (lv_at hl 0 rfl) ?_
  refine lv_iconst (v := (1 : Int32)) hx hb dX10_faultIn_1 (by decide) ?_
  obtain ⟨g1, h⟩ := itg h
  obtain ⟨r2, hr2, h⟩ := ob h
  refine m_contI hC hw (m_runV hC hw (x := a1) (ci := 10) (N := 5) (C := RX7) (T := TX7) (n := 1) (av := [.int (1 : Int32)]) (rest := []) (c_X7_told (G := G) (l := l) hr2) gX10_faultIn_X7_told rfl (by decide +kernel) ⟨(Nat.le_of_ble_eq_true rfl), (Nat.le_of_ble_eq_true rfl)⟩ g1 rfl rfl hl.1 rfl (Nat.le_of_ble_eq_true rfl) dX10_faultIn_2 ⟨(Nat.zero_le _), (Nat.zero_le _)⟩) (fun H locs hw => ?_)
  refine lv_iconst (v := (1 : Int32)) hx hb dX10_faultIn_5 (by decide) ?_
  refine lv_icmp_lt (tgt := 29) hx hb dX10_faultIn_6 (by decide) (fun c3 => ?_) (fun c3 => ?_)
  · replace h := itt h c3
    refine lv_iconst (v := (1 : Int32)) hx hb dX10_faultIn_29 (by decide) ?_
    replace h := Option.some.inj h
    subst h
    exact RET hw ⟨(Nat.zero_le _), (Nat.zero_le _)⟩ dX10_faultIn_30
  · replace h := itf h c3
    refine m_aload_n (x := a1) hx hb dX10_faultIn_9 rfl (lv_at hl 0 rfl) ?_
    refine lv_iconst (v := (2 : Int32)) hx hb dX10_faultIn_10 (by decide) ?_
    obtain ⟨g4, h⟩ := itg h
    obtain ⟨r5, hr5, h⟩ := ob h
    refine m_contI hC hw (m_runV hC hw (x := a1) (ci := 10) (N := 5) (C := RX7) (T := TX7) (n := 1) (av := [.int (2 : Int32)]) (rest := []) (c_X7_told (G := G) (l := l) hr5) gX10_faultIn_X7_told rfl (by decide +kernel) ⟨(Nat.le_of_ble_eq_true rfl), (Nat.le_of_ble_eq_true rfl)⟩ g4 rfl rfl hl.1 rfl (Nat.le_of_ble_eq_true rfl) dX10_faultIn_11 ⟨(Nat.zero_le _), (Nat.zero_le _)⟩) (fun H locs hw => ?_)
    refine lv_iconst (v := (1 : Int32)) hx hb dX10_faultIn_14 (by decide) ?_
    refine lv_icmp_lt (tgt := 29) hx hb dX10_faultIn_15 (by decide) (fun c6 => ?_) (fun c6 => ?_)
    · replace h := itt h c6
      refine lv_iconst (v := (1 : Int32)) hx hb dX10_faultIn_29 (by decide) ?_
      replace h := Option.some.inj h
      subst h
      exact RET hw ⟨(Nat.zero_le _), (Nat.zero_le _)⟩ dX10_faultIn_30
    · replace h := itf h c6
      refine m_aload_n (x := a1) hx hb dX10_faultIn_18 rfl (lv_at hl 0 rfl) ?_
      refine lv_iconst (v := (2 : Int32)) hx hb dX10_faultIn_19 (by decide) ?_
      obtain ⟨g7, h⟩ := itg h
      obtain ⟨r8, hr8, h⟩ := ob h
      refine m_contI hC hw (m_runV hC hw (x := a1) (ci := 10) (N := 5) (C := RX7) (T := TX7) (n := 1) (av := [.int (2 : Int32)]) (rest := []) (c_X7_told (G := G) (l := l) hr8) gX10_faultIn_X7_told rfl (by decide +kernel) ⟨(Nat.le_of_ble_eq_true rfl), (Nat.le_of_ble_eq_true rfl)⟩ g7 rfl rfl hl.1 rfl (Nat.le_of_ble_eq_true rfl) dX10_faultIn_20 ⟨(Nat.zero_le _), (Nat.zero_le _)⟩) (fun H locs hw => ?_)
      refine lv_sipush (v := (999 : Int32)) hx hb dX10_faultIn_23 (by decide) ?_
      refine lv_icmp_le (tgt := 31) hx hb dX10_faultIn_26 (by decide) (fun c9 => ?_) (fun c9 => ?_)
      · replace h := itt h c9
        refine lv_iconst (v := (0 : Int32)) hx hb dX10_faultIn_31 (by decide) ?_
        refine lv_istore_n (i := 1) (lv' := [(1, .int (0 : Int32)), (0, va_rf a1)]) hx hb dX10_faultIn_32 rfl hl (by decide) (by simp [va_rf_cat, cat_i, cat_l]) (fun ls hl => ?_)
        refine lv_iconst (v := (3 : Int32)) hx hb dX10_faultIn_33 (by decide) ?_
        refine lv_istore_n (i := 2) (lv' := [(2, .int (3 : Int32)), (1, .int (0 : Int32)), (0, va_rf a1)]) hx hb dX10_faultIn_34 rfl hl (by decide) rfl (fun ls hl => ?_)
        exact L35 a1 _ _ _ _ _ _ _ _ h (Nat.zero_le _) (Nat.zero_le _) hw (lv_sub hl [2, 1, 0] rfl)
      · replace h := itf h c9
        refine lv_iconst (v := (1 : Int32)) hx hb dX10_faultIn_29 (by decide) ?_
        replace h := Option.some.inj h
        subst h
        exact RET hw ⟨(Nat.zero_le _), (Nat.zero_le _)⟩ dX10_faultIn_30

def f_X1_init (B : Nat) (n : Nat) (M : Mem) (sz : Nat) (this : Option Nat) (a1 : Int32) : Option (Mem × Nat) := if this ≠ none then (if ¬ (1000 : Int32) < 0 ∧ ((1000 : Int32) : Int32).toNatClampNeg ≤ 1000 then ((some (va_up M sz (some (.inr (.inl (0, ((1000 : Int32) : Int32).toNatClampNeg, fun _ => 0)))))).bind fun M2 => (pF B M2 this 4 0 (va_rf (some sz))).bind fun M4 => (pF B M4 this 4 1 (.int (0 : Int32))).bind fun M5 => (gR M5 this 4 0).bind fun v6 => if a1 = 0 then ((f_J7_fill_53178 B n M5 v6 (-2 : Int32)).bind fun r8 => some (r8, (sz + 1))) else ((f_J7_fill_53178 B n M5 v6 (-1 : Int32)).bind fun r9 => some (r9, (sz + 1)))) else none) else none
def rmX1_init : Room := { frames := 1, cells := 1, slots := 1000, locals := 23 }
theorem k_X1_init_oi3 : Cond.methodLink RX1 3 objectInit ∈ wsX1_init := List.mem_of_getElem? (i := 1) rfl
theorem k_X1_init_oj : Cond.instanceMethod objectInit ∈ wsX1_init := List.mem_of_getElem? (i := 2) rfl
theorem k_X1_init_ok : Cond.code objectInit ⟨#[0xb1]⟩ 1 none ∈ wsX1_init := List.mem_of_getElem? (i := 3) rfl
theorem k_X1_init_naint : Cond.arrayClass .int ∈ wsX1_init := List.mem_of_getElem? (i := 4) rfl
theorem k_X1_init_9 : Cond.fieldLink RX1 9 "LoanBook$Calendar" "days" "[I" ∈ wsX1_init := List.mem_of_getElem? (i := 5) rfl
theorem ki_X1_init_X1 : ∀ w ∈ u_ws RX1 TX1 2, w ∈ wsX1_init := sub_r [11, 12] (by decide +kernel)
theorem k_X1_init_15 : Cond.fieldLink RX1 15 "LoanBook$Calendar" "taken" "I" ∈ wsX1_init := List.mem_of_getElem? (i := 6) rfl
set_option maxHeartbeats 4000000 in
set_option maxRecDepth 100000 in
theorem c_X1_init {G : wG} {l : Launch} {n : Nat} {M : Mem} {sz : Nat} {this : Option Nat} {a1 : Int32} {r : Mem × Nat} (h : f_X1_init G.2.2.1 n M sz this a1 = some r) : CtrV G l yX1_init wsX1_init rmX1_init [va_rf this, .int a1] M sz r.1 r.2 := by
  refine m_startV (own := RX1) (cc := cX1_init) (maxL := 2) (lv0 := [(0, va_rf this), (1, .int a1)]) (by decide) rfl rfl (by simp [lg_sl, va_rf_cat, cat_i, cat_r]) (by simp [lv_args, va_rf_cat, cat_i, cat_r]) ?_
  intro p e s m args below meth c Q hC hname RET hsz hw ls hl
  have hx := hC.1
  have hb := hC.2.1
  unfold f_X1_init at h
  refine m_aload_n (x := this) hx hb dX1_init_0 rfl (lv_at hl 0 rfl) ?_
  obtain ⟨g1, h⟩ := itg h
  refine m_objInit (x := this) (isN_some g1) hC (hC.tab _ k_X1_init_oi3) (hC.tab _ k_X1_init_oj) (hC.tab _ k_X1_init_ok) hl.1 ((Nat.le_of_ble_eq_true rfl)) (Nat.le_of_ble_eq_true rfl) (Nat.le_of_ble_eq_true rfl) dX1_init_1 ?_
  refine m_aload_n (x := this) hx hb dX1_init_4 rfl (lv_at hl 0 rfl) ?_
  refine lv_sipush (v := (1000 : Int32)) hx hb dX1_init_5 (by decide) ?_
  obtain ⟨g3, h⟩ := itg h
  obtain ⟨M2, hM2, h⟩ := ob h
  refine m_newI (atype := .int) (t := 0) (n := (1000 : Int32)) (cap := 1000) hC hw rfl (fun _ _ => rfl) (by decide) k_X1_init_naint (nmA0 hC) g3.1 g3.2 (by decide) (Nat.le_of_ble_eq_true rfl) (Nat.le_of_ble_eq_true rfl) dX1_init_8 (fun H hw => ?_)
  rw [Option.some.inj hM2] at hw
  obtain ⟨M4, hM4, h⟩ := ob h
  refine m_putF hC hw (C := RX1) (T := TX1) (N := 2) (x := this) hM4 ki_X1_init_X1 tyX1 tyX1_ok nmX1 rfl (by decide) k_X1_init_9 (fun _ z => z) rfl hname rfl (nar_rf _ _ (by decide)) (fit_rf _ _ (by decide)) dX1_init_10 (fun H locs hw => ?_)
  refine m_aload_n (x := this) hx hb dX1_init_13 rfl (lv_at hl 0 rfl) ?_
  refine lv_iconst (v := (0 : Int32)) hx hb dX1_init_14 (by decide) ?_
  obtain ⟨M5, hM5, h⟩ := ob h
  refine m_put hC hw (C := RX1) (T := TX1) (N := 2) (x := this) hM5 ki_X1_init_X1 tyX1 tyX1_ok nmX1 rfl (by decide) k_X1_init_15 (fun _ z => z) rfl rfl rfl dX1_init_15 (fun H locs hw => ?_)
  refine m_aload_n (x := this) hx hb dX1_init_18 rfl (lv_at hl 0 rfl) ?_
  obtain ⟨v6, hv6, h⟩ := ob h
  refine m_getR hC hw (C := RX1) (T := TX1) (N := 2) hv6 ki_X1_init_X1 rfl (by decide) k_X1_init_9 (fun _ z => z) dX1_init_19 ?_
  refine lv_iload_n hx hb dX1_init_22 rfl (lv_at hl 1 rfl) ?_
  refine lv_if_eq (tgt := 30) hx hb dX1_init_23 (by decide) (fun c7 => ?_) (fun c7 => ?_)
  · replace h := itt h c7
    refine lv_bipush (v := (-2 : Int32)) hx hb dX1_init_30 (by decide) ?_
    obtain ⟨r8, hr8, h⟩ := ob h
    refine m_contV hC hw (m_runS hC hw (n := 2) (av := [va_rf v6, .int (-2 : Int32)]) (rest := []) (c_J7_fill_53178 (G := G) (l := l) hr8) gX1_init_J7_fill_53178 rfl (by decide +kernel) ⟨(Nat.le_of_ble_eq_true rfl), (Nat.le_of_ble_eq_true rfl)⟩ rfl hl.1 rfl (Nat.le_of_ble_eq_true rfl) dX1_init_32 ⟨(Nat.le_of_ble_eq_true rfl), (Nat.le_of_ble_eq_true rfl)⟩) (fun H locs hw => ?_)
    replace h := Option.some.inj h
    subst h
    exact RET hw ⟨(Nat.le_of_ble_eq_true rfl), (Nat.le_of_ble_eq_true rfl)⟩ dX1_init_35
  · replace h := itf h c7
    refine lv_iconst (v := (-1 : Int32)) hx hb dX1_init_26 (by decide) ?_
    refine lv_goto (tgt := 32) hx hb dX1_init_27 (by decide) ?_
    obtain ⟨r9, hr9, h⟩ := ob h
    refine m_contV hC hw (m_runS hC hw (n := 2) (av := [va_rf v6, .int (-1 : Int32)]) (rest := []) (c_J7_fill_53178 (G := G) (l := l) hr9) gX1_init_J7_fill_53178 rfl (by decide +kernel) ⟨(Nat.le_of_ble_eq_true rfl), (Nat.le_of_ble_eq_true rfl)⟩ rfl hl.1 rfl (Nat.le_of_ble_eq_true rfl) dX1_init_32 ⟨(Nat.le_of_ble_eq_true rfl), (Nat.le_of_ble_eq_true rfl)⟩) (fun H locs hw => ?_)
    replace h := Option.some.inj h
    subst h
    exact RET hw ⟨(Nat.le_of_ble_eq_true rfl), (Nat.le_of_ble_eq_true rfl)⟩ dX1_init_35

def f_X0_init (B : Nat) (M : Mem) (sz : Nat) (this : Option Nat) : Option (Mem × Nat) := if this ≠ none then (if ¬ (48 : Int32) < 0 ∧ ((48 : Int32) : Int32).toNatClampNeg ≤ 48 then ((some (va_up M sz (some (.inr (.inl (0, ((48 : Int32) : Int32).toNatClampNeg, fun _ => 0)))))).bind fun M2 => (pF B M2 this 3 0 (va_rf (some sz))).bind fun M4 => if ¬ (48 : Int32) < 0 ∧ ((48 : Int32) : Int32).toNatClampNeg ≤ 48 then ((some (va_up M4 (sz + 1) (some (.inr (.inl (0, ((48 : Int32) : Int32).toNatClampNeg, fun _ => 0)))))).bind fun M5 => (pF B M5 this 3 1 (va_rf (some (sz + 1)))).bind fun M7 => (pF B M7 this 3 2 (.int (0 : Int32))).bind fun M8 => some (M8, ((sz + 1) + 1))) else none) else none) else none
def rmX0_init : Room := { frames := 1, cells := 2, slots := 96, locals := 20 }
theorem k_X0_init_oi3 : Cond.methodLink RX0 3 objectInit ∈ wsX0_init := List.mem_of_getElem? (i := 1) rfl
theorem k_X0_init_oj : Cond.instanceMethod objectInit ∈ wsX0_init := List.mem_of_getElem? (i := 2) rfl
theorem k_X0_init_ok : Cond.code objectInit ⟨#[0xb1]⟩ 1 none ∈ wsX0_init := List.mem_of_getElem? (i := 3) rfl
theorem k_X0_init_naint : Cond.arrayClass .int ∈ wsX0_init := List.mem_of_getElem? (i := 4) rfl
theorem k_X0_init_9 : Cond.fieldLink RX0 9 "LoanBook$Appraisals" "days" "[I" ∈ wsX0_init := List.mem_of_getElem? (i := 5) rfl
theorem ki_X0_init_X0 : ∀ w ∈ u_ws RX0 TX0 3, w ∈ wsX0_init := sub_r [8, 9, 10] (by decide +kernel)
theorem k_X0_init_15 : Cond.fieldLink RX0 15 "LoanBook$Appraisals" "values" "[I" ∈ wsX0_init := List.mem_of_getElem? (i := 6) rfl
theorem k_X0_init_18 : Cond.fieldLink RX0 18 "LoanBook$Appraisals" "size" "I" ∈ wsX0_init := List.mem_of_getElem? (i := 7) rfl
set_option maxHeartbeats 4000000 in
set_option maxRecDepth 100000 in
theorem c_X0_init {G : wG} {l : Launch} {M : Mem} {sz : Nat} {this : Option Nat} {r : Mem × Nat} (h : f_X0_init G.2.2.1 M sz this = some r) : CtrV G l yX0_init wsX0_init rmX0_init [va_rf this] M sz r.1 r.2 := by
  refine m_startV (own := RX0) (cc := cX0_init) (maxL := 1) (lv0 := [(0, va_rf this)]) (by decide) rfl rfl (by simp [lg_sl, va_rf_cat, cat_i, cat_r]) (by simp [lv_args, va_rf_cat, cat_i, cat_r]) ?_
  intro p e s m args below meth c Q hC hname RET hsz hw ls hl
  have hx := hC.1
  have hb := hC.2.1
  unfold f_X0_init at h
  refine m_aload_n (x := this) hx hb dX0_init_0 rfl (lv_at hl 0 rfl) ?_
  obtain ⟨g1, h⟩ := itg h
  refine m_objInit (x := this) (isN_some g1) hC (hC.tab _ k_X0_init_oi3) (hC.tab _ k_X0_init_oj) (hC.tab _ k_X0_init_ok) hl.1 ((Nat.le_of_ble_eq_true rfl)) (Nat.le_of_ble_eq_true rfl) (Nat.le_of_ble_eq_true rfl) dX0_init_1 ?_
  refine m_aload_n (x := this) hx hb dX0_init_4 rfl (lv_at hl 0 rfl) ?_
  refine lv_bipush (v := (48 : Int32)) hx hb dX0_init_5 (by decide) ?_
  obtain ⟨g3, h⟩ := itg h
  obtain ⟨M2, hM2, h⟩ := ob h
  refine m_newI (atype := .int) (t := 0) (n := (48 : Int32)) (cap := 48) hC hw rfl (fun _ _ => rfl) (by decide) k_X0_init_naint (nmA0 hC) g3.1 g3.2 (by decide) (Nat.le_of_ble_eq_true rfl) (Nat.le_of_ble_eq_true rfl) dX0_init_7 (fun H hw => ?_)
  rw [Option.some.inj hM2] at hw
  obtain ⟨M4, hM4, h⟩ := ob h
  refine m_putF hC hw (C := RX0) (T := TX0) (N := 3) (x := this) hM4 ki_X0_init_X0 tyX0 tyX0_ok nmX0 rfl (by decide) k_X0_init_9 (fun _ z => z) rfl hname rfl (nar_rf _ _ (by decide)) (fit_rf _ _ (by decide)) dX0_init_9 (fun H locs hw => ?_)
  refine m_aload_n (x := this) hx hb dX0_init_12 rfl (lv_at hl 0 rfl) ?_
  refine lv_bipush (v := (48 : Int32)) hx hb dX0_init_13 (by decide) ?_
  obtain ⟨g6, h⟩ := itg h
  obtain ⟨M5, hM5, h⟩ := ob h
  refine m_newI (atype := .int) (t := 0) (n := (48 : Int32)) (cap := 48) hC hw rfl (fun _ _ => rfl) (by decide) k_X0_init_naint (nmA0 hC) g6.1 g6.2 (by decide) (Nat.le_of_ble_eq_true rfl) (Nat.le_of_ble_eq_true rfl) dX0_init_15 (fun H hw => ?_)
  rw [Option.some.inj hM5] at hw
  obtain ⟨M7, hM7, h⟩ := ob h
  refine m_putF hC hw (C := RX0) (T := TX0) (N := 3) (x := this) hM7 ki_X0_init_X0 tyX0 tyX0_ok nmX0 rfl (by decide) k_X0_init_15 (fun _ z => z) rfl hname rfl (nar_rf _ _ (by decide)) (fit_rf _ _ (by decide)) dX0_init_17 (fun H locs hw => ?_)
  refine m_aload_n (x := this) hx hb dX0_init_20 rfl (lv_at hl 0 rfl) ?_
  refine lv_iconst (v := (0 : Int32)) hx hb dX0_init_21 (by decide) ?_
  obtain ⟨M8, hM8, h⟩ := ob h
  refine m_put hC hw (C := RX0) (T := TX0) (N := 3) (x := this) hM8 ki_X0_init_X0 tyX0 tyX0_ok nmX0 rfl (by decide) k_X0_init_18 (fun _ z => z) rfl rfl rfl dX0_init_22 (fun H locs hw => ?_)
  replace h := Option.some.inj h
  subst h
  exact RET hw ⟨(Nat.le_of_ble_eq_true rfl), (Nat.le_of_ble_eq_true rfl)⟩ dX0_init_25

def f_X10_write_L43 (B : Nat) (S : Nat → Nat) (n : Nat) (x3 : Int32) (x4 : Option Nat) : Nat → Mem → Nat → Int32 → Option (Option Nat × Mem × Nat)
  | 0, _, _, _ => none
  | k + 1, Mz, zz, x5 => if (5 : Int32) ≤ x5 then (if isO Mz x4 1 = true then ((f_J4_toString_0e30d B Mz zz x4).bind fun r16 => some ((r16.1, r16.2.1, r16.2.2))) else none) else ((f_X10_holdsBit Mz x3 x5).bind fun r17 => if r17 = 0 then (f_X10_write_L43 B S n x3 x4 k Mz zz (x5 + (1 : Int32))) else (if isO Mz x4 1 = true then ((f_J4_append_15ec4 B Mz zz x4 (some (S 12))).bind fun r20 => (f_X11_spelling S r20.2.1 ((102 : Int32) + x5)).bind fun r21 => if isO r20.2.1 r20.1 1 = true then ((f_J4_append_15ec4 B r20.2.1 r20.2.2 r20.1 r21).bind fun r23 => f_X10_write_L43 B S n x3 x4 k r23.2.1 r23.2.2 (x5 + (1 : Int32))) else none) else none))
def f_X10_write (B : Nat) (S : Nat → Nat) (n : Nat) (M : Mem) (sz : Nat) (a1 : Int32) (a2 : Int32) (a3 : Int32) (a4 : Int32) : Option (Option Nat × Mem × Nat) := (some (va_up M sz (some (.inl (1, [.null, .int 0, .int 0, .int 0]))))).bind fun M1 => (f_J4_init_da8c8 B M1 (sz + 1) (some sz)).bind fun r2 => (f_X11_spelling S r2.1 ((102 : Int32) + a1)).bind fun r3 => if isO r2.1 (some sz) 1 = true then ((f_J4_append_15ec4 B r2.1 r2.2 (some sz) r3).bind fun r5 => if isO r5.2.1 r5.1 1 = true then ((f_J4_append_cf468 B r5.2.1 r5.2.2 r5.1 (32 : Int32)).bind fun r7 => if isO r7.2.1 r7.1 1 = true then ((f_J4_append_bf812 B S n r7.2.1 r7.2.2 r7.1 a2).bind fun r9 => if isO r9.2.1 r9.1 1 = true then ((f_J4_append_cf468 B r9.2.1 r9.2.2 r9.1 (32 : Int32)).bind fun r11 => if isO r11.2.1 r11.1 1 = true then ((f_J4_append_bf812 B S n r11.2.1 r11.2.2 r11.1 a3).bind fun r13 => f_X10_write_L43 B S n a4 (some sz) 7 r13.2.1 r13.2.2 (0 : Int32)) else none) else none) else none) else none) else none
def rmX10_write : Room := { frames := 7, cells := 23, slots := 6072, locals := 171 }
theorem k_X10_write_n72 : Cond.classLink RX10 72 RJ4 ∈ wsX10_write := List.mem_of_getElem? (i := 1) rfl
theorem k_X10_write_ni72 : Cond.instantiable RJ4 4 ∈ wsX10_write := List.mem_of_getElem? (i := 2) rfl
theorem k_X10_write_nj72 : Cond.initialized RJ4 ∈ wsX10_write := List.mem_of_getElem? (i := 3) rfl
theorem ki_X10_write_J4 : ∀ w ∈ u_ws RJ4 TJ4 4, w ∈ wsX10_write := sub_r [265, 266, 267, 268] (by decide +kernel)
theorem k_X10_write_ml74 : Cond.methodLink RX10 74 yJ4_init_da8c8 ∈ wsX10_write := List.mem_of_getElem? (i := 4) rfl
theorem k_X10_write_imJ4_init_da8c8 : Cond.instanceMethod yJ4_init_da8c8 ∈ wsX10_write := List.mem_of_getElem? (i := 5) rfl
theorem k_X10_write_inJ4 : Cond.initialized RJ4 ∈ wsX10_write := List.mem_of_getElem? (i := 3) rfl
theorem k_X10_write_stX11_spelling : Cond.static yX11_spelling ∈ wsX10_write := List.mem_of_getElem? (i := 26) rfl
theorem k_X10_write_inX11 : Cond.initialized RX11 ∈ wsX10_write := List.mem_of_getElem? (i := 27) rfl
set_option maxHeartbeats 4000000 in
set_option maxRecDepth 100000 in
theorem c_X10_write {G : wG} {l : Launch} {n : Nat} {M : Mem} {sz : Nat} {a1 : Int32} {a2 : Int32} {a3 : Int32} {a4 : Int32} {r : Option Nat × Mem × Nat} (h : f_X10_write G.2.2.1 G.2.2.2 n M sz a1 a2 a3 a4 = some r) : CtrQ G l yX10_write wsX10_write rmX10_write [.int a1, .int a2, .int a3, .int a4] M sz r.1 r.2.1 r.2.2 := by
  refine m_startQ (own := RX10) (cc := cX10_write) (maxL := 6) (lv0 := [(0, .int a1), (1, .int a2), (2, .int a3), (3, .int a4)]) (by decide) rfl rfl (by simp [lg_sl, va_rf_cat, cat_i, cat_r]) (by simp [lv_args, va_rf_cat, cat_i, cat_r]) (Or.inl ⟨_, rfl⟩) ?_
  intro p e s m args below meth c Q hC hname RET hsz hw ls hl
  have hx := hC.1
  have hb := hC.2.1
  have L43 : ∀ (x3 : Int32) (x4 : Option Nat) (k : Nat) (Mz : Mem) (zz : Nat) (x5 : Int32) (cells slots : Nat) (CF SF : Nat) (H : Heap) (locs : List Loc) (ls : Array Slot), f_X10_write_L43 G.2.2.1 G.2.2.2 n x3 x4 k Mz zz x5 = some r → cells + k * 2 ≤ CF → slots + k * 600 ≤ SF → CF + 2 ≤ 23 → SF + 304 ≤ 6072 → wD G s M Mz zz H locs → lv_has ls 6 [(3, .int x3), (4, va_rf x4), (5, .int x5)] → W p l e rmX10_write s m args below meth c H locs cells slots Q (F0 m 43 ls []) := by
    intro x3 x4 k
    induction k with
    | zero =>
      intro Mz zz x5 cells slots CF SF H locs ls h
      exact absurd (show (none : Option (Option Nat × Mem × Nat)) = some r from h) (fun z => by cases z)
    | succ k ih =>
      intro Mz zz x5 cells slots CF SF H locs ls h hcl hsl hCF hSF hw hl
      rw [f_X10_write_L43] at h
      refine lv_iload hx hb dX10_write_43 (lv_at hl 2 rfl) ?_
      refine lv_iconst (v := (5 : Int32)) hx hb dX10_write_45 (by decide) ?_
      refine lv_icmp_ge (tgt := 83) hx hb dX10_write_46 (by decide) (fun c14 => ?_) (fun c14 => ?_)
      · replace h := itt h c14
        refine m_aload (x := x4) hx hb dX10_write_83 (lv_at hl 1 rfl) ?_
        obtain ⟨g15, h⟩ := itg h
        obtain ⟨r16, hr16, h⟩ := ob h
        refine m_contQ hC hw (m_runV hC hw (x := x4) (ci := 1) (N := 4) (C := RJ4) (T := TJ4) (n := 0) (av := []) (rest := []) (c_J4_toString_0e30d (G := G) (l := l) hr16) gX10_write_J4_toString_0e30d rfl (by decide +kernel) ⟨(Nat.le_of_ble_eq_true rfl), (Nat.le_of_ble_eq_true rfl)⟩ g15 rfl rfl hl.1 rfl (Nat.le_of_ble_eq_true rfl) dX10_write_85 ⟨(show cells + 2 ≤ 23 from by omega), (show slots + 304 ≤ 6072 from by omega)⟩) (fun H locs hw => ?_)
        replace h := Option.some.inj h
        subst h
        exact RET hw ⟨(show cells + 2 ≤ 23 from by omega), (show slots + 304 ≤ 6072 from by omega)⟩ dX10_write_88
      · replace h := itf h c14
        refine lv_iload_n hx hb dX10_write_49 rfl (lv_at hl 0 rfl) ?_
        refine lv_iload hx hb dX10_write_50 (lv_at hl 2 rfl) ?_
        obtain ⟨r17, hr17, h⟩ := ob h
        refine m_contI hC hw (m_runS hC hw (n := 2) (av := [.int x3, .int x5]) (rest := []) (c_X10_holdsBit (G := G) (l := l) hr17) gX10_write_X10_holdsBit rfl (by decide +kernel) ⟨(Nat.le_of_ble_eq_true rfl), (Nat.le_of_ble_eq_true rfl)⟩ rfl hl.1 rfl (Nat.le_of_ble_eq_true rfl) dX10_write_52 ⟨(show cells + 0 ≤ 23 from by omega), (show slots + 0 ≤ 6072 from by omega)⟩) (fun H locs hw => ?_)
        refine lv_if_eq (tgt := 77) hx hb dX10_write_55 (by decide) (fun c18 => ?_) (fun c18 => ?_)
        · replace h := itt h c18
          refine lv_iinc (v := (x5 + (1 : Int32))) (lv' := [(5, .int (x5 + (1 : Int32))), (3, .int x3), (4, va_rf x4)]) hx hb dX10_write_77 hl (k := 2) rfl rfl (by decide) (by simp [va_rf_cat, cat_i, cat_l]) (fun ls hl => ?_)
          refine lv_goto (tgt := 43) hx hb dX10_write_80 (by decide) ?_
          refine W.widen (k := cells + 2) (n := slots + 600) (show cells + 0 ≤ cells + 2 by omega) (show slots + 0 ≤ slots + 600 by omega) ?_
          exact ih _ _ _ _ _ CF SF _ _ _ h (by omega) (by omega) hCF hSF hw (lv_sub hl [1, 2, 0] rfl)
        · replace h := itf h c18
          refine m_aload (x := x4) hx hb dX10_write_58 (lv_at hl 1 rfl) ?_
          refine m_ldc (tx := " not ") (i := 12) hC (by decide) dX10_write_60 ?_
          obtain ⟨g19, h⟩ := itg h
          obtain ⟨r20, hr20, h⟩ := ob h
          refine m_contQ hC hw (m_runV hC hw (x := x4) (ci := 1) (N := 4) (C := RJ4) (T := TJ4) (n := 1) (av := [va_rf (some (G.2.2.2 12))]) (rest := []) (c_J4_append_15ec4 (G := G) (l := l) hr20) gX10_write_J4_append_15ec4 rfl (by decide +kernel) ⟨(Nat.le_of_ble_eq_true rfl), (Nat.le_of_ble_eq_true rfl)⟩ g19 rfl rfl hl.1 rfl (Nat.le_of_ble_eq_true rfl) dX10_write_62 ⟨(show cells + 1 ≤ 23 from by omega), (show slots + 300 ≤ 6072 from by omega)⟩) (fun H locs hw => ?_)
          refine lv_bipush (v := (102 : Int32)) hx hb dX10_write_65 (by decide) ?_
          refine lv_iload hx hb dX10_write_67 (lv_at hl 2 rfl) ?_
          refine lv_iadd hx hb dX10_write_69 ?_
          obtain ⟨r21, hr21, h⟩ := ob h
          refine m_contQ hC hw (m_runSN hC hw (host := "LoanBook") (n := 1) (av := [.int ((102 : Int32) + x5)]) (rest := [va_rf r20.1]) (c_X11_spelling (G := G) (l := l) hr21) gX10_write_X11_spelling_n75 (by decide +kernel) k_X10_write_stX11_spelling k_X10_write_inX11 rfl (by decide +kernel) ⟨(Nat.le_of_ble_eq_true rfl), (Nat.le_of_ble_eq_true rfl)⟩ rfl hl.1 rfl (by simp [va_rf_cat, cat_i, cat_r, cat_l]) dX10_write_70 ⟨(show cells + 1 ≤ 23 from by omega), (show slots + 300 ≤ 6072 from by omega)⟩) (fun H locs hw => ?_)
          obtain ⟨g22, h⟩ := itg h
          obtain ⟨r23, hr23, h⟩ := ob h
          refine m_contQ hC hw (m_runV hC hw (x := r20.1) (ci := 1) (N := 4) (C := RJ4) (T := TJ4) (n := 1) (av := [va_rf r21]) (rest := []) (c_J4_append_15ec4 (G := G) (l := l) hr23) gX10_write_J4_append_15ec4 rfl (by decide +kernel) ⟨(Nat.le_of_ble_eq_true rfl), (Nat.le_of_ble_eq_true rfl)⟩ g22 rfl rfl hl.1 rfl (Nat.le_of_ble_eq_true rfl) dX10_write_73 ⟨(show cells + 2 ≤ 23 from by omega), (show slots + 600 ≤ 6072 from by omega)⟩) (fun H locs hw => ?_)
          refine lv_pop hx hb dX10_write_76 (va_rf_cat _) ?_
          refine lv_iinc (v := (x5 + (1 : Int32))) (lv' := [(5, .int (x5 + (1 : Int32))), (3, .int x3), (4, va_rf x4)]) hx hb dX10_write_77 hl (k := 2) rfl rfl (by decide) (by simp [va_rf_cat, cat_i, cat_l]) (fun ls hl => ?_)
          refine lv_goto (tgt := 43) hx hb dX10_write_80 (by decide) ?_
          refine W.widen (k := cells + 2) (n := slots + 600) (show cells + 2 ≤ cells + 2 by omega) (show slots + 600 ≤ slots + 600 by omega) ?_
          exact ih _ _ _ _ _ CF SF _ _ _ h (by omega) (by omega) hCF hSF hw (lv_sub hl [1, 2, 0] rfl)
  unfold f_X10_write at h
  obtain ⟨M1, hM1, h⟩ := ob h
  refine m_new hC hw (C := RJ4) (T := TJ4) (N := 4) (ci := 1) (fs := [.null, .int 0, .int 0, .int 0]) ki_X10_write_J4 tyJ4 tyJ4_ok k_X10_write_n72 k_X10_write_ni72 k_X10_write_nj72 rfl (fun j hj => by match j, hj with | 0, _ => rfl | 1, _ => rfl | 2, _ => rfl | 3, _ => rfl) (Nat.le_of_ble_eq_true rfl) (Nat.le_of_ble_eq_true rfl) dX10_write_0 (fun H hw => ?_)
  rw [Option.some.inj hM1] at hw
  refine m_dup (x := (some sz)) hx hb dX10_write_3 ?_
  obtain ⟨r2, hr2, h⟩ := ob h
  refine m_contV hC hw (m_runI hC hw (x := (some sz)) (n := 0) (av := []) (rest := [va_rf (some sz)]) (c_J4_init_da8c8 (G := G) (l := l) hr2) gX10_write_J4_init_da8c8 k_X10_write_ml74 k_X10_write_imJ4_init_da8c8 k_X10_write_inJ4 rfl rfl (by decide +kernel) ⟨(Nat.le_of_ble_eq_true rfl), (Nat.le_of_ble_eq_true rfl)⟩ rfl rfl hl.1 rfl (by simp [va_rf_cat, cat_i, cat_r, cat_l]) dX10_write_4 ⟨(Nat.le_of_ble_eq_true rfl), (Nat.le_of_ble_eq_true rfl)⟩) (fun H locs hw => ?_)
  refine m_astore (x := (some sz)) (lv' := [(4, va_rf (some sz)), (0, .int a1), (1, .int a2), (2, .int a3), (3, .int a4)]) hx hb dX10_write_7 hl (by decide) rfl (fun ls hl => ?_)
  refine m_aload (x := (some sz)) hx hb dX10_write_9 (lv_at hl 0 rfl) ?_
  refine lv_bipush (v := (102 : Int32)) hx hb dX10_write_11 (by decide) ?_
  refine lv_iload_n hx hb dX10_write_13 rfl (lv_at hl 1 rfl) ?_
  refine lv_iadd hx hb dX10_write_14 ?_
  obtain ⟨r3, hr3, h⟩ := ob h
  refine m_contQ hC hw (m_runSN hC hw (host := "LoanBook") (n := 1) (av := [.int ((102 : Int32) + a1)]) (rest := [va_rf (some sz)]) (c_X11_spelling (G := G) (l := l) hr3) gX10_write_X11_spelling_n75 (by decide +kernel) k_X10_write_stX11_spelling k_X10_write_inX11 rfl (by decide +kernel) ⟨(Nat.le_of_ble_eq_true rfl), (Nat.le_of_ble_eq_true rfl)⟩ rfl hl.1 rfl (by simp [va_rf_cat, cat_i, cat_r, cat_l]) dX10_write_15 ⟨(Nat.le_of_ble_eq_true rfl), (Nat.le_of_ble_eq_true rfl)⟩) (fun H locs hw => ?_)
  obtain ⟨g4, h⟩ := itg h
  obtain ⟨r5, hr5, h⟩ := ob h
  refine m_contQ hC hw (m_runV hC hw (x := (some sz)) (ci := 1) (N := 4) (C := RJ4) (T := TJ4) (n := 1) (av := [va_rf r3]) (rest := []) (c_J4_append_15ec4 (G := G) (l := l) hr5) gX10_write_J4_append_15ec4 rfl (by decide +kernel) ⟨(Nat.le_of_ble_eq_true rfl), (Nat.le_of_ble_eq_true rfl)⟩ g4 rfl rfl hl.1 rfl (Nat.le_of_ble_eq_true rfl) dX10_write_18 ⟨(Nat.le_of_ble_eq_true rfl), (Nat.le_of_ble_eq_true rfl)⟩) (fun H locs hw => ?_)
  refine lv_bipush (v := (32 : Int32)) hx hb dX10_write_21 (by decide) ?_
  obtain ⟨g6, h⟩ := itg h
  obtain ⟨r7, hr7, h⟩ := ob h
  refine m_contQ hC hw (m_runV hC hw (x := r5.1) (ci := 1) (N := 4) (C := RJ4) (T := TJ4) (n := 1) (av := [.int (32 : Int32)]) (rest := []) (c_J4_append_cf468 (G := G) (l := l) hr7) gX10_write_J4_append_cf468 rfl (by decide +kernel) ⟨(Nat.le_of_ble_eq_true rfl), (Nat.le_of_ble_eq_true rfl)⟩ g6 rfl rfl hl.1 rfl (Nat.le_of_ble_eq_true rfl) dX10_write_23 ⟨(Nat.le_of_ble_eq_true rfl), (Nat.le_of_ble_eq_true rfl)⟩) (fun H locs hw => ?_)
  refine lv_iload_n hx hb dX10_write_26 rfl (lv_at hl 2 rfl) ?_
  obtain ⟨g8, h⟩ := itg h
  obtain ⟨r9, hr9, h⟩ := ob h
  refine m_contQ hC hw (m_runV hC hw (x := r7.1) (ci := 1) (N := 4) (C := RJ4) (T := TJ4) (n := 1) (av := [.int a2]) (rest := []) (c_J4_append_bf812 (G := G) (l := l) hr9) gX10_write_J4_append_bf812 rfl (by decide +kernel) ⟨(Nat.le_of_ble_eq_true rfl), (Nat.le_of_ble_eq_true rfl)⟩ g8 rfl rfl hl.1 rfl (Nat.le_of_ble_eq_true rfl) dX10_write_27 ⟨(Nat.le_of_ble_eq_true rfl), (Nat.le_of_ble_eq_true rfl)⟩) (fun H locs hw => ?_)
  refine lv_bipush (v := (32 : Int32)) hx hb dX10_write_30 (by decide) ?_
  obtain ⟨g10, h⟩ := itg h
  obtain ⟨r11, hr11, h⟩ := ob h
  refine m_contQ hC hw (m_runV hC hw (x := r9.1) (ci := 1) (N := 4) (C := RJ4) (T := TJ4) (n := 1) (av := [.int (32 : Int32)]) (rest := []) (c_J4_append_cf468 (G := G) (l := l) hr11) gX10_write_J4_append_cf468 rfl (by decide +kernel) ⟨(Nat.le_of_ble_eq_true rfl), (Nat.le_of_ble_eq_true rfl)⟩ g10 rfl rfl hl.1 rfl (Nat.le_of_ble_eq_true rfl) dX10_write_32 ⟨(Nat.le_of_ble_eq_true rfl), (Nat.le_of_ble_eq_true rfl)⟩) (fun H locs hw => ?_)
  refine lv_iload_n hx hb dX10_write_35 rfl (lv_at hl 3 rfl) ?_
  obtain ⟨g12, h⟩ := itg h
  obtain ⟨r13, hr13, h⟩ := ob h
  refine m_contQ hC hw (m_runV hC hw (x := r11.1) (ci := 1) (N := 4) (C := RJ4) (T := TJ4) (n := 1) (av := [.int a3]) (rest := []) (c_J4_append_bf812 (G := G) (l := l) hr13) gX10_write_J4_append_bf812 rfl (by decide +kernel) ⟨(Nat.le_of_ble_eq_true rfl), (Nat.le_of_ble_eq_true rfl)⟩ g12 rfl rfl hl.1 rfl (Nat.le_of_ble_eq_true rfl) dX10_write_36 ⟨(Nat.le_of_ble_eq_true rfl), (Nat.le_of_ble_eq_true rfl)⟩) (fun H locs hw => ?_)
  refine lv_pop hx hb dX10_write_39 (va_rf_cat _) ?_
  refine lv_iconst (v := (0 : Int32)) hx hb dX10_write_40 (by decide) ?_
  refine lv_istore (lv' := [(5, .int (0 : Int32)), (4, va_rf (some sz)), (0, .int a1), (1, .int a2), (2, .int a3), (3, .int a4)]) hx hb dX10_write_41 hl (by decide) (by simp [va_rf_cat, cat_i, cat_l]) (fun ls hl => ?_)
  exact L43 a4 (some sz) _ _ _ _ _ _ 21 5768 _ _ _ h (by decide) (by decide) (Nat.le_of_ble_eq_true rfl) (Nat.le_of_ble_eq_true rfl) hw (lv_sub hl [5, 1, 0] rfl)

def f_X10_init_L75 (B : Nat) (S : Nat → Nat) (n : Nat) (Mz : Mem) (zz : Nat) (x0 : Option Nat) (x2 : Option Nat) : Nat → Int32 → Int32 → Option (Int32)
  | 0, _, _ => none
  | k + 1, x3, x4 => if isO Mz x2 10 = true then ((f_X7_size Mz x2).bind fun r22 => if r22 ≤ x4 then (some ((x3))) else (if isO Mz x2 10 = true then ((f_X7_told Mz x2 x4).bind fun r25 => f_X10_init_L75 B S n Mz zz x0 x2 k (x3 ||| ((1 : Int32) <<< (r25 &&& 31))) (x4 + (1 : Int32))) else none)) else none
def f_X10_init (B : Nat) (S : Nat → Nat) (n : Nat) (M : Mem) (sz : Nat) (this : Option Nat) (a1 : Int32) (a2 : Option Nat) : Option (Mem × Nat) := if this ≠ none then ((some (va_up M sz (some (.inl (4, [.null, .int 0]))))).bind fun M2 => (f_X1_init B n M2 (sz + 1) (some sz) (1 : Int32)).bind fun r3 => (pF B r3.1 this 13 4 (va_rf (some sz))).bind fun M4 => (some (va_up M4 r3.2 (some (.inl (3, [.null, .null, .int 0]))))).bind fun M5 => (f_X0_init B M5 (r3.2 + 1) (some r3.2)).bind fun r6 => (pF B r6.1 this 13 5 (va_rf (some r3.2))).bind fun M7 => (some (va_up M7 r6.2 (some (.inl (2, [.int 0, .null, .int 0]))))).bind fun M8 => (f_Jx4a65c_init_da8c8 B S M8 (some r6.2)).bind fun r9 => (pF B r9 this 13 8 (va_rf (some r6.2))).bind fun M10 => (pF B M10 this 13 0 (.int a1)).bind fun M11 => if isO M11 a2 10 = true then ((f_X7_told M11 a2 (0 : Int32)).bind fun r13 => (pF B M11 this 13 1 (.int r13)).bind fun M14 => if isO M14 a2 10 = true then ((f_X7_told M14 a2 (1 : Int32)).bind fun r16 => (pF B M14 this 13 6 (.int r16)).bind fun M17 => if isO M17 a2 10 = true then ((f_X7_told M17 a2 (2 : Int32)).bind fun r19 => (pF B M17 this 13 2 (.int r19)).bind fun M20 => (f_X10_init_L75 B S n M20 (r6.2 + 1) this a2 n (0 : Int32) (3 : Int32)).bind fun o26 => (pF B M20 this 13 7 (.int o26)).bind fun M27 => (gI M27 this 13 1).bind fun v28 => (gI M27 this 13 6).bind fun v29 => (gI M27 this 13 2).bind fun v30 => (gI M27 this 13 7).bind fun v31 => (f_X10_write B S n M27 (r6.2 + 1) v28 v29 v30 v31).bind fun r32 => (pF B r32.2.1 this 13 3 (va_rf r32.1)).bind fun M33 => some (M33, r32.2.2)) else none) else none) else none) else none
def rmX10_init : Room := { frames := 8, cells := 29, slots := 7176, locals := 196 }
theorem k_X10_init_oi3 : Cond.methodLink RX10 3 objectInit ∈ wsX10_init := List.mem_of_getElem? (i := 1) rfl
theorem k_X10_init_oj : Cond.instanceMethod objectInit ∈ wsX10_init := List.mem_of_getElem? (i := 2) rfl
theorem k_X10_init_ok : Cond.code objectInit ⟨#[0xb1]⟩ 1 none ∈ wsX10_init := List.mem_of_getElem? (i := 3) rfl
theorem k_X10_init_n9 : Cond.classLink RX10 9 RX1 ∈ wsX10_init := List.mem_of_getElem? (i := 4) rfl
theorem k_X10_init_ni9 : Cond.instantiable RX1 2 ∈ wsX10_init := List.mem_of_getElem? (i := 5) rfl
theorem k_X10_init_nj9 : Cond.initialized RX1 ∈ wsX10_init := List.mem_of_getElem? (i := 6) rfl
theorem ki_X10_init_X1 : ∀ w ∈ u_ws RX1 TX1 2, w ∈ wsX10_init := sub_r [329, 330] (by decide +kernel)
theorem k_X10_init_ml11 : Cond.methodLink RX10 11 yX1_init ∈ wsX10_init := List.mem_of_getElem? (i := 22) rfl
theorem k_X10_init_imX1_init : Cond.instanceMethod yX1_init ∈ wsX10_init := List.mem_of_getElem? (i := 23) rfl
theorem k_X10_init_inX1 : Cond.initialized RX1 ∈ wsX10_init := List.mem_of_getElem? (i := 6) rfl
theorem k_X10_init_14 : Cond.fieldLink RX10 14 "LoanBook$Thing" "calendar" "LLoanBook$Calendar;" ∈ wsX10_init := List.mem_of_getElem? (i := 7) rfl
theorem ki_X10_init_X10 : ∀ w ∈ u_ws RX10 TX10 9, w ∈ wsX10_init := sub_r [331, 332, 333, 334, 335, 336, 337, 338, 339] (by decide +kernel)
theorem k_X10_init_n20 : Cond.classLink RX10 20 RX0 ∈ wsX10_init := List.mem_of_getElem? (i := 8) rfl
theorem k_X10_init_ni20 : Cond.instantiable RX0 3 ∈ wsX10_init := List.mem_of_getElem? (i := 9) rfl
theorem k_X10_init_nj20 : Cond.initialized RX0 ∈ wsX10_init := List.mem_of_getElem? (i := 10) rfl
theorem ki_X10_init_X0 : ∀ w ∈ u_ws RX0 TX0 3, w ∈ wsX10_init := sub_r [340, 341, 342] (by decide +kernel)
theorem k_X10_init_imX0_init : Cond.instanceMethod yX0_init ∈ wsX10_init := List.mem_of_getElem? (i := 33) rfl
theorem k_X10_init_inX0 : Cond.initialized RX0 ∈ wsX10_init := List.mem_of_getElem? (i := 10) rfl
theorem k_X10_init_23 : Cond.fieldLink RX10 23 "LoanBook$Thing" "appraisals" "LLoanBook$Appraisals;" ∈ wsX10_init := List.mem_of_getElem? (i := 11) rfl
theorem k_X10_init_n27 : Cond.classLink RX10 27 RJx4a65c ∈ wsX10_init := List.mem_of_getElem? (i := 12) rfl
theorem k_X10_init_ni27 : Cond.instantiable RJx4a65c 3 ∈ wsX10_init := List.mem_of_getElem? (i := 13) rfl
theorem k_X10_init_nj27 : Cond.initialized RJx4a65c ∈ wsX10_init := List.mem_of_getElem? (i := 14) rfl
theorem ki_X10_init_Jx4a65c : ∀ w ∈ u_ws RJx4a65c TJx4a65c 3, w ∈ wsX10_init := sub_r [343, 344, 345] (by decide +kernel)
theorem k_X10_init_ml29 : Cond.methodLink RX10 29 yJx4a65c_init_da8c8 ∈ wsX10_init := List.mem_of_getElem? (i := 39) rfl
theorem k_X10_init_imJx4a65c_init_da8c8 : Cond.instanceMethod yJx4a65c_init_da8c8 ∈ wsX10_init := List.mem_of_getElem? (i := 40) rfl
theorem k_X10_init_inJx4a65c : Cond.initialized RJx4a65c ∈ wsX10_init := List.mem_of_getElem? (i := 14) rfl
theorem k_X10_init_30 : Cond.fieldLink RX10 30 "LoanBook$Thing" "reports" "Ljava/util/ArrayList;" ∈ wsX10_init := List.mem_of_getElem? (i := 15) rfl
theorem k_X10_init_34 : Cond.fieldLink RX10 34 "LoanBook$Thing" "number" "I" ∈ wsX10_init := List.mem_of_getElem? (i := 16) rfl
theorem k_X10_init_44 : Cond.fieldLink RX10 44 "LoanBook$Thing" "kind" "I" ∈ wsX10_init := List.mem_of_getElem? (i := 17) rfl
theorem k_X10_init_47 : Cond.fieldLink RX10 47 "LoanBook$Thing" "firstValue" "I" ∈ wsX10_init := List.mem_of_getElem? (i := 18) rfl
theorem k_X10_init_50 : Cond.fieldLink RX10 50 "LoanBook$Thing" "weighs" "I" ∈ wsX10_init := List.mem_of_getElem? (i := 19) rfl
theorem k_X10_init_57 : Cond.fieldLink RX10 57 "LoanBook$Thing" "barred" "I" ∈ wsX10_init := List.mem_of_getElem? (i := 20) rfl
theorem k_X10_init_64 : Cond.fieldLink RX10 64 "LoanBook$Thing" "written" "Ljava/lang/String;" ∈ wsX10_init := List.mem_of_getElem? (i := 21) rfl
set_option maxHeartbeats 4000000 in
set_option maxRecDepth 100000 in
theorem c_X10_init {G : wG} {l : Launch} {n : Nat} {M : Mem} {sz : Nat} {this : Option Nat} {a1 : Int32} {a2 : Option Nat} {r : Mem × Nat} (h : f_X10_init G.2.2.1 G.2.2.2 n M sz this a1 a2 = some r) : CtrV G l yX10_init wsX10_init rmX10_init [va_rf this, .int a1, va_rf a2] M sz r.1 r.2 := by
  refine m_startV (own := RX10) (cc := cX10_init) (maxL := 5) (lv0 := [(0, va_rf this), (1, .int a1), (2, va_rf a2)]) (by decide) rfl rfl (by simp [lg_sl, va_rf_cat, cat_i, cat_r]) (by simp [lv_args, va_rf_cat, cat_i, cat_r]) ?_
  intro p e s m args below meth c Q hC hname RET hsz hw ls hl
  have hx := hC.1
  have hb := hC.2.1
  have L75 : ∀ (Mz : Mem) (zz : Nat) (x0 : Option Nat) (x2 : Option Nat) (k : Nat) (x3 : Int32) (x4 : Int32) (cells slots : Nat) (H : Heap) (locs : List Loc) (ls : Array Slot) (o : Int32), f_X10_init_L75 G.2.2.1 G.2.2.2 n Mz zz x0 x2 k x3 x4 = some o → cells ≤ 29 → slots ≤ 7176 → wD G s M Mz zz H locs → lv_has ls 5 [(0, va_rf x0), (2, va_rf x2), (3, .int x3), (4, .int x4)] → (∀ (H : Heap) (locs : List Loc) (ls : Array Slot), wD G s M Mz zz H locs → lv_has ls 5 [(0, va_rf x0), (3, .int o)] → W p l e rmX10_init s m args below meth c H locs cells slots Q (F0 m 101 ls [])) → W p l e rmX10_init s m args below meth c H locs cells slots Q (F0 m 75 ls []) := by
    intro Mz zz x0 x2 k
    induction k with
    | zero =>
      intro x3 x4 cells slots H locs ls o h
      exact absurd (show (none : Option (Int32)) = some o from h) (fun z => by cases z)
    | succ k ih =>
      intro x3 x4 cells slots H locs ls o h hcl hsl hw hl hk
      rw [f_X10_init_L75] at h
      refine lv_iload hx hb dX10_init_75 (lv_at hl 3 rfl) ?_
      refine m_aload_n (x := x2) hx hb dX10_init_77 rfl (lv_at hl 1 rfl) ?_
      obtain ⟨g21, h⟩ := itg h
      obtain ⟨r22, hr22, h⟩ := ob h
      refine m_contI hC hw (m_runV hC hw (x := x2) (ci := 10) (N := 5) (C := RX7) (T := TX7) (n := 0) (av := []) (rest := [.int x4]) (c_X7_size (G := G) (l := l) hr22) gX10_init_X7_size rfl (by decide +kernel) ⟨(Nat.le_of_ble_eq_true rfl), (Nat.le_of_ble_eq_true rfl)⟩ g21 rfl rfl hl.1 rfl (Nat.le_of_ble_eq_true rfl) dX10_init_78 ⟨(show cells + 0 ≤ 29 from by omega), (show slots + 0 ≤ 7176 from by omega)⟩) (fun H locs hw => ?_)
      refine lv_icmp_ge (tgt := 101) hx hb dX10_init_81 (by decide) (fun c23 => ?_) (fun c23 => ?_)
      · replace h := itt h c23
        replace h := Option.some.inj h
        subst h
        exact hk _ _ _  hw (lv_sub hl [0, 2] rfl)
      · replace h := itf h c23
        refine lv_iload_n hx hb dX10_init_84 rfl (lv_at hl 2 rfl) ?_
        refine lv_iconst (v := (1 : Int32)) hx hb dX10_init_85 (by decide) ?_
        refine m_aload_n (x := x2) hx hb dX10_init_86 rfl (lv_at hl 1 rfl) ?_
        refine lv_iload hx hb dX10_init_87 (lv_at hl 3 rfl) ?_
        obtain ⟨g24, h⟩ := itg h
        obtain ⟨r25, hr25, h⟩ := ob h
        refine m_contI hC hw (m_runV hC hw (x := x2) (ci := 10) (N := 5) (C := RX7) (T := TX7) (n := 1) (av := [.int x4]) (rest := [.int (1 : Int32), .int x3]) (c_X7_told (G := G) (l := l) hr25) gX10_init_X7_told rfl (by decide +kernel) ⟨(Nat.le_of_ble_eq_true rfl), (Nat.le_of_ble_eq_true rfl)⟩ g24 rfl rfl hl.1 rfl (Nat.le_of_ble_eq_true rfl) dX10_init_89 ⟨(show cells + 0 ≤ 29 from by omega), (show slots + 0 ≤ 7176 from by omega)⟩) (fun H locs hw => ?_)
        refine lv_ishl hx hb dX10_init_92 ?_
        refine lv_ior hx hb dX10_init_93 ?_
        refine lv_istore_n (i := 3) (lv' := [(3, .int (x3 ||| ((1 : Int32) <<< (r25 &&& 31)))), (0, va_rf x0), (2, va_rf x2), (4, .int x4)]) hx hb dX10_init_94 rfl hl (by decide) (by simp [va_rf_cat, cat_i, cat_l]) (fun ls hl => ?_)
        refine lv_iinc (v := (x4 + (1 : Int32))) (lv' := [(4, .int (x4 + (1 : Int32))), (3, .int (x3 ||| ((1 : Int32) <<< (r25 &&& 31)))), (0, va_rf x0), (2, va_rf x2)]) hx hb dX10_init_95 hl (k := 3) rfl rfl (by decide) rfl (fun ls hl => ?_)
        refine lv_goto (tgt := 75) hx hb dX10_init_98 (by decide) ?_
        exact ih _ _ _ _ _ _ _ _ h hcl hsl hw (lv_sub hl [2, 3, 1, 0] rfl) hk
  unfold f_X10_init at h
  refine m_aload_n (x := this) hx hb dX10_init_0 rfl (lv_at hl 0 rfl) ?_
  obtain ⟨g1, h⟩ := itg h
  refine m_objInit (x := this) (isN_some g1) hC (hC.tab _ k_X10_init_oi3) (hC.tab _ k_X10_init_oj) (hC.tab _ k_X10_init_ok) hl.1 ((Nat.le_of_ble_eq_true rfl)) (Nat.le_of_ble_eq_true rfl) (Nat.le_of_ble_eq_true rfl) dX10_init_1 ?_
  refine m_aload_n (x := this) hx hb dX10_init_4 rfl (lv_at hl 0 rfl) ?_
  obtain ⟨M2, hM2, h⟩ := ob h
  refine m_new hC hw (C := RX1) (T := TX1) (N := 2) (ci := 4) (fs := [.null, .int 0]) ki_X10_init_X1 tyX1 tyX1_ok k_X10_init_n9 k_X10_init_ni9 k_X10_init_nj9 rfl (fun j hj => by match j, hj with | 0, _ => rfl | 1, _ => rfl) (Nat.le_of_ble_eq_true rfl) (Nat.le_of_ble_eq_true rfl) dX10_init_5 (fun H hw => ?_)
  rw [Option.some.inj hM2] at hw
  refine m_dup (x := (some sz)) hx hb dX10_init_8 ?_
  refine lv_iconst (v := (1 : Int32)) hx hb dX10_init_9 (by decide) ?_
  obtain ⟨r3, hr3, h⟩ := ob h
  refine m_contV hC hw (m_runI hC hw (x := (some sz)) (n := 1) (av := [.int (1 : Int32)]) (rest := [va_rf (some sz), va_rf this]) (c_X1_init (G := G) (l := l) hr3) gX10_init_X1_init k_X10_init_ml11 k_X10_init_imX1_init k_X10_init_inX1 rfl rfl (by decide +kernel) ⟨(Nat.le_of_ble_eq_true rfl), (Nat.le_of_ble_eq_true rfl)⟩ rfl rfl hl.1 rfl (by simp [va_rf_cat, cat_i, cat_r, cat_l]) dX10_init_10 ⟨(Nat.le_of_ble_eq_true rfl), (Nat.le_of_ble_eq_true rfl)⟩) (fun H locs hw => ?_)
  obtain ⟨M4, hM4, h⟩ := ob h
  refine m_putF hC hw (C := RX10) (T := TX10) (N := 9) (x := this) hM4 ki_X10_init_X10 tyX10 tyX10_ok nmX10 rfl (by decide) k_X10_init_14 (fun _ z => z) rfl hname rfl (nar_rf _ _ (by decide)) (fit_rf _ _ (by decide)) dX10_init_13 (fun H locs hw => ?_)
  refine m_aload_n (x := this) hx hb dX10_init_16 rfl (lv_at hl 0 rfl) ?_
  obtain ⟨M5, hM5, h⟩ := ob h
  refine m_new hC hw (C := RX0) (T := TX0) (N := 3) (ci := 3) (fs := [.null, .null, .int 0]) ki_X10_init_X0 tyX0 tyX0_ok k_X10_init_n20 k_X10_init_ni20 k_X10_init_nj20 rfl (fun j hj => by match j, hj with | 0, _ => rfl | 1, _ => rfl | 2, _ => rfl) (Nat.le_of_ble_eq_true rfl) (Nat.le_of_ble_eq_true rfl) dX10_init_17 (fun H hw => ?_)
  rw [Option.some.inj hM5] at hw
  refine m_dup (x := (some r3.2)) hx hb dX10_init_20 ?_
  obtain ⟨r6, hr6, h⟩ := ob h
  refine m_contV hC hw (m_runIN hC hw (x := (some r3.2)) (host := "LoanBook") (n := 0) (av := []) (rest := [va_rf (some r3.2), va_rf this]) (c_X0_init (G := G) (l := l) hr6) gX10_init_X0_init_n22 (by decide +kernel) k_X10_init_imX0_init k_X10_init_inX0 rfl rfl (by decide +kernel) ⟨(Nat.le_of_ble_eq_true rfl), (Nat.le_of_ble_eq_true rfl)⟩ rfl rfl hl.1 rfl (by simp [va_rf_cat, cat_i, cat_r, cat_l]) dX10_init_21 ⟨(Nat.le_of_ble_eq_true rfl), (Nat.le_of_ble_eq_true rfl)⟩) (fun H locs hw => ?_)
  obtain ⟨M7, hM7, h⟩ := ob h
  refine m_putF hC hw (C := RX10) (T := TX10) (N := 9) (x := this) hM7 ki_X10_init_X10 tyX10 tyX10_ok nmX10 rfl (by decide) k_X10_init_23 (fun _ z => z) rfl hname rfl (nar_rf _ _ (by decide)) (fit_rf _ _ (by decide)) dX10_init_24 (fun H locs hw => ?_)
  refine m_aload_n (x := this) hx hb dX10_init_27 rfl (lv_at hl 0 rfl) ?_
  obtain ⟨M8, hM8, h⟩ := ob h
  refine m_new hC hw (C := RJx4a65c) (T := TJx4a65c) (N := 3) (ci := 2) (fs := [.int 0, .null, .int 0]) ki_X10_init_Jx4a65c tyJx4a65c tyJx4a65c_ok k_X10_init_n27 k_X10_init_ni27 k_X10_init_nj27 rfl (fun j hj => by match j, hj with | 0, _ => rfl | 1, _ => rfl | 2, _ => rfl) (Nat.le_of_ble_eq_true rfl) (Nat.le_of_ble_eq_true rfl) dX10_init_28 (fun H hw => ?_)
  rw [Option.some.inj hM8] at hw
  refine m_dup (x := (some r6.2)) hx hb dX10_init_31 ?_
  obtain ⟨r9, hr9, h⟩ := ob h
  refine m_contV hC hw (m_runI hC hw (x := (some r6.2)) (n := 0) (av := []) (rest := [va_rf (some r6.2), va_rf this]) (c_Jx4a65c_init_da8c8 (G := G) (l := l) hr9) gX10_init_Jx4a65c_init_da8c8 k_X10_init_ml29 k_X10_init_imJx4a65c_init_da8c8 k_X10_init_inJx4a65c rfl rfl (by decide +kernel) ⟨(Nat.le_of_ble_eq_true rfl), (Nat.le_of_ble_eq_true rfl)⟩ rfl rfl hl.1 rfl (by simp [va_rf_cat, cat_i, cat_r, cat_l]) dX10_init_32 ⟨(Nat.le_of_ble_eq_true rfl), (Nat.le_of_ble_eq_true rfl)⟩) (fun H locs hw => ?_)
  obtain ⟨M10, hM10, h⟩ := ob h
  refine m_putF hC hw (C := RX10) (T := TX10) (N := 9) (x := this) hM10 ki_X10_init_X10 tyX10 tyX10_ok nmX10 rfl (by decide) k_X10_init_30 (fun _ z => z) rfl hname rfl (nar_rf _ _ (by decide)) (fit_rf _ _ (by decide)) dX10_init_35 (fun H locs hw => ?_)
  refine m_aload_n (x := this) hx hb dX10_init_38 rfl (lv_at hl 0 rfl) ?_
  refine lv_iload_n hx hb dX10_init_39 rfl (lv_at hl 1 rfl) ?_
  obtain ⟨M11, hM11, h⟩ := ob h
  refine m_putF hC hw (C := RX10) (T := TX10) (N := 9) (x := this) hM11 ki_X10_init_X10 tyX10 tyX10_ok nmX10 rfl (by decide) k_X10_init_34 (fun _ z => z) rfl hname rfl rfl rfl dX10_init_40 (fun H locs hw => ?_)
  refine m_aload_n (x := this) hx hb dX10_init_43 rfl (lv_at hl 0 rfl) ?_
  refine m_aload_n (x := a2) hx hb dX10_init_44 rfl (lv_at hl 2 rfl) ?_
  refine lv_iconst (v := (0 : Int32)) hx hb dX10_init_45 (by decide) ?_
  obtain ⟨g12, h⟩ := itg h
  obtain ⟨r13, hr13, h⟩ := ob h
  refine m_contI hC hw (m_runV hC hw (x := a2) (ci := 10) (N := 5) (C := RX7) (T := TX7) (n := 1) (av := [.int (0 : Int32)]) (rest := [va_rf this]) (c_X7_told (G := G) (l := l) hr13) gX10_init_X7_told rfl (by decide +kernel) ⟨(Nat.le_of_ble_eq_true rfl), (Nat.le_of_ble_eq_true rfl)⟩ g12 rfl rfl hl.1 rfl (by simp [va_rf_cat, cat_i, cat_r, cat_l]) dX10_init_46 ⟨(Nat.le_of_ble_eq_true rfl), (Nat.le_of_ble_eq_true rfl)⟩) (fun H locs hw => ?_)
  obtain ⟨M14, hM14, h⟩ := ob h
  refine m_putF hC hw (C := RX10) (T := TX10) (N := 9) (x := this) hM14 ki_X10_init_X10 tyX10 tyX10_ok nmX10 rfl (by decide) k_X10_init_44 (fun _ z => z) rfl hname rfl rfl rfl dX10_init_49 (fun H locs hw => ?_)
  refine m_aload_n (x := this) hx hb dX10_init_52 rfl (lv_at hl 0 rfl) ?_
  refine m_aload_n (x := a2) hx hb dX10_init_53 rfl (lv_at hl 2 rfl) ?_
  refine lv_iconst (v := (1 : Int32)) hx hb dX10_init_54 (by decide) ?_
  obtain ⟨g15, h⟩ := itg h
  obtain ⟨r16, hr16, h⟩ := ob h
  refine m_contI hC hw (m_runV hC hw (x := a2) (ci := 10) (N := 5) (C := RX7) (T := TX7) (n := 1) (av := [.int (1 : Int32)]) (rest := [va_rf this]) (c_X7_told (G := G) (l := l) hr16) gX10_init_X7_told rfl (by decide +kernel) ⟨(Nat.le_of_ble_eq_true rfl), (Nat.le_of_ble_eq_true rfl)⟩ g15 rfl rfl hl.1 rfl (by simp [va_rf_cat, cat_i, cat_r, cat_l]) dX10_init_55 ⟨(Nat.le_of_ble_eq_true rfl), (Nat.le_of_ble_eq_true rfl)⟩) (fun H locs hw => ?_)
  obtain ⟨M17, hM17, h⟩ := ob h
  refine m_putF hC hw (C := RX10) (T := TX10) (N := 9) (x := this) hM17 ki_X10_init_X10 tyX10 tyX10_ok nmX10 rfl (by decide) k_X10_init_47 (fun _ z => z) rfl hname rfl rfl rfl dX10_init_58 (fun H locs hw => ?_)
  refine m_aload_n (x := this) hx hb dX10_init_61 rfl (lv_at hl 0 rfl) ?_
  refine m_aload_n (x := a2) hx hb dX10_init_62 rfl (lv_at hl 2 rfl) ?_
  refine lv_iconst (v := (2 : Int32)) hx hb dX10_init_63 (by decide) ?_
  obtain ⟨g18, h⟩ := itg h
  obtain ⟨r19, hr19, h⟩ := ob h
  refine m_contI hC hw (m_runV hC hw (x := a2) (ci := 10) (N := 5) (C := RX7) (T := TX7) (n := 1) (av := [.int (2 : Int32)]) (rest := [va_rf this]) (c_X7_told (G := G) (l := l) hr19) gX10_init_X7_told rfl (by decide +kernel) ⟨(Nat.le_of_ble_eq_true rfl), (Nat.le_of_ble_eq_true rfl)⟩ g18 rfl rfl hl.1 rfl (by simp [va_rf_cat, cat_i, cat_r, cat_l]) dX10_init_64 ⟨(Nat.le_of_ble_eq_true rfl), (Nat.le_of_ble_eq_true rfl)⟩) (fun H locs hw => ?_)
  obtain ⟨M20, hM20, h⟩ := ob h
  refine m_putF hC hw (C := RX10) (T := TX10) (N := 9) (x := this) hM20 ki_X10_init_X10 tyX10 tyX10_ok nmX10 rfl (by decide) k_X10_init_50 (fun _ z => z) rfl hname rfl rfl rfl dX10_init_67 (fun H locs hw => ?_)
  refine lv_iconst (v := (0 : Int32)) hx hb dX10_init_70 (by decide) ?_
  refine lv_istore_n (i := 3) (lv' := [(3, .int (0 : Int32)), (0, va_rf this), (1, .int a1), (2, va_rf a2)]) hx hb dX10_init_71 rfl hl (by decide) (by simp [va_rf_cat, cat_i, cat_l]) (fun ls hl => ?_)
  refine lv_iconst (v := (3 : Int32)) hx hb dX10_init_72 (by decide) ?_
  refine lv_istore (lv' := [(4, .int (3 : Int32)), (3, .int (0 : Int32)), (0, va_rf this), (1, .int a1), (2, va_rf a2)]) hx hb dX10_init_73 hl (by decide) rfl (fun ls hl => ?_)
  obtain ⟨o26, ho26, h⟩ := ob h
  refine L75 M20 (r6.2 + 1) this a2 _ _ _ _ _ _ _ _ _ ho26 (Nat.le_of_ble_eq_true rfl) (Nat.le_of_ble_eq_true rfl) hw (lv_sub hl [2, 4, 1, 0] rfl) (fun H locs ls hw hl => ?_)
  refine m_aload_n (x := this) hx hb dX10_init_101 rfl (lv_at hl 0 rfl) ?_
  refine lv_iload_n hx hb dX10_init_102 rfl (lv_at hl 1 rfl) ?_
  obtain ⟨M27, hM27, h⟩ := ob h
  refine m_putF hC hw (C := RX10) (T := TX10) (N := 9) (x := this) hM27 ki_X10_init_X10 tyX10 tyX10_ok nmX10 rfl (by decide) k_X10_init_57 (fun _ z => z) rfl hname rfl rfl rfl dX10_init_103 (fun H locs hw => ?_)
  refine m_aload_n (x := this) hx hb dX10_init_106 rfl (lv_at hl 0 rfl) ?_
  refine m_aload_n (x := this) hx hb dX10_init_107 rfl (lv_at hl 0 rfl) ?_
  obtain ⟨v28, hv28, h⟩ := ob h
  refine m_getI hC hw (C := RX10) (T := TX10) (N := 9) hv28 ki_X10_init_X10 rfl (by decide) k_X10_init_44 (fun _ z => z) dX10_init_108 ?_
  refine m_aload_n (x := this) hx hb dX10_init_111 rfl (lv_at hl 0 rfl) ?_
  obtain ⟨v29, hv29, h⟩ := ob h
  refine m_getI hC hw (C := RX10) (T := TX10) (N := 9) hv29 ki_X10_init_X10 rfl (by decide) k_X10_init_47 (fun _ z => z) dX10_init_112 ?_
  refine m_aload_n (x := this) hx hb dX10_init_115 rfl (lv_at hl 0 rfl) ?_
  obtain ⟨v30, hv30, h⟩ := ob h
  refine m_getI hC hw (C := RX10) (T := TX10) (N := 9) hv30 ki_X10_init_X10 rfl (by decide) k_X10_init_50 (fun _ z => z) dX10_init_116 ?_
  refine m_aload_n (x := this) hx hb dX10_init_119 rfl (lv_at hl 0 rfl) ?_
  obtain ⟨v31, hv31, h⟩ := ob h
  refine m_getI hC hw (C := RX10) (T := TX10) (N := 9) hv31 ki_X10_init_X10 rfl (by decide) k_X10_init_57 (fun _ z => z) dX10_init_120 ?_
  obtain ⟨r32, hr32, h⟩ := ob h
  refine m_contQ hC hw (m_runS hC hw (n := 4) (av := [.int v28, .int v29, .int v30, .int v31]) (rest := [va_rf this]) (c_X10_write (G := G) (l := l) hr32) gX10_init_X10_write rfl (by decide +kernel) ⟨(Nat.le_of_ble_eq_true rfl), (Nat.le_of_ble_eq_true rfl)⟩ rfl hl.1 rfl (by simp [va_rf_cat, cat_i, cat_r, cat_l]) dX10_init_123 ⟨(Nat.le_of_ble_eq_true rfl), (Nat.le_of_ble_eq_true rfl)⟩) (fun H locs hw => ?_)
  obtain ⟨M33, hM33, h⟩ := ob h
  refine m_putF hC hw (C := RX10) (T := TX10) (N := 9) (x := this) hM33 ki_X10_init_X10 tyX10 tyX10_ok nmX10 rfl (by decide) k_X10_init_64 (fun _ z => z) rfl hname rfl (nar_rf _ _ (by decide)) (fit_rf _ _ (by decide)) dX10_init_126 (fun H locs hw => ?_)
  replace h := Option.some.inj h
  subst h
  exact RET hw ⟨(Nat.le_of_ble_eq_true rfl), (Nat.le_of_ble_eq_true rfl)⟩ dX10_init_129

def f_X7_readsHouse (B : Nat) (M : Mem) (this : Option Nat) : Option (Int32 × Mem) := if isO M this 10 = true then ((f_X7_takesNumber B M this).bind fun r2 => if r2.1 = 0 then (some ((0 : Int32), r2.2)) else (if isO r2.2 this 10 = true then ((f_X7_takesNumber B r2.2 this).bind fun r5 => if r5.1 = 0 then (some ((0 : Int32), r5.2)) else (if isO r5.2 this 10 = true then ((f_X7_takesNumber B r5.2 this).bind fun r8 => if r8.1 = 0 then (some ((0 : Int32), r8.2)) else (if isO r8.2 this 10 = true then ((f_X7_takesNumber B r8.2 this).bind fun r11 => if r11.1 = 0 then (some ((0 : Int32), r11.2)) else (if isO r11.2 this 10 = true then ((f_X7_isAtEnd B r11.2 this).bind fun r14 => if r14.1 = 0 then (some ((0 : Int32), r14.2)) else (some ((1 : Int32), r14.2))) else none)) else none)) else none)) else none)) else none
def rmX7_readsHouse : Room := { frames := 3, cells := 0, slots := 0, locals := 61 }
set_option maxHeartbeats 4000000 in
set_option maxRecDepth 100000 in
theorem c_X7_readsHouse {G : wG} {l : Launch} {M : Mem} {sz : Nat} {this : Option Nat} {r : Int32 × Mem} (h : f_X7_readsHouse G.2.2.1 M this = some r) : CtrI G l yX7_readsHouse wsX7_readsHouse rmX7_readsHouse [va_rf this] M sz r.1 r.2 sz := by
  refine m_startZ (own := RX7) (cc := cX7_readsHouse) (maxL := 1) (lv0 := [(0, va_rf this)]) (by decide) rfl rfl (by simp [lg_sl, va_rf_cat, cat_i, cat_r]) (by simp [lv_args, va_rf_cat, cat_i, cat_r]) ?_
  intro p e s m args below meth c Q hC hname RET hsz hw ls hl
  have hx := hC.1
  have hb := hC.2.1
  unfold f_X7_readsHouse at h
  refine m_aload_n (x := this) hx hb dX7_readsHouse_0 rfl (lv_at hl 0 rfl) ?_
  obtain ⟨g1, h⟩ := itg h
  obtain ⟨r2, hr2, h⟩ := ob h
  refine m_contI hC hw (m_runV hC hw (x := this) (ci := 10) (N := 5) (C := RX7) (T := TX7) (n := 0) (av := []) (rest := []) (c_X7_takesNumber (G := G) (l := l) hr2) gX7_readsHouse_X7_takesNumber rfl (by decide +kernel) ⟨(Nat.le_of_ble_eq_true rfl), (Nat.le_of_ble_eq_true rfl)⟩ g1 rfl rfl hl.1 rfl (Nat.le_of_ble_eq_true rfl) dX7_readsHouse_1 ⟨(Nat.zero_le _), (Nat.zero_le _)⟩) (fun H locs hw => ?_)
  refine lv_if_eq (tgt := 39) hx hb dX7_readsHouse_4 (by decide) (fun c3 => ?_) (fun c3 => ?_)
  · replace h := itt h c3
    refine lv_iconst (v := (0 : Int32)) hx hb dX7_readsHouse_39 (by decide) ?_
    replace h := Option.some.inj h
    subst h
    exact RET (isZ.nar (Or.inl rfl)) hw ⟨(Nat.zero_le _), (Nat.zero_le _)⟩ dX7_readsHouse_40
  · replace h := itf h c3
    refine m_aload_n (x := this) hx hb dX7_readsHouse_7 rfl (lv_at hl 0 rfl) ?_
    obtain ⟨g4, h⟩ := itg h
    obtain ⟨r5, hr5, h⟩ := ob h
    refine m_contI hC hw (m_runV hC hw (x := this) (ci := 10) (N := 5) (C := RX7) (T := TX7) (n := 0) (av := []) (rest := []) (c_X7_takesNumber (G := G) (l := l) hr5) gX7_readsHouse_X7_takesNumber rfl (by decide +kernel) ⟨(Nat.le_of_ble_eq_true rfl), (Nat.le_of_ble_eq_true rfl)⟩ g4 rfl rfl hl.1 rfl (Nat.le_of_ble_eq_true rfl) dX7_readsHouse_8 ⟨(Nat.zero_le _), (Nat.zero_le _)⟩) (fun H locs hw => ?_)
    refine lv_if_eq (tgt := 39) hx hb dX7_readsHouse_11 (by decide) (fun c6 => ?_) (fun c6 => ?_)
    · replace h := itt h c6
      refine lv_iconst (v := (0 : Int32)) hx hb dX7_readsHouse_39 (by decide) ?_
      replace h := Option.some.inj h
      subst h
      exact RET (isZ.nar (Or.inl rfl)) hw ⟨(Nat.zero_le _), (Nat.zero_le _)⟩ dX7_readsHouse_40
    · replace h := itf h c6
      refine m_aload_n (x := this) hx hb dX7_readsHouse_14 rfl (lv_at hl 0 rfl) ?_
      obtain ⟨g7, h⟩ := itg h
      obtain ⟨r8, hr8, h⟩ := ob h
      refine m_contI hC hw (m_runV hC hw (x := this) (ci := 10) (N := 5) (C := RX7) (T := TX7) (n := 0) (av := []) (rest := []) (c_X7_takesNumber (G := G) (l := l) hr8) gX7_readsHouse_X7_takesNumber rfl (by decide +kernel) ⟨(Nat.le_of_ble_eq_true rfl), (Nat.le_of_ble_eq_true rfl)⟩ g7 rfl rfl hl.1 rfl (Nat.le_of_ble_eq_true rfl) dX7_readsHouse_15 ⟨(Nat.zero_le _), (Nat.zero_le _)⟩) (fun H locs hw => ?_)
      refine lv_if_eq (tgt := 39) hx hb dX7_readsHouse_18 (by decide) (fun c9 => ?_) (fun c9 => ?_)
      · replace h := itt h c9
        refine lv_iconst (v := (0 : Int32)) hx hb dX7_readsHouse_39 (by decide) ?_
        replace h := Option.some.inj h
        subst h
        exact RET (isZ.nar (Or.inl rfl)) hw ⟨(Nat.zero_le _), (Nat.zero_le _)⟩ dX7_readsHouse_40
      · replace h := itf h c9
        refine m_aload_n (x := this) hx hb dX7_readsHouse_21 rfl (lv_at hl 0 rfl) ?_
        obtain ⟨g10, h⟩ := itg h
        obtain ⟨r11, hr11, h⟩ := ob h
        refine m_contI hC hw (m_runV hC hw (x := this) (ci := 10) (N := 5) (C := RX7) (T := TX7) (n := 0) (av := []) (rest := []) (c_X7_takesNumber (G := G) (l := l) hr11) gX7_readsHouse_X7_takesNumber rfl (by decide +kernel) ⟨(Nat.le_of_ble_eq_true rfl), (Nat.le_of_ble_eq_true rfl)⟩ g10 rfl rfl hl.1 rfl (Nat.le_of_ble_eq_true rfl) dX7_readsHouse_22 ⟨(Nat.zero_le _), (Nat.zero_le _)⟩) (fun H locs hw => ?_)
        refine lv_if_eq (tgt := 39) hx hb dX7_readsHouse_25 (by decide) (fun c12 => ?_) (fun c12 => ?_)
        · replace h := itt h c12
          refine lv_iconst (v := (0 : Int32)) hx hb dX7_readsHouse_39 (by decide) ?_
          replace h := Option.some.inj h
          subst h
          exact RET (isZ.nar (Or.inl rfl)) hw ⟨(Nat.zero_le _), (Nat.zero_le _)⟩ dX7_readsHouse_40
        · replace h := itf h c12
          refine m_aload_n (x := this) hx hb dX7_readsHouse_28 rfl (lv_at hl 0 rfl) ?_
          obtain ⟨g13, h⟩ := itg h
          obtain ⟨r14, hr14, h⟩ := ob h
          refine m_contI hC hw (m_runV hC hw (x := this) (ci := 10) (N := 5) (C := RX7) (T := TX7) (n := 0) (av := []) (rest := []) (c_X7_isAtEnd (G := G) (l := l) hr14) gX7_readsHouse_X7_isAtEnd rfl (by decide +kernel) ⟨(Nat.le_of_ble_eq_true rfl), (Nat.le_of_ble_eq_true rfl)⟩ g13 rfl rfl hl.1 rfl (Nat.le_of_ble_eq_true rfl) dX7_readsHouse_29 ⟨(Nat.zero_le _), (Nat.zero_le _)⟩) (fun H locs hw => ?_)
          refine lv_if_eq (tgt := 39) hx hb dX7_readsHouse_32 (by decide) (fun c15 => ?_) (fun c15 => ?_)
          · replace h := itt h c15
            refine lv_iconst (v := (0 : Int32)) hx hb dX7_readsHouse_39 (by decide) ?_
            replace h := Option.some.inj h
            subst h
            exact RET (isZ.nar (Or.inl rfl)) hw ⟨(Nat.zero_le _), (Nat.zero_le _)⟩ dX7_readsHouse_40
          · replace h := itf h c15
            refine lv_iconst (v := (1 : Int32)) hx hb dX7_readsHouse_35 (by decide) ?_
            refine lv_goto (tgt := 40) hx hb dX7_readsHouse_36 (by decide) ?_
            replace h := Option.some.inj h
            subst h
            exact RET (isZ.nar (Or.inr rfl)) hw ⟨(Nat.zero_le _), (Nat.zero_le _)⟩ dX7_readsHouse_40

def f_X3_faultIn (M : Mem) (a1 : Option Nat) : Option (Int32) := if isO M a1 10 = true then ((f_X7_told M a1 (0 : Int32)).bind fun r2 => if r2 < (1 : Int32) then (some (3 : Int32)) else (if isO M a1 10 = true then ((f_X7_told M a1 (0 : Int32)).bind fun r6 => if (30 : Int32) < r6 then (some (3 : Int32)) else (if isO M a1 10 = true then ((f_X7_told M a1 (1 : Int32)).bind fun r10 => if r10 < (1 : Int32) then (some (3 : Int32)) else (if isO M a1 10 = true then ((f_X7_told M a1 (3 : Int32)).bind fun r14 => if r14 < (1 : Int32) then (some (3 : Int32)) else (if isO M a1 10 = true then ((f_X7_told M a1 (3 : Int32)).bind fun r18 => if (99 : Int32) < r18 then (some (3 : Int32)) else (some (0 : Int32))) else none)) else none)) else none)) else none)) else none
def rmX3_faultIn : Room := { frames := 1, cells := 0, slots := 0, locals := 21 }
set_option maxHeartbeats 4000000 in
set_option maxRecDepth 100000 in
theorem c_X3_faultIn {G : wG} {l : Launch} {M : Mem} {sz : Nat} {a1 : Option Nat} {r : Int32} (h : f_X3_faultIn M a1 = some r) : CtrI G l yX3_faultIn wsX3_faultIn rmX3_faultIn [va_rf a1] M sz r M sz := by
  refine m_startI (own := RX3) (cc := cX3_faultIn) (maxL := 2) (lv0 := [(0, va_rf a1)]) (by decide) rfl rfl (by simp [lg_sl, va_rf_cat, cat_i, cat_r]) (by simp [lv_args, va_rf_cat, cat_i, cat_r]) ?_
  intro p e s m args below meth c Q hC hname RET hsz hw ls hl
  have hx := hC.1
  have hb := hC.2.1
  unfold f_X3_faultIn at h
  refine m_aload_n (x := a1) hx hb dX3_faultIn_0 rfl (lv_at hl 0 rfl) ?_
  refine lv_iconst (v := (0 : Int32)) hx hb dX3_faultIn_1 (by decide) ?_
  obtain ⟨g1, h⟩ := itg h
  obtain ⟨r2, hr2, h⟩ := ob h
  refine m_contI hC hw (m_runV hC hw (x := a1) (ci := 10) (N := 5) (C := RX7) (T := TX7) (n := 1) (av := [.int (0 : Int32)]) (rest := []) (c_X7_told (G := G) (l := l) hr2) gX3_faultIn_X7_told rfl (by decide +kernel) ⟨(Nat.le_of_ble_eq_true rfl), (Nat.le_of_ble_eq_true rfl)⟩ g1 rfl rfl hl.1 rfl (Nat.le_of_ble_eq_true rfl) dX3_faultIn_2 ⟨(Nat.zero_le _), (Nat.zero_le _)⟩) (fun H locs hw => ?_)
  refine lv_iconst (v := (1 : Int32)) hx hb dX3_faultIn_5 (by decide) ?_
  refine lv_icmp_lt (tgt := 51) hx hb dX3_faultIn_6 (by decide) (fun c3 => ?_) (fun c3 => ?_)
  · replace h := itt h c3
    refine lv_iconst (v := (0 : Int32)) hx hb dX3_faultIn_51 (by decide) ?_
    refine lv_istore_n (i := 1) (lv' := [(1, .int (0 : Int32)), (0, va_rf a1)]) hx hb dX3_faultIn_52 rfl hl (by decide) (by simp [va_rf_cat, cat_i, cat_l]) (fun ls hl => ?_)
    refine lv_iload_n hx hb dX3_faultIn_53 rfl (lv_at hl 0 rfl) ?_
    refine lv_if_eq (tgt := 61) hx hb dX3_faultIn_54 (by decide) (fun _ => ?_) (fun c4 => ?_)
    · refine lv_iconst (v := (3 : Int32)) hx hb dX3_faultIn_61 (by decide) ?_
      replace h := Option.some.inj h
      subst h
      exact RET hw ⟨(Nat.zero_le _), (Nat.zero_le _)⟩ dX3_faultIn_62
    · first | exact absurd c4 (by decide) | exact (c4 (by decide)).elim | exact absurd rfl c4 | cases c4
  · replace h := itf h c3
    refine m_aload_n (x := a1) hx hb dX3_faultIn_9 rfl (lv_at hl 0 rfl) ?_
    refine lv_iconst (v := (0 : Int32)) hx hb dX3_faultIn_10 (by decide) ?_
    obtain ⟨g5, h⟩ := itg h
    obtain ⟨r6, hr6, h⟩ := ob h
    refine m_contI hC hw (m_runV hC hw (x := a1) (ci := 10) (N := 5) (C := RX7) (T := TX7) (n := 1) (av := [.int (0 : Int32)]) (rest := []) (c_X7_told (G := G) (l := l) hr6) gX3_faultIn_X7_told rfl (by decide +kernel) ⟨(Nat.le_of_ble_eq_true rfl), (Nat.le_of_ble_eq_true rfl)⟩ g5 rfl rfl hl.1 rfl (Nat.le_of_ble_eq_true rfl) dX3_faultIn_11 ⟨(Nat.zero_le _), (Nat.zero_le _)⟩) (fun H locs hw => ?_)
    refine lv_bipush (v := (30 : Int32)) hx hb dX3_faultIn_14 (by decide) ?_
    refine lv_icmp_gt (tgt := 51) hx hb dX3_faultIn_16 (by decide) (fun c7 => ?_) (fun c7 => ?_)
    · replace h := itt h c7
      refine lv_iconst (v := (0 : Int32)) hx hb dX3_faultIn_51 (by decide) ?_
      refine lv_istore_n (i := 1) (lv' := [(1, .int (0 : Int32)), (0, va_rf a1)]) hx hb dX3_faultIn_52 rfl hl (by decide) (by simp [va_rf_cat, cat_i, cat_l]) (fun ls hl => ?_)
      refine lv_iload_n hx hb dX3_faultIn_53 rfl (lv_at hl 0 rfl) ?_
      refine lv_if_eq (tgt := 61) hx hb dX3_faultIn_54 (by decide) (fun _ => ?_) (fun c8 => ?_)
      · refine lv_iconst (v := (3 : Int32)) hx hb dX3_faultIn_61 (by decide) ?_
        replace h := Option.some.inj h
        subst h
        exact RET hw ⟨(Nat.zero_le _), (Nat.zero_le _)⟩ dX3_faultIn_62
      · first | exact absurd c8 (by decide) | exact (c8 (by decide)).elim | exact absurd rfl c8 | cases c8
    · replace h := itf h c7
      refine m_aload_n (x := a1) hx hb dX3_faultIn_19 rfl (lv_at hl 0 rfl) ?_
      refine lv_iconst (v := (1 : Int32)) hx hb dX3_faultIn_20 (by decide) ?_
      obtain ⟨g9, h⟩ := itg h
      obtain ⟨r10, hr10, h⟩ := ob h
      refine m_contI hC hw (m_runV hC hw (x := a1) (ci := 10) (N := 5) (C := RX7) (T := TX7) (n := 1) (av := [.int (1 : Int32)]) (rest := []) (c_X7_told (G := G) (l := l) hr10) gX3_faultIn_X7_told rfl (by decide +kernel) ⟨(Nat.le_of_ble_eq_true rfl), (Nat.le_of_ble_eq_true rfl)⟩ g9 rfl rfl hl.1 rfl (Nat.le_of_ble_eq_true rfl) dX3_faultIn_21 ⟨(Nat.zero_le _), (Nat.zero_le _)⟩) (fun H locs hw => ?_)
      refine lv_iconst (v := (1 : Int32)) hx hb dX3_faultIn_24 (by decide) ?_
      refine lv_icmp_lt (tgt := 51) hx hb dX3_faultIn_25 (by decide) (fun c11 => ?_) (fun c11 => ?_)
      · replace h := itt h c11
        refine lv_iconst (v := (0 : Int32)) hx hb dX3_faultIn_51 (by decide) ?_
        refine lv_istore_n (i := 1) (lv' := [(1, .int (0 : Int32)), (0, va_rf a1)]) hx hb dX3_faultIn_52 rfl hl (by decide) (by simp [va_rf_cat, cat_i, cat_l]) (fun ls hl => ?_)
        refine lv_iload_n hx hb dX3_faultIn_53 rfl (lv_at hl 0 rfl) ?_
        refine lv_if_eq (tgt := 61) hx hb dX3_faultIn_54 (by decide) (fun _ => ?_) (fun c12 => ?_)
        · refine lv_iconst (v := (3 : Int32)) hx hb dX3_faultIn_61 (by decide) ?_
          replace h := Option.some.inj h
          subst h
          exact RET hw ⟨(Nat.zero_le _), (Nat.zero_le _)⟩ dX3_faultIn_62
        · first | exact absurd c12 (by decide) | exact (c12 (by decide)).elim | exact absurd rfl c12 | cases c12
      · replace h := itf h c11
        refine m_aload_n (x := a1) hx hb dX3_faultIn_28 rfl (lv_at hl 0 rfl) ?_
        refine lv_iconst (v := (3 : Int32)) hx hb dX3_faultIn_29 (by decide) ?_
        obtain ⟨g13, h⟩ := itg h
        obtain ⟨r14, hr14, h⟩ := ob h
        refine m_contI hC hw (m_runV hC hw (x := a1) (ci := 10) (N := 5) (C := RX7) (T := TX7) (n := 1) (av := [.int (3 : Int32)]) (rest := []) (c_X7_told (G := G) (l := l) hr14) gX3_faultIn_X7_told rfl (by decide +kernel) ⟨(Nat.le_of_ble_eq_true rfl), (Nat.le_of_ble_eq_true rfl)⟩ g13 rfl rfl hl.1 rfl (Nat.le_of_ble_eq_true rfl) dX3_faultIn_30 ⟨(Nat.zero_le _), (Nat.zero_le _)⟩) (fun H locs hw => ?_)
        refine lv_iconst (v := (1 : Int32)) hx hb dX3_faultIn_33 (by decide) ?_
        refine lv_icmp_lt (tgt := 51) hx hb dX3_faultIn_34 (by decide) (fun c15 => ?_) (fun c15 => ?_)
        · replace h := itt h c15
          refine lv_iconst (v := (0 : Int32)) hx hb dX3_faultIn_51 (by decide) ?_
          refine lv_istore_n (i := 1) (lv' := [(1, .int (0 : Int32)), (0, va_rf a1)]) hx hb dX3_faultIn_52 rfl hl (by decide) (by simp [va_rf_cat, cat_i, cat_l]) (fun ls hl => ?_)
          refine lv_iload_n hx hb dX3_faultIn_53 rfl (lv_at hl 0 rfl) ?_
          refine lv_if_eq (tgt := 61) hx hb dX3_faultIn_54 (by decide) (fun _ => ?_) (fun c16 => ?_)
          · refine lv_iconst (v := (3 : Int32)) hx hb dX3_faultIn_61 (by decide) ?_
            replace h := Option.some.inj h
            subst h
            exact RET hw ⟨(Nat.zero_le _), (Nat.zero_le _)⟩ dX3_faultIn_62
          · first | exact absurd c16 (by decide) | exact (c16 (by decide)).elim | exact absurd rfl c16 | cases c16
        · replace h := itf h c15
          refine m_aload_n (x := a1) hx hb dX3_faultIn_37 rfl (lv_at hl 0 rfl) ?_
          refine lv_iconst (v := (3 : Int32)) hx hb dX3_faultIn_38 (by decide) ?_
          obtain ⟨g17, h⟩ := itg h
          obtain ⟨r18, hr18, h⟩ := ob h
          refine m_contI hC hw (m_runV hC hw (x := a1) (ci := 10) (N := 5) (C := RX7) (T := TX7) (n := 1) (av := [.int (3 : Int32)]) (rest := []) (c_X7_told (G := G) (l := l) hr18) gX3_faultIn_X7_told rfl (by decide +kernel) ⟨(Nat.le_of_ble_eq_true rfl), (Nat.le_of_ble_eq_true rfl)⟩ g17 rfl rfl hl.1 rfl (Nat.le_of_ble_eq_true rfl) dX3_faultIn_39 ⟨(Nat.zero_le _), (Nat.zero_le _)⟩) (fun H locs hw => ?_)
          refine lv_bipush (v := (99 : Int32)) hx hb dX3_faultIn_42 (by decide) ?_
          refine lv_icmp_gt (tgt := 51) hx hb dX3_faultIn_44 (by decide) (fun c19 => ?_) (fun c19 => ?_)
          · replace h := itt h c19
            refine lv_iconst (v := (0 : Int32)) hx hb dX3_faultIn_51 (by decide) ?_
            refine lv_istore_n (i := 1) (lv' := [(1, .int (0 : Int32)), (0, va_rf a1)]) hx hb dX3_faultIn_52 rfl hl (by decide) (by simp [va_rf_cat, cat_i, cat_l]) (fun ls hl => ?_)
            refine lv_iload_n hx hb dX3_faultIn_53 rfl (lv_at hl 0 rfl) ?_
            refine lv_if_eq (tgt := 61) hx hb dX3_faultIn_54 (by decide) (fun _ => ?_) (fun c20 => ?_)
            · refine lv_iconst (v := (3 : Int32)) hx hb dX3_faultIn_61 (by decide) ?_
              replace h := Option.some.inj h
              subst h
              exact RET hw ⟨(Nat.zero_le _), (Nat.zero_le _)⟩ dX3_faultIn_62
            · first | exact absurd c20 (by decide) | exact (c20 (by decide)).elim | exact absurd rfl c20 | cases c20
          · replace h := itf h c19
            refine lv_iconst (v := (1 : Int32)) hx hb dX3_faultIn_47 (by decide) ?_
            refine lv_goto (tgt := 52) hx hb dX3_faultIn_48 (by decide) ?_
            refine lv_istore_n (i := 1) (lv' := [(1, .int (1 : Int32)), (0, va_rf a1)]) hx hb dX3_faultIn_52 rfl hl (by decide) (by simp [va_rf_cat, cat_i, cat_l]) (fun ls hl => ?_)
            refine lv_iload_n hx hb dX3_faultIn_53 rfl (lv_at hl 0 rfl) ?_
            refine lv_if_eq (tgt := 61) hx hb dX3_faultIn_54 (by decide) (fun c21 => ?_) (fun _ => ?_)
            · first | exact absurd c21 (by decide) | exact (c21 (by decide)).elim | exact absurd rfl c21 | cases c21
            · refine lv_iconst (v := (0 : Int32)) hx hb dX3_faultIn_57 (by decide) ?_
              refine lv_goto (tgt := 62) hx hb dX3_faultIn_58 (by decide) ?_
              replace h := Option.some.inj h
              subst h
              exact RET hw ⟨(Nat.zero_le _), (Nat.zero_le _)⟩ dX3_faultIn_62

def f_X3_init (B : Nat) (S : Nat → Nat) (n : Nat) (M : Mem) (sz : Nat) (this : Option Nat) (a1 : Option Nat) : Option (Mem × Nat) := if this ≠ none then (if isO M a1 10 = true then ((f_X7_told M a1 (0 : Int32)).bind fun r3 => (pF B M this 6 0 (.int r3)).bind fun M4 => if isO M4 a1 10 = true then ((f_X7_told M4 a1 (1 : Int32)).bind fun r6 => (pF B M4 this 6 1 (.int r6)).bind fun M7 => if isO M7 a1 10 = true then ((f_X7_told M7 a1 (2 : Int32)).bind fun r9 => (pF B M7 this 6 2 (.int r9)).bind fun M10 => if isO M10 a1 10 = true then ((f_X7_told M10 a1 (3 : Int32)).bind fun r12 => (pF B M10 this 6 3 (.int r12)).bind fun M13 => (some (va_up M13 sz (some (.inl (1, [.null, .int 0, .int 0, .int 0]))))).bind fun M14 => (f_J4_init_da8c8 B M14 (sz + 1) (some sz)).bind fun r15 => (gI r15.1 this 6 0).bind fun v16 => if isO r15.1 (some sz) 1 = true then ((f_J4_append_bf812 B S n r15.1 r15.2 (some sz) v16).bind fun r18 => if isO r18.2.1 r18.1 1 = true then ((f_J4_append_cf468 B r18.2.1 r18.2.2 r18.1 (32 : Int32)).bind fun r20 => (gI r20.2.1 this 6 1).bind fun v21 => if isO r20.2.1 r20.1 1 = true then ((f_J4_append_bf812 B S n r20.2.1 r20.2.2 r20.1 v21).bind fun r23 => if isO r23.2.1 r23.1 1 = true then ((f_J4_append_cf468 B r23.2.1 r23.2.2 r23.1 (32 : Int32)).bind fun r25 => (gI r25.2.1 this 6 2).bind fun v26 => if isO r25.2.1 r25.1 1 = true then ((f_J4_append_bf812 B S n r25.2.1 r25.2.2 r25.1 v26).bind fun r28 => if isO r28.2.1 r28.1 1 = true then ((f_J4_append_cf468 B r28.2.1 r28.2.2 r28.1 (32 : Int32)).bind fun r30 => (gI r30.2.1 this 6 3).bind fun v31 => if isO r30.2.1 r30.1 1 = true then ((f_J4_append_bf812 B S n r30.2.1 r30.2.2 r30.1 v31).bind fun r33 => if isO r33.2.1 (some sz) 1 = true then ((f_J4_toString_0e30d B r33.2.1 r33.2.2 (some sz)).bind fun r35 => (pF B r35.2.1 this 6 4 (va_rf r35.1)).bind fun M36 => some (M36, r35.2.2)) else none) else none) else none) else none) else none) else none) else none) else none) else none) else none) else none) else none) else none
def rmX3_init : Room := { frames := 6, cells := 11, slots := 2472, locals := 171 }
theorem k_X3_init_oi3 : Cond.methodLink RX3 3 objectInit ∈ wsX3_init := List.mem_of_getElem? (i := 1) rfl
theorem k_X3_init_oj : Cond.instanceMethod objectInit ∈ wsX3_init := List.mem_of_getElem? (i := 2) rfl
theorem k_X3_init_ok : Cond.code objectInit ⟨#[0xb1]⟩ 1 none ∈ wsX3_init := List.mem_of_getElem? (i := 3) rfl
theorem k_X3_init_15 : Cond.fieldLink RX3 15 "LoanBook$House" "way" "I" ∈ wsX3_init := List.mem_of_getElem? (i := 4) rfl
theorem ki_X3_init_X3 : ∀ w ∈ u_ws RX3 TX3 5, w ∈ wsX3_init := sub_r [230, 231, 232, 233, 234] (by decide +kernel)
theorem k_X3_init_21 : Cond.fieldLink RX3 21 "LoanBook$House" "limit" "I" ∈ wsX3_init := List.mem_of_getElem? (i := 5) rfl
theorem k_X3_init_24 : Cond.fieldLink RX3 24 "LoanBook$House" "guard" "I" ∈ wsX3_init := List.mem_of_getElem? (i := 6) rfl
theorem k_X3_init_27 : Cond.fieldLink RX3 27 "LoanBook$House" "rate" "I" ∈ wsX3_init := List.mem_of_getElem? (i := 7) rfl
theorem k_X3_init_n30 : Cond.classLink RX3 30 RJ4 ∈ wsX3_init := List.mem_of_getElem? (i := 8) rfl
theorem k_X3_init_ni30 : Cond.instantiable RJ4 4 ∈ wsX3_init := List.mem_of_getElem? (i := 9) rfl
theorem k_X3_init_nj30 : Cond.initialized RJ4 ∈ wsX3_init := List.mem_of_getElem? (i := 10) rfl
theorem ki_X3_init_J4 : ∀ w ∈ u_ws RJ4 TJ4 4, w ∈ wsX3_init := sub_r [235, 236, 237, 238] (by decide +kernel)
theorem k_X3_init_ml32 : Cond.methodLink RX3 32 yJ4_init_da8c8 ∈ wsX3_init := List.mem_of_getElem? (i := 19) rfl
theorem k_X3_init_imJ4_init_da8c8 : Cond.instanceMethod yJ4_init_da8c8 ∈ wsX3_init := List.mem_of_getElem? (i := 20) rfl
theorem k_X3_init_inJ4 : Cond.initialized RJ4 ∈ wsX3_init := List.mem_of_getElem? (i := 10) rfl
theorem k_X3_init_44 : Cond.fieldLink RX3 44 "LoanBook$House" "written" "Ljava/lang/String;" ∈ wsX3_init := List.mem_of_getElem? (i := 11) rfl
set_option maxHeartbeats 4000000 in
set_option maxRecDepth 100000 in
theorem c_X3_init {G : wG} {l : Launch} {n : Nat} {M : Mem} {sz : Nat} {this : Option Nat} {a1 : Option Nat} {r : Mem × Nat} (h : f_X3_init G.2.2.1 G.2.2.2 n M sz this a1 = some r) : CtrV G l yX3_init wsX3_init rmX3_init [va_rf this, va_rf a1] M sz r.1 r.2 := by
  refine m_startV (own := RX3) (cc := cX3_init) (maxL := 3) (lv0 := [(0, va_rf this), (1, va_rf a1)]) (by decide) rfl rfl (by simp [lg_sl, va_rf_cat, cat_i, cat_r]) (by simp [lv_args, va_rf_cat, cat_i, cat_r]) ?_
  intro p e s m args below meth c Q hC hname RET hsz hw ls hl
  have hx := hC.1
  have hb := hC.2.1
  unfold f_X3_init at h
  refine m_aload_n (x := this) hx hb dX3_init_0 rfl (lv_at hl 0 rfl) ?_
  obtain ⟨g1, h⟩ := itg h
  refine m_objInit (x := this) (isN_some g1) hC (hC.tab _ k_X3_init_oi3) (hC.tab _ k_X3_init_oj) (hC.tab _ k_X3_init_ok) hl.1 ((Nat.le_of_ble_eq_true rfl)) (Nat.le_of_ble_eq_true rfl) (Nat.le_of_ble_eq_true rfl) dX3_init_1 ?_
  refine m_aload_n (x := this) hx hb dX3_init_4 rfl (lv_at hl 0 rfl) ?_
  refine m_aload_n (x := a1) hx hb dX3_init_5 rfl (lv_at hl 1 rfl) ?_
  refine lv_iconst (v := (0 : Int32)) hx hb dX3_init_6 (by decide) ?_
  obtain ⟨g2, h⟩ := itg h
  obtain ⟨r3, hr3, h⟩ := ob h
  refine m_contI hC hw (m_runV hC hw (x := a1) (ci := 10) (N := 5) (C := RX7) (T := TX7) (n := 1) (av := [.int (0 : Int32)]) (rest := [va_rf this]) (c_X7_told (G := G) (l := l) hr3) gX3_init_X7_told rfl (by decide +kernel) ⟨(Nat.le_of_ble_eq_true rfl), (Nat.le_of_ble_eq_true rfl)⟩ g2 rfl rfl hl.1 rfl (by simp [va_rf_cat, cat_i, cat_r, cat_l]) dX3_init_7 ⟨(Nat.zero_le _), (Nat.zero_le _)⟩) (fun H locs hw => ?_)
  obtain ⟨M4, hM4, h⟩ := ob h
  refine m_putF hC hw (C := RX3) (T := TX3) (N := 5) (x := this) hM4 ki_X3_init_X3 tyX3 tyX3_ok nmX3 rfl (by decide) k_X3_init_15 (fun _ z => z) rfl hname rfl rfl rfl dX3_init_10 (fun H locs hw => ?_)
  refine m_aload_n (x := this) hx hb dX3_init_13 rfl (lv_at hl 0 rfl) ?_
  refine m_aload_n (x := a1) hx hb dX3_init_14 rfl (lv_at hl 1 rfl) ?_
  refine lv_iconst (v := (1 : Int32)) hx hb dX3_init_15 (by decide) ?_
  obtain ⟨g5, h⟩ := itg h
  obtain ⟨r6, hr6, h⟩ := ob h
  refine m_contI hC hw (m_runV hC hw (x := a1) (ci := 10) (N := 5) (C := RX7) (T := TX7) (n := 1) (av := [.int (1 : Int32)]) (rest := [va_rf this]) (c_X7_told (G := G) (l := l) hr6) gX3_init_X7_told rfl (by decide +kernel) ⟨(Nat.le_of_ble_eq_true rfl), (Nat.le_of_ble_eq_true rfl)⟩ g5 rfl rfl hl.1 rfl (by simp [va_rf_cat, cat_i, cat_r, cat_l]) dX3_init_16 ⟨(Nat.zero_le _), (Nat.zero_le _)⟩) (fun H locs hw => ?_)
  obtain ⟨M7, hM7, h⟩ := ob h
  refine m_putF hC hw (C := RX3) (T := TX3) (N := 5) (x := this) hM7 ki_X3_init_X3 tyX3 tyX3_ok nmX3 rfl (by decide) k_X3_init_21 (fun _ z => z) rfl hname rfl rfl rfl dX3_init_19 (fun H locs hw => ?_)
  refine m_aload_n (x := this) hx hb dX3_init_22 rfl (lv_at hl 0 rfl) ?_
  refine m_aload_n (x := a1) hx hb dX3_init_23 rfl (lv_at hl 1 rfl) ?_
  refine lv_iconst (v := (2 : Int32)) hx hb dX3_init_24 (by decide) ?_
  obtain ⟨g8, h⟩ := itg h
  obtain ⟨r9, hr9, h⟩ := ob h
  refine m_contI hC hw (m_runV hC hw (x := a1) (ci := 10) (N := 5) (C := RX7) (T := TX7) (n := 1) (av := [.int (2 : Int32)]) (rest := [va_rf this]) (c_X7_told (G := G) (l := l) hr9) gX3_init_X7_told rfl (by decide +kernel) ⟨(Nat.le_of_ble_eq_true rfl), (Nat.le_of_ble_eq_true rfl)⟩ g8 rfl rfl hl.1 rfl (by simp [va_rf_cat, cat_i, cat_r, cat_l]) dX3_init_25 ⟨(Nat.zero_le _), (Nat.zero_le _)⟩) (fun H locs hw => ?_)
  obtain ⟨M10, hM10, h⟩ := ob h
  refine m_putF hC hw (C := RX3) (T := TX3) (N := 5) (x := this) hM10 ki_X3_init_X3 tyX3 tyX3_ok nmX3 rfl (by decide) k_X3_init_24 (fun _ z => z) rfl hname rfl rfl rfl dX3_init_28 (fun H locs hw => ?_)
  refine m_aload_n (x := this) hx hb dX3_init_31 rfl (lv_at hl 0 rfl) ?_
  refine m_aload_n (x := a1) hx hb dX3_init_32 rfl (lv_at hl 1 rfl) ?_
  refine lv_iconst (v := (3 : Int32)) hx hb dX3_init_33 (by decide) ?_
  obtain ⟨g11, h⟩ := itg h
  obtain ⟨r12, hr12, h⟩ := ob h
  refine m_contI hC hw (m_runV hC hw (x := a1) (ci := 10) (N := 5) (C := RX7) (T := TX7) (n := 1) (av := [.int (3 : Int32)]) (rest := [va_rf this]) (c_X7_told (G := G) (l := l) hr12) gX3_init_X7_told rfl (by decide +kernel) ⟨(Nat.le_of_ble_eq_true rfl), (Nat.le_of_ble_eq_true rfl)⟩ g11 rfl rfl hl.1 rfl (by simp [va_rf_cat, cat_i, cat_r, cat_l]) dX3_init_34 ⟨(Nat.zero_le _), (Nat.zero_le _)⟩) (fun H locs hw => ?_)
  obtain ⟨M13, hM13, h⟩ := ob h
  refine m_putF hC hw (C := RX3) (T := TX3) (N := 5) (x := this) hM13 ki_X3_init_X3 tyX3 tyX3_ok nmX3 rfl (by decide) k_X3_init_27 (fun _ z => z) rfl hname rfl rfl rfl dX3_init_37 (fun H locs hw => ?_)
  obtain ⟨M14, hM14, h⟩ := ob h
  refine m_new hC hw (C := RJ4) (T := TJ4) (N := 4) (ci := 1) (fs := [.null, .int 0, .int 0, .int 0]) ki_X3_init_J4 tyJ4 tyJ4_ok k_X3_init_n30 k_X3_init_ni30 k_X3_init_nj30 rfl (fun j hj => by match j, hj with | 0, _ => rfl | 1, _ => rfl | 2, _ => rfl | 3, _ => rfl) (Nat.le_of_ble_eq_true rfl) (Nat.le_of_ble_eq_true rfl) dX3_init_40 (fun H hw => ?_)
  rw [Option.some.inj hM14] at hw
  refine m_dup (x := (some sz)) hx hb dX3_init_43 ?_
  obtain ⟨r15, hr15, h⟩ := ob h
  refine m_contV hC hw (m_runI hC hw (x := (some sz)) (n := 0) (av := []) (rest := [va_rf (some sz)]) (c_J4_init_da8c8 (G := G) (l := l) hr15) gX3_init_J4_init_da8c8 k_X3_init_ml32 k_X3_init_imJ4_init_da8c8 k_X3_init_inJ4 rfl rfl (by decide +kernel) ⟨(Nat.le_of_ble_eq_true rfl), (Nat.le_of_ble_eq_true rfl)⟩ rfl rfl hl.1 rfl (by simp [va_rf_cat, cat_i, cat_r, cat_l]) dX3_init_44 ⟨(Nat.le_of_ble_eq_true rfl), (Nat.le_of_ble_eq_true rfl)⟩) (fun H locs hw => ?_)
  refine m_astore_n (x := (some sz)) (i := 2) (lv' := [(2, va_rf (some sz)), (0, va_rf this), (1, va_rf a1)]) hx hb dX3_init_47 rfl hl (by decide) (by simp [va_rf_cat, cat_i, cat_l]) (fun ls hl => ?_)
  refine m_aload_n (x := (some sz)) hx hb dX3_init_48 rfl (lv_at hl 0 rfl) ?_
  refine m_aload_n (x := this) hx hb dX3_init_49 rfl (lv_at hl 1 rfl) ?_
  obtain ⟨v16, hv16, h⟩ := ob h
  refine m_getI hC hw (C := RX3) (T := TX3) (N := 5) hv16 ki_X3_init_X3 rfl (by decide) k_X3_init_15 (fun _ z => z) dX3_init_50 ?_
  obtain ⟨g17, h⟩ := itg h
  obtain ⟨r18, hr18, h⟩ := ob h
  refine m_contQ hC hw (m_runV hC hw (x := (some sz)) (ci := 1) (N := 4) (C := RJ4) (T := TJ4) (n := 1) (av := [.int v16]) (rest := []) (c_J4_append_bf812 (G := G) (l := l) hr18) gX3_init_J4_append_bf812 rfl (by decide +kernel) ⟨(Nat.le_of_ble_eq_true rfl), (Nat.le_of_ble_eq_true rfl)⟩ g17 rfl rfl hl.1 rfl (Nat.le_of_ble_eq_true rfl) dX3_init_53 ⟨(Nat.le_of_ble_eq_true rfl), (Nat.le_of_ble_eq_true rfl)⟩) (fun H locs hw => ?_)
  refine lv_bipush (v := (32 : Int32)) hx hb dX3_init_56 (by decide) ?_
  obtain ⟨g19, h⟩ := itg h
  obtain ⟨r20, hr20, h⟩ := ob h
  refine m_contQ hC hw (m_runV hC hw (x := r18.1) (ci := 1) (N := 4) (C := RJ4) (T := TJ4) (n := 1) (av := [.int (32 : Int32)]) (rest := []) (c_J4_append_cf468 (G := G) (l := l) hr20) gX3_init_J4_append_cf468 rfl (by decide +kernel) ⟨(Nat.le_of_ble_eq_true rfl), (Nat.le_of_ble_eq_true rfl)⟩ g19 rfl rfl hl.1 rfl (Nat.le_of_ble_eq_true rfl) dX3_init_58 ⟨(Nat.le_of_ble_eq_true rfl), (Nat.le_of_ble_eq_true rfl)⟩) (fun H locs hw => ?_)
  refine m_aload_n (x := this) hx hb dX3_init_61 rfl (lv_at hl 1 rfl) ?_
  obtain ⟨v21, hv21, h⟩ := ob h
  refine m_getI hC hw (C := RX3) (T := TX3) (N := 5) hv21 ki_X3_init_X3 rfl (by decide) k_X3_init_21 (fun _ z => z) dX3_init_62 ?_
  obtain ⟨g22, h⟩ := itg h
  obtain ⟨r23, hr23, h⟩ := ob h
  refine m_contQ hC hw (m_runV hC hw (x := r20.1) (ci := 1) (N := 4) (C := RJ4) (T := TJ4) (n := 1) (av := [.int v21]) (rest := []) (c_J4_append_bf812 (G := G) (l := l) hr23) gX3_init_J4_append_bf812 rfl (by decide +kernel) ⟨(Nat.le_of_ble_eq_true rfl), (Nat.le_of_ble_eq_true rfl)⟩ g22 rfl rfl hl.1 rfl (Nat.le_of_ble_eq_true rfl) dX3_init_65 ⟨(Nat.le_of_ble_eq_true rfl), (Nat.le_of_ble_eq_true rfl)⟩) (fun H locs hw => ?_)
  refine lv_bipush (v := (32 : Int32)) hx hb dX3_init_68 (by decide) ?_
  obtain ⟨g24, h⟩ := itg h
  obtain ⟨r25, hr25, h⟩ := ob h
  refine m_contQ hC hw (m_runV hC hw (x := r23.1) (ci := 1) (N := 4) (C := RJ4) (T := TJ4) (n := 1) (av := [.int (32 : Int32)]) (rest := []) (c_J4_append_cf468 (G := G) (l := l) hr25) gX3_init_J4_append_cf468 rfl (by decide +kernel) ⟨(Nat.le_of_ble_eq_true rfl), (Nat.le_of_ble_eq_true rfl)⟩ g24 rfl rfl hl.1 rfl (Nat.le_of_ble_eq_true rfl) dX3_init_70 ⟨(Nat.le_of_ble_eq_true rfl), (Nat.le_of_ble_eq_true rfl)⟩) (fun H locs hw => ?_)
  refine m_aload_n (x := this) hx hb dX3_init_73 rfl (lv_at hl 1 rfl) ?_
  obtain ⟨v26, hv26, h⟩ := ob h
  refine m_getI hC hw (C := RX3) (T := TX3) (N := 5) hv26 ki_X3_init_X3 rfl (by decide) k_X3_init_24 (fun _ z => z) dX3_init_74 ?_
  obtain ⟨g27, h⟩ := itg h
  obtain ⟨r28, hr28, h⟩ := ob h
  refine m_contQ hC hw (m_runV hC hw (x := r25.1) (ci := 1) (N := 4) (C := RJ4) (T := TJ4) (n := 1) (av := [.int v26]) (rest := []) (c_J4_append_bf812 (G := G) (l := l) hr28) gX3_init_J4_append_bf812 rfl (by decide +kernel) ⟨(Nat.le_of_ble_eq_true rfl), (Nat.le_of_ble_eq_true rfl)⟩ g27 rfl rfl hl.1 rfl (Nat.le_of_ble_eq_true rfl) dX3_init_77 ⟨(Nat.le_of_ble_eq_true rfl), (Nat.le_of_ble_eq_true rfl)⟩) (fun H locs hw => ?_)
  refine lv_bipush (v := (32 : Int32)) hx hb dX3_init_80 (by decide) ?_
  obtain ⟨g29, h⟩ := itg h
  obtain ⟨r30, hr30, h⟩ := ob h
  refine m_contQ hC hw (m_runV hC hw (x := r28.1) (ci := 1) (N := 4) (C := RJ4) (T := TJ4) (n := 1) (av := [.int (32 : Int32)]) (rest := []) (c_J4_append_cf468 (G := G) (l := l) hr30) gX3_init_J4_append_cf468 rfl (by decide +kernel) ⟨(Nat.le_of_ble_eq_true rfl), (Nat.le_of_ble_eq_true rfl)⟩ g29 rfl rfl hl.1 rfl (Nat.le_of_ble_eq_true rfl) dX3_init_82 ⟨(Nat.le_of_ble_eq_true rfl), (Nat.le_of_ble_eq_true rfl)⟩) (fun H locs hw => ?_)
  refine m_aload_n (x := this) hx hb dX3_init_85 rfl (lv_at hl 1 rfl) ?_
  obtain ⟨v31, hv31, h⟩ := ob h
  refine m_getI hC hw (C := RX3) (T := TX3) (N := 5) hv31 ki_X3_init_X3 rfl (by decide) k_X3_init_27 (fun _ z => z) dX3_init_86 ?_
  obtain ⟨g32, h⟩ := itg h
  obtain ⟨r33, hr33, h⟩ := ob h
  refine m_contQ hC hw (m_runV hC hw (x := r30.1) (ci := 1) (N := 4) (C := RJ4) (T := TJ4) (n := 1) (av := [.int v31]) (rest := []) (c_J4_append_bf812 (G := G) (l := l) hr33) gX3_init_J4_append_bf812 rfl (by decide +kernel) ⟨(Nat.le_of_ble_eq_true rfl), (Nat.le_of_ble_eq_true rfl)⟩ g32 rfl rfl hl.1 rfl (Nat.le_of_ble_eq_true rfl) dX3_init_89 ⟨(Nat.le_of_ble_eq_true rfl), (Nat.le_of_ble_eq_true rfl)⟩) (fun H locs hw => ?_)
  refine lv_pop hx hb dX3_init_92 (va_rf_cat _) ?_
  refine m_aload_n (x := this) hx hb dX3_init_93 rfl (lv_at hl 1 rfl) ?_
  refine m_aload_n (x := (some sz)) hx hb dX3_init_94 rfl (lv_at hl 0 rfl) ?_
  obtain ⟨g34, h⟩ := itg h
  obtain ⟨r35, hr35, h⟩ := ob h
  refine m_contQ hC hw (m_runV hC hw (x := (some sz)) (ci := 1) (N := 4) (C := RJ4) (T := TJ4) (n := 0) (av := []) (rest := [va_rf this]) (c_J4_toString_0e30d (G := G) (l := l) hr35) gX3_init_J4_toString_0e30d rfl (by decide +kernel) ⟨(Nat.le_of_ble_eq_true rfl), (Nat.le_of_ble_eq_true rfl)⟩ g34 rfl rfl hl.1 rfl (by simp [va_rf_cat, cat_i, cat_r, cat_l]) dX3_init_95 ⟨(Nat.le_of_ble_eq_true rfl), (Nat.le_of_ble_eq_true rfl)⟩) (fun H locs hw => ?_)
  obtain ⟨M36, hM36, h⟩ := ob h
  refine m_putF hC hw (C := RX3) (T := TX3) (N := 5) (x := this) hM36 ki_X3_init_X3 tyX3 tyX3_ok nmX3 rfl (by decide) k_X3_init_44 (fun _ z => z) rfl hname rfl (nar_rf _ _ (by decide)) (fit_rf _ _ (by decide)) dX3_init_98 (fun H locs hw => ?_)
  replace h := Option.some.inj h
  subst h
  exact RET hw ⟨(Nat.le_of_ble_eq_true rfl), (Nat.le_of_ble_eq_true rfl)⟩ dX3_init_101

def f_X7_takesMark (B : Nat) (M : Mem) (this : Option Nat) (a1 : Int32) : Option (Int32 × Mem) := if isO M this 10 = true then ((f_X7_skips B M this a1).bind fun r2 => if r2.1 = 0 then (if isO r2.2 this 10 = true then ((f_X7_isWrongHere B r2.2 this).bind fun r5 => if r5.1 = 0 then (some ((0 : Int32), r5.2)) else (some ((1 : Int32), r5.2))) else none) else (some ((1 : Int32), r2.2))) else none
def rmX7_takesMark : Room := { frames := 2, cells := 0, slots := 0, locals := 42 }
set_option maxHeartbeats 4000000 in
set_option maxRecDepth 100000 in
theorem c_X7_takesMark {G : wG} {l : Launch} {M : Mem} {sz : Nat} {this : Option Nat} {a1 : Int32} {r : Int32 × Mem} (h : f_X7_takesMark G.2.2.1 M this a1 = some r) : CtrI G l yX7_takesMark wsX7_takesMark rmX7_takesMark [va_rf this, .int a1] M sz r.1 r.2 sz := by
  refine m_startZ (own := RX7) (cc := cX7_takesMark) (maxL := 2) (lv0 := [(0, va_rf this), (1, .int a1)]) (by decide) rfl rfl (by simp [lg_sl, va_rf_cat, cat_i, cat_r]) (by simp [lv_args, va_rf_cat, cat_i, cat_r]) ?_
  intro p e s m args below meth c Q hC hname RET hsz hw ls hl
  have hx := hC.1
  have hb := hC.2.1
  unfold f_X7_takesMark at h
  refine m_aload_n (x := this) hx hb dX7_takesMark_0 rfl (lv_at hl 0 rfl) ?_
  refine lv_iload_n hx hb dX7_takesMark_1 rfl (lv_at hl 1 rfl) ?_
  obtain ⟨g1, h⟩ := itg h
  obtain ⟨r2, hr2, h⟩ := ob h
  refine m_contI hC hw (m_runV hC hw (x := this) (ci := 10) (N := 5) (C := RX7) (T := TX7) (n := 1) (av := [.int a1]) (rest := []) (c_X7_skips (G := G) (l := l) hr2) gX7_takesMark_X7_skips rfl (by decide +kernel) ⟨(Nat.le_of_ble_eq_true rfl), (Nat.le_of_ble_eq_true rfl)⟩ g1 rfl rfl hl.1 rfl (Nat.le_of_ble_eq_true rfl) dX7_takesMark_2 ⟨(Nat.zero_le _), (Nat.zero_le _)⟩) (fun H locs hw => ?_)
  refine lv_if_ne (tgt := 15) hx hb dX7_takesMark_5 (by decide) (fun c3 => ?_) (fun c3 => ?_)
  · replace h := itf h c3
    refine lv_iconst (v := (1 : Int32)) hx hb dX7_takesMark_15 (by decide) ?_
    refine lv_goto (tgt := 20) hx hb dX7_takesMark_16 (by decide) ?_
    replace h := Option.some.inj h
    subst h
    exact RET (isZ.nar (Or.inr rfl)) hw ⟨(Nat.zero_le _), (Nat.zero_le _)⟩ dX7_takesMark_20
  · replace h := itt h c3
    refine m_aload_n (x := this) hx hb dX7_takesMark_8 rfl (lv_at hl 0 rfl) ?_
    obtain ⟨g4, h⟩ := itg h
    obtain ⟨r5, hr5, h⟩ := ob h
    refine m_contI hC hw (m_runV hC hw (x := this) (ci := 10) (N := 5) (C := RX7) (T := TX7) (n := 0) (av := []) (rest := []) (c_X7_isWrongHere (G := G) (l := l) hr5) gX7_takesMark_X7_isWrongHere rfl (by decide +kernel) ⟨(Nat.le_of_ble_eq_true rfl), (Nat.le_of_ble_eq_true rfl)⟩ g4 rfl rfl hl.1 rfl (Nat.le_of_ble_eq_true rfl) dX7_takesMark_9 ⟨(Nat.zero_le _), (Nat.zero_le _)⟩) (fun H locs hw => ?_)
    refine lv_if_eq (tgt := 19) hx hb dX7_takesMark_12 (by decide) (fun c6 => ?_) (fun c6 => ?_)
    · replace h := itt h c6
      refine lv_iconst (v := (0 : Int32)) hx hb dX7_takesMark_19 (by decide) ?_
      replace h := Option.some.inj h
      subst h
      exact RET (isZ.nar (Or.inl rfl)) hw ⟨(Nat.zero_le _), (Nat.zero_le _)⟩ dX7_takesMark_20
    · replace h := itf h c6
      refine lv_iconst (v := (1 : Int32)) hx hb dX7_takesMark_15 (by decide) ?_
      refine lv_goto (tgt := 20) hx hb dX7_takesMark_16 (by decide) ?_
      replace h := Option.some.inj h
      subst h
      exact RET (isZ.nar (Or.inr rfl)) hw ⟨(Nat.zero_le _), (Nat.zero_le _)⟩ dX7_takesMark_20

def f_X7_takesSpan (B : Nat) (M : Mem) (this : Option Nat) : Option (Int32 × Mem) := if isO M this 10 = true then ((f_X7_takesNumber B M this).bind fun r2 => if r2.1 = 0 then (some ((0 : Int32), r2.2)) else (if isO r2.2 this 10 = true then ((f_X7_takesMark B r2.2 this (45 : Int32)).bind fun r5 => if r5.1 = 0 then (some ((0 : Int32), r5.2)) else (if isO r5.2 this 10 = true then ((f_X7_takesNumber B r5.2 this).bind fun r8 => if r8.1 = 0 then (some ((0 : Int32), r8.2)) else (some ((1 : Int32), r8.2))) else none)) else none)) else none
def rmX7_takesSpan : Room := { frames := 3, cells := 0, slots := 0, locals := 63 }
set_option maxHeartbeats 4000000 in
set_option maxRecDepth 100000 in
theorem c_X7_takesSpan {G : wG} {l : Launch} {M : Mem} {sz : Nat} {this : Option Nat} {r : Int32 × Mem} (h : f_X7_takesSpan G.2.2.1 M this = some r) : CtrI G l yX7_takesSpan wsX7_takesSpan rmX7_takesSpan [va_rf this] M sz r.1 r.2 sz := by
  refine m_startZ (own := RX7) (cc := cX7_takesSpan) (maxL := 1) (lv0 := [(0, va_rf this)]) (by decide) rfl rfl (by simp [lg_sl, va_rf_cat, cat_i, cat_r]) (by simp [lv_args, va_rf_cat, cat_i, cat_r]) ?_
  intro p e s m args below meth c Q hC hname RET hsz hw ls hl
  have hx := hC.1
  have hb := hC.2.1
  unfold f_X7_takesSpan at h
  refine m_aload_n (x := this) hx hb dX7_takesSpan_0 rfl (lv_at hl 0 rfl) ?_
  obtain ⟨g1, h⟩ := itg h
  obtain ⟨r2, hr2, h⟩ := ob h
  refine m_contI hC hw (m_runV hC hw (x := this) (ci := 10) (N := 5) (C := RX7) (T := TX7) (n := 0) (av := []) (rest := []) (c_X7_takesNumber (G := G) (l := l) hr2) gX7_takesSpan_X7_takesNumber rfl (by decide +kernel) ⟨(Nat.le_of_ble_eq_true rfl), (Nat.le_of_ble_eq_true rfl)⟩ g1 rfl rfl hl.1 rfl (Nat.le_of_ble_eq_true rfl) dX7_takesSpan_1 ⟨(Nat.zero_le _), (Nat.zero_le _)⟩) (fun H locs hw => ?_)
  refine lv_if_eq (tgt := 27) hx hb dX7_takesSpan_4 (by decide) (fun c3 => ?_) (fun c3 => ?_)
  · replace h := itt h c3
    refine lv_iconst (v := (0 : Int32)) hx hb dX7_takesSpan_27 (by decide) ?_
    replace h := Option.some.inj h
    subst h
    exact RET (isZ.nar (Or.inl rfl)) hw ⟨(Nat.zero_le _), (Nat.zero_le _)⟩ dX7_takesSpan_28
  · replace h := itf h c3
    refine m_aload_n (x := this) hx hb dX7_takesSpan_7 rfl (lv_at hl 0 rfl) ?_
    refine lv_bipush (v := (45 : Int32)) hx hb dX7_takesSpan_8 (by decide) ?_
    obtain ⟨g4, h⟩ := itg h
    obtain ⟨r5, hr5, h⟩ := ob h
    refine m_contI hC hw (m_runV hC hw (x := this) (ci := 10) (N := 5) (C := RX7) (T := TX7) (n := 1) (av := [.int (45 : Int32)]) (rest := []) (c_X7_takesMark (G := G) (l := l) hr5) gX7_takesSpan_X7_takesMark rfl (by decide +kernel) ⟨(Nat.le_of_ble_eq_true rfl), (Nat.le_of_ble_eq_true rfl)⟩ g4 rfl rfl hl.1 rfl (Nat.le_of_ble_eq_true rfl) dX7_takesSpan_10 ⟨(Nat.zero_le _), (Nat.zero_le _)⟩) (fun H locs hw => ?_)
    refine lv_if_eq (tgt := 27) hx hb dX7_takesSpan_13 (by decide) (fun c6 => ?_) (fun c6 => ?_)
    · replace h := itt h c6
      refine lv_iconst (v := (0 : Int32)) hx hb dX7_takesSpan_27 (by decide) ?_
      replace h := Option.some.inj h
      subst h
      exact RET (isZ.nar (Or.inl rfl)) hw ⟨(Nat.zero_le _), (Nat.zero_le _)⟩ dX7_takesSpan_28
    · replace h := itf h c6
      refine m_aload_n (x := this) hx hb dX7_takesSpan_16 rfl (lv_at hl 0 rfl) ?_
      obtain ⟨g7, h⟩ := itg h
      obtain ⟨r8, hr8, h⟩ := ob h
      refine m_contI hC hw (m_runV hC hw (x := this) (ci := 10) (N := 5) (C := RX7) (T := TX7) (n := 0) (av := []) (rest := []) (c_X7_takesNumber (G := G) (l := l) hr8) gX7_takesSpan_X7_takesNumber rfl (by decide +kernel) ⟨(Nat.le_of_ble_eq_true rfl), (Nat.le_of_ble_eq_true rfl)⟩ g7 rfl rfl hl.1 rfl (Nat.le_of_ble_eq_true rfl) dX7_takesSpan_17 ⟨(Nat.zero_le _), (Nat.zero_le _)⟩) (fun H locs hw => ?_)
      refine lv_if_eq (tgt := 27) hx hb dX7_takesSpan_20 (by decide) (fun c9 => ?_) (fun c9 => ?_)
      · replace h := itt h c9
        refine lv_iconst (v := (0 : Int32)) hx hb dX7_takesSpan_27 (by decide) ?_
        replace h := Option.some.inj h
        subst h
        exact RET (isZ.nar (Or.inl rfl)) hw ⟨(Nat.zero_le _), (Nat.zero_le _)⟩ dX7_takesSpan_28
      · replace h := itf h c9
        refine lv_iconst (v := (1 : Int32)) hx hb dX7_takesSpan_23 (by decide) ?_
        refine lv_goto (tgt := 28) hx hb dX7_takesSpan_24 (by decide) ?_
        replace h := Option.some.inj h
        subst h
        exact RET (isZ.nar (Or.inr rfl)) hw ⟨(Nat.zero_le _), (Nat.zero_le _)⟩ dX7_takesSpan_28

def f_X7_readsCourier_L7 (B : Nat) (n : Nat) (x0 : Option Nat) : Nat → Mem → Int32 → Int32 → Option (Int32 × Mem)
  | 0, _, _, _ => none
  | k + 1, Mz, x1, x2 => if (120 : Int32) ≤ x2 then (if x1 = 0 then (some (((0 : Int32), Mz))) else (if isO Mz x0 10 = true then ((f_X7_isAtEnd B Mz x0).bind fun r6 => if r6.1 = 0 then (some (((0 : Int32), r6.2))) else (some (((1 : Int32), r6.2)))) else none)) else (if x1 = 0 then (if x1 = 0 then (some (((0 : Int32), Mz))) else (if isO Mz x0 10 = true then ((f_X7_isAtEnd B Mz x0).bind fun r11 => if r11.1 = 0 then (some (((0 : Int32), r11.2))) else (some (((1 : Int32), r11.2)))) else none)) else (if isO Mz x0 10 = true then ((f_X7_skips B Mz x0 (44 : Int32)).bind fun r14 => if r14.1 = 0 then (if x1 = 0 then (some (((0 : Int32), r14.2))) else (if isO r14.2 x0 10 = true then ((f_X7_isAtEnd B r14.2 x0).bind fun r18 => if r18.1 = 0 then (some (((0 : Int32), r18.2))) else (some (((1 : Int32), r18.2)))) else none)) else (if isO r14.2 x0 10 = true then ((f_X7_takesSpan B r14.2 x0).bind fun r21 => f_X7_readsCourier_L7 B n x0 k r21.2 r21.1 (x2 + (1 : Int32))) else none)) else none))
def f_X7_readsCourier (B : Nat) (n : Nat) (M : Mem) (this : Option Nat) : Option (Int32 × Mem) := if isO M this 10 = true then ((f_X7_takesSpan B M this).bind fun r2 => f_X7_readsCourier_L7 B n this n r2.2 r2.1 (0 : Int32)) else none
def rmX7_readsCourier : Room := { frames := 4, cells := 0, slots := 0, locals := 83 }
set_option maxHeartbeats 4000000 in
set_option maxRecDepth 100000 in
theorem c_X7_readsCourier {G : wG} {l : Launch} {n : Nat} {M : Mem} {sz : Nat} {this : Option Nat} {r : Int32 × Mem} (h : f_X7_readsCourier G.2.2.1 n M this = some r) : CtrI G l yX7_readsCourier wsX7_readsCourier rmX7_readsCourier [va_rf this] M sz r.1 r.2 sz := by
  refine m_startZ (own := RX7) (cc := cX7_readsCourier) (maxL := 3) (lv0 := [(0, va_rf this)]) (by decide) rfl rfl (by simp [lg_sl, va_rf_cat, cat_i, cat_r]) (by simp [lv_args, va_rf_cat, cat_i, cat_r]) ?_
  intro p e s m args below meth c Q hC hname RET hsz hw ls hl
  have hx := hC.1
  have hb := hC.2.1
  have L7 : ∀ (x0 : Option Nat) (k : Nat) (Mz : Mem) (x1 : Int32) (x2 : Int32) (cells slots : Nat) (H : Heap) (locs : List Loc) (ls : Array Slot), f_X7_readsCourier_L7 G.2.2.1 n x0 k Mz x1 x2 = some r → cells ≤ 0 → slots ≤ 0 → wD G s M Mz sz H locs → lv_has ls 3 [(0, va_rf x0), (1, .int x1), (2, .int x2)] → W p l e rmX7_readsCourier s m args below meth c H locs cells slots Q (F0 m 7 ls []) := by
    intro x0 k
    induction k with
    | zero =>
      intro Mz x1 x2 cells slots H locs ls h
      exact absurd (show (none : Option (Int32 × Mem)) = some r from h) (fun z => by cases z)
    | succ k ih =>
      intro Mz x1 x2 cells slots H locs ls h hcl hsl hw hl
      rw [f_X7_readsCourier_L7] at h
      refine lv_iload_n hx hb dX7_readsCourier_7 rfl (lv_at hl 2 rfl) ?_
      refine lv_bipush (v := (120 : Int32)) hx hb dX7_readsCourier_8 (by decide) ?_
      refine lv_icmp_ge (tgt := 37) hx hb dX7_readsCourier_10 (by decide) (fun c3 => ?_) (fun c3 => ?_)
      · replace h := itt h c3
        refine lv_iload_n hx hb dX7_readsCourier_37 rfl (lv_at hl 1 rfl) ?_
        refine lv_if_eq (tgt := 52) hx hb dX7_readsCourier_38 (by decide) (fun c4 => ?_) (fun c4 => ?_)
        · replace h := itt h c4
          refine lv_iconst (v := (0 : Int32)) hx hb dX7_readsCourier_52 (by decide) ?_
          replace h := Option.some.inj h
          subst h
          exact RET (isZ.nar (Or.inl rfl)) hw ⟨(show cells + 0 ≤ 0 from by omega), (show slots + 0 ≤ 0 from by omega)⟩ dX7_readsCourier_53
        · replace h := itf h c4
          refine m_aload_n (x := x0) hx hb dX7_readsCourier_41 rfl (lv_at hl 0 rfl) ?_
          obtain ⟨g5, h⟩ := itg h
          obtain ⟨r6, hr6, h⟩ := ob h
          refine m_contI hC hw (m_runV hC hw (x := x0) (ci := 10) (N := 5) (C := RX7) (T := TX7) (n := 0) (av := []) (rest := []) (c_X7_isAtEnd (G := G) (l := l) hr6) gX7_readsCourier_X7_isAtEnd rfl (by decide +kernel) ⟨(Nat.le_of_ble_eq_true rfl), (Nat.le_of_ble_eq_true rfl)⟩ g5 rfl rfl hl.1 rfl (Nat.le_of_ble_eq_true rfl) dX7_readsCourier_42 ⟨(show cells + 0 ≤ 0 from by omega), (show slots + 0 ≤ 0 from by omega)⟩) (fun H locs hw => ?_)
          refine lv_if_eq (tgt := 52) hx hb dX7_readsCourier_45 (by decide) (fun c7 => ?_) (fun c7 => ?_)
          · replace h := itt h c7
            refine lv_iconst (v := (0 : Int32)) hx hb dX7_readsCourier_52 (by decide) ?_
            replace h := Option.some.inj h
            subst h
            exact RET (isZ.nar (Or.inl rfl)) hw ⟨(show cells + 0 ≤ 0 from by omega), (show slots + 0 ≤ 0 from by omega)⟩ dX7_readsCourier_53
          · replace h := itf h c7
            refine lv_iconst (v := (1 : Int32)) hx hb dX7_readsCourier_48 (by decide) ?_
            refine lv_goto (tgt := 53) hx hb dX7_readsCourier_49 (by decide) ?_
            replace h := Option.some.inj h
            subst h
            exact RET (isZ.nar (Or.inr rfl)) hw ⟨(show cells + 0 ≤ 0 from by omega), (show slots + 0 ≤ 0 from by omega)⟩ dX7_readsCourier_53
      · replace h := itf h c3
        refine lv_iload_n hx hb dX7_readsCourier_13 rfl (lv_at hl 1 rfl) ?_
        refine lv_if_eq (tgt := 37) hx hb dX7_readsCourier_14 (by decide) (fun c8 => ?_) (fun c8 => ?_)
        · replace h := itt h c8
          refine lv_iload_n hx hb dX7_readsCourier_37 rfl (lv_at hl 1 rfl) ?_
          refine lv_if_eq (tgt := 52) hx hb dX7_readsCourier_38 (by decide) (fun c9 => ?_) (fun c9 => ?_)
          · replace h := itt h c9
            refine lv_iconst (v := (0 : Int32)) hx hb dX7_readsCourier_52 (by decide) ?_
            replace h := Option.some.inj h
            subst h
            exact RET (isZ.nar (Or.inl rfl)) hw ⟨(show cells + 0 ≤ 0 from by omega), (show slots + 0 ≤ 0 from by omega)⟩ dX7_readsCourier_53
          · replace h := itf h c9
            refine m_aload_n (x := x0) hx hb dX7_readsCourier_41 rfl (lv_at hl 0 rfl) ?_
            obtain ⟨g10, h⟩ := itg h
            obtain ⟨r11, hr11, h⟩ := ob h
            refine m_contI hC hw (m_runV hC hw (x := x0) (ci := 10) (N := 5) (C := RX7) (T := TX7) (n := 0) (av := []) (rest := []) (c_X7_isAtEnd (G := G) (l := l) hr11) gX7_readsCourier_X7_isAtEnd rfl (by decide +kernel) ⟨(Nat.le_of_ble_eq_true rfl), (Nat.le_of_ble_eq_true rfl)⟩ g10 rfl rfl hl.1 rfl (Nat.le_of_ble_eq_true rfl) dX7_readsCourier_42 ⟨(show cells + 0 ≤ 0 from by omega), (show slots + 0 ≤ 0 from by omega)⟩) (fun H locs hw => ?_)
            refine lv_if_eq (tgt := 52) hx hb dX7_readsCourier_45 (by decide) (fun c12 => ?_) (fun c12 => ?_)
            · replace h := itt h c12
              refine lv_iconst (v := (0 : Int32)) hx hb dX7_readsCourier_52 (by decide) ?_
              replace h := Option.some.inj h
              subst h
              exact RET (isZ.nar (Or.inl rfl)) hw ⟨(show cells + 0 ≤ 0 from by omega), (show slots + 0 ≤ 0 from by omega)⟩ dX7_readsCourier_53
            · replace h := itf h c12
              refine lv_iconst (v := (1 : Int32)) hx hb dX7_readsCourier_48 (by decide) ?_
              refine lv_goto (tgt := 53) hx hb dX7_readsCourier_49 (by decide) ?_
              replace h := Option.some.inj h
              subst h
              exact RET (isZ.nar (Or.inr rfl)) hw ⟨(show cells + 0 ≤ 0 from by omega), (show slots + 0 ≤ 0 from by omega)⟩ dX7_readsCourier_53
        · replace h := itf h c8
          refine m_aload_n (x := x0) hx hb dX7_readsCourier_17 rfl (lv_at hl 0 rfl) ?_
          refine lv_bipush (v := (44 : Int32)) hx hb dX7_readsCourier_18 (by decide) ?_
          obtain ⟨g13, h⟩ := itg h
          obtain ⟨r14, hr14, h⟩ := ob h
          refine m_contI hC hw (m_runV hC hw (x := x0) (ci := 10) (N := 5) (C := RX7) (T := TX7) (n := 1) (av := [.int (44 : Int32)]) (rest := []) (c_X7_skips (G := G) (l := l) hr14) gX7_readsCourier_X7_skips rfl (by decide +kernel) ⟨(Nat.le_of_ble_eq_true rfl), (Nat.le_of_ble_eq_true rfl)⟩ g13 rfl rfl hl.1 rfl (Nat.le_of_ble_eq_true rfl) dX7_readsCourier_20 ⟨(show cells + 0 ≤ 0 from by omega), (show slots + 0 ≤ 0 from by omega)⟩) (fun H locs hw => ?_)
          refine lv_if_eq (tgt := 37) hx hb dX7_readsCourier_23 (by decide) (fun c15 => ?_) (fun c15 => ?_)
          · replace h := itt h c15
            refine lv_iload_n hx hb dX7_readsCourier_37 rfl (lv_at hl 1 rfl) ?_
            refine lv_if_eq (tgt := 52) hx hb dX7_readsCourier_38 (by decide) (fun c16 => ?_) (fun c16 => ?_)
            · replace h := itt h c16
              refine lv_iconst (v := (0 : Int32)) hx hb dX7_readsCourier_52 (by decide) ?_
              replace h := Option.some.inj h
              subst h
              exact RET (isZ.nar (Or.inl rfl)) hw ⟨(show cells + 0 ≤ 0 from by omega), (show slots + 0 ≤ 0 from by omega)⟩ dX7_readsCourier_53
            · replace h := itf h c16
              refine m_aload_n (x := x0) hx hb dX7_readsCourier_41 rfl (lv_at hl 0 rfl) ?_
              obtain ⟨g17, h⟩ := itg h
              obtain ⟨r18, hr18, h⟩ := ob h
              refine m_contI hC hw (m_runV hC hw (x := x0) (ci := 10) (N := 5) (C := RX7) (T := TX7) (n := 0) (av := []) (rest := []) (c_X7_isAtEnd (G := G) (l := l) hr18) gX7_readsCourier_X7_isAtEnd rfl (by decide +kernel) ⟨(Nat.le_of_ble_eq_true rfl), (Nat.le_of_ble_eq_true rfl)⟩ g17 rfl rfl hl.1 rfl (Nat.le_of_ble_eq_true rfl) dX7_readsCourier_42 ⟨(show cells + 0 ≤ 0 from by omega), (show slots + 0 ≤ 0 from by omega)⟩) (fun H locs hw => ?_)
              refine lv_if_eq (tgt := 52) hx hb dX7_readsCourier_45 (by decide) (fun c19 => ?_) (fun c19 => ?_)
              · replace h := itt h c19
                refine lv_iconst (v := (0 : Int32)) hx hb dX7_readsCourier_52 (by decide) ?_
                replace h := Option.some.inj h
                subst h
                exact RET (isZ.nar (Or.inl rfl)) hw ⟨(show cells + 0 ≤ 0 from by omega), (show slots + 0 ≤ 0 from by omega)⟩ dX7_readsCourier_53
              · replace h := itf h c19
                refine lv_iconst (v := (1 : Int32)) hx hb dX7_readsCourier_48 (by decide) ?_
                refine lv_goto (tgt := 53) hx hb dX7_readsCourier_49 (by decide) ?_
                replace h := Option.some.inj h
                subst h
                exact RET (isZ.nar (Or.inr rfl)) hw ⟨(show cells + 0 ≤ 0 from by omega), (show slots + 0 ≤ 0 from by omega)⟩ dX7_readsCourier_53
          · replace h := itf h c15
            refine m_aload_n (x := x0) hx hb dX7_readsCourier_26 rfl (lv_at hl 0 rfl) ?_
            obtain ⟨g20, h⟩ := itg h
            obtain ⟨r21, hr21, h⟩ := ob h
            refine m_contI hC hw (m_runV hC hw (x := x0) (ci := 10) (N := 5) (C := RX7) (T := TX7) (n := 0) (av := []) (rest := []) (c_X7_takesSpan (G := G) (l := l) hr21) gX7_readsCourier_X7_takesSpan rfl (by decide +kernel) ⟨(Nat.le_of_ble_eq_true rfl), (Nat.le_of_ble_eq_true rfl)⟩ g20 rfl rfl hl.1 rfl (Nat.le_of_ble_eq_true rfl) dX7_readsCourier_27 ⟨(show cells + 0 ≤ 0 from by omega), (show slots + 0 ≤ 0 from by omega)⟩) (fun H locs hw => ?_)
            refine lv_istore_n (i := 1) (lv' := [(1, .int r21.1), (0, va_rf x0), (2, .int x2)]) hx hb dX7_readsCourier_30 rfl hl (by decide) (by simp [va_rf_cat, cat_i, cat_l]) (fun ls hl => ?_)
            refine lv_iinc (v := (x2 + (1 : Int32))) (lv' := [(2, .int (x2 + (1 : Int32))), (1, .int r21.1), (0, va_rf x0)]) hx hb dX7_readsCourier_31 hl (k := 2) rfl rfl (by decide) rfl (fun ls hl => ?_)
            refine lv_goto (tgt := 7) hx hb dX7_readsCourier_34 (by decide) ?_
            exact ih _ _ _ _ _ _ _ _ h hcl hsl hw (lv_sub hl [2, 1, 0] rfl)
  unfold f_X7_readsCourier at h
  refine m_aload_n (x := this) hx hb dX7_readsCourier_0 rfl (lv_at hl 0 rfl) ?_
  obtain ⟨g1, h⟩ := itg h
  obtain ⟨r2, hr2, h⟩ := ob h
  refine m_contI hC hw (m_runV hC hw (x := this) (ci := 10) (N := 5) (C := RX7) (T := TX7) (n := 0) (av := []) (rest := []) (c_X7_takesSpan (G := G) (l := l) hr2) gX7_readsCourier_X7_takesSpan rfl (by decide +kernel) ⟨(Nat.le_of_ble_eq_true rfl), (Nat.le_of_ble_eq_true rfl)⟩ g1 rfl rfl hl.1 rfl (Nat.le_of_ble_eq_true rfl) dX7_readsCourier_1 ⟨(Nat.zero_le _), (Nat.zero_le _)⟩) (fun H locs hw => ?_)
  refine lv_istore_n (i := 1) (lv' := [(1, .int r2.1), (0, va_rf this)]) hx hb dX7_readsCourier_4 rfl hl (by decide) (by simp [va_rf_cat, cat_i, cat_l]) (fun ls hl => ?_)
  refine lv_iconst (v := (0 : Int32)) hx hb dX7_readsCourier_5 (by decide) ?_
  refine lv_istore_n (i := 2) (lv' := [(2, .int (0 : Int32)), (1, .int r2.1), (0, va_rf this)]) hx hb dX7_readsCourier_6 rfl hl (by decide) rfl (fun ls hl => ?_)
  exact L7 this _ _ _ _ _ _ _ _ _ h (Nat.zero_le _) (Nat.zero_le _) hw (lv_sub hl [2, 1, 0] rfl)

def f_X2_faultIn_L4 (n : Nat) (M : Mem) (x0 : Option Nat) : Nat → Int32 → Int32 → Option (Int32)
  | 0, _, _ => none
  | k + 1, x1, x2 => if isO M x0 10 = true then ((f_X7_size M x0).bind fun r2 => if r2 ≤ (x2 + (1 : Int32)) then (some ((0 : Int32))) else (if isO M x0 10 = true then ((f_X7_told M x0 x2).bind fun r5 => if isO M x0 10 = true then ((f_X7_told M x0 (x2 + (1 : Int32))).bind fun r7 => if r5 ≤ x1 then (some ((4 : Int32))) else (if r7 < r5 then (some ((4 : Int32))) else (if r7 < (1000 : Int32) then (f_X2_faultIn_L4 n M x0 k r7 (x2 + (2 : Int32))) else (some ((4 : Int32)))))) else none) else none)) else none
def f_X2_faultIn (n : Nat) (M : Mem) (a1 : Option Nat) : Option (Int32) := f_X2_faultIn_L4 n M a1 n (-1 : Int32) (0 : Int32)
def rmX2_faultIn : Room := { frames := 1, cells := 0, slots := 0, locals := 21 }
set_option maxHeartbeats 4000000 in
set_option maxRecDepth 100000 in
theorem c_X2_faultIn {G : wG} {l : Launch} {n : Nat} {M : Mem} {sz : Nat} {a1 : Option Nat} {r : Int32} (h : f_X2_faultIn n M a1 = some r) : CtrI G l yX2_faultIn wsX2_faultIn rmX2_faultIn [va_rf a1] M sz r M sz := by
  refine m_startI (own := RX2) (cc := cX2_faultIn) (maxL := 5) (lv0 := [(0, va_rf a1)]) (by decide) rfl rfl (by simp [lg_sl, va_rf_cat, cat_i, cat_r]) (by simp [lv_args, va_rf_cat, cat_i, cat_r]) ?_
  intro p e s m args below meth c Q hC hname RET hsz hw ls hl
  have hx := hC.1
  have hb := hC.2.1
  have L4 : ∀ (x0 : Option Nat) (k : Nat) (x1 : Int32) (x2 : Int32) (cells slots : Nat) (H : Heap) (locs : List Loc) (ls : Array Slot), f_X2_faultIn_L4 n M x0 k x1 x2 = some r → cells ≤ 0 → slots ≤ 0 → wD G s M M sz H locs → lv_has ls 5 [(0, va_rf x0), (1, .int x1), (2, .int x2)] → W p l e rmX2_faultIn s m args below meth c H locs cells slots Q (F0 m 4 ls []) := by
    intro x0 k
    induction k with
    | zero =>
      intro x1 x2 cells slots H locs ls h
      exact absurd (show (none : Option (Int32)) = some r from h) (fun z => by cases z)
    | succ k ih =>
      intro x1 x2 cells slots H locs ls h hcl hsl hw hl
      rw [f_X2_faultIn_L4] at h
      refine lv_iload_n hx hb dX2_faultIn_4 rfl (lv_at hl 2 rfl) ?_
      refine lv_iconst (v := (1 : Int32)) hx hb dX2_faultIn_5 (by decide) ?_
      refine lv_iadd hx hb dX2_faultIn_6 ?_
      refine m_aload_n (x := x0) hx hb dX2_faultIn_7 rfl (lv_at hl 0 rfl) ?_
      obtain ⟨g1, h⟩ := itg h
      obtain ⟨r2, hr2, h⟩ := ob h
      refine m_contI hC hw (m_runV hC hw (x := x0) (ci := 10) (N := 5) (C := RX7) (T := TX7) (n := 0) (av := []) (rest := [.int (x2 + (1 : Int32))]) (c_X7_size (G := G) (l := l) hr2) gX2_faultIn_X7_size rfl (by decide +kernel) ⟨(Nat.le_of_ble_eq_true rfl), (Nat.le_of_ble_eq_true rfl)⟩ g1 rfl rfl hl.1 rfl (Nat.le_of_ble_eq_true rfl) dX2_faultIn_8 ⟨(show cells + 0 ≤ 0 from by omega), (show slots + 0 ≤ 0 from by omega)⟩) (fun H locs hw => ?_)
      refine lv_icmp_ge (tgt := 59) hx hb dX2_faultIn_11 (by decide) (fun c3 => ?_) (fun c3 => ?_)
      · replace h := itt h c3
        refine lv_iconst (v := (0 : Int32)) hx hb dX2_faultIn_59 (by decide) ?_
        replace h := Option.some.inj h
        subst h
        exact RET hw ⟨(show cells + 0 ≤ 0 from by omega), (show slots + 0 ≤ 0 from by omega)⟩ dX2_faultIn_60
      · replace h := itf h c3
        refine m_aload_n (x := x0) hx hb dX2_faultIn_14 rfl (lv_at hl 0 rfl) ?_
        refine lv_iload_n hx hb dX2_faultIn_15 rfl (lv_at hl 2 rfl) ?_
        obtain ⟨g4, h⟩ := itg h
        obtain ⟨r5, hr5, h⟩ := ob h
        refine m_contI hC hw (m_runV hC hw (x := x0) (ci := 10) (N := 5) (C := RX7) (T := TX7) (n := 1) (av := [.int x2]) (rest := []) (c_X7_told (G := G) (l := l) hr5) gX2_faultIn_X7_told rfl (by decide +kernel) ⟨(Nat.le_of_ble_eq_true rfl), (Nat.le_of_ble_eq_true rfl)⟩ g4 rfl rfl hl.1 rfl (Nat.le_of_ble_eq_true rfl) dX2_faultIn_16 ⟨(show cells + 0 ≤ 0 from by omega), (show slots + 0 ≤ 0 from by omega)⟩) (fun H locs hw => ?_)
        refine lv_istore_n (i := 3) (lv' := [(3, .int r5), (0, va_rf x0), (1, .int x1), (2, .int x2)]) hx hb dX2_faultIn_19 rfl hl (by decide) rfl (fun ls hl => ?_)
        refine m_aload_n (x := x0) hx hb dX2_faultIn_20 rfl (lv_at hl 1 rfl) ?_
        refine lv_iload_n hx hb dX2_faultIn_21 rfl (lv_at hl 3 rfl) ?_
        refine lv_iconst (v := (1 : Int32)) hx hb dX2_faultIn_22 (by decide) ?_
        refine lv_iadd hx hb dX2_faultIn_23 ?_
        obtain ⟨g6, h⟩ := itg h
        obtain ⟨r7, hr7, h⟩ := ob h
        refine m_contI hC hw (m_runV hC hw (x := x0) (ci := 10) (N := 5) (C := RX7) (T := TX7) (n := 1) (av := [.int (x2 + (1 : Int32))]) (rest := []) (c_X7_told (G := G) (l := l) hr7) gX2_faultIn_X7_told rfl (by decide +kernel) ⟨(Nat.le_of_ble_eq_true rfl), (Nat.le_of_ble_eq_true rfl)⟩ g6 rfl rfl hl.1 rfl (Nat.le_of_ble_eq_true rfl) dX2_faultIn_24 ⟨(show cells + 0 ≤ 0 from by omega), (show slots + 0 ≤ 0 from by omega)⟩) (fun H locs hw => ?_)
        refine lv_istore (lv' := [(4, .int r7), (3, .int r5), (0, va_rf x0), (1, .int x1), (2, .int x2)]) hx hb dX2_faultIn_27 hl (by decide) rfl (fun ls hl => ?_)
        refine lv_iload_n hx hb dX2_faultIn_29 rfl (lv_at hl 1 rfl) ?_
        refine lv_iload_n hx hb dX2_faultIn_30 rfl (lv_at hl 3 rfl) ?_
        refine lv_icmp_le (tgt := 48) hx hb dX2_faultIn_31 (by decide) (fun c8 => ?_) (fun c8 => ?_)
        · replace h := itt h c8
          refine lv_iconst (v := (4 : Int32)) hx hb dX2_faultIn_48 (by decide) ?_
          replace h := Option.some.inj h
          subst h
          exact RET hw ⟨(show cells + 0 ≤ 0 from by omega), (show slots + 0 ≤ 0 from by omega)⟩ dX2_faultIn_49
        · replace h := itf h c8
          refine lv_iload_n hx hb dX2_faultIn_34 rfl (lv_at hl 1 rfl) ?_
          refine lv_iload hx hb dX2_faultIn_35 (lv_at hl 0 rfl) ?_
          refine lv_icmp_gt (tgt := 48) hx hb dX2_faultIn_37 (by decide) (fun c9 => ?_) (fun c9 => ?_)
          · replace h := itt h c9
            refine lv_iconst (v := (4 : Int32)) hx hb dX2_faultIn_48 (by decide) ?_
            replace h := Option.some.inj h
            subst h
            exact RET hw ⟨(show cells + 0 ≤ 0 from by omega), (show slots + 0 ≤ 0 from by omega)⟩ dX2_faultIn_49
          · replace h := itf h c9
            refine lv_iload hx hb dX2_faultIn_40 (lv_at hl 0 rfl) ?_
            refine lv_sipush (v := (1000 : Int32)) hx hb dX2_faultIn_42 (by decide) ?_
            refine lv_icmp_lt (tgt := 50) hx hb dX2_faultIn_45 (by decide) (fun c10 => ?_) (fun c10 => ?_)
            · replace h := itt h c10
              refine lv_iload hx hb dX2_faultIn_50 (lv_at hl 0 rfl) ?_
              refine lv_istore_n (i := 1) (lv' := [(1, .int r7), (4, .int r7), (3, .int r5), (0, va_rf x0), (2, .int x2)]) hx hb dX2_faultIn_52 rfl hl (by decide) (by simp [va_rf_cat, cat_i, cat_l]) (fun ls hl => ?_)
              refine lv_iinc (v := (x2 + (2 : Int32))) (lv' := [(2, .int (x2 + (2 : Int32))), (1, .int r7), (4, .int r7), (3, .int r5), (0, va_rf x0)]) hx hb dX2_faultIn_53 hl (k := 4) rfl rfl (by decide) rfl (fun ls hl => ?_)
              refine lv_goto (tgt := 4) hx hb dX2_faultIn_56 (by decide) ?_
              exact ih _ _ _ _ _ _ _ h hcl hsl hw (lv_sub hl [4, 1, 0] rfl)
            · replace h := itf h c10
              refine lv_iconst (v := (4 : Int32)) hx hb dX2_faultIn_48 (by decide) ?_
              replace h := Option.some.inj h
              subst h
              exact RET hw ⟨(show cells + 0 ≤ 0 from by omega), (show slots + 0 ≤ 0 from by omega)⟩ dX2_faultIn_49
  unfold f_X2_faultIn at h
  refine lv_iconst (v := (-1 : Int32)) hx hb dX2_faultIn_0 (by decide) ?_
  refine lv_istore_n (i := 1) (lv' := [(1, .int (-1 : Int32)), (0, va_rf a1)]) hx hb dX2_faultIn_1 rfl hl (by decide) (by simp [va_rf_cat, cat_i, cat_l]) (fun ls hl => ?_)
  refine lv_iconst (v := (0 : Int32)) hx hb dX2_faultIn_2 (by decide) ?_
  refine lv_istore_n (i := 2) (lv' := [(2, .int (0 : Int32)), (1, .int (-1 : Int32)), (0, va_rf a1)]) hx hb dX2_faultIn_3 rfl hl (by decide) rfl (fun ls hl => ?_)
  exact L4 a1 _ _ _ _ _ _ _ _ h (Nat.zero_le _) (Nat.zero_le _) hw (lv_sub hl [2, 1, 0] rfl)

def f_X1_fill_L7 (B : Nat) (n : Nat) (x0 : Option Nat) (x2 : Int32) (x3 : Int32) : Nat → Mem → Int32 → Option (Mem)
  | 0, _, _ => none
  | k + 1, Mz, x4 => if x2 < x4 then (some (Mz)) else (if (1000 : Int32) ≤ x4 then (some (Mz)) else ((gR Mz x0 4 0).bind fun v3 => (sI B Mz 0 v3 x4 x3).bind fun M4 => f_X1_fill_L7 B n x0 x2 x3 k M4 (x4 + (1 : Int32))))
def f_X1_fill (B : Nat) (n : Nat) (M : Mem) (this : Option Nat) (a1 : Int32) (a2 : Int32) (a3 : Int32) : Option (Mem) := f_X1_fill_L7 B n this a2 a3 n M (if a1 < (0 : Int32) then (0 : Int32) else a1)
def rmX1_fill : Room := { frames := 1, cells := 0, slots := 0, locals := 21 }
theorem k_X1_fill_max32_0 : Cond.methodLink RX1 32 Lib.Math.max.name ∈ wsX1_fill := List.mem_of_getElem? (i := 1) rfl
theorem k_X1_fill_max32_1 : Cond.static Lib.Math.max.name ∈ wsX1_fill := List.mem_of_getElem? (i := 2) rfl
theorem k_X1_fill_max32_2 : Cond.initialized "java/lang/Math" ∈ wsX1_fill := List.mem_of_getElem? (i := 3) rfl
theorem k_X1_fill_max32_3 : Cond.code Lib.Math.max.name Lib.Math.max.code 2 (some .int) ∈ wsX1_fill := List.mem_of_getElem? (i := 4) rfl
theorem k_X1_fill_9 : Cond.fieldLink RX1 9 "LoanBook$Calendar" "days" "[I" ∈ wsX1_fill := List.mem_of_getElem? (i := 5) rfl
theorem ki_X1_fill_X1 : ∀ w ∈ u_ws RX1 TX1 2, w ∈ wsX1_fill := sub_r [6, 7] (by decide +kernel)
set_option maxHeartbeats 4000000 in
set_option maxRecDepth 100000 in
theorem c_X1_fill {G : wG} {l : Launch} {n : Nat} {M : Mem} {sz : Nat} {this : Option Nat} {a1 : Int32} {a2 : Int32} {a3 : Int32} {r : Mem} (h : f_X1_fill G.2.2.1 n M this a1 a2 a3 = some r) : CtrV G l yX1_fill wsX1_fill rmX1_fill [va_rf this, .int a1, .int a2, .int a3] M sz r sz := by
  refine m_startV (own := RX1) (cc := cX1_fill) (maxL := 5) (lv0 := [(0, va_rf this), (1, .int a1), (2, .int a2), (3, .int a3)]) (by decide) rfl rfl (by simp [lg_sl, va_rf_cat, cat_i, cat_r]) (by simp [lv_args, va_rf_cat, cat_i, cat_r]) ?_
  intro p e s m args below meth c Q hC hname RET hsz hw ls hl
  have hx := hC.1
  have hb := hC.2.1
  have L7 : ∀ (x0 : Option Nat) (x2 : Int32) (x3 : Int32) (k : Nat) (Mz : Mem) (x4 : Int32) (cells slots : Nat) (H : Heap) (locs : List Loc) (ls : Array Slot), f_X1_fill_L7 G.2.2.1 n x0 x2 x3 k Mz x4 = some r → cells ≤ 0 → slots ≤ 0 → wD G s M Mz sz H locs → lv_has ls 5 [(0, va_rf x0), (2, .int x2), (3, .int x3), (4, .int x4)] → W p l e rmX1_fill s m args below meth c H locs cells slots Q (F0 m 7 ls []) := by
    intro x0 x2 x3 k
    induction k with
    | zero =>
      intro Mz x4 cells slots H locs ls h
      exact absurd (show (none : Option (Mem)) = some r from h) (fun z => by cases z)
    | succ k ih =>
      intro Mz x4 cells slots H locs ls h hcl hsl hw hl
      rw [f_X1_fill_L7] at h
      refine lv_iload hx hb dX1_fill_7 (lv_at hl 3 rfl) ?_
      refine lv_iload_n hx hb dX1_fill_9 rfl (lv_at hl 1 rfl) ?_
      refine lv_icmp_gt (tgt := 35) hx hb dX1_fill_10 (by decide) (fun c1 => ?_) (fun c1 => ?_)
      · replace h := itt h c1
        replace h := Option.some.inj h
        subst h
        exact RET hw ⟨(show cells + 0 ≤ 0 from by omega), (show slots + 0 ≤ 0 from by omega)⟩ dX1_fill_35
      · replace h := itf h c1
        refine lv_iload hx hb dX1_fill_13 (lv_at hl 3 rfl) ?_
        refine lv_sipush (v := (1000 : Int32)) hx hb dX1_fill_15 (by decide) ?_
        refine lv_icmp_ge (tgt := 35) hx hb dX1_fill_18 (by decide) (fun c2 => ?_) (fun c2 => ?_)
        · replace h := itt h c2
          replace h := Option.some.inj h
          subst h
          exact RET hw ⟨(show cells + 0 ≤ 0 from by omega), (show slots + 0 ≤ 0 from by omega)⟩ dX1_fill_35
        · replace h := itf h c2
          refine m_aload_n (x := x0) hx hb dX1_fill_21 rfl (lv_at hl 0 rfl) ?_
          obtain ⟨v3, hv3, h⟩ := ob h
          refine m_getR hC hw (C := RX1) (T := TX1) (N := 2) hv3 ki_X1_fill_X1 rfl (by decide) k_X1_fill_9 (fun _ z => z) dX1_fill_22 ?_
          refine lv_iload hx hb dX1_fill_25 (lv_at hl 3 rfl) ?_
          refine lv_iload_n hx hb dX1_fill_27 rfl (lv_at hl 2 rfl) ?_
          obtain ⟨M4, hM4, h⟩ := ob h
          refine m_iast (x := v3) hC hw hM4 dX1_fill_28 (fun H locs hw => ?_)
          refine lv_iinc (v := (x4 + (1 : Int32))) (lv' := [(4, .int (x4 + (1 : Int32))), (0, va_rf x0), (2, .int x2), (3, .int x3)]) hx hb dX1_fill_29 hl (k := 3) rfl rfl (by decide) rfl (fun ls hl => ?_)
          refine lv_goto (tgt := 7) hx hb dX1_fill_32 (by decide) ?_
          exact ih _ _ _ _ _ _ _ h hcl hsl hw (lv_sub hl [1, 2, 3, 0] rfl)
  unfold f_X1_fill at h
  refine lv_iload_n hx hb dX1_fill_0 rfl (lv_at hl 1 rfl) ?_
  refine lv_iconst (v := (0 : Int32)) hx hb dX1_fill_1 (by decide) ?_
  refine va_mmax hx hb (hC.2.2.1.trans hl.1.symm) hC.2.2.2.1 (hC.tab _ k_X1_fill_max32_0) (hC.tab _ k_X1_fill_max32_1) (hC.tab _ k_X1_fill_max32_2) (hC.tab _ k_X1_fill_max32_3) (Nat.le_of_ble_eq_true rfl) (cat_13 (Nat.le_of_ble_eq_true rfl) (Nat.le_of_ble_eq_true rfl)) (Nat.zero_le _) (Nat.zero_le _) dX1_fill_2 ?_
  refine lv_istore (lv' := [(4, .int (if a1 < (0 : Int32) then (0 : Int32) else a1)), (0, va_rf this), (1, .int a1), (2, .int a2), (3, .int a3)]) hx hb dX1_fill_5 hl (by decide) rfl (fun ls hl => ?_)
  exact L7 this a2 a3 _ _ _ _ _ _ _ _ h (Nat.zero_le _) (Nat.zero_le _) hw (lv_sub hl [1, 3, 4, 0] rfl)

def f_X1_open (B : Nat) (n : Nat) (M : Mem) (this : Option Nat) (a1 : Int32) (a2 : Int32) : Option (Mem) := if isO M this 4 = true then ((f_X1_fill B n M this a1 a2 (-1 : Int32)).bind fun r2 => some (r2)) else none
def rmX1_open : Room := { frames := 2, cells := 0, slots := 0, locals := 45 }
set_option maxHeartbeats 4000000 in
set_option maxRecDepth 100000 in
theorem c_X1_open {G : wG} {l : Launch} {n : Nat} {M : Mem} {sz : Nat} {this : Option Nat} {a1 : Int32} {a2 : Int32} {r : Mem} (h : f_X1_open G.2.2.1 n M this a1 a2 = some r) : CtrV G l yX1_open wsX1_open rmX1_open [va_rf this, .int a1, .int a2] M sz r sz := by
  refine m_startV (own := RX1) (cc := cX1_open) (maxL := 3) (lv0 := [(0, va_rf this), (1, .int a1), (2, .int a2)]) (by decide) rfl rfl (by simp [lg_sl, va_rf_cat, cat_i, cat_r]) (by simp [lv_args, va_rf_cat, cat_i, cat_r]) ?_
  intro p e s m args below meth c Q hC hname RET hsz hw ls hl
  have hx := hC.1
  have hb := hC.2.1
  unfold f_X1_open at h
  refine m_aload_n (x := this) hx hb dX1_open_0 rfl (lv_at hl 0 rfl) ?_
  refine lv_iload_n hx hb dX1_open_1 rfl (lv_at hl 1 rfl) ?_
  refine lv_iload_n hx hb dX1_open_2 rfl (lv_at hl 2 rfl) ?_
  refine lv_iconst (v := (-1 : Int32)) hx hb dX1_open_3 (by decide) ?_
  obtain ⟨g1, h⟩ := itg h
  obtain ⟨r2, hr2, h⟩ := ob h
  refine m_contV hC hw (m_runV hC hw (x := this) (ci := 4) (N := 2) (C := RX1) (T := TX1) (n := 3) (av := [.int a1, .int a2, .int (-1 : Int32)]) (rest := []) (c_X1_fill (G := G) (l := l) hr2) gX1_open_X1_fill rfl (by decide +kernel) ⟨(Nat.le_of_ble_eq_true rfl), (Nat.le_of_ble_eq_true rfl)⟩ g1 rfl rfl hl.1 rfl (Nat.le_of_ble_eq_true rfl) dX1_open_4 ⟨(Nat.zero_le _), (Nat.zero_le _)⟩) (fun H locs hw => ?_)
  replace h := Option.some.inj h
  subst h
  exact RET hw ⟨(Nat.zero_le _), (Nat.zero_le _)⟩ dX1_open_7

def f_X2_init_L32 (B : Nat) (S : Nat → Nat) (n : Nat) (x0 : Option Nat) (x2 : Option Nat) (x3 : Option Nat) : Nat → Mem → Nat → Int32 → Option (Mem × Nat)
  | 0, _, _, _ => none
  | k + 1, Mz, zz, x4 => if isO Mz x2 10 = true then ((f_X7_size Mz x2).bind fun r9 => if r9 ≤ (x4 + (1 : Int32)) then (if isO Mz x3 1 = true then ((f_J4_toString_0e30d B Mz zz x3).bind fun r12 => (pF B r12.2.1 x0 5 1 (va_rf r12.1)).bind fun M13 => some ((M13, r12.2.2))) else none) else ((gR Mz x0 5 2).bind fun v14 => if isO Mz x2 10 = true then ((f_X7_told Mz x2 x4).bind fun r16 => if isO Mz x2 10 = true then ((f_X7_told Mz x2 (x4 + (1 : Int32))).bind fun r18 => if isO Mz v14 4 = true then ((f_X1_open B n Mz v14 r16 r18).bind fun r20 => ((if x4 ≤ 0 then (some (r20, zz)) else (if isO r20 x3 1 = true then ((f_J4_append_15ec4 B r20 zz x3 (some (S 13))).bind fun r24 => some (r24.2.1, r24.2.2)) else none)) : Option (Mem × Nat)).bind fun o25 => if isO o25.1 x2 10 = true then ((f_X7_told o25.1 x2 x4).bind fun r27 => if isO o25.1 x3 1 = true then ((f_J4_append_bf812 B S n o25.1 o25.2 x3 r27).bind fun r29 => if isO r29.2.1 r29.1 1 = true then ((f_J4_append_cf468 B r29.2.1 r29.2.2 r29.1 (45 : Int32)).bind fun r31 => if isO r31.2.1 x2 10 = true then ((f_X7_told r31.2.1 x2 (x4 + (1 : Int32))).bind fun r33 => if isO r31.2.1 r31.1 1 = true then ((f_J4_append_bf812 B S n r31.2.1 r31.2.2 r31.1 r33).bind fun r35 => f_X2_init_L32 B S n x0 x2 x3 k r35.2.1 r35.2.2 (x4 + (2 : Int32))) else none) else none) else none) else none) else none) else none) else none) else none)) else none
def f_X2_init (B : Nat) (S : Nat → Nat) (n : Nat) (M : Mem) (sz : Nat) (this : Option Nat) (a1 : Int32) (a2 : Option Nat) : Option (Mem × Nat) := if this ≠ none then ((some (va_up M sz (some (.inl (4, [.null, .int 0]))))).bind fun M2 => (f_X1_init B n M2 (sz + 1) (some sz) (0 : Int32)).bind fun r3 => (pF B r3.1 this 5 2 (va_rf (some sz))).bind fun M4 => (pF B M4 this 5 0 (.int a1)).bind fun M5 => (some (va_up M5 r3.2 (some (.inl (1, [.null, .int 0, .int 0, .int 0]))))).bind fun M6 => (f_J4_init_da8c8 B M6 (r3.2 + 1) (some r3.2)).bind fun r7 => f_X2_init_L32 B S n this a2 (some r3.2) 32 r7.1 r7.2 (0 : Int32)) else none
def rmX2_init : Room := { frames := 7, cells := 134, slots := 39774, locals := 171 }
theorem k_X2_init_oi3 : Cond.methodLink RX2 3 objectInit ∈ wsX2_init := List.mem_of_getElem? (i := 1) rfl
theorem k_X2_init_oj : Cond.instanceMethod objectInit ∈ wsX2_init := List.mem_of_getElem? (i := 2) rfl
theorem k_X2_init_ok : Cond.code objectInit ⟨#[0xb1]⟩ 1 none ∈ wsX2_init := List.mem_of_getElem? (i := 3) rfl
theorem k_X2_init_n9 : Cond.classLink RX2 9 RX1 ∈ wsX2_init := List.mem_of_getElem? (i := 4) rfl
theorem k_X2_init_ni9 : Cond.instantiable RX1 2 ∈ wsX2_init := List.mem_of_getElem? (i := 5) rfl
theorem k_X2_init_nj9 : Cond.initialized RX1 ∈ wsX2_init := List.mem_of_getElem? (i := 6) rfl
theorem ki_X2_init_X1 : ∀ w ∈ u_ws RX1 TX1 2, w ∈ wsX2_init := sub_r [295, 296] (by decide +kernel)
theorem k_X2_init_ml11 : Cond.methodLink RX2 11 yX1_init ∈ wsX2_init := List.mem_of_getElem? (i := 13) rfl
theorem k_X2_init_imX1_init : Cond.instanceMethod yX1_init ∈ wsX2_init := List.mem_of_getElem? (i := 14) rfl
theorem k_X2_init_inX1 : Cond.initialized RX1 ∈ wsX2_init := List.mem_of_getElem? (i := 6) rfl
theorem k_X2_init_14 : Cond.fieldLink RX2 14 "LoanBook$Courier" "calendar" "LLoanBook$Calendar;" ∈ wsX2_init := List.mem_of_getElem? (i := 7) rfl
theorem ki_X2_init_X2 : ∀ w ∈ u_ws RX2 TX2 3, w ∈ wsX2_init := sub_r [297, 298, 299] (by decide +kernel)
theorem k_X2_init_20 : Cond.fieldLink RX2 20 "LoanBook$Courier" "number" "I" ∈ wsX2_init := List.mem_of_getElem? (i := 8) rfl
theorem k_X2_init_n24 : Cond.classLink RX2 24 RJ4 ∈ wsX2_init := List.mem_of_getElem? (i := 9) rfl
theorem k_X2_init_ni24 : Cond.instantiable RJ4 4 ∈ wsX2_init := List.mem_of_getElem? (i := 10) rfl
theorem k_X2_init_nj24 : Cond.initialized RJ4 ∈ wsX2_init := List.mem_of_getElem? (i := 11) rfl
theorem ki_X2_init_J4 : ∀ w ∈ u_ws RJ4 TJ4 4, w ∈ wsX2_init := sub_r [300, 301, 302, 303] (by decide +kernel)
theorem k_X2_init_ml26 : Cond.methodLink RX2 26 yJ4_init_da8c8 ∈ wsX2_init := List.mem_of_getElem? (i := 24) rfl
theorem k_X2_init_imJ4_init_da8c8 : Cond.instanceMethod yJ4_init_da8c8 ∈ wsX2_init := List.mem_of_getElem? (i := 25) rfl
theorem k_X2_init_inJ4 : Cond.initialized RJ4 ∈ wsX2_init := List.mem_of_getElem? (i := 11) rfl
theorem k_X2_init_57 : Cond.fieldLink RX2 57 "LoanBook$Courier" "written" "Ljava/lang/String;" ∈ wsX2_init := List.mem_of_getElem? (i := 12) rfl
set_option maxHeartbeats 4000000 in
set_option maxRecDepth 100000 in
theorem c_X2_init {G : wG} {l : Launch} {n : Nat} {M : Mem} {sz : Nat} {this : Option Nat} {a1 : Int32} {a2 : Option Nat} {r : Mem × Nat} (h : f_X2_init G.2.2.1 G.2.2.2 n M sz this a1 a2 = some r) : CtrV G l yX2_init wsX2_init rmX2_init [va_rf this, .int a1, va_rf a2] M sz r.1 r.2 := by
  refine m_startV (own := RX2) (cc := cX2_init) (maxL := 5) (lv0 := [(0, va_rf this), (1, .int a1), (2, va_rf a2)]) (by decide) rfl rfl (by simp [lg_sl, va_rf_cat, cat_i, cat_r]) (by simp [lv_args, va_rf_cat, cat_i, cat_r]) ?_
  intro p e s m args below meth c Q hC hname RET hsz hw ls hl
  have hx := hC.1
  have hb := hC.2.1
  have L32 : ∀ (x0 : Option Nat) (x2 : Option Nat) (x3 : Option Nat) (k : Nat) (Mz : Mem) (zz : Nat) (x4 : Int32) (cells slots : Nat) (CF SF : Nat) (H : Heap) (locs : List Loc) (ls : Array Slot), f_X2_init_L32 G.2.2.1 G.2.2.2 n x0 x2 x3 k Mz zz x4 = some r → cells + k * 4 ≤ CF → slots + k * 1200 ≤ SF → CF + 2 ≤ 134 → SF + 304 ≤ 39774 → wD G s M Mz zz H locs → lv_has ls 5 [(0, va_rf x0), (2, va_rf x2), (3, va_rf x3), (4, .int x4)] → W p l e rmX2_init s m args below meth c H locs cells slots Q (F0 m 32 ls []) := by
    intro x0 x2 x3 k
    induction k with
    | zero =>
      intro Mz zz x4 cells slots CF SF H locs ls h
      exact absurd (show (none : Option (Mem × Nat)) = some r from h) (fun z => by cases z)
    | succ k ih =>
      intro Mz zz x4 cells slots CF SF H locs ls h hcl hsl hCF hSF hw hl
      rw [f_X2_init_L32] at h
      refine lv_iload hx hb dX2_init_32 (lv_at hl 3 rfl) ?_
      refine lv_iconst (v := (1 : Int32)) hx hb dX2_init_34 (by decide) ?_
      refine lv_iadd hx hb dX2_init_35 ?_
      refine m_aload_n (x := x2) hx hb dX2_init_36 rfl (lv_at hl 1 rfl) ?_
      obtain ⟨g8, h⟩ := itg h
      obtain ⟨r9, hr9, h⟩ := ob h
      refine m_contI hC hw (m_runV hC hw (x := x2) (ci := 10) (N := 5) (C := RX7) (T := TX7) (n := 0) (av := []) (rest := [.int (x4 + (1 : Int32))]) (c_X7_size (G := G) (l := l) hr9) gX2_init_X7_size rfl (by decide +kernel) ⟨(Nat.le_of_ble_eq_true rfl), (Nat.le_of_ble_eq_true rfl)⟩ g8 rfl rfl hl.1 rfl (Nat.le_of_ble_eq_true rfl) dX2_init_37 ⟨(show cells + 0 ≤ 134 from by omega), (show slots + 0 ≤ 39774 from by omega)⟩) (fun H locs hw => ?_)
      refine lv_icmp_ge (tgt := 109) hx hb dX2_init_40 (by decide) (fun c10 => ?_) (fun c10 => ?_)
      · replace h := itt h c10
        refine m_aload_n (x := x0) hx hb dX2_init_109 rfl (lv_at hl 0 rfl) ?_
        refine m_aload_n (x := x3) hx hb dX2_init_110 rfl (lv_at hl 2 rfl) ?_
        obtain ⟨g11, h⟩ := itg h
        obtain ⟨r12, hr12, h⟩ := ob h
        refine m_contQ hC hw (m_runV hC hw (x := x3) (ci := 1) (N := 4) (C := RJ4) (T := TJ4) (n := 0) (av := []) (rest := [va_rf x0]) (c_J4_toString_0e30d (G := G) (l := l) hr12) gX2_init_J4_toString_0e30d rfl (by decide +kernel) ⟨(Nat.le_of_ble_eq_true rfl), (Nat.le_of_ble_eq_true rfl)⟩ g11 rfl rfl hl.1 rfl (by simp [va_rf_cat, cat_i, cat_r, cat_l]) dX2_init_111 ⟨(show cells + 2 ≤ 134 from by omega), (show slots + 304 ≤ 39774 from by omega)⟩) (fun H locs hw => ?_)
        obtain ⟨M13, hM13, h⟩ := ob h
        refine m_putF hC hw (C := RX2) (T := TX2) (N := 3) (x := x0) hM13 ki_X2_init_X2 tyX2 tyX2_ok nmX2 rfl (by decide) k_X2_init_57 (fun _ z => z) rfl hname rfl (nar_rf _ _ (by decide)) (fit_rf _ _ (by decide)) dX2_init_114 (fun H locs hw => ?_)
        replace h := Option.some.inj h
        subst h
        exact RET hw ⟨(show cells + 2 ≤ 134 from by omega), (show slots + 304 ≤ 39774 from by omega)⟩ dX2_init_117
      · replace h := itf h c10
        refine m_aload_n (x := x0) hx hb dX2_init_43 rfl (lv_at hl 0 rfl) ?_
        obtain ⟨v14, hv14, h⟩ := ob h
        refine m_getR hC hw (C := RX2) (T := TX2) (N := 3) hv14 ki_X2_init_X2 rfl (by decide) k_X2_init_14 (fun _ z => z) dX2_init_44 ?_
        refine m_aload_n (x := x2) hx hb dX2_init_47 rfl (lv_at hl 1 rfl) ?_
        refine lv_iload hx hb dX2_init_48 (lv_at hl 3 rfl) ?_
        obtain ⟨g15, h⟩ := itg h
        obtain ⟨r16, hr16, h⟩ := ob h
        refine m_contI hC hw (m_runV hC hw (x := x2) (ci := 10) (N := 5) (C := RX7) (T := TX7) (n := 1) (av := [.int x4]) (rest := [va_rf v14]) (c_X7_told (G := G) (l := l) hr16) gX2_init_X7_told rfl (by decide +kernel) ⟨(Nat.le_of_ble_eq_true rfl), (Nat.le_of_ble_eq_true rfl)⟩ g15 rfl rfl hl.1 rfl (by simp [va_rf_cat, cat_i, cat_r, cat_l]) dX2_init_50 ⟨(show cells + 0 ≤ 134 from by omega), (show slots + 0 ≤ 39774 from by omega)⟩) (fun H locs hw => ?_)
        refine m_aload_n (x := x2) hx hb dX2_init_53 rfl (lv_at hl 1 rfl) ?_
        refine lv_iload hx hb dX2_init_54 (lv_at hl 3 rfl) ?_
        refine lv_iconst (v := (1 : Int32)) hx hb dX2_init_56 (by decide) ?_
        refine lv_iadd hx hb dX2_init_57 ?_
        obtain ⟨g17, h⟩ := itg h
        obtain ⟨r18, hr18, h⟩ := ob h
        refine m_contI hC hw (m_runV hC hw (x := x2) (ci := 10) (N := 5) (C := RX7) (T := TX7) (n := 1) (av := [.int (x4 + (1 : Int32))]) (rest := [.int r16, va_rf v14]) (c_X7_told (G := G) (l := l) hr18) gX2_init_X7_told rfl (by decide +kernel) ⟨(Nat.le_of_ble_eq_true rfl), (Nat.le_of_ble_eq_true rfl)⟩ g17 rfl rfl hl.1 rfl (by simp [va_rf_cat, cat_i, cat_r, cat_l]) dX2_init_58 ⟨(show cells + 0 ≤ 134 from by omega), (show slots + 0 ≤ 39774 from by omega)⟩) (fun H locs hw => ?_)
        obtain ⟨g19, h⟩ := itg h
        obtain ⟨r20, hr20, h⟩ := ob h
        refine m_contV hC hw (m_runV hC hw (x := v14) (ci := 4) (N := 2) (C := RX1) (T := TX1) (n := 2) (av := [.int r16, .int r18]) (rest := []) (c_X1_open (G := G) (l := l) hr20) gX2_init_X1_open rfl (by decide +kernel) ⟨(Nat.le_of_ble_eq_true rfl), (Nat.le_of_ble_eq_true rfl)⟩ g19 rfl rfl hl.1 rfl (Nat.le_of_ble_eq_true rfl) dX2_init_61 ⟨(show cells + 0 ≤ 134 from by omega), (show slots + 0 ≤ 39774 from by omega)⟩) (fun H locs hw => ?_)
        refine lv_iload hx hb dX2_init_64 (lv_at hl 3 rfl) ?_
        obtain ⟨o25, ho25, h⟩ := ob h
        have J21 : ∀ (H : Heap) (locs : List Loc) (ls : Array Slot), wD G s M o25.1 o25.2 H locs → lv_has ls 5 [(0, va_rf x0), (2, va_rf x2), (3, va_rf x3), (4, .int x4)] → W p l e rmX2_init s m args below meth c H locs (cells + 1) (slots + 300) Q (F0 m 76 ls []) := by
          intro H locs ls hw hl
          refine m_aload_n (x := x3) hx hb dX2_init_76 rfl (lv_at hl 2 rfl) ?_
          refine m_aload_n (x := x2) hx hb dX2_init_77 rfl (lv_at hl 1 rfl) ?_
          refine lv_iload hx hb dX2_init_78 (lv_at hl 3 rfl) ?_
          obtain ⟨g26, h⟩ := itg h
          obtain ⟨r27, hr27, h⟩ := ob h
          refine m_contI hC hw (m_runV hC hw (x := x2) (ci := 10) (N := 5) (C := RX7) (T := TX7) (n := 1) (av := [.int x4]) (rest := [va_rf x3]) (c_X7_told (G := G) (l := l) hr27) gX2_init_X7_told rfl (by decide +kernel) ⟨(Nat.le_of_ble_eq_true rfl), (Nat.le_of_ble_eq_true rfl)⟩ g26 rfl rfl hl.1 rfl (by simp [va_rf_cat, cat_i, cat_r, cat_l]) dX2_init_80 ⟨(show cells + 1 ≤ 134 from by omega), (show slots + 300 ≤ 39774 from by omega)⟩) (fun H locs hw => ?_)
          obtain ⟨g28, h⟩ := itg h
          obtain ⟨r29, hr29, h⟩ := ob h
          refine m_contQ hC hw (m_runV hC hw (x := x3) (ci := 1) (N := 4) (C := RJ4) (T := TJ4) (n := 1) (av := [.int r27]) (rest := []) (c_J4_append_bf812 (G := G) (l := l) hr29) gX2_init_J4_append_bf812 rfl (by decide +kernel) ⟨(Nat.le_of_ble_eq_true rfl), (Nat.le_of_ble_eq_true rfl)⟩ g28 rfl rfl hl.1 rfl (Nat.le_of_ble_eq_true rfl) dX2_init_83 ⟨(show cells + 2 ≤ 134 from by omega), (show slots + 600 ≤ 39774 from by omega)⟩) (fun H locs hw => ?_)
          refine lv_bipush (v := (45 : Int32)) hx hb dX2_init_86 (by decide) ?_
          obtain ⟨g30, h⟩ := itg h
          obtain ⟨r31, hr31, h⟩ := ob h
          refine m_contQ hC hw (m_runV hC hw (x := r29.1) (ci := 1) (N := 4) (C := RJ4) (T := TJ4) (n := 1) (av := [.int (45 : Int32)]) (rest := []) (c_J4_append_cf468 (G := G) (l := l) hr31) gX2_init_J4_append_cf468 rfl (by decide +kernel) ⟨(Nat.le_of_ble_eq_true rfl), (Nat.le_of_ble_eq_true rfl)⟩ g30 rfl rfl hl.1 rfl (Nat.le_of_ble_eq_true rfl) dX2_init_88 ⟨(show cells + 3 ≤ 134 from by omega), (show slots + 900 ≤ 39774 from by omega)⟩) (fun H locs hw => ?_)
          refine m_aload_n (x := x2) hx hb dX2_init_91 rfl (lv_at hl 1 rfl) ?_
          refine lv_iload hx hb dX2_init_92 (lv_at hl 3 rfl) ?_
          refine lv_iconst (v := (1 : Int32)) hx hb dX2_init_94 (by decide) ?_
          refine lv_iadd hx hb dX2_init_95 ?_
          obtain ⟨g32, h⟩ := itg h
          obtain ⟨r33, hr33, h⟩ := ob h
          refine m_contI hC hw (m_runV hC hw (x := x2) (ci := 10) (N := 5) (C := RX7) (T := TX7) (n := 1) (av := [.int (x4 + (1 : Int32))]) (rest := [va_rf r31.1]) (c_X7_told (G := G) (l := l) hr33) gX2_init_X7_told rfl (by decide +kernel) ⟨(Nat.le_of_ble_eq_true rfl), (Nat.le_of_ble_eq_true rfl)⟩ g32 rfl rfl hl.1 rfl (by simp [va_rf_cat, cat_i, cat_r, cat_l]) dX2_init_96 ⟨(show cells + 3 ≤ 134 from by omega), (show slots + 900 ≤ 39774 from by omega)⟩) (fun H locs hw => ?_)
          obtain ⟨g34, h⟩ := itg h
          obtain ⟨r35, hr35, h⟩ := ob h
          refine m_contQ hC hw (m_runV hC hw (x := r31.1) (ci := 1) (N := 4) (C := RJ4) (T := TJ4) (n := 1) (av := [.int r33]) (rest := []) (c_J4_append_bf812 (G := G) (l := l) hr35) gX2_init_J4_append_bf812 rfl (by decide +kernel) ⟨(Nat.le_of_ble_eq_true rfl), (Nat.le_of_ble_eq_true rfl)⟩ g34 rfl rfl hl.1 rfl (Nat.le_of_ble_eq_true rfl) dX2_init_99 ⟨(show cells + 4 ≤ 134 from by omega), (show slots + 1200 ≤ 39774 from by omega)⟩) (fun H locs hw => ?_)
          refine lv_pop hx hb dX2_init_102 (va_rf_cat _) ?_
          refine lv_iinc (v := (x4 + (2 : Int32))) (lv' := [(4, .int (x4 + (2 : Int32))), (0, va_rf x0), (2, va_rf x2), (3, va_rf x3)]) hx hb dX2_init_103 hl (k := 3) rfl rfl (by decide) (by simp [va_rf_cat, cat_i, cat_l]) (fun ls hl => ?_)
          refine lv_goto (tgt := 32) hx hb dX2_init_106 (by decide) ?_
          refine W.widen (k := cells + 4) (n := slots + 1200) (show cells + 4 ≤ cells + 4 by omega) (show slots + 1200 ≤ slots + 1200 by omega) ?_
          exact ih _ _ _ _ _ CF SF _ _ _ h (by omega) (by omega) hCF hSF hw (lv_sub hl [1, 2, 3, 0] rfl)
        clear h
        replace h := ho25
        refine lv_if_le (tgt := 76) hx hb dX2_init_66 (by decide) (fun c22 => ?_) (fun c22 => ?_)
        · replace h := itt h c22
          replace h := Option.some.inj h
          subst h
          refine W.widen (k := (cells + 1)) (n := (slots + 300)) (show cells + 0 ≤ cells + 1 from by omega) (show slots + 0 ≤ slots + 300 from by omega) ?_
          exact J21 _ _ _ hw (lv_sub hl [0, 1, 2, 3] rfl)
        · replace h := itf h c22
          refine m_aload_n (x := x3) hx hb dX2_init_69 rfl (lv_at hl 2 rfl) ?_
          refine m_ldc (tx := ", ") (i := 13) hC (by decide) dX2_init_70 ?_
          obtain ⟨g23, h⟩ := itg h
          obtain ⟨r24, hr24, h⟩ := ob h
          refine m_contQ hC hw (m_runV hC hw (x := x3) (ci := 1) (N := 4) (C := RJ4) (T := TJ4) (n := 1) (av := [va_rf (some (G.2.2.2 13))]) (rest := []) (c_J4_append_15ec4 (G := G) (l := l) hr24) gX2_init_J4_append_15ec4 rfl (by decide +kernel) ⟨(Nat.le_of_ble_eq_true rfl), (Nat.le_of_ble_eq_true rfl)⟩ g23 rfl rfl hl.1 rfl (Nat.le_of_ble_eq_true rfl) dX2_init_72 ⟨(show cells + 1 ≤ 134 from by omega), (show slots + 300 ≤ 39774 from by omega)⟩) (fun H locs hw => ?_)
          refine lv_pop hx hb dX2_init_75 (va_rf_cat _) ?_
          replace h := Option.some.inj h
          subst h
          refine W.widen (k := (cells + 1)) (n := (slots + 300)) (show cells + 1 ≤ cells + 1 from by omega) (show slots + 300 ≤ slots + 300 from by omega) ?_
          exact J21 _ _ _ hw (lv_sub hl [0, 1, 2, 3] rfl)
  unfold f_X2_init at h
  refine m_aload_n (x := this) hx hb dX2_init_0 rfl (lv_at hl 0 rfl) ?_
  obtain ⟨g1, h⟩ := itg h
  refine m_objInit (x := this) (isN_some g1) hC (hC.tab _ k_X2_init_oi3) (hC.tab _ k_X2_init_oj) (hC.tab _ k_X2_init_ok) hl.1 ((Nat.le_of_ble_eq_true rfl)) (Nat.le_of_ble_eq_true rfl) (Nat.le_of_ble_eq_true rfl) dX2_init_1 ?_
  refine m_aload_n (x := this) hx hb dX2_init_4 rfl (lv_at hl 0 rfl) ?_
  obtain ⟨M2, hM2, h⟩ := ob h
  refine m_new hC hw (C := RX1) (T := TX1) (N := 2) (ci := 4) (fs := [.null, .int 0]) ki_X2_init_X1 tyX1 tyX1_ok k_X2_init_n9 k_X2_init_ni9 k_X2_init_nj9 rfl (fun j hj => by match j, hj with | 0, _ => rfl | 1, _ => rfl) (Nat.le_of_ble_eq_true rfl) (Nat.le_of_ble_eq_true rfl) dX2_init_5 (fun H hw => ?_)
  rw [Option.some.inj hM2] at hw
  refine m_dup (x := (some sz)) hx hb dX2_init_8 ?_
  refine lv_iconst (v := (0 : Int32)) hx hb dX2_init_9 (by decide) ?_
  obtain ⟨r3, hr3, h⟩ := ob h
  refine m_contV hC hw (m_runI hC hw (x := (some sz)) (n := 1) (av := [.int (0 : Int32)]) (rest := [va_rf (some sz), va_rf this]) (c_X1_init (G := G) (l := l) hr3) gX2_init_X1_init k_X2_init_ml11 k_X2_init_imX1_init k_X2_init_inX1 rfl rfl (by decide +kernel) ⟨(Nat.le_of_ble_eq_true rfl), (Nat.le_of_ble_eq_true rfl)⟩ rfl rfl hl.1 rfl (by simp [va_rf_cat, cat_i, cat_r, cat_l]) dX2_init_10 ⟨(Nat.le_of_ble_eq_true rfl), (Nat.le_of_ble_eq_true rfl)⟩) (fun H locs hw => ?_)
  obtain ⟨M4, hM4, h⟩ := ob h
  refine m_putF hC hw (C := RX2) (T := TX2) (N := 3) (x := this) hM4 ki_X2_init_X2 tyX2 tyX2_ok nmX2 rfl (by decide) k_X2_init_14 (fun _ z => z) rfl hname rfl (nar_rf _ _ (by decide)) (fit_rf _ _ (by decide)) dX2_init_13 (fun H locs hw => ?_)
  refine m_aload_n (x := this) hx hb dX2_init_16 rfl (lv_at hl 0 rfl) ?_
  refine lv_iload_n hx hb dX2_init_17 rfl (lv_at hl 1 rfl) ?_
  obtain ⟨M5, hM5, h⟩ := ob h
  refine m_putF hC hw (C := RX2) (T := TX2) (N := 3) (x := this) hM5 ki_X2_init_X2 tyX2 tyX2_ok nmX2 rfl (by decide) k_X2_init_20 (fun _ z => z) rfl hname rfl rfl rfl dX2_init_18 (fun H locs hw => ?_)
  obtain ⟨M6, hM6, h⟩ := ob h
  refine m_new hC hw (C := RJ4) (T := TJ4) (N := 4) (ci := 1) (fs := [.null, .int 0, .int 0, .int 0]) ki_X2_init_J4 tyJ4 tyJ4_ok k_X2_init_n24 k_X2_init_ni24 k_X2_init_nj24 rfl (fun j hj => by match j, hj with | 0, _ => rfl | 1, _ => rfl | 2, _ => rfl | 3, _ => rfl) (Nat.le_of_ble_eq_true rfl) (Nat.le_of_ble_eq_true rfl) dX2_init_21 (fun H hw => ?_)
  rw [Option.some.inj hM6] at hw
  refine m_dup (x := (some r3.2)) hx hb dX2_init_24 ?_
  obtain ⟨r7, hr7, h⟩ := ob h
  refine m_contV hC hw (m_runI hC hw (x := (some r3.2)) (n := 0) (av := []) (rest := [va_rf (some r3.2)]) (c_J4_init_da8c8 (G := G) (l := l) hr7) gX2_init_J4_init_da8c8 k_X2_init_ml26 k_X2_init_imJ4_init_da8c8 k_X2_init_inJ4 rfl rfl (by decide +kernel) ⟨(Nat.le_of_ble_eq_true rfl), (Nat.le_of_ble_eq_true rfl)⟩ rfl rfl hl.1 rfl (by simp [va_rf_cat, cat_i, cat_r, cat_l]) dX2_init_25 ⟨(Nat.le_of_ble_eq_true rfl), (Nat.le_of_ble_eq_true rfl)⟩) (fun H locs hw => ?_)
  refine m_astore_n (x := (some r3.2)) (i := 3) (lv' := [(3, va_rf (some r3.2)), (0, va_rf this), (1, .int a1), (2, va_rf a2)]) hx hb dX2_init_28 rfl hl (by decide) (by simp [va_rf_cat, cat_i, cat_l]) (fun ls hl => ?_)
  refine lv_iconst (v := (0 : Int32)) hx hb dX2_init_29 (by decide) ?_
  refine lv_istore (lv' := [(4, .int (0 : Int32)), (3, va_rf (some r3.2)), (0, va_rf this), (1, .int a1), (2, va_rf a2)]) hx hb dX2_init_30 hl (by decide) (by simp [va_rf_cat, cat_i, cat_l]) (fun ls hl => ?_)
  exact L32 this a2 (some r3.2) _ _ _ _ _ _ 132 39470 _ _ _ h (by decide) (by decide) (Nat.le_of_ble_eq_true rfl) (Nat.le_of_ble_eq_true rfl) hw (lv_sub hl [2, 4, 1, 0] rfl)

def f_X7_readsLoan_L47 (B : Nat) (n : Nat) (x0 : Option Nat) : Nat → Mem → Int32 → Int32 → Option (Int32 × Mem)
  | 0, _, _, _ => none
  | k + 1, Mz, x1, x2 => if (120 : Int32) ≤ x2 then (if x1 = 0 then (some (((0 : Int32), Mz))) else (if isO Mz x0 10 = true then ((f_X7_isAtEnd B Mz x0).bind fun r21 => if r21.1 = 0 then (some (((0 : Int32), r21.2))) else (some (((1 : Int32), r21.2)))) else none)) else (if x1 = 0 then (if x1 = 0 then (some (((0 : Int32), Mz))) else (if isO Mz x0 10 = true then ((f_X7_isAtEnd B Mz x0).bind fun r26 => if r26.1 = 0 then (some (((0 : Int32), r26.2))) else (some (((1 : Int32), r26.2)))) else none)) else (if isO Mz x0 10 = true then ((f_X7_skips B Mz x0 (44 : Int32)).bind fun r29 => if r29.1 = 0 then (if x1 = 0 then (some (((0 : Int32), r29.2))) else (if isO r29.2 x0 10 = true then ((f_X7_isAtEnd B r29.2 x0).bind fun r33 => if r33.1 = 0 then (some (((0 : Int32), r33.2))) else (some (((1 : Int32), r33.2)))) else none)) else (if isO r29.2 x0 10 = true then ((f_X7_takesNumber B r29.2 x0).bind fun r36 => f_X7_readsLoan_L47 B n x0 k r36.2 r36.1 (x2 + (1 : Int32))) else none)) else none))
def f_X7_readsLoan (B : Nat) (n : Nat) (M : Mem) (this : Option Nat) : Option (Int32 × Mem) := if isO M this 10 = true then ((f_X7_takesNumber B M this).bind fun r2 => ((if r2.1 = 0 then (some ((0 : Int32), r2.2)) else (if isO r2.2 this 10 = true then ((f_X7_takesMark B r2.2 this (43 : Int32)).bind fun r6 => if r6.1 = 0 then (some ((0 : Int32), r6.2)) else (if isO r6.2 this 10 = true then ((f_X7_takesNumber B r6.2 this).bind fun r9 => if r9.1 = 0 then (some ((0 : Int32), r9.2)) else (if isO r9.2 this 10 = true then ((f_X7_takesMark B r9.2 this (58 : Int32)).bind fun r12 => if r12.1 = 0 then (some ((0 : Int32), r12.2)) else (if isO r12.2 this 10 = true then ((f_X7_takesNumber B r12.2 this).bind fun r15 => if r15.1 = 0 then (some ((0 : Int32), r15.2)) else (some ((1 : Int32), r15.2))) else none)) else none)) else none)) else none)) : Option (Int32 × Mem)).bind fun o17 => f_X7_readsLoan_L47 B n this n o17.2 o17.1 (0 : Int32)) else none
def rmX7_readsLoan : Room := { frames := 3, cells := 0, slots := 0, locals := 63 }
set_option maxHeartbeats 4000000 in
set_option maxRecDepth 100000 in
theorem c_X7_readsLoan {G : wG} {l : Launch} {n : Nat} {M : Mem} {sz : Nat} {this : Option Nat} {r : Int32 × Mem} (h : f_X7_readsLoan G.2.2.1 n M this = some r) : CtrI G l yX7_readsLoan wsX7_readsLoan rmX7_readsLoan [va_rf this] M sz r.1 r.2 sz := by
  refine m_startZ (own := RX7) (cc := cX7_readsLoan) (maxL := 3) (lv0 := [(0, va_rf this)]) (by decide) rfl rfl (by simp [lg_sl, va_rf_cat, cat_i, cat_r]) (by simp [lv_args, va_rf_cat, cat_i, cat_r]) ?_
  intro p e s m args below meth c Q hC hname RET hsz hw ls hl
  have hx := hC.1
  have hb := hC.2.1
  have L47 : ∀ (x0 : Option Nat) (k : Nat) (Mz : Mem) (x1 : Int32) (x2 : Int32) (cells slots : Nat) (H : Heap) (locs : List Loc) (ls : Array Slot), f_X7_readsLoan_L47 G.2.2.1 n x0 k Mz x1 x2 = some r → cells ≤ 0 → slots ≤ 0 → wD G s M Mz sz H locs → lv_has ls 3 [(0, va_rf x0), (1, .int x1), (2, .int x2)] → W p l e rmX7_readsLoan s m args below meth c H locs cells slots Q (F0 m 47 ls []) := by
    intro x0 k
    induction k with
    | zero =>
      intro Mz x1 x2 cells slots H locs ls h
      exact absurd (show (none : Option (Int32 × Mem)) = some r from h) (fun z => by cases z)
    | succ k ih =>
      intro Mz x1 x2 cells slots H locs ls h hcl hsl hw hl
      rw [f_X7_readsLoan_L47] at h
      refine lv_iload_n hx hb dX7_readsLoan_47 rfl (lv_at hl 2 rfl) ?_
      refine lv_bipush (v := (120 : Int32)) hx hb dX7_readsLoan_48 (by decide) ?_
      refine lv_icmp_ge (tgt := 77) hx hb dX7_readsLoan_50 (by decide) (fun c18 => ?_) (fun c18 => ?_)
      · replace h := itt h c18
        refine lv_iload_n hx hb dX7_readsLoan_77 rfl (lv_at hl 1 rfl) ?_
        refine lv_if_eq (tgt := 92) hx hb dX7_readsLoan_78 (by decide) (fun c19 => ?_) (fun c19 => ?_)
        · replace h := itt h c19
          refine lv_iconst (v := (0 : Int32)) hx hb dX7_readsLoan_92 (by decide) ?_
          replace h := Option.some.inj h
          subst h
          exact RET (isZ.nar (Or.inl rfl)) hw ⟨(show cells + 0 ≤ 0 from by omega), (show slots + 0 ≤ 0 from by omega)⟩ dX7_readsLoan_93
        · replace h := itf h c19
          refine m_aload_n (x := x0) hx hb dX7_readsLoan_81 rfl (lv_at hl 0 rfl) ?_
          obtain ⟨g20, h⟩ := itg h
          obtain ⟨r21, hr21, h⟩ := ob h
          refine m_contI hC hw (m_runV hC hw (x := x0) (ci := 10) (N := 5) (C := RX7) (T := TX7) (n := 0) (av := []) (rest := []) (c_X7_isAtEnd (G := G) (l := l) hr21) gX7_readsLoan_X7_isAtEnd rfl (by decide +kernel) ⟨(Nat.le_of_ble_eq_true rfl), (Nat.le_of_ble_eq_true rfl)⟩ g20 rfl rfl hl.1 rfl (Nat.le_of_ble_eq_true rfl) dX7_readsLoan_82 ⟨(show cells + 0 ≤ 0 from by omega), (show slots + 0 ≤ 0 from by omega)⟩) (fun H locs hw => ?_)
          refine lv_if_eq (tgt := 92) hx hb dX7_readsLoan_85 (by decide) (fun c22 => ?_) (fun c22 => ?_)
          · replace h := itt h c22
            refine lv_iconst (v := (0 : Int32)) hx hb dX7_readsLoan_92 (by decide) ?_
            replace h := Option.some.inj h
            subst h
            exact RET (isZ.nar (Or.inl rfl)) hw ⟨(show cells + 0 ≤ 0 from by omega), (show slots + 0 ≤ 0 from by omega)⟩ dX7_readsLoan_93
          · replace h := itf h c22
            refine lv_iconst (v := (1 : Int32)) hx hb dX7_readsLoan_88 (by decide) ?_
            refine lv_goto (tgt := 93) hx hb dX7_readsLoan_89 (by decide) ?_
            replace h := Option.some.inj h
            subst h
            exact RET (isZ.nar (Or.inr rfl)) hw ⟨(show cells + 0 ≤ 0 from by omega), (show slots + 0 ≤ 0 from by omega)⟩ dX7_readsLoan_93
      · replace h := itf h c18
        refine lv_iload_n hx hb dX7_readsLoan_53 rfl (lv_at hl 1 rfl) ?_
        refine lv_if_eq (tgt := 77) hx hb dX7_readsLoan_54 (by decide) (fun c23 => ?_) (fun c23 => ?_)
        · replace h := itt h c23
          refine lv_iload_n hx hb dX7_readsLoan_77 rfl (lv_at hl 1 rfl) ?_
          refine lv_if_eq (tgt := 92) hx hb dX7_readsLoan_78 (by decide) (fun c24 => ?_) (fun c24 => ?_)
          · replace h := itt h c24
            refine lv_iconst (v := (0 : Int32)) hx hb dX7_readsLoan_92 (by decide) ?_
            replace h := Option.some.inj h
            subst h
            exact RET (isZ.nar (Or.inl rfl)) hw ⟨(show cells + 0 ≤ 0 from by omega), (show slots + 0 ≤ 0 from by omega)⟩ dX7_readsLoan_93
          · replace h := itf h c24
            refine m_aload_n (x := x0) hx hb dX7_readsLoan_81 rfl (lv_at hl 0 rfl) ?_
            obtain ⟨g25, h⟩ := itg h
            obtain ⟨r26, hr26, h⟩ := ob h
            refine m_contI hC hw (m_runV hC hw (x := x0) (ci := 10) (N := 5) (C := RX7) (T := TX7) (n := 0) (av := []) (rest := []) (c_X7_isAtEnd (G := G) (l := l) hr26) gX7_readsLoan_X7_isAtEnd rfl (by decide +kernel) ⟨(Nat.le_of_ble_eq_true rfl), (Nat.le_of_ble_eq_true rfl)⟩ g25 rfl rfl hl.1 rfl (Nat.le_of_ble_eq_true rfl) dX7_readsLoan_82 ⟨(show cells + 0 ≤ 0 from by omega), (show slots + 0 ≤ 0 from by omega)⟩) (fun H locs hw => ?_)
            refine lv_if_eq (tgt := 92) hx hb dX7_readsLoan_85 (by decide) (fun c27 => ?_) (fun c27 => ?_)
            · replace h := itt h c27
              refine lv_iconst (v := (0 : Int32)) hx hb dX7_readsLoan_92 (by decide) ?_
              replace h := Option.some.inj h
              subst h
              exact RET (isZ.nar (Or.inl rfl)) hw ⟨(show cells + 0 ≤ 0 from by omega), (show slots + 0 ≤ 0 from by omega)⟩ dX7_readsLoan_93
            · replace h := itf h c27
              refine lv_iconst (v := (1 : Int32)) hx hb dX7_readsLoan_88 (by decide) ?_
              refine lv_goto (tgt := 93) hx hb dX7_readsLoan_89 (by decide) ?_
              replace h := Option.some.inj h
              subst h
              exact RET (isZ.nar (Or.inr rfl)) hw ⟨(show cells + 0 ≤ 0 from by omega), (show slots + 0 ≤ 0 from by omega)⟩ dX7_readsLoan_93
        · replace h := itf h c23
          refine m_aload_n (x := x0) hx hb dX7_readsLoan_57 rfl (lv_at hl 0 rfl) ?_
          refine lv_bipush (v := (44 : Int32)) hx hb dX7_readsLoan_58 (by decide) ?_
          obtain ⟨g28, h⟩ := itg h
          obtain ⟨r29, hr29, h⟩ := ob h
          refine m_contI hC hw (m_runV hC hw (x := x0) (ci := 10) (N := 5) (C := RX7) (T := TX7) (n := 1) (av := [.int (44 : Int32)]) (rest := []) (c_X7_skips (G := G) (l := l) hr29) gX7_readsLoan_X7_skips rfl (by decide +kernel) ⟨(Nat.le_of_ble_eq_true rfl), (Nat.le_of_ble_eq_true rfl)⟩ g28 rfl rfl hl.1 rfl (Nat.le_of_ble_eq_true rfl) dX7_readsLoan_60 ⟨(show cells + 0 ≤ 0 from by omega), (show slots + 0 ≤ 0 from by omega)⟩) (fun H locs hw => ?_)
          refine lv_if_eq (tgt := 77) hx hb dX7_readsLoan_63 (by decide) (fun c30 => ?_) (fun c30 => ?_)
          · replace h := itt h c30
            refine lv_iload_n hx hb dX7_readsLoan_77 rfl (lv_at hl 1 rfl) ?_
            refine lv_if_eq (tgt := 92) hx hb dX7_readsLoan_78 (by decide) (fun c31 => ?_) (fun c31 => ?_)
            · replace h := itt h c31
              refine lv_iconst (v := (0 : Int32)) hx hb dX7_readsLoan_92 (by decide) ?_
              replace h := Option.some.inj h
              subst h
              exact RET (isZ.nar (Or.inl rfl)) hw ⟨(show cells + 0 ≤ 0 from by omega), (show slots + 0 ≤ 0 from by omega)⟩ dX7_readsLoan_93
            · replace h := itf h c31
              refine m_aload_n (x := x0) hx hb dX7_readsLoan_81 rfl (lv_at hl 0 rfl) ?_
              obtain ⟨g32, h⟩ := itg h
              obtain ⟨r33, hr33, h⟩ := ob h
              refine m_contI hC hw (m_runV hC hw (x := x0) (ci := 10) (N := 5) (C := RX7) (T := TX7) (n := 0) (av := []) (rest := []) (c_X7_isAtEnd (G := G) (l := l) hr33) gX7_readsLoan_X7_isAtEnd rfl (by decide +kernel) ⟨(Nat.le_of_ble_eq_true rfl), (Nat.le_of_ble_eq_true rfl)⟩ g32 rfl rfl hl.1 rfl (Nat.le_of_ble_eq_true rfl) dX7_readsLoan_82 ⟨(show cells + 0 ≤ 0 from by omega), (show slots + 0 ≤ 0 from by omega)⟩) (fun H locs hw => ?_)
              refine lv_if_eq (tgt := 92) hx hb dX7_readsLoan_85 (by decide) (fun c34 => ?_) (fun c34 => ?_)
              · replace h := itt h c34
                refine lv_iconst (v := (0 : Int32)) hx hb dX7_readsLoan_92 (by decide) ?_
                replace h := Option.some.inj h
                subst h
                exact RET (isZ.nar (Or.inl rfl)) hw ⟨(show cells + 0 ≤ 0 from by omega), (show slots + 0 ≤ 0 from by omega)⟩ dX7_readsLoan_93
              · replace h := itf h c34
                refine lv_iconst (v := (1 : Int32)) hx hb dX7_readsLoan_88 (by decide) ?_
                refine lv_goto (tgt := 93) hx hb dX7_readsLoan_89 (by decide) ?_
                replace h := Option.some.inj h
                subst h
                exact RET (isZ.nar (Or.inr rfl)) hw ⟨(show cells + 0 ≤ 0 from by omega), (show slots + 0 ≤ 0 from by omega)⟩ dX7_readsLoan_93
          · replace h := itf h c30
            refine m_aload_n (x := x0) hx hb dX7_readsLoan_66 rfl (lv_at hl 0 rfl) ?_
            obtain ⟨g35, h⟩ := itg h
            obtain ⟨r36, hr36, h⟩ := ob h
            refine m_contI hC hw (m_runV hC hw (x := x0) (ci := 10) (N := 5) (C := RX7) (T := TX7) (n := 0) (av := []) (rest := []) (c_X7_takesNumber (G := G) (l := l) hr36) gX7_readsLoan_X7_takesNumber rfl (by decide +kernel) ⟨(Nat.le_of_ble_eq_true rfl), (Nat.le_of_ble_eq_true rfl)⟩ g35 rfl rfl hl.1 rfl (Nat.le_of_ble_eq_true rfl) dX7_readsLoan_67 ⟨(show cells + 0 ≤ 0 from by omega), (show slots + 0 ≤ 0 from by omega)⟩) (fun H locs hw => ?_)
            refine lv_istore_n (i := 1) (lv' := [(1, .int r36.1), (0, va_rf x0), (2, .int x2)]) hx hb dX7_readsLoan_70 rfl hl (by decide) (by simp [va_rf_cat, cat_i, cat_l]) (fun ls hl => ?_)
            refine lv_iinc (v := (x2 + (1 : Int32))) (lv' := [(2, .int (x2 + (1 : Int32))), (1, .int r36.1), (0, va_rf x0)]) hx hb dX7_readsLoan_71 hl (k := 2) rfl rfl (by decide) rfl (fun ls hl => ?_)
            refine lv_goto (tgt := 47) hx hb dX7_readsLoan_74 (by decide) ?_
            exact ih _ _ _ _ _ _ _ _ h hcl hsl hw (lv_sub hl [2, 1, 0] rfl)
  unfold f_X7_readsLoan at h
  refine m_aload_n (x := this) hx hb dX7_readsLoan_0 rfl (lv_at hl 0 rfl) ?_
  obtain ⟨g1, h⟩ := itg h
  obtain ⟨r2, hr2, h⟩ := ob h
  refine m_contI hC hw (m_runV hC hw (x := this) (ci := 10) (N := 5) (C := RX7) (T := TX7) (n := 0) (av := []) (rest := []) (c_X7_takesNumber (G := G) (l := l) hr2) gX7_readsLoan_X7_takesNumber rfl (by decide +kernel) ⟨(Nat.le_of_ble_eq_true rfl), (Nat.le_of_ble_eq_true rfl)⟩ g1 rfl rfl hl.1 rfl (Nat.le_of_ble_eq_true rfl) dX7_readsLoan_1 ⟨(Nat.zero_le _), (Nat.zero_le _)⟩) (fun H locs hw => ?_)
  obtain ⟨o17, ho17, h⟩ := ob h
  have J3 : ∀ (H : Heap) (locs : List Loc) (ls : Array Slot), wD G s M o17.2 sz H locs → lv_has ls 3 [(0, va_rf this)] → W p l e rmX7_readsLoan s m args below meth c H locs 0 0 Q (F0 m 44 ls [.int o17.1]) := by
    intro H locs ls hw hl
    refine lv_istore_n (i := 1) (lv' := [(1, .int o17.1), (0, va_rf this)]) hx hb dX7_readsLoan_44 rfl hl (by decide) (by simp [va_rf_cat, cat_i, cat_l]) (fun ls hl => ?_)
    refine lv_iconst (v := (0 : Int32)) hx hb dX7_readsLoan_45 (by decide) ?_
    refine lv_istore_n (i := 2) (lv' := [(2, .int (0 : Int32)), (1, .int o17.1), (0, va_rf this)]) hx hb dX7_readsLoan_46 rfl hl (by decide) rfl (fun ls hl => ?_)
    exact L47 this _ _ _ _ _ _ _ _ _ h (Nat.zero_le _) (Nat.zero_le _) hw (lv_sub hl [2, 1, 0] rfl)
  clear h
  replace h := ho17
  refine lv_if_eq (tgt := 43) hx hb dX7_readsLoan_4 (by decide) (fun c4 => ?_) (fun c4 => ?_)
  · replace h := itt h c4
    refine lv_iconst (v := (0 : Int32)) hx hb dX7_readsLoan_43 (by decide) ?_
    replace h := Option.some.inj h
    subst h
    exact J3 _ _ _ hw (lv_sub hl [0] rfl)
  · replace h := itf h c4
    refine m_aload_n (x := this) hx hb dX7_readsLoan_7 rfl (lv_at hl 0 rfl) ?_
    refine lv_bipush (v := (43 : Int32)) hx hb dX7_readsLoan_8 (by decide) ?_
    obtain ⟨g5, h⟩ := itg h
    obtain ⟨r6, hr6, h⟩ := ob h
    refine m_contI hC hw (m_runV hC hw (x := this) (ci := 10) (N := 5) (C := RX7) (T := TX7) (n := 1) (av := [.int (43 : Int32)]) (rest := []) (c_X7_takesMark (G := G) (l := l) hr6) gX7_readsLoan_X7_takesMark rfl (by decide +kernel) ⟨(Nat.le_of_ble_eq_true rfl), (Nat.le_of_ble_eq_true rfl)⟩ g5 rfl rfl hl.1 rfl (Nat.le_of_ble_eq_true rfl) dX7_readsLoan_10 ⟨(Nat.zero_le _), (Nat.zero_le _)⟩) (fun H locs hw => ?_)
    refine lv_if_eq (tgt := 43) hx hb dX7_readsLoan_13 (by decide) (fun c7 => ?_) (fun c7 => ?_)
    · replace h := itt h c7
      refine lv_iconst (v := (0 : Int32)) hx hb dX7_readsLoan_43 (by decide) ?_
      replace h := Option.some.inj h
      subst h
      exact J3 _ _ _ hw (lv_sub hl [0] rfl)
    · replace h := itf h c7
      refine m_aload_n (x := this) hx hb dX7_readsLoan_16 rfl (lv_at hl 0 rfl) ?_
      obtain ⟨g8, h⟩ := itg h
      obtain ⟨r9, hr9, h⟩ := ob h
      refine m_contI hC hw (m_runV hC hw (x := this) (ci := 10) (N := 5) (C := RX7) (T := TX7) (n := 0) (av := []) (rest := []) (c_X7_takesNumber (G := G) (l := l) hr9) gX7_readsLoan_X7_takesNumber rfl (by decide +kernel) ⟨(Nat.le_of_ble_eq_true rfl), (Nat.le_of_ble_eq_true rfl)⟩ g8 rfl rfl hl.1 rfl (Nat.le_of_ble_eq_true rfl) dX7_readsLoan_17 ⟨(Nat.zero_le _), (Nat.zero_le _)⟩) (fun H locs hw => ?_)
      refine lv_if_eq (tgt := 43) hx hb dX7_readsLoan_20 (by decide) (fun c10 => ?_) (fun c10 => ?_)
      · replace h := itt h c10
        refine lv_iconst (v := (0 : Int32)) hx hb dX7_readsLoan_43 (by decide) ?_
        replace h := Option.some.inj h
        subst h
        exact J3 _ _ _ hw (lv_sub hl [0] rfl)
      · replace h := itf h c10
        refine m_aload_n (x := this) hx hb dX7_readsLoan_23 rfl (lv_at hl 0 rfl) ?_
        refine lv_bipush (v := (58 : Int32)) hx hb dX7_readsLoan_24 (by decide) ?_
        obtain ⟨g11, h⟩ := itg h
        obtain ⟨r12, hr12, h⟩ := ob h
        refine m_contI hC hw (m_runV hC hw (x := this) (ci := 10) (N := 5) (C := RX7) (T := TX7) (n := 1) (av := [.int (58 : Int32)]) (rest := []) (c_X7_takesMark (G := G) (l := l) hr12) gX7_readsLoan_X7_takesMark rfl (by decide +kernel) ⟨(Nat.le_of_ble_eq_true rfl), (Nat.le_of_ble_eq_true rfl)⟩ g11 rfl rfl hl.1 rfl (Nat.le_of_ble_eq_true rfl) dX7_readsLoan_26 ⟨(Nat.zero_le _), (Nat.zero_le _)⟩) (fun H locs hw => ?_)
        refine lv_if_eq (tgt := 43) hx hb dX7_readsLoan_29 (by decide) (fun c13 => ?_) (fun c13 => ?_)
        · replace h := itt h c13
          refine lv_iconst (v := (0 : Int32)) hx hb dX7_readsLoan_43 (by decide) ?_
          replace h := Option.some.inj h
          subst h
          exact J3 _ _ _ hw (lv_sub hl [0] rfl)
        · replace h := itf h c13
          refine m_aload_n (x := this) hx hb dX7_readsLoan_32 rfl (lv_at hl 0 rfl) ?_
          obtain ⟨g14, h⟩ := itg h
          obtain ⟨r15, hr15, h⟩ := ob h
          refine m_contI hC hw (m_runV hC hw (x := this) (ci := 10) (N := 5) (C := RX7) (T := TX7) (n := 0) (av := []) (rest := []) (c_X7_takesNumber (G := G) (l := l) hr15) gX7_readsLoan_X7_takesNumber rfl (by decide +kernel) ⟨(Nat.le_of_ble_eq_true rfl), (Nat.le_of_ble_eq_true rfl)⟩ g14 rfl rfl hl.1 rfl (Nat.le_of_ble_eq_true rfl) dX7_readsLoan_33 ⟨(Nat.zero_le _), (Nat.zero_le _)⟩) (fun H locs hw => ?_)
          refine lv_if_eq (tgt := 43) hx hb dX7_readsLoan_36 (by decide) (fun c16 => ?_) (fun c16 => ?_)
          · replace h := itt h c16
            refine lv_iconst (v := (0 : Int32)) hx hb dX7_readsLoan_43 (by decide) ?_
            replace h := Option.some.inj h
            subst h
            exact J3 _ _ _ hw (lv_sub hl [0] rfl)
          · replace h := itf h c16
            refine lv_iconst (v := (1 : Int32)) hx hb dX7_readsLoan_39 (by decide) ?_
            refine lv_goto (tgt := 44) hx hb dX7_readsLoan_40 (by decide) ?_
            replace h := Option.some.inj h
            subst h
            exact J3 _ _ _ hw (lv_sub hl [0] rfl)

def f_X11_isDay (M : Mem) (a1 : Int32) : Option (Int32) := if a1 < 0 then (some (0 : Int32)) else (if (1000 : Int32) ≤ a1 then (some (0 : Int32)) else (some (1 : Int32)))
def rmX11_isDay : Room := { frames := 0, cells := 0, slots := 0, locals := 0 }
set_option maxHeartbeats 4000000 in
set_option maxRecDepth 100000 in
theorem c_X11_isDay {G : wG} {l : Launch} {M : Mem} {sz : Nat} {a1 : Int32} {r : Int32} (h : f_X11_isDay M a1 = some r) : CtrI G l yX11_isDay wsX11_isDay rmX11_isDay [.int a1] M sz r M sz := by
  refine m_startZ (own := RX11) (cc := cX11_isDay) (maxL := 1) (lv0 := [(0, .int a1)]) (by decide) rfl rfl (by simp [lg_sl, va_rf_cat, cat_i, cat_r]) (by simp [lv_args, va_rf_cat, cat_i, cat_r]) ?_
  intro p e s m args below meth c Q hC hname RET hsz hw ls hl
  have hx := hC.1
  have hb := hC.2.1
  unfold f_X11_isDay at h
  refine lv_iload_n hx hb dX11_isDay_0 rfl (lv_at hl 0 rfl) ?_
  refine lv_if_lt (tgt := 15) hx hb dX11_isDay_1 (by decide) (fun c1 => ?_) (fun c1 => ?_)
  · replace h := itt h c1
    refine lv_iconst (v := (0 : Int32)) hx hb dX11_isDay_15 (by decide) ?_
    replace h := Option.some.inj h
    subst h
    exact RET (isZ.nar (Or.inl rfl)) hw ⟨(Nat.zero_le _), (Nat.zero_le _)⟩ dX11_isDay_16
  · replace h := itf h c1
    refine lv_iload_n hx hb dX11_isDay_4 rfl (lv_at hl 0 rfl) ?_
    refine lv_sipush (v := (1000 : Int32)) hx hb dX11_isDay_5 (by decide) ?_
    refine lv_icmp_ge (tgt := 15) hx hb dX11_isDay_8 (by decide) (fun c2 => ?_) (fun c2 => ?_)
    · replace h := itt h c2
      refine lv_iconst (v := (0 : Int32)) hx hb dX11_isDay_15 (by decide) ?_
      replace h := Option.some.inj h
      subst h
      exact RET (isZ.nar (Or.inl rfl)) hw ⟨(Nat.zero_le _), (Nat.zero_le _)⟩ dX11_isDay_16
    · replace h := itf h c2
      refine lv_iconst (v := (1 : Int32)) hx hb dX11_isDay_11 (by decide) ?_
      refine lv_goto (tgt := 16) hx hb dX11_isDay_12 (by decide) ?_
      replace h := Option.some.inj h
      subst h
      exact RET (isZ.nar (Or.inr rfl)) hw ⟨(Nat.zero_le _), (Nat.zero_le _)⟩ dX11_isDay_16

def f_X1_isOpen_L18 (n : Nat) (M : Mem) (x0 : Option Nat) (x2 : Int32) : Nat → Int32 → Option (Int32)
  | 0, _ => none
  | k + 1, x3 => if x2 < x3 then (some ((1 : Int32))) else ((gR M x0 4 0).bind fun v6 => (aI M 0 v6 x3).bind fun v7 => if v7 = (-1 : Int32) then (f_X1_isOpen_L18 n M x0 x2 k (x3 + (1 : Int32))) else (some ((0 : Int32))))
def f_X1_isOpen (n : Nat) (M : Mem) (this : Option Nat) (a1 : Int32) (a2 : Int32) : Option (Int32) := (f_X11_isDay M a1).bind fun r1 => if r1 = 0 then (some (0 : Int32)) else ((f_X11_isDay M a2).bind fun r3 => if r3 = 0 then (some (0 : Int32)) else (f_X1_isOpen_L18 n M this a2 n a1))
def rmX1_isOpen : Room := { frames := 1, cells := 0, slots := 0, locals := 20 }
theorem k_X1_isOpen_stX11_isDay : Cond.static yX11_isDay ∈ wsX1_isOpen := List.mem_of_getElem? (i := 2) rfl
theorem k_X1_isOpen_inX11 : Cond.initialized RX11 ∈ wsX1_isOpen := List.mem_of_getElem? (i := 3) rfl
theorem k_X1_isOpen_9 : Cond.fieldLink RX1 9 "LoanBook$Calendar" "days" "[I" ∈ wsX1_isOpen := List.mem_of_getElem? (i := 1) rfl
theorem ki_X1_isOpen_X1 : ∀ w ∈ u_ws RX1 TX1 2, w ∈ wsX1_isOpen := sub_r [5, 6] (by decide +kernel)
set_option maxHeartbeats 4000000 in
set_option maxRecDepth 100000 in
theorem c_X1_isOpen {G : wG} {l : Launch} {n : Nat} {M : Mem} {sz : Nat} {this : Option Nat} {a1 : Int32} {a2 : Int32} {r : Int32} (h : f_X1_isOpen n M this a1 a2 = some r) : CtrI G l yX1_isOpen wsX1_isOpen rmX1_isOpen [va_rf this, .int a1, .int a2] M sz r M sz := by
  refine m_startZ (own := RX1) (cc := cX1_isOpen) (maxL := 4) (lv0 := [(0, va_rf this), (1, .int a1), (2, .int a2)]) (by decide) rfl rfl (by simp [lg_sl, va_rf_cat, cat_i, cat_r]) (by simp [lv_args, va_rf_cat, cat_i, cat_r]) ?_
  intro p e s m args below meth c Q hC hname RET hsz hw ls hl
  have hx := hC.1
  have hb := hC.2.1
  have L18 : ∀ (x0 : Option Nat) (x2 : Int32) (k : Nat) (x3 : Int32) (cells slots : Nat) (H : Heap) (locs : List Loc) (ls : Array Slot), f_X1_isOpen_L18 n M x0 x2 k x3 = some r → cells ≤ 0 → slots ≤ 0 → wD G s M M sz H locs → lv_has ls 4 [(0, va_rf x0), (2, .int x2), (3, .int x3)] → W p l e rmX1_isOpen s m args below meth c H locs cells slots Q (F0 m 18 ls []) := by
    intro x0 x2 k
    induction k with
    | zero =>
      intro x3 cells slots H locs ls h
      exact absurd (show (none : Option (Int32)) = some r from h) (fun z => by cases z)
    | succ k ih =>
      intro x3 cells slots H locs ls h hcl hsl hw hl
      rw [f_X1_isOpen_L18] at h
      refine lv_iload_n hx hb dX1_isOpen_18 rfl (lv_at hl 2 rfl) ?_
      refine lv_iload_n hx hb dX1_isOpen_19 rfl (lv_at hl 1 rfl) ?_
      refine lv_icmp_gt (tgt := 41) hx hb dX1_isOpen_20 (by decide) (fun c5 => ?_) (fun c5 => ?_)
      · replace h := itt h c5
        refine lv_iconst (v := (1 : Int32)) hx hb dX1_isOpen_41 (by decide) ?_
        replace h := Option.some.inj h
        subst h
        exact RET (isZ.nar (Or.inr rfl)) hw ⟨(show cells + 0 ≤ 0 from by omega), (show slots + 0 ≤ 0 from by omega)⟩ dX1_isOpen_42
      · replace h := itf h c5
        refine m_aload_n (x := x0) hx hb dX1_isOpen_23 rfl (lv_at hl 0 rfl) ?_
        obtain ⟨v6, hv6, h⟩ := ob h
        refine m_getR hC hw (C := RX1) (T := TX1) (N := 2) hv6 ki_X1_isOpen_X1 rfl (by decide) k_X1_isOpen_9 (fun _ z => z) dX1_isOpen_24 ?_
        refine lv_iload_n hx hb dX1_isOpen_27 rfl (lv_at hl 2 rfl) ?_
        obtain ⟨v7, hv7, h⟩ := ob h
        refine m_iald (x := v6) hC hw hv7 dX1_isOpen_28 ?_
        refine lv_iconst (v := (-1 : Int32)) hx hb dX1_isOpen_29 (by decide) ?_
        refine lv_icmp_eq (tgt := 35) hx hb dX1_isOpen_30 (by decide) (fun c8 => ?_) (fun c8 => ?_)
        · replace h := itt h c8
          refine lv_iinc (v := (x3 + (1 : Int32))) (lv' := [(3, .int (x3 + (1 : Int32))), (0, va_rf x0), (2, .int x2)]) hx hb dX1_isOpen_35 hl (k := 2) rfl rfl (by decide) rfl (fun ls hl => ?_)
          refine lv_goto (tgt := 18) hx hb dX1_isOpen_38 (by decide) ?_
          exact ih _ _ _ _ _ _ h hcl hsl hw (lv_sub hl [1, 2, 0] rfl)
        · replace h := itf h c8
          refine lv_iconst (v := (0 : Int32)) hx hb dX1_isOpen_33 (by decide) ?_
          replace h := Option.some.inj h
          subst h
          exact RET (isZ.nar (Or.inl rfl)) hw ⟨(show cells + 0 ≤ 0 from by omega), (show slots + 0 ≤ 0 from by omega)⟩ dX1_isOpen_34
  unfold f_X1_isOpen at h
  refine lv_iload_n hx hb dX1_isOpen_0 rfl (lv_at hl 1 rfl) ?_
  obtain ⟨r1, hr1, h⟩ := ob h
  refine m_contI hC hw (m_runSN hC hw (host := "LoanBook") (n := 1) (av := [.int a1]) (rest := []) (c_X11_isDay (G := G) (l := l) hr1) gX1_isOpen_X11_isDay_n28 (by decide +kernel) k_X1_isOpen_stX11_isDay k_X1_isOpen_inX11 rfl (by decide +kernel) ⟨(Nat.le_of_ble_eq_true rfl), (Nat.le_of_ble_eq_true rfl)⟩ rfl hl.1 rfl (Nat.le_of_ble_eq_true rfl) dX1_isOpen_1 ⟨(Nat.zero_le _), (Nat.zero_le _)⟩) (fun H locs hw => ?_)
  refine lv_if_eq (tgt := 14) hx hb dX1_isOpen_4 (by decide) (fun c2 => ?_) (fun c2 => ?_)
  · replace h := itt h c2
    refine lv_iconst (v := (0 : Int32)) hx hb dX1_isOpen_14 (by decide) ?_
    replace h := Option.some.inj h
    subst h
    exact RET (isZ.nar (Or.inl rfl)) hw ⟨(Nat.zero_le _), (Nat.zero_le _)⟩ dX1_isOpen_15
  · replace h := itf h c2
    refine lv_iload_n hx hb dX1_isOpen_7 rfl (lv_at hl 2 rfl) ?_
    obtain ⟨r3, hr3, h⟩ := ob h
    refine m_contI hC hw (m_runSN hC hw (host := "LoanBook") (n := 1) (av := [.int a2]) (rest := []) (c_X11_isDay (G := G) (l := l) hr3) gX1_isOpen_X11_isDay_n28 (by decide +kernel) k_X1_isOpen_stX11_isDay k_X1_isOpen_inX11 rfl (by decide +kernel) ⟨(Nat.le_of_ble_eq_true rfl), (Nat.le_of_ble_eq_true rfl)⟩ rfl hl.1 rfl (Nat.le_of_ble_eq_true rfl) dX1_isOpen_8 ⟨(Nat.zero_le _), (Nat.zero_le _)⟩) (fun H locs hw => ?_)
    refine lv_if_ne (tgt := 16) hx hb dX1_isOpen_11 (by decide) (fun c4 => ?_) (fun c4 => ?_)
    · replace h := itf h c4
      refine lv_iload_n hx hb dX1_isOpen_16 rfl (lv_at hl 1 rfl) ?_
      refine lv_istore_n (i := 3) (lv' := [(3, .int a1), (0, va_rf this), (1, .int a1), (2, .int a2)]) hx hb dX1_isOpen_17 rfl hl (by decide) rfl (fun ls hl => ?_)
      exact L18 this a2 _ _ _ _ _ _ _ h (Nat.zero_le _) (Nat.zero_le _) hw (lv_sub hl [1, 3, 0] rfl)
    · replace h := itt h c4
      refine lv_iconst (v := (0 : Int32)) hx hb dX1_isOpen_14 (by decide) ?_
      replace h := Option.some.inj h
      subst h
      exact RET (isZ.nar (Or.inl rfl)) hw ⟨(Nat.zero_le _), (Nat.zero_le _)⟩ dX1_isOpen_15

def f_X4_init (B : Nat) (S : Nat → Nat) (M : Mem) (sz : Nat) (this : Option Nat) (a1 : Option Nat) (a2 : Int32) (a3 : Int32) : Option (Mem × Nat) := if this ≠ none then ((some (va_up M sz (some (.inl (2, [.int 0, .null, .int 0]))))).bind fun M2 => (f_Jx4a65c_init_da8c8 B S M2 (some sz)).bind fun r3 => (pF B r3 this 7 2 (va_rf (some sz))).bind fun M4 => (pF B M4 this 7 3 (.int (1 : Int32))).bind fun M5 => (pF B M5 this 7 0 (va_rf a1)).bind fun M6 => (pF B M6 this 7 1 (.int a2)).bind fun M7 => (pF B M7 this 7 4 (.int a3)).bind fun M8 => some (M8, (sz + 1))) else none
def rmX4_init : Room := { frames := 4, cells := 1, slots := 3, locals := 80 }
theorem k_X4_init_oi3 : Cond.methodLink RX4 3 objectInit ∈ wsX4_init := List.mem_of_getElem? (i := 1) rfl
theorem k_X4_init_oj : Cond.instanceMethod objectInit ∈ wsX4_init := List.mem_of_getElem? (i := 2) rfl
theorem k_X4_init_ok : Cond.code objectInit ⟨#[0xb1]⟩ 1 none ∈ wsX4_init := List.mem_of_getElem? (i := 3) rfl
theorem k_X4_init_n9 : Cond.classLink RX4 9 RJx4a65c ∈ wsX4_init := List.mem_of_getElem? (i := 4) rfl
theorem k_X4_init_ni9 : Cond.instantiable RJx4a65c 3 ∈ wsX4_init := List.mem_of_getElem? (i := 5) rfl
theorem k_X4_init_nj9 : Cond.initialized RJx4a65c ∈ wsX4_init := List.mem_of_getElem? (i := 6) rfl
theorem ki_X4_init_Jx4a65c : ∀ w ∈ u_ws RJx4a65c TJx4a65c 3, w ∈ wsX4_init := sub_r [27, 28, 29] (by decide +kernel)
theorem k_X4_init_ml11 : Cond.methodLink RX4 11 yJx4a65c_init_da8c8 ∈ wsX4_init := List.mem_of_getElem? (i := 12) rfl
theorem k_X4_init_imJx4a65c_init_da8c8 : Cond.instanceMethod yJx4a65c_init_da8c8 ∈ wsX4_init := List.mem_of_getElem? (i := 13) rfl
theorem k_X4_init_inJx4a65c : Cond.initialized RJx4a65c ∈ wsX4_init := List.mem_of_getElem? (i := 6) rfl
theorem k_X4_init_12 : Cond.fieldLink RX4 12 "LoanBook$Loan" "parcels" "Ljava/util/ArrayList;" ∈ wsX4_init := List.mem_of_getElem? (i := 7) rfl
theorem ki_X4_init_X4 : ∀ w ∈ u_ws RX4 TX4 5, w ∈ wsX4_init := sub_r [30, 31, 32, 33, 34] (by decide +kernel)
theorem k_X4_init_18 : Cond.fieldLink RX4 18 "LoanBook$Loan" "stands" "Z" ∈ wsX4_init := List.mem_of_getElem? (i := 8) rfl
theorem k_X4_init_22 : Cond.fieldLink RX4 22 "LoanBook$Loan" "borrower" "LLoanBook$House;" ∈ wsX4_init := List.mem_of_getElem? (i := 9) rfl
theorem k_X4_init_26 : Cond.fieldLink RX4 26 "LoanBook$Loan" "first" "I" ∈ wsX4_init := List.mem_of_getElem? (i := 10) rfl
theorem k_X4_init_30 : Cond.fieldLink RX4 30 "LoanBook$Loan" "stay" "I" ∈ wsX4_init := List.mem_of_getElem? (i := 11) rfl
set_option maxHeartbeats 4000000 in
set_option maxRecDepth 100000 in
theorem c_X4_init {G : wG} {l : Launch} {M : Mem} {sz : Nat} {this : Option Nat} {a1 : Option Nat} {a2 : Int32} {a3 : Int32} {r : Mem × Nat} (h : f_X4_init G.2.2.1 G.2.2.2 M sz this a1 a2 a3 = some r) : CtrV G l yX4_init wsX4_init rmX4_init [va_rf this, va_rf a1, .int a2, .int a3] M sz r.1 r.2 := by
  refine m_startV (own := RX4) (cc := cX4_init) (maxL := 4) (lv0 := [(0, va_rf this), (1, va_rf a1), (2, .int a2), (3, .int a3)]) (by decide) rfl rfl (by simp [lg_sl, va_rf_cat, cat_i, cat_r]) (by simp [lv_args, va_rf_cat, cat_i, cat_r]) ?_
  intro p e s m args below meth c Q hC hname RET hsz hw ls hl
  have hx := hC.1
  have hb := hC.2.1
  unfold f_X4_init at h
  refine m_aload_n (x := this) hx hb dX4_init_0 rfl (lv_at hl 0 rfl) ?_
  obtain ⟨g1, h⟩ := itg h
  refine m_objInit (x := this) (isN_some g1) hC (hC.tab _ k_X4_init_oi3) (hC.tab _ k_X4_init_oj) (hC.tab _ k_X4_init_ok) hl.1 ((Nat.le_of_ble_eq_true rfl)) (Nat.le_of_ble_eq_true rfl) (Nat.le_of_ble_eq_true rfl) dX4_init_1 ?_
  refine m_aload_n (x := this) hx hb dX4_init_4 rfl (lv_at hl 0 rfl) ?_
  obtain ⟨M2, hM2, h⟩ := ob h
  refine m_new hC hw (C := RJx4a65c) (T := TJx4a65c) (N := 3) (ci := 2) (fs := [.int 0, .null, .int 0]) ki_X4_init_Jx4a65c tyJx4a65c tyJx4a65c_ok k_X4_init_n9 k_X4_init_ni9 k_X4_init_nj9 rfl (fun j hj => by match j, hj with | 0, _ => rfl | 1, _ => rfl | 2, _ => rfl) (Nat.le_of_ble_eq_true rfl) (Nat.le_of_ble_eq_true rfl) dX4_init_5 (fun H hw => ?_)
  rw [Option.some.inj hM2] at hw
  refine m_dup (x := (some sz)) hx hb dX4_init_8 ?_
  obtain ⟨r3, hr3, h⟩ := ob h
  refine m_contV hC hw (m_runI hC hw (x := (some sz)) (n := 0) (av := []) (rest := [va_rf (some sz), va_rf this]) (c_Jx4a65c_init_da8c8 (G := G) (l := l) hr3) gX4_init_Jx4a65c_init_da8c8 k_X4_init_ml11 k_X4_init_imJx4a65c_init_da8c8 k_X4_init_inJx4a65c rfl rfl (by decide +kernel) ⟨(Nat.le_of_ble_eq_true rfl), (Nat.le_of_ble_eq_true rfl)⟩ rfl rfl hl.1 rfl (by simp [va_rf_cat, cat_i, cat_r, cat_l]) dX4_init_9 ⟨(Nat.le_of_ble_eq_true rfl), (Nat.le_of_ble_eq_true rfl)⟩) (fun H locs hw => ?_)
  obtain ⟨M4, hM4, h⟩ := ob h
  refine m_putF hC hw (C := RX4) (T := TX4) (N := 5) (x := this) hM4 ki_X4_init_X4 tyX4 tyX4_ok nmX4 rfl (by decide) k_X4_init_12 (fun _ z => z) rfl hname rfl (nar_rf _ _ (by decide)) (fit_rf _ _ (by decide)) dX4_init_12 (fun H locs hw => ?_)
  refine m_aload_n (x := this) hx hb dX4_init_15 rfl (lv_at hl 0 rfl) ?_
  refine lv_iconst (v := (1 : Int32)) hx hb dX4_init_16 (by decide) ?_
  obtain ⟨M5, hM5, h⟩ := ob h
  refine m_put hC hw (C := RX4) (T := TX4) (N := 5) (x := this) hM5 ki_X4_init_X4 tyX4 tyX4_ok nmX4 rfl (by decide) k_X4_init_18 (fun _ z => z) rfl (by decide) (by decide) dX4_init_17 (fun H locs hw => ?_)
  refine m_aload_n (x := this) hx hb dX4_init_20 rfl (lv_at hl 0 rfl) ?_
  refine m_aload_n (x := a1) hx hb dX4_init_21 rfl (lv_at hl 1 rfl) ?_
  obtain ⟨M6, hM6, h⟩ := ob h
  refine m_putF hC hw (C := RX4) (T := TX4) (N := 5) (x := this) hM6 ki_X4_init_X4 tyX4 tyX4_ok nmX4 rfl (by decide) k_X4_init_22 (fun _ z => z) rfl hname rfl (nar_rf _ _ (by decide)) (fit_rf _ _ (by decide)) dX4_init_22 (fun H locs hw => ?_)
  refine m_aload_n (x := this) hx hb dX4_init_25 rfl (lv_at hl 0 rfl) ?_
  refine lv_iload_n hx hb dX4_init_26 rfl (lv_at hl 2 rfl) ?_
  obtain ⟨M7, hM7, h⟩ := ob h
  refine m_putF hC hw (C := RX4) (T := TX4) (N := 5) (x := this) hM7 ki_X4_init_X4 tyX4 tyX4_ok nmX4 rfl (by decide) k_X4_init_26 (fun _ z => z) rfl hname rfl rfl rfl dX4_init_27 (fun H locs hw => ?_)
  refine m_aload_n (x := this) hx hb dX4_init_30 rfl (lv_at hl 0 rfl) ?_
  refine lv_iload_n hx hb dX4_init_31 rfl (lv_at hl 3 rfl) ?_
  obtain ⟨M8, hM8, h⟩ := ob h
  refine m_putF hC hw (C := RX4) (T := TX4) (N := 5) (x := this) hM8 ki_X4_init_X4 tyX4 tyX4_ok nmX4 rfl (by decide) k_X4_init_30 (fun _ z => z) rfl hname rfl rfl rfl dX4_init_32 (fun H locs hw => ?_)
  replace h := Option.some.inj h
  subst h
  exact RET hw ⟨(Nat.le_of_ble_eq_true rfl), (Nat.le_of_ble_eq_true rfl)⟩ dX4_init_35

def f_X10_bars (M : Mem) (this : Option Nat) (a1 : Int32) : Option (Int32) := (gI M this 13 7).bind fun v1 => (f_X10_holdsBit M v1 a1).bind fun r2 => if r2 = 0 ∨ r2 = 1 then (some (r2)) else none
def rmX10_bars : Room := { frames := 1, cells := 0, slots := 0, locals := 21 }
theorem k_X10_bars_57 : Cond.fieldLink RX10 57 "LoanBook$Thing" "barred" "I" ∈ wsX10_bars := List.mem_of_getElem? (i := 1) rfl
theorem ki_X10_bars_X10 : ∀ w ∈ u_ws RX10 TX10 9, w ∈ wsX10_bars := sub_r [6, 7, 8, 9, 10, 11, 12, 13, 14] (by decide +kernel)
set_option maxHeartbeats 4000000 in
set_option maxRecDepth 100000 in
theorem c_X10_bars {G : wG} {l : Launch} {M : Mem} {sz : Nat} {this : Option Nat} {a1 : Int32} {r : Int32} (h : f_X10_bars M this a1 = some r) : CtrI G l yX10_bars wsX10_bars rmX10_bars [va_rf this, .int a1] M sz r M sz := by
  refine m_startZ (own := RX10) (cc := cX10_bars) (maxL := 2) (lv0 := [(0, va_rf this), (1, .int a1)]) (by decide) rfl rfl (by simp [lg_sl, va_rf_cat, cat_i, cat_r]) (by simp [lv_args, va_rf_cat, cat_i, cat_r]) ?_
  intro p e s m args below meth c Q hC hname RET hsz hw ls hl
  have hx := hC.1
  have hb := hC.2.1
  unfold f_X10_bars at h
  refine m_aload_n (x := this) hx hb dX10_bars_0 rfl (lv_at hl 0 rfl) ?_
  obtain ⟨v1, hv1, h⟩ := ob h
  refine m_getI hC hw (C := RX10) (T := TX10) (N := 9) hv1 ki_X10_bars_X10 rfl (by decide) k_X10_bars_57 (fun _ z => z) dX10_bars_1 ?_
  refine lv_iload_n hx hb dX10_bars_4 rfl (lv_at hl 1 rfl) ?_
  obtain ⟨r2, hr2, h⟩ := ob h
  refine m_contI hC hw (m_runS hC hw (n := 2) (av := [.int v1, .int a1]) (rest := []) (c_X10_holdsBit (G := G) (l := l) hr2) gX10_bars_X10_holdsBit rfl (by decide +kernel) ⟨(Nat.le_of_ble_eq_true rfl), (Nat.le_of_ble_eq_true rfl)⟩ rfl hl.1 rfl (Nat.le_of_ble_eq_true rfl) dX10_bars_5 ⟨(Nat.zero_le _), (Nat.zero_le _)⟩) (fun H locs hw => ?_)
  obtain ⟨g3, h⟩ := itg h
  replace h := Option.some.inj h
  subst h
  exact RET (isZ.nar g3) hw ⟨(Nat.zero_le _), (Nat.zero_le _)⟩ dX10_bars_8

def f_X5_fits_L17 (n : Nat) (M : Mem) (x0 : Option Nat) (x1 : Option Nat) : Nat → Int32 → Option (Int32)
  | 0, _ => none
  | k + 1, x3 => (gR M x0 8 1).bind fun v4 => if isO M v4 2 = true then ((f_Jx4a65c_size_8abf5 M v4).bind fun r6 => if r6 ≤ x3 then (some ((1 : Int32))) else ((gR M x0 8 1).bind fun v8 => if isO M v8 2 = true then ((f_Jx4a65c_get_915e3 M v8 x3).bind fun r10 => if r10 = none ∨ isO M r10 13 = true then ((gI M x1 13 1).bind fun v12 => if isO M r10 13 = true then ((f_X10_bars M r10 v12).bind fun r14 => if r14 = 0 then ((gI M r10 13 1).bind fun v16 => if isO M x1 13 = true then ((f_X10_bars M x1 v16).bind fun r18 => if r18 = 0 then (f_X5_fits_L17 n M x0 x1 k (x3 + (1 : Int32))) else (some ((0 : Int32)))) else none) else (some ((0 : Int32)))) else none) else none) else none)) else none
def f_X5_fits (n : Nat) (M : Mem) (this : Option Nat) (a1 : Option Nat) (a2 : Int32) : Option (Int32) := (gI M this 8 0).bind fun v1 => (gI M a1 13 2).bind fun v2 => if (v1 + v2) ≤ a2 then (f_X5_fits_L17 n M this a1 n (0 : Int32)) else (some (0 : Int32))
def rmX5_fits : Room := { frames := 3, cells := 0, slots := 0, locals := 64 }
theorem k_X5_fits_9 : Cond.fieldLink RX5 9 "LoanBook$Parcel" "weighs" "I" ∈ wsX5_fits := List.mem_of_getElem? (i := 1) rfl
theorem ki_X5_fits_X5 : ∀ w ∈ u_ws RX5 TX5 4, w ∈ wsX5_fits := sub_r [38, 39, 40, 41] (by decide +kernel)
theorem k_X5_fits_28 : Cond.fieldLink RX5 28 "LoanBook$Thing" "weighs" "I" ∈ wsX5_fits := List.mem_of_getElem? (i := 2) rfl
theorem ki_X5_fits_X10 : ∀ w ∈ u_ws RX10 TX10 9, w ∈ wsX5_fits := sub_r [42, 43, 44, 45, 46, 47, 48, 49, 50] (by decide +kernel)
theorem k_X5_fits_18 : Cond.fieldLink RX5 18 "LoanBook$Parcel" "content" "Ljava/util/ArrayList;" ∈ wsX5_fits := List.mem_of_getElem? (i := 3) rfl
theorem k_X5_fits_cc29 : Cond.classLink RX5 29 RX10 ∈ wsX5_fits := List.mem_of_getElem? (i := 4) rfl
theorem k_X5_fits_39 : Cond.fieldLink RX5 39 "LoanBook$Thing" "kind" "I" ∈ wsX5_fits := List.mem_of_getElem? (i := 5) rfl
set_option maxHeartbeats 4000000 in
set_option maxRecDepth 100000 in
theorem c_X5_fits {G : wG} {l : Launch} {n : Nat} {M : Mem} {sz : Nat} {this : Option Nat} {a1 : Option Nat} {a2 : Int32} {r : Int32} (h : f_X5_fits n M this a1 a2 = some r) : CtrI G l yX5_fits wsX5_fits rmX5_fits [va_rf this, va_rf a1, .int a2] M sz r M sz := by
  refine m_startZ (own := RX5) (cc := cX5_fits) (maxL := 5) (lv0 := [(0, va_rf this), (1, va_rf a1), (2, .int a2)]) (by decide) rfl rfl (by simp [lg_sl, va_rf_cat, cat_i, cat_r]) (by simp [lv_args, va_rf_cat, cat_i, cat_r]) ?_
  intro p e s m args below meth c Q hC hname RET hsz hw ls hl
  have hx := hC.1
  have hb := hC.2.1
  have L17 : ∀ (x0 : Option Nat) (x1 : Option Nat) (k : Nat) (x3 : Int32) (cells slots : Nat) (H : Heap) (locs : List Loc) (ls : Array Slot), f_X5_fits_L17 n M x0 x1 k x3 = some r → cells ≤ 0 → slots ≤ 0 → wD G s M M sz H locs → lv_has ls 5 [(0, va_rf x0), (1, va_rf x1), (3, .int x3)] → W p l e rmX5_fits s m args below meth c H locs cells slots Q (F0 m 17 ls []) := by
    intro x0 x1 k
    induction k with
    | zero =>
      intro x3 cells slots H locs ls h
      exact absurd (show (none : Option (Int32)) = some r from h) (fun z => by cases z)
    | succ k ih =>
      intro x3 cells slots H locs ls h hcl hsl hw hl
      rw [f_X5_fits_L17] at h
      refine lv_iload_n hx hb dX5_fits_17 rfl (lv_at hl 2 rfl) ?_
      refine m_aload_n (x := x0) hx hb dX5_fits_18 rfl (lv_at hl 0 rfl) ?_
      obtain ⟨v4, hv4, h⟩ := ob h
      refine m_getR hC hw (C := RX5) (T := TX5) (N := 4) hv4 ki_X5_fits_X5 rfl (by decide) k_X5_fits_18 (fun _ z => z) dX5_fits_19 ?_
      obtain ⟨g5, h⟩ := itg h
      obtain ⟨r6, hr6, h⟩ := ob h
      refine m_contI hC hw (m_runV hC hw (x := v4) (ci := 2) (N := 3) (C := RJx4a65c) (T := TJx4a65c) (n := 0) (av := []) (rest := [.int x3]) (c_Jx4a65c_size_8abf5 (G := G) (l := l) hr6) gX5_fits_Jx4a65c_size_8abf5 rfl (by decide +kernel) ⟨(Nat.le_of_ble_eq_true rfl), (Nat.le_of_ble_eq_true rfl)⟩ g5 rfl rfl hl.1 rfl (Nat.le_of_ble_eq_true rfl) dX5_fits_22 ⟨(show cells + 0 ≤ 0 from by omega), (show slots + 0 ≤ 0 from by omega)⟩) (fun H locs hw => ?_)
      refine lv_icmp_ge (tgt := 73) hx hb dX5_fits_25 (by decide) (fun c7 => ?_) (fun c7 => ?_)
      · replace h := itt h c7
        refine lv_iconst (v := (1 : Int32)) hx hb dX5_fits_73 (by decide) ?_
        replace h := Option.some.inj h
        subst h
        exact RET (isZ.nar (Or.inr rfl)) hw ⟨(show cells + 0 ≤ 0 from by omega), (show slots + 0 ≤ 0 from by omega)⟩ dX5_fits_74
      · replace h := itf h c7
        refine m_aload_n (x := x0) hx hb dX5_fits_28 rfl (lv_at hl 0 rfl) ?_
        obtain ⟨v8, hv8, h⟩ := ob h
        refine m_getR hC hw (C := RX5) (T := TX5) (N := 4) hv8 ki_X5_fits_X5 rfl (by decide) k_X5_fits_18 (fun _ z => z) dX5_fits_29 ?_
        refine lv_iload_n hx hb dX5_fits_32 rfl (lv_at hl 2 rfl) ?_
        obtain ⟨g9, h⟩ := itg h
        obtain ⟨r10, hr10, h⟩ := ob h
        refine m_contQ hC hw (m_runV hC hw (x := v8) (ci := 2) (N := 3) (C := RJx4a65c) (T := TJx4a65c) (n := 1) (av := [.int x3]) (rest := []) (c_Jx4a65c_get_915e3 (G := G) (l := l) hr10) gX5_fits_Jx4a65c_get_915e3 rfl (by decide +kernel) ⟨(Nat.le_of_ble_eq_true rfl), (Nat.le_of_ble_eq_true rfl)⟩ g9 rfl rfl hl.1 rfl (Nat.le_of_ble_eq_true rfl) dX5_fits_33 ⟨(show cells + 0 ≤ 0 from by omega), (show slots + 0 ≤ 0 from by omega)⟩) (fun H locs hw => ?_)
        obtain ⟨g11, h⟩ := itg h
        refine m_cast (x := r10) hC hw (C := RX10) (T := TX10) (N := 9) g11 k_X5_fits_cc29 rfl dX5_fits_36 ?_
        refine m_astore (x := r10) (lv' := [(4, va_rf r10), (0, va_rf x0), (1, va_rf x1), (3, .int x3)]) hx hb dX5_fits_39 hl (by decide) rfl (fun ls hl => ?_)
        refine m_aload (x := r10) hx hb dX5_fits_41 (lv_at hl 0 rfl) ?_
        refine m_aload_n (x := x1) hx hb dX5_fits_43 rfl (lv_at hl 2 rfl) ?_
        obtain ⟨v12, hv12, h⟩ := ob h
        refine m_getI hC hw (C := RX10) (T := TX10) (N := 9) hv12 ki_X5_fits_X10 rfl (by decide) k_X5_fits_39 (fun _ z => z) dX5_fits_44 ?_
        obtain ⟨g13, h⟩ := itg h
        obtain ⟨r14, hr14, h⟩ := ob h
        refine m_contI hC hw (m_runV hC hw (x := r10) (ci := 13) (N := 9) (C := RX10) (T := TX10) (n := 1) (av := [.int v12]) (rest := []) (c_X10_bars (G := G) (l := l) hr14) gX5_fits_X10_bars rfl (by decide +kernel) ⟨(Nat.le_of_ble_eq_true rfl), (Nat.le_of_ble_eq_true rfl)⟩ g13 rfl rfl hl.1 rfl (Nat.le_of_ble_eq_true rfl) dX5_fits_47 ⟨(show cells + 0 ≤ 0 from by omega), (show slots + 0 ≤ 0 from by omega)⟩) (fun H locs hw => ?_)
        refine lv_if_ne (tgt := 65) hx hb dX5_fits_50 (by decide) (fun c15 => ?_) (fun c15 => ?_)
        · replace h := itf h c15
          refine lv_iconst (v := (0 : Int32)) hx hb dX5_fits_65 (by decide) ?_
          replace h := Option.some.inj h
          subst h
          exact RET (isZ.nar (Or.inl rfl)) hw ⟨(show cells + 0 ≤ 0 from by omega), (show slots + 0 ≤ 0 from by omega)⟩ dX5_fits_66
        · replace h := itt h c15
          refine m_aload_n (x := x1) hx hb dX5_fits_53 rfl (lv_at hl 2 rfl) ?_
          refine m_aload (x := r10) hx hb dX5_fits_54 (lv_at hl 0 rfl) ?_
          obtain ⟨v16, hv16, h⟩ := ob h
          refine m_getI hC hw (C := RX10) (T := TX10) (N := 9) hv16 ki_X5_fits_X10 rfl (by decide) k_X5_fits_39 (fun _ z => z) dX5_fits_56 ?_
          obtain ⟨g17, h⟩ := itg h
          obtain ⟨r18, hr18, h⟩ := ob h
          refine m_contI hC hw (m_runV hC hw (x := x1) (ci := 13) (N := 9) (C := RX10) (T := TX10) (n := 1) (av := [.int v16]) (rest := []) (c_X10_bars (G := G) (l := l) hr18) gX5_fits_X10_bars rfl (by decide +kernel) ⟨(Nat.le_of_ble_eq_true rfl), (Nat.le_of_ble_eq_true rfl)⟩ g17 rfl rfl hl.1 rfl (Nat.le_of_ble_eq_true rfl) dX5_fits_59 ⟨(show cells + 0 ≤ 0 from by omega), (show slots + 0 ≤ 0 from by omega)⟩) (fun H locs hw => ?_)
          refine lv_if_eq (tgt := 67) hx hb dX5_fits_62 (by decide) (fun c19 => ?_) (fun c19 => ?_)
          · replace h := itt h c19
            refine lv_iinc (v := (x3 + (1 : Int32))) (lv' := [(3, .int (x3 + (1 : Int32))), (4, va_rf r10), (0, va_rf x0), (1, va_rf x1)]) hx hb dX5_fits_67 hl (k := 3) rfl rfl (by decide) rfl (fun ls hl => ?_)
            refine lv_goto (tgt := 17) hx hb dX5_fits_70 (by decide) ?_
            exact ih _ _ _ _ _ _ h hcl hsl hw (lv_sub hl [2, 3, 0] rfl)
          · replace h := itf h c19
            refine lv_iconst (v := (0 : Int32)) hx hb dX5_fits_65 (by decide) ?_
            replace h := Option.some.inj h
            subst h
            exact RET (isZ.nar (Or.inl rfl)) hw ⟨(show cells + 0 ≤ 0 from by omega), (show slots + 0 ≤ 0 from by omega)⟩ dX5_fits_66
  unfold f_X5_fits at h
  refine m_aload_n (x := this) hx hb dX5_fits_0 rfl (lv_at hl 0 rfl) ?_
  obtain ⟨v1, hv1, h⟩ := ob h
  refine m_getI hC hw (C := RX5) (T := TX5) (N := 4) hv1 ki_X5_fits_X5 rfl (by decide) k_X5_fits_9 (fun _ z => z) dX5_fits_1 ?_
  refine m_aload_n (x := a1) hx hb dX5_fits_4 rfl (lv_at hl 1 rfl) ?_
  obtain ⟨v2, hv2, h⟩ := ob h
  refine m_getI hC hw (C := RX10) (T := TX10) (N := 9) hv2 ki_X5_fits_X10 rfl (by decide) k_X5_fits_28 (fun _ z => z) dX5_fits_5 ?_
  refine lv_iadd hx hb dX5_fits_8 ?_
  refine lv_iload_n hx hb dX5_fits_9 rfl (lv_at hl 2 rfl) ?_
  refine lv_icmp_le (tgt := 15) hx hb dX5_fits_10 (by decide) (fun c3 => ?_) (fun c3 => ?_)
  · replace h := itt h c3
    refine lv_iconst (v := (0 : Int32)) hx hb dX5_fits_15 (by decide) ?_
    refine lv_istore_n (i := 3) (lv' := [(3, .int (0 : Int32)), (0, va_rf this), (1, va_rf a1), (2, .int a2)]) hx hb dX5_fits_16 rfl hl (by decide) rfl (fun ls hl => ?_)
    exact L17 this a1 _ _ _ _ _ _ _ h (Nat.zero_le _) (Nat.zero_le _) hw (lv_sub hl [1, 2, 0] rfl)
  · replace h := itf h c3
    refine lv_iconst (v := (0 : Int32)) hx hb dX5_fits_13 (by decide) ?_
    replace h := Option.some.inj h
    subst h
    exact RET (isZ.nar (Or.inl rfl)) hw ⟨(Nat.zero_le _), (Nat.zero_le _)⟩ dX5_fits_14

def f_X5_put (B : Nat) (S : Nat → Nat) (M : Mem) (sz : Nat) (this : Option Nat) (a1 : Option Nat) : Option (Mem × Nat) := (gR M this 8 1).bind fun v1 => if isO M v1 2 = true then ((f_Jx4a65c_add_9ea2d B S M sz v1 a1).bind fun r3 => (gI r3.2.1 this 8 0).bind fun v4 => (gI r3.2.1 a1 13 2).bind fun v5 => (pF B r3.2.1 this 8 0 (.int (v4 + v5))).bind fun M6 => some (M6, r3.2.2)) else none
def rmX5_put : Room := { frames := 7, cells := 1, slots := 80, locals := 191 }
theorem k_X5_put_18 : Cond.fieldLink RX5 18 "LoanBook$Parcel" "content" "Ljava/util/ArrayList;" ∈ wsX5_put := List.mem_of_getElem? (i := 1) rfl
theorem ki_X5_put_X5 : ∀ w ∈ u_ws RX5 TX5 4, w ∈ wsX5_put := sub_r [60, 61, 62, 63] (by decide +kernel)
theorem k_X5_put_9 : Cond.fieldLink RX5 9 "LoanBook$Parcel" "weighs" "I" ∈ wsX5_put := List.mem_of_getElem? (i := 2) rfl
theorem k_X5_put_28 : Cond.fieldLink RX5 28 "LoanBook$Thing" "weighs" "I" ∈ wsX5_put := List.mem_of_getElem? (i := 3) rfl
theorem ki_X5_put_X10 : ∀ w ∈ u_ws RX10 TX10 9, w ∈ wsX5_put := sub_r [64, 65, 66, 67, 68, 69, 70, 71, 72] (by decide +kernel)
set_option maxHeartbeats 4000000 in
set_option maxRecDepth 100000 in
theorem c_X5_put {G : wG} {l : Launch} {M : Mem} {sz : Nat} {this : Option Nat} {a1 : Option Nat} {r : Mem × Nat} (h : f_X5_put G.2.2.1 G.2.2.2 M sz this a1 = some r) : CtrV G l yX5_put wsX5_put rmX5_put [va_rf this, va_rf a1] M sz r.1 r.2 := by
  refine m_startV (own := RX5) (cc := cX5_put) (maxL := 2) (lv0 := [(0, va_rf this), (1, va_rf a1)]) (by decide) rfl rfl (by simp [lg_sl, va_rf_cat, cat_i, cat_r]) (by simp [lv_args, va_rf_cat, cat_i, cat_r]) ?_
  intro p e s m args below meth c Q hC hname RET hsz hw ls hl
  have hx := hC.1
  have hb := hC.2.1
  unfold f_X5_put at h
  refine m_aload_n (x := this) hx hb dX5_put_0 rfl (lv_at hl 0 rfl) ?_
  obtain ⟨v1, hv1, h⟩ := ob h
  refine m_getR hC hw (C := RX5) (T := TX5) (N := 4) hv1 ki_X5_put_X5 rfl (by decide) k_X5_put_18 (fun _ z => z) dX5_put_1 ?_
  refine m_aload_n (x := a1) hx hb dX5_put_4 rfl (lv_at hl 1 rfl) ?_
  obtain ⟨g2, h⟩ := itg h
  obtain ⟨r3, hr3, h⟩ := ob h
  refine m_contI hC hw (m_runV hC hw (x := v1) (ci := 2) (N := 3) (C := RJx4a65c) (T := TJx4a65c) (n := 1) (av := [va_rf a1]) (rest := []) (c_Jx4a65c_add_9ea2d (G := G) (l := l) hr3) gX5_put_Jx4a65c_add_9ea2d rfl (by decide +kernel) ⟨(Nat.le_of_ble_eq_true rfl), (Nat.le_of_ble_eq_true rfl)⟩ g2 rfl rfl hl.1 rfl (Nat.le_of_ble_eq_true rfl) dX5_put_5 ⟨(Nat.le_of_ble_eq_true rfl), (Nat.le_of_ble_eq_true rfl)⟩) (fun H locs hw => ?_)
  refine lv_pop hx hb dX5_put_8 rfl ?_
  refine m_aload_n (x := this) hx hb dX5_put_9 rfl (lv_at hl 0 rfl) ?_
  refine m_dup (x := this) hx hb dX5_put_10 ?_
  obtain ⟨v4, hv4, h⟩ := ob h
  refine m_getI hC hw (C := RX5) (T := TX5) (N := 4) hv4 ki_X5_put_X5 rfl (by decide) k_X5_put_9 (fun _ z => z) dX5_put_11 ?_
  refine m_aload_n (x := a1) hx hb dX5_put_14 rfl (lv_at hl 1 rfl) ?_
  obtain ⟨v5, hv5, h⟩ := ob h
  refine m_getI hC hw (C := RX10) (T := TX10) (N := 9) hv5 ki_X5_put_X10 rfl (by decide) k_X5_put_28 (fun _ z => z) dX5_put_15 ?_
  refine lv_iadd hx hb dX5_put_18 ?_
  obtain ⟨M6, hM6, h⟩ := ob h
  refine m_put hC hw (C := RX5) (T := TX5) (N := 4) (x := this) hM6 ki_X5_put_X5 tyX5 tyX5_ok nmX5 rfl (by decide) k_X5_put_9 (fun _ z => z) rfl rfl rfl dX5_put_19 (fun H locs hw => ?_)
  replace h := Option.some.inj h
  subst h
  exact RET hw ⟨(Nat.le_of_ble_eq_true rfl), (Nat.le_of_ble_eq_true rfl)⟩ dX5_put_22

def f_X5_init (B : Nat) (S : Nat → Nat) (M : Mem) (sz : Nat) (this : Option Nat) : Option (Mem × Nat) := if this ≠ none then ((pF B M this 8 0 (.int (0 : Int32))).bind fun M2 => (some (va_up M2 sz (some (.inl (2, [.int 0, .null, .int 0]))))).bind fun M3 => (f_Jx4a65c_init_da8c8 B S M3 (some sz)).bind fun r4 => (pF B r4 this 8 1 (va_rf (some sz))).bind fun M5 => (pF B M5 this 8 2 (.int (-1 : Int32))).bind fun M6 => (pF B M6 this 8 3 (.int (-1 : Int32))).bind fun M7 => some (M7, (sz + 1))) else none
def rmX5_init : Room := { frames := 4, cells := 1, slots := 3, locals := 80 }
theorem k_X5_init_oi3 : Cond.methodLink RX5 3 objectInit ∈ wsX5_init := List.mem_of_getElem? (i := 1) rfl
theorem k_X5_init_oj : Cond.instanceMethod objectInit ∈ wsX5_init := List.mem_of_getElem? (i := 2) rfl
theorem k_X5_init_ok : Cond.code objectInit ⟨#[0xb1]⟩ 1 none ∈ wsX5_init := List.mem_of_getElem? (i := 3) rfl
theorem k_X5_init_9 : Cond.fieldLink RX5 9 "LoanBook$Parcel" "weighs" "I" ∈ wsX5_init := List.mem_of_getElem? (i := 4) rfl
theorem ki_X5_init_X5 : ∀ w ∈ u_ws RX5 TX5 4, w ∈ wsX5_init := sub_r [26, 27, 28, 29] (by decide +kernel)
theorem k_X5_init_n15 : Cond.classLink RX5 15 RJx4a65c ∈ wsX5_init := List.mem_of_getElem? (i := 5) rfl
theorem k_X5_init_ni15 : Cond.instantiable RJx4a65c 3 ∈ wsX5_init := List.mem_of_getElem? (i := 6) rfl
theorem k_X5_init_nj15 : Cond.initialized RJx4a65c ∈ wsX5_init := List.mem_of_getElem? (i := 7) rfl
theorem ki_X5_init_Jx4a65c : ∀ w ∈ u_ws RJx4a65c TJx4a65c 3, w ∈ wsX5_init := sub_r [30, 31, 32] (by decide +kernel)
theorem k_X5_init_ml17 : Cond.methodLink RX5 17 yJx4a65c_init_da8c8 ∈ wsX5_init := List.mem_of_getElem? (i := 11) rfl
theorem k_X5_init_imJx4a65c_init_da8c8 : Cond.instanceMethod yJx4a65c_init_da8c8 ∈ wsX5_init := List.mem_of_getElem? (i := 12) rfl
theorem k_X5_init_inJx4a65c : Cond.initialized RJx4a65c ∈ wsX5_init := List.mem_of_getElem? (i := 7) rfl
theorem k_X5_init_18 : Cond.fieldLink RX5 18 "LoanBook$Parcel" "content" "Ljava/util/ArrayList;" ∈ wsX5_init := List.mem_of_getElem? (i := 8) rfl
theorem k_X5_init_22 : Cond.fieldLink RX5 22 "LoanBook$Parcel" "courierOut" "I" ∈ wsX5_init := List.mem_of_getElem? (i := 9) rfl
theorem k_X5_init_25 : Cond.fieldLink RX5 25 "LoanBook$Parcel" "courierBack" "I" ∈ wsX5_init := List.mem_of_getElem? (i := 10) rfl
set_option maxHeartbeats 4000000 in
set_option maxRecDepth 100000 in
theorem c_X5_init {G : wG} {l : Launch} {M : Mem} {sz : Nat} {this : Option Nat} {r : Mem × Nat} (h : f_X5_init G.2.2.1 G.2.2.2 M sz this = some r) : CtrV G l yX5_init wsX5_init rmX5_init [va_rf this] M sz r.1 r.2 := by
  refine m_startV (own := RX5) (cc := cX5_init) (maxL := 1) (lv0 := [(0, va_rf this)]) (by decide) rfl rfl (by simp [lg_sl, va_rf_cat, cat_i, cat_r]) (by simp [lv_args, va_rf_cat, cat_i, cat_r]) ?_
  intro p e s m args below meth c Q hC hname RET hsz hw ls hl
  have hx := hC.1
  have hb := hC.2.1
  unfold f_X5_init at h
  refine m_aload_n (x := this) hx hb dX5_init_0 rfl (lv_at hl 0 rfl) ?_
  obtain ⟨g1, h⟩ := itg h
  refine m_objInit (x := this) (isN_some g1) hC (hC.tab _ k_X5_init_oi3) (hC.tab _ k_X5_init_oj) (hC.tab _ k_X5_init_ok) hl.1 ((Nat.le_of_ble_eq_true rfl)) (Nat.le_of_ble_eq_true rfl) (Nat.le_of_ble_eq_true rfl) dX5_init_1 ?_
  refine m_aload_n (x := this) hx hb dX5_init_4 rfl (lv_at hl 0 rfl) ?_
  refine lv_iconst (v := (0 : Int32)) hx hb dX5_init_5 (by decide) ?_
  obtain ⟨M2, hM2, h⟩ := ob h
  refine m_put hC hw (C := RX5) (T := TX5) (N := 4) (x := this) hM2 ki_X5_init_X5 tyX5 tyX5_ok nmX5 rfl (by decide) k_X5_init_9 (fun _ z => z) rfl rfl rfl dX5_init_6 (fun H locs hw => ?_)
  refine m_aload_n (x := this) hx hb dX5_init_9 rfl (lv_at hl 0 rfl) ?_
  obtain ⟨M3, hM3, h⟩ := ob h
  refine m_new hC hw (C := RJx4a65c) (T := TJx4a65c) (N := 3) (ci := 2) (fs := [.int 0, .null, .int 0]) ki_X5_init_Jx4a65c tyJx4a65c tyJx4a65c_ok k_X5_init_n15 k_X5_init_ni15 k_X5_init_nj15 rfl (fun j hj => by match j, hj with | 0, _ => rfl | 1, _ => rfl | 2, _ => rfl) (Nat.le_of_ble_eq_true rfl) (Nat.le_of_ble_eq_true rfl) dX5_init_10 (fun H hw => ?_)
  rw [Option.some.inj hM3] at hw
  refine m_dup (x := (some sz)) hx hb dX5_init_13 ?_
  obtain ⟨r4, hr4, h⟩ := ob h
  refine m_contV hC hw (m_runI hC hw (x := (some sz)) (n := 0) (av := []) (rest := [va_rf (some sz), va_rf this]) (c_Jx4a65c_init_da8c8 (G := G) (l := l) hr4) gX5_init_Jx4a65c_init_da8c8 k_X5_init_ml17 k_X5_init_imJx4a65c_init_da8c8 k_X5_init_inJx4a65c rfl rfl (by decide +kernel) ⟨(Nat.le_of_ble_eq_true rfl), (Nat.le_of_ble_eq_true rfl)⟩ rfl rfl hl.1 rfl (by simp [va_rf_cat, cat_i, cat_r, cat_l]) dX5_init_14 ⟨(Nat.le_of_ble_eq_true rfl), (Nat.le_of_ble_eq_true rfl)⟩) (fun H locs hw => ?_)
  obtain ⟨M5, hM5, h⟩ := ob h
  refine m_putF hC hw (C := RX5) (T := TX5) (N := 4) (x := this) hM5 ki_X5_init_X5 tyX5 tyX5_ok nmX5 rfl (by decide) k_X5_init_18 (fun _ z => z) rfl hname rfl (nar_rf _ _ (by decide)) (fit_rf _ _ (by decide)) dX5_init_17 (fun H locs hw => ?_)
  refine m_aload_n (x := this) hx hb dX5_init_20 rfl (lv_at hl 0 rfl) ?_
  refine lv_iconst (v := (-1 : Int32)) hx hb dX5_init_21 (by decide) ?_
  obtain ⟨M6, hM6, h⟩ := ob h
  refine m_put hC hw (C := RX5) (T := TX5) (N := 4) (x := this) hM6 ki_X5_init_X5 tyX5 tyX5_ok nmX5 rfl (by decide) k_X5_init_22 (fun _ z => z) rfl rfl rfl dX5_init_22 (fun H locs hw => ?_)
  refine m_aload_n (x := this) hx hb dX5_init_25 rfl (lv_at hl 0 rfl) ?_
  refine lv_iconst (v := (-1 : Int32)) hx hb dX5_init_26 (by decide) ?_
  obtain ⟨M7, hM7, h⟩ := ob h
  refine m_put hC hw (C := RX5) (T := TX5) (N := 4) (x := this) hM7 ki_X5_init_X5 tyX5 tyX5_ok nmX5 rfl (by decide) k_X5_init_25 (fun _ z => z) rfl rfl rfl dX5_init_27 (fun H locs hw => ?_)
  replace h := Option.some.inj h
  subst h
  exact RET hw ⟨(Nat.le_of_ble_eq_true rfl), (Nat.le_of_ble_eq_true rfl)⟩ dX5_init_30

def f_X4_pack_L2 (B : Nat) (S : Nat → Nat) (n : Nat) (x0 : Option Nat) (x1 : Option Nat) : Nat → Mem → Nat → Int32 → Option ((Mem × Nat) ⊕ (Mem × Nat))
  | 0, _, _, _ => none
  | k + 1, Mz, zz, x2 => (gR Mz x0 7 2).bind fun v1 => if isO Mz v1 2 = true then ((f_Jx4a65c_size_8abf5 Mz v1).bind fun r3 => if r3 ≤ x2 then (some (Sum.inr (Mz, zz))) else ((gR Mz x0 7 2).bind fun v5 => if isO Mz v5 2 = true then ((f_Jx4a65c_get_915e3 Mz v5 x2).bind fun r7 => if r7 = none ∨ isO Mz r7 8 = true then ((gR Mz x0 7 0).bind fun v9 => (gI Mz v9 6 1).bind fun v10 => if isO Mz r7 8 = true then ((f_X5_fits n Mz r7 x1 v10).bind fun r12 => if r12 = 0 then (f_X4_pack_L2 B S n x0 x1 k Mz zz (x2 + (1 : Int32))) else ((gR Mz x0 7 2).bind fun v14 => if isO Mz v14 2 = true then ((f_Jx4a65c_get_915e3 Mz v14 x2).bind fun r16 => if r16 = none ∨ isO Mz r16 8 = true then (if isO Mz r16 8 = true then ((f_X5_put B S Mz zz r16 x1).bind fun r19 => some (Sum.inl (r19.1, r19.2))) else none) else none) else none)) else none) else none) else none)) else none
def f_X4_pack (B : Nat) (S : Nat → Nat) (n : Nat) (M : Mem) (sz : Nat) (this : Option Nat) (a1 : Option Nat) : Option (Mem × Nat) := (f_X4_pack_L2 B S n this a1 18 M sz (0 : Int32)).bind fun o20s => Sum.elim (fun o20r => some o20r) (fun o20 => (some (va_up o20.1 o20.2 (some (.inl (8, [.int 0, .null, .int 0, .int 0]))))).bind fun M21 => (f_X5_init B S M21 (o20.2 + 1) (some o20.2)).bind fun r22 => if isO r22.1 (some o20.2) 8 = true then ((f_X5_put B S r22.1 r22.2 (some o20.2) a1).bind fun r24 => (gR r24.1 this 7 2).bind fun v25 => if isO r24.1 v25 2 = true then ((f_Jx4a65c_add_9ea2d B S r24.1 r24.2 v25 (some o20.2)).bind fun r27 => some (r27.2.1, r27.2.2)) else none) else none) o20s
def rmX4_pack : Room := { frames := 8, cells := 4, slots := 167, locals := 212 }
theorem k_X4_pack_12 : Cond.fieldLink RX4 12 "LoanBook$Loan" "parcels" "Ljava/util/ArrayList;" ∈ wsX4_pack := List.mem_of_getElem? (i := 1) rfl
theorem ki_X4_pack_X4 : ∀ w ∈ u_ws RX4 TX4 5, w ∈ wsX4_pack := sub_r [131, 132, 133, 134, 135] (by decide +kernel)
theorem k_X4_pack_cc62 : Cond.classLink RX4 62 RX5 ∈ wsX4_pack := List.mem_of_getElem? (i := 2) rfl
theorem k_X4_pack_22 : Cond.fieldLink RX4 22 "LoanBook$Loan" "borrower" "LLoanBook$House;" ∈ wsX4_pack := List.mem_of_getElem? (i := 3) rfl
theorem k_X4_pack_64 : Cond.fieldLink RX4 64 "LoanBook$House" "limit" "I" ∈ wsX4_pack := List.mem_of_getElem? (i := 4) rfl
theorem ki_X4_pack_X3 : ∀ w ∈ u_ws RX3 TX3 5, w ∈ wsX4_pack := sub_r [136, 137, 138, 139, 140] (by decide +kernel)
theorem k_X4_pack_n62 : Cond.classLink RX4 62 RX5 ∈ wsX4_pack := List.mem_of_getElem? (i := 2) rfl
theorem k_X4_pack_ni62 : Cond.instantiable RX5 4 ∈ wsX4_pack := List.mem_of_getElem? (i := 6) rfl
theorem k_X4_pack_nj62 : Cond.initialized RX5 ∈ wsX4_pack := List.mem_of_getElem? (i := 7) rfl
theorem ki_X4_pack_X5 : ∀ w ∈ u_ws RX5 TX5 4, w ∈ wsX4_pack := sub_r [141, 142, 143, 144] (by decide +kernel)
theorem k_X4_pack_imX5_init : Cond.instanceMethod yX5_init ∈ wsX4_pack := List.mem_of_getElem? (i := 108) rfl
theorem k_X4_pack_inX5 : Cond.initialized RX5 ∈ wsX4_pack := List.mem_of_getElem? (i := 7) rfl
set_option maxHeartbeats 4000000 in
set_option maxRecDepth 100000 in
theorem c_X4_pack {G : wG} {l : Launch} {n : Nat} {M : Mem} {sz : Nat} {this : Option Nat} {a1 : Option Nat} {r : Mem × Nat} (h : f_X4_pack G.2.2.1 G.2.2.2 n M sz this a1 = some r) : CtrV G l yX4_pack wsX4_pack rmX4_pack [va_rf this, va_rf a1] M sz r.1 r.2 := by
  refine m_startV (own := RX4) (cc := cX4_pack) (maxL := 3) (lv0 := [(0, va_rf this), (1, va_rf a1)]) (by decide) rfl rfl (by simp [lg_sl, va_rf_cat, cat_i, cat_r]) (by simp [lv_args, va_rf_cat, cat_i, cat_r]) ?_
  intro p e s m args below meth c Q hC hname RET hsz hw ls hl
  have hx := hC.1
  have hb := hC.2.1
  have L2 : ∀ (x0 : Option Nat) (x1 : Option Nat) (k : Nat) (Mz : Mem) (zz : Nat) (x2 : Int32) (cells slots : Nat) (CF SF : Nat) (H : Heap) (locs : List Loc) (ls : Array Slot) (o : (Mem × Nat) ⊕ (Mem × Nat)), f_X4_pack_L2 G.2.2.1 G.2.2.2 n x0 x1 k Mz zz x2 = some o → cells + k * 0 ≤ CF → slots + k * 0 ≤ SF → CF + 1 ≤ 4 → SF + 80 ≤ 167 → wD G s M Mz zz H locs → lv_has ls 3 [(0, va_rf x0), (1, va_rf x1), (2, .int x2)] → (∀ (H : Heap) (locs : List Loc) (ls : Array Slot) o1, o = Sum.inr o1 → wD G s M o1.1 o1.2 H locs → lv_has ls 3 [(0, va_rf x0), (1, va_rf x1)] → W p l e rmX4_pack s m args below meth c H locs CF SF Q (F0 m 60 ls [])) → (∀ r1, o = Sum.inl r1 → r1 = r) → W p l e rmX4_pack s m args below meth c H locs cells slots Q (F0 m 2 ls []) := by
    intro x0 x1 k
    induction k with
    | zero =>
      intro Mz zz x2 cells slots CF SF H locs ls o h
      exact absurd (show (none : Option ((Mem × Nat) ⊕ (Mem × Nat))) = some o from h) (fun z => by cases z)
    | succ k ih =>
      intro Mz zz x2 cells slots CF SF H locs ls o h hcl hsl hCF hSF hw hl hk hret
      rw [f_X4_pack_L2] at h
      refine lv_iload_n hx hb dX4_pack_2 rfl (lv_at hl 2 rfl) ?_
      refine m_aload_n (x := x0) hx hb dX4_pack_3 rfl (lv_at hl 0 rfl) ?_
      obtain ⟨v1, hv1, h⟩ := ob h
      refine m_getR hC hw (C := RX4) (T := TX4) (N := 5) hv1 ki_X4_pack_X4 rfl (by decide) k_X4_pack_12 (fun _ z => z) dX4_pack_4 ?_
      obtain ⟨g2, h⟩ := itg h
      obtain ⟨r3, hr3, h⟩ := ob h
      refine m_contI hC hw (m_runV hC hw (x := v1) (ci := 2) (N := 3) (C := RJx4a65c) (T := TJx4a65c) (n := 0) (av := []) (rest := [.int x2]) (c_Jx4a65c_size_8abf5 (G := G) (l := l) hr3) gX4_pack_Jx4a65c_size_8abf5 rfl (by decide +kernel) ⟨(Nat.le_of_ble_eq_true rfl), (Nat.le_of_ble_eq_true rfl)⟩ g2 rfl rfl hl.1 rfl (Nat.le_of_ble_eq_true rfl) dX4_pack_7 ⟨(show cells + 0 ≤ 4 from by omega), (show slots + 0 ≤ 167 from by omega)⟩) (fun H locs hw => ?_)
      refine lv_icmp_ge (tgt := 60) hx hb dX4_pack_10 (by decide) (fun c4 => ?_) (fun c4 => ?_)
      · replace h := itt h c4
        replace h := Option.some.inj h
        subst h
        refine W.widen (k := CF) (n := SF) (show cells + 0 ≤ CF by omega) (show slots + 0 ≤ SF by omega) ?_
        exact hk _ _ _ _ rfl hw (lv_sub hl [0, 1] rfl)
      · replace h := itf h c4
        refine m_aload_n (x := x0) hx hb dX4_pack_13 rfl (lv_at hl 0 rfl) ?_
        obtain ⟨v5, hv5, h⟩ := ob h
        refine m_getR hC hw (C := RX4) (T := TX4) (N := 5) hv5 ki_X4_pack_X4 rfl (by decide) k_X4_pack_12 (fun _ z => z) dX4_pack_14 ?_
        refine lv_iload_n hx hb dX4_pack_17 rfl (lv_at hl 2 rfl) ?_
        obtain ⟨g6, h⟩ := itg h
        obtain ⟨r7, hr7, h⟩ := ob h
        refine m_contQ hC hw (m_runV hC hw (x := v5) (ci := 2) (N := 3) (C := RJx4a65c) (T := TJx4a65c) (n := 1) (av := [.int x2]) (rest := []) (c_Jx4a65c_get_915e3 (G := G) (l := l) hr7) gX4_pack_Jx4a65c_get_915e3 rfl (by decide +kernel) ⟨(Nat.le_of_ble_eq_true rfl), (Nat.le_of_ble_eq_true rfl)⟩ g6 rfl rfl hl.1 rfl (Nat.le_of_ble_eq_true rfl) dX4_pack_18 ⟨(show cells + 0 ≤ 4 from by omega), (show slots + 0 ≤ 167 from by omega)⟩) (fun H locs hw => ?_)
        obtain ⟨g8, h⟩ := itg h
        refine m_cast (x := r7) hC hw (C := RX5) (T := TX5) (N := 4) g8 k_X4_pack_cc62 rfl dX4_pack_21 ?_
        refine m_aload_n (x := x1) hx hb dX4_pack_24 rfl (lv_at hl 1 rfl) ?_
        refine m_aload_n (x := x0) hx hb dX4_pack_25 rfl (lv_at hl 0 rfl) ?_
        obtain ⟨v9, hv9, h⟩ := ob h
        refine m_getR hC hw (C := RX4) (T := TX4) (N := 5) hv9 ki_X4_pack_X4 rfl (by decide) k_X4_pack_22 (fun _ z => z) dX4_pack_26 ?_
        obtain ⟨v10, hv10, h⟩ := ob h
        refine m_getI hC hw (C := RX3) (T := TX3) (N := 5) hv10 ki_X4_pack_X3 rfl (by decide) k_X4_pack_64 (fun _ z => z) dX4_pack_29 ?_
        obtain ⟨g11, h⟩ := itg h
        obtain ⟨r12, hr12, h⟩ := ob h
        refine m_contI hC hw (m_runV hC hw (x := r7) (ci := 8) (N := 4) (C := RX5) (T := TX5) (n := 2) (av := [va_rf x1, .int v10]) (rest := []) (c_X5_fits (G := G) (l := l) hr12) gX4_pack_X5_fits rfl (by decide +kernel) ⟨(Nat.le_of_ble_eq_true rfl), (Nat.le_of_ble_eq_true rfl)⟩ g11 rfl rfl hl.1 rfl (Nat.le_of_ble_eq_true rfl) dX4_pack_32 ⟨(show cells + 0 ≤ 4 from by omega), (show slots + 0 ≤ 167 from by omega)⟩) (fun H locs hw => ?_)
        refine lv_if_eq (tgt := 54) hx hb dX4_pack_35 (by decide) (fun c13 => ?_) (fun c13 => ?_)
        · replace h := itt h c13
          refine lv_iinc (v := (x2 + (1 : Int32))) (lv' := [(2, .int (x2 + (1 : Int32))), (0, va_rf x0), (1, va_rf x1)]) hx hb dX4_pack_54 hl (k := 2) rfl rfl (by decide) (by simp [va_rf_cat, cat_i, cat_l]) (fun ls hl => ?_)
          refine lv_goto (tgt := 2) hx hb dX4_pack_57 (by decide) ?_
          refine W.widen (k := cells + 0) (n := slots + 0) (show cells + 0 ≤ cells + 0 by omega) (show slots + 0 ≤ slots + 0 by omega) ?_
          exact ih _ _ _ _ _ CF SF _ _ _ _ h (by omega) (by omega) hCF hSF hw (lv_sub hl [1, 2, 0] rfl) hk hret
        · replace h := itf h c13
          refine m_aload_n (x := x0) hx hb dX4_pack_38 rfl (lv_at hl 0 rfl) ?_
          obtain ⟨v14, hv14, h⟩ := ob h
          refine m_getR hC hw (C := RX4) (T := TX4) (N := 5) hv14 ki_X4_pack_X4 rfl (by decide) k_X4_pack_12 (fun _ z => z) dX4_pack_39 ?_
          refine lv_iload_n hx hb dX4_pack_42 rfl (lv_at hl 2 rfl) ?_
          obtain ⟨g15, h⟩ := itg h
          obtain ⟨r16, hr16, h⟩ := ob h
          refine m_contQ hC hw (m_runV hC hw (x := v14) (ci := 2) (N := 3) (C := RJx4a65c) (T := TJx4a65c) (n := 1) (av := [.int x2]) (rest := []) (c_Jx4a65c_get_915e3 (G := G) (l := l) hr16) gX4_pack_Jx4a65c_get_915e3 rfl (by decide +kernel) ⟨(Nat.le_of_ble_eq_true rfl), (Nat.le_of_ble_eq_true rfl)⟩ g15 rfl rfl hl.1 rfl (Nat.le_of_ble_eq_true rfl) dX4_pack_43 ⟨(show cells + 0 ≤ 4 from by omega), (show slots + 0 ≤ 167 from by omega)⟩) (fun H locs hw => ?_)
          obtain ⟨g17, h⟩ := itg h
          refine m_cast (x := r16) hC hw (C := RX5) (T := TX5) (N := 4) g17 k_X4_pack_cc62 rfl dX4_pack_46 ?_
          refine m_aload_n (x := x1) hx hb dX4_pack_49 rfl (lv_at hl 1 rfl) ?_
          obtain ⟨g18, h⟩ := itg h
          obtain ⟨r19, hr19, h⟩ := ob h
          refine m_contV hC hw (m_runV hC hw (x := r16) (ci := 8) (N := 4) (C := RX5) (T := TX5) (n := 1) (av := [va_rf x1]) (rest := []) (c_X5_put (G := G) (l := l) hr19) gX4_pack_X5_put rfl (by decide +kernel) ⟨(Nat.le_of_ble_eq_true rfl), (Nat.le_of_ble_eq_true rfl)⟩ g18 rfl rfl hl.1 rfl (Nat.le_of_ble_eq_true rfl) dX4_pack_50 ⟨(show cells + 1 ≤ 4 from by omega), (show slots + 80 ≤ 167 from by omega)⟩) (fun H locs hw => ?_)
          replace h := Option.some.inj h
          subst h
          have e1 := hret _ rfl
          subst e1
          exact RET hw ⟨(show cells + 1 ≤ 4 from by omega), (show slots + 80 ≤ 167 from by omega)⟩ dX4_pack_53
  unfold f_X4_pack at h
  refine lv_iconst (v := (0 : Int32)) hx hb dX4_pack_0 (by decide) ?_
  refine lv_istore_n (i := 2) (lv' := [(2, .int (0 : Int32)), (0, va_rf this), (1, va_rf a1)]) hx hb dX4_pack_1 rfl hl (by decide) (by simp [va_rf_cat, cat_i, cat_l]) (fun ls hl => ?_)
  obtain ⟨o20s, ho20, h⟩ := ob h
  refine L2 this a1 _ _ _ _ _ _ 0 0 _ _ _ _ ho20 (by decide) (by decide) (Nat.le_of_ble_eq_true rfl) (Nat.le_of_ble_eq_true rfl) hw (lv_sub hl [1, 2, 0] rfl) (fun H locs ls o20 eo20 hw hl => ?_) (fun o20r eo20 => ?_)
  · subst eo20
    replace h := sumR h
    obtain ⟨M21, hM21, h⟩ := ob h
    refine m_new hC hw (C := RX5) (T := TX5) (N := 4) (ci := 8) (fs := [.int 0, .null, .int 0, .int 0]) ki_X4_pack_X5 tyX5 tyX5_ok k_X4_pack_n62 k_X4_pack_ni62 k_X4_pack_nj62 rfl (fun j hj => by match j, hj with | 0, _ => rfl | 1, _ => rfl | 2, _ => rfl | 3, _ => rfl) (Nat.le_of_ble_eq_true rfl) (Nat.le_of_ble_eq_true rfl) dX4_pack_60 (fun H hw => ?_)
    rw [Option.some.inj hM21] at hw
    refine m_dup (x := (some o20.2)) hx hb dX4_pack_63 ?_
    obtain ⟨r22, hr22, h⟩ := ob h
    refine m_contV hC hw (m_runIN hC hw (x := (some o20.2)) (host := "LoanBook") (n := 0) (av := []) (rest := [va_rf (some o20.2)]) (c_X5_init (G := G) (l := l) hr22) gX4_pack_X5_init_n75 (by decide +kernel) k_X4_pack_imX5_init k_X4_pack_inX5 rfl rfl (by decide +kernel) ⟨(Nat.le_of_ble_eq_true rfl), (Nat.le_of_ble_eq_true rfl)⟩ rfl rfl hl.1 rfl (by simp [va_rf_cat, cat_i, cat_r, cat_l]) dX4_pack_64 ⟨(Nat.le_of_ble_eq_true rfl), (Nat.le_of_ble_eq_true rfl)⟩) (fun H locs hw => ?_)
    refine m_astore_n (x := (some o20.2)) (i := 2) (lv' := [(2, va_rf (some o20.2)), (0, va_rf this), (1, va_rf a1)]) hx hb dX4_pack_67 rfl hl (by decide) (by simp [va_rf_cat, cat_i, cat_l]) (fun ls hl => ?_)
    refine m_aload_n (x := (some o20.2)) hx hb dX4_pack_68 rfl (lv_at hl 0 rfl) ?_
    refine m_aload_n (x := a1) hx hb dX4_pack_69 rfl (lv_at hl 2 rfl) ?_
    obtain ⟨g23, h⟩ := itg h
    obtain ⟨r24, hr24, h⟩ := ob h
    refine m_contV hC hw (m_runV hC hw (x := (some o20.2)) (ci := 8) (N := 4) (C := RX5) (T := TX5) (n := 1) (av := [va_rf a1]) (rest := []) (c_X5_put (G := G) (l := l) hr24) gX4_pack_X5_put rfl (by decide +kernel) ⟨(Nat.le_of_ble_eq_true rfl), (Nat.le_of_ble_eq_true rfl)⟩ g23 rfl rfl hl.1 rfl (Nat.le_of_ble_eq_true rfl) dX4_pack_70 ⟨(Nat.le_of_ble_eq_true rfl), (Nat.le_of_ble_eq_true rfl)⟩) (fun H locs hw => ?_)
    refine m_aload_n (x := this) hx hb dX4_pack_73 rfl (lv_at hl 1 rfl) ?_
    obtain ⟨v25, hv25, h⟩ := ob h
    refine m_getR hC hw (C := RX4) (T := TX4) (N := 5) hv25 ki_X4_pack_X4 rfl (by decide) k_X4_pack_12 (fun _ z => z) dX4_pack_74 ?_
    refine m_aload_n (x := (some o20.2)) hx hb dX4_pack_77 rfl (lv_at hl 0 rfl) ?_
    obtain ⟨g26, h⟩ := itg h
    obtain ⟨r27, hr27, h⟩ := ob h
    refine m_contI hC hw (m_runV hC hw (x := v25) (ci := 2) (N := 3) (C := RJx4a65c) (T := TJx4a65c) (n := 1) (av := [va_rf (some o20.2)]) (rest := []) (c_Jx4a65c_add_9ea2d (G := G) (l := l) hr27) gX4_pack_Jx4a65c_add_9ea2d rfl (by decide +kernel) ⟨(Nat.le_of_ble_eq_true rfl), (Nat.le_of_ble_eq_true rfl)⟩ g26 rfl rfl hl.1 rfl (Nat.le_of_ble_eq_true rfl) dX4_pack_78 ⟨(Nat.le_of_ble_eq_true rfl), (Nat.le_of_ble_eq_true rfl)⟩) (fun H locs hw => ?_)
    refine lv_pop hx hb dX4_pack_81 rfl ?_
    replace h := Option.some.inj h
    subst h
    exact RET hw ⟨(Nat.le_of_ble_eq_true rfl), (Nat.le_of_ble_eq_true rfl)⟩ dX4_pack_82
  · subst eo20
    replace h := sumL h
    exact Option.some.inj h

def f_X4_firstOf (M : Mem) (this : Option Nat) (a1 : Int32) : Option (Int32) := if a1 = 0 then ((gI M this 7 1).bind fun v6 => some (v6)) else ((gI M this 7 1).bind fun v2 => (gR M this 7 0).bind fun v3 => (gI M v3 6 0).bind fun v4 => (gI M this 7 4).bind fun v5 => some ((v2 + v4) + v5))
def rmX4_firstOf : Room := { frames := 0, cells := 0, slots := 0, locals := 0 }
theorem k_X4_firstOf_26 : Cond.fieldLink RX4 26 "LoanBook$Loan" "first" "I" ∈ wsX4_firstOf := List.mem_of_getElem? (i := 1) rfl
theorem ki_X4_firstOf_X4 : ∀ w ∈ u_ws RX4 TX4 5, w ∈ wsX4_firstOf := sub_r [5, 6, 7, 8, 9] (by decide +kernel)
theorem k_X4_firstOf_22 : Cond.fieldLink RX4 22 "LoanBook$Loan" "borrower" "LLoanBook$House;" ∈ wsX4_firstOf := List.mem_of_getElem? (i := 2) rfl
theorem k_X4_firstOf_33 : Cond.fieldLink RX4 33 "LoanBook$House" "way" "I" ∈ wsX4_firstOf := List.mem_of_getElem? (i := 3) rfl
theorem ki_X4_firstOf_X3 : ∀ w ∈ u_ws RX3 TX3 5, w ∈ wsX4_firstOf := sub_r [10, 11, 12, 13, 14] (by decide +kernel)
theorem k_X4_firstOf_30 : Cond.fieldLink RX4 30 "LoanBook$Loan" "stay" "I" ∈ wsX4_firstOf := List.mem_of_getElem? (i := 4) rfl
set_option maxHeartbeats 4000000 in
set_option maxRecDepth 100000 in
theorem c_X4_firstOf {G : wG} {l : Launch} {M : Mem} {sz : Nat} {this : Option Nat} {a1 : Int32} {r : Int32} (h : f_X4_firstOf M this a1 = some r) : CtrI G l yX4_firstOf wsX4_firstOf rmX4_firstOf [va_rf this, .int a1] M sz r M sz := by
  refine m_startI (own := RX4) (cc := cX4_firstOf) (maxL := 2) (lv0 := [(0, va_rf this), (1, .int a1)]) (by decide) rfl rfl (by simp [lg_sl, va_rf_cat, cat_i, cat_r]) (by simp [lv_args, va_rf_cat, cat_i, cat_r]) ?_
  intro p e s m args below meth c Q hC hname RET hsz hw ls hl
  have hx := hC.1
  have hb := hC.2.1
  unfold f_X4_firstOf at h
  refine lv_iload_n hx hb dX4_firstOf_0 rfl (lv_at hl 1 rfl) ?_
  refine lv_if_ne (tgt := 11) hx hb dX4_firstOf_1 (by decide) (fun c1 => ?_) (fun c1 => ?_)
  · replace h := itf h c1
    refine m_aload_n (x := this) hx hb dX4_firstOf_11 rfl (lv_at hl 0 rfl) ?_
    obtain ⟨v2, hv2, h⟩ := ob h
    refine m_getI hC hw (C := RX4) (T := TX4) (N := 5) hv2 ki_X4_firstOf_X4 rfl (by decide) k_X4_firstOf_26 (fun _ z => z) dX4_firstOf_12 ?_
    refine m_aload_n (x := this) hx hb dX4_firstOf_15 rfl (lv_at hl 0 rfl) ?_
    obtain ⟨v3, hv3, h⟩ := ob h
    refine m_getR hC hw (C := RX4) (T := TX4) (N := 5) hv3 ki_X4_firstOf_X4 rfl (by decide) k_X4_firstOf_22 (fun _ z => z) dX4_firstOf_16 ?_
    obtain ⟨v4, hv4, h⟩ := ob h
    refine m_getI hC hw (C := RX3) (T := TX3) (N := 5) hv4 ki_X4_firstOf_X3 rfl (by decide) k_X4_firstOf_33 (fun _ z => z) dX4_firstOf_19 ?_
    refine lv_iadd hx hb dX4_firstOf_22 ?_
    refine m_aload_n (x := this) hx hb dX4_firstOf_23 rfl (lv_at hl 0 rfl) ?_
    obtain ⟨v5, hv5, h⟩ := ob h
    refine m_getI hC hw (C := RX4) (T := TX4) (N := 5) hv5 ki_X4_firstOf_X4 rfl (by decide) k_X4_firstOf_30 (fun _ z => z) dX4_firstOf_24 ?_
    refine lv_iadd hx hb dX4_firstOf_27 ?_
    replace h := Option.some.inj h
    subst h
    exact RET hw ⟨(Nat.zero_le _), (Nat.zero_le _)⟩ dX4_firstOf_28
  · replace h := itt h c1
    refine m_aload_n (x := this) hx hb dX4_firstOf_4 rfl (lv_at hl 0 rfl) ?_
    obtain ⟨v6, hv6, h⟩ := ob h
    refine m_getI hC hw (C := RX4) (T := TX4) (N := 5) hv6 ki_X4_firstOf_X4 rfl (by decide) k_X4_firstOf_26 (fun _ z => z) dX4_firstOf_5 ?_
    refine lv_goto (tgt := 28) hx hb dX4_firstOf_8 (by decide) ?_
    replace h := Option.some.inj h
    subst h
    exact RET hw ⟨(Nat.zero_le _), (Nat.zero_le _)⟩ dX4_firstOf_28

def f_X0_latest_L7 (n : Nat) (M : Mem) (x0 : Option Nat) (x1 : Int32) : Nat → Int32 → Option (Int32)
  | 0, _ => none
  | k + 1, x2 => if x2 < 0 then (some (x2)) else ((gR M x0 3 0).bind fun v3 => (aI M 0 v3 x2).bind fun v4 => if v4 ≤ x1 then (some (x2)) else (f_X0_latest_L7 n M x0 x1 k (x2 + (-1 : Int32))))
def f_X0_latest (n : Nat) (M : Mem) (this : Option Nat) (a1 : Int32) : Option (Int32) := (gI M this 3 2).bind fun v1 => f_X0_latest_L7 n M this a1 n (v1 - (1 : Int32))
def rmX0_latest : Room := { frames := 0, cells := 0, slots := 0, locals := 0 }
theorem k_X0_latest_18 : Cond.fieldLink RX0 18 "LoanBook$Appraisals" "size" "I" ∈ wsX0_latest := List.mem_of_getElem? (i := 1) rfl
theorem ki_X0_latest_X0 : ∀ w ∈ u_ws RX0 TX0 3, w ∈ wsX0_latest := sub_r [3, 4, 5] (by decide +kernel)
theorem k_X0_latest_9 : Cond.fieldLink RX0 9 "LoanBook$Appraisals" "days" "[I" ∈ wsX0_latest := List.mem_of_getElem? (i := 2) rfl
set_option maxHeartbeats 4000000 in
set_option maxRecDepth 100000 in
theorem c_X0_latest {G : wG} {l : Launch} {n : Nat} {M : Mem} {sz : Nat} {this : Option Nat} {a1 : Int32} {r : Int32} (h : f_X0_latest n M this a1 = some r) : CtrI G l yX0_latest wsX0_latest rmX0_latest [va_rf this, .int a1] M sz r M sz := by
  refine m_startI (own := RX0) (cc := cX0_latest) (maxL := 3) (lv0 := [(0, va_rf this), (1, .int a1)]) (by decide) rfl rfl (by simp [lg_sl, va_rf_cat, cat_i, cat_r]) (by simp [lv_args, va_rf_cat, cat_i, cat_r]) ?_
  intro p e s m args below meth c Q hC hname RET hsz hw ls hl
  have hx := hC.1
  have hb := hC.2.1
  have L7 : ∀ (x0 : Option Nat) (x1 : Int32) (k : Nat) (x2 : Int32) (cells slots : Nat) (H : Heap) (locs : List Loc) (ls : Array Slot), f_X0_latest_L7 n M x0 x1 k x2 = some r → cells ≤ 0 → slots ≤ 0 → wD G s M M sz H locs → lv_has ls 3 [(0, va_rf x0), (1, .int x1), (2, .int x2)] → W p l e rmX0_latest s m args below meth c H locs cells slots Q (F0 m 7 ls []) := by
    intro x0 x1 k
    induction k with
    | zero =>
      intro x2 cells slots H locs ls h
      exact absurd (show (none : Option (Int32)) = some r from h) (fun z => by cases z)
    | succ k ih =>
      intro x2 cells slots H locs ls h hcl hsl hw hl
      rw [f_X0_latest_L7] at h
      refine lv_iload_n hx hb dX0_latest_7 rfl (lv_at hl 2 rfl) ?_
      refine lv_if_lt (tgt := 27) hx hb dX0_latest_8 (by decide) (fun c2 => ?_) (fun c2 => ?_)
      · replace h := itt h c2
        refine lv_iload_n hx hb dX0_latest_27 rfl (lv_at hl 2 rfl) ?_
        replace h := Option.some.inj h
        subst h
        exact RET hw ⟨(show cells + 0 ≤ 0 from by omega), (show slots + 0 ≤ 0 from by omega)⟩ dX0_latest_28
      · replace h := itf h c2
        refine m_aload_n (x := x0) hx hb dX0_latest_11 rfl (lv_at hl 0 rfl) ?_
        obtain ⟨v3, hv3, h⟩ := ob h
        refine m_getR hC hw (C := RX0) (T := TX0) (N := 3) hv3 ki_X0_latest_X0 rfl (by decide) k_X0_latest_9 (fun _ z => z) dX0_latest_12 ?_
        refine lv_iload_n hx hb dX0_latest_15 rfl (lv_at hl 2 rfl) ?_
        obtain ⟨v4, hv4, h⟩ := ob h
        refine m_iald (x := v3) hC hw hv4 dX0_latest_16 ?_
        refine lv_iload_n hx hb dX0_latest_17 rfl (lv_at hl 1 rfl) ?_
        refine lv_icmp_le (tgt := 27) hx hb dX0_latest_18 (by decide) (fun c5 => ?_) (fun c5 => ?_)
        · replace h := itt h c5
          refine lv_iload_n hx hb dX0_latest_27 rfl (lv_at hl 2 rfl) ?_
          replace h := Option.some.inj h
          subst h
          exact RET hw ⟨(show cells + 0 ≤ 0 from by omega), (show slots + 0 ≤ 0 from by omega)⟩ dX0_latest_28
        · replace h := itf h c5
          refine lv_iinc (v := (x2 + (-1 : Int32))) (lv' := [(2, .int (x2 + (-1 : Int32))), (0, va_rf x0), (1, .int x1)]) hx hb dX0_latest_21 hl (k := 2) rfl rfl (by decide) rfl (fun ls hl => ?_)
          refine lv_goto (tgt := 7) hx hb dX0_latest_24 (by decide) ?_
          exact ih _ _ _ _ _ _ h hcl hsl hw (lv_sub hl [1, 2, 0] rfl)
  unfold f_X0_latest at h
  refine m_aload_n (x := this) hx hb dX0_latest_0 rfl (lv_at hl 0 rfl) ?_
  obtain ⟨v1, hv1, h⟩ := ob h
  refine m_getI hC hw (C := RX0) (T := TX0) (N := 3) hv1 ki_X0_latest_X0 rfl (by decide) k_X0_latest_18 (fun _ z => z) dX0_latest_1 ?_
  refine lv_iconst (v := (1 : Int32)) hx hb dX0_latest_4 (by decide) ?_
  refine lv_isub hx hb dX0_latest_5 ?_
  refine lv_istore_n (i := 2) (lv' := [(2, .int (v1 - (1 : Int32))), (0, va_rf this), (1, .int a1)]) hx hb dX0_latest_6 rfl hl (by decide) rfl (fun ls hl => ?_)
  exact L7 this a1 _ _ _ _ _ _ _ h (Nat.zero_le _) (Nat.zero_le _) hw (lv_sub hl [1, 2, 0] rfl)

def f_X0_latestValue (n : Nat) (M : Mem) (this : Option Nat) (a1 : Int32) (a2 : Int32) : Option (Int32) := if isO M this 3 = true then ((f_X0_latest n M this a1).bind fun r2 => if r2 < 0 then (some (a2)) else ((gI M this 3 2).bind fun v4 => if v4 ≤ r2 then (some (a2)) else ((gR M this 3 1).bind fun v6 => (aI M 0 v6 r2).bind fun v7 => some (v7)))) else none
def rmX0_latestValue : Room := { frames := 1, cells := 0, slots := 0, locals := 22 }
theorem k_X0_latestValue_18 : Cond.fieldLink RX0 18 "LoanBook$Appraisals" "size" "I" ∈ wsX0_latestValue := List.mem_of_getElem? (i := 1) rfl
theorem ki_X0_latestValue_X0 : ∀ w ∈ u_ws RX0 TX0 3, w ∈ wsX0_latestValue := sub_r [9, 10, 11] (by decide +kernel)
theorem k_X0_latestValue_15 : Cond.fieldLink RX0 15 "LoanBook$Appraisals" "values" "[I" ∈ wsX0_latestValue := List.mem_of_getElem? (i := 2) rfl
set_option maxHeartbeats 4000000 in
set_option maxRecDepth 100000 in
theorem c_X0_latestValue {G : wG} {l : Launch} {n : Nat} {M : Mem} {sz : Nat} {this : Option Nat} {a1 : Int32} {a2 : Int32} {r : Int32} (h : f_X0_latestValue n M this a1 a2 = some r) : CtrI G l yX0_latestValue wsX0_latestValue rmX0_latestValue [va_rf this, .int a1, .int a2] M sz r M sz := by
  refine m_startI (own := RX0) (cc := cX0_latestValue) (maxL := 4) (lv0 := [(0, va_rf this), (1, .int a1), (2, .int a2)]) (by decide) rfl rfl (by simp [lg_sl, va_rf_cat, cat_i, cat_r]) (by simp [lv_args, va_rf_cat, cat_i, cat_r]) ?_
  intro p e s m args below meth c Q hC hname RET hsz hw ls hl
  have hx := hC.1
  have hb := hC.2.1
  unfold f_X0_latestValue at h
  refine m_aload_n (x := this) hx hb dX0_latestValue_0 rfl (lv_at hl 0 rfl) ?_
  refine lv_iload_n hx hb dX0_latestValue_1 rfl (lv_at hl 1 rfl) ?_
  obtain ⟨g1, h⟩ := itg h
  obtain ⟨r2, hr2, h⟩ := ob h
  refine m_contI hC hw (m_runV hC hw (x := this) (ci := 3) (N := 3) (C := RX0) (T := TX0) (n := 1) (av := [.int a1]) (rest := []) (c_X0_latest (G := G) (l := l) hr2) gX0_latestValue_X0_latest rfl (by decide +kernel) ⟨(Nat.le_of_ble_eq_true rfl), (Nat.le_of_ble_eq_true rfl)⟩ g1 rfl rfl hl.1 rfl (Nat.le_of_ble_eq_true rfl) dX0_latestValue_2 ⟨(Nat.zero_le _), (Nat.zero_le _)⟩) (fun H locs hw => ?_)
  refine lv_istore_n (i := 3) (lv' := [(3, .int r2), (0, va_rf this), (1, .int a1), (2, .int a2)]) hx hb dX0_latestValue_5 rfl hl (by decide) rfl (fun ls hl => ?_)
  refine lv_iload_n hx hb dX0_latestValue_6 rfl (lv_at hl 0 rfl) ?_
  refine lv_if_lt (tgt := 27) hx hb dX0_latestValue_7 (by decide) (fun c3 => ?_) (fun c3 => ?_)
  · replace h := itt h c3
    refine lv_iload_n hx hb dX0_latestValue_27 rfl (lv_at hl 3 rfl) ?_
    replace h := Option.some.inj h
    subst h
    exact RET hw ⟨(Nat.zero_le _), (Nat.zero_le _)⟩ dX0_latestValue_28
  · replace h := itf h c3
    refine lv_iload_n hx hb dX0_latestValue_10 rfl (lv_at hl 0 rfl) ?_
    refine m_aload_n (x := this) hx hb dX0_latestValue_11 rfl (lv_at hl 1 rfl) ?_
    obtain ⟨v4, hv4, h⟩ := ob h
    refine m_getI hC hw (C := RX0) (T := TX0) (N := 3) hv4 ki_X0_latestValue_X0 rfl (by decide) k_X0_latestValue_18 (fun _ z => z) dX0_latestValue_12 ?_
    refine lv_icmp_ge (tgt := 27) hx hb dX0_latestValue_15 (by decide) (fun c5 => ?_) (fun c5 => ?_)
    · replace h := itt h c5
      refine lv_iload_n hx hb dX0_latestValue_27 rfl (lv_at hl 3 rfl) ?_
      replace h := Option.some.inj h
      subst h
      exact RET hw ⟨(Nat.zero_le _), (Nat.zero_le _)⟩ dX0_latestValue_28
    · replace h := itf h c5
      refine m_aload_n (x := this) hx hb dX0_latestValue_18 rfl (lv_at hl 1 rfl) ?_
      obtain ⟨v6, hv6, h⟩ := ob h
      refine m_getR hC hw (C := RX0) (T := TX0) (N := 3) hv6 ki_X0_latestValue_X0 rfl (by decide) k_X0_latestValue_15 (fun _ z => z) dX0_latestValue_19 ?_
      refine lv_iload_n hx hb dX0_latestValue_22 rfl (lv_at hl 0 rfl) ?_
      obtain ⟨v7, hv7, h⟩ := ob h
      refine m_iald (x := v6) hC hw hv7 dX0_latestValue_23 ?_
      refine lv_goto (tgt := 28) hx hb dX0_latestValue_24 (by decide) ?_
      replace h := Option.some.inj h
      subst h
      exact RET hw ⟨(Nat.zero_le _), (Nat.zero_le _)⟩ dX0_latestValue_28

def f_X10_valueOn (n : Nat) (M : Mem) (this : Option Nat) (a1 : Int32) : Option (Int32) := (gR M this 13 5).bind fun v1 => (gI M this 13 6).bind fun v2 => if isO M v1 3 = true then ((f_X0_latestValue n M v1 a1 v2).bind fun r4 => some (r4)) else none
def rmX10_valueOn : Room := { frames := 2, cells := 0, slots := 0, locals := 45 }
theorem k_X10_valueOn_23 : Cond.fieldLink RX10 23 "LoanBook$Thing" "appraisals" "LLoanBook$Appraisals;" ∈ wsX10_valueOn := List.mem_of_getElem? (i := 1) rfl
theorem ki_X10_valueOn_X10 : ∀ w ∈ u_ws RX10 TX10 9, w ∈ wsX10_valueOn := sub_r [15, 16, 17, 18, 19, 20, 21, 22, 23] (by decide +kernel)
theorem k_X10_valueOn_47 : Cond.fieldLink RX10 47 "LoanBook$Thing" "firstValue" "I" ∈ wsX10_valueOn := List.mem_of_getElem? (i := 2) rfl
set_option maxHeartbeats 4000000 in
set_option maxRecDepth 100000 in
theorem c_X10_valueOn {G : wG} {l : Launch} {n : Nat} {M : Mem} {sz : Nat} {this : Option Nat} {a1 : Int32} {r : Int32} (h : f_X10_valueOn n M this a1 = some r) : CtrI G l yX10_valueOn wsX10_valueOn rmX10_valueOn [va_rf this, .int a1] M sz r M sz := by
  refine m_startI (own := RX10) (cc := cX10_valueOn) (maxL := 2) (lv0 := [(0, va_rf this), (1, .int a1)]) (by decide) rfl rfl (by simp [lg_sl, va_rf_cat, cat_i, cat_r]) (by simp [lv_args, va_rf_cat, cat_i, cat_r]) ?_
  intro p e s m args below meth c Q hC hname RET hsz hw ls hl
  have hx := hC.1
  have hb := hC.2.1
  unfold f_X10_valueOn at h
  refine m_aload_n (x := this) hx hb dX10_valueOn_0 rfl (lv_at hl 0 rfl) ?_
  obtain ⟨v1, hv1, h⟩ := ob h
  refine m_getR hC hw (C := RX10) (T := TX10) (N := 9) hv1 ki_X10_valueOn_X10 rfl (by decide) k_X10_valueOn_23 (fun _ z => z) dX10_valueOn_1 ?_
  refine lv_iload_n hx hb dX10_valueOn_4 rfl (lv_at hl 1 rfl) ?_
  refine m_aload_n (x := this) hx hb dX10_valueOn_5 rfl (lv_at hl 0 rfl) ?_
  obtain ⟨v2, hv2, h⟩ := ob h
  refine m_getI hC hw (C := RX10) (T := TX10) (N := 9) hv2 ki_X10_valueOn_X10 rfl (by decide) k_X10_valueOn_47 (fun _ z => z) dX10_valueOn_6 ?_
  obtain ⟨g3, h⟩ := itg h
  obtain ⟨r4, hr4, h⟩ := ob h
  refine m_contI hC hw (m_runV hC hw (x := v1) (ci := 3) (N := 3) (C := RX0) (T := TX0) (n := 2) (av := [.int a1, .int v2]) (rest := []) (c_X0_latestValue (G := G) (l := l) hr4) gX10_valueOn_X0_latestValue rfl (by decide +kernel) ⟨(Nat.le_of_ble_eq_true rfl), (Nat.le_of_ble_eq_true rfl)⟩ g3 rfl rfl hl.1 rfl (Nat.le_of_ble_eq_true rfl) dX10_valueOn_9 ⟨(Nat.zero_le _), (Nat.zero_le _)⟩) (fun H locs hw => ?_)
  replace h := Option.some.inj h
  subst h
  exact RET hw ⟨(Nat.zero_le _), (Nat.zero_le _)⟩ dX10_valueOn_12

def f_X5_worthOn_L4 (n : Nat) (M : Mem) (x0 : Option Nat) (x1 : Int32) : Nat → Int32 → Int32 → Option (Int32)
  | 0, _, _ => none
  | k + 1, x2, x3 => (gR M x0 8 1).bind fun v1 => if isO M v1 2 = true then ((f_Jx4a65c_size_8abf5 M v1).bind fun r3 => if r3 ≤ x3 then (some (x2)) else ((gR M x0 8 1).bind fun v5 => if isO M v5 2 = true then ((f_Jx4a65c_get_915e3 M v5 x3).bind fun r7 => if r7 = none ∨ isO M r7 13 = true then (if isO M r7 13 = true then ((f_X10_valueOn n M r7 x1).bind fun r10 => f_X5_worthOn_L4 n M x0 x1 k (x2 + r10) (x3 + (1 : Int32))) else none) else none) else none)) else none
def f_X5_worthOn (n : Nat) (M : Mem) (this : Option Nat) (a1 : Int32) : Option (Int32) := f_X5_worthOn_L4 n M this a1 n (0 : Int32) (0 : Int32)
def rmX5_worthOn : Room := { frames := 3, cells := 0, slots := 0, locals := 66 }
theorem k_X5_worthOn_18 : Cond.fieldLink RX5 18 "LoanBook$Parcel" "content" "Ljava/util/ArrayList;" ∈ wsX5_worthOn := List.mem_of_getElem? (i := 1) rfl
theorem ki_X5_worthOn_X5 : ∀ w ∈ u_ws RX5 TX5 4, w ∈ wsX5_worthOn := sub_r [45, 46, 47, 48] (by decide +kernel)
theorem k_X5_worthOn_cc29 : Cond.classLink RX5 29 RX10 ∈ wsX5_worthOn := List.mem_of_getElem? (i := 2) rfl
set_option maxHeartbeats 4000000 in
set_option maxRecDepth 100000 in
theorem c_X5_worthOn {G : wG} {l : Launch} {n : Nat} {M : Mem} {sz : Nat} {this : Option Nat} {a1 : Int32} {r : Int32} (h : f_X5_worthOn n M this a1 = some r) : CtrI G l yX5_worthOn wsX5_worthOn rmX5_worthOn [va_rf this, .int a1] M sz r M sz := by
  refine m_startI (own := RX5) (cc := cX5_worthOn) (maxL := 4) (lv0 := [(0, va_rf this), (1, .int a1)]) (by decide) rfl rfl (by simp [lg_sl, va_rf_cat, cat_i, cat_r]) (by simp [lv_args, va_rf_cat, cat_i, cat_r]) ?_
  intro p e s m args below meth c Q hC hname RET hsz hw ls hl
  have hx := hC.1
  have hb := hC.2.1
  have L4 : ∀ (x0 : Option Nat) (x1 : Int32) (k : Nat) (x2 : Int32) (x3 : Int32) (cells slots : Nat) (H : Heap) (locs : List Loc) (ls : Array Slot), f_X5_worthOn_L4 n M x0 x1 k x2 x3 = some r → cells ≤ 0 → slots ≤ 0 → wD G s M M sz H locs → lv_has ls 4 [(0, va_rf x0), (1, .int x1), (2, .int x2), (3, .int x3)] → W p l e rmX5_worthOn s m args below meth c H locs cells slots Q (F0 m 4 ls []) := by
    intro x0 x1 k
    induction k with
    | zero =>
      intro x2 x3 cells slots H locs ls h
      exact absurd (show (none : Option (Int32)) = some r from h) (fun z => by cases z)
    | succ k ih =>
      intro x2 x3 cells slots H locs ls h hcl hsl hw hl
      rw [f_X5_worthOn_L4] at h
      refine lv_iload_n hx hb dX5_worthOn_4 rfl (lv_at hl 3 rfl) ?_
      refine m_aload_n (x := x0) hx hb dX5_worthOn_5 rfl (lv_at hl 0 rfl) ?_
      obtain ⟨v1, hv1, h⟩ := ob h
      refine m_getR hC hw (C := RX5) (T := TX5) (N := 4) hv1 ki_X5_worthOn_X5 rfl (by decide) k_X5_worthOn_18 (fun _ z => z) dX5_worthOn_6 ?_
      obtain ⟨g2, h⟩ := itg h
      obtain ⟨r3, hr3, h⟩ := ob h
      refine m_contI hC hw (m_runV hC hw (x := v1) (ci := 2) (N := 3) (C := RJx4a65c) (T := TJx4a65c) (n := 0) (av := []) (rest := [.int x3]) (c_Jx4a65c_size_8abf5 (G := G) (l := l) hr3) gX5_worthOn_Jx4a65c_size_8abf5 rfl (by decide +kernel) ⟨(Nat.le_of_ble_eq_true rfl), (Nat.le_of_ble_eq_true rfl)⟩ g2 rfl rfl hl.1 rfl (Nat.le_of_ble_eq_true rfl) dX5_worthOn_9 ⟨(show cells + 0 ≤ 0 from by omega), (show slots + 0 ≤ 0 from by omega)⟩) (fun H locs hw => ?_)
      refine lv_icmp_ge (tgt := 39) hx hb dX5_worthOn_12 (by decide) (fun c4 => ?_) (fun c4 => ?_)
      · replace h := itt h c4
        refine lv_iload_n hx hb dX5_worthOn_39 rfl (lv_at hl 2 rfl) ?_
        replace h := Option.some.inj h
        subst h
        exact RET hw ⟨(show cells + 0 ≤ 0 from by omega), (show slots + 0 ≤ 0 from by omega)⟩ dX5_worthOn_40
      · replace h := itf h c4
        refine lv_iload_n hx hb dX5_worthOn_15 rfl (lv_at hl 2 rfl) ?_
        refine m_aload_n (x := x0) hx hb dX5_worthOn_16 rfl (lv_at hl 0 rfl) ?_
        obtain ⟨v5, hv5, h⟩ := ob h
        refine m_getR hC hw (C := RX5) (T := TX5) (N := 4) hv5 ki_X5_worthOn_X5 rfl (by decide) k_X5_worthOn_18 (fun _ z => z) dX5_worthOn_17 ?_
        refine lv_iload_n hx hb dX5_worthOn_20 rfl (lv_at hl 3 rfl) ?_
        obtain ⟨g6, h⟩ := itg h
        obtain ⟨r7, hr7, h⟩ := ob h
        refine m_contQ hC hw (m_runV hC hw (x := v5) (ci := 2) (N := 3) (C := RJx4a65c) (T := TJx4a65c) (n := 1) (av := [.int x3]) (rest := [.int x2]) (c_Jx4a65c_get_915e3 (G := G) (l := l) hr7) gX5_worthOn_Jx4a65c_get_915e3 rfl (by decide +kernel) ⟨(Nat.le_of_ble_eq_true rfl), (Nat.le_of_ble_eq_true rfl)⟩ g6 rfl rfl hl.1 rfl (Nat.le_of_ble_eq_true rfl) dX5_worthOn_21 ⟨(show cells + 0 ≤ 0 from by omega), (show slots + 0 ≤ 0 from by omega)⟩) (fun H locs hw => ?_)
        obtain ⟨g8, h⟩ := itg h
        refine m_cast (x := r7) hC hw (C := RX10) (T := TX10) (N := 9) g8 k_X5_worthOn_cc29 rfl dX5_worthOn_24 ?_
        refine lv_iload_n hx hb dX5_worthOn_27 rfl (lv_at hl 1 rfl) ?_
        obtain ⟨g9, h⟩ := itg h
        obtain ⟨r10, hr10, h⟩ := ob h
        refine m_contI hC hw (m_runV hC hw (x := r7) (ci := 13) (N := 9) (C := RX10) (T := TX10) (n := 1) (av := [.int x1]) (rest := [.int x2]) (c_X10_valueOn (G := G) (l := l) hr10) gX5_worthOn_X10_valueOn rfl (by decide +kernel) ⟨(Nat.le_of_ble_eq_true rfl), (Nat.le_of_ble_eq_true rfl)⟩ g9 rfl rfl hl.1 rfl (Nat.le_of_ble_eq_true rfl) dX5_worthOn_28 ⟨(show cells + 0 ≤ 0 from by omega), (show slots + 0 ≤ 0 from by omega)⟩) (fun H locs hw => ?_)
        refine lv_iadd hx hb dX5_worthOn_31 ?_
        refine lv_istore_n (i := 2) (lv' := [(2, .int (x2 + r10)), (0, va_rf x0), (1, .int x1), (3, .int x3)]) hx hb dX5_worthOn_32 rfl hl (by decide) rfl (fun ls hl => ?_)
        refine lv_iinc (v := (x3 + (1 : Int32))) (lv' := [(3, .int (x3 + (1 : Int32))), (2, .int (x2 + r10)), (0, va_rf x0), (1, .int x1)]) hx hb dX5_worthOn_33 hl (k := 3) rfl rfl (by decide) rfl (fun ls hl => ?_)
        refine lv_goto (tgt := 4) hx hb dX5_worthOn_36 (by decide) ?_
        exact ih _ _ _ _ _ _ _ h hcl hsl hw (lv_sub hl [2, 3, 1, 0] rfl)
  unfold f_X5_worthOn at h
  refine lv_iconst (v := (0 : Int32)) hx hb dX5_worthOn_0 (by decide) ?_
  refine lv_istore_n (i := 2) (lv' := [(2, .int (0 : Int32)), (0, va_rf this), (1, .int a1)]) hx hb dX5_worthOn_1 rfl hl (by decide) rfl (fun ls hl => ?_)
  refine lv_iconst (v := (0 : Int32)) hx hb dX5_worthOn_2 (by decide) ?_
  refine lv_istore_n (i := 3) (lv' := [(3, .int (0 : Int32)), (2, .int (0 : Int32)), (0, va_rf this), (1, .int a1)]) hx hb dX5_worthOn_3 rfl hl (by decide) rfl (fun ls hl => ?_)
  exact L4 this a1 _ _ _ _ _ _ _ _ h (Nat.zero_le _) (Nat.zero_le _) hw (lv_sub hl [2, 3, 1, 0] rfl)

def f_X5_courierOn (M : Mem) (this : Option Nat) (a1 : Int32) : Option (Int32) := if a1 = 0 then ((gI M this 8 2).bind fun v3 => some (v3)) else ((gI M this 8 3).bind fun v2 => some (v2))
def rmX5_courierOn : Room := { frames := 0, cells := 0, slots := 0, locals := 0 }
theorem k_X5_courierOn_25 : Cond.fieldLink RX5 25 "LoanBook$Parcel" "courierBack" "I" ∈ wsX5_courierOn := List.mem_of_getElem? (i := 2) rfl
theorem ki_X5_courierOn_X5 : ∀ w ∈ u_ws RX5 TX5 4, w ∈ wsX5_courierOn := sub_r [3, 4, 5, 6] (by decide +kernel)
theorem k_X5_courierOn_22 : Cond.fieldLink RX5 22 "LoanBook$Parcel" "courierOut" "I" ∈ wsX5_courierOn := List.mem_of_getElem? (i := 1) rfl
set_option maxHeartbeats 4000000 in
set_option maxRecDepth 100000 in
theorem c_X5_courierOn {G : wG} {l : Launch} {M : Mem} {sz : Nat} {this : Option Nat} {a1 : Int32} {r : Int32} (h : f_X5_courierOn M this a1 = some r) : CtrI G l yX5_courierOn wsX5_courierOn rmX5_courierOn [va_rf this, .int a1] M sz r M sz := by
  refine m_startI (own := RX5) (cc := cX5_courierOn) (maxL := 2) (lv0 := [(0, va_rf this), (1, .int a1)]) (by decide) rfl rfl (by simp [lg_sl, va_rf_cat, cat_i, cat_r]) (by simp [lv_args, va_rf_cat, cat_i, cat_r]) ?_
  intro p e s m args below meth c Q hC hname RET hsz hw ls hl
  have hx := hC.1
  have hb := hC.2.1
  unfold f_X5_courierOn at h
  refine lv_iload_n hx hb dX5_courierOn_0 rfl (lv_at hl 1 rfl) ?_
  refine lv_if_ne (tgt := 11) hx hb dX5_courierOn_1 (by decide) (fun c1 => ?_) (fun c1 => ?_)
  · replace h := itf h c1
    refine m_aload_n (x := this) hx hb dX5_courierOn_11 rfl (lv_at hl 0 rfl) ?_
    obtain ⟨v2, hv2, h⟩ := ob h
    refine m_getI hC hw (C := RX5) (T := TX5) (N := 4) hv2 ki_X5_courierOn_X5 rfl (by decide) k_X5_courierOn_25 (fun _ z => z) dX5_courierOn_12 ?_
    replace h := Option.some.inj h
    subst h
    exact RET hw ⟨(Nat.zero_le _), (Nat.zero_le _)⟩ dX5_courierOn_15
  · replace h := itt h c1
    refine m_aload_n (x := this) hx hb dX5_courierOn_4 rfl (lv_at hl 0 rfl) ?_
    obtain ⟨v3, hv3, h⟩ := ob h
    refine m_getI hC hw (C := RX5) (T := TX5) (N := 4) hv3 ki_X5_courierOn_X5 rfl (by decide) k_X5_courierOn_22 (fun _ z => z) dX5_courierOn_5 ?_
    refine lv_goto (tgt := 15) hx hb dX5_courierOn_8 (by decide) ?_
    replace h := Option.some.inj h
    subst h
    exact RET hw ⟨(Nat.zero_le _), (Nat.zero_le _)⟩ dX5_courierOn_15

def f_X4_nextToGuard_L13 (n : Nat) (M : Mem) (x0 : Option Nat) (x1 : Int32) : Nat → Option Nat → Int32 → Int32 → Option (Option Nat)
  | 0, _, _, _ => none
  | k + 1, x2, x3, x4 => (gR M x0 7 2).bind fun v3 => if isO M v3 2 = true then ((f_Jx4a65c_size_8abf5 M v3).bind fun r5 => if r5 ≤ x4 then (some (x2)) else ((gR M x0 7 2).bind fun v7 => if isO M v7 2 = true then ((f_Jx4a65c_get_915e3 M v7 x4).bind fun r9 => if r9 = none ∨ isO M r9 8 = true then (if isO M x0 7 = true then ((f_X4_firstOf M x0 x1).bind fun r12 => if isO M r9 8 = true then ((f_X5_worthOn n M r9 r12).bind fun r14 => if isO M r9 8 = true then ((f_X5_courierOn M r9 x1).bind fun r16 => if r16 = (-1 : Int32) then (if r14 ≤ x3 then (f_X4_nextToGuard_L13 n M x0 x1 k x2 x3 (x4 + (1 : Int32))) else (f_X4_nextToGuard_L13 n M x0 x1 k r9 r14 (x4 + (1 : Int32)))) else (f_X4_nextToGuard_L13 n M x0 x1 k x2 x3 (x4 + (1 : Int32)))) else none) else none) else none) else none) else none)) else none
def f_X4_nextToGuard (n : Nat) (M : Mem) (this : Option Nat) (a1 : Int32) : Option (Option Nat) := (gR M this 7 0).bind fun v1 => (gI M v1 6 2).bind fun v2 => f_X4_nextToGuard_L13 n M this a1 n none v2 (0 : Int32)
def rmX4_nextToGuard : Room := { frames := 4, cells := 0, slots := 0, locals := 89 }
theorem k_X4_nextToGuard_22 : Cond.fieldLink RX4 22 "LoanBook$Loan" "borrower" "LLoanBook$House;" ∈ wsX4_nextToGuard := List.mem_of_getElem? (i := 1) rfl
theorem ki_X4_nextToGuard_X4 : ∀ w ∈ u_ws RX4 TX4 5, w ∈ wsX4_nextToGuard := sub_r [70, 71, 72, 73, 74] (by decide +kernel)
theorem k_X4_nextToGuard_84 : Cond.fieldLink RX4 84 "LoanBook$House" "guard" "I" ∈ wsX4_nextToGuard := List.mem_of_getElem? (i := 2) rfl
theorem ki_X4_nextToGuard_X3 : ∀ w ∈ u_ws RX3 TX3 5, w ∈ wsX4_nextToGuard := sub_r [75, 76, 77, 78, 79] (by decide +kernel)
theorem k_X4_nextToGuard_12 : Cond.fieldLink RX4 12 "LoanBook$Loan" "parcels" "Ljava/util/ArrayList;" ∈ wsX4_nextToGuard := List.mem_of_getElem? (i := 3) rfl
theorem k_X4_nextToGuard_cc62 : Cond.classLink RX4 62 RX5 ∈ wsX4_nextToGuard := List.mem_of_getElem? (i := 4) rfl
set_option maxHeartbeats 4000000 in
set_option maxRecDepth 100000 in
theorem c_X4_nextToGuard {G : wG} {l : Launch} {n : Nat} {M : Mem} {sz : Nat} {this : Option Nat} {a1 : Int32} {r : Option Nat} (h : f_X4_nextToGuard n M this a1 = some r) : CtrQ G l yX4_nextToGuard wsX4_nextToGuard rmX4_nextToGuard [va_rf this, .int a1] M sz r M sz := by
  refine m_startQ (own := RX4) (cc := cX4_nextToGuard) (maxL := 7) (lv0 := [(0, va_rf this), (1, .int a1)]) (by decide) rfl rfl (by simp [lg_sl, va_rf_cat, cat_i, cat_r]) (by simp [lv_args, va_rf_cat, cat_i, cat_r]) (Or.inl ⟨_, rfl⟩) ?_
  intro p e s m args below meth c Q hC hname RET hsz hw ls hl
  have hx := hC.1
  have hb := hC.2.1
  have L13 : ∀ (x0 : Option Nat) (x1 : Int32) (k : Nat) (x2 : Option Nat) (x3 : Int32) (x4 : Int32) (cells slots : Nat) (H : Heap) (locs : List Loc) (ls : Array Slot), f_X4_nextToGuard_L13 n M x0 x1 k x2 x3 x4 = some r → cells ≤ 0 → slots ≤ 0 → wD G s M M sz H locs → lv_has ls 7 [(0, va_rf x0), (1, .int x1), (2, va_rf x2), (3, .int x3), (4, .int x4)] → W p l e rmX4_nextToGuard s m args below meth c H locs cells slots Q (F0 m 13 ls []) := by
    intro x0 x1 k
    induction k with
    | zero =>
      intro x2 x3 x4 cells slots H locs ls h
      exact absurd (show (none : Option (Option Nat)) = some r from h) (fun z => by cases z)
    | succ k ih =>
      intro x2 x3 x4 cells slots H locs ls h hcl hsl hw hl
      rw [f_X4_nextToGuard_L13] at h
      refine lv_iload hx hb dX4_nextToGuard_13 (lv_at hl 4 rfl) ?_
      refine m_aload_n (x := x0) hx hb dX4_nextToGuard_15 rfl (lv_at hl 0 rfl) ?_
      obtain ⟨v3, hv3, h⟩ := ob h
      refine m_getR hC hw (C := RX4) (T := TX4) (N := 5) hv3 ki_X4_nextToGuard_X4 rfl (by decide) k_X4_nextToGuard_12 (fun _ z => z) dX4_nextToGuard_16 ?_
      obtain ⟨g4, h⟩ := itg h
      obtain ⟨r5, hr5, h⟩ := ob h
      refine m_contI hC hw (m_runV hC hw (x := v3) (ci := 2) (N := 3) (C := RJx4a65c) (T := TJx4a65c) (n := 0) (av := []) (rest := [.int x4]) (c_Jx4a65c_size_8abf5 (G := G) (l := l) hr5) gX4_nextToGuard_Jx4a65c_size_8abf5 rfl (by decide +kernel) ⟨(Nat.le_of_ble_eq_true rfl), (Nat.le_of_ble_eq_true rfl)⟩ g4 rfl rfl hl.1 rfl (Nat.le_of_ble_eq_true rfl) dX4_nextToGuard_19 ⟨(show cells + 0 ≤ 0 from by omega), (show slots + 0 ≤ 0 from by omega)⟩) (fun H locs hw => ?_)
      refine lv_icmp_ge (tgt := 79) hx hb dX4_nextToGuard_22 (by decide) (fun c6 => ?_) (fun c6 => ?_)
      · replace h := itt h c6
        refine m_aload_n (x := x2) hx hb dX4_nextToGuard_79 rfl (lv_at hl 2 rfl) ?_
        replace h := Option.some.inj h
        subst h
        exact RET hw ⟨(show cells + 0 ≤ 0 from by omega), (show slots + 0 ≤ 0 from by omega)⟩ dX4_nextToGuard_80
      · replace h := itf h c6
        refine m_aload_n (x := x0) hx hb dX4_nextToGuard_25 rfl (lv_at hl 0 rfl) ?_
        obtain ⟨v7, hv7, h⟩ := ob h
        refine m_getR hC hw (C := RX4) (T := TX4) (N := 5) hv7 ki_X4_nextToGuard_X4 rfl (by decide) k_X4_nextToGuard_12 (fun _ z => z) dX4_nextToGuard_26 ?_
        refine lv_iload hx hb dX4_nextToGuard_29 (lv_at hl 4 rfl) ?_
        obtain ⟨g8, h⟩ := itg h
        obtain ⟨r9, hr9, h⟩ := ob h
        refine m_contQ hC hw (m_runV hC hw (x := v7) (ci := 2) (N := 3) (C := RJx4a65c) (T := TJx4a65c) (n := 1) (av := [.int x4]) (rest := []) (c_Jx4a65c_get_915e3 (G := G) (l := l) hr9) gX4_nextToGuard_Jx4a65c_get_915e3 rfl (by decide +kernel) ⟨(Nat.le_of_ble_eq_true rfl), (Nat.le_of_ble_eq_true rfl)⟩ g8 rfl rfl hl.1 rfl (Nat.le_of_ble_eq_true rfl) dX4_nextToGuard_31 ⟨(show cells + 0 ≤ 0 from by omega), (show slots + 0 ≤ 0 from by omega)⟩) (fun H locs hw => ?_)
        obtain ⟨g10, h⟩ := itg h
        refine m_cast (x := r9) hC hw (C := RX5) (T := TX5) (N := 4) g10 k_X4_nextToGuard_cc62 rfl dX4_nextToGuard_34 ?_
        refine m_astore (x := r9) (lv' := [(5, va_rf r9), (0, va_rf x0), (1, .int x1), (2, va_rf x2), (3, .int x3), (4, .int x4)]) hx hb dX4_nextToGuard_37 hl (by decide) rfl (fun ls hl => ?_)
        refine m_aload (x := r9) hx hb dX4_nextToGuard_39 (lv_at hl 0 rfl) ?_
        refine m_aload_n (x := x0) hx hb dX4_nextToGuard_41 rfl (lv_at hl 1 rfl) ?_
        refine lv_iload_n hx hb dX4_nextToGuard_42 rfl (lv_at hl 2 rfl) ?_
        obtain ⟨g11, h⟩ := itg h
        obtain ⟨r12, hr12, h⟩ := ob h
        refine m_contI hC hw (m_runV hC hw (x := x0) (ci := 7) (N := 5) (C := RX4) (T := TX4) (n := 1) (av := [.int x1]) (rest := [va_rf r9]) (c_X4_firstOf (G := G) (l := l) hr12) gX4_nextToGuard_X4_firstOf rfl (by decide +kernel) ⟨(Nat.le_of_ble_eq_true rfl), (Nat.le_of_ble_eq_true rfl)⟩ g11 rfl rfl hl.1 rfl (by simp [va_rf_cat, cat_i, cat_r, cat_l]) dX4_nextToGuard_43 ⟨(show cells + 0 ≤ 0 from by omega), (show slots + 0 ≤ 0 from by omega)⟩) (fun H locs hw => ?_)
        obtain ⟨g13, h⟩ := itg h
        obtain ⟨r14, hr14, h⟩ := ob h
        refine m_contI hC hw (m_runV hC hw (x := r9) (ci := 8) (N := 4) (C := RX5) (T := TX5) (n := 1) (av := [.int r12]) (rest := []) (c_X5_worthOn (G := G) (l := l) hr14) gX4_nextToGuard_X5_worthOn rfl (by decide +kernel) ⟨(Nat.le_of_ble_eq_true rfl), (Nat.le_of_ble_eq_true rfl)⟩ g13 rfl rfl hl.1 rfl (Nat.le_of_ble_eq_true rfl) dX4_nextToGuard_46 ⟨(show cells + 0 ≤ 0 from by omega), (show slots + 0 ≤ 0 from by omega)⟩) (fun H locs hw => ?_)
        refine lv_istore (lv' := [(6, .int r14), (5, va_rf r9), (0, va_rf x0), (1, .int x1), (2, va_rf x2), (3, .int x3), (4, .int x4)]) hx hb dX4_nextToGuard_49 hl (by decide) (by simp [va_rf_cat, cat_i, cat_l]) (fun ls hl => ?_)
        refine m_aload (x := r9) hx hb dX4_nextToGuard_51 (lv_at hl 1 rfl) ?_
        refine lv_iload_n hx hb dX4_nextToGuard_53 rfl (lv_at hl 3 rfl) ?_
        obtain ⟨g15, h⟩ := itg h
        obtain ⟨r16, hr16, h⟩ := ob h
        refine m_contI hC hw (m_runV hC hw (x := r9) (ci := 8) (N := 4) (C := RX5) (T := TX5) (n := 1) (av := [.int x1]) (rest := []) (c_X5_courierOn (G := G) (l := l) hr16) gX4_nextToGuard_X5_courierOn rfl (by decide +kernel) ⟨(Nat.le_of_ble_eq_true rfl), (Nat.le_of_ble_eq_true rfl)⟩ g15 rfl rfl hl.1 rfl (Nat.le_of_ble_eq_true rfl) dX4_nextToGuard_54 ⟨(show cells + 0 ≤ 0 from by omega), (show slots + 0 ≤ 0 from by omega)⟩) (fun H locs hw => ?_)
        refine lv_iconst (v := (-1 : Int32)) hx hb dX4_nextToGuard_57 (by decide) ?_
        refine lv_icmp_ne (tgt := 73) hx hb dX4_nextToGuard_58 (by decide) (fun c17 => ?_) (fun c17 => ?_)
        · replace h := itf h c17
          refine lv_iinc (v := (x4 + (1 : Int32))) (lv' := [(4, .int (x4 + (1 : Int32))), (6, .int r14), (5, va_rf r9), (0, va_rf x0), (1, .int x1), (2, va_rf x2), (3, .int x3)]) hx hb dX4_nextToGuard_73 hl (k := 6) rfl rfl (by decide) rfl (fun ls hl => ?_)
          refine lv_goto (tgt := 13) hx hb dX4_nextToGuard_76 (by decide) ?_
          exact ih _ _ _ _ _ _ _ _ h hcl hsl hw (lv_sub hl [3, 4, 5, 6, 0] rfl)
        · replace h := itt h c17
          refine lv_iload hx hb dX4_nextToGuard_61 (lv_at hl 0 rfl) ?_
          refine lv_iload_n hx hb dX4_nextToGuard_63 rfl (lv_at hl 5 rfl) ?_
          refine lv_icmp_le (tgt := 73) hx hb dX4_nextToGuard_64 (by decide) (fun c18 => ?_) (fun c18 => ?_)
          · replace h := itt h c18
            refine lv_iinc (v := (x4 + (1 : Int32))) (lv' := [(4, .int (x4 + (1 : Int32))), (6, .int r14), (5, va_rf r9), (0, va_rf x0), (1, .int x1), (2, va_rf x2), (3, .int x3)]) hx hb dX4_nextToGuard_73 hl (k := 6) rfl rfl (by decide) rfl (fun ls hl => ?_)
            refine lv_goto (tgt := 13) hx hb dX4_nextToGuard_76 (by decide) ?_
            exact ih _ _ _ _ _ _ _ _ h hcl hsl hw (lv_sub hl [3, 4, 5, 6, 0] rfl)
          · replace h := itf h c18
            refine m_aload (x := r9) hx hb dX4_nextToGuard_67 (lv_at hl 1 rfl) ?_
            refine m_astore_n (x := r9) (i := 2) (lv' := [(2, va_rf r9), (6, .int r14), (5, va_rf r9), (0, va_rf x0), (1, .int x1), (3, .int x3), (4, .int x4)]) hx hb dX4_nextToGuard_69 rfl hl (by decide) rfl (fun ls hl => ?_)
            refine lv_iload hx hb dX4_nextToGuard_70 (lv_at hl 1 rfl) ?_
            refine lv_istore_n (i := 3) (lv' := [(3, .int r14), (2, va_rf r9), (6, .int r14), (5, va_rf r9), (0, va_rf x0), (1, .int x1), (4, .int x4)]) hx hb dX4_nextToGuard_72 rfl hl (by decide) (by simp [va_rf_cat, cat_i, cat_l]) (fun ls hl => ?_)
            refine lv_iinc (v := (x4 + (1 : Int32))) (lv' := [(4, .int (x4 + (1 : Int32))), (3, .int r14), (2, va_rf r9), (6, .int r14), (5, va_rf r9), (0, va_rf x0), (1, .int x1)]) hx hb dX4_nextToGuard_73 hl (k := 6) rfl rfl (by decide) rfl (fun ls hl => ?_)
            refine lv_goto (tgt := 13) hx hb dX4_nextToGuard_76 (by decide) ?_
            exact ih _ _ _ _ _ _ _ _ h hcl hsl hw (lv_sub hl [5, 6, 2, 1, 0] rfl)
  unfold f_X4_nextToGuard at h
  refine lv_null hx hb dX4_nextToGuard_0 ?_
  refine m_astore_n (x := none) (i := 2) (lv' := [(2, va_rf none), (0, va_rf this), (1, .int a1)]) hx hb dX4_nextToGuard_1 rfl hl (by decide) rfl (fun ls hl => ?_)
  refine m_aload_n (x := this) hx hb dX4_nextToGuard_2 rfl (lv_at hl 1 rfl) ?_
  obtain ⟨v1, hv1, h⟩ := ob h
  refine m_getR hC hw (C := RX4) (T := TX4) (N := 5) hv1 ki_X4_nextToGuard_X4 rfl (by decide) k_X4_nextToGuard_22 (fun _ z => z) dX4_nextToGuard_3 ?_
  obtain ⟨v2, hv2, h⟩ := ob h
  refine m_getI hC hw (C := RX3) (T := TX3) (N := 5) hv2 ki_X4_nextToGuard_X3 rfl (by decide) k_X4_nextToGuard_84 (fun _ z => z) dX4_nextToGuard_6 ?_
  refine lv_istore_n (i := 3) (lv' := [(3, .int v2), (2, va_rf none), (0, va_rf this), (1, .int a1)]) hx hb dX4_nextToGuard_9 rfl hl (by decide) (by simp [va_rf_cat, cat_i, cat_l]) (fun ls hl => ?_)
  refine lv_iconst (v := (0 : Int32)) hx hb dX4_nextToGuard_10 (by decide) ?_
  refine lv_istore (lv' := [(4, .int (0 : Int32)), (3, .int v2), (2, va_rf none), (0, va_rf this), (1, .int a1)]) hx hb dX4_nextToGuard_11 hl (by decide) rfl (fun ls hl => ?_)
  exact L13 this a1 _ _ _ _ _ _ _ _ _ h (Nat.zero_le _) (Nat.zero_le _) hw (lv_sub hl [3, 4, 2, 1, 0] rfl)

def f_X1_daysTaken (M : Mem) (this : Option Nat) : Option (Int32) := (gI M this 4 1).bind fun v1 => some (v1)
def rmX1_daysTaken : Room := { frames := 0, cells := 0, slots := 0, locals := 0 }
theorem k_X1_daysTaken_15 : Cond.fieldLink RX1 15 "LoanBook$Calendar" "taken" "I" ∈ wsX1_daysTaken := List.mem_of_getElem? (i := 1) rfl
theorem ki_X1_daysTaken_X1 : ∀ w ∈ u_ws RX1 TX1 2, w ∈ wsX1_daysTaken := sub_r [2, 3] (by decide +kernel)
set_option maxHeartbeats 4000000 in
set_option maxRecDepth 100000 in
theorem c_X1_daysTaken {G : wG} {l : Launch} {M : Mem} {sz : Nat} {this : Option Nat} {r : Int32} (h : f_X1_daysTaken M this = some r) : CtrI G l yX1_daysTaken wsX1_daysTaken rmX1_daysTaken [va_rf this] M sz r M sz := by
  refine m_startI (own := RX1) (cc := cX1_daysTaken) (maxL := 1) (lv0 := [(0, va_rf this)]) (by decide) rfl rfl (by simp [lg_sl, va_rf_cat, cat_i, cat_r]) (by simp [lv_args, va_rf_cat, cat_i, cat_r]) ?_
  intro p e s m args below meth c Q hC hname RET hsz hw ls hl
  have hx := hC.1
  have hb := hC.2.1
  unfold f_X1_daysTaken at h
  refine m_aload_n (x := this) hx hb dX1_daysTaken_0 rfl (lv_at hl 0 rfl) ?_
  obtain ⟨v1, hv1, h⟩ := ob h
  refine m_getI hC hw (C := RX1) (T := TX1) (N := 2) hv1 ki_X1_daysTaken_X1 rfl (by decide) k_X1_daysTaken_15 (fun _ z => z) dX1_daysTaken_1 ?_
  replace h := Option.some.inj h
  subst h
  exact RET hw ⟨(Nat.zero_le _), (Nat.zero_le _)⟩ dX1_daysTaken_4

def f_X1_take (B : Nat) (n : Nat) (M : Mem) (this : Option Nat) (a1 : Int32) (a2 : Int32) (a3 : Int32) : Option (Mem) := if isO M this 4 = true then ((f_X1_fill B n M this a1 a2 a3).bind fun r2 => (gI r2 this 4 1).bind fun v3 => (pF B r2 this 4 1 (.int (v3 + ((a2 - a1) + (1 : Int32))))).bind fun M4 => some (M4)) else none
def rmX1_take : Room := { frames := 2, cells := 0, slots := 0, locals := 45 }
theorem k_X1_take_15 : Cond.fieldLink RX1 15 "LoanBook$Calendar" "taken" "I" ∈ wsX1_take := List.mem_of_getElem? (i := 1) rfl
theorem ki_X1_take_X1 : ∀ w ∈ u_ws RX1 TX1 2, w ∈ wsX1_take := sub_r [12, 13] (by decide +kernel)
set_option maxHeartbeats 4000000 in
set_option maxRecDepth 100000 in
theorem c_X1_take {G : wG} {l : Launch} {n : Nat} {M : Mem} {sz : Nat} {this : Option Nat} {a1 : Int32} {a2 : Int32} {a3 : Int32} {r : Mem} (h : f_X1_take G.2.2.1 n M this a1 a2 a3 = some r) : CtrV G l yX1_take wsX1_take rmX1_take [va_rf this, .int a1, .int a2, .int a3] M sz r sz := by
  refine m_startV (own := RX1) (cc := cX1_take) (maxL := 4) (lv0 := [(0, va_rf this), (1, .int a1), (2, .int a2), (3, .int a3)]) (by decide) rfl rfl (by simp [lg_sl, va_rf_cat, cat_i, cat_r]) (by simp [lv_args, va_rf_cat, cat_i, cat_r]) ?_
  intro p e s m args below meth c Q hC hname RET hsz hw ls hl
  have hx := hC.1
  have hb := hC.2.1
  unfold f_X1_take at h
  refine m_aload_n (x := this) hx hb dX1_take_0 rfl (lv_at hl 0 rfl) ?_
  refine lv_iload_n hx hb dX1_take_1 rfl (lv_at hl 1 rfl) ?_
  refine lv_iload_n hx hb dX1_take_2 rfl (lv_at hl 2 rfl) ?_
  refine lv_iload_n hx hb dX1_take_3 rfl (lv_at hl 3 rfl) ?_
  obtain ⟨g1, h⟩ := itg h
  obtain ⟨r2, hr2, h⟩ := ob h
  refine m_contV hC hw (m_runV hC hw (x := this) (ci := 4) (N := 2) (C := RX1) (T := TX1) (n := 3) (av := [.int a1, .int a2, .int a3]) (rest := []) (c_X1_fill (G := G) (l := l) hr2) gX1_take_X1_fill rfl (by decide +kernel) ⟨(Nat.le_of_ble_eq_true rfl), (Nat.le_of_ble_eq_true rfl)⟩ g1 rfl rfl hl.1 rfl (Nat.le_of_ble_eq_true rfl) dX1_take_4 ⟨(Nat.zero_le _), (Nat.zero_le _)⟩) (fun H locs hw => ?_)
  refine m_aload_n (x := this) hx hb dX1_take_7 rfl (lv_at hl 0 rfl) ?_
  refine m_dup (x := this) hx hb dX1_take_8 ?_
  obtain ⟨v3, hv3, h⟩ := ob h
  refine m_getI hC hw (C := RX1) (T := TX1) (N := 2) hv3 ki_X1_take_X1 rfl (by decide) k_X1_take_15 (fun _ z => z) dX1_take_9 ?_
  refine lv_iload_n hx hb dX1_take_12 rfl (lv_at hl 2 rfl) ?_
  refine lv_iload_n hx hb dX1_take_13 rfl (lv_at hl 1 rfl) ?_
  refine lv_isub hx hb dX1_take_14 ?_
  refine lv_iconst (v := (1 : Int32)) hx hb dX1_take_15 (by decide) ?_
  refine lv_iadd hx hb dX1_take_16 ?_
  refine lv_iadd hx hb dX1_take_17 ?_
  obtain ⟨M4, hM4, h⟩ := ob h
  refine m_put hC hw (C := RX1) (T := TX1) (N := 2) (x := this) hM4 ki_X1_take_X1 tyX1 tyX1_ok nmX1 rfl (by decide) k_X1_take_15 (fun _ z => z) rfl rfl rfl dX1_take_18 (fun H locs hw => ?_)
  replace h := Option.some.inj h
  subst h
  exact RET hw ⟨(Nat.zero_le _), (Nat.zero_le _)⟩ dX1_take_21

def f_X5_guardBy (B : Nat) (M : Mem) (this : Option Nat) (a1 : Int32) (a2 : Int32) : Option (Mem) := if a2 = 0 then ((pF B M this 8 2 (.int a1)).bind fun M3 => some (M3)) else ((pF B M this 8 3 (.int a1)).bind fun M2 => some (M2))
def rmX5_guardBy : Room := { frames := 0, cells := 0, slots := 0, locals := 0 }
theorem k_X5_guardBy_25 : Cond.fieldLink RX5 25 "LoanBook$Parcel" "courierBack" "I" ∈ wsX5_guardBy := List.mem_of_getElem? (i := 2) rfl
theorem ki_X5_guardBy_X5 : ∀ w ∈ u_ws RX5 TX5 4, w ∈ wsX5_guardBy := sub_r [3, 4, 5, 6] (by decide +kernel)
theorem k_X5_guardBy_22 : Cond.fieldLink RX5 22 "LoanBook$Parcel" "courierOut" "I" ∈ wsX5_guardBy := List.mem_of_getElem? (i := 1) rfl
set_option maxHeartbeats 4000000 in
set_option maxRecDepth 100000 in
theorem c_X5_guardBy {G : wG} {l : Launch} {M : Mem} {sz : Nat} {this : Option Nat} {a1 : Int32} {a2 : Int32} {r : Mem} (h : f_X5_guardBy G.2.2.1 M this a1 a2 = some r) : CtrV G l yX5_guardBy wsX5_guardBy rmX5_guardBy [va_rf this, .int a1, .int a2] M sz r sz := by
  refine m_startV (own := RX5) (cc := cX5_guardBy) (maxL := 3) (lv0 := [(0, va_rf this), (1, .int a1), (2, .int a2)]) (by decide) rfl rfl (by simp [lg_sl, va_rf_cat, cat_i, cat_r]) (by simp [lv_args, va_rf_cat, cat_i, cat_r]) ?_
  intro p e s m args below meth c Q hC hname RET hsz hw ls hl
  have hx := hC.1
  have hb := hC.2.1
  unfold f_X5_guardBy at h
  refine lv_iload_n hx hb dX5_guardBy_0 rfl (lv_at hl 2 rfl) ?_
  refine lv_if_ne (tgt := 12) hx hb dX5_guardBy_1 (by decide) (fun c1 => ?_) (fun c1 => ?_)
  · replace h := itf h c1
    refine m_aload_n (x := this) hx hb dX5_guardBy_12 rfl (lv_at hl 0 rfl) ?_
    refine lv_iload_n hx hb dX5_guardBy_13 rfl (lv_at hl 1 rfl) ?_
    obtain ⟨M2, hM2, h⟩ := ob h
    refine m_put hC hw (C := RX5) (T := TX5) (N := 4) (x := this) hM2 ki_X5_guardBy_X5 tyX5 tyX5_ok nmX5 rfl (by decide) k_X5_guardBy_25 (fun _ z => z) rfl rfl rfl dX5_guardBy_14 (fun H locs hw => ?_)
    replace h := Option.some.inj h
    subst h
    exact RET hw ⟨(Nat.zero_le _), (Nat.zero_le _)⟩ dX5_guardBy_17
  · replace h := itt h c1
    refine m_aload_n (x := this) hx hb dX5_guardBy_4 rfl (lv_at hl 0 rfl) ?_
    refine lv_iload_n hx hb dX5_guardBy_5 rfl (lv_at hl 1 rfl) ?_
    obtain ⟨M3, hM3, h⟩ := ob h
    refine m_put hC hw (C := RX5) (T := TX5) (N := 4) (x := this) hM3 ki_X5_guardBy_X5 tyX5 tyX5_ok nmX5 rfl (by decide) k_X5_guardBy_22 (fun _ z => z) rfl rfl rfl dX5_guardBy_6 (fun H locs hw => ?_)
    refine lv_goto (tgt := 17) hx hb dX5_guardBy_9 (by decide) ?_
    replace h := Option.some.inj h
    subst h
    exact RET hw ⟨(Nat.zero_le _), (Nat.zero_le _)⟩ dX5_guardBy_17

def f_X1_release_L2 (B : Nat) (n : Nat) (x0 : Option Nat) (x1 : Int32) : Nat → Mem → Int32 → Option (Mem)
  | 0, _, _ => none
  | k + 1, Mz, x2 => if (1000 : Int32) ≤ x2 then (some (Mz)) else ((gR Mz x0 4 0).bind fun v2 => (aI Mz 0 v2 x2).bind fun v3 => if v3 = x1 then ((gR Mz x0 4 0).bind fun v5 => (sI B Mz 0 v5 x2 (-1 : Int32)).bind fun M6 => (gI M6 x0 4 1).bind fun v7 => (pF B M6 x0 4 1 (.int (v7 - (1 : Int32)))).bind fun M8 => f_X1_release_L2 B n x0 x1 k M8 (x2 + (1 : Int32))) else (f_X1_release_L2 B n x0 x1 k Mz (x2 + (1 : Int32))))
def f_X1_release (B : Nat) (n : Nat) (M : Mem) (this : Option Nat) (a1 : Int32) : Option (Mem) := f_X1_release_L2 B n this a1 n M (0 : Int32)
def rmX1_release : Room := { frames := 0, cells := 0, slots := 0, locals := 0 }
theorem k_X1_release_9 : Cond.fieldLink RX1 9 "LoanBook$Calendar" "days" "[I" ∈ wsX1_release := List.mem_of_getElem? (i := 1) rfl
theorem ki_X1_release_X1 : ∀ w ∈ u_ws RX1 TX1 2, w ∈ wsX1_release := sub_r [3, 4] (by decide +kernel)
theorem k_X1_release_15 : Cond.fieldLink RX1 15 "LoanBook$Calendar" "taken" "I" ∈ wsX1_release := List.mem_of_getElem? (i := 2) rfl
set_option maxHeartbeats 4000000 in
set_option maxRecDepth 100000 in
theorem c_X1_release {G : wG} {l : Launch} {n : Nat} {M : Mem} {sz : Nat} {this : Option Nat} {a1 : Int32} {r : Mem} (h : f_X1_release G.2.2.1 n M this a1 = some r) : CtrV G l yX1_release wsX1_release rmX1_release [va_rf this, .int a1] M sz r sz := by
  refine m_startV (own := RX1) (cc := cX1_release) (maxL := 3) (lv0 := [(0, va_rf this), (1, .int a1)]) (by decide) rfl rfl (by simp [lg_sl, va_rf_cat, cat_i, cat_r]) (by simp [lv_args, va_rf_cat, cat_i, cat_r]) ?_
  intro p e s m args below meth c Q hC hname RET hsz hw ls hl
  have hx := hC.1
  have hb := hC.2.1
  have L2 : ∀ (x0 : Option Nat) (x1 : Int32) (k : Nat) (Mz : Mem) (x2 : Int32) (cells slots : Nat) (H : Heap) (locs : List Loc) (ls : Array Slot), f_X1_release_L2 G.2.2.1 n x0 x1 k Mz x2 = some r → cells ≤ 0 → slots ≤ 0 → wD G s M Mz sz H locs → lv_has ls 3 [(0, va_rf x0), (1, .int x1), (2, .int x2)] → W p l e rmX1_release s m args below meth c H locs cells slots Q (F0 m 2 ls []) := by
    intro x0 x1 k
    induction k with
    | zero =>
      intro Mz x2 cells slots H locs ls h
      exact absurd (show (none : Option (Mem)) = some r from h) (fun z => by cases z)
    | succ k ih =>
      intro Mz x2 cells slots H locs ls h hcl hsl hw hl
      rw [f_X1_release_L2] at h
      refine lv_iload_n hx hb dX1_release_2 rfl (lv_at hl 2 rfl) ?_
      refine lv_sipush (v := (1000 : Int32)) hx hb dX1_release_3 (by decide) ?_
      refine lv_icmp_ge (tgt := 42) hx hb dX1_release_6 (by decide) (fun c1 => ?_) (fun c1 => ?_)
      · replace h := itt h c1
        replace h := Option.some.inj h
        subst h
        exact RET hw ⟨(show cells + 0 ≤ 0 from by omega), (show slots + 0 ≤ 0 from by omega)⟩ dX1_release_42
      · replace h := itf h c1
        refine m_aload_n (x := x0) hx hb dX1_release_9 rfl (lv_at hl 0 rfl) ?_
        obtain ⟨v2, hv2, h⟩ := ob h
        refine m_getR hC hw (C := RX1) (T := TX1) (N := 2) hv2 ki_X1_release_X1 rfl (by decide) k_X1_release_9 (fun _ z => z) dX1_release_10 ?_
        refine lv_iload_n hx hb dX1_release_13 rfl (lv_at hl 2 rfl) ?_
        obtain ⟨v3, hv3, h⟩ := ob h
        refine m_iald (x := v2) hC hw hv3 dX1_release_14 ?_
        refine lv_iload_n hx hb dX1_release_15 rfl (lv_at hl 1 rfl) ?_
        refine lv_icmp_ne (tgt := 36) hx hb dX1_release_16 (by decide) (fun c4 => ?_) (fun c4 => ?_)
        · replace h := itf h c4
          refine lv_iinc (v := (x2 + (1 : Int32))) (lv' := [(2, .int (x2 + (1 : Int32))), (0, va_rf x0), (1, .int x1)]) hx hb dX1_release_36 hl (k := 2) rfl rfl (by decide) rfl (fun ls hl => ?_)
          refine lv_goto (tgt := 2) hx hb dX1_release_39 (by decide) ?_
          exact ih _ _ _ _ _ _ _ h hcl hsl hw (lv_sub hl [1, 2, 0] rfl)
        · replace h := itt h c4
          refine m_aload_n (x := x0) hx hb dX1_release_19 rfl (lv_at hl 0 rfl) ?_
          obtain ⟨v5, hv5, h⟩ := ob h
          refine m_getR hC hw (C := RX1) (T := TX1) (N := 2) hv5 ki_X1_release_X1 rfl (by decide) k_X1_release_9 (fun _ z => z) dX1_release_20 ?_
          refine lv_iload_n hx hb dX1_release_23 rfl (lv_at hl 2 rfl) ?_
          refine lv_iconst (v := (-1 : Int32)) hx hb dX1_release_24 (by decide) ?_
          obtain ⟨M6, hM6, h⟩ := ob h
          refine m_iast (x := v5) hC hw hM6 dX1_release_25 (fun H locs hw => ?_)
          refine m_aload_n (x := x0) hx hb dX1_release_26 rfl (lv_at hl 0 rfl) ?_
          refine m_dup (x := x0) hx hb dX1_release_27 ?_
          obtain ⟨v7, hv7, h⟩ := ob h
          refine m_getI hC hw (C := RX1) (T := TX1) (N := 2) hv7 ki_X1_release_X1 rfl (by decide) k_X1_release_15 (fun _ z => z) dX1_release_28 ?_
          refine lv_iconst (v := (1 : Int32)) hx hb dX1_release_31 (by decide) ?_
          refine lv_isub hx hb dX1_release_32 ?_
          obtain ⟨M8, hM8, h⟩ := ob h
          refine m_put hC hw (C := RX1) (T := TX1) (N := 2) (x := x0) hM8 ki_X1_release_X1 tyX1 tyX1_ok nmX1 rfl (by decide) k_X1_release_15 (fun _ z => z) rfl rfl rfl dX1_release_33 (fun H locs hw => ?_)
          refine lv_iinc (v := (x2 + (1 : Int32))) (lv' := [(2, .int (x2 + (1 : Int32))), (0, va_rf x0), (1, .int x1)]) hx hb dX1_release_36 hl (k := 2) rfl rfl (by decide) rfl (fun ls hl => ?_)
          refine lv_goto (tgt := 2) hx hb dX1_release_39 (by decide) ?_
          exact ih _ _ _ _ _ _ _ h hcl hsl hw (lv_sub hl [1, 2, 0] rfl)
  unfold f_X1_release at h
  refine lv_iconst (v := (0 : Int32)) hx hb dX1_release_0 (by decide) ?_
  refine lv_istore_n (i := 2) (lv' := [(2, .int (0 : Int32)), (0, va_rf this), (1, .int a1)]) hx hb dX1_release_1 rfl hl (by decide) rfl (fun ls hl => ?_)
  exact L2 this a1 _ _ _ _ _ _ _ _ h (Nat.zero_le _) (Nat.zero_le _) hw (lv_sub hl [1, 2, 0] rfl)

def f_X5_holds_L2 (n : Nat) (M : Mem) (x0 : Option Nat) (x1 : Int32) : Nat → Int32 → Option (Int32)
  | 0, _ => none
  | k + 1, x2 => (gR M x0 8 1).bind fun v1 => if isO M v1 2 = true then ((f_Jx4a65c_size_8abf5 M v1).bind fun r3 => if r3 ≤ x2 then (some ((0 : Int32))) else ((gR M x0 8 1).bind fun v5 => if isO M v5 2 = true then ((f_Jx4a65c_get_915e3 M v5 x2).bind fun r7 => if r7 = none ∨ isO M r7 13 = true then ((gI M r7 13 0).bind fun v9 => if v9 = x1 then (some ((1 : Int32))) else (f_X5_holds_L2 n M x0 x1 k (x2 + (1 : Int32)))) else none) else none)) else none
def f_X5_holds (n : Nat) (M : Mem) (this : Option Nat) (a1 : Int32) : Option (Int32) := f_X5_holds_L2 n M this a1 n (0 : Int32)
def rmX5_holds : Room := { frames := 3, cells := 0, slots := 0, locals := 64 }
theorem k_X5_holds_18 : Cond.fieldLink RX5 18 "LoanBook$Parcel" "content" "Ljava/util/ArrayList;" ∈ wsX5_holds := List.mem_of_getElem? (i := 1) rfl
theorem ki_X5_holds_X5 : ∀ w ∈ u_ws RX5 TX5 4, w ∈ wsX5_holds := sub_r [27, 28, 29, 30] (by decide +kernel)
theorem k_X5_holds_cc29 : Cond.classLink RX5 29 RX10 ∈ wsX5_holds := List.mem_of_getElem? (i := 2) rfl
theorem k_X5_holds_50 : Cond.fieldLink RX5 50 "LoanBook$Thing" "number" "I" ∈ wsX5_holds := List.mem_of_getElem? (i := 3) rfl
theorem ki_X5_holds_X10 : ∀ w ∈ u_ws RX10 TX10 9, w ∈ wsX5_holds := sub_r [31, 32, 33, 34, 35, 36, 37, 38, 39] (by decide +kernel)
set_option maxHeartbeats 4000000 in
set_option maxRecDepth 100000 in
theorem c_X5_holds {G : wG} {l : Launch} {n : Nat} {M : Mem} {sz : Nat} {this : Option Nat} {a1 : Int32} {r : Int32} (h : f_X5_holds n M this a1 = some r) : CtrI G l yX5_holds wsX5_holds rmX5_holds [va_rf this, .int a1] M sz r M sz := by
  refine m_startZ (own := RX5) (cc := cX5_holds) (maxL := 3) (lv0 := [(0, va_rf this), (1, .int a1)]) (by decide) rfl rfl (by simp [lg_sl, va_rf_cat, cat_i, cat_r]) (by simp [lv_args, va_rf_cat, cat_i, cat_r]) ?_
  intro p e s m args below meth c Q hC hname RET hsz hw ls hl
  have hx := hC.1
  have hb := hC.2.1
  have L2 : ∀ (x0 : Option Nat) (x1 : Int32) (k : Nat) (x2 : Int32) (cells slots : Nat) (H : Heap) (locs : List Loc) (ls : Array Slot), f_X5_holds_L2 n M x0 x1 k x2 = some r → cells ≤ 0 → slots ≤ 0 → wD G s M M sz H locs → lv_has ls 3 [(0, va_rf x0), (1, .int x1), (2, .int x2)] → W p l e rmX5_holds s m args below meth c H locs cells slots Q (F0 m 2 ls []) := by
    intro x0 x1 k
    induction k with
    | zero =>
      intro x2 cells slots H locs ls h
      exact absurd (show (none : Option (Int32)) = some r from h) (fun z => by cases z)
    | succ k ih =>
      intro x2 cells slots H locs ls h hcl hsl hw hl
      rw [f_X5_holds_L2] at h
      refine lv_iload_n hx hb dX5_holds_2 rfl (lv_at hl 2 rfl) ?_
      refine m_aload_n (x := x0) hx hb dX5_holds_3 rfl (lv_at hl 0 rfl) ?_
      obtain ⟨v1, hv1, h⟩ := ob h
      refine m_getR hC hw (C := RX5) (T := TX5) (N := 4) hv1 ki_X5_holds_X5 rfl (by decide) k_X5_holds_18 (fun _ z => z) dX5_holds_4 ?_
      obtain ⟨g2, h⟩ := itg h
      obtain ⟨r3, hr3, h⟩ := ob h
      refine m_contI hC hw (m_runV hC hw (x := v1) (ci := 2) (N := 3) (C := RJx4a65c) (T := TJx4a65c) (n := 0) (av := []) (rest := [.int x2]) (c_Jx4a65c_size_8abf5 (G := G) (l := l) hr3) gX5_holds_Jx4a65c_size_8abf5 rfl (by decide +kernel) ⟨(Nat.le_of_ble_eq_true rfl), (Nat.le_of_ble_eq_true rfl)⟩ g2 rfl rfl hl.1 rfl (Nat.le_of_ble_eq_true rfl) dX5_holds_7 ⟨(show cells + 0 ≤ 0 from by omega), (show slots + 0 ≤ 0 from by omega)⟩) (fun H locs hw => ?_)
      refine lv_icmp_ge (tgt := 39) hx hb dX5_holds_10 (by decide) (fun c4 => ?_) (fun c4 => ?_)
      · replace h := itt h c4
        refine lv_iconst (v := (0 : Int32)) hx hb dX5_holds_39 (by decide) ?_
        replace h := Option.some.inj h
        subst h
        exact RET (isZ.nar (Or.inl rfl)) hw ⟨(show cells + 0 ≤ 0 from by omega), (show slots + 0 ≤ 0 from by omega)⟩ dX5_holds_40
      · replace h := itf h c4
        refine m_aload_n (x := x0) hx hb dX5_holds_13 rfl (lv_at hl 0 rfl) ?_
        obtain ⟨v5, hv5, h⟩ := ob h
        refine m_getR hC hw (C := RX5) (T := TX5) (N := 4) hv5 ki_X5_holds_X5 rfl (by decide) k_X5_holds_18 (fun _ z => z) dX5_holds_14 ?_
        refine lv_iload_n hx hb dX5_holds_17 rfl (lv_at hl 2 rfl) ?_
        obtain ⟨g6, h⟩ := itg h
        obtain ⟨r7, hr7, h⟩ := ob h
        refine m_contQ hC hw (m_runV hC hw (x := v5) (ci := 2) (N := 3) (C := RJx4a65c) (T := TJx4a65c) (n := 1) (av := [.int x2]) (rest := []) (c_Jx4a65c_get_915e3 (G := G) (l := l) hr7) gX5_holds_Jx4a65c_get_915e3 rfl (by decide +kernel) ⟨(Nat.le_of_ble_eq_true rfl), (Nat.le_of_ble_eq_true rfl)⟩ g6 rfl rfl hl.1 rfl (Nat.le_of_ble_eq_true rfl) dX5_holds_18 ⟨(show cells + 0 ≤ 0 from by omega), (show slots + 0 ≤ 0 from by omega)⟩) (fun H locs hw => ?_)
        obtain ⟨g8, h⟩ := itg h
        refine m_cast (x := r7) hC hw (C := RX10) (T := TX10) (N := 9) g8 k_X5_holds_cc29 rfl dX5_holds_21 ?_
        obtain ⟨v9, hv9, h⟩ := ob h
        refine m_getI hC hw (C := RX10) (T := TX10) (N := 9) hv9 ki_X5_holds_X10 rfl (by decide) k_X5_holds_50 (fun _ z => z) dX5_holds_24 ?_
        refine lv_iload_n hx hb dX5_holds_27 rfl (lv_at hl 1 rfl) ?_
        refine lv_icmp_ne (tgt := 33) hx hb dX5_holds_28 (by decide) (fun c10 => ?_) (fun c10 => ?_)
        · replace h := itf h c10
          refine lv_iinc (v := (x2 + (1 : Int32))) (lv' := [(2, .int (x2 + (1 : Int32))), (0, va_rf x0), (1, .int x1)]) hx hb dX5_holds_33 hl (k := 2) rfl rfl (by decide) rfl (fun ls hl => ?_)
          refine lv_goto (tgt := 2) hx hb dX5_holds_36 (by decide) ?_
          exact ih _ _ _ _ _ _ h hcl hsl hw (lv_sub hl [1, 2, 0] rfl)
        · replace h := itt h c10
          refine lv_iconst (v := (1 : Int32)) hx hb dX5_holds_31 (by decide) ?_
          replace h := Option.some.inj h
          subst h
          exact RET (isZ.nar (Or.inr rfl)) hw ⟨(show cells + 0 ≤ 0 from by omega), (show slots + 0 ≤ 0 from by omega)⟩ dX5_holds_32
  unfold f_X5_holds at h
  refine lv_iconst (v := (0 : Int32)) hx hb dX5_holds_0 (by decide) ?_
  refine lv_istore_n (i := 2) (lv' := [(2, .int (0 : Int32)), (0, va_rf this), (1, .int a1)]) hx hb dX5_holds_1 rfl hl (by decide) rfl (fun ls hl => ?_)
  exact L2 this a1 _ _ _ _ _ _ _ h (Nat.zero_le _) (Nat.zero_le _) hw (lv_sub hl [1, 2, 0] rfl)

def f_X4_parcelWith_L2 (n : Nat) (M : Mem) (x0 : Option Nat) (x1 : Int32) : Nat → Int32 → Option (Int32)
  | 0, _ => none
  | k + 1, x2 => (gR M x0 7 2).bind fun v1 => if isO M v1 2 = true then ((f_Jx4a65c_size_8abf5 M v1).bind fun r3 => if r3 ≤ x2 then (some ((-1 : Int32))) else ((gR M x0 7 2).bind fun v5 => if isO M v5 2 = true then ((f_Jx4a65c_get_915e3 M v5 x2).bind fun r7 => if r7 = none ∨ isO M r7 8 = true then (if isO M r7 8 = true then ((f_X5_holds n M r7 x1).bind fun r10 => if r10 = 0 then (f_X4_parcelWith_L2 n M x0 x1 k (x2 + (1 : Int32))) else (some (x2))) else none) else none) else none)) else none
def f_X4_parcelWith (n : Nat) (M : Mem) (this : Option Nat) (a1 : Int32) : Option (Int32) := f_X4_parcelWith_L2 n M this a1 n (0 : Int32)
def rmX4_parcelWith : Room := { frames := 4, cells := 0, slots := 0, locals := 86 }
theorem k_X4_parcelWith_12 : Cond.fieldLink RX4 12 "LoanBook$Loan" "parcels" "Ljava/util/ArrayList;" ∈ wsX4_parcelWith := List.mem_of_getElem? (i := 1) rfl
theorem ki_X4_parcelWith_X4 : ∀ w ∈ u_ws RX4 TX4 5, w ∈ wsX4_parcelWith := sub_r [36, 37, 38, 39, 40] (by decide +kernel)
theorem k_X4_parcelWith_cc62 : Cond.classLink RX4 62 RX5 ∈ wsX4_parcelWith := List.mem_of_getElem? (i := 2) rfl
set_option maxHeartbeats 4000000 in
set_option maxRecDepth 100000 in
theorem c_X4_parcelWith {G : wG} {l : Launch} {n : Nat} {M : Mem} {sz : Nat} {this : Option Nat} {a1 : Int32} {r : Int32} (h : f_X4_parcelWith n M this a1 = some r) : CtrI G l yX4_parcelWith wsX4_parcelWith rmX4_parcelWith [va_rf this, .int a1] M sz r M sz := by
  refine m_startI (own := RX4) (cc := cX4_parcelWith) (maxL := 3) (lv0 := [(0, va_rf this), (1, .int a1)]) (by decide) rfl rfl (by simp [lg_sl, va_rf_cat, cat_i, cat_r]) (by simp [lv_args, va_rf_cat, cat_i, cat_r]) ?_
  intro p e s m args below meth c Q hC hname RET hsz hw ls hl
  have hx := hC.1
  have hb := hC.2.1
  have L2 : ∀ (x0 : Option Nat) (x1 : Int32) (k : Nat) (x2 : Int32) (cells slots : Nat) (H : Heap) (locs : List Loc) (ls : Array Slot), f_X4_parcelWith_L2 n M x0 x1 k x2 = some r → cells ≤ 0 → slots ≤ 0 → wD G s M M sz H locs → lv_has ls 3 [(0, va_rf x0), (1, .int x1), (2, .int x2)] → W p l e rmX4_parcelWith s m args below meth c H locs cells slots Q (F0 m 2 ls []) := by
    intro x0 x1 k
    induction k with
    | zero =>
      intro x2 cells slots H locs ls h
      exact absurd (show (none : Option (Int32)) = some r from h) (fun z => by cases z)
    | succ k ih =>
      intro x2 cells slots H locs ls h hcl hsl hw hl
      rw [f_X4_parcelWith_L2] at h
      refine lv_iload_n hx hb dX4_parcelWith_2 rfl (lv_at hl 2 rfl) ?_
      refine m_aload_n (x := x0) hx hb dX4_parcelWith_3 rfl (lv_at hl 0 rfl) ?_
      obtain ⟨v1, hv1, h⟩ := ob h
      refine m_getR hC hw (C := RX4) (T := TX4) (N := 5) hv1 ki_X4_parcelWith_X4 rfl (by decide) k_X4_parcelWith_12 (fun _ z => z) dX4_parcelWith_4 ?_
      obtain ⟨g2, h⟩ := itg h
      obtain ⟨r3, hr3, h⟩ := ob h
      refine m_contI hC hw (m_runV hC hw (x := v1) (ci := 2) (N := 3) (C := RJx4a65c) (T := TJx4a65c) (n := 0) (av := []) (rest := [.int x2]) (c_Jx4a65c_size_8abf5 (G := G) (l := l) hr3) gX4_parcelWith_Jx4a65c_size_8abf5 rfl (by decide +kernel) ⟨(Nat.le_of_ble_eq_true rfl), (Nat.le_of_ble_eq_true rfl)⟩ g2 rfl rfl hl.1 rfl (Nat.le_of_ble_eq_true rfl) dX4_parcelWith_7 ⟨(show cells + 0 ≤ 0 from by omega), (show slots + 0 ≤ 0 from by omega)⟩) (fun H locs hw => ?_)
      refine lv_icmp_ge (tgt := 39) hx hb dX4_parcelWith_10 (by decide) (fun c4 => ?_) (fun c4 => ?_)
      · replace h := itt h c4
        refine lv_iconst (v := (-1 : Int32)) hx hb dX4_parcelWith_39 (by decide) ?_
        replace h := Option.some.inj h
        subst h
        exact RET hw ⟨(show cells + 0 ≤ 0 from by omega), (show slots + 0 ≤ 0 from by omega)⟩ dX4_parcelWith_40
      · replace h := itf h c4
        refine m_aload_n (x := x0) hx hb dX4_parcelWith_13 rfl (lv_at hl 0 rfl) ?_
        obtain ⟨v5, hv5, h⟩ := ob h
        refine m_getR hC hw (C := RX4) (T := TX4) (N := 5) hv5 ki_X4_parcelWith_X4 rfl (by decide) k_X4_parcelWith_12 (fun _ z => z) dX4_parcelWith_14 ?_
        refine lv_iload_n hx hb dX4_parcelWith_17 rfl (lv_at hl 2 rfl) ?_
        obtain ⟨g6, h⟩ := itg h
        obtain ⟨r7, hr7, h⟩ := ob h
        refine m_contQ hC hw (m_runV hC hw (x := v5) (ci := 2) (N := 3) (C := RJx4a65c) (T := TJx4a65c) (n := 1) (av := [.int x2]) (rest := []) (c_Jx4a65c_get_915e3 (G := G) (l := l) hr7) gX4_parcelWith_Jx4a65c_get_915e3 rfl (by decide +kernel) ⟨(Nat.le_of_ble_eq_true rfl), (Nat.le_of_ble_eq_true rfl)⟩ g6 rfl rfl hl.1 rfl (Nat.le_of_ble_eq_true rfl) dX4_parcelWith_18 ⟨(show cells + 0 ≤ 0 from by omega), (show slots + 0 ≤ 0 from by omega)⟩) (fun H locs hw => ?_)
        obtain ⟨g8, h⟩ := itg h
        refine m_cast (x := r7) hC hw (C := RX5) (T := TX5) (N := 4) g8 k_X4_parcelWith_cc62 rfl dX4_parcelWith_21 ?_
        refine lv_iload_n hx hb dX4_parcelWith_24 rfl (lv_at hl 1 rfl) ?_
        obtain ⟨g9, h⟩ := itg h
        obtain ⟨r10, hr10, h⟩ := ob h
        refine m_contI hC hw (m_runV hC hw (x := r7) (ci := 8) (N := 4) (C := RX5) (T := TX5) (n := 1) (av := [.int x1]) (rest := []) (c_X5_holds (G := G) (l := l) hr10) gX4_parcelWith_X5_holds rfl (by decide +kernel) ⟨(Nat.le_of_ble_eq_true rfl), (Nat.le_of_ble_eq_true rfl)⟩ g9 rfl rfl hl.1 rfl (Nat.le_of_ble_eq_true rfl) dX4_parcelWith_25 ⟨(show cells + 0 ≤ 0 from by omega), (show slots + 0 ≤ 0 from by omega)⟩) (fun H locs hw => ?_)
        refine lv_if_eq (tgt := 33) hx hb dX4_parcelWith_28 (by decide) (fun c11 => ?_) (fun c11 => ?_)
        · replace h := itt h c11
          refine lv_iinc (v := (x2 + (1 : Int32))) (lv' := [(2, .int (x2 + (1 : Int32))), (0, va_rf x0), (1, .int x1)]) hx hb dX4_parcelWith_33 hl (k := 2) rfl rfl (by decide) rfl (fun ls hl => ?_)
          refine lv_goto (tgt := 2) hx hb dX4_parcelWith_36 (by decide) ?_
          exact ih _ _ _ _ _ _ h hcl hsl hw (lv_sub hl [1, 2, 0] rfl)
        · replace h := itf h c11
          refine lv_iload_n hx hb dX4_parcelWith_31 rfl (lv_at hl 2 rfl) ?_
          replace h := Option.some.inj h
          subst h
          exact RET hw ⟨(show cells + 0 ≤ 0 from by omega), (show slots + 0 ≤ 0 from by omega)⟩ dX4_parcelWith_32
  unfold f_X4_parcelWith at h
  refine lv_iconst (v := (0 : Int32)) hx hb dX4_parcelWith_0 (by decide) ?_
  refine lv_istore_n (i := 2) (lv' := [(2, .int (0 : Int32)), (0, va_rf this), (1, .int a1)]) hx hb dX4_parcelWith_1 rfl hl (by decide) rfl (fun ls hl => ?_)
  exact L2 this a1 _ _ _ _ _ _ _ h (Nat.zero_le _) (Nat.zero_le _) hw (lv_sub hl [1, 2, 0] rfl)

def f_X4_last (M : Mem) (this : Option Nat) : Option (Int32) := (gI M this 7 1).bind fun v1 => (gR M this 7 0).bind fun v2 => (gI M v2 6 0).bind fun v3 => (gI M this 7 4).bind fun v4 => some (((v1 + ((2 : Int32) * v3)) + v4) - (1 : Int32))
def rmX4_last : Room := { frames := 0, cells := 0, slots := 0, locals := 0 }
theorem k_X4_last_26 : Cond.fieldLink RX4 26 "LoanBook$Loan" "first" "I" ∈ wsX4_last := List.mem_of_getElem? (i := 1) rfl
theorem ki_X4_last_X4 : ∀ w ∈ u_ws RX4 TX4 5, w ∈ wsX4_last := sub_r [5, 6, 7, 8, 9] (by decide +kernel)
theorem k_X4_last_22 : Cond.fieldLink RX4 22 "LoanBook$Loan" "borrower" "LLoanBook$House;" ∈ wsX4_last := List.mem_of_getElem? (i := 2) rfl
theorem k_X4_last_33 : Cond.fieldLink RX4 33 "LoanBook$House" "way" "I" ∈ wsX4_last := List.mem_of_getElem? (i := 3) rfl
theorem ki_X4_last_X3 : ∀ w ∈ u_ws RX3 TX3 5, w ∈ wsX4_last := sub_r [10, 11, 12, 13, 14] (by decide +kernel)
theorem k_X4_last_30 : Cond.fieldLink RX4 30 "LoanBook$Loan" "stay" "I" ∈ wsX4_last := List.mem_of_getElem? (i := 4) rfl
set_option maxHeartbeats 4000000 in
set_option maxRecDepth 100000 in
theorem c_X4_last {G : wG} {l : Launch} {M : Mem} {sz : Nat} {this : Option Nat} {r : Int32} (h : f_X4_last M this = some r) : CtrI G l yX4_last wsX4_last rmX4_last [va_rf this] M sz r M sz := by
  refine m_startI (own := RX4) (cc := cX4_last) (maxL := 1) (lv0 := [(0, va_rf this)]) (by decide) rfl rfl (by simp [lg_sl, va_rf_cat, cat_i, cat_r]) (by simp [lv_args, va_rf_cat, cat_i, cat_r]) ?_
  intro p e s m args below meth c Q hC hname RET hsz hw ls hl
  have hx := hC.1
  have hb := hC.2.1
  unfold f_X4_last at h
  refine m_aload_n (x := this) hx hb dX4_last_0 rfl (lv_at hl 0 rfl) ?_
  obtain ⟨v1, hv1, h⟩ := ob h
  refine m_getI hC hw (C := RX4) (T := TX4) (N := 5) hv1 ki_X4_last_X4 rfl (by decide) k_X4_last_26 (fun _ z => z) dX4_last_1 ?_
  refine lv_iconst (v := (2 : Int32)) hx hb dX4_last_4 (by decide) ?_
  refine m_aload_n (x := this) hx hb dX4_last_5 rfl (lv_at hl 0 rfl) ?_
  obtain ⟨v2, hv2, h⟩ := ob h
  refine m_getR hC hw (C := RX4) (T := TX4) (N := 5) hv2 ki_X4_last_X4 rfl (by decide) k_X4_last_22 (fun _ z => z) dX4_last_6 ?_
  obtain ⟨v3, hv3, h⟩ := ob h
  refine m_getI hC hw (C := RX3) (T := TX3) (N := 5) hv3 ki_X4_last_X3 rfl (by decide) k_X4_last_33 (fun _ z => z) dX4_last_9 ?_
  refine lv_imul hx hb dX4_last_12 ?_
  refine lv_iadd hx hb dX4_last_13 ?_
  refine m_aload_n (x := this) hx hb dX4_last_14 rfl (lv_at hl 0 rfl) ?_
  obtain ⟨v4, hv4, h⟩ := ob h
  refine m_getI hC hw (C := RX4) (T := TX4) (N := 5) hv4 ki_X4_last_X4 rfl (by decide) k_X4_last_30 (fun _ z => z) dX4_last_15 ?_
  refine lv_iadd hx hb dX4_last_18 ?_
  refine lv_iconst (v := (1 : Int32)) hx hb dX4_last_19 (by decide) ?_
  refine lv_isub hx hb dX4_last_20 ?_
  replace h := Option.some.inj h
  subst h
  exact RET hw ⟨(Nat.zero_le _), (Nat.zero_le _)⟩ dX4_last_21

def f_X7_takesHarm (B : Nat) (M : Mem) (this : Option Nat) : Option (Int32 × Mem) := if isO M this 10 = true then ((f_X7_takesWord B M this (107 : Int32) (4 : Int32)).bind fun r2 => if r2.1 = 0 then (some ((0 : Int32), r2.2)) else (if isO r2.2 this 10 = true then ((f_X7_takesNumber B r2.2 this).bind fun r5 => if r5.1 = 0 then (some ((0 : Int32), r5.2)) else (if isO r5.2 this 10 = true then ((f_X7_takesNumber B r5.2 this).bind fun r8 => if r8.1 = 0 then (some ((0 : Int32), r8.2)) else (some ((1 : Int32), r8.2))) else none)) else none)) else none
def rmX7_takesHarm : Room := { frames := 3, cells := 0, slots := 0, locals := 64 }
set_option maxHeartbeats 4000000 in
set_option maxRecDepth 100000 in
theorem c_X7_takesHarm {G : wG} {l : Launch} {M : Mem} {sz : Nat} {this : Option Nat} {r : Int32 × Mem} (h : f_X7_takesHarm G.2.2.1 M this = some r) : CtrI G l yX7_takesHarm wsX7_takesHarm rmX7_takesHarm [va_rf this] M sz r.1 r.2 sz := by
  refine m_startZ (own := RX7) (cc := cX7_takesHarm) (maxL := 1) (lv0 := [(0, va_rf this)]) (by decide) rfl rfl (by simp [lg_sl, va_rf_cat, cat_i, cat_r]) (by simp [lv_args, va_rf_cat, cat_i, cat_r]) ?_
  intro p e s m args below meth c Q hC hname RET hsz hw ls hl
  have hx := hC.1
  have hb := hC.2.1
  unfold f_X7_takesHarm at h
  refine m_aload_n (x := this) hx hb dX7_takesHarm_0 rfl (lv_at hl 0 rfl) ?_
  refine lv_bipush (v := (107 : Int32)) hx hb dX7_takesHarm_1 (by decide) ?_
  refine lv_iconst (v := (4 : Int32)) hx hb dX7_takesHarm_3 (by decide) ?_
  obtain ⟨g1, h⟩ := itg h
  obtain ⟨r2, hr2, h⟩ := ob h
  refine m_contI hC hw (m_runV hC hw (x := this) (ci := 10) (N := 5) (C := RX7) (T := TX7) (n := 2) (av := [.int (107 : Int32), .int (4 : Int32)]) (rest := []) (c_X7_takesWord (G := G) (l := l) hr2) gX7_takesHarm_X7_takesWord rfl (by decide +kernel) ⟨(Nat.le_of_ble_eq_true rfl), (Nat.le_of_ble_eq_true rfl)⟩ g1 rfl rfl hl.1 rfl (Nat.le_of_ble_eq_true rfl) dX7_takesHarm_4 ⟨(Nat.zero_le _), (Nat.zero_le _)⟩) (fun H locs hw => ?_)
  refine lv_if_eq (tgt := 28) hx hb dX7_takesHarm_7 (by decide) (fun c3 => ?_) (fun c3 => ?_)
  · replace h := itt h c3
    refine lv_iconst (v := (0 : Int32)) hx hb dX7_takesHarm_28 (by decide) ?_
    replace h := Option.some.inj h
    subst h
    exact RET (isZ.nar (Or.inl rfl)) hw ⟨(Nat.zero_le _), (Nat.zero_le _)⟩ dX7_takesHarm_29
  · replace h := itf h c3
    refine m_aload_n (x := this) hx hb dX7_takesHarm_10 rfl (lv_at hl 0 rfl) ?_
    obtain ⟨g4, h⟩ := itg h
    obtain ⟨r5, hr5, h⟩ := ob h
    refine m_contI hC hw (m_runV hC hw (x := this) (ci := 10) (N := 5) (C := RX7) (T := TX7) (n := 0) (av := []) (rest := []) (c_X7_takesNumber (G := G) (l := l) hr5) gX7_takesHarm_X7_takesNumber rfl (by decide +kernel) ⟨(Nat.le_of_ble_eq_true rfl), (Nat.le_of_ble_eq_true rfl)⟩ g4 rfl rfl hl.1 rfl (Nat.le_of_ble_eq_true rfl) dX7_takesHarm_11 ⟨(Nat.zero_le _), (Nat.zero_le _)⟩) (fun H locs hw => ?_)
    refine lv_if_eq (tgt := 28) hx hb dX7_takesHarm_14 (by decide) (fun c6 => ?_) (fun c6 => ?_)
    · replace h := itt h c6
      refine lv_iconst (v := (0 : Int32)) hx hb dX7_takesHarm_28 (by decide) ?_
      replace h := Option.some.inj h
      subst h
      exact RET (isZ.nar (Or.inl rfl)) hw ⟨(Nat.zero_le _), (Nat.zero_le _)⟩ dX7_takesHarm_29
    · replace h := itf h c6
      refine m_aload_n (x := this) hx hb dX7_takesHarm_17 rfl (lv_at hl 0 rfl) ?_
      obtain ⟨g7, h⟩ := itg h
      obtain ⟨r8, hr8, h⟩ := ob h
      refine m_contI hC hw (m_runV hC hw (x := this) (ci := 10) (N := 5) (C := RX7) (T := TX7) (n := 0) (av := []) (rest := []) (c_X7_takesNumber (G := G) (l := l) hr8) gX7_takesHarm_X7_takesNumber rfl (by decide +kernel) ⟨(Nat.le_of_ble_eq_true rfl), (Nat.le_of_ble_eq_true rfl)⟩ g7 rfl rfl hl.1 rfl (Nat.le_of_ble_eq_true rfl) dX7_takesHarm_18 ⟨(Nat.zero_le _), (Nat.zero_le _)⟩) (fun H locs hw => ?_)
      refine lv_if_eq (tgt := 28) hx hb dX7_takesHarm_21 (by decide) (fun c9 => ?_) (fun c9 => ?_)
      · replace h := itt h c9
        refine lv_iconst (v := (0 : Int32)) hx hb dX7_takesHarm_28 (by decide) ?_
        replace h := Option.some.inj h
        subst h
        exact RET (isZ.nar (Or.inl rfl)) hw ⟨(Nat.zero_le _), (Nat.zero_le _)⟩ dX7_takesHarm_29
      · replace h := itf h c9
        refine lv_iconst (v := (1 : Int32)) hx hb dX7_takesHarm_24 (by decide) ?_
        refine lv_goto (tgt := 29) hx hb dX7_takesHarm_25 (by decide) ?_
        replace h := Option.some.inj h
        subst h
        exact RET (isZ.nar (Or.inr rfl)) hw ⟨(Nat.zero_le _), (Nat.zero_le _)⟩ dX7_takesHarm_29

def f_X7_readsReport_L21 (B : Nat) (n : Nat) (x0 : Option Nat) : Nat → Mem → Int32 → Int32 → Option (Int32 × Mem)
  | 0, _, _, _ => none
  | k + 1, Mz, x1, x2 => if (120 : Int32) ≤ x2 then (if x1 = 0 then (some (((0 : Int32), Mz))) else (if isO Mz x0 10 = true then ((f_X7_isAtEnd B Mz x0).bind fun r9 => if r9.1 = 0 then (some (((0 : Int32), r9.2))) else (some (((1 : Int32), r9.2)))) else none)) else (if x1 = 0 then (if x1 = 0 then (some (((0 : Int32), Mz))) else (if isO Mz x0 10 = true then ((f_X7_isAtEnd B Mz x0).bind fun r14 => if r14.1 = 0 then (some (((0 : Int32), r14.2))) else (some (((1 : Int32), r14.2)))) else none)) else (if isO Mz x0 10 = true then ((f_X7_skips B Mz x0 (44 : Int32)).bind fun r17 => if r17.1 = 0 then (if x1 = 0 then (some (((0 : Int32), r17.2))) else (if isO r17.2 x0 10 = true then ((f_X7_isAtEnd B r17.2 x0).bind fun r21 => if r21.1 = 0 then (some (((0 : Int32), r21.2))) else (some (((1 : Int32), r21.2)))) else none)) else (if isO r17.2 x0 10 = true then ((f_X7_takesHarm B r17.2 x0).bind fun r24 => f_X7_readsReport_L21 B n x0 k r24.2 r24.1 (x2 + (1 : Int32))) else none)) else none))
def f_X7_readsReport (B : Nat) (n : Nat) (M : Mem) (this : Option Nat) : Option (Int32 × Mem) := if isO M this 10 = true then ((f_X7_skips B M this (101 : Int32)).bind fun r2 => if r2.1 = 0 then (if isO r2.2 this 10 = true then ((f_X7_takesHarm B r2.2 this).bind fun r5 => f_X7_readsReport_L21 B n this n r5.2 r5.1 (0 : Int32)) else none) else (if isO r2.2 this 10 = true then ((f_X7_isAtEnd B r2.2 this).bind fun r26 => if r26.1 = 0 ∨ r26.1 = 1 then (some (r26.1, r26.2)) else none) else none)) else none
def rmX7_readsReport : Room := { frames := 4, cells := 0, slots := 0, locals := 84 }
set_option maxHeartbeats 4000000 in
set_option maxRecDepth 100000 in
theorem c_X7_readsReport {G : wG} {l : Launch} {n : Nat} {M : Mem} {sz : Nat} {this : Option Nat} {r : Int32 × Mem} (h : f_X7_readsReport G.2.2.1 n M this = some r) : CtrI G l yX7_readsReport wsX7_readsReport rmX7_readsReport [va_rf this] M sz r.1 r.2 sz := by
  refine m_startZ (own := RX7) (cc := cX7_readsReport) (maxL := 3) (lv0 := [(0, va_rf this)]) (by decide) rfl rfl (by simp [lg_sl, va_rf_cat, cat_i, cat_r]) (by simp [lv_args, va_rf_cat, cat_i, cat_r]) ?_
  intro p e s m args below meth c Q hC hname RET hsz hw ls hl
  have hx := hC.1
  have hb := hC.2.1
  have L21 : ∀ (x0 : Option Nat) (k : Nat) (Mz : Mem) (x1 : Int32) (x2 : Int32) (cells slots : Nat) (H : Heap) (locs : List Loc) (ls : Array Slot), f_X7_readsReport_L21 G.2.2.1 n x0 k Mz x1 x2 = some r → cells ≤ 0 → slots ≤ 0 → wD G s M Mz sz H locs → lv_has ls 3 [(0, va_rf x0), (1, .int x1), (2, .int x2)] → W p l e rmX7_readsReport s m args below meth c H locs cells slots Q (F0 m 21 ls []) := by
    intro x0 k
    induction k with
    | zero =>
      intro Mz x1 x2 cells slots H locs ls h
      exact absurd (show (none : Option (Int32 × Mem)) = some r from h) (fun z => by cases z)
    | succ k ih =>
      intro Mz x1 x2 cells slots H locs ls h hcl hsl hw hl
      rw [f_X7_readsReport_L21] at h
      refine lv_iload_n hx hb dX7_readsReport_21 rfl (lv_at hl 2 rfl) ?_
      refine lv_bipush (v := (120 : Int32)) hx hb dX7_readsReport_22 (by decide) ?_
      refine lv_icmp_ge (tgt := 51) hx hb dX7_readsReport_24 (by decide) (fun c6 => ?_) (fun c6 => ?_)
      · replace h := itt h c6
        refine lv_iload_n hx hb dX7_readsReport_51 rfl (lv_at hl 1 rfl) ?_
        refine lv_if_eq (tgt := 66) hx hb dX7_readsReport_52 (by decide) (fun c7 => ?_) (fun c7 => ?_)
        · replace h := itt h c7
          refine lv_iconst (v := (0 : Int32)) hx hb dX7_readsReport_66 (by decide) ?_
          replace h := Option.some.inj h
          subst h
          exact RET (isZ.nar (Or.inl rfl)) hw ⟨(show cells + 0 ≤ 0 from by omega), (show slots + 0 ≤ 0 from by omega)⟩ dX7_readsReport_67
        · replace h := itf h c7
          refine m_aload_n (x := x0) hx hb dX7_readsReport_55 rfl (lv_at hl 0 rfl) ?_
          obtain ⟨g8, h⟩ := itg h
          obtain ⟨r9, hr9, h⟩ := ob h
          refine m_contI hC hw (m_runV hC hw (x := x0) (ci := 10) (N := 5) (C := RX7) (T := TX7) (n := 0) (av := []) (rest := []) (c_X7_isAtEnd (G := G) (l := l) hr9) gX7_readsReport_X7_isAtEnd rfl (by decide +kernel) ⟨(Nat.le_of_ble_eq_true rfl), (Nat.le_of_ble_eq_true rfl)⟩ g8 rfl rfl hl.1 rfl (Nat.le_of_ble_eq_true rfl) dX7_readsReport_56 ⟨(show cells + 0 ≤ 0 from by omega), (show slots + 0 ≤ 0 from by omega)⟩) (fun H locs hw => ?_)
          refine lv_if_eq (tgt := 66) hx hb dX7_readsReport_59 (by decide) (fun c10 => ?_) (fun c10 => ?_)
          · replace h := itt h c10
            refine lv_iconst (v := (0 : Int32)) hx hb dX7_readsReport_66 (by decide) ?_
            replace h := Option.some.inj h
            subst h
            exact RET (isZ.nar (Or.inl rfl)) hw ⟨(show cells + 0 ≤ 0 from by omega), (show slots + 0 ≤ 0 from by omega)⟩ dX7_readsReport_67
          · replace h := itf h c10
            refine lv_iconst (v := (1 : Int32)) hx hb dX7_readsReport_62 (by decide) ?_
            refine lv_goto (tgt := 67) hx hb dX7_readsReport_63 (by decide) ?_
            replace h := Option.some.inj h
            subst h
            exact RET (isZ.nar (Or.inr rfl)) hw ⟨(show cells + 0 ≤ 0 from by omega), (show slots + 0 ≤ 0 from by omega)⟩ dX7_readsReport_67
      · replace h := itf h c6
        refine lv_iload_n hx hb dX7_readsReport_27 rfl (lv_at hl 1 rfl) ?_
        refine lv_if_eq (tgt := 51) hx hb dX7_readsReport_28 (by decide) (fun c11 => ?_) (fun c11 => ?_)
        · replace h := itt h c11
          refine lv_iload_n hx hb dX7_readsReport_51 rfl (lv_at hl 1 rfl) ?_
          refine lv_if_eq (tgt := 66) hx hb dX7_readsReport_52 (by decide) (fun c12 => ?_) (fun c12 => ?_)
          · replace h := itt h c12
            refine lv_iconst (v := (0 : Int32)) hx hb dX7_readsReport_66 (by decide) ?_
            replace h := Option.some.inj h
            subst h
            exact RET (isZ.nar (Or.inl rfl)) hw ⟨(show cells + 0 ≤ 0 from by omega), (show slots + 0 ≤ 0 from by omega)⟩ dX7_readsReport_67
          · replace h := itf h c12
            refine m_aload_n (x := x0) hx hb dX7_readsReport_55 rfl (lv_at hl 0 rfl) ?_
            obtain ⟨g13, h⟩ := itg h
            obtain ⟨r14, hr14, h⟩ := ob h
            refine m_contI hC hw (m_runV hC hw (x := x0) (ci := 10) (N := 5) (C := RX7) (T := TX7) (n := 0) (av := []) (rest := []) (c_X7_isAtEnd (G := G) (l := l) hr14) gX7_readsReport_X7_isAtEnd rfl (by decide +kernel) ⟨(Nat.le_of_ble_eq_true rfl), (Nat.le_of_ble_eq_true rfl)⟩ g13 rfl rfl hl.1 rfl (Nat.le_of_ble_eq_true rfl) dX7_readsReport_56 ⟨(show cells + 0 ≤ 0 from by omega), (show slots + 0 ≤ 0 from by omega)⟩) (fun H locs hw => ?_)
            refine lv_if_eq (tgt := 66) hx hb dX7_readsReport_59 (by decide) (fun c15 => ?_) (fun c15 => ?_)
            · replace h := itt h c15
              refine lv_iconst (v := (0 : Int32)) hx hb dX7_readsReport_66 (by decide) ?_
              replace h := Option.some.inj h
              subst h
              exact RET (isZ.nar (Or.inl rfl)) hw ⟨(show cells + 0 ≤ 0 from by omega), (show slots + 0 ≤ 0 from by omega)⟩ dX7_readsReport_67
            · replace h := itf h c15
              refine lv_iconst (v := (1 : Int32)) hx hb dX7_readsReport_62 (by decide) ?_
              refine lv_goto (tgt := 67) hx hb dX7_readsReport_63 (by decide) ?_
              replace h := Option.some.inj h
              subst h
              exact RET (isZ.nar (Or.inr rfl)) hw ⟨(show cells + 0 ≤ 0 from by omega), (show slots + 0 ≤ 0 from by omega)⟩ dX7_readsReport_67
        · replace h := itf h c11
          refine m_aload_n (x := x0) hx hb dX7_readsReport_31 rfl (lv_at hl 0 rfl) ?_
          refine lv_bipush (v := (44 : Int32)) hx hb dX7_readsReport_32 (by decide) ?_
          obtain ⟨g16, h⟩ := itg h
          obtain ⟨r17, hr17, h⟩ := ob h
          refine m_contI hC hw (m_runV hC hw (x := x0) (ci := 10) (N := 5) (C := RX7) (T := TX7) (n := 1) (av := [.int (44 : Int32)]) (rest := []) (c_X7_skips (G := G) (l := l) hr17) gX7_readsReport_X7_skips rfl (by decide +kernel) ⟨(Nat.le_of_ble_eq_true rfl), (Nat.le_of_ble_eq_true rfl)⟩ g16 rfl rfl hl.1 rfl (Nat.le_of_ble_eq_true rfl) dX7_readsReport_34 ⟨(show cells + 0 ≤ 0 from by omega), (show slots + 0 ≤ 0 from by omega)⟩) (fun H locs hw => ?_)
          refine lv_if_eq (tgt := 51) hx hb dX7_readsReport_37 (by decide) (fun c18 => ?_) (fun c18 => ?_)
          · replace h := itt h c18
            refine lv_iload_n hx hb dX7_readsReport_51 rfl (lv_at hl 1 rfl) ?_
            refine lv_if_eq (tgt := 66) hx hb dX7_readsReport_52 (by decide) (fun c19 => ?_) (fun c19 => ?_)
            · replace h := itt h c19
              refine lv_iconst (v := (0 : Int32)) hx hb dX7_readsReport_66 (by decide) ?_
              replace h := Option.some.inj h
              subst h
              exact RET (isZ.nar (Or.inl rfl)) hw ⟨(show cells + 0 ≤ 0 from by omega), (show slots + 0 ≤ 0 from by omega)⟩ dX7_readsReport_67
            · replace h := itf h c19
              refine m_aload_n (x := x0) hx hb dX7_readsReport_55 rfl (lv_at hl 0 rfl) ?_
              obtain ⟨g20, h⟩ := itg h
              obtain ⟨r21, hr21, h⟩ := ob h
              refine m_contI hC hw (m_runV hC hw (x := x0) (ci := 10) (N := 5) (C := RX7) (T := TX7) (n := 0) (av := []) (rest := []) (c_X7_isAtEnd (G := G) (l := l) hr21) gX7_readsReport_X7_isAtEnd rfl (by decide +kernel) ⟨(Nat.le_of_ble_eq_true rfl), (Nat.le_of_ble_eq_true rfl)⟩ g20 rfl rfl hl.1 rfl (Nat.le_of_ble_eq_true rfl) dX7_readsReport_56 ⟨(show cells + 0 ≤ 0 from by omega), (show slots + 0 ≤ 0 from by omega)⟩) (fun H locs hw => ?_)
              refine lv_if_eq (tgt := 66) hx hb dX7_readsReport_59 (by decide) (fun c22 => ?_) (fun c22 => ?_)
              · replace h := itt h c22
                refine lv_iconst (v := (0 : Int32)) hx hb dX7_readsReport_66 (by decide) ?_
                replace h := Option.some.inj h
                subst h
                exact RET (isZ.nar (Or.inl rfl)) hw ⟨(show cells + 0 ≤ 0 from by omega), (show slots + 0 ≤ 0 from by omega)⟩ dX7_readsReport_67
              · replace h := itf h c22
                refine lv_iconst (v := (1 : Int32)) hx hb dX7_readsReport_62 (by decide) ?_
                refine lv_goto (tgt := 67) hx hb dX7_readsReport_63 (by decide) ?_
                replace h := Option.some.inj h
                subst h
                exact RET (isZ.nar (Or.inr rfl)) hw ⟨(show cells + 0 ≤ 0 from by omega), (show slots + 0 ≤ 0 from by omega)⟩ dX7_readsReport_67
          · replace h := itf h c18
            refine m_aload_n (x := x0) hx hb dX7_readsReport_40 rfl (lv_at hl 0 rfl) ?_
            obtain ⟨g23, h⟩ := itg h
            obtain ⟨r24, hr24, h⟩ := ob h
            refine m_contI hC hw (m_runV hC hw (x := x0) (ci := 10) (N := 5) (C := RX7) (T := TX7) (n := 0) (av := []) (rest := []) (c_X7_takesHarm (G := G) (l := l) hr24) gX7_readsReport_X7_takesHarm rfl (by decide +kernel) ⟨(Nat.le_of_ble_eq_true rfl), (Nat.le_of_ble_eq_true rfl)⟩ g23 rfl rfl hl.1 rfl (Nat.le_of_ble_eq_true rfl) dX7_readsReport_41 ⟨(show cells + 0 ≤ 0 from by omega), (show slots + 0 ≤ 0 from by omega)⟩) (fun H locs hw => ?_)
            refine lv_istore_n (i := 1) (lv' := [(1, .int r24.1), (0, va_rf x0), (2, .int x2)]) hx hb dX7_readsReport_44 rfl hl (by decide) (by simp [va_rf_cat, cat_i, cat_l]) (fun ls hl => ?_)
            refine lv_iinc (v := (x2 + (1 : Int32))) (lv' := [(2, .int (x2 + (1 : Int32))), (1, .int r24.1), (0, va_rf x0)]) hx hb dX7_readsReport_45 hl (k := 2) rfl rfl (by decide) rfl (fun ls hl => ?_)
            refine lv_goto (tgt := 21) hx hb dX7_readsReport_48 (by decide) ?_
            exact ih _ _ _ _ _ _ _ _ h hcl hsl hw (lv_sub hl [2, 1, 0] rfl)
  unfold f_X7_readsReport at h
  refine m_aload_n (x := this) hx hb dX7_readsReport_0 rfl (lv_at hl 0 rfl) ?_
  refine lv_bipush (v := (101 : Int32)) hx hb dX7_readsReport_1 (by decide) ?_
  obtain ⟨g1, h⟩ := itg h
  obtain ⟨r2, hr2, h⟩ := ob h
  refine m_contI hC hw (m_runV hC hw (x := this) (ci := 10) (N := 5) (C := RX7) (T := TX7) (n := 1) (av := [.int (101 : Int32)]) (rest := []) (c_X7_skips (G := G) (l := l) hr2) gX7_readsReport_X7_skips rfl (by decide +kernel) ⟨(Nat.le_of_ble_eq_true rfl), (Nat.le_of_ble_eq_true rfl)⟩ g1 rfl rfl hl.1 rfl (Nat.le_of_ble_eq_true rfl) dX7_readsReport_3 ⟨(Nat.zero_le _), (Nat.zero_le _)⟩) (fun H locs hw => ?_)
  refine lv_if_eq (tgt := 14) hx hb dX7_readsReport_6 (by decide) (fun c3 => ?_) (fun c3 => ?_)
  · replace h := itt h c3
    refine m_aload_n (x := this) hx hb dX7_readsReport_14 rfl (lv_at hl 0 rfl) ?_
    obtain ⟨g4, h⟩ := itg h
    obtain ⟨r5, hr5, h⟩ := ob h
    refine m_contI hC hw (m_runV hC hw (x := this) (ci := 10) (N := 5) (C := RX7) (T := TX7) (n := 0) (av := []) (rest := []) (c_X7_takesHarm (G := G) (l := l) hr5) gX7_readsReport_X7_takesHarm rfl (by decide +kernel) ⟨(Nat.le_of_ble_eq_true rfl), (Nat.le_of_ble_eq_true rfl)⟩ g4 rfl rfl hl.1 rfl (Nat.le_of_ble_eq_true rfl) dX7_readsReport_15 ⟨(Nat.zero_le _), (Nat.zero_le _)⟩) (fun H locs hw => ?_)
    refine lv_istore_n (i := 1) (lv' := [(1, .int r5.1), (0, va_rf this)]) hx hb dX7_readsReport_18 rfl hl (by decide) (by simp [va_rf_cat, cat_i, cat_l]) (fun ls hl => ?_)
    refine lv_iconst (v := (0 : Int32)) hx hb dX7_readsReport_19 (by decide) ?_
    refine lv_istore_n (i := 2) (lv' := [(2, .int (0 : Int32)), (1, .int r5.1), (0, va_rf this)]) hx hb dX7_readsReport_20 rfl hl (by decide) rfl (fun ls hl => ?_)
    exact L21 this _ _ _ _ _ _ _ _ _ h (Nat.zero_le _) (Nat.zero_le _) hw (lv_sub hl [2, 1, 0] rfl)
  · replace h := itf h c3
    refine m_aload_n (x := this) hx hb dX7_readsReport_9 rfl (lv_at hl 0 rfl) ?_
    obtain ⟨g25, h⟩ := itg h
    obtain ⟨r26, hr26, h⟩ := ob h
    refine m_contI hC hw (m_runV hC hw (x := this) (ci := 10) (N := 5) (C := RX7) (T := TX7) (n := 0) (av := []) (rest := []) (c_X7_isAtEnd (G := G) (l := l) hr26) gX7_readsReport_X7_isAtEnd rfl (by decide +kernel) ⟨(Nat.le_of_ble_eq_true rfl), (Nat.le_of_ble_eq_true rfl)⟩ g25 rfl rfl hl.1 rfl (Nat.le_of_ble_eq_true rfl) dX7_readsReport_10 ⟨(Nat.zero_le _), (Nat.zero_le _)⟩) (fun H locs hw => ?_)
    obtain ⟨g27, h⟩ := itg h
    replace h := Option.some.inj h
    subst h
    exact RET (isZ.nar g27) hw ⟨(Nat.zero_le _), (Nat.zero_le _)⟩ dX7_readsReport_13

def f_X8_harmsIn (M : Mem) (a1 : Option Nat) : Option (Int32) := if isO M a1 10 = true then ((f_X7_size M a1).bind fun r2 => some (if (r2 / (3 : Int32)) < (0 : Int32) then (0 : Int32) else (r2 / (3 : Int32)))) else none
def rmX8_harmsIn : Room := { frames := 1, cells := 0, slots := 0, locals := 21 }
theorem k_X8_harmsIn_max48_0 : Cond.methodLink RX8 48 Lib.Math.max.name ∈ wsX8_harmsIn := List.mem_of_getElem? (i := 1) rfl
theorem k_X8_harmsIn_max48_1 : Cond.static Lib.Math.max.name ∈ wsX8_harmsIn := List.mem_of_getElem? (i := 2) rfl
theorem k_X8_harmsIn_max48_2 : Cond.initialized "java/lang/Math" ∈ wsX8_harmsIn := List.mem_of_getElem? (i := 3) rfl
theorem k_X8_harmsIn_max48_3 : Cond.code Lib.Math.max.name Lib.Math.max.code 2 (some .int) ∈ wsX8_harmsIn := List.mem_of_getElem? (i := 4) rfl
set_option maxHeartbeats 4000000 in
set_option maxRecDepth 100000 in
theorem c_X8_harmsIn {G : wG} {l : Launch} {M : Mem} {sz : Nat} {a1 : Option Nat} {r : Int32} (h : f_X8_harmsIn M a1 = some r) : CtrI G l yX8_harmsIn wsX8_harmsIn rmX8_harmsIn [va_rf a1] M sz r M sz := by
  refine m_startI (own := RX8) (cc := cX8_harmsIn) (maxL := 1) (lv0 := [(0, va_rf a1)]) (by decide) rfl rfl (by simp [lg_sl, va_rf_cat, cat_i, cat_r]) (by simp [lv_args, va_rf_cat, cat_i, cat_r]) ?_
  intro p e s m args below meth c Q hC hname RET hsz hw ls hl
  have hx := hC.1
  have hb := hC.2.1
  unfold f_X8_harmsIn at h
  refine m_aload_n (x := a1) hx hb dX8_harmsIn_0 rfl (lv_at hl 0 rfl) ?_
  obtain ⟨g1, h⟩ := itg h
  obtain ⟨r2, hr2, h⟩ := ob h
  refine m_contI hC hw (m_runV hC hw (x := a1) (ci := 10) (N := 5) (C := RX7) (T := TX7) (n := 0) (av := []) (rest := []) (c_X7_size (G := G) (l := l) hr2) gX8_harmsIn_X7_size rfl (by decide +kernel) ⟨(Nat.le_of_ble_eq_true rfl), (Nat.le_of_ble_eq_true rfl)⟩ g1 rfl rfl hl.1 rfl (Nat.le_of_ble_eq_true rfl) dX8_harmsIn_1 ⟨(Nat.zero_le _), (Nat.zero_le _)⟩) (fun H locs hw => ?_)
  refine lv_iconst (v := (3 : Int32)) hx hb dX8_harmsIn_4 (by decide) ?_
  refine lv_idiv hx hb dX8_harmsIn_5 (by decide) ?_
  refine lv_iconst (v := (0 : Int32)) hx hb dX8_harmsIn_6 (by decide) ?_
  refine va_mmax hx hb (hC.2.2.1.trans hl.1.symm) hC.2.2.2.1 (hC.tab _ k_X8_harmsIn_max48_0) (hC.tab _ k_X8_harmsIn_max48_1) (hC.tab _ k_X8_harmsIn_max48_2) (hC.tab _ k_X8_harmsIn_max48_3) (Nat.le_of_ble_eq_true rfl) (cat_13 (Nat.le_of_ble_eq_true rfl) (Nat.le_of_ble_eq_true rfl)) (Nat.zero_le _) (Nat.zero_le _) dX8_harmsIn_7 ?_
  replace h := Option.some.inj h
  subst h
  exact RET hw ⟨(Nat.zero_le _), (Nat.zero_le _)⟩ dX8_harmsIn_10

def f_X8_spotIn (M : Mem) (a1 : Option Nat) (a2 : Int32) : Option (Int32) := if isO M a1 10 = true then ((f_X7_told M a1 ((3 : Int32) * a2)).bind fun r2 => if isO M a1 10 = true then ((f_X7_told M a1 (((3 : Int32) * a2) + (1 : Int32))).bind fun r4 => some ((r2 * (100 : Int32)) + r4)) else none) else none
def rmX8_spotIn : Room := { frames := 1, cells := 0, slots := 0, locals := 21 }
set_option maxHeartbeats 4000000 in
set_option maxRecDepth 100000 in
theorem c_X8_spotIn {G : wG} {l : Launch} {M : Mem} {sz : Nat} {a1 : Option Nat} {a2 : Int32} {r : Int32} (h : f_X8_spotIn M a1 a2 = some r) : CtrI G l yX8_spotIn wsX8_spotIn rmX8_spotIn [va_rf a1, .int a2] M sz r M sz := by
  refine m_startI (own := RX8) (cc := cX8_spotIn) (maxL := 2) (lv0 := [(0, va_rf a1), (1, .int a2)]) (by decide) rfl rfl (by simp [lg_sl, va_rf_cat, cat_i, cat_r]) (by simp [lv_args, va_rf_cat, cat_i, cat_r]) ?_
  intro p e s m args below meth c Q hC hname RET hsz hw ls hl
  have hx := hC.1
  have hb := hC.2.1
  unfold f_X8_spotIn at h
  refine m_aload_n (x := a1) hx hb dX8_spotIn_0 rfl (lv_at hl 0 rfl) ?_
  refine lv_iconst (v := (3 : Int32)) hx hb dX8_spotIn_1 (by decide) ?_
  refine lv_iload_n hx hb dX8_spotIn_2 rfl (lv_at hl 1 rfl) ?_
  refine lv_imul hx hb dX8_spotIn_3 ?_
  obtain ⟨g1, h⟩ := itg h
  obtain ⟨r2, hr2, h⟩ := ob h
  refine m_contI hC hw (m_runV hC hw (x := a1) (ci := 10) (N := 5) (C := RX7) (T := TX7) (n := 1) (av := [.int ((3 : Int32) * a2)]) (rest := []) (c_X7_told (G := G) (l := l) hr2) gX8_spotIn_X7_told rfl (by decide +kernel) ⟨(Nat.le_of_ble_eq_true rfl), (Nat.le_of_ble_eq_true rfl)⟩ g1 rfl rfl hl.1 rfl (Nat.le_of_ble_eq_true rfl) dX8_spotIn_4 ⟨(Nat.zero_le _), (Nat.zero_le _)⟩) (fun H locs hw => ?_)
  refine lv_bipush (v := (100 : Int32)) hx hb dX8_spotIn_7 (by decide) ?_
  refine lv_imul hx hb dX8_spotIn_9 ?_
  refine m_aload_n (x := a1) hx hb dX8_spotIn_10 rfl (lv_at hl 0 rfl) ?_
  refine lv_iconst (v := (3 : Int32)) hx hb dX8_spotIn_11 (by decide) ?_
  refine lv_iload_n hx hb dX8_spotIn_12 rfl (lv_at hl 1 rfl) ?_
  refine lv_imul hx hb dX8_spotIn_13 ?_
  refine lv_iconst (v := (1 : Int32)) hx hb dX8_spotIn_14 (by decide) ?_
  refine lv_iadd hx hb dX8_spotIn_15 ?_
  obtain ⟨g3, h⟩ := itg h
  obtain ⟨r4, hr4, h⟩ := ob h
  refine m_contI hC hw (m_runV hC hw (x := a1) (ci := 10) (N := 5) (C := RX7) (T := TX7) (n := 1) (av := [.int (((3 : Int32) * a2) + (1 : Int32))]) (rest := [.int (r2 * (100 : Int32))]) (c_X7_told (G := G) (l := l) hr4) gX8_spotIn_X7_told rfl (by decide +kernel) ⟨(Nat.le_of_ble_eq_true rfl), (Nat.le_of_ble_eq_true rfl)⟩ g3 rfl rfl hl.1 rfl (Nat.le_of_ble_eq_true rfl) dX8_spotIn_16 ⟨(Nat.zero_le _), (Nat.zero_le _)⟩) (fun H locs hw => ?_)
  refine lv_iadd hx hb dX8_spotIn_19 ?_
  replace h := Option.some.inj h
  subst h
  exact RET hw ⟨(Nat.zero_le _), (Nat.zero_le _)⟩ dX8_spotIn_20

def f_X8_faultIn_L7 (n : Nat) (M : Mem) (x0 : Option Nat) (x1 : Int32) : Nat → Int32 → Option ((Int32) ⊕ (Unit))
  | 0, _ => none
  | k + 1, x2 => if x1 ≤ x2 then (some (Sum.inr ())) else (if isO M x0 10 = true then ((f_X7_told M x0 (((3 : Int32) * x2) + (2 : Int32))).bind fun r4 => if isO M x0 10 = true then ((f_X7_told M x0 (((3 : Int32) * x2) + (1 : Int32))).bind fun r6 => if (100 : Int32) ≤ r6 then (some (Sum.inl (9 : Int32))) else (if r4 < (1 : Int32) then (some (Sum.inl (9 : Int32))) else (if r4 ≤ (99 : Int32) then (f_X8_faultIn_L7 n M x0 x1 k (x2 + (1 : Int32))) else (some (Sum.inl (9 : Int32)))))) else none) else none)
def f_X8_faultIn_L65 (n : Nat) (M : Mem) (x0 : Option Nat) (x1 : Int32) (x2 : Int32) : Nat → Int32 → Option ((Int32) ⊕ (Unit))
  | 0, _ => none
  | k + 1, x3 => if x2 ≤ x3 then (some (Sum.inr ())) else ((f_X8_spotIn M x0 x2).bind fun r13 => (f_X8_spotIn M x0 x3).bind fun r14 => if r13 = r14 then (some (Sum.inl (10 : Int32))) else (f_X8_faultIn_L65 n M x0 x1 x2 k (x3 + (1 : Int32))))
def f_X8_faultIn_L58 (n : Nat) (M : Mem) (x0 : Option Nat) (x1 : Int32) : Nat → Int32 → Option (Int32)
  | 0, _ => none
  | k + 1, x2 => if x1 ≤ x2 then (some ((0 : Int32))) else ((f_X8_faultIn_L65 n M x0 x1 x2 n (0 : Int32)).bind fun o16s => Sum.elim (fun o16r => some o16r) (fun o16 => f_X8_faultIn_L58 n M x0 x1 k (x2 + (1 : Int32))) o16s)
def f_X8_faultIn (n : Nat) (M : Mem) (a1 : Option Nat) : Option (Int32) := (f_X8_harmsIn M a1).bind fun r1 => (f_X8_faultIn_L7 n M a1 r1 n (0 : Int32)).bind fun o10s => Sum.elim (fun o10r => some o10r) (fun o10 => f_X8_faultIn_L58 n M a1 r1 n (0 : Int32)) o10s
def rmX8_faultIn : Room := { frames := 2, cells := 0, slots := 0, locals := 42 }
set_option maxHeartbeats 4000000 in
set_option maxRecDepth 100000 in
theorem c_X8_faultIn {G : wG} {l : Launch} {n : Nat} {M : Mem} {sz : Nat} {a1 : Option Nat} {r : Int32} (h : f_X8_faultIn n M a1 = some r) : CtrI G l yX8_faultIn wsX8_faultIn rmX8_faultIn [va_rf a1] M sz r M sz := by
  refine m_startI (own := RX8) (cc := cX8_faultIn) (maxL := 4) (lv0 := [(0, va_rf a1)]) (by decide) rfl rfl (by simp [lg_sl, va_rf_cat, cat_i, cat_r]) (by simp [lv_args, va_rf_cat, cat_i, cat_r]) ?_
  intro p e s m args below meth c Q hC hname RET hsz hw ls hl
  have hx := hC.1
  have hb := hC.2.1
  have L7 : ∀ (x0 : Option Nat) (x1 : Int32) (k : Nat) (x2 : Int32) (cells slots : Nat) (H : Heap) (locs : List Loc) (ls : Array Slot) (o : (Int32) ⊕ (Unit)), f_X8_faultIn_L7 n M x0 x1 k x2 = some o → cells ≤ 0 → slots ≤ 0 → wD G s M M sz H locs → lv_has ls 4 [(0, va_rf x0), (1, .int x1), (2, .int x2)] → (∀ (H : Heap) (locs : List Loc) (ls : Array Slot) o1, o = Sum.inr o1 → wD G s M M sz H locs → lv_has ls 4 [(0, va_rf x0), (1, .int x1)] → W p l e rmX8_faultIn s m args below meth c H locs cells slots Q (F0 m 56 ls [])) → (∀ r1, o = Sum.inl r1 → r1 = r) → W p l e rmX8_faultIn s m args below meth c H locs cells slots Q (F0 m 7 ls []) := by
    intro x0 x1 k
    induction k with
    | zero =>
      intro x2 cells slots H locs ls o h
      exact absurd (show (none : Option ((Int32) ⊕ (Unit))) = some o from h) (fun z => by cases z)
    | succ k ih =>
      intro x2 cells slots H locs ls o h hcl hsl hw hl hk hret
      rw [f_X8_faultIn_L7] at h
      refine lv_iload_n hx hb dX8_faultIn_7 rfl (lv_at hl 2 rfl) ?_
      refine lv_iload_n hx hb dX8_faultIn_8 rfl (lv_at hl 1 rfl) ?_
      refine lv_icmp_ge (tgt := 56) hx hb dX8_faultIn_9 (by decide) (fun c2 => ?_) (fun c2 => ?_)
      · replace h := itt h c2
        replace h := Option.some.inj h
        subst h
        exact hk _ _ _ _ rfl hw (lv_sub hl [0, 1] rfl)
      · replace h := itf h c2
        refine m_aload_n (x := x0) hx hb dX8_faultIn_12 rfl (lv_at hl 0 rfl) ?_
        refine lv_iconst (v := (3 : Int32)) hx hb dX8_faultIn_13 (by decide) ?_
        refine lv_iload_n hx hb dX8_faultIn_14 rfl (lv_at hl 2 rfl) ?_
        refine lv_imul hx hb dX8_faultIn_15 ?_
        refine lv_iconst (v := (2 : Int32)) hx hb dX8_faultIn_16 (by decide) ?_
        refine lv_iadd hx hb dX8_faultIn_17 ?_
        obtain ⟨g3, h⟩ := itg h
        obtain ⟨r4, hr4, h⟩ := ob h
        refine m_contI hC hw (m_runV hC hw (x := x0) (ci := 10) (N := 5) (C := RX7) (T := TX7) (n := 1) (av := [.int (((3 : Int32) * x2) + (2 : Int32))]) (rest := []) (c_X7_told (G := G) (l := l) hr4) gX8_faultIn_X7_told rfl (by decide +kernel) ⟨(Nat.le_of_ble_eq_true rfl), (Nat.le_of_ble_eq_true rfl)⟩ g3 rfl rfl hl.1 rfl (Nat.le_of_ble_eq_true rfl) dX8_faultIn_18 ⟨(show cells + 0 ≤ 0 from by omega), (show slots + 0 ≤ 0 from by omega)⟩) (fun H locs hw => ?_)
        refine lv_istore_n (i := 3) (lv' := [(3, .int r4), (0, va_rf x0), (1, .int x1), (2, .int x2)]) hx hb dX8_faultIn_21 rfl hl (by decide) rfl (fun ls hl => ?_)
        refine m_aload_n (x := x0) hx hb dX8_faultIn_22 rfl (lv_at hl 1 rfl) ?_
        refine lv_iconst (v := (3 : Int32)) hx hb dX8_faultIn_23 (by decide) ?_
        refine lv_iload_n hx hb dX8_faultIn_24 rfl (lv_at hl 3 rfl) ?_
        refine lv_imul hx hb dX8_faultIn_25 ?_
        refine lv_iconst (v := (1 : Int32)) hx hb dX8_faultIn_26 (by decide) ?_
        refine lv_iadd hx hb dX8_faultIn_27 ?_
        obtain ⟨g5, h⟩ := itg h
        obtain ⟨r6, hr6, h⟩ := ob h
        refine m_contI hC hw (m_runV hC hw (x := x0) (ci := 10) (N := 5) (C := RX7) (T := TX7) (n := 1) (av := [.int (((3 : Int32) * x2) + (1 : Int32))]) (rest := []) (c_X7_told (G := G) (l := l) hr6) gX8_faultIn_X7_told rfl (by decide +kernel) ⟨(Nat.le_of_ble_eq_true rfl), (Nat.le_of_ble_eq_true rfl)⟩ g5 rfl rfl hl.1 rfl (Nat.le_of_ble_eq_true rfl) dX8_faultIn_28 ⟨(show cells + 0 ≤ 0 from by omega), (show slots + 0 ≤ 0 from by omega)⟩) (fun H locs hw => ?_)
        refine lv_bipush (v := (100 : Int32)) hx hb dX8_faultIn_31 (by decide) ?_
        refine lv_icmp_ge (tgt := 47) hx hb dX8_faultIn_33 (by decide) (fun c7 => ?_) (fun c7 => ?_)
        · replace h := itt h c7
          refine lv_bipush (v := (9 : Int32)) hx hb dX8_faultIn_47 (by decide) ?_
          replace h := Option.some.inj h
          subst h
          have e1 := hret _ rfl
          subst e1
          exact RET hw ⟨(show cells + 0 ≤ 0 from by omega), (show slots + 0 ≤ 0 from by omega)⟩ dX8_faultIn_49
        · replace h := itf h c7
          refine lv_iload_n hx hb dX8_faultIn_36 rfl (lv_at hl 0 rfl) ?_
          refine lv_iconst (v := (1 : Int32)) hx hb dX8_faultIn_37 (by decide) ?_
          refine lv_icmp_lt (tgt := 47) hx hb dX8_faultIn_38 (by decide) (fun c8 => ?_) (fun c8 => ?_)
          · replace h := itt h c8
            refine lv_bipush (v := (9 : Int32)) hx hb dX8_faultIn_47 (by decide) ?_
            replace h := Option.some.inj h
            subst h
            have e1 := hret _ rfl
            subst e1
            exact RET hw ⟨(show cells + 0 ≤ 0 from by omega), (show slots + 0 ≤ 0 from by omega)⟩ dX8_faultIn_49
          · replace h := itf h c8
            refine lv_iload_n hx hb dX8_faultIn_41 rfl (lv_at hl 0 rfl) ?_
            refine lv_bipush (v := (99 : Int32)) hx hb dX8_faultIn_42 (by decide) ?_
            refine lv_icmp_le (tgt := 50) hx hb dX8_faultIn_44 (by decide) (fun c9 => ?_) (fun c9 => ?_)
            · replace h := itt h c9
              refine lv_iinc (v := (x2 + (1 : Int32))) (lv' := [(2, .int (x2 + (1 : Int32))), (3, .int r4), (0, va_rf x0), (1, .int x1)]) hx hb dX8_faultIn_50 hl (k := 3) rfl rfl (by decide) rfl (fun ls hl => ?_)
              refine lv_goto (tgt := 7) hx hb dX8_faultIn_53 (by decide) ?_
              exact ih _ _ _ _ _ _ _ h hcl hsl hw (lv_sub hl [2, 3, 0] rfl) hk hret
            · replace h := itf h c9
              refine lv_bipush (v := (9 : Int32)) hx hb dX8_faultIn_47 (by decide) ?_
              replace h := Option.some.inj h
              subst h
              have e1 := hret _ rfl
              subst e1
              exact RET hw ⟨(show cells + 0 ≤ 0 from by omega), (show slots + 0 ≤ 0 from by omega)⟩ dX8_faultIn_49
  have L65 : ∀ (x0 : Option Nat) (x1 : Int32) (x2 : Int32) (k : Nat) (x3 : Int32) (cells slots : Nat) (H : Heap) (locs : List Loc) (ls : Array Slot) (o : (Int32) ⊕ (Unit)), f_X8_faultIn_L65 n M x0 x1 x2 k x3 = some o → cells ≤ 0 → slots ≤ 0 → wD G s M M sz H locs → lv_has ls 4 [(0, va_rf x0), (1, .int x1), (2, .int x2), (3, .int x3)] → (∀ (H : Heap) (locs : List Loc) (ls : Array Slot) o1, o = Sum.inr o1 → wD G s M M sz H locs → lv_has ls 4 [(0, va_rf x0), (1, .int x1), (2, .int x2)] → W p l e rmX8_faultIn s m args below meth c H locs cells slots Q (F0 m 92 ls [])) → (∀ r1, o = Sum.inl r1 → r1 = r) → W p l e rmX8_faultIn s m args below meth c H locs cells slots Q (F0 m 65 ls []) := by
    intro x0 x1 x2 k
    induction k with
    | zero =>
      intro x3 cells slots H locs ls o h
      exact absurd (show (none : Option ((Int32) ⊕ (Unit))) = some o from h) (fun z => by cases z)
    | succ k ih =>
      intro x3 cells slots H locs ls o h hcl hsl hw hl hk hret
      rw [f_X8_faultIn_L65] at h
      refine lv_iload_n hx hb dX8_faultIn_65 rfl (lv_at hl 3 rfl) ?_
      refine lv_iload_n hx hb dX8_faultIn_66 rfl (lv_at hl 2 rfl) ?_
      refine lv_icmp_ge (tgt := 92) hx hb dX8_faultIn_67 (by decide) (fun c12 => ?_) (fun c12 => ?_)
      · replace h := itt h c12
        replace h := Option.some.inj h
        subst h
        exact hk _ _ _ _ rfl hw (lv_sub hl [0, 1, 2] rfl)
      · replace h := itf h c12
        refine m_aload_n (x := x0) hx hb dX8_faultIn_70 rfl (lv_at hl 0 rfl) ?_
        refine lv_iload_n hx hb dX8_faultIn_71 rfl (lv_at hl 2 rfl) ?_
        obtain ⟨r13, hr13, h⟩ := ob h
        refine m_contI hC hw (m_runS hC hw (n := 2) (av := [va_rf x0, .int x2]) (rest := []) (c_X8_spotIn (G := G) (l := l) hr13) gX8_faultIn_X8_spotIn rfl (by decide +kernel) ⟨(Nat.le_of_ble_eq_true rfl), (Nat.le_of_ble_eq_true rfl)⟩ rfl hl.1 rfl (Nat.le_of_ble_eq_true rfl) dX8_faultIn_72 ⟨(show cells + 0 ≤ 0 from by omega), (show slots + 0 ≤ 0 from by omega)⟩) (fun H locs hw => ?_)
        refine m_aload_n (x := x0) hx hb dX8_faultIn_75 rfl (lv_at hl 0 rfl) ?_
        refine lv_iload_n hx hb dX8_faultIn_76 rfl (lv_at hl 3 rfl) ?_
        obtain ⟨r14, hr14, h⟩ := ob h
        refine m_contI hC hw (m_runS hC hw (n := 2) (av := [va_rf x0, .int x3]) (rest := [.int r13]) (c_X8_spotIn (G := G) (l := l) hr14) gX8_faultIn_X8_spotIn rfl (by decide +kernel) ⟨(Nat.le_of_ble_eq_true rfl), (Nat.le_of_ble_eq_true rfl)⟩ rfl hl.1 rfl (Nat.le_of_ble_eq_true rfl) dX8_faultIn_77 ⟨(show cells + 0 ≤ 0 from by omega), (show slots + 0 ≤ 0 from by omega)⟩) (fun H locs hw => ?_)
        refine lv_icmp_ne (tgt := 86) hx hb dX8_faultIn_80 (by decide) (fun c15 => ?_) (fun c15 => ?_)
        · replace h := itf h c15
          refine lv_iinc (v := (x3 + (1 : Int32))) (lv' := [(3, .int (x3 + (1 : Int32))), (0, va_rf x0), (1, .int x1), (2, .int x2)]) hx hb dX8_faultIn_86 hl (k := 3) rfl rfl (by decide) rfl (fun ls hl => ?_)
          refine lv_goto (tgt := 65) hx hb dX8_faultIn_89 (by decide) ?_
          exact ih _ _ _ _ _ _ _ h hcl hsl hw (lv_sub hl [1, 2, 3, 0] rfl) hk hret
        · replace h := itt h c15
          refine lv_bipush (v := (10 : Int32)) hx hb dX8_faultIn_83 (by decide) ?_
          replace h := Option.some.inj h
          subst h
          have e1 := hret _ rfl
          subst e1
          exact RET hw ⟨(show cells + 0 ≤ 0 from by omega), (show slots + 0 ≤ 0 from by omega)⟩ dX8_faultIn_85
  have L58 : ∀ (x0 : Option Nat) (x1 : Int32) (k : Nat) (x2 : Int32) (cells slots : Nat) (H : Heap) (locs : List Loc) (ls : Array Slot), f_X8_faultIn_L58 n M x0 x1 k x2 = some r → cells ≤ 0 → slots ≤ 0 → wD G s M M sz H locs → lv_has ls 4 [(0, va_rf x0), (1, .int x1), (2, .int x2)] → W p l e rmX8_faultIn s m args below meth c H locs cells slots Q (F0 m 58 ls []) := by
    intro x0 x1 k
    induction k with
    | zero =>
      intro x2 cells slots H locs ls h
      exact absurd (show (none : Option (Int32)) = some r from h) (fun z => by cases z)
    | succ k ih =>
      intro x2 cells slots H locs ls h hcl hsl hw hl
      rw [f_X8_faultIn_L58] at h
      refine lv_iload_n hx hb dX8_faultIn_58 rfl (lv_at hl 2 rfl) ?_
      refine lv_iload_n hx hb dX8_faultIn_59 rfl (lv_at hl 1 rfl) ?_
      refine lv_icmp_ge (tgt := 98) hx hb dX8_faultIn_60 (by decide) (fun c11 => ?_) (fun c11 => ?_)
      · replace h := itt h c11
        refine lv_iconst (v := (0 : Int32)) hx hb dX8_faultIn_98 (by decide) ?_
        replace h := Option.some.inj h
        subst h
        exact RET hw ⟨(show cells + 0 ≤ 0 from by omega), (show slots + 0 ≤ 0 from by omega)⟩ dX8_faultIn_99
      · replace h := itf h c11
        refine lv_iconst (v := (0 : Int32)) hx hb dX8_faultIn_63 (by decide) ?_
        refine lv_istore_n (i := 3) (lv' := [(3, .int (0 : Int32)), (0, va_rf x0), (1, .int x1), (2, .int x2)]) hx hb dX8_faultIn_64 rfl hl (by decide) rfl (fun ls hl => ?_)
        obtain ⟨o16s, ho16, h⟩ := ob h
        refine L65 x0 x1 x2 _ _ _ _ _ _ _ _ ho16 (show cells + 0 ≤ 0 from by omega) (show slots + 0 ≤ 0 from by omega) hw (lv_sub hl [1, 2, 3, 0] rfl) (fun H locs ls o16 eo16 hw hl => ?_) (fun o16r eo16 => ?_)
        · subst eo16
          replace h := sumR h
          refine lv_iinc (v := (x2 + (1 : Int32))) (lv' := [(2, .int (x2 + (1 : Int32))), (0, va_rf x0), (1, .int x1)]) hx hb dX8_faultIn_92 hl (k := 2) rfl rfl (by decide) rfl (fun ls hl => ?_)
          refine lv_goto (tgt := 58) hx hb dX8_faultIn_95 (by decide) ?_
          exact ih _ _ _ _ _ _ h hcl hsl hw (lv_sub hl [1, 2, 0] rfl)
        · subst eo16
          replace h := sumL h
          exact Option.some.inj h
  unfold f_X8_faultIn at h
  refine m_aload_n (x := a1) hx hb dX8_faultIn_0 rfl (lv_at hl 0 rfl) ?_
  obtain ⟨r1, hr1, h⟩ := ob h
  refine m_contI hC hw (m_runS hC hw (n := 1) (av := [va_rf a1]) (rest := []) (c_X8_harmsIn (G := G) (l := l) hr1) gX8_faultIn_X8_harmsIn rfl (by decide +kernel) ⟨(Nat.le_of_ble_eq_true rfl), (Nat.le_of_ble_eq_true rfl)⟩ rfl hl.1 rfl (Nat.le_of_ble_eq_true rfl) dX8_faultIn_1 ⟨(Nat.zero_le _), (Nat.zero_le _)⟩) (fun H locs hw => ?_)
  refine lv_istore_n (i := 1) (lv' := [(1, .int r1), (0, va_rf a1)]) hx hb dX8_faultIn_4 rfl hl (by decide) (by simp [va_rf_cat, cat_i, cat_l]) (fun ls hl => ?_)
  refine lv_iconst (v := (0 : Int32)) hx hb dX8_faultIn_5 (by decide) ?_
  refine lv_istore_n (i := 2) (lv' := [(2, .int (0 : Int32)), (1, .int r1), (0, va_rf a1)]) hx hb dX8_faultIn_6 rfl hl (by decide) rfl (fun ls hl => ?_)
  obtain ⟨o10s, ho10, h⟩ := ob h
  refine L7 a1 r1 _ _ _ _ _ _ _ _ ho10 (Nat.zero_le _) (Nat.zero_le _) hw (lv_sub hl [2, 1, 0] rfl) (fun H locs ls o10 eo10 hw hl => ?_) (fun o10r eo10 => ?_)
  · subst eo10
    replace h := sumR h
    refine lv_iconst (v := (0 : Int32)) hx hb dX8_faultIn_56 (by decide) ?_
    refine lv_istore_n (i := 2) (lv' := [(2, .int (0 : Int32)), (0, va_rf a1), (1, .int r1)]) hx hb dX8_faultIn_57 rfl hl (by decide) rfl (fun ls hl => ?_)
    exact L58 a1 r1 _ _ _ _ _ _ _ h (Nat.zero_le _) (Nat.zero_le _) hw (lv_sub hl [1, 2, 0] rfl)
  · subst eo10
    replace h := sumL h
    exact Option.some.inj h

def f_X10_latestReport_L10 (n : Nat) (M : Mem) (x0 : Option Nat) (x1 : Int32) : Nat → Int32 → Option (Int32)
  | 0, _ => none
  | k + 1, x2 => if x2 < 0 then (some (x2)) else ((gR M x0 13 8).bind fun v5 => if isO M v5 2 = true then ((f_Jx4a65c_get_915e3 M v5 x2).bind fun r7 => if r7 = none ∨ isO M r7 11 = true then ((gI M r7 11 0).bind fun v9 => if v9 ≤ x1 then (some (x2)) else (f_X10_latestReport_L10 n M x0 x1 k (x2 + (-1 : Int32)))) else none) else none)
def f_X10_latestReport (n : Nat) (M : Mem) (this : Option Nat) (a1 : Int32) : Option (Int32) := (gR M this 13 8).bind fun v1 => if isO M v1 2 = true then ((f_Jx4a65c_size_8abf5 M v1).bind fun r3 => f_X10_latestReport_L10 n M this a1 n (r3 - (1 : Int32))) else none
def rmX10_latestReport : Room := { frames := 3, cells := 0, slots := 0, locals := 64 }
theorem k_X10_latestReport_30 : Cond.fieldLink RX10 30 "LoanBook$Thing" "reports" "Ljava/util/ArrayList;" ∈ wsX10_latestReport := List.mem_of_getElem? (i := 1) rfl
theorem ki_X10_latestReport_X10 : ∀ w ∈ u_ws RX10 TX10 9, w ∈ wsX10_latestReport := sub_r [27, 28, 29, 30, 31, 32, 33, 34, 35] (by decide +kernel)
theorem k_X10_latestReport_cc104 : Cond.classLink RX10 104 RX8 ∈ wsX10_latestReport := List.mem_of_getElem? (i := 2) rfl
theorem k_X10_latestReport_106 : Cond.fieldLink RX10 106 "LoanBook$Report" "day" "I" ∈ wsX10_latestReport := List.mem_of_getElem? (i := 3) rfl
theorem ki_X10_latestReport_X8 : ∀ w ∈ u_ws RX8 TX8 4, w ∈ wsX10_latestReport := sub_r [36, 37, 38, 39] (by decide +kernel)
set_option maxHeartbeats 4000000 in
set_option maxRecDepth 100000 in
theorem c_X10_latestReport {G : wG} {l : Launch} {n : Nat} {M : Mem} {sz : Nat} {this : Option Nat} {a1 : Int32} {r : Int32} (h : f_X10_latestReport n M this a1 = some r) : CtrI G l yX10_latestReport wsX10_latestReport rmX10_latestReport [va_rf this, .int a1] M sz r M sz := by
  refine m_startI (own := RX10) (cc := cX10_latestReport) (maxL := 3) (lv0 := [(0, va_rf this), (1, .int a1)]) (by decide) rfl rfl (by simp [lg_sl, va_rf_cat, cat_i, cat_r]) (by simp [lv_args, va_rf_cat, cat_i, cat_r]) ?_
  intro p e s m args below meth c Q hC hname RET hsz hw ls hl
  have hx := hC.1
  have hb := hC.2.1
  have L10 : ∀ (x0 : Option Nat) (x1 : Int32) (k : Nat) (x2 : Int32) (cells slots : Nat) (H : Heap) (locs : List Loc) (ls : Array Slot), f_X10_latestReport_L10 n M x0 x1 k x2 = some r → cells ≤ 0 → slots ≤ 0 → wD G s M M sz H locs → lv_has ls 3 [(0, va_rf x0), (1, .int x1), (2, .int x2)] → W p l e rmX10_latestReport s m args below meth c H locs cells slots Q (F0 m 10 ls []) := by
    intro x0 x1 k
    induction k with
    | zero =>
      intro x2 cells slots H locs ls h
      exact absurd (show (none : Option (Int32)) = some r from h) (fun z => by cases z)
    | succ k ih =>
      intro x2 cells slots H locs ls h hcl hsl hw hl
      rw [f_X10_latestReport_L10] at h
      refine lv_iload_n hx hb dX10_latestReport_10 rfl (lv_at hl 2 rfl) ?_
      refine lv_if_lt (tgt := 38) hx hb dX10_latestReport_11 (by decide) (fun c4 => ?_) (fun c4 => ?_)
      · replace h := itt h c4
        refine lv_iload_n hx hb dX10_latestReport_38 rfl (lv_at hl 2 rfl) ?_
        replace h := Option.some.inj h
        subst h
        exact RET hw ⟨(show cells + 0 ≤ 0 from by omega), (show slots + 0 ≤ 0 from by omega)⟩ dX10_latestReport_39
      · replace h := itf h c4
        refine m_aload_n (x := x0) hx hb dX10_latestReport_14 rfl (lv_at hl 0 rfl) ?_
        obtain ⟨v5, hv5, h⟩ := ob h
        refine m_getR hC hw (C := RX10) (T := TX10) (N := 9) hv5 ki_X10_latestReport_X10 rfl (by decide) k_X10_latestReport_30 (fun _ z => z) dX10_latestReport_15 ?_
        refine lv_iload_n hx hb dX10_latestReport_18 rfl (lv_at hl 2 rfl) ?_
        obtain ⟨g6, h⟩ := itg h
        obtain ⟨r7, hr7, h⟩ := ob h
        refine m_contQ hC hw (m_runV hC hw (x := v5) (ci := 2) (N := 3) (C := RJx4a65c) (T := TJx4a65c) (n := 1) (av := [.int x2]) (rest := []) (c_Jx4a65c_get_915e3 (G := G) (l := l) hr7) gX10_latestReport_Jx4a65c_get_915e3 rfl (by decide +kernel) ⟨(Nat.le_of_ble_eq_true rfl), (Nat.le_of_ble_eq_true rfl)⟩ g6 rfl rfl hl.1 rfl (Nat.le_of_ble_eq_true rfl) dX10_latestReport_19 ⟨(show cells + 0 ≤ 0 from by omega), (show slots + 0 ≤ 0 from by omega)⟩) (fun H locs hw => ?_)
        obtain ⟨g8, h⟩ := itg h
        refine m_cast (x := r7) hC hw (C := RX8) (T := TX8) (N := 4) g8 k_X10_latestReport_cc104 rfl dX10_latestReport_22 ?_
        obtain ⟨v9, hv9, h⟩ := ob h
        refine m_getI hC hw (C := RX8) (T := TX8) (N := 4) hv9 ki_X10_latestReport_X8 rfl (by decide) k_X10_latestReport_106 (fun _ z => z) dX10_latestReport_25 ?_
        refine lv_iload_n hx hb dX10_latestReport_28 rfl (lv_at hl 1 rfl) ?_
        refine lv_icmp_le (tgt := 38) hx hb dX10_latestReport_29 (by decide) (fun c10 => ?_) (fun c10 => ?_)
        · replace h := itt h c10
          refine lv_iload_n hx hb dX10_latestReport_38 rfl (lv_at hl 2 rfl) ?_
          replace h := Option.some.inj h
          subst h
          exact RET hw ⟨(show cells + 0 ≤ 0 from by omega), (show slots + 0 ≤ 0 from by omega)⟩ dX10_latestReport_39
        · replace h := itf h c10
          refine lv_iinc (v := (x2 + (-1 : Int32))) (lv' := [(2, .int (x2 + (-1 : Int32))), (0, va_rf x0), (1, .int x1)]) hx hb dX10_latestReport_32 hl (k := 2) rfl rfl (by decide) rfl (fun ls hl => ?_)
          refine lv_goto (tgt := 10) hx hb dX10_latestReport_35 (by decide) ?_
          exact ih _ _ _ _ _ _ h hcl hsl hw (lv_sub hl [1, 2, 0] rfl)
  unfold f_X10_latestReport at h
  refine m_aload_n (x := this) hx hb dX10_latestReport_0 rfl (lv_at hl 0 rfl) ?_
  obtain ⟨v1, hv1, h⟩ := ob h
  refine m_getR hC hw (C := RX10) (T := TX10) (N := 9) hv1 ki_X10_latestReport_X10 rfl (by decide) k_X10_latestReport_30 (fun _ z => z) dX10_latestReport_1 ?_
  obtain ⟨g2, h⟩ := itg h
  obtain ⟨r3, hr3, h⟩ := ob h
  refine m_contI hC hw (m_runV hC hw (x := v1) (ci := 2) (N := 3) (C := RJx4a65c) (T := TJx4a65c) (n := 0) (av := []) (rest := []) (c_Jx4a65c_size_8abf5 (G := G) (l := l) hr3) gX10_latestReport_Jx4a65c_size_8abf5 rfl (by decide +kernel) ⟨(Nat.le_of_ble_eq_true rfl), (Nat.le_of_ble_eq_true rfl)⟩ g2 rfl rfl hl.1 rfl (Nat.le_of_ble_eq_true rfl) dX10_latestReport_4 ⟨(Nat.zero_le _), (Nat.zero_le _)⟩) (fun H locs hw => ?_)
  refine lv_iconst (v := (1 : Int32)) hx hb dX10_latestReport_7 (by decide) ?_
  refine lv_isub hx hb dX10_latestReport_8 ?_
  refine lv_istore_n (i := 2) (lv' := [(2, .int (r3 - (1 : Int32))), (0, va_rf this), (1, .int a1)]) hx hb dX10_latestReport_9 rfl hl (by decide) rfl (fun ls hl => ?_)
  exact L10 this a1 _ _ _ _ _ _ _ h (Nat.zero_le _) (Nat.zero_le _) hw (lv_sub hl [1, 2, 0] rfl)

def f_X10_reportAt (M : Mem) (this : Option Nat) (a1 : Int32) : Option (Option Nat) := if a1 < 0 then (some (none)) else ((gR M this 13 8).bind fun v2 => if isO M v2 2 = true then ((f_Jx4a65c_size_8abf5 M v2).bind fun r4 => if r4 ≤ a1 then (some (none)) else ((gR M this 13 8).bind fun v6 => if isO M v6 2 = true then ((f_Jx4a65c_get_915e3 M v6 a1).bind fun r8 => if r8 = none ∨ isO M r8 11 = true then (some (r8)) else none) else none)) else none)
def rmX10_reportAt : Room := { frames := 3, cells := 0, slots := 0, locals := 64 }
theorem k_X10_reportAt_30 : Cond.fieldLink RX10 30 "LoanBook$Thing" "reports" "Ljava/util/ArrayList;" ∈ wsX10_reportAt := List.mem_of_getElem? (i := 1) rfl
theorem ki_X10_reportAt_X10 : ∀ w ∈ u_ws RX10 TX10 9, w ∈ wsX10_reportAt := sub_r [26, 27, 28, 29, 30, 31, 32, 33, 34] (by decide +kernel)
theorem k_X10_reportAt_cc104 : Cond.classLink RX10 104 RX8 ∈ wsX10_reportAt := List.mem_of_getElem? (i := 2) rfl
set_option maxHeartbeats 4000000 in
set_option maxRecDepth 100000 in
theorem c_X10_reportAt {G : wG} {l : Launch} {M : Mem} {sz : Nat} {this : Option Nat} {a1 : Int32} {r : Option Nat} (h : f_X10_reportAt M this a1 = some r) : CtrQ G l yX10_reportAt wsX10_reportAt rmX10_reportAt [va_rf this, .int a1] M sz r M sz := by
  refine m_startQ (own := RX10) (cc := cX10_reportAt) (maxL := 2) (lv0 := [(0, va_rf this), (1, .int a1)]) (by decide) rfl rfl (by simp [lg_sl, va_rf_cat, cat_i, cat_r]) (by simp [lv_args, va_rf_cat, cat_i, cat_r]) (Or.inl ⟨_, rfl⟩) ?_
  intro p e s m args below meth c Q hC hname RET hsz hw ls hl
  have hx := hC.1
  have hb := hC.2.1
  unfold f_X10_reportAt at h
  refine lv_iload_n hx hb dX10_reportAt_0 rfl (lv_at hl 1 rfl) ?_
  refine lv_if_lt (tgt := 29) hx hb dX10_reportAt_1 (by decide) (fun c1 => ?_) (fun c1 => ?_)
  · replace h := itt h c1
    refine lv_null hx hb dX10_reportAt_29 ?_
    replace h := Option.some.inj h
    subst h
    exact RET hw ⟨(Nat.zero_le _), (Nat.zero_le _)⟩ dX10_reportAt_30
  · replace h := itf h c1
    refine lv_iload_n hx hb dX10_reportAt_4 rfl (lv_at hl 1 rfl) ?_
    refine m_aload_n (x := this) hx hb dX10_reportAt_5 rfl (lv_at hl 0 rfl) ?_
    obtain ⟨v2, hv2, h⟩ := ob h
    refine m_getR hC hw (C := RX10) (T := TX10) (N := 9) hv2 ki_X10_reportAt_X10 rfl (by decide) k_X10_reportAt_30 (fun _ z => z) dX10_reportAt_6 ?_
    obtain ⟨g3, h⟩ := itg h
    obtain ⟨r4, hr4, h⟩ := ob h
    refine m_contI hC hw (m_runV hC hw (x := v2) (ci := 2) (N := 3) (C := RJx4a65c) (T := TJx4a65c) (n := 0) (av := []) (rest := [.int a1]) (c_Jx4a65c_size_8abf5 (G := G) (l := l) hr4) gX10_reportAt_Jx4a65c_size_8abf5 rfl (by decide +kernel) ⟨(Nat.le_of_ble_eq_true rfl), (Nat.le_of_ble_eq_true rfl)⟩ g3 rfl rfl hl.1 rfl (Nat.le_of_ble_eq_true rfl) dX10_reportAt_9 ⟨(Nat.zero_le _), (Nat.zero_le _)⟩) (fun H locs hw => ?_)
    refine lv_icmp_ge (tgt := 29) hx hb dX10_reportAt_12 (by decide) (fun c5 => ?_) (fun c5 => ?_)
    · replace h := itt h c5
      refine lv_null hx hb dX10_reportAt_29 ?_
      replace h := Option.some.inj h
      subst h
      exact RET hw ⟨(Nat.zero_le _), (Nat.zero_le _)⟩ dX10_reportAt_30
    · replace h := itf h c5
      refine m_aload_n (x := this) hx hb dX10_reportAt_15 rfl (lv_at hl 0 rfl) ?_
      obtain ⟨v6, hv6, h⟩ := ob h
      refine m_getR hC hw (C := RX10) (T := TX10) (N := 9) hv6 ki_X10_reportAt_X10 rfl (by decide) k_X10_reportAt_30 (fun _ z => z) dX10_reportAt_16 ?_
      refine lv_iload_n hx hb dX10_reportAt_19 rfl (lv_at hl 1 rfl) ?_
      obtain ⟨g7, h⟩ := itg h
      obtain ⟨r8, hr8, h⟩ := ob h
      refine m_contQ hC hw (m_runV hC hw (x := v6) (ci := 2) (N := 3) (C := RJx4a65c) (T := TJx4a65c) (n := 1) (av := [.int a1]) (rest := []) (c_Jx4a65c_get_915e3 (G := G) (l := l) hr8) gX10_reportAt_Jx4a65c_get_915e3 rfl (by decide +kernel) ⟨(Nat.le_of_ble_eq_true rfl), (Nat.le_of_ble_eq_true rfl)⟩ g7 rfl rfl hl.1 rfl (Nat.le_of_ble_eq_true rfl) dX10_reportAt_20 ⟨(Nat.zero_le _), (Nat.zero_le _)⟩) (fun H locs hw => ?_)
      obtain ⟨g9, h⟩ := itg h
      refine m_cast (x := r8) hC hw (C := RX8) (T := TX8) (N := 4) g9 k_X10_reportAt_cc104 rfl dX10_reportAt_23 ?_
      refine lv_goto (tgt := 30) hx hb dX10_reportAt_26 (by decide) ?_
      replace h := Option.some.inj h
      subst h
      exact RET hw ⟨(Nat.zero_le _), (Nat.zero_le _)⟩ dX10_reportAt_30

def f_X10_reportOn (n : Nat) (M : Mem) (this : Option Nat) (a1 : Int32) : Option (Option Nat) := if isO M this 13 = true then ((f_X10_latestReport n M this a1).bind fun r2 => if isO M this 13 = true then ((f_X10_reportAt M this r2).bind fun r4 => if r4 = none then (some (none)) else ((gI M r4 11 0).bind fun v6 => if v6 = a1 then (some (r4)) else (some (none)))) else none) else none
def rmX10_reportOn : Room := { frames := 4, cells := 0, slots := 0, locals := 86 }
theorem k_X10_reportOn_106 : Cond.fieldLink RX10 106 "LoanBook$Report" "day" "I" ∈ wsX10_reportOn := List.mem_of_getElem? (i := 1) rfl
theorem ki_X10_reportOn_X8 : ∀ w ∈ u_ws RX8 TX8 4, w ∈ wsX10_reportOn := sub_r [36, 37, 38, 39] (by decide +kernel)
set_option maxHeartbeats 4000000 in
set_option maxRecDepth 100000 in
theorem c_X10_reportOn {G : wG} {l : Launch} {n : Nat} {M : Mem} {sz : Nat} {this : Option Nat} {a1 : Int32} {r : Option Nat} (h : f_X10_reportOn n M this a1 = some r) : CtrQ G l yX10_reportOn wsX10_reportOn rmX10_reportOn [va_rf this, .int a1] M sz r M sz := by
  refine m_startQ (own := RX10) (cc := cX10_reportOn) (maxL := 3) (lv0 := [(0, va_rf this), (1, .int a1)]) (by decide) rfl rfl (by simp [lg_sl, va_rf_cat, cat_i, cat_r]) (by simp [lv_args, va_rf_cat, cat_i, cat_r]) (Or.inl ⟨_, rfl⟩) ?_
  intro p e s m args below meth c Q hC hname RET hsz hw ls hl
  have hx := hC.1
  have hb := hC.2.1
  unfold f_X10_reportOn at h
  refine m_aload_n (x := this) hx hb dX10_reportOn_0 rfl (lv_at hl 0 rfl) ?_
  refine m_aload_n (x := this) hx hb dX10_reportOn_1 rfl (lv_at hl 0 rfl) ?_
  refine lv_iload_n hx hb dX10_reportOn_2 rfl (lv_at hl 1 rfl) ?_
  obtain ⟨g1, h⟩ := itg h
  obtain ⟨r2, hr2, h⟩ := ob h
  refine m_contI hC hw (m_runV hC hw (x := this) (ci := 13) (N := 9) (C := RX10) (T := TX10) (n := 1) (av := [.int a1]) (rest := [va_rf this]) (c_X10_latestReport (G := G) (l := l) hr2) gX10_reportOn_X10_latestReport rfl (by decide +kernel) ⟨(Nat.le_of_ble_eq_true rfl), (Nat.le_of_ble_eq_true rfl)⟩ g1 rfl rfl hl.1 rfl (by simp [va_rf_cat, cat_i, cat_r, cat_l]) dX10_reportOn_3 ⟨(Nat.zero_le _), (Nat.zero_le _)⟩) (fun H locs hw => ?_)
  obtain ⟨g3, h⟩ := itg h
  obtain ⟨r4, hr4, h⟩ := ob h
  refine m_contQ hC hw (m_runV hC hw (x := this) (ci := 13) (N := 9) (C := RX10) (T := TX10) (n := 1) (av := [.int r2]) (rest := []) (c_X10_reportAt (G := G) (l := l) hr4) gX10_reportOn_X10_reportAt rfl (by decide +kernel) ⟨(Nat.le_of_ble_eq_true rfl), (Nat.le_of_ble_eq_true rfl)⟩ g3 rfl rfl hl.1 rfl (Nat.le_of_ble_eq_true rfl) dX10_reportOn_6 ⟨(Nat.zero_le _), (Nat.zero_le _)⟩) (fun H locs hw => ?_)
  refine m_astore_n (x := r4) (i := 2) (lv' := [(2, va_rf r4), (0, va_rf this), (1, .int a1)]) hx hb dX10_reportOn_9 rfl hl (by decide) rfl (fun ls hl => ?_)
  refine m_aload_n (x := r4) hx hb dX10_reportOn_10 rfl (lv_at hl 0 rfl) ?_
  refine m_ifnull (x := r4) (tgt := 26) hx hb dX10_reportOn_11 (by decide) (fun c5 => ?_) (fun c5 => ?_)
  · replace h := itt h c5
    refine lv_null hx hb dX10_reportOn_26 ?_
    replace h := Option.some.inj h
    subst h
    exact RET hw ⟨(Nat.zero_le _), (Nat.zero_le _)⟩ dX10_reportOn_27
  · replace h := itf h c5
    refine m_aload_n (x := r4) hx hb dX10_reportOn_14 rfl (lv_at hl 0 rfl) ?_
    obtain ⟨v6, hv6, h⟩ := ob h
    refine m_getI hC hw (C := RX8) (T := TX8) (N := 4) hv6 ki_X10_reportOn_X8 rfl (by decide) k_X10_reportOn_106 (fun _ z => z) dX10_reportOn_15 ?_
    refine lv_iload_n hx hb dX10_reportOn_18 rfl (lv_at hl 2 rfl) ?_
    refine lv_icmp_ne (tgt := 26) hx hb dX10_reportOn_19 (by decide) (fun c7 => ?_) (fun c7 => ?_)
    · replace h := itf h c7
      refine lv_null hx hb dX10_reportOn_26 ?_
      replace h := Option.some.inj h
      subst h
      exact RET hw ⟨(Nat.zero_le _), (Nat.zero_le _)⟩ dX10_reportOn_27
    · replace h := itt h c7
      refine m_aload_n (x := r4) hx hb dX10_reportOn_22 rfl (lv_at hl 0 rfl) ?_
      refine lv_goto (tgt := 27) hx hb dX10_reportOn_23 (by decide) ?_
      replace h := Option.some.inj h
      subst h
      exact RET hw ⟨(Nat.zero_le _), (Nat.zero_le _)⟩ dX10_reportOn_27

def f_X8_write_L21 (B : Nat) (S : Nat → Nat) (n : Nat) (x0 : Option Nat) (x1 : Option Nat) (x2 : Option Nat) : Nat → Mem → Nat → Int32 → Option (Option Nat × Mem × Nat)
  | 0, _, _, _ => none
  | k + 1, Mz, zz, x3 => (aL Mz x0).bind fun v5 => if v5 ≤ x3 then (if isO Mz x2 1 = true then ((f_J4_toString_0e30d B Mz zz x2).bind fun r8 => some ((r8.1, r8.2.1, r8.2.2))) else none) else ((aL Mz x1).bind fun v9 => if v9 ≤ x3 then (if isO Mz x2 1 = true then ((f_J4_toString_0e30d B Mz zz x2).bind fun r12 => some ((r12.1, r12.2.1, r12.2.2))) else none) else (((if x3 ≤ 0 then (some (Mz, zz)) else (if isO Mz x2 1 = true then ((f_J4_append_15ec4 B Mz zz x2 (some (S 13))).bind fun r16 => some (r16.2.1, r16.2.2)) else none)) : Option (Mem × Nat)).bind fun o17 => (aI o17.1 0 x0 x3).bind fun v18 => (f_X11_spelling S o17.1 ((107 : Int32) + (v18 / (100 : Int32)))).bind fun r19 => if isO o17.1 x2 1 = true then ((f_J4_append_15ec4 B o17.1 o17.2 x2 r19).bind fun r21 => if isO r21.2.1 r21.1 1 = true then ((f_J4_append_cf468 B r21.2.1 r21.2.2 r21.1 (32 : Int32)).bind fun r23 => (aI r23.2.1 0 x0 x3).bind fun v24 => if isO r23.2.1 x2 1 = true then ((f_J4_append_bf812 B S n r23.2.1 r23.2.2 x2 (v24 - v24 / (100 : Int32) * (100 : Int32))).bind fun r26 => if isO r26.2.1 r26.1 1 = true then ((f_J4_append_cf468 B r26.2.1 r26.2.2 r26.1 (32 : Int32)).bind fun r28 => (aI r28.2.1 0 x1 x3).bind fun v29 => if isO r28.2.1 r28.1 1 = true then ((f_J4_append_bf812 B S n r28.2.1 r28.2.2 r28.1 v29).bind fun r31 => f_X8_write_L21 B S n x0 x1 x2 k r31.2.1 r31.2.2 (x3 + (1 : Int32))) else none) else none) else none) else none) else none))
def f_X8_write (B : Nat) (S : Nat → Nat) (n : Nat) (M : Mem) (sz : Nat) (a1 : Option Nat) (a2 : Option Nat) : Option (Option Nat × Mem × Nat) := (aL M a1).bind fun v1 => if v1 = 0 then ((f_X11_spelling S M (101 : Int32)).bind fun r32 => some (r32, M, sz)) else ((some (va_up M sz (some (.inl (1, [.null, .int 0, .int 0, .int 0]))))).bind fun M3 => (f_J4_init_da8c8 B M3 (sz + 1) (some sz)).bind fun r4 => f_X8_write_L21 B S n a1 a2 (some sz) 17 r4.1 r4.2 (0 : Int32))
def rmX8_write : Room := { frames := 7, cells := 106, slots := 30972, locals := 171 }
theorem k_X8_write_n58 : Cond.classLink RX8 58 RJ4 ∈ wsX8_write := List.mem_of_getElem? (i := 1) rfl
theorem k_X8_write_ni58 : Cond.instantiable RJ4 4 ∈ wsX8_write := List.mem_of_getElem? (i := 2) rfl
theorem k_X8_write_nj58 : Cond.initialized RJ4 ∈ wsX8_write := List.mem_of_getElem? (i := 3) rfl
theorem ki_X8_write_J4 : ∀ w ∈ u_ws RJ4 TJ4 4, w ∈ wsX8_write := sub_r [261, 262, 263, 264] (by decide +kernel)
theorem k_X8_write_ml60 : Cond.methodLink RX8 60 yJ4_init_da8c8 ∈ wsX8_write := List.mem_of_getElem? (i := 7) rfl
theorem k_X8_write_imJ4_init_da8c8 : Cond.instanceMethod yJ4_init_da8c8 ∈ wsX8_write := List.mem_of_getElem? (i := 8) rfl
theorem k_X8_write_inJ4 : Cond.initialized RJ4 ∈ wsX8_write := List.mem_of_getElem? (i := 3) rfl
theorem k_X8_write_stX11_spelling : Cond.static yX11_spelling ∈ wsX8_write := List.mem_of_getElem? (i := 4) rfl
theorem k_X8_write_inX11 : Cond.initialized RX11 ∈ wsX8_write := List.mem_of_getElem? (i := 5) rfl
set_option maxHeartbeats 4000000 in
set_option maxRecDepth 100000 in
theorem c_X8_write {G : wG} {l : Launch} {n : Nat} {M : Mem} {sz : Nat} {a1 : Option Nat} {a2 : Option Nat} {r : Option Nat × Mem × Nat} (h : f_X8_write G.2.2.1 G.2.2.2 n M sz a1 a2 = some r) : CtrQ G l yX8_write wsX8_write rmX8_write [va_rf a1, va_rf a2] M sz r.1 r.2.1 r.2.2 := by
  refine m_startQ (own := RX8) (cc := cX8_write) (maxL := 4) (lv0 := [(0, va_rf a1), (1, va_rf a2)]) (by decide) rfl rfl (by simp [lg_sl, va_rf_cat, cat_i, cat_r]) (by simp [lv_args, va_rf_cat, cat_i, cat_r]) (Or.inl ⟨_, rfl⟩) ?_
  intro p e s m args below meth c Q hC hname RET hsz hw ls hl
  have hx := hC.1
  have hb := hC.2.1
  have L21 : ∀ (x0 : Option Nat) (x1 : Option Nat) (x2 : Option Nat) (k : Nat) (Mz : Mem) (zz : Nat) (x3 : Int32) (cells slots : Nat) (CF SF : Nat) (H : Heap) (locs : List Loc) (ls : Array Slot), f_X8_write_L21 G.2.2.1 G.2.2.2 n x0 x1 x2 k Mz zz x3 = some r → cells + k * 6 ≤ CF → slots + k * 1800 ≤ SF → CF + 2 ≤ 106 → SF + 304 ≤ 30972 → wD G s M Mz zz H locs → lv_has ls 4 [(0, va_rf x0), (1, va_rf x1), (2, va_rf x2), (3, .int x3)] → W p l e rmX8_write s m args below meth c H locs cells slots Q (F0 m 21 ls []) := by
    intro x0 x1 x2 k
    induction k with
    | zero =>
      intro Mz zz x3 cells slots CF SF H locs ls h
      exact absurd (show (none : Option (Option Nat × Mem × Nat)) = some r from h) (fun z => by cases z)
    | succ k ih =>
      intro Mz zz x3 cells slots CF SF H locs ls h hcl hsl hCF hSF hw hl
      rw [f_X8_write_L21] at h
      refine lv_iload_n hx hb dX8_write_21 rfl (lv_at hl 3 rfl) ?_
      refine m_aload_n (x := x0) hx hb dX8_write_22 rfl (lv_at hl 0 rfl) ?_
      obtain ⟨v5, hv5, h⟩ := ob h
      refine m_alen (x := x0) hC hw hv5 dX8_write_23 ?_
      refine lv_icmp_ge (tgt := 94) hx hb dX8_write_24 (by decide) (fun c6 => ?_) (fun c6 => ?_)
      · replace h := itt h c6
        refine m_aload_n (x := x2) hx hb dX8_write_94 rfl (lv_at hl 2 rfl) ?_
        obtain ⟨g7, h⟩ := itg h
        obtain ⟨r8, hr8, h⟩ := ob h
        refine m_contQ hC hw (m_runV hC hw (x := x2) (ci := 1) (N := 4) (C := RJ4) (T := TJ4) (n := 0) (av := []) (rest := []) (c_J4_toString_0e30d (G := G) (l := l) hr8) gX8_write_J4_toString_0e30d rfl (by decide +kernel) ⟨(Nat.le_of_ble_eq_true rfl), (Nat.le_of_ble_eq_true rfl)⟩ g7 rfl rfl hl.1 rfl (Nat.le_of_ble_eq_true rfl) dX8_write_95 ⟨(show cells + 2 ≤ 106 from by omega), (show slots + 304 ≤ 30972 from by omega)⟩) (fun H locs hw => ?_)
        replace h := Option.some.inj h
        subst h
        exact RET hw ⟨(show cells + 2 ≤ 106 from by omega), (show slots + 304 ≤ 30972 from by omega)⟩ dX8_write_98
      · replace h := itf h c6
        refine lv_iload_n hx hb dX8_write_27 rfl (lv_at hl 3 rfl) ?_
        refine m_aload_n (x := x1) hx hb dX8_write_28 rfl (lv_at hl 1 rfl) ?_
        obtain ⟨v9, hv9, h⟩ := ob h
        refine m_alen (x := x1) hC hw hv9 dX8_write_29 ?_
        refine lv_icmp_ge (tgt := 94) hx hb dX8_write_30 (by decide) (fun c10 => ?_) (fun c10 => ?_)
        · replace h := itt h c10
          refine m_aload_n (x := x2) hx hb dX8_write_94 rfl (lv_at hl 2 rfl) ?_
          obtain ⟨g11, h⟩ := itg h
          obtain ⟨r12, hr12, h⟩ := ob h
          refine m_contQ hC hw (m_runV hC hw (x := x2) (ci := 1) (N := 4) (C := RJ4) (T := TJ4) (n := 0) (av := []) (rest := []) (c_J4_toString_0e30d (G := G) (l := l) hr12) gX8_write_J4_toString_0e30d rfl (by decide +kernel) ⟨(Nat.le_of_ble_eq_true rfl), (Nat.le_of_ble_eq_true rfl)⟩ g11 rfl rfl hl.1 rfl (Nat.le_of_ble_eq_true rfl) dX8_write_95 ⟨(show cells + 2 ≤ 106 from by omega), (show slots + 304 ≤ 30972 from by omega)⟩) (fun H locs hw => ?_)
          replace h := Option.some.inj h
          subst h
          exact RET hw ⟨(show cells + 2 ≤ 106 from by omega), (show slots + 304 ≤ 30972 from by omega)⟩ dX8_write_98
        · replace h := itf h c10
          refine lv_iload_n hx hb dX8_write_33 rfl (lv_at hl 3 rfl) ?_
          obtain ⟨o17, ho17, h⟩ := ob h
          have J13 : ∀ (H : Heap) (locs : List Loc) (ls : Array Slot), wD G s M o17.1 o17.2 H locs → lv_has ls 4 [(0, va_rf x0), (1, va_rf x1), (2, va_rf x2), (3, .int x3)] → W p l e rmX8_write s m args below meth c H locs (cells + 1) (slots + 300) Q (F0 m 44 ls []) := by
            intro H locs ls hw hl
            refine m_aload_n (x := x2) hx hb dX8_write_44 rfl (lv_at hl 2 rfl) ?_
            refine lv_bipush (v := (107 : Int32)) hx hb dX8_write_45 (by decide) ?_
            refine m_aload_n (x := x0) hx hb dX8_write_47 rfl (lv_at hl 0 rfl) ?_
            refine lv_iload_n hx hb dX8_write_48 rfl (lv_at hl 3 rfl) ?_
            obtain ⟨v18, hv18, h⟩ := ob h
            refine m_iald (x := x0) hC hw hv18 dX8_write_49 ?_
            refine lv_bipush (v := (100 : Int32)) hx hb dX8_write_50 (by decide) ?_
            refine lv_idiv hx hb dX8_write_52 (by decide) ?_
            refine lv_iadd hx hb dX8_write_53 ?_
            obtain ⟨r19, hr19, h⟩ := ob h
            refine m_contQ hC hw (m_runSN hC hw (host := "LoanBook") (n := 1) (av := [.int ((107 : Int32) + (v18 / (100 : Int32)))]) (rest := [va_rf x2]) (c_X11_spelling (G := G) (l := l) hr19) gX8_write_X11_spelling_n54 (by decide +kernel) k_X8_write_stX11_spelling k_X8_write_inX11 rfl (by decide +kernel) ⟨(Nat.le_of_ble_eq_true rfl), (Nat.le_of_ble_eq_true rfl)⟩ rfl hl.1 rfl (by simp [va_rf_cat, cat_i, cat_r, cat_l]) dX8_write_54 ⟨(show cells + 1 ≤ 106 from by omega), (show slots + 300 ≤ 30972 from by omega)⟩) (fun H locs hw => ?_)
            obtain ⟨g20, h⟩ := itg h
            obtain ⟨r21, hr21, h⟩ := ob h
            refine m_contQ hC hw (m_runV hC hw (x := x2) (ci := 1) (N := 4) (C := RJ4) (T := TJ4) (n := 1) (av := [va_rf r19]) (rest := []) (c_J4_append_15ec4 (G := G) (l := l) hr21) gX8_write_J4_append_15ec4 rfl (by decide +kernel) ⟨(Nat.le_of_ble_eq_true rfl), (Nat.le_of_ble_eq_true rfl)⟩ g20 rfl rfl hl.1 rfl (Nat.le_of_ble_eq_true rfl) dX8_write_57 ⟨(show cells + 2 ≤ 106 from by omega), (show slots + 600 ≤ 30972 from by omega)⟩) (fun H locs hw => ?_)
            refine lv_bipush (v := (32 : Int32)) hx hb dX8_write_60 (by decide) ?_
            obtain ⟨g22, h⟩ := itg h
            obtain ⟨r23, hr23, h⟩ := ob h
            refine m_contQ hC hw (m_runV hC hw (x := r21.1) (ci := 1) (N := 4) (C := RJ4) (T := TJ4) (n := 1) (av := [.int (32 : Int32)]) (rest := []) (c_J4_append_cf468 (G := G) (l := l) hr23) gX8_write_J4_append_cf468 rfl (by decide +kernel) ⟨(Nat.le_of_ble_eq_true rfl), (Nat.le_of_ble_eq_true rfl)⟩ g22 rfl rfl hl.1 rfl (Nat.le_of_ble_eq_true rfl) dX8_write_62 ⟨(show cells + 3 ≤ 106 from by omega), (show slots + 900 ≤ 30972 from by omega)⟩) (fun H locs hw => ?_)
            refine lv_pop hx hb dX8_write_65 (va_rf_cat _) ?_
            refine m_aload_n (x := x2) hx hb dX8_write_66 rfl (lv_at hl 2 rfl) ?_
            refine m_aload_n (x := x0) hx hb dX8_write_67 rfl (lv_at hl 0 rfl) ?_
            refine lv_iload_n hx hb dX8_write_68 rfl (lv_at hl 3 rfl) ?_
            obtain ⟨v24, hv24, h⟩ := ob h
            refine m_iald (x := x0) hC hw hv24 dX8_write_69 ?_
            refine lv_bipush (v := (100 : Int32)) hx hb dX8_write_70 (by decide) ?_
            refine lv_irem hx hb dX8_write_72 (by decide) ?_
            obtain ⟨g25, h⟩ := itg h
            obtain ⟨r26, hr26, h⟩ := ob h
            refine m_contQ hC hw (m_runV hC hw (x := x2) (ci := 1) (N := 4) (C := RJ4) (T := TJ4) (n := 1) (av := [.int (v24 - v24 / (100 : Int32) * (100 : Int32))]) (rest := []) (c_J4_append_bf812 (G := G) (l := l) hr26) gX8_write_J4_append_bf812 rfl (by decide +kernel) ⟨(Nat.le_of_ble_eq_true rfl), (Nat.le_of_ble_eq_true rfl)⟩ g25 rfl rfl hl.1 rfl (Nat.le_of_ble_eq_true rfl) dX8_write_73 ⟨(show cells + 4 ≤ 106 from by omega), (show slots + 1200 ≤ 30972 from by omega)⟩) (fun H locs hw => ?_)
            refine lv_bipush (v := (32 : Int32)) hx hb dX8_write_76 (by decide) ?_
            obtain ⟨g27, h⟩ := itg h
            obtain ⟨r28, hr28, h⟩ := ob h
            refine m_contQ hC hw (m_runV hC hw (x := r26.1) (ci := 1) (N := 4) (C := RJ4) (T := TJ4) (n := 1) (av := [.int (32 : Int32)]) (rest := []) (c_J4_append_cf468 (G := G) (l := l) hr28) gX8_write_J4_append_cf468 rfl (by decide +kernel) ⟨(Nat.le_of_ble_eq_true rfl), (Nat.le_of_ble_eq_true rfl)⟩ g27 rfl rfl hl.1 rfl (Nat.le_of_ble_eq_true rfl) dX8_write_78 ⟨(show cells + 5 ≤ 106 from by omega), (show slots + 1500 ≤ 30972 from by omega)⟩) (fun H locs hw => ?_)
            refine m_aload_n (x := x1) hx hb dX8_write_81 rfl (lv_at hl 1 rfl) ?_
            refine lv_iload_n hx hb dX8_write_82 rfl (lv_at hl 3 rfl) ?_
            obtain ⟨v29, hv29, h⟩ := ob h
            refine m_iald (x := x1) hC hw hv29 dX8_write_83 ?_
            obtain ⟨g30, h⟩ := itg h
            obtain ⟨r31, hr31, h⟩ := ob h
            refine m_contQ hC hw (m_runV hC hw (x := r28.1) (ci := 1) (N := 4) (C := RJ4) (T := TJ4) (n := 1) (av := [.int v29]) (rest := []) (c_J4_append_bf812 (G := G) (l := l) hr31) gX8_write_J4_append_bf812 rfl (by decide +kernel) ⟨(Nat.le_of_ble_eq_true rfl), (Nat.le_of_ble_eq_true rfl)⟩ g30 rfl rfl hl.1 rfl (Nat.le_of_ble_eq_true rfl) dX8_write_84 ⟨(show cells + 6 ≤ 106 from by omega), (show slots + 1800 ≤ 30972 from by omega)⟩) (fun H locs hw => ?_)
            refine lv_pop hx hb dX8_write_87 (va_rf_cat _) ?_
            refine lv_iinc (v := (x3 + (1 : Int32))) (lv' := [(3, .int (x3 + (1 : Int32))), (0, va_rf x0), (1, va_rf x1), (2, va_rf x2)]) hx hb dX8_write_88 hl (k := 3) rfl rfl (by decide) (by simp [va_rf_cat, cat_i, cat_l]) (fun ls hl => ?_)
            refine lv_goto (tgt := 21) hx hb dX8_write_91 (by decide) ?_
            refine W.widen (k := cells + 6) (n := slots + 1800) (show cells + 6 ≤ cells + 6 by omega) (show slots + 1800 ≤ slots + 1800 by omega) ?_
            exact ih _ _ _ _ _ CF SF _ _ _ h (by omega) (by omega) hCF hSF hw (lv_sub hl [1, 2, 3, 0] rfl)
          clear h
          replace h := ho17
          refine lv_if_le (tgt := 44) hx hb dX8_write_34 (by decide) (fun c14 => ?_) (fun c14 => ?_)
          · replace h := itt h c14
            replace h := Option.some.inj h
            subst h
            refine W.widen (k := (cells + 1)) (n := (slots + 300)) (show cells + 0 ≤ cells + 1 from by omega) (show slots + 0 ≤ slots + 300 from by omega) ?_
            exact J13 _ _ _ hw (lv_sub hl [0, 1, 2, 3] rfl)
          · replace h := itf h c14
            refine m_aload_n (x := x2) hx hb dX8_write_37 rfl (lv_at hl 2 rfl) ?_
            refine m_ldc (tx := ", ") (i := 13) hC (by decide) dX8_write_38 ?_
            obtain ⟨g15, h⟩ := itg h
            obtain ⟨r16, hr16, h⟩ := ob h
            refine m_contQ hC hw (m_runV hC hw (x := x2) (ci := 1) (N := 4) (C := RJ4) (T := TJ4) (n := 1) (av := [va_rf (some (G.2.2.2 13))]) (rest := []) (c_J4_append_15ec4 (G := G) (l := l) hr16) gX8_write_J4_append_15ec4 rfl (by decide +kernel) ⟨(Nat.le_of_ble_eq_true rfl), (Nat.le_of_ble_eq_true rfl)⟩ g15 rfl rfl hl.1 rfl (Nat.le_of_ble_eq_true rfl) dX8_write_40 ⟨(show cells + 1 ≤ 106 from by omega), (show slots + 300 ≤ 30972 from by omega)⟩) (fun H locs hw => ?_)
            refine lv_pop hx hb dX8_write_43 (va_rf_cat _) ?_
            replace h := Option.some.inj h
            subst h
            refine W.widen (k := (cells + 1)) (n := (slots + 300)) (show cells + 1 ≤ cells + 1 from by omega) (show slots + 300 ≤ slots + 300 from by omega) ?_
            exact J13 _ _ _ hw (lv_sub hl [0, 1, 2, 3] rfl)
  unfold f_X8_write at h
  refine m_aload_n (x := a1) hx hb dX8_write_0 rfl (lv_at hl 0 rfl) ?_
  obtain ⟨v1, hv1, h⟩ := ob h
  refine m_alen (x := a1) hC hw hv1 dX8_write_1 ?_
  refine lv_if_ne (tgt := 11) hx hb dX8_write_2 (by decide) (fun c2 => ?_) (fun c2 => ?_)
  · replace h := itf h c2
    obtain ⟨M3, hM3, h⟩ := ob h
    refine m_new hC hw (C := RJ4) (T := TJ4) (N := 4) (ci := 1) (fs := [.null, .int 0, .int 0, .int 0]) ki_X8_write_J4 tyJ4 tyJ4_ok k_X8_write_n58 k_X8_write_ni58 k_X8_write_nj58 rfl (fun j hj => by match j, hj with | 0, _ => rfl | 1, _ => rfl | 2, _ => rfl | 3, _ => rfl) (Nat.le_of_ble_eq_true rfl) (Nat.le_of_ble_eq_true rfl) dX8_write_11 (fun H hw => ?_)
    rw [Option.some.inj hM3] at hw
    refine m_dup (x := (some sz)) hx hb dX8_write_14 ?_
    obtain ⟨r4, hr4, h⟩ := ob h
    refine m_contV hC hw (m_runI hC hw (x := (some sz)) (n := 0) (av := []) (rest := [va_rf (some sz)]) (c_J4_init_da8c8 (G := G) (l := l) hr4) gX8_write_J4_init_da8c8 k_X8_write_ml60 k_X8_write_imJ4_init_da8c8 k_X8_write_inJ4 rfl rfl (by decide +kernel) ⟨(Nat.le_of_ble_eq_true rfl), (Nat.le_of_ble_eq_true rfl)⟩ rfl rfl hl.1 rfl (by simp [va_rf_cat, cat_i, cat_r, cat_l]) dX8_write_15 ⟨(Nat.le_of_ble_eq_true rfl), (Nat.le_of_ble_eq_true rfl)⟩) (fun H locs hw => ?_)
    refine m_astore_n (x := (some sz)) (i := 2) (lv' := [(2, va_rf (some sz)), (0, va_rf a1), (1, va_rf a2)]) hx hb dX8_write_18 rfl hl (by decide) (by simp [va_rf_cat, cat_i, cat_l]) (fun ls hl => ?_)
    refine lv_iconst (v := (0 : Int32)) hx hb dX8_write_19 (by decide) ?_
    refine lv_istore_n (i := 3) (lv' := [(3, .int (0 : Int32)), (2, va_rf (some sz)), (0, va_rf a1), (1, va_rf a2)]) hx hb dX8_write_20 rfl hl (by decide) (by simp [va_rf_cat, cat_i, cat_l]) (fun ls hl => ?_)
    exact L21 a1 a2 (some sz) _ _ _ _ _ _ 104 30668 _ _ _ h (by decide) (by decide) (Nat.le_of_ble_eq_true rfl) (Nat.le_of_ble_eq_true rfl) hw (lv_sub hl [2, 3, 1, 0] rfl)
  · replace h := itt h c2
    refine lv_bipush (v := (101 : Int32)) hx hb dX8_write_5 (by decide) ?_
    obtain ⟨r32, hr32, h⟩ := ob h
    refine m_contQ hC hw (m_runSN hC hw (host := "LoanBook") (n := 1) (av := [.int (101 : Int32)]) (rest := []) (c_X11_spelling (G := G) (l := l) hr32) gX8_write_X11_spelling_n54 (by decide +kernel) k_X8_write_stX11_spelling k_X8_write_inX11 rfl (by decide +kernel) ⟨(Nat.le_of_ble_eq_true rfl), (Nat.le_of_ble_eq_true rfl)⟩ rfl hl.1 rfl (Nat.le_of_ble_eq_true rfl) dX8_write_7 ⟨(Nat.zero_le _), (Nat.zero_le _)⟩) (fun H locs hw => ?_)
    replace h := Option.some.inj h
    subst h
    exact RET hw ⟨(Nat.zero_le _), (Nat.zero_le _)⟩ dX8_write_10

def f_X8_init_L49 (B : Nat) (S : Nat → Nat) (n : Nat) (zz : Nat) (x0 : Option Nat) (x2 : Option Nat) (x3 : Int32) (x4 : Int32) (x5 : Int32) : Nat → Mem → Int32 → Option (Int32 × Mem)
  | 0, _, _ => none
  | k + 1, Mz, x6 => if x6 ≤ 0 then (some ((x6, Mz))) else ((gR Mz x0 11 2).bind fun v17 => (aI Mz 0 v17 (x6 - (1 : Int32))).bind fun v18 => if v18 ≤ x5 then (some ((x6, Mz))) else ((gR Mz x0 11 2).bind fun v20 => (gR Mz x0 11 2).bind fun v21 => (aI Mz 0 v21 (x6 - (1 : Int32))).bind fun v22 => (sI B Mz 0 v20 x6 v22).bind fun M23 => (gR M23 x0 11 3).bind fun v24 => (gR M23 x0 11 3).bind fun v25 => (aI M23 0 v25 (x6 - (1 : Int32))).bind fun v26 => (sI B M23 0 v24 x6 v26).bind fun M27 => f_X8_init_L49 B S n zz x0 x2 x3 x4 x5 k M27 (x6 + (-1 : Int32))))
def f_X8_init_L31 (B : Nat) (S : Nat → Nat) (n : Nat) (x0 : Option Nat) (x2 : Option Nat) (x3 : Int32) : Nat → Mem → Nat → Int32 → Option (Mem × Nat)
  | 0, _, _, _ => none
  | k + 1, Mz, zz, x4 => if x3 ≤ x4 then ((gR Mz x0 11 2).bind fun v11 => (gR Mz x0 11 3).bind fun v12 => (f_X8_write B S n Mz zz v11 v12).bind fun r13 => (pF B r13.2.1 x0 11 1 (va_rf r13.1)).bind fun M14 => some ((M14, r13.2.2))) else ((f_X8_spotIn Mz x2 x4).bind fun r15 => (f_X8_init_L49 B S n zz x0 x2 x3 x4 r15 n Mz x4).bind fun o28 => (gR o28.2 x0 11 2).bind fun v29 => (sI B o28.2 0 v29 o28.1 r15).bind fun M30 => (gR M30 x0 11 3).bind fun v31 => if isO M30 x2 10 = true then ((f_X7_told M30 x2 (((3 : Int32) * x4) + (2 : Int32))).bind fun r33 => (sI B M30 0 v31 o28.1 r33).bind fun M34 => f_X8_init_L31 B S n x0 x2 x3 k M34 zz (x4 + (1 : Int32))) else none)
def f_X8_init (B : Nat) (S : Nat → Nat) (n : Nat) (M : Mem) (sz : Nat) (this : Option Nat) (a1 : Int32) (a2 : Option Nat) : Option (Mem × Nat) := if this ≠ none then ((pF B M this 11 0 (.int a1)).bind fun M2 => (f_X8_harmsIn M2 a2).bind fun r3 => if ¬ r3 < 0 ∧ (r3 : Int32).toNatClampNeg ≤ 64 then ((some (va_up M2 sz (some (.inr (.inl (0, (r3 : Int32).toNatClampNeg, fun _ => 0)))))).bind fun M4 => (pF B M4 this 11 2 (va_rf (some sz))).bind fun M6 => if ¬ r3 < 0 ∧ (r3 : Int32).toNatClampNeg ≤ 64 then ((some (va_up M6 (sz + 1) (some (.inr (.inl (0, (r3 : Int32).toNatClampNeg, fun _ => 0)))))).bind fun M7 => (pF B M7 this 11 3 (va_rf (some (sz + 1)))).bind fun M9 => f_X8_init_L31 B S n this a2 r3 130 M9 ((sz + 1) + 1) (0 : Int32)) else none) else none) else none
def rmX8_init : Room := { frames := 8, cells := 108, slots := 31100, locals := 194 }
theorem k_X8_init_oi3 : Cond.methodLink RX8 3 objectInit ∈ wsX8_init := List.mem_of_getElem? (i := 1) rfl
theorem k_X8_init_oj : Cond.instanceMethod objectInit ∈ wsX8_init := List.mem_of_getElem? (i := 2) rfl
theorem k_X8_init_ok : Cond.code objectInit ⟨#[0xb1]⟩ 1 none ∈ wsX8_init := List.mem_of_getElem? (i := 3) rfl
theorem k_X8_init_9 : Cond.fieldLink RX8 9 "LoanBook$Report" "day" "I" ∈ wsX8_init := List.mem_of_getElem? (i := 4) rfl
theorem ki_X8_init_X8 : ∀ w ∈ u_ws RX8 TX8 4, w ∈ wsX8_init := sub_r [289, 290, 291, 292] (by decide +kernel)
theorem k_X8_init_naint : Cond.arrayClass .int ∈ wsX8_init := List.mem_of_getElem? (i := 5) rfl
theorem k_X8_init_19 : Cond.fieldLink RX8 19 "LoanBook$Report" "spots" "[I" ∈ wsX8_init := List.mem_of_getElem? (i := 6) rfl
theorem k_X8_init_23 : Cond.fieldLink RX8 23 "LoanBook$Report" "sizes" "[I" ∈ wsX8_init := List.mem_of_getElem? (i := 7) rfl
theorem k_X8_init_40 : Cond.fieldLink RX8 40 "LoanBook$Report" "written" "Ljava/lang/String;" ∈ wsX8_init := List.mem_of_getElem? (i := 8) rfl
set_option maxHeartbeats 4000000 in
set_option maxRecDepth 100000 in
theorem c_X8_init {G : wG} {l : Launch} {n : Nat} {M : Mem} {sz : Nat} {this : Option Nat} {a1 : Int32} {a2 : Option Nat} {r : Mem × Nat} (h : f_X8_init G.2.2.1 G.2.2.2 n M sz this a1 a2 = some r) : CtrV G l yX8_init wsX8_init rmX8_init [va_rf this, .int a1, va_rf a2] M sz r.1 r.2 := by
  refine m_startV (own := RX8) (cc := cX8_init) (maxL := 7) (lv0 := [(0, va_rf this), (1, .int a1), (2, va_rf a2)]) (by decide) rfl rfl (by simp [lg_sl, va_rf_cat, cat_i, cat_r]) (by simp [lv_args, va_rf_cat, cat_i, cat_r]) ?_
  intro p e s m args below meth c Q hC hname RET hsz hw ls hl
  have hx := hC.1
  have hb := hC.2.1
  have L49 : ∀ (zz : Nat) (x0 : Option Nat) (x2 : Option Nat) (x3 : Int32) (x4 : Int32) (x5 : Int32) (k : Nat) (Mz : Mem) (x6 : Int32) (cells slots : Nat) (H : Heap) (locs : List Loc) (ls : Array Slot) (o : Int32 × Mem), f_X8_init_L49 G.2.2.1 G.2.2.2 n zz x0 x2 x3 x4 x5 k Mz x6 = some o → cells ≤ 108 → slots ≤ 31100 → wD G s M Mz zz H locs → lv_has ls 7 [(0, va_rf x0), (2, va_rf x2), (3, .int x3), (4, .int x4), (5, .int x5), (6, .int x6)] → (∀ (H : Heap) (locs : List Loc) (ls : Array Slot), wD G s M o.2 zz H locs → lv_has ls 7 [(0, va_rf x0), (2, va_rf x2), (3, .int x3), (4, .int x4), (5, .int x5), (6, .int o.1)] → W p l e rmX8_init s m args below meth c H locs cells slots Q (F0 m 106 ls [])) → W p l e rmX8_init s m args below meth c H locs cells slots Q (F0 m 49 ls []) := by
    intro zz x0 x2 x3 x4 x5 k
    induction k with
    | zero =>
      intro Mz x6 cells slots H locs ls o h
      exact absurd (show (none : Option (Int32 × Mem)) = some o from h) (fun z => by cases z)
    | succ k ih =>
      intro Mz x6 cells slots H locs ls o h hcl hsl hw hl hk
      rw [f_X8_init_L49] at h
      refine lv_iload hx hb dX8_init_49 (lv_at hl 5 rfl) ?_
      refine lv_if_le (tgt := 106) hx hb dX8_init_51 (by decide) (fun c16 => ?_) (fun c16 => ?_)
      · replace h := itt h c16
        replace h := Option.some.inj h
        subst h
        exact hk _ _ _  hw (lv_sub hl [0, 1, 2, 3, 4, 5] rfl)
      · replace h := itf h c16
        refine m_aload_n (x := x0) hx hb dX8_init_54 rfl (lv_at hl 0 rfl) ?_
        obtain ⟨v17, hv17, h⟩ := ob h
        refine m_getR hC hw (C := RX8) (T := TX8) (N := 4) hv17 ki_X8_init_X8 rfl (by decide) k_X8_init_19 (fun _ z => z) dX8_init_55 ?_
        refine lv_iload hx hb dX8_init_58 (lv_at hl 5 rfl) ?_
        refine lv_iconst (v := (1 : Int32)) hx hb dX8_init_60 (by decide) ?_
        refine lv_isub hx hb dX8_init_61 ?_
        obtain ⟨v18, hv18, h⟩ := ob h
        refine m_iald (x := v17) hC hw hv18 dX8_init_62 ?_
        refine lv_iload hx hb dX8_init_63 (lv_at hl 4 rfl) ?_
        refine lv_icmp_le (tgt := 106) hx hb dX8_init_65 (by decide) (fun c19 => ?_) (fun c19 => ?_)
        · replace h := itt h c19
          replace h := Option.some.inj h
          subst h
          exact hk _ _ _  hw (lv_sub hl [0, 1, 2, 3, 4, 5] rfl)
        · replace h := itf h c19
          refine m_aload_n (x := x0) hx hb dX8_init_68 rfl (lv_at hl 0 rfl) ?_
          obtain ⟨v20, hv20, h⟩ := ob h
          refine m_getR hC hw (C := RX8) (T := TX8) (N := 4) hv20 ki_X8_init_X8 rfl (by decide) k_X8_init_19 (fun _ z => z) dX8_init_69 ?_
          refine lv_iload hx hb dX8_init_72 (lv_at hl 5 rfl) ?_
          refine m_aload_n (x := x0) hx hb dX8_init_74 rfl (lv_at hl 0 rfl) ?_
          obtain ⟨v21, hv21, h⟩ := ob h
          refine m_getR hC hw (C := RX8) (T := TX8) (N := 4) hv21 ki_X8_init_X8 rfl (by decide) k_X8_init_19 (fun _ z => z) dX8_init_75 ?_
          refine lv_iload hx hb dX8_init_78 (lv_at hl 5 rfl) ?_
          refine lv_iconst (v := (1 : Int32)) hx hb dX8_init_80 (by decide) ?_
          refine lv_isub hx hb dX8_init_81 ?_
          obtain ⟨v22, hv22, h⟩ := ob h
          refine m_iald (x := v21) hC hw hv22 dX8_init_82 ?_
          obtain ⟨M23, hM23, h⟩ := ob h
          refine m_iast (x := v20) hC hw hM23 dX8_init_83 (fun H locs hw => ?_)
          refine m_aload_n (x := x0) hx hb dX8_init_84 rfl (lv_at hl 0 rfl) ?_
          obtain ⟨v24, hv24, h⟩ := ob h
          refine m_getR hC hw (C := RX8) (T := TX8) (N := 4) hv24 ki_X8_init_X8 rfl (by decide) k_X8_init_23 (fun _ z => z) dX8_init_85 ?_
          refine lv_iload hx hb dX8_init_88 (lv_at hl 5 rfl) ?_
          refine m_aload_n (x := x0) hx hb dX8_init_90 rfl (lv_at hl 0 rfl) ?_
          obtain ⟨v25, hv25, h⟩ := ob h
          refine m_getR hC hw (C := RX8) (T := TX8) (N := 4) hv25 ki_X8_init_X8 rfl (by decide) k_X8_init_23 (fun _ z => z) dX8_init_91 ?_
          refine lv_iload hx hb dX8_init_94 (lv_at hl 5 rfl) ?_
          refine lv_iconst (v := (1 : Int32)) hx hb dX8_init_96 (by decide) ?_
          refine lv_isub hx hb dX8_init_97 ?_
          obtain ⟨v26, hv26, h⟩ := ob h
          refine m_iald (x := v25) hC hw hv26 dX8_init_98 ?_
          obtain ⟨M27, hM27, h⟩ := ob h
          refine m_iast (x := v24) hC hw hM27 dX8_init_99 (fun H locs hw => ?_)
          refine lv_iinc (v := (x6 + (-1 : Int32))) (lv' := [(6, .int (x6 + (-1 : Int32))), (0, va_rf x0), (2, va_rf x2), (3, .int x3), (4, .int x4), (5, .int x5)]) hx hb dX8_init_100 hl (k := 5) rfl rfl (by decide) rfl (fun ls hl => ?_)
          refine lv_goto (tgt := 49) hx hb dX8_init_103 (by decide) ?_
          exact ih _ _ _ _ _ _ _ _ h hcl hsl hw (lv_sub hl [1, 2, 3, 4, 5, 0] rfl) hk
  have L31 : ∀ (x0 : Option Nat) (x2 : Option Nat) (x3 : Int32) (k : Nat) (Mz : Mem) (zz : Nat) (x4 : Int32) (cells slots : Nat) (CF SF : Nat) (H : Heap) (locs : List Loc) (ls : Array Slot), f_X8_init_L31 G.2.2.1 G.2.2.2 n x0 x2 x3 k Mz zz x4 = some r → cells + k * 0 ≤ CF → slots + k * 0 ≤ SF → CF + 106 ≤ 108 → SF + 30972 ≤ 31100 → wD G s M Mz zz H locs → lv_has ls 7 [(0, va_rf x0), (2, va_rf x2), (3, .int x3), (4, .int x4)] → W p l e rmX8_init s m args below meth c H locs cells slots Q (F0 m 31 ls []) := by
    intro x0 x2 x3 k
    induction k with
    | zero =>
      intro Mz zz x4 cells slots CF SF H locs ls h
      exact absurd (show (none : Option (Mem × Nat)) = some r from h) (fun z => by cases z)
    | succ k ih =>
      intro Mz zz x4 cells slots CF SF H locs ls h hcl hsl hCF hSF hw hl
      rw [f_X8_init_L31] at h
      refine lv_iload hx hb dX8_init_31 (lv_at hl 3 rfl) ?_
      refine lv_iload_n hx hb dX8_init_33 rfl (lv_at hl 2 rfl) ?_
      refine lv_icmp_ge (tgt := 138) hx hb dX8_init_34 (by decide) (fun c10 => ?_) (fun c10 => ?_)
      · replace h := itt h c10
        refine m_aload_n (x := x0) hx hb dX8_init_138 rfl (lv_at hl 0 rfl) ?_
        refine m_aload_n (x := x0) hx hb dX8_init_139 rfl (lv_at hl 0 rfl) ?_
        obtain ⟨v11, hv11, h⟩ := ob h
        refine m_getR hC hw (C := RX8) (T := TX8) (N := 4) hv11 ki_X8_init_X8 rfl (by decide) k_X8_init_19 (fun _ z => z) dX8_init_140 ?_
        refine m_aload_n (x := x0) hx hb dX8_init_143 rfl (lv_at hl 0 rfl) ?_
        obtain ⟨v12, hv12, h⟩ := ob h
        refine m_getR hC hw (C := RX8) (T := TX8) (N := 4) hv12 ki_X8_init_X8 rfl (by decide) k_X8_init_23 (fun _ z => z) dX8_init_144 ?_
        obtain ⟨r13, hr13, h⟩ := ob h
        refine m_contQ hC hw (m_runS hC hw (n := 2) (av := [va_rf v11, va_rf v12]) (rest := [va_rf x0]) (c_X8_write (G := G) (l := l) hr13) gX8_init_X8_write rfl (by decide +kernel) ⟨(Nat.le_of_ble_eq_true rfl), (Nat.le_of_ble_eq_true rfl)⟩ rfl hl.1 rfl (by simp [va_rf_cat, cat_i, cat_r, cat_l]) dX8_init_147 ⟨(show cells + 106 ≤ 108 from by omega), (show slots + 30972 ≤ 31100 from by omega)⟩) (fun H locs hw => ?_)
        obtain ⟨M14, hM14, h⟩ := ob h
        refine m_putF hC hw (C := RX8) (T := TX8) (N := 4) (x := x0) hM14 ki_X8_init_X8 tyX8 tyX8_ok nmX8 rfl (by decide) k_X8_init_40 (fun _ z => z) rfl hname rfl (nar_rf _ _ (by decide)) (fit_rf _ _ (by decide)) dX8_init_150 (fun H locs hw => ?_)
        replace h := Option.some.inj h
        subst h
        exact RET hw ⟨(show cells + 106 ≤ 108 from by omega), (show slots + 30972 ≤ 31100 from by omega)⟩ dX8_init_153
      · replace h := itf h c10
        refine m_aload_n (x := x2) hx hb dX8_init_37 rfl (lv_at hl 1 rfl) ?_
        refine lv_iload hx hb dX8_init_38 (lv_at hl 3 rfl) ?_
        obtain ⟨r15, hr15, h⟩ := ob h
        refine m_contI hC hw (m_runS hC hw (n := 2) (av := [va_rf x2, .int x4]) (rest := []) (c_X8_spotIn (G := G) (l := l) hr15) gX8_init_X8_spotIn rfl (by decide +kernel) ⟨(Nat.le_of_ble_eq_true rfl), (Nat.le_of_ble_eq_true rfl)⟩ rfl hl.1 rfl (Nat.le_of_ble_eq_true rfl) dX8_init_40 ⟨(show cells + 0 ≤ 108 from by omega), (show slots + 0 ≤ 31100 from by omega)⟩) (fun H locs hw => ?_)
        refine lv_istore (lv' := [(5, .int r15), (0, va_rf x0), (2, va_rf x2), (3, .int x3), (4, .int x4)]) hx hb dX8_init_43 hl (by decide) rfl (fun ls hl => ?_)
        refine lv_iload hx hb dX8_init_45 (lv_at hl 4 rfl) ?_
        refine lv_istore (lv' := [(6, .int x4), (5, .int r15), (0, va_rf x0), (2, va_rf x2), (3, .int x3), (4, .int x4)]) hx hb dX8_init_47 hl (by decide) rfl (fun ls hl => ?_)
        obtain ⟨o28, ho28, h⟩ := ob h
        refine L49 zz x0 x2 x3 x4 r15 _ _ _ _ _ _ _ _ _ ho28 (show cells + 0 ≤ 108 from by omega) (show slots + 0 ≤ 31100 from by omega) hw (lv_sub hl [2, 3, 4, 5, 1, 0] rfl) (fun H locs ls hw hl => ?_)
        refine m_aload_n (x := x0) hx hb dX8_init_106 rfl (lv_at hl 0 rfl) ?_
        obtain ⟨v29, hv29, h⟩ := ob h
        refine m_getR hC hw (C := RX8) (T := TX8) (N := 4) hv29 ki_X8_init_X8 rfl (by decide) k_X8_init_19 (fun _ z => z) dX8_init_107 ?_
        refine lv_iload hx hb dX8_init_110 (lv_at hl 5 rfl) ?_
        refine lv_iload hx hb dX8_init_112 (lv_at hl 4 rfl) ?_
        obtain ⟨M30, hM30, h⟩ := ob h
        refine m_iast (x := v29) hC hw hM30 dX8_init_114 (fun H locs hw => ?_)
        refine m_aload_n (x := x0) hx hb dX8_init_115 rfl (lv_at hl 0 rfl) ?_
        obtain ⟨v31, hv31, h⟩ := ob h
        refine m_getR hC hw (C := RX8) (T := TX8) (N := 4) hv31 ki_X8_init_X8 rfl (by decide) k_X8_init_23 (fun _ z => z) dX8_init_116 ?_
        refine lv_iload hx hb dX8_init_119 (lv_at hl 5 rfl) ?_
        refine m_aload_n (x := x2) hx hb dX8_init_121 rfl (lv_at hl 1 rfl) ?_
        refine lv_iconst (v := (3 : Int32)) hx hb dX8_init_122 (by decide) ?_
        refine lv_iload hx hb dX8_init_123 (lv_at hl 3 rfl) ?_
        refine lv_imul hx hb dX8_init_125 ?_
        refine lv_iconst (v := (2 : Int32)) hx hb dX8_init_126 (by decide) ?_
        refine lv_iadd hx hb dX8_init_127 ?_
        obtain ⟨g32, h⟩ := itg h
        obtain ⟨r33, hr33, h⟩ := ob h
        refine m_contI hC hw (m_runV hC hw (x := x2) (ci := 10) (N := 5) (C := RX7) (T := TX7) (n := 1) (av := [.int (((3 : Int32) * x4) + (2 : Int32))]) (rest := [.int o28.1, va_rf v31]) (c_X7_told (G := G) (l := l) hr33) gX8_init_X7_told rfl (by decide +kernel) ⟨(Nat.le_of_ble_eq_true rfl), (Nat.le_of_ble_eq_true rfl)⟩ g32 rfl rfl hl.1 rfl (by simp [va_rf_cat, cat_i, cat_r, cat_l]) dX8_init_128 ⟨(show cells + 0 ≤ 108 from by omega), (show slots + 0 ≤ 31100 from by omega)⟩) (fun H locs hw => ?_)
        obtain ⟨M34, hM34, h⟩ := ob h
        refine m_iast (x := v31) hC hw hM34 dX8_init_131 (fun H locs hw => ?_)
        refine lv_iinc (v := (x4 + (1 : Int32))) (lv' := [(4, .int (x4 + (1 : Int32))), (0, va_rf x0), (2, va_rf x2), (3, .int x3), (5, .int r15), (6, .int o28.1)]) hx hb dX8_init_132 hl (k := 3) rfl rfl (by decide) rfl (fun ls hl => ?_)
        refine lv_goto (tgt := 31) hx hb dX8_init_135 (by decide) ?_
        refine W.widen (k := cells + 0) (n := slots + 0) (show cells + 0 ≤ cells + 0 by omega) (show slots + 0 ≤ slots + 0 by omega) ?_
        exact ih _ _ _ _ _ CF SF _ _ _ h (by omega) (by omega) hCF hSF hw (lv_sub hl [1, 2, 3, 0] rfl)
  unfold f_X8_init at h
  refine m_aload_n (x := this) hx hb dX8_init_0 rfl (lv_at hl 0 rfl) ?_
  obtain ⟨g1, h⟩ := itg h
  refine m_objInit (x := this) (isN_some g1) hC (hC.tab _ k_X8_init_oi3) (hC.tab _ k_X8_init_oj) (hC.tab _ k_X8_init_ok) hl.1 ((Nat.le_of_ble_eq_true rfl)) (Nat.le_of_ble_eq_true rfl) (Nat.le_of_ble_eq_true rfl) dX8_init_1 ?_
  refine m_aload_n (x := this) hx hb dX8_init_4 rfl (lv_at hl 0 rfl) ?_
  refine lv_iload_n hx hb dX8_init_5 rfl (lv_at hl 1 rfl) ?_
  obtain ⟨M2, hM2, h⟩ := ob h
  refine m_putF hC hw (C := RX8) (T := TX8) (N := 4) (x := this) hM2 ki_X8_init_X8 tyX8 tyX8_ok nmX8 rfl (by decide) k_X8_init_9 (fun _ z => z) rfl hname rfl rfl rfl dX8_init_6 (fun H locs hw => ?_)
  refine m_aload_n (x := a2) hx hb dX8_init_9 rfl (lv_at hl 2 rfl) ?_
  obtain ⟨r3, hr3, h⟩ := ob h
  refine m_contI hC hw (m_runS hC hw (n := 1) (av := [va_rf a2]) (rest := []) (c_X8_harmsIn (G := G) (l := l) hr3) gX8_init_X8_harmsIn rfl (by decide +kernel) ⟨(Nat.le_of_ble_eq_true rfl), (Nat.le_of_ble_eq_true rfl)⟩ rfl hl.1 rfl (Nat.le_of_ble_eq_true rfl) dX8_init_10 ⟨(Nat.zero_le _), (Nat.zero_le _)⟩) (fun H locs hw => ?_)
  refine lv_istore_n (i := 3) (lv' := [(3, .int r3), (0, va_rf this), (1, .int a1), (2, va_rf a2)]) hx hb dX8_init_13 rfl hl (by decide) (by simp [va_rf_cat, cat_i, cat_l]) (fun ls hl => ?_)
  refine m_aload_n (x := this) hx hb dX8_init_14 rfl (lv_at hl 1 rfl) ?_
  refine lv_iload_n hx hb dX8_init_15 rfl (lv_at hl 0 rfl) ?_
  obtain ⟨g5, h⟩ := itg h
  obtain ⟨M4, hM4, h⟩ := ob h
  refine m_newI (atype := .int) (t := 0) (n := r3) (cap := 64) hC hw rfl (fun _ _ => rfl) (by decide) k_X8_init_naint (nmA0 hC) g5.1 g5.2 (by decide) (Nat.le_of_ble_eq_true rfl) (Nat.le_of_ble_eq_true rfl) dX8_init_16 (fun H hw => ?_)
  rw [Option.some.inj hM4] at hw
  obtain ⟨M6, hM6, h⟩ := ob h
  refine m_putF hC hw (C := RX8) (T := TX8) (N := 4) (x := this) hM6 ki_X8_init_X8 tyX8 tyX8_ok nmX8 rfl (by decide) k_X8_init_19 (fun _ z => z) rfl hname rfl (nar_rf _ _ (by decide)) (fit_rf _ _ (by decide)) dX8_init_18 (fun H locs hw => ?_)
  refine m_aload_n (x := this) hx hb dX8_init_21 rfl (lv_at hl 1 rfl) ?_
  refine lv_iload_n hx hb dX8_init_22 rfl (lv_at hl 0 rfl) ?_
  obtain ⟨g8, h⟩ := itg h
  obtain ⟨M7, hM7, h⟩ := ob h
  refine m_newI (atype := .int) (t := 0) (n := r3) (cap := 64) hC hw rfl (fun _ _ => rfl) (by decide) k_X8_init_naint (nmA0 hC) g8.1 g8.2 (by decide) (Nat.le_of_ble_eq_true rfl) (Nat.le_of_ble_eq_true rfl) dX8_init_23 (fun H hw => ?_)
  rw [Option.some.inj hM7] at hw
  obtain ⟨M9, hM9, h⟩ := ob h
  refine m_putF hC hw (C := RX8) (T := TX8) (N := 4) (x := this) hM9 ki_X8_init_X8 tyX8 tyX8_ok nmX8 rfl (by decide) k_X8_init_23 (fun _ z => z) rfl hname rfl (nar_rf _ _ (by decide)) (fit_rf _ _ (by decide)) dX8_init_25 (fun H locs hw => ?_)
  refine lv_iconst (v := (0 : Int32)) hx hb dX8_init_28 (by decide) ?_
  refine lv_istore (lv' := [(4, .int (0 : Int32)), (3, .int r3), (0, va_rf this), (1, .int a1), (2, va_rf a2)]) hx hb dX8_init_29 hl (by decide) rfl (fun ls hl => ?_)
  exact L31 this a2 r3 _ _ _ _ _ _ 2 128 _ _ _ h (by decide) (by decide) (Nat.le_of_ble_eq_true rfl) (Nat.le_of_ble_eq_true rfl) hw (lv_sub hl [2, 4, 1, 0] rfl)

def f_X10_addReport (B : Nat) (S : Nat → Nat) (n : Nat) (M : Mem) (sz : Nat) (this : Option Nat) (a1 : Option Nat) : Option (Mem × Nat) := (gR M this 13 8).bind fun v1 => (gI M a1 11 0).bind fun v2 => if isO M this 13 = true then ((f_X10_latestReport n M this v2).bind fun r4 => if isO M v1 2 = true then ((f_Jx4a65c_add_7a177 B S M sz v1 (r4 + (1 : Int32)) a1).bind fun r6 => some (r6.1, r6.2)) else none) else none
def rmX10_addReport : Room := { frames := 6, cells := 1, slots := 80, locals := 171 }
theorem k_X10_addReport_30 : Cond.fieldLink RX10 30 "LoanBook$Thing" "reports" "Ljava/util/ArrayList;" ∈ wsX10_addReport := List.mem_of_getElem? (i := 1) rfl
theorem ki_X10_addReport_X10 : ∀ w ∈ u_ws RX10 TX10 9, w ∈ wsX10_addReport := sub_r [86, 87, 88, 89, 90, 91, 92, 93, 94] (by decide +kernel)
theorem k_X10_addReport_106 : Cond.fieldLink RX10 106 "LoanBook$Report" "day" "I" ∈ wsX10_addReport := List.mem_of_getElem? (i := 2) rfl
theorem ki_X10_addReport_X8 : ∀ w ∈ u_ws RX8 TX8 4, w ∈ wsX10_addReport := sub_r [95, 96, 97, 98] (by decide +kernel)
set_option maxHeartbeats 4000000 in
set_option maxRecDepth 100000 in
theorem c_X10_addReport {G : wG} {l : Launch} {n : Nat} {M : Mem} {sz : Nat} {this : Option Nat} {a1 : Option Nat} {r : Mem × Nat} (h : f_X10_addReport G.2.2.1 G.2.2.2 n M sz this a1 = some r) : CtrV G l yX10_addReport wsX10_addReport rmX10_addReport [va_rf this, va_rf a1] M sz r.1 r.2 := by
  refine m_startV (own := RX10) (cc := cX10_addReport) (maxL := 2) (lv0 := [(0, va_rf this), (1, va_rf a1)]) (by decide) rfl rfl (by simp [lg_sl, va_rf_cat, cat_i, cat_r]) (by simp [lv_args, va_rf_cat, cat_i, cat_r]) ?_
  intro p e s m args below meth c Q hC hname RET hsz hw ls hl
  have hx := hC.1
  have hb := hC.2.1
  unfold f_X10_addReport at h
  refine m_aload_n (x := this) hx hb dX10_addReport_0 rfl (lv_at hl 0 rfl) ?_
  obtain ⟨v1, hv1, h⟩ := ob h
  refine m_getR hC hw (C := RX10) (T := TX10) (N := 9) hv1 ki_X10_addReport_X10 rfl (by decide) k_X10_addReport_30 (fun _ z => z) dX10_addReport_1 ?_
  refine m_aload_n (x := this) hx hb dX10_addReport_4 rfl (lv_at hl 0 rfl) ?_
  refine m_aload_n (x := a1) hx hb dX10_addReport_5 rfl (lv_at hl 1 rfl) ?_
  obtain ⟨v2, hv2, h⟩ := ob h
  refine m_getI hC hw (C := RX8) (T := TX8) (N := 4) hv2 ki_X10_addReport_X8 rfl (by decide) k_X10_addReport_106 (fun _ z => z) dX10_addReport_6 ?_
  obtain ⟨g3, h⟩ := itg h
  obtain ⟨r4, hr4, h⟩ := ob h
  refine m_contI hC hw (m_runV hC hw (x := this) (ci := 13) (N := 9) (C := RX10) (T := TX10) (n := 1) (av := [.int v2]) (rest := [va_rf v1]) (c_X10_latestReport (G := G) (l := l) hr4) gX10_addReport_X10_latestReport rfl (by decide +kernel) ⟨(Nat.le_of_ble_eq_true rfl), (Nat.le_of_ble_eq_true rfl)⟩ g3 rfl rfl hl.1 rfl (by simp [va_rf_cat, cat_i, cat_r, cat_l]) dX10_addReport_9 ⟨(Nat.zero_le _), (Nat.zero_le _)⟩) (fun H locs hw => ?_)
  refine lv_iconst (v := (1 : Int32)) hx hb dX10_addReport_12 (by decide) ?_
  refine lv_iadd hx hb dX10_addReport_13 ?_
  refine m_aload_n (x := a1) hx hb dX10_addReport_14 rfl (lv_at hl 1 rfl) ?_
  obtain ⟨g5, h⟩ := itg h
  obtain ⟨r6, hr6, h⟩ := ob h
  refine m_contV hC hw (m_runV hC hw (x := v1) (ci := 2) (N := 3) (C := RJx4a65c) (T := TJx4a65c) (n := 2) (av := [.int (r4 + (1 : Int32)), va_rf a1]) (rest := []) (c_Jx4a65c_add_7a177 (G := G) (l := l) hr6) gX10_addReport_Jx4a65c_add_7a177 rfl (by decide +kernel) ⟨(Nat.le_of_ble_eq_true rfl), (Nat.le_of_ble_eq_true rfl)⟩ g5 rfl rfl hl.1 rfl (Nat.le_of_ble_eq_true rfl) dX10_addReport_15 ⟨(Nat.le_of_ble_eq_true rfl), (Nat.le_of_ble_eq_true rfl)⟩) (fun H locs hw => ?_)
  replace h := Option.some.inj h
  subst h
  exact RET hw ⟨(Nat.le_of_ble_eq_true rfl), (Nat.le_of_ble_eq_true rfl)⟩ dX10_addReport_18

def f_X10_reportsTold (M : Mem) (this : Option Nat) : Option (Int32) := (gR M this 13 8).bind fun v1 => if isO M v1 2 = true then ((f_Jx4a65c_size_8abf5 M v1).bind fun r3 => some (r3)) else none
def rmX10_reportsTold : Room := { frames := 1, cells := 0, slots := 0, locals := 20 }
theorem k_X10_reportsTold_30 : Cond.fieldLink RX10 30 "LoanBook$Thing" "reports" "Ljava/util/ArrayList;" ∈ wsX10_reportsTold := List.mem_of_getElem? (i := 1) rfl
theorem ki_X10_reportsTold_X10 : ∀ w ∈ u_ws RX10 TX10 9, w ∈ wsX10_reportsTold := sub_r [8, 9, 10, 11, 12, 13, 14, 15, 16] (by decide +kernel)
set_option maxHeartbeats 4000000 in
set_option maxRecDepth 100000 in
theorem c_X10_reportsTold {G : wG} {l : Launch} {M : Mem} {sz : Nat} {this : Option Nat} {r : Int32} (h : f_X10_reportsTold M this = some r) : CtrI G l yX10_reportsTold wsX10_reportsTold rmX10_reportsTold [va_rf this] M sz r M sz := by
  refine m_startI (own := RX10) (cc := cX10_reportsTold) (maxL := 1) (lv0 := [(0, va_rf this)]) (by decide) rfl rfl (by simp [lg_sl, va_rf_cat, cat_i, cat_r]) (by simp [lv_args, va_rf_cat, cat_i, cat_r]) ?_
  intro p e s m args below meth c Q hC hname RET hsz hw ls hl
  have hx := hC.1
  have hb := hC.2.1
  unfold f_X10_reportsTold at h
  refine m_aload_n (x := this) hx hb dX10_reportsTold_0 rfl (lv_at hl 0 rfl) ?_
  obtain ⟨v1, hv1, h⟩ := ob h
  refine m_getR hC hw (C := RX10) (T := TX10) (N := 9) hv1 ki_X10_reportsTold_X10 rfl (by decide) k_X10_reportsTold_30 (fun _ z => z) dX10_reportsTold_1 ?_
  obtain ⟨g2, h⟩ := itg h
  obtain ⟨r3, hr3, h⟩ := ob h
  refine m_contI hC hw (m_runV hC hw (x := v1) (ci := 2) (N := 3) (C := RJx4a65c) (T := TJx4a65c) (n := 0) (av := []) (rest := []) (c_Jx4a65c_size_8abf5 (G := G) (l := l) hr3) gX10_reportsTold_Jx4a65c_size_8abf5 rfl (by decide +kernel) ⟨(Nat.le_of_ble_eq_true rfl), (Nat.le_of_ble_eq_true rfl)⟩ g2 rfl rfl hl.1 rfl (Nat.le_of_ble_eq_true rfl) dX10_reportsTold_4 ⟨(Nat.zero_le _), (Nat.zero_le _)⟩) (fun H locs hw => ?_)
  replace h := Option.some.inj h
  subst h
  exact RET hw ⟨(Nat.zero_le _), (Nat.zero_le _)⟩ dX10_reportsTold_7

def f_X0_tells (n : Nat) (M : Mem) (this : Option Nat) (a1 : Int32) : Option (Int32) := if isO M this 3 = true then ((f_X0_latest n M this a1).bind fun r2 => if r2 < 0 then (some (0 : Int32)) else ((gI M this 3 2).bind fun v4 => if v4 ≤ r2 then (some (0 : Int32)) else ((gR M this 3 0).bind fun v6 => (aI M 0 v6 r2).bind fun v7 => if v7 = a1 then (some (1 : Int32)) else (some (0 : Int32))))) else none
def rmX0_tells : Room := { frames := 1, cells := 0, slots := 0, locals := 22 }
theorem k_X0_tells_18 : Cond.fieldLink RX0 18 "LoanBook$Appraisals" "size" "I" ∈ wsX0_tells := List.mem_of_getElem? (i := 1) rfl
theorem ki_X0_tells_X0 : ∀ w ∈ u_ws RX0 TX0 3, w ∈ wsX0_tells := sub_r [8, 9, 10] (by decide +kernel)
theorem k_X0_tells_9 : Cond.fieldLink RX0 9 "LoanBook$Appraisals" "days" "[I" ∈ wsX0_tells := List.mem_of_getElem? (i := 2) rfl
set_option maxHeartbeats 4000000 in
set_option maxRecDepth 100000 in
theorem c_X0_tells {G : wG} {l : Launch} {n : Nat} {M : Mem} {sz : Nat} {this : Option Nat} {a1 : Int32} {r : Int32} (h : f_X0_tells n M this a1 = some r) : CtrI G l yX0_tells wsX0_tells rmX0_tells [va_rf this, .int a1] M sz r M sz := by
  refine m_startZ (own := RX0) (cc := cX0_tells) (maxL := 3) (lv0 := [(0, va_rf this), (1, .int a1)]) (by decide) rfl rfl (by simp [lg_sl, va_rf_cat, cat_i, cat_r]) (by simp [lv_args, va_rf_cat, cat_i, cat_r]) ?_
  intro p e s m args below meth c Q hC hname RET hsz hw ls hl
  have hx := hC.1
  have hb := hC.2.1
  unfold f_X0_tells at h
  refine m_aload_n (x := this) hx hb dX0_tells_0 rfl (lv_at hl 0 rfl) ?_
  refine lv_iload_n hx hb dX0_tells_1 rfl (lv_at hl 1 rfl) ?_
  obtain ⟨g1, h⟩ := itg h
  obtain ⟨r2, hr2, h⟩ := ob h
  refine m_contI hC hw (m_runV hC hw (x := this) (ci := 3) (N := 3) (C := RX0) (T := TX0) (n := 1) (av := [.int a1]) (rest := []) (c_X0_latest (G := G) (l := l) hr2) gX0_tells_X0_latest rfl (by decide +kernel) ⟨(Nat.le_of_ble_eq_true rfl), (Nat.le_of_ble_eq_true rfl)⟩ g1 rfl rfl hl.1 rfl (Nat.le_of_ble_eq_true rfl) dX0_tells_2 ⟨(Nat.zero_le _), (Nat.zero_le _)⟩) (fun H locs hw => ?_)
  refine lv_istore_n (i := 2) (lv' := [(2, .int r2), (0, va_rf this), (1, .int a1)]) hx hb dX0_tells_5 rfl hl (by decide) rfl (fun ls hl => ?_)
  refine lv_iload_n hx hb dX0_tells_6 rfl (lv_at hl 0 rfl) ?_
  refine lv_if_lt (tgt := 32) hx hb dX0_tells_7 (by decide) (fun c3 => ?_) (fun c3 => ?_)
  · replace h := itt h c3
    refine lv_iconst (v := (0 : Int32)) hx hb dX0_tells_32 (by decide) ?_
    replace h := Option.some.inj h
    subst h
    exact RET (isZ.nar (Or.inl rfl)) hw ⟨(Nat.zero_le _), (Nat.zero_le _)⟩ dX0_tells_33
  · replace h := itf h c3
    refine lv_iload_n hx hb dX0_tells_10 rfl (lv_at hl 0 rfl) ?_
    refine m_aload_n (x := this) hx hb dX0_tells_11 rfl (lv_at hl 1 rfl) ?_
    obtain ⟨v4, hv4, h⟩ := ob h
    refine m_getI hC hw (C := RX0) (T := TX0) (N := 3) hv4 ki_X0_tells_X0 rfl (by decide) k_X0_tells_18 (fun _ z => z) dX0_tells_12 ?_
    refine lv_icmp_ge (tgt := 32) hx hb dX0_tells_15 (by decide) (fun c5 => ?_) (fun c5 => ?_)
    · replace h := itt h c5
      refine lv_iconst (v := (0 : Int32)) hx hb dX0_tells_32 (by decide) ?_
      replace h := Option.some.inj h
      subst h
      exact RET (isZ.nar (Or.inl rfl)) hw ⟨(Nat.zero_le _), (Nat.zero_le _)⟩ dX0_tells_33
    · replace h := itf h c5
      refine m_aload_n (x := this) hx hb dX0_tells_18 rfl (lv_at hl 1 rfl) ?_
      obtain ⟨v6, hv6, h⟩ := ob h
      refine m_getR hC hw (C := RX0) (T := TX0) (N := 3) hv6 ki_X0_tells_X0 rfl (by decide) k_X0_tells_9 (fun _ z => z) dX0_tells_19 ?_
      refine lv_iload_n hx hb dX0_tells_22 rfl (lv_at hl 0 rfl) ?_
      obtain ⟨v7, hv7, h⟩ := ob h
      refine m_iald (x := v6) hC hw hv7 dX0_tells_23 ?_
      refine lv_iload_n hx hb dX0_tells_24 rfl (lv_at hl 2 rfl) ?_
      refine lv_icmp_ne (tgt := 32) hx hb dX0_tells_25 (by decide) (fun c8 => ?_) (fun c8 => ?_)
      · replace h := itf h c8
        refine lv_iconst (v := (0 : Int32)) hx hb dX0_tells_32 (by decide) ?_
        replace h := Option.some.inj h
        subst h
        exact RET (isZ.nar (Or.inl rfl)) hw ⟨(Nat.zero_le _), (Nat.zero_le _)⟩ dX0_tells_33
      · replace h := itt h c8
        refine lv_iconst (v := (1 : Int32)) hx hb dX0_tells_28 (by decide) ?_
        refine lv_goto (tgt := 33) hx hb dX0_tells_29 (by decide) ?_
        replace h := Option.some.inj h
        subst h
        exact RET (isZ.nar (Or.inr rfl)) hw ⟨(Nat.zero_le _), (Nat.zero_le _)⟩ dX0_tells_33

def f_X0_insertAt_L27 (B : Nat) (n : Nat) (x0 : Option Nat) (x1 : Int32) (x2 : Int32) : Nat → Mem → Int32 → Option (Mem)
  | 0, _, _ => none
  | k + 1, Mz, x3 => if x3 ≤ x1 then ((gR Mz x0 3 0).bind fun v8 => (sI B Mz 0 v8 x1 x2).bind fun M9 => (gI M9 x0 3 2).bind fun v10 => (pF B M9 x0 3 2 (.int (v10 + (1 : Int32)))).bind fun M11 => some (M11)) else ((gR Mz x0 3 0).bind fun v12 => (gR Mz x0 3 0).bind fun v13 => (aI Mz 0 v13 (x3 - (1 : Int32))).bind fun v14 => (sI B Mz 0 v12 x3 v14).bind fun M15 => (gR M15 x0 3 1).bind fun v16 => (gR M15 x0 3 1).bind fun v17 => (aI M15 0 v17 (x3 - (1 : Int32))).bind fun v18 => (sI B M15 0 v16 x3 v18).bind fun M19 => f_X0_insertAt_L27 B n x0 x1 x2 k M19 (x3 + (-1 : Int32)))
def f_X0_insertAt (B : Nat) (n : Nat) (M : Mem) (this : Option Nat) (a1 : Int32) (a2 : Int32) : Option (Mem) := (gI M this 3 2).bind fun v1 => if (48 : Int32) ≤ v1 then (some (M)) else (if a1 < 0 then (some (M)) else ((gI M this 3 2).bind fun v4 => if a1 ≤ v4 then ((gI M this 3 2).bind fun v6 => f_X0_insertAt_L27 B n this a1 a2 n M v6) else (some (M))))
def rmX0_insertAt : Room := { frames := 0, cells := 0, slots := 0, locals := 0 }
theorem k_X0_insertAt_18 : Cond.fieldLink RX0 18 "LoanBook$Appraisals" "size" "I" ∈ wsX0_insertAt := List.mem_of_getElem? (i := 1) rfl
theorem ki_X0_insertAt_X0 : ∀ w ∈ u_ws RX0 TX0 3, w ∈ wsX0_insertAt := sub_r [4, 5, 6] (by decide +kernel)
theorem k_X0_insertAt_9 : Cond.fieldLink RX0 9 "LoanBook$Appraisals" "days" "[I" ∈ wsX0_insertAt := List.mem_of_getElem? (i := 2) rfl
theorem k_X0_insertAt_15 : Cond.fieldLink RX0 15 "LoanBook$Appraisals" "values" "[I" ∈ wsX0_insertAt := List.mem_of_getElem? (i := 3) rfl
set_option maxHeartbeats 4000000 in
set_option maxRecDepth 100000 in
theorem c_X0_insertAt {G : wG} {l : Launch} {n : Nat} {M : Mem} {sz : Nat} {this : Option Nat} {a1 : Int32} {a2 : Int32} {r : Mem} (h : f_X0_insertAt G.2.2.1 n M this a1 a2 = some r) : CtrV G l yX0_insertAt wsX0_insertAt rmX0_insertAt [va_rf this, .int a1, .int a2] M sz r sz := by
  refine m_startV (own := RX0) (cc := cX0_insertAt) (maxL := 4) (lv0 := [(0, va_rf this), (1, .int a1), (2, .int a2)]) (by decide) rfl rfl (by simp [lg_sl, va_rf_cat, cat_i, cat_r]) (by simp [lv_args, va_rf_cat, cat_i, cat_r]) ?_
  intro p e s m args below meth c Q hC hname RET hsz hw ls hl
  have hx := hC.1
  have hb := hC.2.1
  have L27 : ∀ (x0 : Option Nat) (x1 : Int32) (x2 : Int32) (k : Nat) (Mz : Mem) (x3 : Int32) (cells slots : Nat) (H : Heap) (locs : List Loc) (ls : Array Slot), f_X0_insertAt_L27 G.2.2.1 n x0 x1 x2 k Mz x3 = some r → cells ≤ 0 → slots ≤ 0 → wD G s M Mz sz H locs → lv_has ls 4 [(0, va_rf x0), (1, .int x1), (2, .int x2), (3, .int x3)] → W p l e rmX0_insertAt s m args below meth c H locs cells slots Q (F0 m 27 ls []) := by
    intro x0 x1 x2 k
    induction k with
    | zero =>
      intro Mz x3 cells slots H locs ls h
      exact absurd (show (none : Option (Mem)) = some r from h) (fun z => by cases z)
    | succ k ih =>
      intro Mz x3 cells slots H locs ls h hcl hsl hw hl
      rw [f_X0_insertAt_L27] at h
      refine lv_iload_n hx hb dX0_insertAt_27 rfl (lv_at hl 3 rfl) ?_
      refine lv_iload_n hx hb dX0_insertAt_28 rfl (lv_at hl 1 rfl) ?_
      refine lv_icmp_le (tgt := 66) hx hb dX0_insertAt_29 (by decide) (fun c7 => ?_) (fun c7 => ?_)
      · replace h := itt h c7
        refine m_aload_n (x := x0) hx hb dX0_insertAt_66 rfl (lv_at hl 0 rfl) ?_
        obtain ⟨v8, hv8, h⟩ := ob h
        refine m_getR hC hw (C := RX0) (T := TX0) (N := 3) hv8 ki_X0_insertAt_X0 rfl (by decide) k_X0_insertAt_9 (fun _ z => z) dX0_insertAt_67 ?_
        refine lv_iload_n hx hb dX0_insertAt_70 rfl (lv_at hl 1 rfl) ?_
        refine lv_iload_n hx hb dX0_insertAt_71 rfl (lv_at hl 2 rfl) ?_
        obtain ⟨M9, hM9, h⟩ := ob h
        refine m_iast (x := v8) hC hw hM9 dX0_insertAt_72 (fun H locs hw => ?_)
        refine m_aload_n (x := x0) hx hb dX0_insertAt_73 rfl (lv_at hl 0 rfl) ?_
        refine m_dup (x := x0) hx hb dX0_insertAt_74 ?_
        obtain ⟨v10, hv10, h⟩ := ob h
        refine m_getI hC hw (C := RX0) (T := TX0) (N := 3) hv10 ki_X0_insertAt_X0 rfl (by decide) k_X0_insertAt_18 (fun _ z => z) dX0_insertAt_75 ?_
        refine lv_iconst (v := (1 : Int32)) hx hb dX0_insertAt_78 (by decide) ?_
        refine lv_iadd hx hb dX0_insertAt_79 ?_
        obtain ⟨M11, hM11, h⟩ := ob h
        refine m_put hC hw (C := RX0) (T := TX0) (N := 3) (x := x0) hM11 ki_X0_insertAt_X0 tyX0 tyX0_ok nmX0 rfl (by decide) k_X0_insertAt_18 (fun _ z => z) rfl rfl rfl dX0_insertAt_80 (fun H locs hw => ?_)
        replace h := Option.some.inj h
        subst h
        exact RET hw ⟨(show cells + 0 ≤ 0 from by omega), (show slots + 0 ≤ 0 from by omega)⟩ dX0_insertAt_83
      · replace h := itf h c7
        refine m_aload_n (x := x0) hx hb dX0_insertAt_32 rfl (lv_at hl 0 rfl) ?_
        obtain ⟨v12, hv12, h⟩ := ob h
        refine m_getR hC hw (C := RX0) (T := TX0) (N := 3) hv12 ki_X0_insertAt_X0 rfl (by decide) k_X0_insertAt_9 (fun _ z => z) dX0_insertAt_33 ?_
        refine lv_iload_n hx hb dX0_insertAt_36 rfl (lv_at hl 3 rfl) ?_
        refine m_aload_n (x := x0) hx hb dX0_insertAt_37 rfl (lv_at hl 0 rfl) ?_
        obtain ⟨v13, hv13, h⟩ := ob h
        refine m_getR hC hw (C := RX0) (T := TX0) (N := 3) hv13 ki_X0_insertAt_X0 rfl (by decide) k_X0_insertAt_9 (fun _ z => z) dX0_insertAt_38 ?_
        refine lv_iload_n hx hb dX0_insertAt_41 rfl (lv_at hl 3 rfl) ?_
        refine lv_iconst (v := (1 : Int32)) hx hb dX0_insertAt_42 (by decide) ?_
        refine lv_isub hx hb dX0_insertAt_43 ?_
        obtain ⟨v14, hv14, h⟩ := ob h
        refine m_iald (x := v13) hC hw hv14 dX0_insertAt_44 ?_
        obtain ⟨M15, hM15, h⟩ := ob h
        refine m_iast (x := v12) hC hw hM15 dX0_insertAt_45 (fun H locs hw => ?_)
        refine m_aload_n (x := x0) hx hb dX0_insertAt_46 rfl (lv_at hl 0 rfl) ?_
        obtain ⟨v16, hv16, h⟩ := ob h
        refine m_getR hC hw (C := RX0) (T := TX0) (N := 3) hv16 ki_X0_insertAt_X0 rfl (by decide) k_X0_insertAt_15 (fun _ z => z) dX0_insertAt_47 ?_
        refine lv_iload_n hx hb dX0_insertAt_50 rfl (lv_at hl 3 rfl) ?_
        refine m_aload_n (x := x0) hx hb dX0_insertAt_51 rfl (lv_at hl 0 rfl) ?_
        obtain ⟨v17, hv17, h⟩ := ob h
        refine m_getR hC hw (C := RX0) (T := TX0) (N := 3) hv17 ki_X0_insertAt_X0 rfl (by decide) k_X0_insertAt_15 (fun _ z => z) dX0_insertAt_52 ?_
        refine lv_iload_n hx hb dX0_insertAt_55 rfl (lv_at hl 3 rfl) ?_
        refine lv_iconst (v := (1 : Int32)) hx hb dX0_insertAt_56 (by decide) ?_
        refine lv_isub hx hb dX0_insertAt_57 ?_
        obtain ⟨v18, hv18, h⟩ := ob h
        refine m_iald (x := v17) hC hw hv18 dX0_insertAt_58 ?_
        obtain ⟨M19, hM19, h⟩ := ob h
        refine m_iast (x := v16) hC hw hM19 dX0_insertAt_59 (fun H locs hw => ?_)
        refine lv_iinc (v := (x3 + (-1 : Int32))) (lv' := [(3, .int (x3 + (-1 : Int32))), (0, va_rf x0), (1, .int x1), (2, .int x2)]) hx hb dX0_insertAt_60 hl (k := 3) rfl rfl (by decide) rfl (fun ls hl => ?_)
        refine lv_goto (tgt := 27) hx hb dX0_insertAt_63 (by decide) ?_
        exact ih _ _ _ _ _ _ _ h hcl hsl hw (lv_sub hl [1, 2, 3, 0] rfl)
  unfold f_X0_insertAt at h
  refine m_aload_n (x := this) hx hb dX0_insertAt_0 rfl (lv_at hl 0 rfl) ?_
  obtain ⟨v1, hv1, h⟩ := ob h
  refine m_getI hC hw (C := RX0) (T := TX0) (N := 3) hv1 ki_X0_insertAt_X0 rfl (by decide) k_X0_insertAt_18 (fun _ z => z) dX0_insertAt_1 ?_
  refine lv_bipush (v := (48 : Int32)) hx hb dX0_insertAt_4 (by decide) ?_
  refine lv_icmp_ge (tgt := 21) hx hb dX0_insertAt_6 (by decide) (fun c2 => ?_) (fun c2 => ?_)
  · replace h := itt h c2
    replace h := Option.some.inj h
    subst h
    exact RET hw ⟨(Nat.zero_le _), (Nat.zero_le _)⟩ dX0_insertAt_21
  · replace h := itf h c2
    refine lv_iload_n hx hb dX0_insertAt_9 rfl (lv_at hl 1 rfl) ?_
    refine lv_if_lt (tgt := 21) hx hb dX0_insertAt_10 (by decide) (fun c3 => ?_) (fun c3 => ?_)
    · replace h := itt h c3
      replace h := Option.some.inj h
      subst h
      exact RET hw ⟨(Nat.zero_le _), (Nat.zero_le _)⟩ dX0_insertAt_21
    · replace h := itf h c3
      refine lv_iload_n hx hb dX0_insertAt_13 rfl (lv_at hl 1 rfl) ?_
      refine m_aload_n (x := this) hx hb dX0_insertAt_14 rfl (lv_at hl 0 rfl) ?_
      obtain ⟨v4, hv4, h⟩ := ob h
      refine m_getI hC hw (C := RX0) (T := TX0) (N := 3) hv4 ki_X0_insertAt_X0 rfl (by decide) k_X0_insertAt_18 (fun _ z => z) dX0_insertAt_15 ?_
      refine lv_icmp_le (tgt := 22) hx hb dX0_insertAt_18 (by decide) (fun c5 => ?_) (fun c5 => ?_)
      · replace h := itt h c5
        refine m_aload_n (x := this) hx hb dX0_insertAt_22 rfl (lv_at hl 0 rfl) ?_
        obtain ⟨v6, hv6, h⟩ := ob h
        refine m_getI hC hw (C := RX0) (T := TX0) (N := 3) hv6 ki_X0_insertAt_X0 rfl (by decide) k_X0_insertAt_18 (fun _ z => z) dX0_insertAt_23 ?_
        refine lv_istore_n (i := 3) (lv' := [(3, .int v6), (0, va_rf this), (1, .int a1), (2, .int a2)]) hx hb dX0_insertAt_26 rfl hl (by decide) rfl (fun ls hl => ?_)
        exact L27 this a1 a2 _ _ _ _ _ _ _ _ h (Nat.zero_le _) (Nat.zero_le _) hw (lv_sub hl [1, 2, 3, 0] rfl)
      · replace h := itf h c5
        replace h := Option.some.inj h
        subst h
        exact RET hw ⟨(Nat.zero_le _), (Nat.zero_le _)⟩ dX0_insertAt_21

def f_X0_tell (B : Nat) (n : Nat) (M : Mem) (this : Option Nat) (a1 : Int32) (a2 : Int32) : Option (Mem) := if isO M this 3 = true then ((f_X0_tells n M this a1).bind fun r2 => ((if r2 = 0 then (if isO M this 3 = true then ((f_X0_latest n M this a1).bind fun r6 => if isO M this 3 = true then ((f_X0_insertAt B n M this (r6 + (1 : Int32)) a1).bind fun r8 => some (r8)) else none) else none) else (some (M))) : Option (Mem)).bind fun o9 => if isO o9 this 3 = true then ((f_X0_latest n o9 this a1).bind fun r11 => if r11 < 0 then (some (o9)) else ((gI o9 this 3 2).bind fun v13 => if v13 ≤ r11 then (some (o9)) else ((gR o9 this 3 1).bind fun v15 => (sI B o9 0 v15 r11 a2).bind fun M16 => some (M16)))) else none) else none
def rmX0_tell : Room := { frames := 2, cells := 0, slots := 0, locals := 44 }
theorem k_X0_tell_18 : Cond.fieldLink RX0 18 "LoanBook$Appraisals" "size" "I" ∈ wsX0_tell := List.mem_of_getElem? (i := 1) rfl
theorem ki_X0_tell_X0 : ∀ w ∈ u_ws RX0 TX0 3, w ∈ wsX0_tell := sub_r [17, 18, 19] (by decide +kernel)
theorem k_X0_tell_15 : Cond.fieldLink RX0 15 "LoanBook$Appraisals" "values" "[I" ∈ wsX0_tell := List.mem_of_getElem? (i := 2) rfl
set_option maxHeartbeats 4000000 in
set_option maxRecDepth 100000 in
theorem c_X0_tell {G : wG} {l : Launch} {n : Nat} {M : Mem} {sz : Nat} {this : Option Nat} {a1 : Int32} {a2 : Int32} {r : Mem} (h : f_X0_tell G.2.2.1 n M this a1 a2 = some r) : CtrV G l yX0_tell wsX0_tell rmX0_tell [va_rf this, .int a1, .int a2] M sz r sz := by
  refine m_startV (own := RX0) (cc := cX0_tell) (maxL := 4) (lv0 := [(0, va_rf this), (1, .int a1), (2, .int a2)]) (by decide) rfl rfl (by simp [lg_sl, va_rf_cat, cat_i, cat_r]) (by simp [lv_args, va_rf_cat, cat_i, cat_r]) ?_
  intro p e s m args below meth c Q hC hname RET hsz hw ls hl
  have hx := hC.1
  have hb := hC.2.1
  unfold f_X0_tell at h
  refine m_aload_n (x := this) hx hb dX0_tell_0 rfl (lv_at hl 0 rfl) ?_
  refine lv_iload_n hx hb dX0_tell_1 rfl (lv_at hl 1 rfl) ?_
  obtain ⟨g1, h⟩ := itg h
  obtain ⟨r2, hr2, h⟩ := ob h
  refine m_contI hC hw (m_runV hC hw (x := this) (ci := 3) (N := 3) (C := RX0) (T := TX0) (n := 1) (av := [.int a1]) (rest := []) (c_X0_tells (G := G) (l := l) hr2) gX0_tell_X0_tells rfl (by decide +kernel) ⟨(Nat.le_of_ble_eq_true rfl), (Nat.le_of_ble_eq_true rfl)⟩ g1 rfl rfl hl.1 rfl (Nat.le_of_ble_eq_true rfl) dX0_tell_2 ⟨(Nat.zero_le _), (Nat.zero_le _)⟩) (fun H locs hw => ?_)
  obtain ⟨o9, ho9, h⟩ := ob h
  have J3 : ∀ (H : Heap) (locs : List Loc) (ls : Array Slot), wD G s M o9 sz H locs → lv_has ls 4 [(0, va_rf this), (1, .int a1), (2, .int a2)] → W p l e rmX0_tell s m args below meth c H locs 0 0 Q (F0 m 20 ls []) := by
    intro H locs ls hw hl
    refine m_aload_n (x := this) hx hb dX0_tell_20 rfl (lv_at hl 0 rfl) ?_
    refine lv_iload_n hx hb dX0_tell_21 rfl (lv_at hl 1 rfl) ?_
    obtain ⟨g10, h⟩ := itg h
    obtain ⟨r11, hr11, h⟩ := ob h
    refine m_contI hC hw (m_runV hC hw (x := this) (ci := 3) (N := 3) (C := RX0) (T := TX0) (n := 1) (av := [.int a1]) (rest := []) (c_X0_latest (G := G) (l := l) hr11) gX0_tell_X0_latest rfl (by decide +kernel) ⟨(Nat.le_of_ble_eq_true rfl), (Nat.le_of_ble_eq_true rfl)⟩ g10 rfl rfl hl.1 rfl (Nat.le_of_ble_eq_true rfl) dX0_tell_22 ⟨(Nat.zero_le _), (Nat.zero_le _)⟩) (fun H locs hw => ?_)
    refine lv_istore_n (i := 3) (lv' := [(3, .int r11), (0, va_rf this), (1, .int a1), (2, .int a2)]) hx hb dX0_tell_25 rfl hl (by decide) rfl (fun ls hl => ?_)
    refine lv_iload_n hx hb dX0_tell_26 rfl (lv_at hl 0 rfl) ?_
    refine lv_if_lt (tgt := 45) hx hb dX0_tell_27 (by decide) (fun c12 => ?_) (fun c12 => ?_)
    · replace h := itt h c12
      replace h := Option.some.inj h
      subst h
      exact RET hw ⟨(Nat.zero_le _), (Nat.zero_le _)⟩ dX0_tell_45
    · replace h := itf h c12
      refine lv_iload_n hx hb dX0_tell_30 rfl (lv_at hl 0 rfl) ?_
      refine m_aload_n (x := this) hx hb dX0_tell_31 rfl (lv_at hl 1 rfl) ?_
      obtain ⟨v13, hv13, h⟩ := ob h
      refine m_getI hC hw (C := RX0) (T := TX0) (N := 3) hv13 ki_X0_tell_X0 rfl (by decide) k_X0_tell_18 (fun _ z => z) dX0_tell_32 ?_
      refine lv_icmp_ge (tgt := 45) hx hb dX0_tell_35 (by decide) (fun c14 => ?_) (fun c14 => ?_)
      · replace h := itt h c14
        replace h := Option.some.inj h
        subst h
        exact RET hw ⟨(Nat.zero_le _), (Nat.zero_le _)⟩ dX0_tell_45
      · replace h := itf h c14
        refine m_aload_n (x := this) hx hb dX0_tell_38 rfl (lv_at hl 1 rfl) ?_
        obtain ⟨v15, hv15, h⟩ := ob h
        refine m_getR hC hw (C := RX0) (T := TX0) (N := 3) hv15 ki_X0_tell_X0 rfl (by decide) k_X0_tell_15 (fun _ z => z) dX0_tell_39 ?_
        refine lv_iload_n hx hb dX0_tell_42 rfl (lv_at hl 0 rfl) ?_
        refine lv_iload_n hx hb dX0_tell_43 rfl (lv_at hl 3 rfl) ?_
        obtain ⟨M16, hM16, h⟩ := ob h
        refine m_iast (x := v15) hC hw hM16 dX0_tell_44 (fun H locs hw => ?_)
        replace h := Option.some.inj h
        subst h
        exact RET hw ⟨(Nat.zero_le _), (Nat.zero_le _)⟩ dX0_tell_45
  clear h
  replace h := ho9
  refine lv_if_ne (tgt := 20) hx hb dX0_tell_5 (by decide) (fun c4 => ?_) (fun c4 => ?_)
  · replace h := itf h c4
    replace h := Option.some.inj h
    subst h
    exact J3 _ _ _ hw (lv_sub hl [0, 1, 2] rfl)
  · replace h := itt h c4
    refine m_aload_n (x := this) hx hb dX0_tell_8 rfl (lv_at hl 0 rfl) ?_
    refine m_aload_n (x := this) hx hb dX0_tell_9 rfl (lv_at hl 0 rfl) ?_
    refine lv_iload_n hx hb dX0_tell_10 rfl (lv_at hl 1 rfl) ?_
    obtain ⟨g5, h⟩ := itg h
    obtain ⟨r6, hr6, h⟩ := ob h
    refine m_contI hC hw (m_runV hC hw (x := this) (ci := 3) (N := 3) (C := RX0) (T := TX0) (n := 1) (av := [.int a1]) (rest := [va_rf this]) (c_X0_latest (G := G) (l := l) hr6) gX0_tell_X0_latest rfl (by decide +kernel) ⟨(Nat.le_of_ble_eq_true rfl), (Nat.le_of_ble_eq_true rfl)⟩ g5 rfl rfl hl.1 rfl (by simp [va_rf_cat, cat_i, cat_r, cat_l]) dX0_tell_11 ⟨(Nat.zero_le _), (Nat.zero_le _)⟩) (fun H locs hw => ?_)
    refine lv_iconst (v := (1 : Int32)) hx hb dX0_tell_14 (by decide) ?_
    refine lv_iadd hx hb dX0_tell_15 ?_
    refine lv_iload_n hx hb dX0_tell_16 rfl (lv_at hl 1 rfl) ?_
    obtain ⟨g7, h⟩ := itg h
    obtain ⟨r8, hr8, h⟩ := ob h
    refine m_contV hC hw (m_runV hC hw (x := this) (ci := 3) (N := 3) (C := RX0) (T := TX0) (n := 2) (av := [.int (r6 + (1 : Int32)), .int a1]) (rest := []) (c_X0_insertAt (G := G) (l := l) hr8) gX0_tell_X0_insertAt rfl (by decide +kernel) ⟨(Nat.le_of_ble_eq_true rfl), (Nat.le_of_ble_eq_true rfl)⟩ g7 rfl rfl hl.1 rfl (Nat.le_of_ble_eq_true rfl) dX0_tell_17 ⟨(Nat.zero_le _), (Nat.zero_le _)⟩) (fun H locs hw => ?_)
    replace h := Option.some.inj h
    subst h
    exact J3 _ _ _ hw (lv_sub hl [0, 1, 2] rfl)

def f_X7_wrongAt (M : Mem) (this : Option Nat) : Option (Int32) := (gI M this 10 4).bind fun v1 => some (v1)
def rmX7_wrongAt : Room := { frames := 0, cells := 0, slots := 0, locals := 0 }
theorem k_X7_wrongAt_31 : Cond.fieldLink RX7 31 "LoanBook$Reader" "wrongAt" "I" ∈ wsX7_wrongAt := List.mem_of_getElem? (i := 1) rfl
theorem ki_X7_wrongAt_X7 : ∀ w ∈ u_ws RX7 TX7 5, w ∈ wsX7_wrongAt := sub_r [2, 3, 4, 5, 6] (by decide +kernel)
set_option maxHeartbeats 4000000 in
set_option maxRecDepth 100000 in
theorem c_X7_wrongAt {G : wG} {l : Launch} {M : Mem} {sz : Nat} {this : Option Nat} {r : Int32} (h : f_X7_wrongAt M this = some r) : CtrI G l yX7_wrongAt wsX7_wrongAt rmX7_wrongAt [va_rf this] M sz r M sz := by
  refine m_startI (own := RX7) (cc := cX7_wrongAt) (maxL := 1) (lv0 := [(0, va_rf this)]) (by decide) rfl rfl (by simp [lg_sl, va_rf_cat, cat_i, cat_r]) (by simp [lv_args, va_rf_cat, cat_i, cat_r]) ?_
  intro p e s m args below meth c Q hC hname RET hsz hw ls hl
  have hx := hC.1
  have hb := hC.2.1
  unfold f_X7_wrongAt at h
  refine m_aload_n (x := this) hx hb dX7_wrongAt_0 rfl (lv_at hl 0 rfl) ?_
  obtain ⟨v1, hv1, h⟩ := ob h
  refine m_getI hC hw (C := RX7) (T := TX7) (N := 5) hv1 ki_X7_wrongAt_X7 rfl (by decide) k_X7_wrongAt_31 (fun _ z => z) dX7_wrongAt_1 ?_
  replace h := Option.some.inj h
  subst h
  exact RET hw ⟨(Nat.zero_le _), (Nat.zero_le _)⟩ dX7_wrongAt_4

def f_X1_loanOn (M : Mem) (this : Option Nat) (a1 : Int32) : Option (Int32) := (f_X11_isDay M a1).bind fun r1 => if r1 = 0 then (some (-1 : Int32)) else ((gR M this 4 0).bind fun v3 => (aI M 0 v3 a1).bind fun v4 => some (if v4 < (-1 : Int32) then (-1 : Int32) else v4))
def rmX1_loanOn : Room := { frames := 1, cells := 0, slots := 0, locals := 21 }
theorem k_X1_loanOn_stX11_isDay : Cond.static yX11_isDay ∈ wsX1_loanOn := List.mem_of_getElem? (i := 6) rfl
theorem k_X1_loanOn_inX11 : Cond.initialized RX11 ∈ wsX1_loanOn := List.mem_of_getElem? (i := 7) rfl
theorem k_X1_loanOn_9 : Cond.fieldLink RX1 9 "LoanBook$Calendar" "days" "[I" ∈ wsX1_loanOn := List.mem_of_getElem? (i := 1) rfl
theorem ki_X1_loanOn_X1 : ∀ w ∈ u_ws RX1 TX1 2, w ∈ wsX1_loanOn := sub_r [9, 10] (by decide +kernel)
theorem k_X1_loanOn_max32_0 : Cond.methodLink RX1 32 Lib.Math.max.name ∈ wsX1_loanOn := List.mem_of_getElem? (i := 2) rfl
theorem k_X1_loanOn_max32_1 : Cond.static Lib.Math.max.name ∈ wsX1_loanOn := List.mem_of_getElem? (i := 3) rfl
theorem k_X1_loanOn_max32_2 : Cond.initialized "java/lang/Math" ∈ wsX1_loanOn := List.mem_of_getElem? (i := 4) rfl
theorem k_X1_loanOn_max32_3 : Cond.code Lib.Math.max.name Lib.Math.max.code 2 (some .int) ∈ wsX1_loanOn := List.mem_of_getElem? (i := 5) rfl
set_option maxHeartbeats 4000000 in
set_option maxRecDepth 100000 in
theorem c_X1_loanOn {G : wG} {l : Launch} {M : Mem} {sz : Nat} {this : Option Nat} {a1 : Int32} {r : Int32} (h : f_X1_loanOn M this a1 = some r) : CtrI G l yX1_loanOn wsX1_loanOn rmX1_loanOn [va_rf this, .int a1] M sz r M sz := by
  refine m_startI (own := RX1) (cc := cX1_loanOn) (maxL := 2) (lv0 := [(0, va_rf this), (1, .int a1)]) (by decide) rfl rfl (by simp [lg_sl, va_rf_cat, cat_i, cat_r]) (by simp [lv_args, va_rf_cat, cat_i, cat_r]) ?_
  intro p e s m args below meth c Q hC hname RET hsz hw ls hl
  have hx := hC.1
  have hb := hC.2.1
  unfold f_X1_loanOn at h
  refine lv_iload_n hx hb dX1_loanOn_0 rfl (lv_at hl 1 rfl) ?_
  obtain ⟨r1, hr1, h⟩ := ob h
  refine m_contI hC hw (m_runSN hC hw (host := "LoanBook") (n := 1) (av := [.int a1]) (rest := []) (c_X11_isDay (G := G) (l := l) hr1) gX1_loanOn_X11_isDay_n28 (by decide +kernel) k_X1_loanOn_stX11_isDay k_X1_loanOn_inX11 rfl (by decide +kernel) ⟨(Nat.le_of_ble_eq_true rfl), (Nat.le_of_ble_eq_true rfl)⟩ rfl hl.1 rfl (Nat.le_of_ble_eq_true rfl) dX1_loanOn_1 ⟨(Nat.zero_le _), (Nat.zero_le _)⟩) (fun H locs hw => ?_)
  refine lv_if_eq (tgt := 20) hx hb dX1_loanOn_4 (by decide) (fun c2 => ?_) (fun c2 => ?_)
  · replace h := itt h c2
    refine lv_iconst (v := (-1 : Int32)) hx hb dX1_loanOn_20 (by decide) ?_
    replace h := Option.some.inj h
    subst h
    exact RET hw ⟨(Nat.zero_le _), (Nat.zero_le _)⟩ dX1_loanOn_21
  · replace h := itf h c2
    refine m_aload_n (x := this) hx hb dX1_loanOn_7 rfl (lv_at hl 0 rfl) ?_
    obtain ⟨v3, hv3, h⟩ := ob h
    refine m_getR hC hw (C := RX1) (T := TX1) (N := 2) hv3 ki_X1_loanOn_X1 rfl (by decide) k_X1_loanOn_9 (fun _ z => z) dX1_loanOn_8 ?_
    refine lv_iload_n hx hb dX1_loanOn_11 rfl (lv_at hl 1 rfl) ?_
    obtain ⟨v4, hv4, h⟩ := ob h
    refine m_iald (x := v3) hC hw hv4 dX1_loanOn_12 ?_
    refine lv_iconst (v := (-1 : Int32)) hx hb dX1_loanOn_13 (by decide) ?_
    refine va_mmax hx hb (hC.2.2.1.trans hl.1.symm) hC.2.2.2.1 (hC.tab _ k_X1_loanOn_max32_0) (hC.tab _ k_X1_loanOn_max32_1) (hC.tab _ k_X1_loanOn_max32_2) (hC.tab _ k_X1_loanOn_max32_3) (Nat.le_of_ble_eq_true rfl) (cat_13 (Nat.le_of_ble_eq_true rfl) (Nat.le_of_ble_eq_true rfl)) (Nat.zero_le _) (Nat.zero_le _) dX1_loanOn_14 ?_
    refine lv_goto (tgt := 21) hx hb dX1_loanOn_17 (by decide) ?_
    replace h := Option.some.inj h
    subst h
    exact RET hw ⟨(Nat.zero_le _), (Nat.zero_le _)⟩ dX1_loanOn_21

def f_X1_firstOpen_L9 (n : Nat) (M : Mem) (x0 : Option Nat) (x2 : Int32) : Nat → Int32 → Int32 → Option (Int32)
  | 0, _, _ => none
  | k + 1, x3, x4 => if (1000 : Int32) ≤ x4 then (some ((-1 : Int32))) else ((gR M x0 4 0).bind fun v2 => (aI M 0 v2 x4).bind fun v3 => ((if v3 = (-1 : Int32) then (some ((x3 + (1 : Int32)))) else (some ((0 : Int32)))) : Option (Int32)).bind fun o6 => if o6 = x2 then (some (((x4 - x2) + (1 : Int32)))) else (f_X1_firstOpen_L9 n M x0 x2 k o6 (x4 + (1 : Int32))))
def f_X1_firstOpen (n : Nat) (M : Mem) (this : Option Nat) (a1 : Int32) (a2 : Int32) : Option (Int32) := f_X1_firstOpen_L9 n M this a2 n (0 : Int32) (if a1 < (0 : Int32) then (0 : Int32) else a1)
def rmX1_firstOpen : Room := { frames := 1, cells := 0, slots := 0, locals := 21 }
theorem k_X1_firstOpen_max32_0 : Cond.methodLink RX1 32 Lib.Math.max.name ∈ wsX1_firstOpen := List.mem_of_getElem? (i := 1) rfl
theorem k_X1_firstOpen_max32_1 : Cond.static Lib.Math.max.name ∈ wsX1_firstOpen := List.mem_of_getElem? (i := 2) rfl
theorem k_X1_firstOpen_max32_2 : Cond.initialized "java/lang/Math" ∈ wsX1_firstOpen := List.mem_of_getElem? (i := 3) rfl
theorem k_X1_firstOpen_max32_3 : Cond.code Lib.Math.max.name Lib.Math.max.code 2 (some .int) ∈ wsX1_firstOpen := List.mem_of_getElem? (i := 4) rfl
theorem k_X1_firstOpen_9 : Cond.fieldLink RX1 9 "LoanBook$Calendar" "days" "[I" ∈ wsX1_firstOpen := List.mem_of_getElem? (i := 5) rfl
theorem ki_X1_firstOpen_X1 : ∀ w ∈ u_ws RX1 TX1 2, w ∈ wsX1_firstOpen := sub_r [6, 7] (by decide +kernel)
set_option maxHeartbeats 4000000 in
set_option maxRecDepth 100000 in
theorem c_X1_firstOpen {G : wG} {l : Launch} {n : Nat} {M : Mem} {sz : Nat} {this : Option Nat} {a1 : Int32} {a2 : Int32} {r : Int32} (h : f_X1_firstOpen n M this a1 a2 = some r) : CtrI G l yX1_firstOpen wsX1_firstOpen rmX1_firstOpen [va_rf this, .int a1, .int a2] M sz r M sz := by
  refine m_startI (own := RX1) (cc := cX1_firstOpen) (maxL := 5) (lv0 := [(0, va_rf this), (1, .int a1), (2, .int a2)]) (by decide) rfl rfl (by simp [lg_sl, va_rf_cat, cat_i, cat_r]) (by simp [lv_args, va_rf_cat, cat_i, cat_r]) ?_
  intro p e s m args below meth c Q hC hname RET hsz hw ls hl
  have hx := hC.1
  have hb := hC.2.1
  have L9 : ∀ (x0 : Option Nat) (x2 : Int32) (k : Nat) (x3 : Int32) (x4 : Int32) (cells slots : Nat) (H : Heap) (locs : List Loc) (ls : Array Slot), f_X1_firstOpen_L9 n M x0 x2 k x3 x4 = some r → cells ≤ 0 → slots ≤ 0 → wD G s M M sz H locs → lv_has ls 5 [(0, va_rf x0), (2, .int x2), (3, .int x3), (4, .int x4)] → W p l e rmX1_firstOpen s m args below meth c H locs cells slots Q (F0 m 9 ls []) := by
    intro x0 x2 k
    induction k with
    | zero =>
      intro x3 x4 cells slots H locs ls h
      exact absurd (show (none : Option (Int32)) = some r from h) (fun z => by cases z)
    | succ k ih =>
      intro x3 x4 cells slots H locs ls h hcl hsl hw hl
      rw [f_X1_firstOpen_L9] at h
      refine lv_iload hx hb dX1_firstOpen_9 (lv_at hl 3 rfl) ?_
      refine lv_sipush (v := (1000 : Int32)) hx hb dX1_firstOpen_11 (by decide) ?_
      refine lv_icmp_ge (tgt := 54) hx hb dX1_firstOpen_14 (by decide) (fun c1 => ?_) (fun c1 => ?_)
      · replace h := itt h c1
        refine lv_iconst (v := (-1 : Int32)) hx hb dX1_firstOpen_54 (by decide) ?_
        replace h := Option.some.inj h
        subst h
        exact RET hw ⟨(show cells + 0 ≤ 0 from by omega), (show slots + 0 ≤ 0 from by omega)⟩ dX1_firstOpen_55
      · replace h := itf h c1
        refine m_aload_n (x := x0) hx hb dX1_firstOpen_17 rfl (lv_at hl 0 rfl) ?_
        obtain ⟨v2, hv2, h⟩ := ob h
        refine m_getR hC hw (C := RX1) (T := TX1) (N := 2) hv2 ki_X1_firstOpen_X1 rfl (by decide) k_X1_firstOpen_9 (fun _ z => z) dX1_firstOpen_18 ?_
        refine lv_iload hx hb dX1_firstOpen_21 (lv_at hl 3 rfl) ?_
        obtain ⟨v3, hv3, h⟩ := ob h
        refine m_iald (x := v2) hC hw hv3 dX1_firstOpen_23 ?_
        refine lv_iconst (v := (-1 : Int32)) hx hb dX1_firstOpen_24 (by decide) ?_
        obtain ⟨o6, ho6, h⟩ := ob h
        have J4 : ∀ (H : Heap) (locs : List Loc) (ls : Array Slot), wD G s M M sz H locs → lv_has ls 5 [(0, va_rf x0), (2, .int x2), (4, .int x4)] → W p l e rmX1_firstOpen s m args below meth c H locs (cells + 0) (slots + 0) Q (F0 m 35 ls [.int o6]) := by
          intro H locs ls hw hl
          refine lv_istore_n (i := 3) (lv' := [(3, .int o6), (0, va_rf x0), (2, .int x2), (4, .int x4)]) hx hb dX1_firstOpen_35 rfl hl (by decide) rfl (fun ls hl => ?_)
          refine lv_iload_n hx hb dX1_firstOpen_36 rfl (lv_at hl 0 rfl) ?_
          refine lv_iload_n hx hb dX1_firstOpen_37 rfl (lv_at hl 2 rfl) ?_
          refine lv_icmp_ne (tgt := 48) hx hb dX1_firstOpen_38 (by decide) (fun c7 => ?_) (fun c7 => ?_)
          · replace h := itf h c7
            refine lv_iinc (v := (x4 + (1 : Int32))) (lv' := [(4, .int (x4 + (1 : Int32))), (3, .int o6), (0, va_rf x0), (2, .int x2)]) hx hb dX1_firstOpen_48 hl (k := 3) rfl rfl (by decide) rfl (fun ls hl => ?_)
            refine lv_goto (tgt := 9) hx hb dX1_firstOpen_51 (by decide) ?_
            exact ih _ _ _ _ _ _ _ h hcl hsl hw (lv_sub hl [2, 3, 1, 0] rfl)
          · replace h := itt h c7
            refine lv_iload hx hb dX1_firstOpen_41 (lv_at hl 3 rfl) ?_
            refine lv_iload_n hx hb dX1_firstOpen_43 rfl (lv_at hl 2 rfl) ?_
            refine lv_isub hx hb dX1_firstOpen_44 ?_
            refine lv_iconst (v := (1 : Int32)) hx hb dX1_firstOpen_45 (by decide) ?_
            refine lv_iadd hx hb dX1_firstOpen_46 ?_
            replace h := Option.some.inj h
            subst h
            exact RET hw ⟨(show cells + 0 ≤ 0 from by omega), (show slots + 0 ≤ 0 from by omega)⟩ dX1_firstOpen_47
        clear h
        replace h := ho6
        refine lv_icmp_ne (tgt := 34) hx hb dX1_firstOpen_25 (by decide) (fun c5 => ?_) (fun c5 => ?_)
        · replace h := itf h c5
          refine lv_iconst (v := (0 : Int32)) hx hb dX1_firstOpen_34 (by decide) ?_
          replace h := Option.some.inj h
          subst h
          exact J4 _ _ _ hw (lv_sub hl [0, 1, 3] rfl)
        · replace h := itt h c5
          refine lv_iload_n hx hb dX1_firstOpen_28 rfl (lv_at hl 2 rfl) ?_
          refine lv_iconst (v := (1 : Int32)) hx hb dX1_firstOpen_29 (by decide) ?_
          refine lv_iadd hx hb dX1_firstOpen_30 ?_
          refine lv_goto (tgt := 35) hx hb dX1_firstOpen_31 (by decide) ?_
          replace h := Option.some.inj h
          subst h
          exact J4 _ _ _ hw (lv_sub hl [0, 1, 3] rfl)
  unfold f_X1_firstOpen at h
  refine lv_iconst (v := (0 : Int32)) hx hb dX1_firstOpen_0 (by decide) ?_
  refine lv_istore_n (i := 3) (lv' := [(3, .int (0 : Int32)), (0, va_rf this), (1, .int a1), (2, .int a2)]) hx hb dX1_firstOpen_1 rfl hl (by decide) rfl (fun ls hl => ?_)
  refine lv_iload_n hx hb dX1_firstOpen_2 rfl (lv_at hl 2 rfl) ?_
  refine lv_iconst (v := (0 : Int32)) hx hb dX1_firstOpen_3 (by decide) ?_
  refine va_mmax hx hb (hC.2.2.1.trans hl.1.symm) hC.2.2.2.1 (hC.tab _ k_X1_firstOpen_max32_0) (hC.tab _ k_X1_firstOpen_max32_1) (hC.tab _ k_X1_firstOpen_max32_2) (hC.tab _ k_X1_firstOpen_max32_3) (Nat.le_of_ble_eq_true rfl) (cat_13 (Nat.le_of_ble_eq_true rfl) (Nat.le_of_ble_eq_true rfl)) (Nat.zero_le _) (Nat.zero_le _) dX1_firstOpen_4 ?_
  refine lv_istore (lv' := [(4, .int (if a1 < (0 : Int32) then (0 : Int32) else a1)), (3, .int (0 : Int32)), (0, va_rf this), (1, .int a1), (2, .int a2)]) hx hb dX1_firstOpen_7 hl (by decide) rfl (fun ls hl => ?_)
  exact L9 this a2 _ _ _ _ _ _ _ _ h (Nat.zero_le _) (Nat.zero_le _) hw (lv_sub hl [2, 4, 1, 0] rfl)

def f_X4_stageOn (M : Mem) (this : Option Nat) (a1 : Int32) : Option (Int32) := (gI M this 7 1).bind fun v1 => if a1 < v1 then (some (0 : Int32)) else (if isO M this 7 = true then ((f_X4_last M this).bind fun r4 => if a1 ≤ r4 then ((gI M this 7 1).bind fun v6 => (gR M this 7 0).bind fun v7 => (gI M v7 6 0).bind fun v8 => if (v6 + v8) ≤ a1 then (if isO M this 7 = true then ((f_X4_firstOf M this (1 : Int32)).bind fun r11 => if r11 ≤ a1 then (some (3 : Int32)) else (some (2 : Int32))) else none) else (some (1 : Int32))) else (some (0 : Int32))) else none)
def rmX4_stageOn : Room := { frames := 1, cells := 0, slots := 0, locals := 21 }
theorem k_X4_stageOn_26 : Cond.fieldLink RX4 26 "LoanBook$Loan" "first" "I" ∈ wsX4_stageOn := List.mem_of_getElem? (i := 1) rfl
theorem ki_X4_stageOn_X4 : ∀ w ∈ u_ws RX4 TX4 5, w ∈ wsX4_stageOn := sub_r [14, 15, 16, 17, 18] (by decide +kernel)
theorem k_X4_stageOn_22 : Cond.fieldLink RX4 22 "LoanBook$Loan" "borrower" "LLoanBook$House;" ∈ wsX4_stageOn := List.mem_of_getElem? (i := 2) rfl
theorem k_X4_stageOn_33 : Cond.fieldLink RX4 33 "LoanBook$House" "way" "I" ∈ wsX4_stageOn := List.mem_of_getElem? (i := 3) rfl
theorem ki_X4_stageOn_X3 : ∀ w ∈ u_ws RX3 TX3 5, w ∈ wsX4_stageOn := sub_r [19, 20, 21, 22, 23] (by decide +kernel)
set_option maxHeartbeats 4000000 in
set_option maxRecDepth 100000 in
theorem c_X4_stageOn {G : wG} {l : Launch} {M : Mem} {sz : Nat} {this : Option Nat} {a1 : Int32} {r : Int32} (h : f_X4_stageOn M this a1 = some r) : CtrI G l yX4_stageOn wsX4_stageOn rmX4_stageOn [va_rf this, .int a1] M sz r M sz := by
  refine m_startI (own := RX4) (cc := cX4_stageOn) (maxL := 2) (lv0 := [(0, va_rf this), (1, .int a1)]) (by decide) rfl rfl (by simp [lg_sl, va_rf_cat, cat_i, cat_r]) (by simp [lv_args, va_rf_cat, cat_i, cat_r]) ?_
  intro p e s m args below meth c Q hC hname RET hsz hw ls hl
  have hx := hC.1
  have hb := hC.2.1
  unfold f_X4_stageOn at h
  refine lv_iload_n hx hb dX4_stageOn_0 rfl (lv_at hl 1 rfl) ?_
  refine m_aload_n (x := this) hx hb dX4_stageOn_1 rfl (lv_at hl 0 rfl) ?_
  obtain ⟨v1, hv1, h⟩ := ob h
  refine m_getI hC hw (C := RX4) (T := TX4) (N := 5) hv1 ki_X4_stageOn_X4 rfl (by decide) k_X4_stageOn_26 (fun _ z => z) dX4_stageOn_2 ?_
  refine lv_icmp_lt (tgt := 16) hx hb dX4_stageOn_5 (by decide) (fun c2 => ?_) (fun c2 => ?_)
  · replace h := itt h c2
    refine lv_iconst (v := (0 : Int32)) hx hb dX4_stageOn_16 (by decide) ?_
    replace h := Option.some.inj h
    subst h
    exact RET hw ⟨(Nat.zero_le _), (Nat.zero_le _)⟩ dX4_stageOn_17
  · replace h := itf h c2
    refine lv_iload_n hx hb dX4_stageOn_8 rfl (lv_at hl 1 rfl) ?_
    refine m_aload_n (x := this) hx hb dX4_stageOn_9 rfl (lv_at hl 0 rfl) ?_
    obtain ⟨g3, h⟩ := itg h
    obtain ⟨r4, hr4, h⟩ := ob h
    refine m_contI hC hw (m_runV hC hw (x := this) (ci := 7) (N := 5) (C := RX4) (T := TX4) (n := 0) (av := []) (rest := [.int a1]) (c_X4_last (G := G) (l := l) hr4) gX4_stageOn_X4_last rfl (by decide +kernel) ⟨(Nat.le_of_ble_eq_true rfl), (Nat.le_of_ble_eq_true rfl)⟩ g3 rfl rfl hl.1 rfl (Nat.le_of_ble_eq_true rfl) dX4_stageOn_10 ⟨(Nat.zero_le _), (Nat.zero_le _)⟩) (fun H locs hw => ?_)
    refine lv_icmp_le (tgt := 18) hx hb dX4_stageOn_13 (by decide) (fun c5 => ?_) (fun c5 => ?_)
    · replace h := itt h c5
      refine lv_iload_n hx hb dX4_stageOn_18 rfl (lv_at hl 1 rfl) ?_
      refine m_aload_n (x := this) hx hb dX4_stageOn_19 rfl (lv_at hl 0 rfl) ?_
      obtain ⟨v6, hv6, h⟩ := ob h
      refine m_getI hC hw (C := RX4) (T := TX4) (N := 5) hv6 ki_X4_stageOn_X4 rfl (by decide) k_X4_stageOn_26 (fun _ z => z) dX4_stageOn_20 ?_
      refine m_aload_n (x := this) hx hb dX4_stageOn_23 rfl (lv_at hl 0 rfl) ?_
      obtain ⟨v7, hv7, h⟩ := ob h
      refine m_getR hC hw (C := RX4) (T := TX4) (N := 5) hv7 ki_X4_stageOn_X4 rfl (by decide) k_X4_stageOn_22 (fun _ z => z) dX4_stageOn_24 ?_
      obtain ⟨v8, hv8, h⟩ := ob h
      refine m_getI hC hw (C := RX3) (T := TX3) (N := 5) hv8 ki_X4_stageOn_X3 rfl (by decide) k_X4_stageOn_33 (fun _ z => z) dX4_stageOn_27 ?_
      refine lv_iadd hx hb dX4_stageOn_30 ?_
      refine lv_icmp_ge (tgt := 36) hx hb dX4_stageOn_31 (by decide) (fun c9 => ?_) (fun c9 => ?_)
      · replace h := itt h c9
        refine lv_iload_n hx hb dX4_stageOn_36 rfl (lv_at hl 1 rfl) ?_
        refine m_aload_n (x := this) hx hb dX4_stageOn_37 rfl (lv_at hl 0 rfl) ?_
        refine lv_iconst (v := (1 : Int32)) hx hb dX4_stageOn_38 (by decide) ?_
        obtain ⟨g10, h⟩ := itg h
        obtain ⟨r11, hr11, h⟩ := ob h
        refine m_contI hC hw (m_runV hC hw (x := this) (ci := 7) (N := 5) (C := RX4) (T := TX4) (n := 1) (av := [.int (1 : Int32)]) (rest := [.int a1]) (c_X4_firstOf (G := G) (l := l) hr11) gX4_stageOn_X4_firstOf rfl (by decide +kernel) ⟨(Nat.le_of_ble_eq_true rfl), (Nat.le_of_ble_eq_true rfl)⟩ g10 rfl rfl hl.1 rfl (Nat.le_of_ble_eq_true rfl) dX4_stageOn_39 ⟨(Nat.zero_le _), (Nat.zero_le _)⟩) (fun H locs hw => ?_)
        refine lv_icmp_ge (tgt := 49) hx hb dX4_stageOn_42 (by decide) (fun c12 => ?_) (fun c12 => ?_)
        · replace h := itt h c12
          refine lv_iconst (v := (3 : Int32)) hx hb dX4_stageOn_49 (by decide) ?_
          replace h := Option.some.inj h
          subst h
          exact RET hw ⟨(Nat.zero_le _), (Nat.zero_le _)⟩ dX4_stageOn_50
        · replace h := itf h c12
          refine lv_iconst (v := (2 : Int32)) hx hb dX4_stageOn_45 (by decide) ?_
          refine lv_goto (tgt := 50) hx hb dX4_stageOn_46 (by decide) ?_
          replace h := Option.some.inj h
          subst h
          exact RET hw ⟨(Nat.zero_le _), (Nat.zero_le _)⟩ dX4_stageOn_50
      · replace h := itf h c9
        refine lv_iconst (v := (1 : Int32)) hx hb dX4_stageOn_34 (by decide) ?_
        replace h := Option.some.inj h
        subst h
        exact RET hw ⟨(Nat.zero_le _), (Nat.zero_le _)⟩ dX4_stageOn_35
    · replace h := itf h c5
      refine lv_iconst (v := (0 : Int32)) hx hb dX4_stageOn_16 (by decide) ?_
      replace h := Option.some.inj h
      subst h
      exact RET hw ⟨(Nat.zero_le _), (Nat.zero_le _)⟩ dX4_stageOn_17

def f_X4_parcelAt (M : Mem) (this : Option Nat) (a1 : Int32) : Option (Option Nat) := if a1 < 0 then (some (none)) else ((gR M this 7 2).bind fun v2 => if isO M v2 2 = true then ((f_Jx4a65c_size_8abf5 M v2).bind fun r4 => if r4 ≤ a1 then (some (none)) else ((gR M this 7 2).bind fun v6 => if isO M v6 2 = true then ((f_Jx4a65c_get_915e3 M v6 a1).bind fun r8 => if r8 = none ∨ isO M r8 8 = true then (some (r8)) else none) else none)) else none)
def rmX4_parcelAt : Room := { frames := 3, cells := 0, slots := 0, locals := 64 }
theorem k_X4_parcelAt_12 : Cond.fieldLink RX4 12 "LoanBook$Loan" "parcels" "Ljava/util/ArrayList;" ∈ wsX4_parcelAt := List.mem_of_getElem? (i := 1) rfl
theorem ki_X4_parcelAt_X4 : ∀ w ∈ u_ws RX4 TX4 5, w ∈ wsX4_parcelAt := sub_r [26, 27, 28, 29, 30] (by decide +kernel)
theorem k_X4_parcelAt_cc62 : Cond.classLink RX4 62 RX5 ∈ wsX4_parcelAt := List.mem_of_getElem? (i := 2) rfl
set_option maxHeartbeats 4000000 in
set_option maxRecDepth 100000 in
theorem c_X4_parcelAt {G : wG} {l : Launch} {M : Mem} {sz : Nat} {this : Option Nat} {a1 : Int32} {r : Option Nat} (h : f_X4_parcelAt M this a1 = some r) : CtrQ G l yX4_parcelAt wsX4_parcelAt rmX4_parcelAt [va_rf this, .int a1] M sz r M sz := by
  refine m_startQ (own := RX4) (cc := cX4_parcelAt) (maxL := 2) (lv0 := [(0, va_rf this), (1, .int a1)]) (by decide) rfl rfl (by simp [lg_sl, va_rf_cat, cat_i, cat_r]) (by simp [lv_args, va_rf_cat, cat_i, cat_r]) (Or.inl ⟨_, rfl⟩) ?_
  intro p e s m args below meth c Q hC hname RET hsz hw ls hl
  have hx := hC.1
  have hb := hC.2.1
  unfold f_X4_parcelAt at h
  refine lv_iload_n hx hb dX4_parcelAt_0 rfl (lv_at hl 1 rfl) ?_
  refine lv_if_lt (tgt := 29) hx hb dX4_parcelAt_1 (by decide) (fun c1 => ?_) (fun c1 => ?_)
  · replace h := itt h c1
    refine lv_null hx hb dX4_parcelAt_29 ?_
    replace h := Option.some.inj h
    subst h
    exact RET hw ⟨(Nat.zero_le _), (Nat.zero_le _)⟩ dX4_parcelAt_30
  · replace h := itf h c1
    refine lv_iload_n hx hb dX4_parcelAt_4 rfl (lv_at hl 1 rfl) ?_
    refine m_aload_n (x := this) hx hb dX4_parcelAt_5 rfl (lv_at hl 0 rfl) ?_
    obtain ⟨v2, hv2, h⟩ := ob h
    refine m_getR hC hw (C := RX4) (T := TX4) (N := 5) hv2 ki_X4_parcelAt_X4 rfl (by decide) k_X4_parcelAt_12 (fun _ z => z) dX4_parcelAt_6 ?_
    obtain ⟨g3, h⟩ := itg h
    obtain ⟨r4, hr4, h⟩ := ob h
    refine m_contI hC hw (m_runV hC hw (x := v2) (ci := 2) (N := 3) (C := RJx4a65c) (T := TJx4a65c) (n := 0) (av := []) (rest := [.int a1]) (c_Jx4a65c_size_8abf5 (G := G) (l := l) hr4) gX4_parcelAt_Jx4a65c_size_8abf5 rfl (by decide +kernel) ⟨(Nat.le_of_ble_eq_true rfl), (Nat.le_of_ble_eq_true rfl)⟩ g3 rfl rfl hl.1 rfl (Nat.le_of_ble_eq_true rfl) dX4_parcelAt_9 ⟨(Nat.zero_le _), (Nat.zero_le _)⟩) (fun H locs hw => ?_)
    refine lv_icmp_ge (tgt := 29) hx hb dX4_parcelAt_12 (by decide) (fun c5 => ?_) (fun c5 => ?_)
    · replace h := itt h c5
      refine lv_null hx hb dX4_parcelAt_29 ?_
      replace h := Option.some.inj h
      subst h
      exact RET hw ⟨(Nat.zero_le _), (Nat.zero_le _)⟩ dX4_parcelAt_30
    · replace h := itf h c5
      refine m_aload_n (x := this) hx hb dX4_parcelAt_15 rfl (lv_at hl 0 rfl) ?_
      obtain ⟨v6, hv6, h⟩ := ob h
      refine m_getR hC hw (C := RX4) (T := TX4) (N := 5) hv6 ki_X4_parcelAt_X4 rfl (by decide) k_X4_parcelAt_12 (fun _ z => z) dX4_parcelAt_16 ?_
      refine lv_iload_n hx hb dX4_parcelAt_19 rfl (lv_at hl 1 rfl) ?_
      obtain ⟨g7, h⟩ := itg h
      obtain ⟨r8, hr8, h⟩ := ob h
      refine m_contQ hC hw (m_runV hC hw (x := v6) (ci := 2) (N := 3) (C := RJx4a65c) (T := TJx4a65c) (n := 1) (av := [.int a1]) (rest := []) (c_Jx4a65c_get_915e3 (G := G) (l := l) hr8) gX4_parcelAt_Jx4a65c_get_915e3 rfl (by decide +kernel) ⟨(Nat.le_of_ble_eq_true rfl), (Nat.le_of_ble_eq_true rfl)⟩ g7 rfl rfl hl.1 rfl (Nat.le_of_ble_eq_true rfl) dX4_parcelAt_20 ⟨(Nat.zero_le _), (Nat.zero_le _)⟩) (fun H locs hw => ?_)
      obtain ⟨g9, h⟩ := itg h
      refine m_cast (x := r8) hC hw (C := RX5) (T := TX5) (N := 4) g9 k_X4_parcelAt_cc62 rfl dX4_parcelAt_23 ?_
      refine lv_goto (tgt := 30) hx hb dX4_parcelAt_26 (by decide) ?_
      replace h := Option.some.inj h
      subst h
      exact RET hw ⟨(Nat.zero_le _), (Nat.zero_le _)⟩ dX4_parcelAt_30

def f_X8_harmsTold (M : Mem) (this : Option Nat) : Option (Int32) := (gR M this 11 2).bind fun v1 => (aL M v1).bind fun v2 => some (v2)
def rmX8_harmsTold : Room := { frames := 0, cells := 0, slots := 0, locals := 0 }
theorem k_X8_harmsTold_19 : Cond.fieldLink RX8 19 "LoanBook$Report" "spots" "[I" ∈ wsX8_harmsTold := List.mem_of_getElem? (i := 1) rfl
theorem ki_X8_harmsTold_X8 : ∀ w ∈ u_ws RX8 TX8 4, w ∈ wsX8_harmsTold := sub_r [2, 3, 4, 5] (by decide +kernel)
set_option maxHeartbeats 4000000 in
set_option maxRecDepth 100000 in
theorem c_X8_harmsTold {G : wG} {l : Launch} {M : Mem} {sz : Nat} {this : Option Nat} {r : Int32} (h : f_X8_harmsTold M this = some r) : CtrI G l yX8_harmsTold wsX8_harmsTold rmX8_harmsTold [va_rf this] M sz r M sz := by
  refine m_startI (own := RX8) (cc := cX8_harmsTold) (maxL := 1) (lv0 := [(0, va_rf this)]) (by decide) rfl rfl (by simp [lg_sl, va_rf_cat, cat_i, cat_r]) (by simp [lv_args, va_rf_cat, cat_i, cat_r]) ?_
  intro p e s m args below meth c Q hC hname RET hsz hw ls hl
  have hx := hC.1
  have hb := hC.2.1
  unfold f_X8_harmsTold at h
  refine m_aload_n (x := this) hx hb dX8_harmsTold_0 rfl (lv_at hl 0 rfl) ?_
  obtain ⟨v1, hv1, h⟩ := ob h
  refine m_getR hC hw (C := RX8) (T := TX8) (N := 4) hv1 ki_X8_harmsTold_X8 rfl (by decide) k_X8_harmsTold_19 (fun _ z => z) dX8_harmsTold_1 ?_
  obtain ⟨v2, hv2, h⟩ := ob h
  refine m_alen (x := v1) hC hw hv2 dX8_harmsTold_4 ?_
  replace h := Option.some.inj h
  subst h
  exact RET hw ⟨(Nat.zero_le _), (Nat.zero_le _)⟩ dX8_harmsTold_5

def f_X10_harmsOn (n : Nat) (M : Mem) (this : Option Nat) (a1 : Int32) : Option (Int32) := if isO M this 13 = true then ((f_X10_latestReport n M this a1).bind fun r2 => if isO M this 13 = true then ((f_X10_reportAt M this r2).bind fun r4 => if r4 = none then (some (0 : Int32)) else (if isO M r4 11 = true then ((f_X8_harmsTold M r4).bind fun r7 => some (r7)) else none)) else none) else none
def rmX10_harmsOn : Room := { frames := 4, cells := 0, slots := 0, locals := 86 }
set_option maxHeartbeats 4000000 in
set_option maxRecDepth 100000 in
theorem c_X10_harmsOn {G : wG} {l : Launch} {n : Nat} {M : Mem} {sz : Nat} {this : Option Nat} {a1 : Int32} {r : Int32} (h : f_X10_harmsOn n M this a1 = some r) : CtrI G l yX10_harmsOn wsX10_harmsOn rmX10_harmsOn [va_rf this, .int a1] M sz r M sz := by
  refine m_startI (own := RX10) (cc := cX10_harmsOn) (maxL := 3) (lv0 := [(0, va_rf this), (1, .int a1)]) (by decide) rfl rfl (by simp [lg_sl, va_rf_cat, cat_i, cat_r]) (by simp [lv_args, va_rf_cat, cat_i, cat_r]) ?_
  intro p e s m args below meth c Q hC hname RET hsz hw ls hl
  have hx := hC.1
  have hb := hC.2.1
  unfold f_X10_harmsOn at h
  refine m_aload_n (x := this) hx hb dX10_harmsOn_0 rfl (lv_at hl 0 rfl) ?_
  refine m_aload_n (x := this) hx hb dX10_harmsOn_1 rfl (lv_at hl 0 rfl) ?_
  refine lv_iload_n hx hb dX10_harmsOn_2 rfl (lv_at hl 1 rfl) ?_
  obtain ⟨g1, h⟩ := itg h
  obtain ⟨r2, hr2, h⟩ := ob h
  refine m_contI hC hw (m_runV hC hw (x := this) (ci := 13) (N := 9) (C := RX10) (T := TX10) (n := 1) (av := [.int a1]) (rest := [va_rf this]) (c_X10_latestReport (G := G) (l := l) hr2) gX10_harmsOn_X10_latestReport rfl (by decide +kernel) ⟨(Nat.le_of_ble_eq_true rfl), (Nat.le_of_ble_eq_true rfl)⟩ g1 rfl rfl hl.1 rfl (by simp [va_rf_cat, cat_i, cat_r, cat_l]) dX10_harmsOn_3 ⟨(Nat.zero_le _), (Nat.zero_le _)⟩) (fun H locs hw => ?_)
  obtain ⟨g3, h⟩ := itg h
  obtain ⟨r4, hr4, h⟩ := ob h
  refine m_contQ hC hw (m_runV hC hw (x := this) (ci := 13) (N := 9) (C := RX10) (T := TX10) (n := 1) (av := [.int r2]) (rest := []) (c_X10_reportAt (G := G) (l := l) hr4) gX10_harmsOn_X10_reportAt rfl (by decide +kernel) ⟨(Nat.le_of_ble_eq_true rfl), (Nat.le_of_ble_eq_true rfl)⟩ g3 rfl rfl hl.1 rfl (Nat.le_of_ble_eq_true rfl) dX10_harmsOn_6 ⟨(Nat.zero_le _), (Nat.zero_le _)⟩) (fun H locs hw => ?_)
  refine m_astore_n (x := r4) (i := 2) (lv' := [(2, va_rf r4), (0, va_rf this), (1, .int a1)]) hx hb dX10_harmsOn_9 rfl hl (by decide) rfl (fun ls hl => ?_)
  refine m_aload_n (x := r4) hx hb dX10_harmsOn_10 rfl (lv_at hl 0 rfl) ?_
  refine m_ifnonnull (x := r4) (tgt := 18) hx hb dX10_harmsOn_11 (by decide) (fun c5 => ?_) (fun c5 => ?_)
  · replace h := itf h c5
    refine m_aload_n (x := r4) hx hb dX10_harmsOn_18 rfl (lv_at hl 0 rfl) ?_
    obtain ⟨g6, h⟩ := itg h
    obtain ⟨r7, hr7, h⟩ := ob h
    refine m_contI hC hw (m_runV hC hw (x := r4) (ci := 11) (N := 4) (C := RX8) (T := TX8) (n := 0) (av := []) (rest := []) (c_X8_harmsTold (G := G) (l := l) hr7) gX10_harmsOn_X8_harmsTold rfl (by decide +kernel) ⟨(Nat.le_of_ble_eq_true rfl), (Nat.le_of_ble_eq_true rfl)⟩ g6 rfl rfl hl.1 rfl (Nat.le_of_ble_eq_true rfl) dX10_harmsOn_19 ⟨(Nat.zero_le _), (Nat.zero_le _)⟩) (fun H locs hw => ?_)
    replace h := Option.some.inj h
    subst h
    exact RET hw ⟨(Nat.zero_le _), (Nat.zero_le _)⟩ dX10_harmsOn_22
  · replace h := itt h c5
    refine lv_iconst (v := (0 : Int32)) hx hb dX10_harmsOn_14 (by decide) ?_
    refine lv_goto (tgt := 22) hx hb dX10_harmsOn_15 (by decide) ?_
    replace h := Option.some.inj h
    subst h
    exact RET hw ⟨(Nat.zero_le _), (Nat.zero_le _)⟩ dX10_harmsOn_22

def f_X5_riskOn_L4 (n : Nat) (M : Mem) (x0 : Option Nat) (x1 : Int32) : Nat → Int32 → Int32 → Option (Int32)
  | 0, _, _ => none
  | k + 1, x2, x3 => (gR M x0 8 1).bind fun v1 => if isO M v1 2 = true then ((f_Jx4a65c_size_8abf5 M v1).bind fun r3 => if r3 ≤ x3 then (some (x2)) else ((gR M x0 8 1).bind fun v5 => if isO M v5 2 = true then ((f_Jx4a65c_get_915e3 M v5 x3).bind fun r7 => if r7 = none ∨ isO M r7 13 = true then (if isO M r7 13 = true then ((f_X10_valueOn n M r7 x1).bind fun r10 => if isO M r7 13 = true then ((f_X10_harmsOn n M r7 x1).bind fun r12 => f_X5_riskOn_L4 n M x0 x1 k (x2 + (r10 * ((10 : Int32) + r12))) (x3 + (1 : Int32))) else none) else none) else none) else none)) else none
def f_X5_riskOn (n : Nat) (M : Mem) (this : Option Nat) (a1 : Int32) : Option (Int32) := f_X5_riskOn_L4 n M this a1 n (0 : Int32) (0 : Int32)
def rmX5_riskOn : Room := { frames := 5, cells := 0, slots := 0, locals := 108 }
theorem k_X5_riskOn_18 : Cond.fieldLink RX5 18 "LoanBook$Parcel" "content" "Ljava/util/ArrayList;" ∈ wsX5_riskOn := List.mem_of_getElem? (i := 1) rfl
theorem ki_X5_riskOn_X5 : ∀ w ∈ u_ws RX5 TX5 4, w ∈ wsX5_riskOn := sub_r [68, 69, 70, 71] (by decide +kernel)
theorem k_X5_riskOn_cc29 : Cond.classLink RX5 29 RX10 ∈ wsX5_riskOn := List.mem_of_getElem? (i := 2) rfl
set_option maxHeartbeats 4000000 in
set_option maxRecDepth 100000 in
theorem c_X5_riskOn {G : wG} {l : Launch} {n : Nat} {M : Mem} {sz : Nat} {this : Option Nat} {a1 : Int32} {r : Int32} (h : f_X5_riskOn n M this a1 = some r) : CtrI G l yX5_riskOn wsX5_riskOn rmX5_riskOn [va_rf this, .int a1] M sz r M sz := by
  refine m_startI (own := RX5) (cc := cX5_riskOn) (maxL := 5) (lv0 := [(0, va_rf this), (1, .int a1)]) (by decide) rfl rfl (by simp [lg_sl, va_rf_cat, cat_i, cat_r]) (by simp [lv_args, va_rf_cat, cat_i, cat_r]) ?_
  intro p e s m args below meth c Q hC hname RET hsz hw ls hl
  have hx := hC.1
  have hb := hC.2.1
  have L4 : ∀ (x0 : Option Nat) (x1 : Int32) (k : Nat) (x2 : Int32) (x3 : Int32) (cells slots : Nat) (H : Heap) (locs : List Loc) (ls : Array Slot), f_X5_riskOn_L4 n M x0 x1 k x2 x3 = some r → cells ≤ 0 → slots ≤ 0 → wD G s M M sz H locs → lv_has ls 5 [(0, va_rf x0), (1, .int x1), (2, .int x2), (3, .int x3)] → W p l e rmX5_riskOn s m args below meth c H locs cells slots Q (F0 m 4 ls []) := by
    intro x0 x1 k
    induction k with
    | zero =>
      intro x2 x3 cells slots H locs ls h
      exact absurd (show (none : Option (Int32)) = some r from h) (fun z => by cases z)
    | succ k ih =>
      intro x2 x3 cells slots H locs ls h hcl hsl hw hl
      rw [f_X5_riskOn_L4] at h
      refine lv_iload_n hx hb dX5_riskOn_4 rfl (lv_at hl 3 rfl) ?_
      refine m_aload_n (x := x0) hx hb dX5_riskOn_5 rfl (lv_at hl 0 rfl) ?_
      obtain ⟨v1, hv1, h⟩ := ob h
      refine m_getR hC hw (C := RX5) (T := TX5) (N := 4) hv1 ki_X5_riskOn_X5 rfl (by decide) k_X5_riskOn_18 (fun _ z => z) dX5_riskOn_6 ?_
      obtain ⟨g2, h⟩ := itg h
      obtain ⟨r3, hr3, h⟩ := ob h
      refine m_contI hC hw (m_runV hC hw (x := v1) (ci := 2) (N := 3) (C := RJx4a65c) (T := TJx4a65c) (n := 0) (av := []) (rest := [.int x3]) (c_Jx4a65c_size_8abf5 (G := G) (l := l) hr3) gX5_riskOn_Jx4a65c_size_8abf5 rfl (by decide +kernel) ⟨(Nat.le_of_ble_eq_true rfl), (Nat.le_of_ble_eq_true rfl)⟩ g2 rfl rfl hl.1 rfl (Nat.le_of_ble_eq_true rfl) dX5_riskOn_9 ⟨(show cells + 0 ≤ 0 from by omega), (show slots + 0 ≤ 0 from by omega)⟩) (fun H locs hw => ?_)
      refine lv_icmp_ge (tgt := 53) hx hb dX5_riskOn_12 (by decide) (fun c4 => ?_) (fun c4 => ?_)
      · replace h := itt h c4
        refine lv_iload_n hx hb dX5_riskOn_53 rfl (lv_at hl 2 rfl) ?_
        replace h := Option.some.inj h
        subst h
        exact RET hw ⟨(show cells + 0 ≤ 0 from by omega), (show slots + 0 ≤ 0 from by omega)⟩ dX5_riskOn_54
      · replace h := itf h c4
        refine m_aload_n (x := x0) hx hb dX5_riskOn_15 rfl (lv_at hl 0 rfl) ?_
        obtain ⟨v5, hv5, h⟩ := ob h
        refine m_getR hC hw (C := RX5) (T := TX5) (N := 4) hv5 ki_X5_riskOn_X5 rfl (by decide) k_X5_riskOn_18 (fun _ z => z) dX5_riskOn_16 ?_
        refine lv_iload_n hx hb dX5_riskOn_19 rfl (lv_at hl 3 rfl) ?_
        obtain ⟨g6, h⟩ := itg h
        obtain ⟨r7, hr7, h⟩ := ob h
        refine m_contQ hC hw (m_runV hC hw (x := v5) (ci := 2) (N := 3) (C := RJx4a65c) (T := TJx4a65c) (n := 1) (av := [.int x3]) (rest := []) (c_Jx4a65c_get_915e3 (G := G) (l := l) hr7) gX5_riskOn_Jx4a65c_get_915e3 rfl (by decide +kernel) ⟨(Nat.le_of_ble_eq_true rfl), (Nat.le_of_ble_eq_true rfl)⟩ g6 rfl rfl hl.1 rfl (Nat.le_of_ble_eq_true rfl) dX5_riskOn_20 ⟨(show cells + 0 ≤ 0 from by omega), (show slots + 0 ≤ 0 from by omega)⟩) (fun H locs hw => ?_)
        obtain ⟨g8, h⟩ := itg h
        refine m_cast (x := r7) hC hw (C := RX10) (T := TX10) (N := 9) g8 k_X5_riskOn_cc29 rfl dX5_riskOn_23 ?_
        refine m_astore (x := r7) (lv' := [(4, va_rf r7), (0, va_rf x0), (1, .int x1), (2, .int x2), (3, .int x3)]) hx hb dX5_riskOn_26 hl (by decide) rfl (fun ls hl => ?_)
        refine lv_iload_n hx hb dX5_riskOn_28 rfl (lv_at hl 3 rfl) ?_
        refine m_aload (x := r7) hx hb dX5_riskOn_29 (lv_at hl 0 rfl) ?_
        refine lv_iload_n hx hb dX5_riskOn_31 rfl (lv_at hl 2 rfl) ?_
        obtain ⟨g9, h⟩ := itg h
        obtain ⟨r10, hr10, h⟩ := ob h
        refine m_contI hC hw (m_runV hC hw (x := r7) (ci := 13) (N := 9) (C := RX10) (T := TX10) (n := 1) (av := [.int x1]) (rest := [.int x2]) (c_X10_valueOn (G := G) (l := l) hr10) gX5_riskOn_X10_valueOn rfl (by decide +kernel) ⟨(Nat.le_of_ble_eq_true rfl), (Nat.le_of_ble_eq_true rfl)⟩ g9 rfl rfl hl.1 rfl (Nat.le_of_ble_eq_true rfl) dX5_riskOn_32 ⟨(show cells + 0 ≤ 0 from by omega), (show slots + 0 ≤ 0 from by omega)⟩) (fun H locs hw => ?_)
        refine lv_bipush (v := (10 : Int32)) hx hb dX5_riskOn_35 (by decide) ?_
        refine m_aload (x := r7) hx hb dX5_riskOn_37 (lv_at hl 0 rfl) ?_
        refine lv_iload_n hx hb dX5_riskOn_39 rfl (lv_at hl 2 rfl) ?_
        obtain ⟨g11, h⟩ := itg h
        obtain ⟨r12, hr12, h⟩ := ob h
        refine m_contI hC hw (m_runV hC hw (x := r7) (ci := 13) (N := 9) (C := RX10) (T := TX10) (n := 1) (av := [.int x1]) (rest := [.int (10 : Int32), .int r10, .int x2]) (c_X10_harmsOn (G := G) (l := l) hr12) gX5_riskOn_X10_harmsOn rfl (by decide +kernel) ⟨(Nat.le_of_ble_eq_true rfl), (Nat.le_of_ble_eq_true rfl)⟩ g11 rfl rfl hl.1 rfl (Nat.le_of_ble_eq_true rfl) dX5_riskOn_40 ⟨(show cells + 0 ≤ 0 from by omega), (show slots + 0 ≤ 0 from by omega)⟩) (fun H locs hw => ?_)
        refine lv_iadd hx hb dX5_riskOn_43 ?_
        refine lv_imul hx hb dX5_riskOn_44 ?_
        refine lv_iadd hx hb dX5_riskOn_45 ?_
        refine lv_istore_n (i := 2) (lv' := [(2, .int (x2 + (r10 * ((10 : Int32) + r12)))), (4, va_rf r7), (0, va_rf x0), (1, .int x1), (3, .int x3)]) hx hb dX5_riskOn_46 rfl hl (by decide) rfl (fun ls hl => ?_)
        refine lv_iinc (v := (x3 + (1 : Int32))) (lv' := [(3, .int (x3 + (1 : Int32))), (2, .int (x2 + (r10 * ((10 : Int32) + r12)))), (4, va_rf r7), (0, va_rf x0), (1, .int x1)]) hx hb dX5_riskOn_47 hl (k := 4) rfl rfl (by decide) rfl (fun ls hl => ?_)
        refine lv_goto (tgt := 4) hx hb dX5_riskOn_50 (by decide) ?_
        exact ih _ _ _ _ _ _ _ h hcl hsl hw (lv_sub hl [3, 4, 1, 0] rfl)
  unfold f_X5_riskOn at h
  refine lv_iconst (v := (0 : Int32)) hx hb dX5_riskOn_0 (by decide) ?_
  refine lv_istore_n (i := 2) (lv' := [(2, .int (0 : Int32)), (0, va_rf this), (1, .int a1)]) hx hb dX5_riskOn_1 rfl hl (by decide) rfl (fun ls hl => ?_)
  refine lv_iconst (v := (0 : Int32)) hx hb dX5_riskOn_2 (by decide) ?_
  refine lv_istore_n (i := 3) (lv' := [(3, .int (0 : Int32)), (2, .int (0 : Int32)), (0, va_rf this), (1, .int a1)]) hx hb dX5_riskOn_3 rfl hl (by decide) rfl (fun ls hl => ?_)
  exact L4 this a1 _ _ _ _ _ _ _ _ h (Nat.zero_le _) (Nat.zero_le _) hw (lv_sub hl [2, 3, 1, 0] rfl)

def f_X4_dangerOf (M : Mem) (a1 : Option Nat) (a2 : Int32) : Option (Int32) := if a2 = (2 : Int32) then (some (1 : Int32)) else (if a2 = (1 : Int32) then (if isO M a1 8 = true then ((f_X5_courierOn M a1 (0 : Int32)).bind fun r7 => if r7 = (-1 : Int32) then (some (3 : Int32)) else (some (2 : Int32))) else none) else (if isO M a1 8 = true then ((f_X5_courierOn M a1 (1 : Int32)).bind fun r4 => if r4 = (-1 : Int32) then (some (3 : Int32)) else (some (2 : Int32))) else none))
def rmX4_dangerOf : Room := { frames := 1, cells := 0, slots := 0, locals := 21 }
set_option maxHeartbeats 4000000 in
set_option maxRecDepth 100000 in
theorem c_X4_dangerOf {G : wG} {l : Launch} {M : Mem} {sz : Nat} {a1 : Option Nat} {a2 : Int32} {r : Int32} (h : f_X4_dangerOf M a1 a2 = some r) : CtrI G l yX4_dangerOf wsX4_dangerOf rmX4_dangerOf [va_rf a1, .int a2] M sz r M sz := by
  refine m_startI (own := RX4) (cc := cX4_dangerOf) (maxL := 2) (lv0 := [(0, va_rf a1), (1, .int a2)]) (by decide) rfl rfl (by simp [lg_sl, va_rf_cat, cat_i, cat_r]) (by simp [lv_args, va_rf_cat, cat_i, cat_r]) ?_
  intro p e s m args below meth c Q hC hname RET hsz hw ls hl
  have hx := hC.1
  have hb := hC.2.1
  unfold f_X4_dangerOf at h
  refine lv_iload_n hx hb dX4_dangerOf_0 rfl (lv_at hl 1 rfl) ?_
  refine lv_iconst (v := (2 : Int32)) hx hb dX4_dangerOf_1 (by decide) ?_
  refine lv_icmp_ne (tgt := 7) hx hb dX4_dangerOf_2 (by decide) (fun c1 => ?_) (fun c1 => ?_)
  · replace h := itf h c1
    refine m_aload_n (x := a1) hx hb dX4_dangerOf_7 rfl (lv_at hl 0 rfl) ?_
    refine lv_iload_n hx hb dX4_dangerOf_8 rfl (lv_at hl 1 rfl) ?_
    refine lv_iconst (v := (1 : Int32)) hx hb dX4_dangerOf_9 (by decide) ?_
    refine lv_icmp_ne (tgt := 17) hx hb dX4_dangerOf_10 (by decide) (fun c2 => ?_) (fun c2 => ?_)
    · replace h := itf h c2
      refine lv_iconst (v := (1 : Int32)) hx hb dX4_dangerOf_17 (by decide) ?_
      obtain ⟨g3, h⟩ := itg h
      obtain ⟨r4, hr4, h⟩ := ob h
      refine m_contI hC hw (m_runV hC hw (x := a1) (ci := 8) (N := 4) (C := RX5) (T := TX5) (n := 1) (av := [.int (1 : Int32)]) (rest := []) (c_X5_courierOn (G := G) (l := l) hr4) gX4_dangerOf_X5_courierOn rfl (by decide +kernel) ⟨(Nat.le_of_ble_eq_true rfl), (Nat.le_of_ble_eq_true rfl)⟩ g3 rfl rfl hl.1 rfl (Nat.le_of_ble_eq_true rfl) dX4_dangerOf_18 ⟨(Nat.zero_le _), (Nat.zero_le _)⟩) (fun H locs hw => ?_)
      refine lv_iconst (v := (-1 : Int32)) hx hb dX4_dangerOf_21 (by decide) ?_
      refine lv_icmp_ne (tgt := 29) hx hb dX4_dangerOf_22 (by decide) (fun c5 => ?_) (fun c5 => ?_)
      · replace h := itf h c5
        refine lv_iconst (v := (2 : Int32)) hx hb dX4_dangerOf_29 (by decide) ?_
        replace h := Option.some.inj h
        subst h
        exact RET hw ⟨(Nat.zero_le _), (Nat.zero_le _)⟩ dX4_dangerOf_30
      · replace h := itt h c5
        refine lv_iconst (v := (3 : Int32)) hx hb dX4_dangerOf_25 (by decide) ?_
        refine lv_goto (tgt := 30) hx hb dX4_dangerOf_26 (by decide) ?_
        replace h := Option.some.inj h
        subst h
        exact RET hw ⟨(Nat.zero_le _), (Nat.zero_le _)⟩ dX4_dangerOf_30
    · replace h := itt h c2
      refine lv_iconst (v := (0 : Int32)) hx hb dX4_dangerOf_13 (by decide) ?_
      refine lv_goto (tgt := 18) hx hb dX4_dangerOf_14 (by decide) ?_
      obtain ⟨g6, h⟩ := itg h
      obtain ⟨r7, hr7, h⟩ := ob h
      refine m_contI hC hw (m_runV hC hw (x := a1) (ci := 8) (N := 4) (C := RX5) (T := TX5) (n := 1) (av := [.int (0 : Int32)]) (rest := []) (c_X5_courierOn (G := G) (l := l) hr7) gX4_dangerOf_X5_courierOn rfl (by decide +kernel) ⟨(Nat.le_of_ble_eq_true rfl), (Nat.le_of_ble_eq_true rfl)⟩ g6 rfl rfl hl.1 rfl (Nat.le_of_ble_eq_true rfl) dX4_dangerOf_18 ⟨(Nat.zero_le _), (Nat.zero_le _)⟩) (fun H locs hw => ?_)
      refine lv_iconst (v := (-1 : Int32)) hx hb dX4_dangerOf_21 (by decide) ?_
      refine lv_icmp_ne (tgt := 29) hx hb dX4_dangerOf_22 (by decide) (fun c8 => ?_) (fun c8 => ?_)
      · replace h := itf h c8
        refine lv_iconst (v := (2 : Int32)) hx hb dX4_dangerOf_29 (by decide) ?_
        replace h := Option.some.inj h
        subst h
        exact RET hw ⟨(Nat.zero_le _), (Nat.zero_le _)⟩ dX4_dangerOf_30
      · replace h := itt h c8
        refine lv_iconst (v := (3 : Int32)) hx hb dX4_dangerOf_25 (by decide) ?_
        refine lv_goto (tgt := 30) hx hb dX4_dangerOf_26 (by decide) ?_
        replace h := Option.some.inj h
        subst h
        exact RET hw ⟨(Nat.zero_le _), (Nat.zero_le _)⟩ dX4_dangerOf_30
  · replace h := itt h c1
    refine lv_iconst (v := (1 : Int32)) hx hb dX4_dangerOf_5 (by decide) ?_
    replace h := Option.some.inj h
    subst h
    exact RET hw ⟨(Nat.zero_le _), (Nat.zero_le _)⟩ dX4_dangerOf_6

def f_X4_costOn_L17 (n : Nat) (M : Mem) (x0 : Option Nat) (x1 : Int32) (x2 : Int32) : Nat → Int32 → Int32 → Option (Int32)
  | 0, _, _ => none
  | k + 1, x3, x4 => (gR M x0 7 2).bind fun v4 => if isO M v4 2 = true then ((f_Jx4a65c_size_8abf5 M v4).bind fun r6 => if r6 ≤ x4 then ((gR M x0 7 0).bind fun v8 => (gI M v8 6 3).bind fun v9 => some ((x3 * v9))) else ((gR M x0 7 2).bind fun v10 => if isO M v10 2 = true then ((f_Jx4a65c_get_915e3 M v10 x4).bind fun r12 => if r12 = none ∨ isO M r12 8 = true then (if isO M r12 8 = true then ((f_X5_riskOn n M r12 x1).bind fun r15 => (f_X4_dangerOf M r12 x2).bind fun r16 => f_X4_costOn_L17 n M x0 x1 x2 k (x3 + (r15 * r16)) (x4 + (1 : Int32))) else none) else none) else none)) else none
def f_X4_costOn (n : Nat) (M : Mem) (this : Option Nat) (a1 : Int32) : Option (Int32) := if isO M this 7 = true then ((f_X4_stageOn M this a1).bind fun r2 => if r2 = 0 then (some (0 : Int32)) else (f_X4_costOn_L17 n M this a1 r2 n (0 : Int32) (0 : Int32))) else none
def rmX4_costOn : Room := { frames := 6, cells := 0, slots := 0, locals := 132 }
theorem k_X4_costOn_12 : Cond.fieldLink RX4 12 "LoanBook$Loan" "parcels" "Ljava/util/ArrayList;" ∈ wsX4_costOn := List.mem_of_getElem? (i := 1) rfl
theorem ki_X4_costOn_X4 : ∀ w ∈ u_ws RX4 TX4 5, w ∈ wsX4_costOn := sub_r [104, 105, 106, 107, 108] (by decide +kernel)
theorem k_X4_costOn_22 : Cond.fieldLink RX4 22 "LoanBook$Loan" "borrower" "LLoanBook$House;" ∈ wsX4_costOn := List.mem_of_getElem? (i := 3) rfl
theorem k_X4_costOn_103 : Cond.fieldLink RX4 103 "LoanBook$House" "rate" "I" ∈ wsX4_costOn := List.mem_of_getElem? (i := 4) rfl
theorem ki_X4_costOn_X3 : ∀ w ∈ u_ws RX3 TX3 5, w ∈ wsX4_costOn := sub_r [109, 110, 111, 112, 113] (by decide +kernel)
theorem k_X4_costOn_cc62 : Cond.classLink RX4 62 RX5 ∈ wsX4_costOn := List.mem_of_getElem? (i := 2) rfl
set_option maxHeartbeats 4000000 in
set_option maxRecDepth 100000 in
theorem c_X4_costOn {G : wG} {l : Launch} {n : Nat} {M : Mem} {sz : Nat} {this : Option Nat} {a1 : Int32} {r : Int32} (h : f_X4_costOn n M this a1 = some r) : CtrI G l yX4_costOn wsX4_costOn rmX4_costOn [va_rf this, .int a1] M sz r M sz := by
  refine m_startI (own := RX4) (cc := cX4_costOn) (maxL := 6) (lv0 := [(0, va_rf this), (1, .int a1)]) (by decide) rfl rfl (by simp [lg_sl, va_rf_cat, cat_i, cat_r]) (by simp [lv_args, va_rf_cat, cat_i, cat_r]) ?_
  intro p e s m args below meth c Q hC hname RET hsz hw ls hl
  have hx := hC.1
  have hb := hC.2.1
  have L17 : ∀ (x0 : Option Nat) (x1 : Int32) (x2 : Int32) (k : Nat) (x3 : Int32) (x4 : Int32) (cells slots : Nat) (H : Heap) (locs : List Loc) (ls : Array Slot), f_X4_costOn_L17 n M x0 x1 x2 k x3 x4 = some r → cells ≤ 0 → slots ≤ 0 → wD G s M M sz H locs → lv_has ls 6 [(0, va_rf x0), (1, .int x1), (2, .int x2), (3, .int x3), (4, .int x4)] → W p l e rmX4_costOn s m args below meth c H locs cells slots Q (F0 m 17 ls []) := by
    intro x0 x1 x2 k
    induction k with
    | zero =>
      intro x3 x4 cells slots H locs ls h
      exact absurd (show (none : Option (Int32)) = some r from h) (fun z => by cases z)
    | succ k ih =>
      intro x3 x4 cells slots H locs ls h hcl hsl hw hl
      rw [f_X4_costOn_L17] at h
      refine lv_iload hx hb dX4_costOn_17 (lv_at hl 4 rfl) ?_
      refine m_aload_n (x := x0) hx hb dX4_costOn_19 rfl (lv_at hl 0 rfl) ?_
      obtain ⟨v4, hv4, h⟩ := ob h
      refine m_getR hC hw (C := RX4) (T := TX4) (N := 5) hv4 ki_X4_costOn_X4 rfl (by decide) k_X4_costOn_12 (fun _ z => z) dX4_costOn_20 ?_
      obtain ⟨g5, h⟩ := itg h
      obtain ⟨r6, hr6, h⟩ := ob h
      refine m_contI hC hw (m_runV hC hw (x := v4) (ci := 2) (N := 3) (C := RJx4a65c) (T := TJx4a65c) (n := 0) (av := []) (rest := [.int x4]) (c_Jx4a65c_size_8abf5 (G := G) (l := l) hr6) gX4_costOn_Jx4a65c_size_8abf5 rfl (by decide +kernel) ⟨(Nat.le_of_ble_eq_true rfl), (Nat.le_of_ble_eq_true rfl)⟩ g5 rfl rfl hl.1 rfl (Nat.le_of_ble_eq_true rfl) dX4_costOn_23 ⟨(show cells + 0 ≤ 0 from by omega), (show slots + 0 ≤ 0 from by omega)⟩) (fun H locs hw => ?_)
      refine lv_icmp_ge (tgt := 65) hx hb dX4_costOn_26 (by decide) (fun c7 => ?_) (fun c7 => ?_)
      · replace h := itt h c7
        refine lv_iload_n hx hb dX4_costOn_65 rfl (lv_at hl 3 rfl) ?_
        refine m_aload_n (x := x0) hx hb dX4_costOn_66 rfl (lv_at hl 0 rfl) ?_
        obtain ⟨v8, hv8, h⟩ := ob h
        refine m_getR hC hw (C := RX4) (T := TX4) (N := 5) hv8 ki_X4_costOn_X4 rfl (by decide) k_X4_costOn_22 (fun _ z => z) dX4_costOn_67 ?_
        obtain ⟨v9, hv9, h⟩ := ob h
        refine m_getI hC hw (C := RX3) (T := TX3) (N := 5) hv9 ki_X4_costOn_X3 rfl (by decide) k_X4_costOn_103 (fun _ z => z) dX4_costOn_70 ?_
        refine lv_imul hx hb dX4_costOn_73 ?_
        replace h := Option.some.inj h
        subst h
        exact RET hw ⟨(show cells + 0 ≤ 0 from by omega), (show slots + 0 ≤ 0 from by omega)⟩ dX4_costOn_74
      · replace h := itf h c7
        refine m_aload_n (x := x0) hx hb dX4_costOn_29 rfl (lv_at hl 0 rfl) ?_
        obtain ⟨v10, hv10, h⟩ := ob h
        refine m_getR hC hw (C := RX4) (T := TX4) (N := 5) hv10 ki_X4_costOn_X4 rfl (by decide) k_X4_costOn_12 (fun _ z => z) dX4_costOn_30 ?_
        refine lv_iload hx hb dX4_costOn_33 (lv_at hl 4 rfl) ?_
        obtain ⟨g11, h⟩ := itg h
        obtain ⟨r12, hr12, h⟩ := ob h
        refine m_contQ hC hw (m_runV hC hw (x := v10) (ci := 2) (N := 3) (C := RJx4a65c) (T := TJx4a65c) (n := 1) (av := [.int x4]) (rest := []) (c_Jx4a65c_get_915e3 (G := G) (l := l) hr12) gX4_costOn_Jx4a65c_get_915e3 rfl (by decide +kernel) ⟨(Nat.le_of_ble_eq_true rfl), (Nat.le_of_ble_eq_true rfl)⟩ g11 rfl rfl hl.1 rfl (Nat.le_of_ble_eq_true rfl) dX4_costOn_35 ⟨(show cells + 0 ≤ 0 from by omega), (show slots + 0 ≤ 0 from by omega)⟩) (fun H locs hw => ?_)
        obtain ⟨g13, h⟩ := itg h
        refine m_cast (x := r12) hC hw (C := RX5) (T := TX5) (N := 4) g13 k_X4_costOn_cc62 rfl dX4_costOn_38 ?_
        refine m_astore (x := r12) (lv' := [(5, va_rf r12), (0, va_rf x0), (1, .int x1), (2, .int x2), (3, .int x3), (4, .int x4)]) hx hb dX4_costOn_41 hl (by decide) rfl (fun ls hl => ?_)
        refine lv_iload_n hx hb dX4_costOn_43 rfl (lv_at hl 4 rfl) ?_
        refine m_aload (x := r12) hx hb dX4_costOn_44 (lv_at hl 0 rfl) ?_
        refine lv_iload_n hx hb dX4_costOn_46 rfl (lv_at hl 2 rfl) ?_
        obtain ⟨g14, h⟩ := itg h
        obtain ⟨r15, hr15, h⟩ := ob h
        refine m_contI hC hw (m_runV hC hw (x := r12) (ci := 8) (N := 4) (C := RX5) (T := TX5) (n := 1) (av := [.int x1]) (rest := [.int x3]) (c_X5_riskOn (G := G) (l := l) hr15) gX4_costOn_X5_riskOn rfl (by decide +kernel) ⟨(Nat.le_of_ble_eq_true rfl), (Nat.le_of_ble_eq_true rfl)⟩ g14 rfl rfl hl.1 rfl (Nat.le_of_ble_eq_true rfl) dX4_costOn_47 ⟨(show cells + 0 ≤ 0 from by omega), (show slots + 0 ≤ 0 from by omega)⟩) (fun H locs hw => ?_)
        refine m_aload (x := r12) hx hb dX4_costOn_50 (lv_at hl 0 rfl) ?_
        refine lv_iload_n hx hb dX4_costOn_52 rfl (lv_at hl 3 rfl) ?_
        obtain ⟨r16, hr16, h⟩ := ob h
        refine m_contI hC hw (m_runS hC hw (n := 2) (av := [va_rf r12, .int x2]) (rest := [.int r15, .int x3]) (c_X4_dangerOf (G := G) (l := l) hr16) gX4_costOn_X4_dangerOf rfl (by decide +kernel) ⟨(Nat.le_of_ble_eq_true rfl), (Nat.le_of_ble_eq_true rfl)⟩ rfl hl.1 rfl (Nat.le_of_ble_eq_true rfl) dX4_costOn_53 ⟨(show cells + 0 ≤ 0 from by omega), (show slots + 0 ≤ 0 from by omega)⟩) (fun H locs hw => ?_)
        refine lv_imul hx hb dX4_costOn_56 ?_
        refine lv_iadd hx hb dX4_costOn_57 ?_
        refine lv_istore_n (i := 3) (lv' := [(3, .int (x3 + (r15 * r16))), (5, va_rf r12), (0, va_rf x0), (1, .int x1), (2, .int x2), (4, .int x4)]) hx hb dX4_costOn_58 rfl hl (by decide) rfl (fun ls hl => ?_)
        refine lv_iinc (v := (x4 + (1 : Int32))) (lv' := [(4, .int (x4 + (1 : Int32))), (3, .int (x3 + (r15 * r16))), (5, va_rf r12), (0, va_rf x0), (1, .int x1), (2, .int x2)]) hx hb dX4_costOn_59 hl (k := 5) rfl rfl (by decide) rfl (fun ls hl => ?_)
        refine lv_goto (tgt := 17) hx hb dX4_costOn_62 (by decide) ?_
        exact ih _ _ _ _ _ _ _ h hcl hsl hw (lv_sub hl [3, 4, 5, 1, 0] rfl)
  unfold f_X4_costOn at h
  refine m_aload_n (x := this) hx hb dX4_costOn_0 rfl (lv_at hl 0 rfl) ?_
  refine lv_iload_n hx hb dX4_costOn_1 rfl (lv_at hl 1 rfl) ?_
  obtain ⟨g1, h⟩ := itg h
  obtain ⟨r2, hr2, h⟩ := ob h
  refine m_contI hC hw (m_runV hC hw (x := this) (ci := 7) (N := 5) (C := RX4) (T := TX4) (n := 1) (av := [.int a1]) (rest := []) (c_X4_stageOn (G := G) (l := l) hr2) gX4_costOn_X4_stageOn rfl (by decide +kernel) ⟨(Nat.le_of_ble_eq_true rfl), (Nat.le_of_ble_eq_true rfl)⟩ g1 rfl rfl hl.1 rfl (Nat.le_of_ble_eq_true rfl) dX4_costOn_2 ⟨(Nat.zero_le _), (Nat.zero_le _)⟩) (fun H locs hw => ?_)
  refine lv_istore_n (i := 2) (lv' := [(2, .int r2), (0, va_rf this), (1, .int a1)]) hx hb dX4_costOn_5 rfl hl (by decide) rfl (fun ls hl => ?_)
  refine lv_iload_n hx hb dX4_costOn_6 rfl (lv_at hl 0 rfl) ?_
  refine lv_if_ne (tgt := 12) hx hb dX4_costOn_7 (by decide) (fun c3 => ?_) (fun c3 => ?_)
  · replace h := itf h c3
    refine lv_iconst (v := (0 : Int32)) hx hb dX4_costOn_12 (by decide) ?_
    refine lv_istore_n (i := 3) (lv' := [(3, .int (0 : Int32)), (2, .int r2), (0, va_rf this), (1, .int a1)]) hx hb dX4_costOn_13 rfl hl (by decide) rfl (fun ls hl => ?_)
    refine lv_iconst (v := (0 : Int32)) hx hb dX4_costOn_14 (by decide) ?_
    refine lv_istore (lv' := [(4, .int (0 : Int32)), (3, .int (0 : Int32)), (2, .int r2), (0, va_rf this), (1, .int a1)]) hx hb dX4_costOn_15 hl (by decide) rfl (fun ls hl => ?_)
    exact L17 this a1 r2 _ _ _ _ _ _ _ _ h (Nat.zero_le _) (Nat.zero_le _) hw (lv_sub hl [3, 4, 2, 1, 0] rfl)
  · replace h := itt h c3
    refine lv_iconst (v := (0 : Int32)) hx hb dX4_costOn_10 (by decide) ?_
    replace h := Option.some.inj h
    subst h
    exact RET hw ⟨(Nat.zero_le _), (Nat.zero_le _)⟩ dX4_costOn_11

def f_X4_costBetween_L22 (n : Nat) (M : Mem) (x0 : Option Nat) (x5 : Int32) : Nat → Int64 → Int32 → Option (Int64)
  | 0, _, _ => none
  | k + 1, x3, x6 => if x5 < x6 then (some (x3)) else (if isO M x0 7 = true then ((f_X4_costOn n M x0 x6).bind fun r6 => f_X4_costBetween_L22 n M x0 x5 k (x3 + (r6).toInt64) (x6 + (1 : Int32))) else none)
def f_X4_costBetween (n : Nat) (M : Mem) (this : Option Nat) (a1 : Int32) (a2 : Int32) : Option (Int64) := if isO M this 7 = true then ((f_X4_last M this).bind fun r2 => (gI M this 7 1).bind fun v3 => f_X4_costBetween_L22 n M this (if r2 < a2 then r2 else a2) n (0 : Int64) (if a1 < v3 then v3 else a1)) else none
def rmX4_costBetween : Room := { frames := 7, cells := 0, slots := 0, locals := 157 }
theorem k_X4_costBetween_min46_0 : Cond.methodLink RX4 46 Lib.Math.min.name ∈ wsX4_costBetween := List.mem_of_getElem? (i := 1) rfl
theorem k_X4_costBetween_min46_1 : Cond.static Lib.Math.min.name ∈ wsX4_costBetween := List.mem_of_getElem? (i := 2) rfl
theorem k_X4_costBetween_min46_2 : Cond.initialized "java/lang/Math" ∈ wsX4_costBetween := List.mem_of_getElem? (i := 3) rfl
theorem k_X4_costBetween_min46_3 : Cond.code Lib.Math.min.name Lib.Math.min.code 2 (some .int) ∈ wsX4_costBetween := List.mem_of_getElem? (i := 4) rfl
theorem k_X4_costBetween_26 : Cond.fieldLink RX4 26 "LoanBook$Loan" "first" "I" ∈ wsX4_costBetween := List.mem_of_getElem? (i := 5) rfl
theorem ki_X4_costBetween_X4 : ∀ w ∈ u_ws RX4 TX4 5, w ∈ wsX4_costBetween := sub_r [115, 116, 117, 118, 119] (by decide +kernel)
theorem k_X4_costBetween_max52_0 : Cond.methodLink RX4 52 Lib.Math.max.name ∈ wsX4_costBetween := List.mem_of_getElem? (i := 6) rfl
theorem k_X4_costBetween_max52_1 : Cond.static Lib.Math.max.name ∈ wsX4_costBetween := List.mem_of_getElem? (i := 7) rfl
theorem k_X4_costBetween_max52_2 : Cond.initialized "java/lang/Math" ∈ wsX4_costBetween := List.mem_of_getElem? (i := 3) rfl
theorem k_X4_costBetween_max52_3 : Cond.code Lib.Math.max.name Lib.Math.max.code 2 (some .int) ∈ wsX4_costBetween := List.mem_of_getElem? (i := 8) rfl
set_option maxHeartbeats 4000000 in
set_option maxRecDepth 100000 in
theorem c_X4_costBetween {G : wG} {l : Launch} {n : Nat} {M : Mem} {sz : Nat} {this : Option Nat} {a1 : Int32} {a2 : Int32} {r : Int64} (h : f_X4_costBetween n M this a1 a2 = some r) : CtrL G l yX4_costBetween wsX4_costBetween rmX4_costBetween [va_rf this, .int a1, .int a2] M sz r M sz := by
  refine m_startL (own := RX4) (cc := cX4_costBetween) (maxL := 7) (lv0 := [(0, va_rf this), (1, .int a1), (2, .int a2)]) (by decide) rfl rfl (by simp [lg_sl, va_rf_cat, cat_i, cat_r]) (by simp [lv_args, va_rf_cat, cat_i, cat_r]) ?_
  intro p e s m args below meth c Q hC hname RET hsz hw ls hl
  have hx := hC.1
  have hb := hC.2.1
  have L22 : ∀ (x0 : Option Nat) (x5 : Int32) (k : Nat) (x3 : Int64) (x6 : Int32) (cells slots : Nat) (H : Heap) (locs : List Loc) (ls : Array Slot), f_X4_costBetween_L22 n M x0 x5 k x3 x6 = some r → cells ≤ 0 → slots ≤ 0 → wD G s M M sz H locs → lv_has ls 7 [(0, va_rf x0), (3, .long x3), (5, .int x5), (6, .int x6)] → W p l e rmX4_costBetween s m args below meth c H locs cells slots Q (F0 m 22 ls []) := by
    intro x0 x5 k
    induction k with
    | zero =>
      intro x3 x6 cells slots H locs ls h
      exact absurd (show (none : Option (Int64)) = some r from h) (fun z => by cases z)
    | succ k ih =>
      intro x3 x6 cells slots H locs ls h hcl hsl hw hl
      rw [f_X4_costBetween_L22] at h
      refine lv_iload hx hb dX4_costBetween_22 (lv_at hl 3 rfl) ?_
      refine lv_iload hx hb dX4_costBetween_24 (lv_at hl 2 rfl) ?_
      refine lv_icmp_gt (tgt := 45) hx hb dX4_costBetween_26 (by decide) (fun c4 => ?_) (fun c4 => ?_)
      · replace h := itt h c4
        refine lv_lload_n hx hb dX4_costBetween_45 rfl (lv_at hl 1 rfl) ?_
        replace h := Option.some.inj h
        subst h
        exact RET hw ⟨(show cells + 0 ≤ 0 from by omega), (show slots + 0 ≤ 0 from by omega)⟩ dX4_costBetween_46
      · replace h := itf h c4
        refine lv_lload_n hx hb dX4_costBetween_29 rfl (lv_at hl 1 rfl) ?_
        refine m_aload_n (x := x0) hx hb dX4_costBetween_30 rfl (lv_at hl 0 rfl) ?_
        refine lv_iload hx hb dX4_costBetween_31 (lv_at hl 3 rfl) ?_
        obtain ⟨g5, h⟩ := itg h
        obtain ⟨r6, hr6, h⟩ := ob h
        refine m_contI hC hw (m_runV hC hw (x := x0) (ci := 7) (N := 5) (C := RX4) (T := TX4) (n := 1) (av := [.int x6]) (rest := [.long x3]) (c_X4_costOn (G := G) (l := l) hr6) gX4_costBetween_X4_costOn rfl (by decide +kernel) ⟨(Nat.le_of_ble_eq_true rfl), (Nat.le_of_ble_eq_true rfl)⟩ g5 rfl rfl hl.1 rfl (Nat.le_of_ble_eq_true rfl) dX4_costBetween_33 ⟨(show cells + 0 ≤ 0 from by omega), (show slots + 0 ≤ 0 from by omega)⟩) (fun H locs hw => ?_)
        refine lv_i2l hx hb dX4_costBetween_36 rfl ?_
        refine lv_ladd hx hb dX4_costBetween_37 ?_
        refine lv_lstore_n (i := 3) (lv' := [(3, .long (x3 + (r6).toInt64)), (0, va_rf x0), (5, .int x5), (6, .int x6)]) hx hb dX4_costBetween_38 rfl hl (by decide) rfl (fun ls hl => ?_)
        refine lv_iinc (v := (x6 + (1 : Int32))) (lv' := [(6, .int (x6 + (1 : Int32))), (3, .long (x3 + (r6).toInt64)), (0, va_rf x0), (5, .int x5)]) hx hb dX4_costBetween_39 hl (k := 3) rfl rfl (by decide) rfl (fun ls hl => ?_)
        refine lv_goto (tgt := 22) hx hb dX4_costBetween_42 (by decide) ?_
        exact ih _ _ _ _ _ _ _ h hcl hsl hw (lv_sub hl [2, 1, 3, 0] rfl)
  unfold f_X4_costBetween at h
  refine lv_lconst (v := (0 : Int64)) hx hb dX4_costBetween_0 (by decide) ?_
  refine lv_lstore_n (i := 3) (lv' := [(3, .long (0 : Int64)), (0, va_rf this), (1, .int a1), (2, .int a2)]) hx hb dX4_costBetween_1 rfl hl (by decide) rfl (fun ls hl => ?_)
  refine lv_iload_n hx hb dX4_costBetween_2 rfl (lv_at hl 3 rfl) ?_
  refine m_aload_n (x := this) hx hb dX4_costBetween_3 rfl (lv_at hl 1 rfl) ?_
  obtain ⟨g1, h⟩ := itg h
  obtain ⟨r2, hr2, h⟩ := ob h
  refine m_contI hC hw (m_runV hC hw (x := this) (ci := 7) (N := 5) (C := RX4) (T := TX4) (n := 0) (av := []) (rest := [.int a2]) (c_X4_last (G := G) (l := l) hr2) gX4_costBetween_X4_last rfl (by decide +kernel) ⟨(Nat.le_of_ble_eq_true rfl), (Nat.le_of_ble_eq_true rfl)⟩ g1 rfl rfl hl.1 rfl (Nat.le_of_ble_eq_true rfl) dX4_costBetween_4 ⟨(Nat.zero_le _), (Nat.zero_le _)⟩) (fun H locs hw => ?_)
  refine va_mmin hx hb (hC.2.2.1.trans hl.1.symm) hC.2.2.2.1 (hC.tab _ k_X4_costBetween_min46_0) (hC.tab _ k_X4_costBetween_min46_1) (hC.tab _ k_X4_costBetween_min46_2) (hC.tab _ k_X4_costBetween_min46_3) (Nat.le_of_ble_eq_true rfl) (cat_13 (Nat.le_of_ble_eq_true rfl) (Nat.le_of_ble_eq_true rfl)) (Nat.zero_le _) (Nat.zero_le _) dX4_costBetween_7 ?_
  refine lv_istore (lv' := [(5, .int (if r2 < a2 then r2 else a2)), (3, .long (0 : Int64)), (0, va_rf this), (1, .int a1), (2, .int a2)]) hx hb dX4_costBetween_10 hl (by decide) rfl (fun ls hl => ?_)
  refine lv_iload_n hx hb dX4_costBetween_12 rfl (lv_at hl 3 rfl) ?_
  refine m_aload_n (x := this) hx hb dX4_costBetween_13 rfl (lv_at hl 2 rfl) ?_
  obtain ⟨v3, hv3, h⟩ := ob h
  refine m_getI hC hw (C := RX4) (T := TX4) (N := 5) hv3 ki_X4_costBetween_X4 rfl (by decide) k_X4_costBetween_26 (fun _ z => z) dX4_costBetween_14 ?_
  refine va_mmax hx hb (hC.2.2.1.trans hl.1.symm) hC.2.2.2.1 (hC.tab _ k_X4_costBetween_max52_0) (hC.tab _ k_X4_costBetween_max52_1) (hC.tab _ k_X4_costBetween_max52_2) (hC.tab _ k_X4_costBetween_max52_3) (Nat.le_of_ble_eq_true rfl) (cat_13 (Nat.le_of_ble_eq_true rfl) (Nat.le_of_ble_eq_true rfl)) (Nat.zero_le _) (Nat.zero_le _) dX4_costBetween_17 ?_
  refine lv_istore (lv' := [(6, .int (if a1 < v3 then v3 else a1)), (5, .int (if r2 < a2 then r2 else a2)), (3, .long (0 : Int64)), (0, va_rf this), (1, .int a1), (2, .int a2)]) hx hb dX4_costBetween_20 hl (by decide) rfl (fun ls hl => ?_)
  exact L22 this (if r2 < a2 then r2 else a2) _ _ _ _ _ _ _ _ h (Nat.zero_le _) (Nat.zero_le _) hw (lv_sub hl [3, 2, 1, 0] rfl)

def f_X4_dearestDay_L18 (n : Nat) (M : Mem) (x0 : Option Nat) (x3 : Int32) : Nat → Int32 → Int32 → Int32 → Option (Int32)
  | 0, _, _, _ => none
  | k + 1, x1, x2, x4 => if x3 < x4 then (some (x1)) else (if isO M x0 7 = true then ((f_X4_costOn n M x0 x4).bind fun r7 => if r7 ≤ x2 then (f_X4_dearestDay_L18 n M x0 x3 k x1 x2 (x4 + (1 : Int32))) else (f_X4_dearestDay_L18 n M x0 x3 k x4 r7 (x4 + (1 : Int32)))) else none)
def f_X4_dearestDay (n : Nat) (M : Mem) (this : Option Nat) : Option (Int32) := (gI M this 7 1).bind fun v1 => if isO M this 7 = true then ((f_X4_last M this).bind fun r3 => (gI M this 7 1).bind fun v4 => f_X4_dearestDay_L18 n M this r3 n v1 (0 : Int32) v4) else none
def rmX4_dearestDay : Room := { frames := 7, cells := 0, slots := 0, locals := 157 }
theorem k_X4_dearestDay_26 : Cond.fieldLink RX4 26 "LoanBook$Loan" "first" "I" ∈ wsX4_dearestDay := List.mem_of_getElem? (i := 1) rfl
theorem ki_X4_dearestDay_X4 : ∀ w ∈ u_ws RX4 TX4 5, w ∈ wsX4_dearestDay := sub_r [108, 109, 110, 111, 112] (by decide +kernel)
set_option maxHeartbeats 4000000 in
set_option maxRecDepth 100000 in
theorem c_X4_dearestDay {G : wG} {l : Launch} {n : Nat} {M : Mem} {sz : Nat} {this : Option Nat} {r : Int32} (h : f_X4_dearestDay n M this = some r) : CtrI G l yX4_dearestDay wsX4_dearestDay rmX4_dearestDay [va_rf this] M sz r M sz := by
  refine m_startI (own := RX4) (cc := cX4_dearestDay) (maxL := 6) (lv0 := [(0, va_rf this)]) (by decide) rfl rfl (by simp [lg_sl, va_rf_cat, cat_i, cat_r]) (by simp [lv_args, va_rf_cat, cat_i, cat_r]) ?_
  intro p e s m args below meth c Q hC hname RET hsz hw ls hl
  have hx := hC.1
  have hb := hC.2.1
  have L18 : ∀ (x0 : Option Nat) (x3 : Int32) (k : Nat) (x1 : Int32) (x2 : Int32) (x4 : Int32) (cells slots : Nat) (H : Heap) (locs : List Loc) (ls : Array Slot), f_X4_dearestDay_L18 n M x0 x3 k x1 x2 x4 = some r → cells ≤ 0 → slots ≤ 0 → wD G s M M sz H locs → lv_has ls 6 [(0, va_rf x0), (1, .int x1), (2, .int x2), (3, .int x3), (4, .int x4)] → W p l e rmX4_dearestDay s m args below meth c H locs cells slots Q (F0 m 18 ls []) := by
    intro x0 x3 k
    induction k with
    | zero =>
      intro x1 x2 x4 cells slots H locs ls h
      exact absurd (show (none : Option (Int32)) = some r from h) (fun z => by cases z)
    | succ k ih =>
      intro x1 x2 x4 cells slots H locs ls h hcl hsl hw hl
      rw [f_X4_dearestDay_L18] at h
      refine lv_iload hx hb dX4_dearestDay_18 (lv_at hl 4 rfl) ?_
      refine lv_iload_n hx hb dX4_dearestDay_20 rfl (lv_at hl 3 rfl) ?_
      refine lv_icmp_gt (tgt := 50) hx hb dX4_dearestDay_21 (by decide) (fun c5 => ?_) (fun c5 => ?_)
      · replace h := itt h c5
        refine lv_iload_n hx hb dX4_dearestDay_50 rfl (lv_at hl 1 rfl) ?_
        replace h := Option.some.inj h
        subst h
        exact RET hw ⟨(show cells + 0 ≤ 0 from by omega), (show slots + 0 ≤ 0 from by omega)⟩ dX4_dearestDay_51
      · replace h := itf h c5
        refine m_aload_n (x := x0) hx hb dX4_dearestDay_24 rfl (lv_at hl 0 rfl) ?_
        refine lv_iload hx hb dX4_dearestDay_25 (lv_at hl 4 rfl) ?_
        obtain ⟨g6, h⟩ := itg h
        obtain ⟨r7, hr7, h⟩ := ob h
        refine m_contI hC hw (m_runV hC hw (x := x0) (ci := 7) (N := 5) (C := RX4) (T := TX4) (n := 1) (av := [.int x4]) (rest := []) (c_X4_costOn (G := G) (l := l) hr7) gX4_dearestDay_X4_costOn rfl (by decide +kernel) ⟨(Nat.le_of_ble_eq_true rfl), (Nat.le_of_ble_eq_true rfl)⟩ g6 rfl rfl hl.1 rfl (Nat.le_of_ble_eq_true rfl) dX4_dearestDay_27 ⟨(show cells + 0 ≤ 0 from by omega), (show slots + 0 ≤ 0 from by omega)⟩) (fun H locs hw => ?_)
        refine lv_istore (lv' := [(5, .int r7), (0, va_rf x0), (1, .int x1), (2, .int x2), (3, .int x3), (4, .int x4)]) hx hb dX4_dearestDay_30 hl (by decide) rfl (fun ls hl => ?_)
        refine lv_iload hx hb dX4_dearestDay_32 (lv_at hl 0 rfl) ?_
        refine lv_iload_n hx hb dX4_dearestDay_34 rfl (lv_at hl 3 rfl) ?_
        refine lv_icmp_le (tgt := 44) hx hb dX4_dearestDay_35 (by decide) (fun c8 => ?_) (fun c8 => ?_)
        · replace h := itt h c8
          refine lv_iinc (v := (x4 + (1 : Int32))) (lv' := [(4, .int (x4 + (1 : Int32))), (5, .int r7), (0, va_rf x0), (1, .int x1), (2, .int x2), (3, .int x3)]) hx hb dX4_dearestDay_44 hl (k := 5) rfl rfl (by decide) rfl (fun ls hl => ?_)
          refine lv_goto (tgt := 18) hx hb dX4_dearestDay_47 (by decide) ?_
          exact ih _ _ _ _ _ _ _ _ h hcl hsl hw (lv_sub hl [2, 3, 4, 5, 0] rfl)
        · replace h := itf h c8
          refine lv_iload hx hb dX4_dearestDay_38 (lv_at hl 5 rfl) ?_
          refine lv_istore_n (i := 1) (lv' := [(1, .int x4), (5, .int r7), (0, va_rf x0), (2, .int x2), (3, .int x3), (4, .int x4)]) hx hb dX4_dearestDay_40 rfl hl (by decide) (by simp [va_rf_cat, cat_i, cat_l]) (fun ls hl => ?_)
          refine lv_iload hx hb dX4_dearestDay_41 (lv_at hl 1 rfl) ?_
          refine lv_istore_n (i := 2) (lv' := [(2, .int r7), (1, .int x4), (5, .int r7), (0, va_rf x0), (3, .int x3), (4, .int x4)]) hx hb dX4_dearestDay_43 rfl hl (by decide) rfl (fun ls hl => ?_)
          refine lv_iinc (v := (x4 + (1 : Int32))) (lv' := [(4, .int (x4 + (1 : Int32))), (2, .int r7), (1, .int x4), (5, .int r7), (0, va_rf x0), (3, .int x3)]) hx hb dX4_dearestDay_44 hl (k := 5) rfl rfl (by decide) rfl (fun ls hl => ?_)
          refine lv_goto (tgt := 18) hx hb dX4_dearestDay_47 (by decide) ?_
          exact ih _ _ _ _ _ _ _ _ h hcl hsl hw (lv_sub hl [4, 2, 1, 5, 0] rfl)
  unfold f_X4_dearestDay at h
  refine m_aload_n (x := this) hx hb dX4_dearestDay_0 rfl (lv_at hl 0 rfl) ?_
  obtain ⟨v1, hv1, h⟩ := ob h
  refine m_getI hC hw (C := RX4) (T := TX4) (N := 5) hv1 ki_X4_dearestDay_X4 rfl (by decide) k_X4_dearestDay_26 (fun _ z => z) dX4_dearestDay_1 ?_
  refine lv_istore_n (i := 1) (lv' := [(1, .int v1), (0, va_rf this)]) hx hb dX4_dearestDay_4 rfl hl (by decide) (by simp [va_rf_cat, cat_i, cat_l]) (fun ls hl => ?_)
  refine lv_iconst (v := (0 : Int32)) hx hb dX4_dearestDay_5 (by decide) ?_
  refine lv_istore_n (i := 2) (lv' := [(2, .int (0 : Int32)), (1, .int v1), (0, va_rf this)]) hx hb dX4_dearestDay_6 rfl hl (by decide) rfl (fun ls hl => ?_)
  refine m_aload_n (x := this) hx hb dX4_dearestDay_7 rfl (lv_at hl 2 rfl) ?_
  obtain ⟨g2, h⟩ := itg h
  obtain ⟨r3, hr3, h⟩ := ob h
  refine m_contI hC hw (m_runV hC hw (x := this) (ci := 7) (N := 5) (C := RX4) (T := TX4) (n := 0) (av := []) (rest := []) (c_X4_last (G := G) (l := l) hr3) gX4_dearestDay_X4_last rfl (by decide +kernel) ⟨(Nat.le_of_ble_eq_true rfl), (Nat.le_of_ble_eq_true rfl)⟩ g2 rfl rfl hl.1 rfl (Nat.le_of_ble_eq_true rfl) dX4_dearestDay_8 ⟨(Nat.zero_le _), (Nat.zero_le _)⟩) (fun H locs hw => ?_)
  refine lv_istore_n (i := 3) (lv' := [(3, .int r3), (2, .int (0 : Int32)), (1, .int v1), (0, va_rf this)]) hx hb dX4_dearestDay_11 rfl hl (by decide) rfl (fun ls hl => ?_)
  refine m_aload_n (x := this) hx hb dX4_dearestDay_12 rfl (lv_at hl 3 rfl) ?_
  obtain ⟨v4, hv4, h⟩ := ob h
  refine m_getI hC hw (C := RX4) (T := TX4) (N := 5) hv4 ki_X4_dearestDay_X4 rfl (by decide) k_X4_dearestDay_26 (fun _ z => z) dX4_dearestDay_13 ?_
  refine lv_istore (lv' := [(4, .int v4), (3, .int r3), (2, .int (0 : Int32)), (1, .int v1), (0, va_rf this)]) hx hb dX4_dearestDay_16 hl (by decide) rfl (fun ls hl => ?_)
  exact L18 this r3 _ _ _ _ _ _ _ _ _ h (Nat.zero_le _) (Nat.zero_le _) hw (lv_sub hl [4, 3, 2, 1, 0] rfl)

def f_X8_sizeAt_L2 (n : Nat) (M : Mem) (x0 : Option Nat) (x1 : Int32) : Nat → Int32 → Option (Int32)
  | 0, _ => none
  | k + 1, x2 => (gR M x0 11 2).bind fun v1 => (aL M v1).bind fun v2 => if v2 ≤ x2 then (some ((0 : Int32))) else ((gR M x0 11 3).bind fun v4 => (aL M v4).bind fun v5 => if v5 ≤ x2 then (some ((0 : Int32))) else ((gR M x0 11 2).bind fun v7 => (aI M 0 v7 x2).bind fun v8 => if v8 = x1 then ((gR M x0 11 3).bind fun v10 => (aI M 0 v10 x2).bind fun v11 => some (v11)) else (f_X8_sizeAt_L2 n M x0 x1 k (x2 + (1 : Int32)))))
def f_X8_sizeAt (n : Nat) (M : Mem) (this : Option Nat) (a1 : Int32) : Option (Int32) := f_X8_sizeAt_L2 n M this a1 n (0 : Int32)
def rmX8_sizeAt : Room := { frames := 0, cells := 0, slots := 0, locals := 0 }
theorem k_X8_sizeAt_19 : Cond.fieldLink RX8 19 "LoanBook$Report" "spots" "[I" ∈ wsX8_sizeAt := List.mem_of_getElem? (i := 1) rfl
theorem ki_X8_sizeAt_X8 : ∀ w ∈ u_ws RX8 TX8 4, w ∈ wsX8_sizeAt := sub_r [3, 4, 5, 6] (by decide +kernel)
theorem k_X8_sizeAt_23 : Cond.fieldLink RX8 23 "LoanBook$Report" "sizes" "[I" ∈ wsX8_sizeAt := List.mem_of_getElem? (i := 2) rfl
set_option maxHeartbeats 4000000 in
set_option maxRecDepth 100000 in
theorem c_X8_sizeAt {G : wG} {l : Launch} {n : Nat} {M : Mem} {sz : Nat} {this : Option Nat} {a1 : Int32} {r : Int32} (h : f_X8_sizeAt n M this a1 = some r) : CtrI G l yX8_sizeAt wsX8_sizeAt rmX8_sizeAt [va_rf this, .int a1] M sz r M sz := by
  refine m_startI (own := RX8) (cc := cX8_sizeAt) (maxL := 3) (lv0 := [(0, va_rf this), (1, .int a1)]) (by decide) rfl rfl (by simp [lg_sl, va_rf_cat, cat_i, cat_r]) (by simp [lv_args, va_rf_cat, cat_i, cat_r]) ?_
  intro p e s m args below meth c Q hC hname RET hsz hw ls hl
  have hx := hC.1
  have hb := hC.2.1
  have L2 : ∀ (x0 : Option Nat) (x1 : Int32) (k : Nat) (x2 : Int32) (cells slots : Nat) (H : Heap) (locs : List Loc) (ls : Array Slot), f_X8_sizeAt_L2 n M x0 x1 k x2 = some r → cells ≤ 0 → slots ≤ 0 → wD G s M M sz H locs → lv_has ls 3 [(0, va_rf x0), (1, .int x1), (2, .int x2)] → W p l e rmX8_sizeAt s m args below meth c H locs cells slots Q (F0 m 2 ls []) := by
    intro x0 x1 k
    induction k with
    | zero =>
      intro x2 cells slots H locs ls h
      exact absurd (show (none : Option (Int32)) = some r from h) (fun z => by cases z)
    | succ k ih =>
      intro x2 cells slots H locs ls h hcl hsl hw hl
      rw [f_X8_sizeAt_L2] at h
      refine lv_iload_n hx hb dX8_sizeAt_2 rfl (lv_at hl 2 rfl) ?_
      refine m_aload_n (x := x0) hx hb dX8_sizeAt_3 rfl (lv_at hl 0 rfl) ?_
      obtain ⟨v1, hv1, h⟩ := ob h
      refine m_getR hC hw (C := RX8) (T := TX8) (N := 4) hv1 ki_X8_sizeAt_X8 rfl (by decide) k_X8_sizeAt_19 (fun _ z => z) dX8_sizeAt_4 ?_
      obtain ⟨v2, hv2, h⟩ := ob h
      refine m_alen (x := v1) hC hw hv2 dX8_sizeAt_7 ?_
      refine lv_icmp_ge (tgt := 43) hx hb dX8_sizeAt_8 (by decide) (fun c3 => ?_) (fun c3 => ?_)
      · replace h := itt h c3
        refine lv_iconst (v := (0 : Int32)) hx hb dX8_sizeAt_43 (by decide) ?_
        replace h := Option.some.inj h
        subst h
        exact RET hw ⟨(show cells + 0 ≤ 0 from by omega), (show slots + 0 ≤ 0 from by omega)⟩ dX8_sizeAt_44
      · replace h := itf h c3
        refine lv_iload_n hx hb dX8_sizeAt_11 rfl (lv_at hl 2 rfl) ?_
        refine m_aload_n (x := x0) hx hb dX8_sizeAt_12 rfl (lv_at hl 0 rfl) ?_
        obtain ⟨v4, hv4, h⟩ := ob h
        refine m_getR hC hw (C := RX8) (T := TX8) (N := 4) hv4 ki_X8_sizeAt_X8 rfl (by decide) k_X8_sizeAt_23 (fun _ z => z) dX8_sizeAt_13 ?_
        obtain ⟨v5, hv5, h⟩ := ob h
        refine m_alen (x := v4) hC hw hv5 dX8_sizeAt_16 ?_
        refine lv_icmp_ge (tgt := 43) hx hb dX8_sizeAt_17 (by decide) (fun c6 => ?_) (fun c6 => ?_)
        · replace h := itt h c6
          refine lv_iconst (v := (0 : Int32)) hx hb dX8_sizeAt_43 (by decide) ?_
          replace h := Option.some.inj h
          subst h
          exact RET hw ⟨(show cells + 0 ≤ 0 from by omega), (show slots + 0 ≤ 0 from by omega)⟩ dX8_sizeAt_44
        · replace h := itf h c6
          refine m_aload_n (x := x0) hx hb dX8_sizeAt_20 rfl (lv_at hl 0 rfl) ?_
          obtain ⟨v7, hv7, h⟩ := ob h
          refine m_getR hC hw (C := RX8) (T := TX8) (N := 4) hv7 ki_X8_sizeAt_X8 rfl (by decide) k_X8_sizeAt_19 (fun _ z => z) dX8_sizeAt_21 ?_
          refine lv_iload_n hx hb dX8_sizeAt_24 rfl (lv_at hl 2 rfl) ?_
          obtain ⟨v8, hv8, h⟩ := ob h
          refine m_iald (x := v7) hC hw hv8 dX8_sizeAt_25 ?_
          refine lv_iload_n hx hb dX8_sizeAt_26 rfl (lv_at hl 1 rfl) ?_
          refine lv_icmp_ne (tgt := 37) hx hb dX8_sizeAt_27 (by decide) (fun c9 => ?_) (fun c9 => ?_)
          · replace h := itf h c9
            refine lv_iinc (v := (x2 + (1 : Int32))) (lv' := [(2, .int (x2 + (1 : Int32))), (0, va_rf x0), (1, .int x1)]) hx hb dX8_sizeAt_37 hl (k := 2) rfl rfl (by decide) rfl (fun ls hl => ?_)
            refine lv_goto (tgt := 2) hx hb dX8_sizeAt_40 (by decide) ?_
            exact ih _ _ _ _ _ _ h hcl hsl hw (lv_sub hl [1, 2, 0] rfl)
          · replace h := itt h c9
            refine m_aload_n (x := x0) hx hb dX8_sizeAt_30 rfl (lv_at hl 0 rfl) ?_
            obtain ⟨v10, hv10, h⟩ := ob h
            refine m_getR hC hw (C := RX8) (T := TX8) (N := 4) hv10 ki_X8_sizeAt_X8 rfl (by decide) k_X8_sizeAt_23 (fun _ z => z) dX8_sizeAt_31 ?_
            refine lv_iload_n hx hb dX8_sizeAt_34 rfl (lv_at hl 2 rfl) ?_
            obtain ⟨v11, hv11, h⟩ := ob h
            refine m_iald (x := v10) hC hw hv11 dX8_sizeAt_35 ?_
            replace h := Option.some.inj h
            subst h
            exact RET hw ⟨(show cells + 0 ≤ 0 from by omega), (show slots + 0 ≤ 0 from by omega)⟩ dX8_sizeAt_36
  unfold f_X8_sizeAt at h
  refine lv_iconst (v := (0 : Int32)) hx hb dX8_sizeAt_0 (by decide) ?_
  refine lv_istore_n (i := 2) (lv' := [(2, .int (0 : Int32)), (0, va_rf this), (1, .int a1)]) hx hb dX8_sizeAt_1 rfl hl (by decide) rfl (fun ls hl => ?_)
  exact L2 this a1 _ _ _ _ _ _ _ h (Nat.zero_le _) (Nat.zero_le _) hw (lv_sub hl [1, 2, 0] rfl)

def f_X11_gravity (M : Mem) (a1 : Int32) : Option (Int32) := if a1 = (0 : Int32) then (some (3 : Int32)) else (if a1 = (1 : Int32) then (some (2 : Int32)) else (if a1 = (2 : Int32) then (some (5 : Int32)) else (some (8 : Int32))))
def rmX11_gravity : Room := { frames := 0, cells := 0, slots := 0, locals := 0 }
set_option maxHeartbeats 4000000 in
set_option maxRecDepth 100000 in
theorem c_X11_gravity {G : wG} {l : Launch} {M : Mem} {sz : Nat} {a1 : Int32} {r : Int32} (h : f_X11_gravity M a1 = some r) : CtrI G l yX11_gravity wsX11_gravity rmX11_gravity [.int a1] M sz r M sz := by
  refine m_startI (own := RX11) (cc := cX11_gravity) (maxL := 1) (lv0 := [(0, .int a1)]) (by decide) rfl rfl (by simp [lg_sl, va_rf_cat, cat_i, cat_r]) (by simp [lv_args, va_rf_cat, cat_i, cat_r]) ?_
  intro p e s m args below meth c Q hC hname RET hsz hw ls hl
  have hx := hC.1
  have hb := hC.2.1
  unfold f_X11_gravity at h
  refine lv_iload_n hx hb dX11_gravity_0 rfl (lv_at hl 0 rfl) ?_
  by_cases c1 : a1 = (0 : Int32)
  · replace h := itt h c1
    refine lv_tableIn (tgt := 28) hx hb dX11_gravity_1 (by rw [c1]; decide) (by rw [c1]; decide) (by rw [c1]; rfl) (by decide) ?_
    refine lv_iconst (v := (3 : Int32)) hx hb dX11_gravity_28 (by decide) ?_
    replace h := Option.some.inj h
    subst h
    exact RET hw ⟨(Nat.zero_le _), (Nat.zero_le _)⟩ dX11_gravity_29
  replace h := itf h c1
  by_cases c2 : a1 = (1 : Int32)
  · replace h := itt h c2
    refine lv_tableIn (tgt := 30) hx hb dX11_gravity_1 (by rw [c2]; decide) (by rw [c2]; decide) (by rw [c2]; rfl) (by decide) ?_
    refine lv_iconst (v := (2 : Int32)) hx hb dX11_gravity_30 (by decide) ?_
    replace h := Option.some.inj h
    subst h
    exact RET hw ⟨(Nat.zero_le _), (Nat.zero_le _)⟩ dX11_gravity_31
  replace h := itf h c2
  by_cases c3 : a1 = (2 : Int32)
  · replace h := itt h c3
    refine lv_tableIn (tgt := 32) hx hb dX11_gravity_1 (by rw [c3]; decide) (by rw [c3]; decide) (by rw [c3]; rfl) (by decide) ?_
    refine lv_iconst (v := (5 : Int32)) hx hb dX11_gravity_32 (by decide) ?_
    replace h := Option.some.inj h
    subst h
    exact RET hw ⟨(Nat.zero_le _), (Nat.zero_le _)⟩ dX11_gravity_33
  replace h := itf h c3
  refine lv_tableOut (tgt := 34) hx hb dX11_gravity_1 (by have tc1 := lv_neT c1 (a := 0) rfl; have tc2 := lv_neT c2 (a := 1) rfl; have tc3 := lv_neT c3 (a := 2) rfl; omega) (by decide) ?_
  refine lv_bipush (v := (8 : Int32)) hx hb dX11_gravity_34 (by decide) ?_
  replace h := Option.some.inj h
  subst h
  exact RET hw ⟨(Nat.zero_le _), (Nat.zero_le _)⟩ dX11_gravity_36

def f_X8_worseThan_L4 (n : Nat) (M : Mem) (x0 : Option Nat) (x1 : Option Nat) : Nat → Int32 → Int32 → Option (Int32)
  | 0, _, _ => none
  | k + 1, x2, x3 => (gR M x0 11 2).bind fun v1 => (aL M v1).bind fun v2 => if v2 ≤ x3 then (some (x2)) else ((gR M x0 11 3).bind fun v4 => (aL M v4).bind fun v5 => if v5 ≤ x3 then (some (x2)) else ((gR M x0 11 3).bind fun v7 => (aI M 0 v7 x3).bind fun v8 => (gR M x0 11 2).bind fun v9 => (aI M 0 v9 x3).bind fun v10 => if isO M x1 11 = true then ((f_X8_sizeAt n M x1 v10).bind fun r12 => (gR M x0 11 2).bind fun v13 => (aI M 0 v13 x3).bind fun v14 => (f_X11_gravity M (v14 / (100 : Int32))).bind fun r15 => f_X8_worseThan_L4 n M x0 x1 k (x2 + ((if (v8 - r12) < (0 : Int32) then (0 : Int32) else (v8 - r12)) * r15)) (x3 + (1 : Int32))) else none))
def f_X8_worseThan (n : Nat) (M : Mem) (this : Option Nat) (a1 : Option Nat) : Option (Int32) := f_X8_worseThan_L4 n M this a1 n (0 : Int32) (0 : Int32)
def rmX8_worseThan : Room := { frames := 1, cells := 0, slots := 0, locals := 22 }
theorem k_X8_worseThan_19 : Cond.fieldLink RX8 19 "LoanBook$Report" "spots" "[I" ∈ wsX8_worseThan := List.mem_of_getElem? (i := 1) rfl
theorem ki_X8_worseThan_X8 : ∀ w ∈ u_ws RX8 TX8 4, w ∈ wsX8_worseThan := sub_r [15, 16, 17, 18] (by decide +kernel)
theorem k_X8_worseThan_23 : Cond.fieldLink RX8 23 "LoanBook$Report" "sizes" "[I" ∈ wsX8_worseThan := List.mem_of_getElem? (i := 2) rfl
theorem k_X8_worseThan_max48_0 : Cond.methodLink RX8 48 Lib.Math.max.name ∈ wsX8_worseThan := List.mem_of_getElem? (i := 3) rfl
theorem k_X8_worseThan_max48_1 : Cond.static Lib.Math.max.name ∈ wsX8_worseThan := List.mem_of_getElem? (i := 4) rfl
theorem k_X8_worseThan_max48_2 : Cond.initialized "java/lang/Math" ∈ wsX8_worseThan := List.mem_of_getElem? (i := 5) rfl
theorem k_X8_worseThan_max48_3 : Cond.code Lib.Math.max.name Lib.Math.max.code 2 (some .int) ∈ wsX8_worseThan := List.mem_of_getElem? (i := 6) rfl
theorem k_X8_worseThan_stX11_gravity : Cond.static yX11_gravity ∈ wsX8_worseThan := List.mem_of_getElem? (i := 12) rfl
theorem k_X8_worseThan_inX11 : Cond.initialized RX11 ∈ wsX8_worseThan := List.mem_of_getElem? (i := 13) rfl
set_option maxHeartbeats 4000000 in
set_option maxRecDepth 100000 in
theorem c_X8_worseThan {G : wG} {l : Launch} {n : Nat} {M : Mem} {sz : Nat} {this : Option Nat} {a1 : Option Nat} {r : Int32} (h : f_X8_worseThan n M this a1 = some r) : CtrI G l yX8_worseThan wsX8_worseThan rmX8_worseThan [va_rf this, va_rf a1] M sz r M sz := by
  refine m_startI (own := RX8) (cc := cX8_worseThan) (maxL := 5) (lv0 := [(0, va_rf this), (1, va_rf a1)]) (by decide) rfl rfl (by simp [lg_sl, va_rf_cat, cat_i, cat_r]) (by simp [lv_args, va_rf_cat, cat_i, cat_r]) ?_
  intro p e s m args below meth c Q hC hname RET hsz hw ls hl
  have hx := hC.1
  have hb := hC.2.1
  have L4 : ∀ (x0 : Option Nat) (x1 : Option Nat) (k : Nat) (x2 : Int32) (x3 : Int32) (cells slots : Nat) (H : Heap) (locs : List Loc) (ls : Array Slot), f_X8_worseThan_L4 n M x0 x1 k x2 x3 = some r → cells ≤ 0 → slots ≤ 0 → wD G s M M sz H locs → lv_has ls 5 [(0, va_rf x0), (1, va_rf x1), (2, .int x2), (3, .int x3)] → W p l e rmX8_worseThan s m args below meth c H locs cells slots Q (F0 m 4 ls []) := by
    intro x0 x1 k
    induction k with
    | zero =>
      intro x2 x3 cells slots H locs ls h
      exact absurd (show (none : Option (Int32)) = some r from h) (fun z => by cases z)
    | succ k ih =>
      intro x2 x3 cells slots H locs ls h hcl hsl hw hl
      rw [f_X8_worseThan_L4] at h
      refine lv_iload_n hx hb dX8_worseThan_4 rfl (lv_at hl 3 rfl) ?_
      refine m_aload_n (x := x0) hx hb dX8_worseThan_5 rfl (lv_at hl 0 rfl) ?_
      obtain ⟨v1, hv1, h⟩ := ob h
      refine m_getR hC hw (C := RX8) (T := TX8) (N := 4) hv1 ki_X8_worseThan_X8 rfl (by decide) k_X8_worseThan_19 (fun _ z => z) dX8_worseThan_6 ?_
      obtain ⟨v2, hv2, h⟩ := ob h
      refine m_alen (x := v1) hC hw hv2 dX8_worseThan_9 ?_
      refine lv_icmp_ge (tgt := 69) hx hb dX8_worseThan_10 (by decide) (fun c3 => ?_) (fun c3 => ?_)
      · replace h := itt h c3
        refine lv_iload_n hx hb dX8_worseThan_69 rfl (lv_at hl 2 rfl) ?_
        replace h := Option.some.inj h
        subst h
        exact RET hw ⟨(show cells + 0 ≤ 0 from by omega), (show slots + 0 ≤ 0 from by omega)⟩ dX8_worseThan_70
      · replace h := itf h c3
        refine lv_iload_n hx hb dX8_worseThan_13 rfl (lv_at hl 3 rfl) ?_
        refine m_aload_n (x := x0) hx hb dX8_worseThan_14 rfl (lv_at hl 0 rfl) ?_
        obtain ⟨v4, hv4, h⟩ := ob h
        refine m_getR hC hw (C := RX8) (T := TX8) (N := 4) hv4 ki_X8_worseThan_X8 rfl (by decide) k_X8_worseThan_23 (fun _ z => z) dX8_worseThan_15 ?_
        obtain ⟨v5, hv5, h⟩ := ob h
        refine m_alen (x := v4) hC hw hv5 dX8_worseThan_18 ?_
        refine lv_icmp_ge (tgt := 69) hx hb dX8_worseThan_19 (by decide) (fun c6 => ?_) (fun c6 => ?_)
        · replace h := itt h c6
          refine lv_iload_n hx hb dX8_worseThan_69 rfl (lv_at hl 2 rfl) ?_
          replace h := Option.some.inj h
          subst h
          exact RET hw ⟨(show cells + 0 ≤ 0 from by omega), (show slots + 0 ≤ 0 from by omega)⟩ dX8_worseThan_70
        · replace h := itf h c6
          refine m_aload_n (x := x0) hx hb dX8_worseThan_22 rfl (lv_at hl 0 rfl) ?_
          obtain ⟨v7, hv7, h⟩ := ob h
          refine m_getR hC hw (C := RX8) (T := TX8) (N := 4) hv7 ki_X8_worseThan_X8 rfl (by decide) k_X8_worseThan_23 (fun _ z => z) dX8_worseThan_23 ?_
          refine lv_iload_n hx hb dX8_worseThan_26 rfl (lv_at hl 3 rfl) ?_
          obtain ⟨v8, hv8, h⟩ := ob h
          refine m_iald (x := v7) hC hw hv8 dX8_worseThan_27 ?_
          refine m_aload_n (x := x1) hx hb dX8_worseThan_28 rfl (lv_at hl 1 rfl) ?_
          refine m_aload_n (x := x0) hx hb dX8_worseThan_29 rfl (lv_at hl 0 rfl) ?_
          obtain ⟨v9, hv9, h⟩ := ob h
          refine m_getR hC hw (C := RX8) (T := TX8) (N := 4) hv9 ki_X8_worseThan_X8 rfl (by decide) k_X8_worseThan_19 (fun _ z => z) dX8_worseThan_30 ?_
          refine lv_iload_n hx hb dX8_worseThan_33 rfl (lv_at hl 3 rfl) ?_
          obtain ⟨v10, hv10, h⟩ := ob h
          refine m_iald (x := v9) hC hw hv10 dX8_worseThan_34 ?_
          obtain ⟨g11, h⟩ := itg h
          obtain ⟨r12, hr12, h⟩ := ob h
          refine m_contI hC hw (m_runV hC hw (x := x1) (ci := 11) (N := 4) (C := RX8) (T := TX8) (n := 1) (av := [.int v10]) (rest := [.int v8]) (c_X8_sizeAt (G := G) (l := l) hr12) gX8_worseThan_X8_sizeAt rfl (by decide +kernel) ⟨(Nat.le_of_ble_eq_true rfl), (Nat.le_of_ble_eq_true rfl)⟩ g11 rfl rfl hl.1 rfl (Nat.le_of_ble_eq_true rfl) dX8_worseThan_35 ⟨(show cells + 0 ≤ 0 from by omega), (show slots + 0 ≤ 0 from by omega)⟩) (fun H locs hw => ?_)
          refine lv_isub hx hb dX8_worseThan_38 ?_
          refine lv_istore (lv' := [(4, .int (v8 - r12)), (0, va_rf x0), (1, va_rf x1), (2, .int x2), (3, .int x3)]) hx hb dX8_worseThan_39 hl (by decide) rfl (fun ls hl => ?_)
          refine lv_iload_n hx hb dX8_worseThan_41 rfl (lv_at hl 3 rfl) ?_
          refine lv_iload hx hb dX8_worseThan_42 (lv_at hl 0 rfl) ?_
          refine lv_iconst (v := (0 : Int32)) hx hb dX8_worseThan_44 (by decide) ?_
          refine va_mmax hx hb (hC.2.2.1.trans hl.1.symm) hC.2.2.2.1 (hC.tab _ k_X8_worseThan_max48_0) (hC.tab _ k_X8_worseThan_max48_1) (hC.tab _ k_X8_worseThan_max48_2) (hC.tab _ k_X8_worseThan_max48_3) (Nat.le_of_ble_eq_true rfl) (cat_13 (Nat.le_of_ble_eq_true rfl) (Nat.le_of_ble_eq_true rfl)) (show cells + 0 ≤ 0 from by omega) (show slots + 0 ≤ 0 from by omega) dX8_worseThan_45 ?_
          refine m_aload_n (x := x0) hx hb dX8_worseThan_48 rfl (lv_at hl 1 rfl) ?_
          obtain ⟨v13, hv13, h⟩ := ob h
          refine m_getR hC hw (C := RX8) (T := TX8) (N := 4) hv13 ki_X8_worseThan_X8 rfl (by decide) k_X8_worseThan_19 (fun _ z => z) dX8_worseThan_49 ?_
          refine lv_iload_n hx hb dX8_worseThan_52 rfl (lv_at hl 4 rfl) ?_
          obtain ⟨v14, hv14, h⟩ := ob h
          refine m_iald (x := v13) hC hw hv14 dX8_worseThan_53 ?_
          refine lv_bipush (v := (100 : Int32)) hx hb dX8_worseThan_54 (by decide) ?_
          refine lv_idiv hx hb dX8_worseThan_56 (by decide) ?_
          obtain ⟨r15, hr15, h⟩ := ob h
          refine m_contI hC hw (m_runSN hC hw (host := "LoanBook") (n := 1) (av := [.int (v14 / (100 : Int32))]) (rest := [.int (if (v8 - r12) < (0 : Int32) then (0 : Int32) else (v8 - r12)), .int x2]) (c_X11_gravity (G := G) (l := l) hr15) gX8_worseThan_X11_gravity_n80 (by decide +kernel) k_X8_worseThan_stX11_gravity k_X8_worseThan_inX11 rfl (by decide +kernel) ⟨(Nat.le_of_ble_eq_true rfl), (Nat.le_of_ble_eq_true rfl)⟩ rfl hl.1 rfl (Nat.le_of_ble_eq_true rfl) dX8_worseThan_57 ⟨(show cells + 0 ≤ 0 from by omega), (show slots + 0 ≤ 0 from by omega)⟩) (fun H locs hw => ?_)
          refine lv_imul hx hb dX8_worseThan_60 ?_
          refine lv_iadd hx hb dX8_worseThan_61 ?_
          refine lv_istore_n (i := 2) (lv' := [(2, .int (x2 + ((if (v8 - r12) < (0 : Int32) then (0 : Int32) else (v8 - r12)) * r15))), (4, .int (v8 - r12)), (0, va_rf x0), (1, va_rf x1), (3, .int x3)]) hx hb dX8_worseThan_62 rfl hl (by decide) (by simp [va_rf_cat, cat_i, cat_l]) (fun ls hl => ?_)
          refine lv_iinc (v := (x3 + (1 : Int32))) (lv' := [(3, .int (x3 + (1 : Int32))), (2, .int (x2 + ((if (v8 - r12) < (0 : Int32) then (0 : Int32) else (v8 - r12)) * r15))), (4, .int (v8 - r12)), (0, va_rf x0), (1, va_rf x1)]) hx hb dX8_worseThan_63 hl (k := 4) rfl rfl (by decide) rfl (fun ls hl => ?_)
          refine lv_goto (tgt := 4) hx hb dX8_worseThan_66 (by decide) ?_
          exact ih _ _ _ _ _ _ _ h hcl hsl hw (lv_sub hl [3, 4, 1, 0] rfl)
  unfold f_X8_worseThan at h
  refine lv_iconst (v := (0 : Int32)) hx hb dX8_worseThan_0 (by decide) ?_
  refine lv_istore_n (i := 2) (lv' := [(2, .int (0 : Int32)), (0, va_rf this), (1, va_rf a1)]) hx hb dX8_worseThan_1 rfl hl (by decide) (by simp [va_rf_cat, cat_i, cat_l]) (fun ls hl => ?_)
  refine lv_iconst (v := (0 : Int32)) hx hb dX8_worseThan_2 (by decide) ?_
  refine lv_istore_n (i := 3) (lv' := [(3, .int (0 : Int32)), (2, .int (0 : Int32)), (0, va_rf this), (1, va_rf a1)]) hx hb dX8_worseThan_3 rfl hl (by decide) rfl (fun ls hl => ?_)
  exact L4 this a1 _ _ _ _ _ _ _ _ h (Nat.zero_le _) (Nat.zero_le _) hw (lv_sub hl [2, 3, 1, 0] rfl)

def f_X10_damageTold (n : Nat) (M : Mem) (this : Option Nat) (a1 : Int32) : Option (Int32) := if isO M this 13 = true then ((f_X10_reportAt M this a1).bind fun r2 => if isO M this 13 = true then ((f_X10_reportAt M this (a1 - (1 : Int32))).bind fun r4 => if r2 = none then (some (0 : Int32)) else (if r4 = none then (some (0 : Int32)) else (if isO M r2 11 = true then ((f_X8_worseThan n M r2 r4).bind fun r8 => (gI M r2 11 0).bind fun v9 => if isO M this 13 = true then ((f_X10_valueOn n M this v9).bind fun r11 => some (r8 * r11)) else none) else none))) else none) else none
def rmX10_damageTold : Room := { frames := 4, cells := 0, slots := 0, locals := 85 }
theorem k_X10_damageTold_106 : Cond.fieldLink RX10 106 "LoanBook$Report" "day" "I" ∈ wsX10_damageTold := List.mem_of_getElem? (i := 1) rfl
theorem ki_X10_damageTold_X8 : ∀ w ∈ u_ws RX8 TX8 4, w ∈ wsX10_damageTold := sub_r [68, 69, 70, 71] (by decide +kernel)
set_option maxHeartbeats 4000000 in
set_option maxRecDepth 100000 in
theorem c_X10_damageTold {G : wG} {l : Launch} {n : Nat} {M : Mem} {sz : Nat} {this : Option Nat} {a1 : Int32} {r : Int32} (h : f_X10_damageTold n M this a1 = some r) : CtrI G l yX10_damageTold wsX10_damageTold rmX10_damageTold [va_rf this, .int a1] M sz r M sz := by
  refine m_startI (own := RX10) (cc := cX10_damageTold) (maxL := 4) (lv0 := [(0, va_rf this), (1, .int a1)]) (by decide) rfl rfl (by simp [lg_sl, va_rf_cat, cat_i, cat_r]) (by simp [lv_args, va_rf_cat, cat_i, cat_r]) ?_
  intro p e s m args below meth c Q hC hname RET hsz hw ls hl
  have hx := hC.1
  have hb := hC.2.1
  unfold f_X10_damageTold at h
  refine m_aload_n (x := this) hx hb dX10_damageTold_0 rfl (lv_at hl 0 rfl) ?_
  refine lv_iload_n hx hb dX10_damageTold_1 rfl (lv_at hl 1 rfl) ?_
  obtain ⟨g1, h⟩ := itg h
  obtain ⟨r2, hr2, h⟩ := ob h
  refine m_contQ hC hw (m_runV hC hw (x := this) (ci := 13) (N := 9) (C := RX10) (T := TX10) (n := 1) (av := [.int a1]) (rest := []) (c_X10_reportAt (G := G) (l := l) hr2) gX10_damageTold_X10_reportAt rfl (by decide +kernel) ⟨(Nat.le_of_ble_eq_true rfl), (Nat.le_of_ble_eq_true rfl)⟩ g1 rfl rfl hl.1 rfl (Nat.le_of_ble_eq_true rfl) dX10_damageTold_2 ⟨(Nat.zero_le _), (Nat.zero_le _)⟩) (fun H locs hw => ?_)
  refine m_astore_n (x := r2) (i := 2) (lv' := [(2, va_rf r2), (0, va_rf this), (1, .int a1)]) hx hb dX10_damageTold_5 rfl hl (by decide) rfl (fun ls hl => ?_)
  refine m_aload_n (x := this) hx hb dX10_damageTold_6 rfl (lv_at hl 1 rfl) ?_
  refine lv_iload_n hx hb dX10_damageTold_7 rfl (lv_at hl 2 rfl) ?_
  refine lv_iconst (v := (1 : Int32)) hx hb dX10_damageTold_8 (by decide) ?_
  refine lv_isub hx hb dX10_damageTold_9 ?_
  obtain ⟨g3, h⟩ := itg h
  obtain ⟨r4, hr4, h⟩ := ob h
  refine m_contQ hC hw (m_runV hC hw (x := this) (ci := 13) (N := 9) (C := RX10) (T := TX10) (n := 1) (av := [.int (a1 - (1 : Int32))]) (rest := []) (c_X10_reportAt (G := G) (l := l) hr4) gX10_damageTold_X10_reportAt rfl (by decide +kernel) ⟨(Nat.le_of_ble_eq_true rfl), (Nat.le_of_ble_eq_true rfl)⟩ g3 rfl rfl hl.1 rfl (Nat.le_of_ble_eq_true rfl) dX10_damageTold_10 ⟨(Nat.zero_le _), (Nat.zero_le _)⟩) (fun H locs hw => ?_)
  refine m_astore_n (x := r4) (i := 3) (lv' := [(3, va_rf r4), (2, va_rf r2), (0, va_rf this), (1, .int a1)]) hx hb dX10_damageTold_13 rfl hl (by decide) (by simp [va_rf_cat, cat_i, cat_l]) (fun ls hl => ?_)
  refine m_aload_n (x := r2) hx hb dX10_damageTold_14 rfl (lv_at hl 1 rfl) ?_
  refine m_ifnull (x := r2) (tgt := 22) hx hb dX10_damageTold_15 (by decide) (fun c5 => ?_) (fun c5 => ?_)
  · replace h := itt h c5
    refine lv_iconst (v := (0 : Int32)) hx hb dX10_damageTold_22 (by decide) ?_
    refine lv_goto (tgt := 40) hx hb dX10_damageTold_23 (by decide) ?_
    replace h := Option.some.inj h
    subst h
    exact RET hw ⟨(Nat.zero_le _), (Nat.zero_le _)⟩ dX10_damageTold_40
  · replace h := itf h c5
    refine m_aload_n (x := r4) hx hb dX10_damageTold_18 rfl (lv_at hl 0 rfl) ?_
    refine m_ifnonnull (x := r4) (tgt := 26) hx hb dX10_damageTold_19 (by decide) (fun c6 => ?_) (fun c6 => ?_)
    · replace h := itf h c6
      refine m_aload_n (x := r2) hx hb dX10_damageTold_26 rfl (lv_at hl 1 rfl) ?_
      refine m_aload_n (x := r4) hx hb dX10_damageTold_27 rfl (lv_at hl 0 rfl) ?_
      obtain ⟨g7, h⟩ := itg h
      obtain ⟨r8, hr8, h⟩ := ob h
      refine m_contI hC hw (m_runV hC hw (x := r2) (ci := 11) (N := 4) (C := RX8) (T := TX8) (n := 1) (av := [va_rf r4]) (rest := []) (c_X8_worseThan (G := G) (l := l) hr8) gX10_damageTold_X8_worseThan rfl (by decide +kernel) ⟨(Nat.le_of_ble_eq_true rfl), (Nat.le_of_ble_eq_true rfl)⟩ g7 rfl rfl hl.1 rfl (Nat.le_of_ble_eq_true rfl) dX10_damageTold_28 ⟨(Nat.zero_le _), (Nat.zero_le _)⟩) (fun H locs hw => ?_)
      refine m_aload_n (x := this) hx hb dX10_damageTold_31 rfl (lv_at hl 2 rfl) ?_
      refine m_aload_n (x := r2) hx hb dX10_damageTold_32 rfl (lv_at hl 1 rfl) ?_
      obtain ⟨v9, hv9, h⟩ := ob h
      refine m_getI hC hw (C := RX8) (T := TX8) (N := 4) hv9 ki_X10_damageTold_X8 rfl (by decide) k_X10_damageTold_106 (fun _ z => z) dX10_damageTold_33 ?_
      obtain ⟨g10, h⟩ := itg h
      obtain ⟨r11, hr11, h⟩ := ob h
      refine m_contI hC hw (m_runV hC hw (x := this) (ci := 13) (N := 9) (C := RX10) (T := TX10) (n := 1) (av := [.int v9]) (rest := [.int r8]) (c_X10_valueOn (G := G) (l := l) hr11) gX10_damageTold_X10_valueOn rfl (by decide +kernel) ⟨(Nat.le_of_ble_eq_true rfl), (Nat.le_of_ble_eq_true rfl)⟩ g10 rfl rfl hl.1 rfl (Nat.le_of_ble_eq_true rfl) dX10_damageTold_36 ⟨(Nat.zero_le _), (Nat.zero_le _)⟩) (fun H locs hw => ?_)
      refine lv_imul hx hb dX10_damageTold_39 ?_
      replace h := Option.some.inj h
      subst h
      exact RET hw ⟨(Nat.zero_le _), (Nat.zero_le _)⟩ dX10_damageTold_40
    · replace h := itt h c6
      refine lv_iconst (v := (0 : Int32)) hx hb dX10_damageTold_22 (by decide) ?_
      refine lv_goto (tgt := 40) hx hb dX10_damageTold_23 (by decide) ?_
      replace h := Option.some.inj h
      subst h
      exact RET hw ⟨(Nat.zero_le _), (Nat.zero_le _)⟩ dX10_damageTold_40

def f_X4_daysBetween (M : Mem) (this : Option Nat) (a1 : Int32) (a2 : Int32) : Option (Int32) := if isO M this 7 = true then ((f_X4_last M this).bind fun r2 => (gI M this 7 1).bind fun v3 => some (if (((if r2 < a2 then r2 else a2) - (if a1 < v3 then v3 else a1)) + (1 : Int32)) < (0 : Int32) then (0 : Int32) else (((if r2 < a2 then r2 else a2) - (if a1 < v3 then v3 else a1)) + (1 : Int32)))) else none
def rmX4_daysBetween : Room := { frames := 1, cells := 0, slots := 0, locals := 21 }
theorem k_X4_daysBetween_min46_0 : Cond.methodLink RX4 46 Lib.Math.min.name ∈ wsX4_daysBetween := List.mem_of_getElem? (i := 1) rfl
theorem k_X4_daysBetween_min46_1 : Cond.static Lib.Math.min.name ∈ wsX4_daysBetween := List.mem_of_getElem? (i := 2) rfl
theorem k_X4_daysBetween_min46_2 : Cond.initialized "java/lang/Math" ∈ wsX4_daysBetween := List.mem_of_getElem? (i := 3) rfl
theorem k_X4_daysBetween_min46_3 : Cond.code Lib.Math.min.name Lib.Math.min.code 2 (some .int) ∈ wsX4_daysBetween := List.mem_of_getElem? (i := 4) rfl
theorem k_X4_daysBetween_26 : Cond.fieldLink RX4 26 "LoanBook$Loan" "first" "I" ∈ wsX4_daysBetween := List.mem_of_getElem? (i := 5) rfl
theorem ki_X4_daysBetween_X4 : ∀ w ∈ u_ws RX4 TX4 5, w ∈ wsX4_daysBetween := sub_r [17, 18, 19, 20, 21] (by decide +kernel)
theorem k_X4_daysBetween_max52_0 : Cond.methodLink RX4 52 Lib.Math.max.name ∈ wsX4_daysBetween := List.mem_of_getElem? (i := 6) rfl
theorem k_X4_daysBetween_max52_1 : Cond.static Lib.Math.max.name ∈ wsX4_daysBetween := List.mem_of_getElem? (i := 7) rfl
theorem k_X4_daysBetween_max52_2 : Cond.initialized "java/lang/Math" ∈ wsX4_daysBetween := List.mem_of_getElem? (i := 3) rfl
theorem k_X4_daysBetween_max52_3 : Cond.code Lib.Math.max.name Lib.Math.max.code 2 (some .int) ∈ wsX4_daysBetween := List.mem_of_getElem? (i := 8) rfl
set_option maxHeartbeats 4000000 in
set_option maxRecDepth 100000 in
theorem c_X4_daysBetween {G : wG} {l : Launch} {M : Mem} {sz : Nat} {this : Option Nat} {a1 : Int32} {a2 : Int32} {r : Int32} (h : f_X4_daysBetween M this a1 a2 = some r) : CtrI G l yX4_daysBetween wsX4_daysBetween rmX4_daysBetween [va_rf this, .int a1, .int a2] M sz r M sz := by
  refine m_startI (own := RX4) (cc := cX4_daysBetween) (maxL := 3) (lv0 := [(0, va_rf this), (1, .int a1), (2, .int a2)]) (by decide) rfl rfl (by simp [lg_sl, va_rf_cat, cat_i, cat_r]) (by simp [lv_args, va_rf_cat, cat_i, cat_r]) ?_
  intro p e s m args below meth c Q hC hname RET hsz hw ls hl
  have hx := hC.1
  have hb := hC.2.1
  unfold f_X4_daysBetween at h
  refine lv_iload_n hx hb dX4_daysBetween_0 rfl (lv_at hl 2 rfl) ?_
  refine m_aload_n (x := this) hx hb dX4_daysBetween_1 rfl (lv_at hl 0 rfl) ?_
  obtain ⟨g1, h⟩ := itg h
  obtain ⟨r2, hr2, h⟩ := ob h
  refine m_contI hC hw (m_runV hC hw (x := this) (ci := 7) (N := 5) (C := RX4) (T := TX4) (n := 0) (av := []) (rest := [.int a2]) (c_X4_last (G := G) (l := l) hr2) gX4_daysBetween_X4_last rfl (by decide +kernel) ⟨(Nat.le_of_ble_eq_true rfl), (Nat.le_of_ble_eq_true rfl)⟩ g1 rfl rfl hl.1 rfl (Nat.le_of_ble_eq_true rfl) dX4_daysBetween_2 ⟨(Nat.zero_le _), (Nat.zero_le _)⟩) (fun H locs hw => ?_)
  refine va_mmin hx hb (hC.2.2.1.trans hl.1.symm) hC.2.2.2.1 (hC.tab _ k_X4_daysBetween_min46_0) (hC.tab _ k_X4_daysBetween_min46_1) (hC.tab _ k_X4_daysBetween_min46_2) (hC.tab _ k_X4_daysBetween_min46_3) (Nat.le_of_ble_eq_true rfl) (cat_13 (Nat.le_of_ble_eq_true rfl) (Nat.le_of_ble_eq_true rfl)) (Nat.zero_le _) (Nat.zero_le _) dX4_daysBetween_5 ?_
  refine lv_iload_n hx hb dX4_daysBetween_8 rfl (lv_at hl 1 rfl) ?_
  refine m_aload_n (x := this) hx hb dX4_daysBetween_9 rfl (lv_at hl 0 rfl) ?_
  obtain ⟨v3, hv3, h⟩ := ob h
  refine m_getI hC hw (C := RX4) (T := TX4) (N := 5) hv3 ki_X4_daysBetween_X4 rfl (by decide) k_X4_daysBetween_26 (fun _ z => z) dX4_daysBetween_10 ?_
  refine va_mmax hx hb (hC.2.2.1.trans hl.1.symm) hC.2.2.2.1 (hC.tab _ k_X4_daysBetween_max52_0) (hC.tab _ k_X4_daysBetween_max52_1) (hC.tab _ k_X4_daysBetween_max52_2) (hC.tab _ k_X4_daysBetween_max52_3) (Nat.le_of_ble_eq_true rfl) (cat_13 (Nat.le_of_ble_eq_true rfl) (Nat.le_of_ble_eq_true rfl)) (Nat.zero_le _) (Nat.zero_le _) dX4_daysBetween_13 ?_
  refine lv_isub hx hb dX4_daysBetween_16 ?_
  refine lv_iconst (v := (1 : Int32)) hx hb dX4_daysBetween_17 (by decide) ?_
  refine lv_iadd hx hb dX4_daysBetween_18 ?_
  refine lv_iconst (v := (0 : Int32)) hx hb dX4_daysBetween_19 (by decide) ?_
  refine va_mmax hx hb (hC.2.2.1.trans hl.1.symm) hC.2.2.2.1 (hC.tab _ k_X4_daysBetween_max52_0) (hC.tab _ k_X4_daysBetween_max52_1) (hC.tab _ k_X4_daysBetween_max52_2) (hC.tab _ k_X4_daysBetween_max52_3) (Nat.le_of_ble_eq_true rfl) (cat_13 (Nat.le_of_ble_eq_true rfl) (Nat.le_of_ble_eq_true rfl)) (Nat.zero_le _) (Nat.zero_le _) dX4_daysBetween_20 ?_
  replace h := Option.some.inj h
  subst h
  exact RET hw ⟨(Nat.zero_le _), (Nat.zero_le _)⟩ dX4_daysBetween_23
