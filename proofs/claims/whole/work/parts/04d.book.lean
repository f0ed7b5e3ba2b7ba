def f_X11_init (B : Nat) (S : Nat → Nat) (M : Mem) (sz : Nat) (this : Option Nat) : Option (Mem × Nat) := if this ≠ none then ((some (va_up M sz (some (.inl (12, [.null, .int 0]))))).bind fun M2 => (f_X9_init B M2 (sz + 1) (some sz)).bind fun r3 => (pF B r3.1 this 14 0 (va_rf (some sz))).bind fun M4 => (some (va_up M4 r3.2 (some (.inl (10, [.null, .null, .int 0, .int 0, .int 0]))))).bind fun M5 => (f_X7_init B M5 (r3.2 + 1) (some r3.2)).bind fun r6 => (pF B r6.1 this 14 1 (va_rf (some r3.2))).bind fun M7 => (some (va_up M7 r6.2 (some (.inl (2, [.int 0, .null, .int 0]))))).bind fun M8 => (f_Jx4a65c_init_da8c8 B S M8 (some r6.2)).bind fun r9 => (pF B r9 this 14 2 (va_rf (some r6.2))).bind fun M10 => (some (va_up M10 (r6.2 + 1) (some (.inl (2, [.int 0, .null, .int 0]))))).bind fun M11 => (f_Jx4a65c_init_da8c8 B S M11 (some (r6.2 + 1))).bind fun r12 => (pF B r12 this 14 3 (va_rf (some (r6.2 + 1)))).bind fun M13 => (some (va_up M13 ((r6.2 + 1) + 1) (some (.inl (2, [.int 0, .null, .int 0]))))).bind fun M14 => (f_Jx4a65c_init_da8c8 B S M14 (some ((r6.2 + 1) + 1))).bind fun r15 => (pF B r15 this 14 4 (va_rf (some ((r6.2 + 1) + 1)))).bind fun M16 => (some (va_up M16 (((r6.2 + 1) + 1) + 1) (some (.inl (2, [.int 0, .null, .int 0]))))).bind fun M17 => (f_Jx4a65c_init_da8c8 B S M17 (some (((r6.2 + 1) + 1) + 1))).bind fun r18 => (pF B r18 this 14 5 (va_rf (some (((r6.2 + 1) + 1) + 1)))).bind fun M19 => (pF B M19 this 14 6 (.int (0 : Int32))).bind fun M20 => (pF B M20 this 14 7 (.int (0 : Int32))).bind fun M21 => (pF B M21 this 14 8 (.int (0 : Int32))).bind fun M22 => (pF B M22 this 14 9 (.int (0 : Int32))).bind fun M23 => (pF B M23 this 14 10 (.int (0 : Int32))).bind fun M24 => some (M24, ((((r6.2 + 1) + 1) + 1) + 1))) else none
def rmX11_init : Room := { frames := 4, cells := 12, slots := 624, locals := 80 }
theorem k_X11_init_oi1 : Cond.methodLink RX11 1 objectInit ∈ wsX11_init := List.mem_of_getElem? (i := 1) rfl
theorem k_X11_init_oj : Cond.instanceMethod objectInit ∈ wsX11_init := List.mem_of_getElem? (i := 2) rfl
theorem k_X11_init_ok : Cond.code objectInit ⟨#[0xb1]⟩ 1 none ∈ wsX11_init := List.mem_of_getElem? (i := 3) rfl
theorem k_X11_init_n7 : Cond.classLink RX11 7 RX9 ∈ wsX11_init := List.mem_of_getElem? (i := 4) rfl
theorem k_X11_init_ni7 : Cond.instantiable RX9 2 ∈ wsX11_init := List.mem_of_getElem? (i := 5) rfl
theorem k_X11_init_nj7 : Cond.initialized RX9 ∈ wsX11_init := List.mem_of_getElem? (i := 6) rfl
theorem ki_X11_init_X9 : ∀ w ∈ u_ws RX9 TX9 2, w ∈ wsX11_init := sub_r [64, 65] (by decide +kernel)
theorem k_X11_init_imX9_init : Cond.instanceMethod yX9_init ∈ wsX11_init := List.mem_of_getElem? (i := 24) rfl
theorem k_X11_init_inX9 : Cond.initialized RX9 ∈ wsX11_init := List.mem_of_getElem? (i := 6) rfl
theorem k_X11_init_10 : Cond.fieldLink RX11 10 "LoanBook" "tape" "LLoanBook$Tape;" ∈ wsX11_init := List.mem_of_getElem? (i := 7) rfl
theorem ki_X11_init_X11 : ∀ w ∈ u_ws RX11 TX11 11, w ∈ wsX11_init := sub_r [66, 67, 68, 69, 70, 71, 72, 73, 74, 75, 76] (by decide +kernel)
theorem k_X11_init_n16 : Cond.classLink RX11 16 RX7 ∈ wsX11_init := List.mem_of_getElem? (i := 8) rfl
theorem k_X11_init_ni16 : Cond.instantiable RX7 5 ∈ wsX11_init := List.mem_of_getElem? (i := 9) rfl
theorem k_X11_init_nj16 : Cond.initialized RX7 ∈ wsX11_init := List.mem_of_getElem? (i := 10) rfl
theorem ki_X11_init_X7 : ∀ w ∈ u_ws RX7 TX7 5, w ∈ wsX11_init := sub_r [77, 78, 79, 80, 81] (by decide +kernel)
theorem k_X11_init_imX7_init : Cond.instanceMethod yX7_init ∈ wsX11_init := List.mem_of_getElem? (i := 30) rfl
theorem k_X11_init_inX7 : Cond.initialized RX7 ∈ wsX11_init := List.mem_of_getElem? (i := 10) rfl
theorem k_X11_init_19 : Cond.fieldLink RX11 19 "LoanBook" "reader" "LLoanBook$Reader;" ∈ wsX11_init := List.mem_of_getElem? (i := 11) rfl
theorem k_X11_init_n23 : Cond.classLink RX11 23 RJx4a65c ∈ wsX11_init := List.mem_of_getElem? (i := 12) rfl
theorem k_X11_init_ni23 : Cond.instantiable RJx4a65c 3 ∈ wsX11_init := List.mem_of_getElem? (i := 13) rfl
theorem k_X11_init_nj23 : Cond.initialized RJx4a65c ∈ wsX11_init := List.mem_of_getElem? (i := 14) rfl
theorem ki_X11_init_Jx4a65c : ∀ w ∈ u_ws RJx4a65c TJx4a65c 3, w ∈ wsX11_init := sub_r [82, 83, 84] (by decide +kernel)
theorem k_X11_init_ml25 : Cond.methodLink RX11 25 yJx4a65c_init_da8c8 ∈ wsX11_init := List.mem_of_getElem? (i := 49) rfl
theorem k_X11_init_imJx4a65c_init_da8c8 : Cond.instanceMethod yJx4a65c_init_da8c8 ∈ wsX11_init := List.mem_of_getElem? (i := 50) rfl
theorem k_X11_init_inJx4a65c : Cond.initialized RJx4a65c ∈ wsX11_init := List.mem_of_getElem? (i := 14) rfl
theorem k_X11_init_26 : Cond.fieldLink RX11 26 "LoanBook" "things" "Ljava/util/ArrayList;" ∈ wsX11_init := List.mem_of_getElem? (i := 15) rfl
theorem k_X11_init_30 : Cond.fieldLink RX11 30 "LoanBook" "houses" "Ljava/util/ArrayList;" ∈ wsX11_init := List.mem_of_getElem? (i := 16) rfl
theorem k_X11_init_33 : Cond.fieldLink RX11 33 "LoanBook" "couriers" "Ljava/util/ArrayList;" ∈ wsX11_init := List.mem_of_getElem? (i := 17) rfl
theorem k_X11_init_36 : Cond.fieldLink RX11 36 "LoanBook" "loans" "Ljava/util/ArrayList;" ∈ wsX11_init := List.mem_of_getElem? (i := 18) rfl
theorem k_X11_init_39 : Cond.fieldLink RX11 39 "LoanBook" "standing" "I" ∈ wsX11_init := List.mem_of_getElem? (i := 19) rfl
theorem k_X11_init_43 : Cond.fieldLink RX11 43 "LoanBook" "reports" "I" ∈ wsX11_init := List.mem_of_getElem? (i := 20) rfl
theorem k_X11_init_46 : Cond.fieldLink RX11 46 "LoanBook" "appraisals" "I" ∈ wsX11_init := List.mem_of_getElem? (i := 21) rfl
theorem k_X11_init_49 : Cond.fieldLink RX11 49 "LoanBook" "lastFault" "I" ∈ wsX11_init := List.mem_of_getElem? (i := 22) rfl
theorem k_X11_init_52 : Cond.fieldLink RX11 52 "LoanBook" "lastStatus" "I" ∈ wsX11_init := List.mem_of_getElem? (i := 23) rfl
set_option maxHeartbeats 4000000 in
set_option maxRecDepth 100000 in
theorem c_X11_init {G : wG} {l : Launch} {M : Mem} {sz : Nat} {this : Option Nat} {r : Mem × Nat} (h : f_X11_init G.2.2.1 G.2.2.2 M sz this = some r) : CtrV G l yX11_init wsX11_init rmX11_init [va_rf this] M sz r.1 r.2 := by
  refine m_startV (own := RX11) (cc := cX11_init) (maxL := 1) (lv0 := [(0, va_rf this)]) (by decide) rfl rfl (by simp [lg_sl, va_rf_cat, cat_i, cat_r]) (by simp [lv_args, va_rf_cat, cat_i, cat_r]) ?_
  intro p e s m args below meth c Q hC hname RET hsz hw ls hl
  have hx := hC.1
  have hb := hC.2.1
  unfold f_X11_init at h
  refine m_aload_n (x := this) hx hb dX11_init_0 rfl (lv_at hl 0 rfl) ?_
  obtain ⟨g1, h⟩ := itg h
  refine m_objInit (x := this) (isN_some g1) hC (hC.tab _ k_X11_init_oi1) (hC.tab _ k_X11_init_oj) (hC.tab _ k_X11_init_ok) hl.1 ((Nat.le_of_ble_eq_true rfl)) (Nat.le_of_ble_eq_true rfl) (Nat.le_of_ble_eq_true rfl) dX11_init_1 ?_
  refine m_aload_n (x := this) hx hb dX11_init_4 rfl (lv_at hl 0 rfl) ?_
  obtain ⟨M2, hM2, h⟩ := ob h
  refine m_new hC hw (C := RX9) (T := TX9) (N := 2) (ci := 12) (fs := [.null, .int 0]) ki_X11_init_X9 tyX9 tyX9_ok k_X11_init_n7 k_X11_init_ni7 k_X11_init_nj7 rfl (fun j hj => by match j, hj with | 0, _ => rfl | 1, _ => rfl) (Nat.le_of_ble_eq_true rfl) (Nat.le_of_ble_eq_true rfl) dX11_init_5 (fun H hw => ?_)
  rw [Option.some.inj hM2] at hw
  refine m_dup (x := (some sz)) hx hb dX11_init_8 ?_
  obtain ⟨r3, hr3, h⟩ := ob h
  refine m_contV hC hw (m_runIN hC hw (x := (some sz)) (host := "LoanBook") (n := 0) (av := []) (rest := [va_rf (some sz), va_rf this]) (c_X9_init (G := G) (l := l) hr3) gX11_init_X9_init_n9 (by decide +kernel) k_X11_init_imX9_init k_X11_init_inX9 rfl rfl (by decide +kernel) ⟨(Nat.le_of_ble_eq_true rfl), (Nat.le_of_ble_eq_true rfl)⟩ rfl rfl hl.1 rfl (by simp [va_rf_cat, cat_i, cat_r, cat_l]) dX11_init_9 ⟨(Nat.le_of_ble_eq_true rfl), (Nat.le_of_ble_eq_true rfl)⟩) (fun H locs hw => ?_)
  obtain ⟨M4, hM4, h⟩ := ob h
  refine m_putF hC hw (C := RX11) (T := TX11) (N := 11) (x := this) hM4 ki_X11_init_X11 tyX11 tyX11_ok nmX11 rfl (by decide) k_X11_init_10 (fun _ z => z) rfl hname rfl (nar_rf _ _ (by decide)) (fit_rf _ _ (by decide)) dX11_init_12 (fun H locs hw => ?_)
  refine m_aload_n (x := this) hx hb dX11_init_15 rfl (lv_at hl 0 rfl) ?_
  obtain ⟨M5, hM5, h⟩ := ob h
  refine m_new hC hw (C := RX7) (T := TX7) (N := 5) (ci := 10) (fs := [.null, .null, .int 0, .int 0, .int 0]) ki_X11_init_X7 tyX7 tyX7_ok k_X11_init_n16 k_X11_init_ni16 k_X11_init_nj16 rfl (fun j hj => by match j, hj with | 0, _ => rfl | 1, _ => rfl | 2, _ => rfl | 3, _ => rfl | 4, _ => rfl) (Nat.le_of_ble_eq_true rfl) (Nat.le_of_ble_eq_true rfl) dX11_init_16 (fun H hw => ?_)
  rw [Option.some.inj hM5] at hw
  refine m_dup (x := (some r3.2)) hx hb dX11_init_19 ?_
  obtain ⟨r6, hr6, h⟩ := ob h
  refine m_contV hC hw (m_runIN hC hw (x := (some r3.2)) (host := "LoanBook") (n := 0) (av := []) (rest := [va_rf (some r3.2), va_rf this]) (c_X7_init (G := G) (l := l) hr6) gX11_init_X7_init_n18 (by decide +kernel) k_X11_init_imX7_init k_X11_init_inX7 rfl rfl (by decide +kernel) ⟨(Nat.le_of_ble_eq_true rfl), (Nat.le_of_ble_eq_true rfl)⟩ rfl rfl hl.1 rfl (by simp [va_rf_cat, cat_i, cat_r, cat_l]) dX11_init_20 ⟨(Nat.le_of_ble_eq_true rfl), (Nat.le_of_ble_eq_true rfl)⟩) (fun H locs hw => ?_)
  obtain ⟨M7, hM7, h⟩ := ob h
  refine m_putF hC hw (C := RX11) (T := TX11) (N := 11) (x := this) hM7 ki_X11_init_X11 tyX11 tyX11_ok nmX11 rfl (by decide) k_X11_init_19 (fun _ z => z) rfl hname rfl (nar_rf _ _ (by decide)) (fit_rf _ _ (by decide)) dX11_init_23 (fun H locs hw => ?_)
  refine m_aload_n (x := this) hx hb dX11_init_26 rfl (lv_at hl 0 rfl) ?_
  obtain ⟨M8, hM8, h⟩ := ob h
  refine m_new hC hw (C := RJx4a65c) (T := TJx4a65c) (N := 3) (ci := 2) (fs := [.int 0, .null, .int 0]) ki_X11_init_Jx4a65c tyJx4a65c tyJx4a65c_ok k_X11_init_n23 k_X11_init_ni23 k_X11_init_nj23 rfl (fun j hj => by match j, hj with | 0, _ => rfl | 1, _ => rfl | 2, _ => rfl) (Nat.le_of_ble_eq_true rfl) (Nat.le_of_ble_eq_true rfl) dX11_init_27 (fun H hw => ?_)
  rw [Option.some.inj hM8] at hw
  refine m_dup (x := (some r6.2)) hx hb dX11_init_30 ?_
  obtain ⟨r9, hr9, h⟩ := ob h
  refine m_contV hC hw (m_runI hC hw (x := (some r6.2)) (n := 0) (av := []) (rest := [va_rf (some r6.2), va_rf this]) (c_Jx4a65c_init_da8c8 (G := G) (l := l) hr9) gX11_init_Jx4a65c_init_da8c8 k_X11_init_ml25 k_X11_init_imJx4a65c_init_da8c8 k_X11_init_inJx4a65c rfl rfl (by decide +kernel) ⟨(Nat.le_of_ble_eq_true rfl), (Nat.le_of_ble_eq_true rfl)⟩ rfl rfl hl.1 rfl (by simp [va_rf_cat, cat_i, cat_r, cat_l]) dX11_init_31 ⟨(Nat.le_of_ble_eq_true rfl), (Nat.le_of_ble_eq_true rfl)⟩) (fun H locs hw => ?_)
  obtain ⟨M10, hM10, h⟩ := ob h
  refine m_putF hC hw (C := RX11) (T := TX11) (N := 11) (x := this) hM10 ki_X11_init_X11 tyX11 tyX11_ok nmX11 rfl (by decide) k_X11_init_26 (fun _ z => z) rfl hname rfl (nar_rf _ _ (by decide)) (fit_rf _ _ (by decide)) dX11_init_34 (fun H locs hw => ?_)
  refine m_aload_n (x := this) hx hb dX11_init_37 rfl (lv_at hl 0 rfl) ?_
  obtain ⟨M11, hM11, h⟩ := ob h
  refine m_new hC hw (C := RJx4a65c) (T := TJx4a65c) (N := 3) (ci := 2) (fs := [.int 0, .null, .int 0]) ki_X11_init_Jx4a65c tyJx4a65c tyJx4a65c_ok k_X11_init_n23 k_X11_init_ni23 k_X11_init_nj23 rfl (fun j hj => by match j, hj with | 0, _ => rfl | 1, _ => rfl | 2, _ => rfl) (Nat.le_of_ble_eq_true rfl) (Nat.le_of_ble_eq_true rfl) dX11_init_38 (fun H hw => ?_)
  rw [Option.some.inj hM11] at hw
  refine m_dup (x := (some (r6.2 + 1))) hx hb dX11_init_41 ?_
  obtain ⟨r12, hr12, h⟩ := ob h
  refine m_contV hC hw (m_runI hC hw (x := (some (r6.2 + 1))) (n := 0) (av := []) (rest := [va_rf (some (r6.2 + 1)), va_rf this]) (c_Jx4a65c_init_da8c8 (G := G) (l := l) hr12) gX11_init_Jx4a65c_init_da8c8 k_X11_init_ml25 k_X11_init_imJx4a65c_init_da8c8 k_X11_init_inJx4a65c rfl rfl (by decide +kernel) ⟨(Nat.le_of_ble_eq_true rfl), (Nat.le_of_ble_eq_true rfl)⟩ rfl rfl hl.1 rfl (by simp [va_rf_cat, cat_i, cat_r, cat_l]) dX11_init_42 ⟨(Nat.le_of_ble_eq_true rfl), (Nat.le_of_ble_eq_true rfl)⟩) (fun H locs hw => ?_)
  obtain ⟨M13, hM13, h⟩ := ob h
  refine m_putF hC hw (C := RX11) (T := TX11) (N := 11) (x := this) hM13 ki_X11_init_X11 tyX11 tyX11_ok nmX11 rfl (by decide) k_X11_init_30 (fun _ z => z) rfl hname rfl (nar_rf _ _ (by decide)) (fit_rf _ _ (by decide)) dX11_init_45 (fun H locs hw => ?_)
  refine m_aload_n (x := this) hx hb dX11_init_48 rfl (lv_at hl 0 rfl) ?_
  obtain ⟨M14, hM14, h⟩ := ob h
  refine m_new hC hw (C := RJx4a65c) (T := TJx4a65c) (N := 3) (ci := 2) (fs := [.int 0, .null, .int 0]) ki_X11_init_Jx4a65c tyJx4a65c tyJx4a65c_ok k_X11_init_n23 k_X11_init_ni23 k_X11_init_nj23 rfl (fun j hj => by match j, hj with | 0, _ => rfl | 1, _ => rfl | 2, _ => rfl) (Nat.le_of_ble_eq_true rfl) (Nat.le_of_ble_eq_true rfl) dX11_init_49 (fun H hw => ?_)
  rw [Option.some.inj hM14] at hw
  refine m_dup (x := (some ((r6.2 + 1) + 1))) hx hb dX11_init_52 ?_
  obtain ⟨r15, hr15, h⟩ := ob h
  refine m_contV hC hw (m_runI hC hw (x := (some ((r6.2 + 1) + 1))) (n := 0) (av := []) (rest := [va_rf (some ((r6.2 + 1) + 1)), va_rf this]) (c_Jx4a65c_init_da8c8 (G := G) (l := l) hr15) gX11_init_Jx4a65c_init_da8c8 k_X11_init_ml25 k_X11_init_imJx4a65c_init_da8c8 k_X11_init_inJx4a65c rfl rfl (by decide +kernel) ⟨(Nat.le_of_ble_eq_true rfl), (Nat.le_of_ble_eq_true rfl)⟩ rfl rfl hl.1 rfl (by simp [va_rf_cat, cat_i, cat_r, cat_l]) dX11_init_53 ⟨(Nat.le_of_ble_eq_true rfl), (Nat.le_of_ble_eq_true rfl)⟩) (fun H locs hw => ?_)
  obtain ⟨M16, hM16, h⟩ := ob h
  refine m_putF hC hw (C := RX11) (T := TX11) (N := 11) (x := this) hM16 ki_X11_init_X11 tyX11 tyX11_ok nmX11 rfl (by decide) k_X11_init_33 (fun _ z => z) rfl hname rfl (nar_rf _ _ (by decide)) (fit_rf _ _ (by decide)) dX11_init_56 (fun H locs hw => ?_)
  refine m_aload_n (x := this) hx hb dX11_init_59 rfl (lv_at hl 0 rfl) ?_
  obtain ⟨M17, hM17, h⟩ := ob h
  refine m_new hC hw (C := RJx4a65c) (T := TJx4a65c) (N := 3) (ci := 2) (fs := [.int 0, .null, .int 0]) ki_X11_init_Jx4a65c tyJx4a65c tyJx4a65c_ok k_X11_init_n23 k_X11_init_ni23 k_X11_init_nj23 rfl (fun j hj => by match j, hj with | 0, _ => rfl | 1, _ => rfl | 2, _ => rfl) (Nat.le_of_ble_eq_true rfl) (Nat.le_of_ble_eq_true rfl) dX11_init_60 (fun H hw => ?_)
  rw [Option.some.inj hM17] at hw
  refine m_dup (x := (some (((r6.2 + 1) + 1) + 1))) hx hb dX11_init_63 ?_
  obtain ⟨r18, hr18, h⟩ := ob h
  refine m_contV hC hw (m_runI hC hw (x := (some (((r6.2 + 1) + 1) + 1))) (n := 0) (av := []) (rest := [va_rf (some (((r6.2 + 1) + 1) + 1)), va_rf this]) (c_Jx4a65c_init_da8c8 (G := G) (l := l) hr18) gX11_init_Jx4a65c_init_da8c8 k_X11_init_ml25 k_X11_init_imJx4a65c_init_da8c8 k_X11_init_inJx4a65c rfl rfl (by decide +kernel) ⟨(Nat.le_of_ble_eq_true rfl), (Nat.le_of_ble_eq_true rfl)⟩ rfl rfl hl.1 rfl (by simp [va_rf_cat, cat_i, cat_r, cat_l]) dX11_init_64 ⟨(Nat.le_of_ble_eq_true rfl), (Nat.le_of_ble_eq_true rfl)⟩) (fun H locs hw => ?_)
  obtain ⟨M19, hM19, h⟩ := ob h
  refine m_putF hC hw (C := RX11) (T := TX11) (N := 11) (x := this) hM19 ki_X11_init_X11 tyX11 tyX11_ok nmX11 rfl (by decide) k_X11_init_36 (fun _ z => z) rfl hname rfl (nar_rf _ _ (by decide)) (fit_rf _ _ (by decide)) dX11_init_67 (fun H locs hw => ?_)
  refine m_aload_n (x := this) hx hb dX11_init_70 rfl (lv_at hl 0 rfl) ?_
  refine lv_iconst (v := (0 : Int32)) hx hb dX11_init_71 (by decide) ?_
  obtain ⟨M20, hM20, h⟩ := ob h
  refine m_put hC hw (C := RX11) (T := TX11) (N := 11) (x := this) hM20 ki_X11_init_X11 tyX11 tyX11_ok nmX11 rfl (by decide) k_X11_init_39 (fun _ z => z) rfl rfl rfl dX11_init_72 (fun H locs hw => ?_)
  refine m_aload_n (x := this) hx hb dX11_init_75 rfl (lv_at hl 0 rfl) ?_
  refine lv_iconst (v := (0 : Int32)) hx hb dX11_init_76 (by decide) ?_
  obtain ⟨M21, hM21, h⟩ := ob h
  refine m_put hC hw (C := RX11) (T := TX11) (N := 11) (x := this) hM21 ki_X11_init_X11 tyX11 tyX11_ok nmX11 rfl (by decide) k_X11_init_43 (fun _ z => z) rfl rfl rfl dX11_init_77 (fun H locs hw => ?_)
  refine m_aload_n (x := this) hx hb dX11_init_80 rfl (lv_at hl 0 rfl) ?_
  refine lv_iconst (v := (0 : Int32)) hx hb dX11_init_81 (by decide) ?_
  obtain ⟨M22, hM22, h⟩ := ob h
  refine m_put hC hw (C := RX11) (T := TX11) (N := 11) (x := this) hM22 ki_X11_init_X11 tyX11 tyX11_ok nmX11 rfl (by decide) k_X11_init_46 (fun _ z => z) rfl rfl rfl dX11_init_82 (fun H locs hw => ?_)
  refine m_aload_n (x := this) hx hb dX11_init_85 rfl (lv_at hl 0 rfl) ?_
  refine lv_iconst (v := (0 : Int32)) hx hb dX11_init_86 (by decide) ?_
  obtain ⟨M23, hM23, h⟩ := ob h
  refine m_put hC hw (C := RX11) (T := TX11) (N := 11) (x := this) hM23 ki_X11_init_X11 tyX11 tyX11_ok nmX11 rfl (by decide) k_X11_init_49 (fun _ z => z) rfl rfl rfl dX11_init_87 (fun H locs hw => ?_)
  refine m_aload_n (x := this) hx hb dX11_init_90 rfl (lv_at hl 0 rfl) ?_
  refine lv_iconst (v := (0 : Int32)) hx hb dX11_init_91 (by decide) ?_
  obtain ⟨M24, hM24, h⟩ := ob h
  refine m_put hC hw (C := RX11) (T := TX11) (N := 11) (x := this) hM24 ki_X11_init_X11 tyX11 tyX11_ok nmX11 rfl (by decide) k_X11_init_52 (fun _ z => z) rfl rfl rfl dX11_init_92 (fun H locs hw => ?_)
  replace h := Option.some.inj h
  subst h
  exact RET hw ⟨(Nat.le_of_ble_eq_true rfl), (Nat.le_of_ble_eq_true rfl)⟩ dX11_init_95

def f_X11_refuse (B : Nat) (M : Mem) (this : Option Nat) (a1 : Int32) : Option (Int32 × Mem) := (pF B M this 14 10 (.int a1)).bind fun M1 => some ((-9999 : Int32), M1)
def rmX11_refuse : Room := { frames := 0, cells := 0, slots := 0, locals := 0 }
theorem k_X11_refuse_52 : Cond.fieldLink RX11 52 "LoanBook" "lastStatus" "I" ∈ wsX11_refuse := List.mem_of_getElem? (i := 1) rfl
theorem ki_X11_refuse_X11 : ∀ w ∈ u_ws RX11 TX11 11, w ∈ wsX11_refuse := sub_r [2, 3, 4, 5, 6, 7, 8, 9, 10, 11, 12] (by decide +kernel)
set_option maxHeartbeats 4000000 in
set_option maxRecDepth 100000 in
theorem c_X11_refuse {G : wG} {l : Launch} {M : Mem} {sz : Nat} {this : Option Nat} {a1 : Int32} {r : Int32 × Mem} (h : f_X11_refuse G.2.2.1 M this a1 = some r) : CtrI G l yX11_refuse wsX11_refuse rmX11_refuse [va_rf this, .int a1] M sz r.1 r.2 sz := by
  refine m_startI (own := RX11) (cc := cX11_refuse) (maxL := 2) (lv0 := [(0, va_rf this), (1, .int a1)]) (by decide) rfl rfl (by simp [lg_sl, va_rf_cat, cat_i, cat_r]) (by simp [lv_args, va_rf_cat, cat_i, cat_r]) ?_
  intro p e s m args below meth c Q hC hname RET hsz hw ls hl
  have hx := hC.1
  have hb := hC.2.1
  unfold f_X11_refuse at h
  refine m_aload_n (x := this) hx hb dX11_refuse_0 rfl (lv_at hl 0 rfl) ?_
  refine lv_iload_n hx hb dX11_refuse_1 rfl (lv_at hl 1 rfl) ?_
  obtain ⟨M1, hM1, h⟩ := ob h
  refine m_put hC hw (C := RX11) (T := TX11) (N := 11) (x := this) hM1 ki_X11_refuse_X11 tyX11 tyX11_ok nmX11 rfl (by decide) k_X11_refuse_52 (fun _ z => z) rfl rfl rfl dX11_refuse_2 (fun H locs hw => ?_)
  refine lv_sipush (v := (-9999 : Int32)) hx hb dX11_refuse_5 (by decide) ?_
  replace h := Option.some.inj h
  subst h
  exact RET hw ⟨(Nat.zero_le _), (Nat.zero_le _)⟩ dX11_refuse_8

def f_X11_answer (B : Nat) (M : Mem) (this : Option Nat) (a1 : Int32) : Option (Int32 × Mem) := (pF B M this 14 10 (.int (0 : Int32))).bind fun M1 => some (a1, M1)
def rmX11_answer : Room := { frames := 0, cells := 0, slots := 0, locals := 0 }
theorem k_X11_answer_52 : Cond.fieldLink RX11 52 "LoanBook" "lastStatus" "I" ∈ wsX11_answer := List.mem_of_getElem? (i := 1) rfl
theorem ki_X11_answer_X11 : ∀ w ∈ u_ws RX11 TX11 11, w ∈ wsX11_answer := sub_r [2, 3, 4, 5, 6, 7, 8, 9, 10, 11, 12] (by decide +kernel)
set_option maxHeartbeats 4000000 in
set_option maxRecDepth 100000 in
theorem c_X11_answer {G : wG} {l : Launch} {M : Mem} {sz : Nat} {this : Option Nat} {a1 : Int32} {r : Int32 × Mem} (h : f_X11_answer G.2.2.1 M this a1 = some r) : CtrI G l yX11_answer wsX11_answer rmX11_answer [va_rf this, .int a1] M sz r.1 r.2 sz := by
  refine m_startI (own := RX11) (cc := cX11_answer) (maxL := 2) (lv0 := [(0, va_rf this), (1, .int a1)]) (by decide) rfl rfl (by simp [lg_sl, va_rf_cat, cat_i, cat_r]) (by simp [lv_args, va_rf_cat, cat_i, cat_r]) ?_
  intro p e s m args below meth c Q hC hname RET hsz hw ls hl
  have hx := hC.1
  have hb := hC.2.1
  unfold f_X11_answer at h
  refine m_aload_n (x := this) hx hb dX11_answer_0 rfl (lv_at hl 0 rfl) ?_
  refine lv_iconst (v := (0 : Int32)) hx hb dX11_answer_1 (by decide) ?_
  obtain ⟨M1, hM1, h⟩ := ob h
  refine m_put hC hw (C := RX11) (T := TX11) (N := 11) (x := this) hM1 ki_X11_answer_X11 tyX11 tyX11_ok nmX11 rfl (by decide) k_X11_answer_52 (fun _ z => z) rfl rfl rfl dX11_answer_2 (fun H locs hw => ?_)
  refine lv_iload_n hx hb dX11_answer_5 rfl (lv_at hl 1 rfl) ?_
  replace h := Option.some.inj h
  subst h
  exact RET hw ⟨(Nat.zero_le _), (Nat.zero_le _)⟩ dX11_answer_6

def f_X11_feed (B : Nat) (n : Nat) (M : Mem) (this : Option Nat) (a1 : Int32) (a2 : Int32) (a3 : Int32) (a4 : Int32) (a5 : Int32) : Option (Int32 × Mem) := (gR M this 14 0).bind fun v1 => if isO M v1 12 = true then ((f_X9_hasRoomForFive M v1).bind fun r3 => if r3 = 0 then (if isO M this 14 = true then ((f_X11_refuse B M this (9 : Int32)).bind fun r26 => some (r26.1, r26.2)) else none) else ((gR M this 14 0).bind fun v5 => if isO M v5 12 = true then ((f_X9_append B n M v5 a1).bind fun r7 => (gR r7 this 14 0).bind fun v8 => if isO r7 v8 12 = true then ((f_X9_append B n r7 v8 a2).bind fun r10 => (gR r10 this 14 0).bind fun v11 => if isO r10 v11 12 = true then ((f_X9_append B n r10 v11 a3).bind fun r13 => (gR r13 this 14 0).bind fun v14 => if isO r13 v14 12 = true then ((f_X9_append B n r13 v14 a4).bind fun r16 => (gR r16 this 14 0).bind fun v17 => if isO r16 v17 12 = true then ((f_X9_append B n r16 v17 a5).bind fun r19 => (gR r19 this 14 0).bind fun v20 => if isO r19 v20 12 = true then ((f_X9_size r19 v20).bind fun r22 => if isO r19 this 14 = true then ((f_X11_answer B r19 this r22).bind fun r24 => some (r24.1, r24.2)) else none) else none) else none) else none) else none) else none) else none)) else none
def rmX11_feed : Room := { frames := 1, cells := 0, slots := 0, locals := 22 }
theorem k_X11_feed_10 : Cond.fieldLink RX11 10 "LoanBook" "tape" "LLoanBook$Tape;" ∈ wsX11_feed := List.mem_of_getElem? (i := 1) rfl
theorem ki_X11_feed_X11 : ∀ w ∈ u_ws RX11 TX11 11, w ∈ wsX11_feed := sub_r [27, 28, 29, 30, 31, 32, 33, 34, 35, 36, 37] (by decide +kernel)
set_option maxHeartbeats 4000000 in
set_option maxRecDepth 100000 in
theorem c_X11_feed {G : wG} {l : Launch} {n : Nat} {M : Mem} {sz : Nat} {this : Option Nat} {a1 : Int32} {a2 : Int32} {a3 : Int32} {a4 : Int32} {a5 : Int32} {r : Int32 × Mem} (h : f_X11_feed G.2.2.1 n M this a1 a2 a3 a4 a5 = some r) : CtrI G l yX11_feed wsX11_feed rmX11_feed [va_rf this, .int a1, .int a2, .int a3, .int a4, .int a5] M sz r.1 r.2 sz := by
  refine m_startI (own := RX11) (cc := cX11_feed) (maxL := 6) (lv0 := [(0, va_rf this), (1, .int a1), (2, .int a2), (3, .int a3), (4, .int a4), (5, .int a5)]) (by decide) rfl rfl (by simp [lg_sl, va_rf_cat, cat_i, cat_r]) (by simp [lv_args, va_rf_cat, cat_i, cat_r]) ?_
  intro p e s m args below meth c Q hC hname RET hsz hw ls hl
  have hx := hC.1
  have hb := hC.2.1
  unfold f_X11_feed at h
  refine m_aload_n (x := this) hx hb dX11_feed_0 rfl (lv_at hl 0 rfl) ?_
  obtain ⟨v1, hv1, h⟩ := ob h
  refine m_getR hC hw (C := RX11) (T := TX11) (N := 11) hv1 ki_X11_feed_X11 rfl (by decide) k_X11_feed_10 (fun _ z => z) dX11_feed_1 ?_
  obtain ⟨g2, h⟩ := itg h
  obtain ⟨r3, hr3, h⟩ := ob h
  refine m_contI hC hw (m_runV hC hw (x := v1) (ci := 12) (N := 2) (C := RX9) (T := TX9) (n := 0) (av := []) (rest := []) (c_X9_hasRoomForFive (G := G) (l := l) hr3) gX11_feed_X9_hasRoomForFive rfl (by decide +kernel) ⟨(Nat.le_of_ble_eq_true rfl), (Nat.le_of_ble_eq_true rfl)⟩ g2 rfl rfl hl.1 rfl (Nat.le_of_ble_eq_true rfl) dX11_feed_4 ⟨(Nat.zero_le _), (Nat.zero_le _)⟩) (fun H locs hw => ?_)
  refine lv_if_ne (tgt := 17) hx hb dX11_feed_7 (by decide) (fun c4 => ?_) (fun c4 => ?_)
  · replace h := itf h c4
    refine m_aload_n (x := this) hx hb dX11_feed_17 rfl (lv_at hl 0 rfl) ?_
    obtain ⟨v5, hv5, h⟩ := ob h
    refine m_getR hC hw (C := RX11) (T := TX11) (N := 11) hv5 ki_X11_feed_X11 rfl (by decide) k_X11_feed_10 (fun _ z => z) dX11_feed_18 ?_
    refine lv_iload_n hx hb dX11_feed_21 rfl (lv_at hl 1 rfl) ?_
    obtain ⟨g6, h⟩ := itg h
    obtain ⟨r7, hr7, h⟩ := ob h
    refine m_contV hC hw (m_runV hC hw (x := v5) (ci := 12) (N := 2) (C := RX9) (T := TX9) (n := 1) (av := [.int a1]) (rest := []) (c_X9_append (G := G) (l := l) hr7) gX11_feed_X9_append rfl (by decide +kernel) ⟨(Nat.le_of_ble_eq_true rfl), (Nat.le_of_ble_eq_true rfl)⟩ g6 rfl rfl hl.1 rfl (Nat.le_of_ble_eq_true rfl) dX11_feed_22 ⟨(Nat.zero_le _), (Nat.zero_le _)⟩) (fun H locs hw => ?_)
    refine m_aload_n (x := this) hx hb dX11_feed_25 rfl (lv_at hl 0 rfl) ?_
    obtain ⟨v8, hv8, h⟩ := ob h
    refine m_getR hC hw (C := RX11) (T := TX11) (N := 11) hv8 ki_X11_feed_X11 rfl (by decide) k_X11_feed_10 (fun _ z => z) dX11_feed_26 ?_
    refine lv_iload_n hx hb dX11_feed_29 rfl (lv_at hl 2 rfl) ?_
    obtain ⟨g9, h⟩ := itg h
    obtain ⟨r10, hr10, h⟩ := ob h
    refine m_contV hC hw (m_runV hC hw (x := v8) (ci := 12) (N := 2) (C := RX9) (T := TX9) (n := 1) (av := [.int a2]) (rest := []) (c_X9_append (G := G) (l := l) hr10) gX11_feed_X9_append rfl (by decide +kernel) ⟨(Nat.le_of_ble_eq_true rfl), (Nat.le_of_ble_eq_true rfl)⟩ g9 rfl rfl hl.1 rfl (Nat.le_of_ble_eq_true rfl) dX11_feed_30 ⟨(Nat.zero_le _), (Nat.zero_le _)⟩) (fun H locs hw => ?_)
    refine m_aload_n (x := this) hx hb dX11_feed_33 rfl (lv_at hl 0 rfl) ?_
    obtain ⟨v11, hv11, h⟩ := ob h
    refine m_getR hC hw (C := RX11) (T := TX11) (N := 11) hv11 ki_X11_feed_X11 rfl (by decide) k_X11_feed_10 (fun _ z => z) dX11_feed_34 ?_
    refine lv_iload_n hx hb dX11_feed_37 rfl (lv_at hl 3 rfl) ?_
    obtain ⟨g12, h⟩ := itg h
    obtain ⟨r13, hr13, h⟩ := ob h
    refine m_contV hC hw (m_runV hC hw (x := v11) (ci := 12) (N := 2) (C := RX9) (T := TX9) (n := 1) (av := [.int a3]) (rest := []) (c_X9_append (G := G) (l := l) hr13) gX11_feed_X9_append rfl (by decide +kernel) ⟨(Nat.le_of_ble_eq_true rfl), (Nat.le_of_ble_eq_true rfl)⟩ g12 rfl rfl hl.1 rfl (Nat.le_of_ble_eq_true rfl) dX11_feed_38 ⟨(Nat.zero_le _), (Nat.zero_le _)⟩) (fun H locs hw => ?_)
    refine m_aload_n (x := this) hx hb dX11_feed_41 rfl (lv_at hl 0 rfl) ?_
    obtain ⟨v14, hv14, h⟩ := ob h
    refine m_getR hC hw (C := RX11) (T := TX11) (N := 11) hv14 ki_X11_feed_X11 rfl (by decide) k_X11_feed_10 (fun _ z => z) dX11_feed_42 ?_
    refine lv_iload hx hb dX11_feed_45 (lv_at hl 4 rfl) ?_
    obtain ⟨g15, h⟩ := itg h
    obtain ⟨r16, hr16, h⟩ := ob h
    refine m_contV hC hw (m_runV hC hw (x := v14) (ci := 12) (N := 2) (C := RX9) (T := TX9) (n := 1) (av := [.int a4]) (rest := []) (c_X9_append (G := G) (l := l) hr16) gX11_feed_X9_append rfl (by decide +kernel) ⟨(Nat.le_of_ble_eq_true rfl), (Nat.le_of_ble_eq_true rfl)⟩ g15 rfl rfl hl.1 rfl (Nat.le_of_ble_eq_true rfl) dX11_feed_47 ⟨(Nat.zero_le _), (Nat.zero_le _)⟩) (fun H locs hw => ?_)
    refine m_aload_n (x := this) hx hb dX11_feed_50 rfl (lv_at hl 0 rfl) ?_
    obtain ⟨v17, hv17, h⟩ := ob h
    refine m_getR hC hw (C := RX11) (T := TX11) (N := 11) hv17 ki_X11_feed_X11 rfl (by decide) k_X11_feed_10 (fun _ z => z) dX11_feed_51 ?_
    refine lv_iload hx hb dX11_feed_54 (lv_at hl 5 rfl) ?_
    obtain ⟨g18, h⟩ := itg h
    obtain ⟨r19, hr19, h⟩ := ob h
    refine m_contV hC hw (m_runV hC hw (x := v17) (ci := 12) (N := 2) (C := RX9) (T := TX9) (n := 1) (av := [.int a5]) (rest := []) (c_X9_append (G := G) (l := l) hr19) gX11_feed_X9_append rfl (by decide +kernel) ⟨(Nat.le_of_ble_eq_true rfl), (Nat.le_of_ble_eq_true rfl)⟩ g18 rfl rfl hl.1 rfl (Nat.le_of_ble_eq_true rfl) dX11_feed_56 ⟨(Nat.zero_le _), (Nat.zero_le _)⟩) (fun H locs hw => ?_)
    refine m_aload_n (x := this) hx hb dX11_feed_59 rfl (lv_at hl 0 rfl) ?_
    refine m_aload_n (x := this) hx hb dX11_feed_60 rfl (lv_at hl 0 rfl) ?_
    obtain ⟨v20, hv20, h⟩ := ob h
    refine m_getR hC hw (C := RX11) (T := TX11) (N := 11) hv20 ki_X11_feed_X11 rfl (by decide) k_X11_feed_10 (fun _ z => z) dX11_feed_61 ?_
    obtain ⟨g21, h⟩ := itg h
    obtain ⟨r22, hr22, h⟩ := ob h
    refine m_contI hC hw (m_runV hC hw (x := v20) (ci := 12) (N := 2) (C := RX9) (T := TX9) (n := 0) (av := []) (rest := [va_rf this]) (c_X9_size (G := G) (l := l) hr22) gX11_feed_X9_size rfl (by decide +kernel) ⟨(Nat.le_of_ble_eq_true rfl), (Nat.le_of_ble_eq_true rfl)⟩ g21 rfl rfl hl.1 rfl (by simp [va_rf_cat, cat_i, cat_r, cat_l]) dX11_feed_64 ⟨(Nat.zero_le _), (Nat.zero_le _)⟩) (fun H locs hw => ?_)
    obtain ⟨g23, h⟩ := itg h
    obtain ⟨r24, hr24, h⟩ := ob h
    refine m_contI hC hw (m_runV hC hw (x := this) (ci := 14) (N := 11) (C := RX11) (T := TX11) (n := 1) (av := [.int r22]) (rest := []) (c_X11_answer (G := G) (l := l) hr24) gX11_feed_X11_answer rfl (by decide +kernel) ⟨(Nat.le_of_ble_eq_true rfl), (Nat.le_of_ble_eq_true rfl)⟩ g23 rfl rfl hl.1 rfl (Nat.le_of_ble_eq_true rfl) dX11_feed_67 ⟨(Nat.zero_le _), (Nat.zero_le _)⟩) (fun H locs hw => ?_)
    replace h := Option.some.inj h
    subst h
    exact RET hw ⟨(Nat.zero_le _), (Nat.zero_le _)⟩ dX11_feed_70
  · replace h := itt h c4
    refine m_aload_n (x := this) hx hb dX11_feed_10 rfl (lv_at hl 0 rfl) ?_
    refine lv_bipush (v := (9 : Int32)) hx hb dX11_feed_11 (by decide) ?_
    obtain ⟨g25, h⟩ := itg h
    obtain ⟨r26, hr26, h⟩ := ob h
    refine m_contI hC hw (m_runV hC hw (x := this) (ci := 14) (N := 11) (C := RX11) (T := TX11) (n := 1) (av := [.int (9 : Int32)]) (rest := []) (c_X11_refuse (G := G) (l := l) hr26) gX11_feed_X11_refuse rfl (by decide +kernel) ⟨(Nat.le_of_ble_eq_true rfl), (Nat.le_of_ble_eq_true rfl)⟩ g25 rfl rfl hl.1 rfl (Nat.le_of_ble_eq_true rfl) dX11_feed_13 ⟨(Nat.zero_le _), (Nat.zero_le _)⟩) (fun H locs hw => ?_)
    replace h := Option.some.inj h
    subst h
    exact RET hw ⟨(Nat.zero_le _), (Nat.zero_le _)⟩ dX11_feed_16

def f_X11_end (B : Nat) (M : Mem) (this : Option Nat) (a1 : Int32) : Option (Int32 × Mem) := if a1 < 0 then (if isO M this 14 = true then ((f_X11_refuse B M this (3 : Int32)).bind fun r3 => some (r3.1, r3.2)) else none) else ((gR M this 14 0).bind fun v4 => if isO M v4 12 = true then ((f_X9_size M v4).bind fun r6 => if a1 ≤ r6 then ((gR M this 14 0).bind fun v8 => if isO M v8 12 = true then ((f_X9_keep B M v8 a1).bind fun r10 => if isO r10 this 14 = true then ((f_X11_answer B r10 this a1).bind fun r12 => some (r12.1, r12.2)) else none) else none) else (if isO M this 14 = true then ((f_X11_refuse B M this (3 : Int32)).bind fun r14 => some (r14.1, r14.2)) else none)) else none)
def rmX11_end : Room := { frames := 1, cells := 0, slots := 0, locals := 21 }
theorem k_X11_end_10 : Cond.fieldLink RX11 10 "LoanBook" "tape" "LLoanBook$Tape;" ∈ wsX11_end := List.mem_of_getElem? (i := 1) rfl
theorem ki_X11_end_X11 : ∀ w ∈ u_ws RX11 TX11 11, w ∈ wsX11_end := sub_r [22, 23, 24, 25, 26, 27, 28, 29, 30, 31, 32] (by decide +kernel)
set_option maxHeartbeats 4000000 in
set_option maxRecDepth 100000 in
theorem c_X11_end {G : wG} {l : Launch} {M : Mem} {sz : Nat} {this : Option Nat} {a1 : Int32} {r : Int32 × Mem} (h : f_X11_end G.2.2.1 M this a1 = some r) : CtrI G l yX11_end wsX11_end rmX11_end [va_rf this, .int a1] M sz r.1 r.2 sz := by
  refine m_startI (own := RX11) (cc := cX11_end) (maxL := 2) (lv0 := [(0, va_rf this), (1, .int a1)]) (by decide) rfl rfl (by simp [lg_sl, va_rf_cat, cat_i, cat_r]) (by simp [lv_args, va_rf_cat, cat_i, cat_r]) ?_
  intro p e s m args below meth c Q hC hname RET hsz hw ls hl
  have hx := hC.1
  have hb := hC.2.1
  unfold f_X11_end at h
  refine lv_iload_n hx hb dX11_end_0 rfl (lv_at hl 1 rfl) ?_
  refine lv_if_lt (tgt := 15) hx hb dX11_end_1 (by decide) (fun c1 => ?_) (fun c1 => ?_)
  · replace h := itt h c1
    refine m_aload_n (x := this) hx hb dX11_end_15 rfl (lv_at hl 0 rfl) ?_
    refine lv_iconst (v := (3 : Int32)) hx hb dX11_end_16 (by decide) ?_
    obtain ⟨g2, h⟩ := itg h
    obtain ⟨r3, hr3, h⟩ := ob h
    refine m_contI hC hw (m_runV hC hw (x := this) (ci := 14) (N := 11) (C := RX11) (T := TX11) (n := 1) (av := [.int (3 : Int32)]) (rest := []) (c_X11_refuse (G := G) (l := l) hr3) gX11_end_X11_refuse rfl (by decide +kernel) ⟨(Nat.le_of_ble_eq_true rfl), (Nat.le_of_ble_eq_true rfl)⟩ g2 rfl rfl hl.1 rfl (Nat.le_of_ble_eq_true rfl) dX11_end_17 ⟨(Nat.zero_le _), (Nat.zero_le _)⟩) (fun H locs hw => ?_)
    replace h := Option.some.inj h
    subst h
    exact RET hw ⟨(Nat.zero_le _), (Nat.zero_le _)⟩ dX11_end_20
  · replace h := itf h c1
    refine lv_iload_n hx hb dX11_end_4 rfl (lv_at hl 1 rfl) ?_
    refine m_aload_n (x := this) hx hb dX11_end_5 rfl (lv_at hl 0 rfl) ?_
    obtain ⟨v4, hv4, h⟩ := ob h
    refine m_getR hC hw (C := RX11) (T := TX11) (N := 11) hv4 ki_X11_end_X11 rfl (by decide) k_X11_end_10 (fun _ z => z) dX11_end_6 ?_
    obtain ⟨g5, h⟩ := itg h
    obtain ⟨r6, hr6, h⟩ := ob h
    refine m_contI hC hw (m_runV hC hw (x := v4) (ci := 12) (N := 2) (C := RX9) (T := TX9) (n := 0) (av := []) (rest := [.int a1]) (c_X9_size (G := G) (l := l) hr6) gX11_end_X9_size rfl (by decide +kernel) ⟨(Nat.le_of_ble_eq_true rfl), (Nat.le_of_ble_eq_true rfl)⟩ g5 rfl rfl hl.1 rfl (Nat.le_of_ble_eq_true rfl) dX11_end_9 ⟨(Nat.zero_le _), (Nat.zero_le _)⟩) (fun H locs hw => ?_)
    refine lv_icmp_le (tgt := 21) hx hb dX11_end_12 (by decide) (fun c7 => ?_) (fun c7 => ?_)
    · replace h := itt h c7
      refine m_aload_n (x := this) hx hb dX11_end_21 rfl (lv_at hl 0 rfl) ?_
      obtain ⟨v8, hv8, h⟩ := ob h
      refine m_getR hC hw (C := RX11) (T := TX11) (N := 11) hv8 ki_X11_end_X11 rfl (by decide) k_X11_end_10 (fun _ z => z) dX11_end_22 ?_
      refine lv_iload_n hx hb dX11_end_25 rfl (lv_at hl 1 rfl) ?_
      obtain ⟨g9, h⟩ := itg h
      obtain ⟨r10, hr10, h⟩ := ob h
      refine m_contV hC hw (m_runV hC hw (x := v8) (ci := 12) (N := 2) (C := RX9) (T := TX9) (n := 1) (av := [.int a1]) (rest := []) (c_X9_keep (G := G) (l := l) hr10) gX11_end_X9_keep rfl (by decide +kernel) ⟨(Nat.le_of_ble_eq_true rfl), (Nat.le_of_ble_eq_true rfl)⟩ g9 rfl rfl hl.1 rfl (Nat.le_of_ble_eq_true rfl) dX11_end_26 ⟨(Nat.zero_le _), (Nat.zero_le _)⟩) (fun H locs hw => ?_)
      refine m_aload_n (x := this) hx hb dX11_end_29 rfl (lv_at hl 0 rfl) ?_
      refine lv_iload_n hx hb dX11_end_30 rfl (lv_at hl 1 rfl) ?_
      obtain ⟨g11, h⟩ := itg h
      obtain ⟨r12, hr12, h⟩ := ob h
      refine m_contI hC hw (m_runV hC hw (x := this) (ci := 14) (N := 11) (C := RX11) (T := TX11) (n := 1) (av := [.int a1]) (rest := []) (c_X11_answer (G := G) (l := l) hr12) gX11_end_X11_answer rfl (by decide +kernel) ⟨(Nat.le_of_ble_eq_true rfl), (Nat.le_of_ble_eq_true rfl)⟩ g11 rfl rfl hl.1 rfl (Nat.le_of_ble_eq_true rfl) dX11_end_31 ⟨(Nat.zero_le _), (Nat.zero_le _)⟩) (fun H locs hw => ?_)
      replace h := Option.some.inj h
      subst h
      exact RET hw ⟨(Nat.zero_le _), (Nat.zero_le _)⟩ dX11_end_34
    · replace h := itf h c7
      refine m_aload_n (x := this) hx hb dX11_end_15 rfl (lv_at hl 0 rfl) ?_
      refine lv_iconst (v := (3 : Int32)) hx hb dX11_end_16 (by decide) ?_
      obtain ⟨g13, h⟩ := itg h
      obtain ⟨r14, hr14, h⟩ := ob h
      refine m_contI hC hw (m_runV hC hw (x := this) (ci := 14) (N := 11) (C := RX11) (T := TX11) (n := 1) (av := [.int (3 : Int32)]) (rest := []) (c_X11_refuse (G := G) (l := l) hr14) gX11_end_X11_refuse rfl (by decide +kernel) ⟨(Nat.le_of_ble_eq_true rfl), (Nat.le_of_ble_eq_true rfl)⟩ g13 rfl rfl hl.1 rfl (Nat.le_of_ble_eq_true rfl) dX11_end_17 ⟨(Nat.zero_le _), (Nat.zero_le _)⟩) (fun H locs hw => ?_)
      replace h := Option.some.inj h
      subst h
      exact RET hw ⟨(Nat.zero_le _), (Nat.zero_le _)⟩ dX11_end_20

def f_X11_refusalOfText (B : Nat) (M : Mem) (this : Option Nat) (a1 : Int32) (a2 : Int32) (a3 : Int32) : Option (Int32 × Mem) := (pF B M this 14 9 (.int a2)).bind fun M1 => if a1 = 0 then (some ((2 : Int32), M1)) else (if a2 = 0 then (if a3 = 0 then (some ((9 : Int32), M1)) else (some ((0 : Int32), M1))) else (some ((4 : Int32), M1)))
def rmX11_refusalOfText : Room := { frames := 0, cells := 0, slots := 0, locals := 0 }
theorem k_X11_refusalOfText_49 : Cond.fieldLink RX11 49 "LoanBook" "lastFault" "I" ∈ wsX11_refusalOfText := List.mem_of_getElem? (i := 1) rfl
theorem ki_X11_refusalOfText_X11 : ∀ w ∈ u_ws RX11 TX11 11, w ∈ wsX11_refusalOfText := sub_r [2, 3, 4, 5, 6, 7, 8, 9, 10, 11, 12] (by decide +kernel)
set_option maxHeartbeats 4000000 in
set_option maxRecDepth 100000 in
theorem c_X11_refusalOfText {G : wG} {l : Launch} {M : Mem} {sz : Nat} {this : Option Nat} {a1 : Int32} {a2 : Int32} {a3 : Int32} {r : Int32 × Mem} (h : f_X11_refusalOfText G.2.2.1 M this a1 a2 a3 = some r) : CtrI G l yX11_refusalOfText wsX11_refusalOfText rmX11_refusalOfText [va_rf this, .int a1, .int a2, .int a3] M sz r.1 r.2 sz := by
  refine m_startI (own := RX11) (cc := cX11_refusalOfText) (maxL := 4) (lv0 := [(0, va_rf this), (1, .int a1), (2, .int a2), (3, .int a3)]) (by decide) rfl rfl (by simp [lg_sl, va_rf_cat, cat_i, cat_r]) (by simp [lv_args, va_rf_cat, cat_i, cat_r]) ?_
  intro p e s m args below meth c Q hC hname RET hsz hw ls hl
  have hx := hC.1
  have hb := hC.2.1
  unfold f_X11_refusalOfText at h
  refine m_aload_n (x := this) hx hb dX11_refusalOfText_0 rfl (lv_at hl 0 rfl) ?_
  refine lv_iload_n hx hb dX11_refusalOfText_1 rfl (lv_at hl 2 rfl) ?_
  obtain ⟨M1, hM1, h⟩ := ob h
  refine m_put hC hw (C := RX11) (T := TX11) (N := 11) (x := this) hM1 ki_X11_refusalOfText_X11 tyX11 tyX11_ok nmX11 rfl (by decide) k_X11_refusalOfText_49 (fun _ z => z) rfl rfl rfl dX11_refusalOfText_2 (fun H locs hw => ?_)
  refine lv_iload_n hx hb dX11_refusalOfText_5 rfl (lv_at hl 1 rfl) ?_
  refine lv_if_ne (tgt := 11) hx hb dX11_refusalOfText_6 (by decide) (fun c2 => ?_) (fun c2 => ?_)
  · replace h := itf h c2
    refine lv_iload_n hx hb dX11_refusalOfText_11 rfl (lv_at hl 2 rfl) ?_
    refine lv_if_eq (tgt := 17) hx hb dX11_refusalOfText_12 (by decide) (fun c3 => ?_) (fun c3 => ?_)
    · replace h := itt h c3
      refine lv_iload_n hx hb dX11_refusalOfText_17 rfl (lv_at hl 3 rfl) ?_
      refine lv_if_eq (tgt := 25) hx hb dX11_refusalOfText_18 (by decide) (fun c4 => ?_) (fun c4 => ?_)
      · replace h := itt h c4
        refine lv_bipush (v := (9 : Int32)) hx hb dX11_refusalOfText_25 (by decide) ?_
        replace h := Option.some.inj h
        subst h
        exact RET hw ⟨(Nat.zero_le _), (Nat.zero_le _)⟩ dX11_refusalOfText_27
      · replace h := itf h c4
        refine lv_iconst (v := (0 : Int32)) hx hb dX11_refusalOfText_21 (by decide) ?_
        refine lv_goto (tgt := 27) hx hb dX11_refusalOfText_22 (by decide) ?_
        replace h := Option.some.inj h
        subst h
        exact RET hw ⟨(Nat.zero_le _), (Nat.zero_le _)⟩ dX11_refusalOfText_27
    · replace h := itf h c3
      refine lv_iconst (v := (4 : Int32)) hx hb dX11_refusalOfText_15 (by decide) ?_
      replace h := Option.some.inj h
      subst h
      exact RET hw ⟨(Nat.zero_le _), (Nat.zero_le _)⟩ dX11_refusalOfText_16
  · replace h := itt h c2
    refine lv_iconst (v := (2 : Int32)) hx hb dX11_refusalOfText_9 (by decide) ?_
    replace h := Option.some.inj h
    subst h
    exact RET hw ⟨(Nat.zero_le _), (Nat.zero_le _)⟩ dX11_refusalOfText_10

def f_X11_thing (B : Nat) (S : Nat → Nat) (n : Nat) (M : Mem) (sz : Nat) (this : Option Nat) : Option (Int32 × Mem × Nat) := (gR M this 14 1).bind fun v1 => (gR M this 14 0).bind fun v2 => if isO M v1 10 = true then ((f_X7_begin B S n M v1 v2).bind fun r4 => (gR r4 this 14 0).bind fun v5 => if isO r4 v5 12 = true then ((f_X9_keep B r4 v5 (0 : Int32)).bind fun r7 => (gR r7 this 14 1).bind fun v8 => if isO r7 v8 10 = true then ((f_X7_readsThing B n r7 v8).bind fun r10 => ((if r10.1 = 0 then (some ((0 : Int32))) else ((gR r10.2 this 14 1).bind fun v13 => (f_X10_faultIn n r10.2 v13).bind fun r14 => some (r14))) : Option (Int32)).bind fun o15 => (gR r10.2 this 14 2).bind fun v16 => if isO r10.2 v16 2 = true then ((f_Jx4a65c_size_8abf5 r10.2 v16).bind fun r18 => ((if (16 : Int32) ≤ r18 then (some ((0 : Int32), o15, r10.1, this)) else (some ((1 : Int32), o15, r10.1, this))) : Option (Int32 × Int32 × Int32 × Option Nat)).bind fun o21 => if isO r10.2 o21.2.2.2 14 = true then ((f_X11_refusalOfText B r10.2 o21.2.2.2 o21.2.2.1 o21.2.1 o21.1).bind fun r23 => if r23.1 = 0 then ((gR r23.2 this 14 2).bind fun v25 => (some (va_up r23.2 sz (some (.inl (13, [.int 0, .int 0, .int 0, .null, .null, .null, .int 0, .int 0, .null]))))).bind fun M26 => (gR M26 this 14 2).bind fun v27 => if isO M26 v27 2 = true then ((f_Jx4a65c_size_8abf5 M26 v27).bind fun r29 => (gR M26 this 14 1).bind fun v30 => (f_X10_init B S n M26 (sz + 1) (some sz) r29 v30).bind fun r31 => if isO r31.1 v25 2 = true then ((f_Jx4a65c_add_9ea2d B S r31.1 r31.2 v25 (some sz)).bind fun r33 => (gR r33.2.1 this 14 2).bind fun v34 => if isO r33.2.1 v34 2 = true then ((f_Jx4a65c_size_8abf5 r33.2.1 v34).bind fun r36 => if isO r33.2.1 this 14 = true then ((f_X11_answer B r33.2.1 this (r36 - (1 : Int32))).bind fun r38 => some (r38.1, r38.2, r33.2.2)) else none) else none) else none) else none) else (if isO r23.2 this 14 = true then ((f_X11_refuse B r23.2 this r23.1).bind fun r40 => some (r40.1, r40.2, sz)) else none)) else none) else none) else none) else none) else none
def rmX11_thing : Room := { frames := 9, cells := 31, slots := 7265, locals := 220 }
theorem k_X11_thing_19 : Cond.fieldLink RX11 19 "LoanBook" "reader" "LLoanBook$Reader;" ∈ wsX11_thing := List.mem_of_getElem? (i := 1) rfl
theorem ki_X11_thing_X11 : ∀ w ∈ u_ws RX11 TX11 11, w ∈ wsX11_thing := sub_r [508, 509, 510, 511, 512, 513, 514, 515, 516, 517, 518] (by decide +kernel)
theorem k_X11_thing_10 : Cond.fieldLink RX11 10 "LoanBook" "tape" "LLoanBook$Tape;" ∈ wsX11_thing := List.mem_of_getElem? (i := 2) rfl
theorem k_X11_thing_26 : Cond.fieldLink RX11 26 "LoanBook" "things" "Ljava/util/ArrayList;" ∈ wsX11_thing := List.mem_of_getElem? (i := 3) rfl
theorem k_X11_thing_n85 : Cond.classLink RX11 85 RX10 ∈ wsX11_thing := List.mem_of_getElem? (i := 4) rfl
theorem k_X11_thing_ni85 : Cond.instantiable RX10 9 ∈ wsX11_thing := List.mem_of_getElem? (i := 5) rfl
theorem k_X11_thing_nj85 : Cond.initialized RX10 ∈ wsX11_thing := List.mem_of_getElem? (i := 6) rfl
theorem ki_X11_thing_X10 : ∀ w ∈ u_ws RX10 TX10 9, w ∈ wsX11_thing := sub_r [519, 520, 521, 522, 523, 524, 525, 526, 527] (by decide +kernel)
theorem k_X11_thing_ml95 : Cond.methodLink RX11 95 yX10_init ∈ wsX11_thing := List.mem_of_getElem? (i := 192) rfl
theorem k_X11_thing_imX10_init : Cond.instanceMethod yX10_init ∈ wsX11_thing := List.mem_of_getElem? (i := 193) rfl
theorem k_X11_thing_inX10 : Cond.initialized RX10 ∈ wsX11_thing := List.mem_of_getElem? (i := 6) rfl
set_option maxHeartbeats 4000000 in
set_option maxRecDepth 100000 in
theorem c_X11_thing {G : wG} {l : Launch} {n : Nat} {M : Mem} {sz : Nat} {this : Option Nat} {r : Int32 × Mem × Nat} (h : f_X11_thing G.2.2.1 G.2.2.2 n M sz this = some r) : CtrI G l yX11_thing wsX11_thing rmX11_thing [va_rf this] M sz r.1 r.2.1 r.2.2 := by
  refine m_startI (own := RX11) (cc := cX11_thing) (maxL := 4) (lv0 := [(0, va_rf this)]) (by decide) rfl rfl (by simp [lg_sl, va_rf_cat, cat_i, cat_r]) (by simp [lv_args, va_rf_cat, cat_i, cat_r]) ?_
  intro p e s m args below meth c Q hC hname RET hsz hw ls hl
  have hx := hC.1
  have hb := hC.2.1
  unfold f_X11_thing at h
  refine m_aload_n (x := this) hx hb dX11_thing_0 rfl (lv_at hl 0 rfl) ?_
  obtain ⟨v1, hv1, h⟩ := ob h
  refine m_getR hC hw (C := RX11) (T := TX11) (N := 11) hv1 ki_X11_thing_X11 rfl (by decide) k_X11_thing_19 (fun _ z => z) dX11_thing_1 ?_
  refine m_aload_n (x := this) hx hb dX11_thing_4 rfl (lv_at hl 0 rfl) ?_
  obtain ⟨v2, hv2, h⟩ := ob h
  refine m_getR hC hw (C := RX11) (T := TX11) (N := 11) hv2 ki_X11_thing_X11 rfl (by decide) k_X11_thing_10 (fun _ z => z) dX11_thing_5 ?_
  obtain ⟨g3, h⟩ := itg h
  obtain ⟨r4, hr4, h⟩ := ob h
  refine m_contV hC hw (m_runV hC hw (x := v1) (ci := 10) (N := 5) (C := RX7) (T := TX7) (n := 1) (av := [va_rf v2]) (rest := []) (c_X7_begin (G := G) (l := l) hr4) gX11_thing_X7_begin rfl (by decide +kernel) ⟨(Nat.le_of_ble_eq_true rfl), (Nat.le_of_ble_eq_true rfl)⟩ g3 rfl rfl hl.1 rfl (Nat.le_of_ble_eq_true rfl) dX11_thing_8 ⟨(Nat.zero_le _), (Nat.zero_le _)⟩) (fun H locs hw => ?_)
  refine m_aload_n (x := this) hx hb dX11_thing_11 rfl (lv_at hl 0 rfl) ?_
  obtain ⟨v5, hv5, h⟩ := ob h
  refine m_getR hC hw (C := RX11) (T := TX11) (N := 11) hv5 ki_X11_thing_X11 rfl (by decide) k_X11_thing_10 (fun _ z => z) dX11_thing_12 ?_
  refine lv_iconst (v := (0 : Int32)) hx hb dX11_thing_15 (by decide) ?_
  obtain ⟨g6, h⟩ := itg h
  obtain ⟨r7, hr7, h⟩ := ob h
  refine m_contV hC hw (m_runV hC hw (x := v5) (ci := 12) (N := 2) (C := RX9) (T := TX9) (n := 1) (av := [.int (0 : Int32)]) (rest := []) (c_X9_keep (G := G) (l := l) hr7) gX11_thing_X9_keep rfl (by decide +kernel) ⟨(Nat.le_of_ble_eq_true rfl), (Nat.le_of_ble_eq_true rfl)⟩ g6 rfl rfl hl.1 rfl (Nat.le_of_ble_eq_true rfl) dX11_thing_16 ⟨(Nat.zero_le _), (Nat.zero_le _)⟩) (fun H locs hw => ?_)
  refine m_aload_n (x := this) hx hb dX11_thing_19 rfl (lv_at hl 0 rfl) ?_
  obtain ⟨v8, hv8, h⟩ := ob h
  refine m_getR hC hw (C := RX11) (T := TX11) (N := 11) hv8 ki_X11_thing_X11 rfl (by decide) k_X11_thing_19 (fun _ z => z) dX11_thing_20 ?_
  obtain ⟨g9, h⟩ := itg h
  obtain ⟨r10, hr10, h⟩ := ob h
  refine m_contI hC hw (m_runV hC hw (x := v8) (ci := 10) (N := 5) (C := RX7) (T := TX7) (n := 0) (av := []) (rest := []) (c_X7_readsThing (G := G) (l := l) hr10) gX11_thing_X7_readsThing rfl (by decide +kernel) ⟨(Nat.le_of_ble_eq_true rfl), (Nat.le_of_ble_eq_true rfl)⟩ g9 rfl rfl hl.1 rfl (Nat.le_of_ble_eq_true rfl) dX11_thing_23 ⟨(Nat.zero_le _), (Nat.zero_le _)⟩) (fun H locs hw => ?_)
  refine lv_istore_n (i := 1) (lv' := [(1, .int r10.1), (0, va_rf this)]) hx hb dX11_thing_26 rfl hl (by decide) (by simp [va_rf_cat, cat_i, cat_l]) (fun ls hl => ?_)
  refine lv_iload_n hx hb dX11_thing_27 rfl (lv_at hl 0 rfl) ?_
  obtain ⟨o15, ho15, h⟩ := ob h
  have J11 : ∀ (H : Heap) (locs : List Loc) (ls : Array Slot), wD G s M r10.2 sz H locs → lv_has ls 4 [(0, va_rf this), (1, .int r10.1)] → W p l e rmX11_thing s m args below meth c H locs 0 0 Q (F0 m 42 ls [.int o15]) := by
    intro H locs ls hw hl
    refine lv_istore_n (i := 2) (lv' := [(2, .int o15), (0, va_rf this), (1, .int r10.1)]) hx hb dX11_thing_42 rfl hl (by decide) rfl (fun ls hl => ?_)
    refine m_aload_n (x := this) hx hb dX11_thing_43 rfl (lv_at hl 1 rfl) ?_
    refine lv_iload_n hx hb dX11_thing_44 rfl (lv_at hl 2 rfl) ?_
    refine lv_iload_n hx hb dX11_thing_45 rfl (lv_at hl 0 rfl) ?_
    refine m_aload_n (x := this) hx hb dX11_thing_46 rfl (lv_at hl 1 rfl) ?_
    obtain ⟨v16, hv16, h⟩ := ob h
    refine m_getR hC hw (C := RX11) (T := TX11) (N := 11) hv16 ki_X11_thing_X11 rfl (by decide) k_X11_thing_26 (fun _ z => z) dX11_thing_47 ?_
    obtain ⟨g17, h⟩ := itg h
    obtain ⟨r18, hr18, h⟩ := ob h
    refine m_contI hC hw (m_runV hC hw (x := v16) (ci := 2) (N := 3) (C := RJx4a65c) (T := TJx4a65c) (n := 0) (av := []) (rest := [.int o15, .int r10.1, va_rf this]) (c_Jx4a65c_size_8abf5 (G := G) (l := l) hr18) gX11_thing_Jx4a65c_size_8abf5 rfl (by decide +kernel) ⟨(Nat.le_of_ble_eq_true rfl), (Nat.le_of_ble_eq_true rfl)⟩ g17 rfl rfl hl.1 rfl (by simp [va_rf_cat, cat_i, cat_r, cat_l]) dX11_thing_50 ⟨(Nat.zero_le _), (Nat.zero_le _)⟩) (fun H locs hw => ?_)
    refine lv_bipush (v := (16 : Int32)) hx hb dX11_thing_53 (by decide) ?_
    obtain ⟨o21, ho21, h⟩ := ob h
    have J19 : ∀ (H : Heap) (locs : List Loc) (ls : Array Slot), wD G s M r10.2 sz H locs → lv_has ls 4 [(0, va_rf this)] → W p l e rmX11_thing s m args below meth c H locs 0 0 Q (F0 m 63 ls [.int o21.1, .int o21.2.1, .int o21.2.2.1, va_rf o21.2.2.2]) := by
      intro H locs ls hw hl
      obtain ⟨g22, h⟩ := itg h
      obtain ⟨r23, hr23, h⟩ := ob h
      refine m_contI hC hw (m_runV hC hw (x := o21.2.2.2) (ci := 14) (N := 11) (C := RX11) (T := TX11) (n := 3) (av := [.int o21.2.2.1, .int o21.2.1, .int o21.1]) (rest := []) (c_X11_refusalOfText (G := G) (l := l) hr23) gX11_thing_X11_refusalOfText rfl (by decide +kernel) ⟨(Nat.le_of_ble_eq_true rfl), (Nat.le_of_ble_eq_true rfl)⟩ g22 rfl rfl hl.1 rfl (Nat.le_of_ble_eq_true rfl) dX11_thing_63 ⟨(Nat.zero_le _), (Nat.zero_le _)⟩) (fun H locs hw => ?_)
      refine lv_istore_n (i := 3) (lv' := [(3, .int r23.1), (0, va_rf this)]) hx hb dX11_thing_66 rfl hl (by decide) rfl (fun ls hl => ?_)
      refine lv_iload_n hx hb dX11_thing_67 rfl (lv_at hl 0 rfl) ?_
      refine lv_if_eq (tgt := 77) hx hb dX11_thing_68 (by decide) (fun c24 => ?_) (fun c24 => ?_)
      · replace h := itt h c24
        refine m_aload_n (x := this) hx hb dX11_thing_77 rfl (lv_at hl 1 rfl) ?_
        obtain ⟨v25, hv25, h⟩ := ob h
        refine m_getR hC hw (C := RX11) (T := TX11) (N := 11) hv25 ki_X11_thing_X11 rfl (by decide) k_X11_thing_26 (fun _ z => z) dX11_thing_78 ?_
        obtain ⟨M26, hM26, h⟩ := ob h
        refine m_new hC hw (C := RX10) (T := TX10) (N := 9) (ci := 13) (fs := [.int 0, .int 0, .int 0, .null, .null, .null, .int 0, .int 0, .null]) ki_X11_thing_X10 tyX10 tyX10_ok k_X11_thing_n85 k_X11_thing_ni85 k_X11_thing_nj85 rfl (fun j hj => by match j, hj with | 0, _ => rfl | 1, _ => rfl | 2, _ => rfl | 3, _ => rfl | 4, _ => rfl | 5, _ => rfl | 6, _ => rfl | 7, _ => rfl | 8, _ => rfl) (Nat.le_of_ble_eq_true rfl) (Nat.le_of_ble_eq_true rfl) dX11_thing_81 (fun H hw => ?_)
        rw [Option.some.inj hM26] at hw
        refine m_dup (x := (some sz)) hx hb dX11_thing_84 ?_
        refine m_aload_n (x := this) hx hb dX11_thing_85 rfl (lv_at hl 1 rfl) ?_
        obtain ⟨v27, hv27, h⟩ := ob h
        refine m_getR hC hw (C := RX11) (T := TX11) (N := 11) hv27 ki_X11_thing_X11 rfl (by decide) k_X11_thing_26 (fun _ z => z) dX11_thing_86 ?_
        obtain ⟨g28, h⟩ := itg h
        obtain ⟨r29, hr29, h⟩ := ob h
        refine m_contI hC hw (m_runV hC hw (x := v27) (ci := 2) (N := 3) (C := RJx4a65c) (T := TJx4a65c) (n := 0) (av := []) (rest := [va_rf (some sz), va_rf (some sz), va_rf v25]) (c_Jx4a65c_size_8abf5 (G := G) (l := l) hr29) gX11_thing_Jx4a65c_size_8abf5 rfl (by decide +kernel) ⟨(Nat.le_of_ble_eq_true rfl), (Nat.le_of_ble_eq_true rfl)⟩ g28 rfl rfl hl.1 rfl (by simp [va_rf_cat, cat_i, cat_r, cat_l]) dX11_thing_89 ⟨(Nat.le_of_ble_eq_true rfl), (Nat.le_of_ble_eq_true rfl)⟩) (fun H locs hw => ?_)
        refine m_aload_n (x := this) hx hb dX11_thing_92 rfl (lv_at hl 1 rfl) ?_
        obtain ⟨v30, hv30, h⟩ := ob h
        refine m_getR hC hw (C := RX11) (T := TX11) (N := 11) hv30 ki_X11_thing_X11 rfl (by decide) k_X11_thing_19 (fun _ z => z) dX11_thing_93 ?_
        obtain ⟨r31, hr31, h⟩ := ob h
        refine m_contV hC hw (m_runI hC hw (x := (some sz)) (n := 2) (av := [.int r29, va_rf v30]) (rest := [va_rf (some sz), va_rf v25]) (c_X10_init (G := G) (l := l) hr31) gX11_thing_X10_init k_X11_thing_ml95 k_X11_thing_imX10_init k_X11_thing_inX10 rfl rfl (by decide +kernel) ⟨(Nat.le_of_ble_eq_true rfl), (Nat.le_of_ble_eq_true rfl)⟩ rfl rfl hl.1 rfl (by simp [va_rf_cat, cat_i, cat_r, cat_l]) dX11_thing_96 ⟨(Nat.le_of_ble_eq_true rfl), (Nat.le_of_ble_eq_true rfl)⟩) (fun H locs hw => ?_)
        obtain ⟨g32, h⟩ := itg h
        obtain ⟨r33, hr33, h⟩ := ob h
        refine m_contI hC hw (m_runV hC hw (x := v25) (ci := 2) (N := 3) (C := RJx4a65c) (T := TJx4a65c) (n := 1) (av := [va_rf (some sz)]) (rest := []) (c_Jx4a65c_add_9ea2d (G := G) (l := l) hr33) gX11_thing_Jx4a65c_add_9ea2d rfl (by decide +kernel) ⟨(Nat.le_of_ble_eq_true rfl), (Nat.le_of_ble_eq_true rfl)⟩ g32 rfl rfl hl.1 rfl (Nat.le_of_ble_eq_true rfl) dX11_thing_99 ⟨(Nat.le_of_ble_eq_true rfl), (Nat.le_of_ble_eq_true rfl)⟩) (fun H locs hw => ?_)
        refine lv_pop hx hb dX11_thing_102 rfl ?_
        refine m_aload_n (x := this) hx hb dX11_thing_103 rfl (lv_at hl 1 rfl) ?_
        refine m_aload_n (x := this) hx hb dX11_thing_104 rfl (lv_at hl 1 rfl) ?_
        obtain ⟨v34, hv34, h⟩ := ob h
        refine m_getR hC hw (C := RX11) (T := TX11) (N := 11) hv34 ki_X11_thing_X11 rfl (by decide) k_X11_thing_26 (fun _ z => z) dX11_thing_105 ?_
        obtain ⟨g35, h⟩ := itg h
        obtain ⟨r36, hr36, h⟩ := ob h
        refine m_contI hC hw (m_runV hC hw (x := v34) (ci := 2) (N := 3) (C := RJx4a65c) (T := TJx4a65c) (n := 0) (av := []) (rest := [va_rf this]) (c_Jx4a65c_size_8abf5 (G := G) (l := l) hr36) gX11_thing_Jx4a65c_size_8abf5 rfl (by decide +kernel) ⟨(Nat.le_of_ble_eq_true rfl), (Nat.le_of_ble_eq_true rfl)⟩ g35 rfl rfl hl.1 rfl (by simp [va_rf_cat, cat_i, cat_r, cat_l]) dX11_thing_108 ⟨(Nat.le_of_ble_eq_true rfl), (Nat.le_of_ble_eq_true rfl)⟩) (fun H locs hw => ?_)
        refine lv_iconst (v := (1 : Int32)) hx hb dX11_thing_111 (by decide) ?_
        refine lv_isub hx hb dX11_thing_112 ?_
        obtain ⟨g37, h⟩ := itg h
        obtain ⟨r38, hr38, h⟩ := ob h
        refine m_contI hC hw (m_runV hC hw (x := this) (ci := 14) (N := 11) (C := RX11) (T := TX11) (n := 1) (av := [.int (r36 - (1 : Int32))]) (rest := []) (c_X11_answer (G := G) (l := l) hr38) gX11_thing_X11_answer rfl (by decide +kernel) ⟨(Nat.le_of_ble_eq_true rfl), (Nat.le_of_ble_eq_true rfl)⟩ g37 rfl rfl hl.1 rfl (Nat.le_of_ble_eq_true rfl) dX11_thing_113 ⟨(Nat.le_of_ble_eq_true rfl), (Nat.le_of_ble_eq_true rfl)⟩) (fun H locs hw => ?_)
        replace h := Option.some.inj h
        subst h
        exact RET hw ⟨(Nat.le_of_ble_eq_true rfl), (Nat.le_of_ble_eq_true rfl)⟩ dX11_thing_116
      · replace h := itf h c24
        refine m_aload_n (x := this) hx hb dX11_thing_71 rfl (lv_at hl 1 rfl) ?_
        refine lv_iload_n hx hb dX11_thing_72 rfl (lv_at hl 0 rfl) ?_
        obtain ⟨g39, h⟩ := itg h
        obtain ⟨r40, hr40, h⟩ := ob h
        refine m_contI hC hw (m_runV hC hw (x := this) (ci := 14) (N := 11) (C := RX11) (T := TX11) (n := 1) (av := [.int r23.1]) (rest := []) (c_X11_refuse (G := G) (l := l) hr40) gX11_thing_X11_refuse rfl (by decide +kernel) ⟨(Nat.le_of_ble_eq_true rfl), (Nat.le_of_ble_eq_true rfl)⟩ g39 rfl rfl hl.1 rfl (Nat.le_of_ble_eq_true rfl) dX11_thing_73 ⟨(Nat.zero_le _), (Nat.zero_le _)⟩) (fun H locs hw => ?_)
        replace h := Option.some.inj h
        subst h
        exact RET hw ⟨(Nat.zero_le _), (Nat.zero_le _)⟩ dX11_thing_76
    clear h
    replace h := ho21
    refine lv_icmp_ge (tgt := 62) hx hb dX11_thing_55 (by decide) (fun c20 => ?_) (fun c20 => ?_)
    · replace h := itt h c20
      refine lv_iconst (v := (0 : Int32)) hx hb dX11_thing_62 (by decide) ?_
      replace h := Option.some.inj h
      subst h
      refine W.widen (k := 0) (n := 0) (Nat.le_of_ble_eq_true rfl) (Nat.le_of_ble_eq_true rfl) ?_
      exact J19 _ _ _ hw (lv_sub hl [1] rfl)
    · replace h := itf h c20
      refine lv_iconst (v := (1 : Int32)) hx hb dX11_thing_58 (by decide) ?_
      refine lv_goto (tgt := 63) hx hb dX11_thing_59 (by decide) ?_
      replace h := Option.some.inj h
      subst h
      refine W.widen (k := 0) (n := 0) (Nat.le_of_ble_eq_true rfl) (Nat.le_of_ble_eq_true rfl) ?_
      exact J19 _ _ _ hw (lv_sub hl [1] rfl)
  clear h
  replace h := ho15
  refine lv_if_eq (tgt := 41) hx hb dX11_thing_28 (by decide) (fun c12 => ?_) (fun c12 => ?_)
  · replace h := itt h c12
    refine lv_iconst (v := (0 : Int32)) hx hb dX11_thing_41 (by decide) ?_
    replace h := Option.some.inj h
    subst h
    refine W.widen (k := 0) (n := 0) (Nat.le_of_ble_eq_true rfl) (Nat.le_of_ble_eq_true rfl) ?_
    exact J11 _ _ _ hw (lv_sub hl [1, 0] rfl)
  · replace h := itf h c12
    refine m_aload_n (x := this) hx hb dX11_thing_31 rfl (lv_at hl 1 rfl) ?_
    obtain ⟨v13, hv13, h⟩ := ob h
    refine m_getR hC hw (C := RX11) (T := TX11) (N := 11) hv13 ki_X11_thing_X11 rfl (by decide) k_X11_thing_19 (fun _ z => z) dX11_thing_32 ?_
    obtain ⟨r14, hr14, h⟩ := ob h
    refine m_contI hC hw (m_runS hC hw (n := 1) (av := [va_rf v13]) (rest := []) (c_X10_faultIn (G := G) (l := l) hr14) gX11_thing_X10_faultIn rfl (by decide +kernel) ⟨(Nat.le_of_ble_eq_true rfl), (Nat.le_of_ble_eq_true rfl)⟩ rfl hl.1 rfl (Nat.le_of_ble_eq_true rfl) dX11_thing_35 ⟨(Nat.zero_le _), (Nat.zero_le _)⟩) (fun H locs hw => ?_)
    refine lv_goto (tgt := 42) hx hb dX11_thing_38 (by decide) ?_
    replace h := Option.some.inj h
    subst h
    refine W.widen (k := 0) (n := 0) (Nat.le_of_ble_eq_true rfl) (Nat.le_of_ble_eq_true rfl) ?_
    exact J11 _ _ _ hw (lv_sub hl [1, 0] rfl)

def f_X11_house (B : Nat) (S : Nat → Nat) (n : Nat) (M : Mem) (sz : Nat) (this : Option Nat) : Option (Int32 × Mem × Nat) := (gR M this 14 1).bind fun v1 => (gR M this 14 0).bind fun v2 => if isO M v1 10 = true then ((f_X7_begin B S n M v1 v2).bind fun r4 => (gR r4 this 14 0).bind fun v5 => if isO r4 v5 12 = true then ((f_X9_keep B r4 v5 (0 : Int32)).bind fun r7 => (gR r7 this 14 1).bind fun v8 => if isO r7 v8 10 = true then ((f_X7_readsHouse B r7 v8).bind fun r10 => ((if r10.1 = 0 then (some ((0 : Int32))) else ((gR r10.2 this 14 1).bind fun v13 => (f_X3_faultIn r10.2 v13).bind fun r14 => some (r14))) : Option (Int32)).bind fun o15 => (gR r10.2 this 14 3).bind fun v16 => if isO r10.2 v16 2 = true then ((f_Jx4a65c_size_8abf5 r10.2 v16).bind fun r18 => ((if (6 : Int32) ≤ r18 then (some ((0 : Int32), o15, r10.1, this)) else (some ((1 : Int32), o15, r10.1, this))) : Option (Int32 × Int32 × Int32 × Option Nat)).bind fun o21 => if isO r10.2 o21.2.2.2 14 = true then ((f_X11_refusalOfText B r10.2 o21.2.2.2 o21.2.2.1 o21.2.1 o21.1).bind fun r23 => if r23.1 = 0 then ((gR r23.2 this 14 3).bind fun v25 => (some (va_up r23.2 sz (some (.inl (6, [.int 0, .int 0, .int 0, .int 0, .null]))))).bind fun M26 => (gR M26 this 14 1).bind fun v27 => (f_X3_init B S n M26 (sz + 1) (some sz) v27).bind fun r28 => if isO r28.1 v25 2 = true then ((f_Jx4a65c_add_9ea2d B S r28.1 r28.2 v25 (some sz)).bind fun r30 => (gR r30.2.1 this 14 3).bind fun v31 => if isO r30.2.1 v31 2 = true then ((f_Jx4a65c_size_8abf5 r30.2.1 v31).bind fun r33 => if isO r30.2.1 this 14 = true then ((f_X11_answer B r30.2.1 this (r33 - (1 : Int32))).bind fun r35 => some (r35.1, r35.2, r30.2.2)) else none) else none) else none) else (if isO r23.2 this 14 = true then ((f_X11_refuse B r23.2 this r23.1).bind fun r37 => some (r37.1, r37.2, sz)) else none)) else none) else none) else none) else none) else none
def rmX11_house : Room := { frames := 9, cells := 13, slots := 2557, locals := 203 }
theorem k_X11_house_19 : Cond.fieldLink RX11 19 "LoanBook" "reader" "LLoanBook$Reader;" ∈ wsX11_house := List.mem_of_getElem? (i := 1) rfl
theorem ki_X11_house_X11 : ∀ w ∈ u_ws RX11 TX11 11, w ∈ wsX11_house := sub_r [411, 412, 413, 414, 415, 416, 417, 418, 419, 420, 421] (by decide +kernel)
theorem k_X11_house_10 : Cond.fieldLink RX11 10 "LoanBook" "tape" "LLoanBook$Tape;" ∈ wsX11_house := List.mem_of_getElem? (i := 2) rfl
theorem k_X11_house_30 : Cond.fieldLink RX11 30 "LoanBook" "houses" "Ljava/util/ArrayList;" ∈ wsX11_house := List.mem_of_getElem? (i := 3) rfl
theorem k_X11_house_n106 : Cond.classLink RX11 106 RX3 ∈ wsX11_house := List.mem_of_getElem? (i := 4) rfl
theorem k_X11_house_ni106 : Cond.instantiable RX3 5 ∈ wsX11_house := List.mem_of_getElem? (i := 5) rfl
theorem k_X11_house_nj106 : Cond.initialized RX3 ∈ wsX11_house := List.mem_of_getElem? (i := 6) rfl
theorem ki_X11_house_X3 : ∀ w ∈ u_ws RX3 TX3 5, w ∈ wsX11_house := sub_r [422, 423, 424, 425, 426] (by decide +kernel)
theorem k_X11_house_ml108 : Cond.methodLink RX11 108 yX3_init ∈ wsX11_house := List.mem_of_getElem? (i := 173) rfl
theorem k_X11_house_imX3_init : Cond.instanceMethod yX3_init ∈ wsX11_house := List.mem_of_getElem? (i := 174) rfl
theorem k_X11_house_inX3 : Cond.initialized RX3 ∈ wsX11_house := List.mem_of_getElem? (i := 6) rfl
set_option maxHeartbeats 4000000 in
set_option maxRecDepth 100000 in
theorem c_X11_house {G : wG} {l : Launch} {n : Nat} {M : Mem} {sz : Nat} {this : Option Nat} {r : Int32 × Mem × Nat} (h : f_X11_house G.2.2.1 G.2.2.2 n M sz this = some r) : CtrI G l yX11_house wsX11_house rmX11_house [va_rf this] M sz r.1 r.2.1 r.2.2 := by
  refine m_startI (own := RX11) (cc := cX11_house) (maxL := 4) (lv0 := [(0, va_rf this)]) (by decide) rfl rfl (by simp [lg_sl, va_rf_cat, cat_i, cat_r]) (by simp [lv_args, va_rf_cat, cat_i, cat_r]) ?_
  intro p e s m args below meth c Q hC hname RET hsz hw ls hl
  have hx := hC.1
  have hb := hC.2.1
  unfold f_X11_house at h
  refine m_aload_n (x := this) hx hb dX11_house_0 rfl (lv_at hl 0 rfl) ?_
  obtain ⟨v1, hv1, h⟩ := ob h
  refine m_getR hC hw (C := RX11) (T := TX11) (N := 11) hv1 ki_X11_house_X11 rfl (by decide) k_X11_house_19 (fun _ z => z) dX11_house_1 ?_
  refine m_aload_n (x := this) hx hb dX11_house_4 rfl (lv_at hl 0 rfl) ?_
  obtain ⟨v2, hv2, h⟩ := ob h
  refine m_getR hC hw (C := RX11) (T := TX11) (N := 11) hv2 ki_X11_house_X11 rfl (by decide) k_X11_house_10 (fun _ z => z) dX11_house_5 ?_
  obtain ⟨g3, h⟩ := itg h
  obtain ⟨r4, hr4, h⟩ := ob h
  refine m_contV hC hw (m_runV hC hw (x := v1) (ci := 10) (N := 5) (C := RX7) (T := TX7) (n := 1) (av := [va_rf v2]) (rest := []) (c_X7_begin (G := G) (l := l) hr4) gX11_house_X7_begin rfl (by decide +kernel) ⟨(Nat.le_of_ble_eq_true rfl), (Nat.le_of_ble_eq_true rfl)⟩ g3 rfl rfl hl.1 rfl (Nat.le_of_ble_eq_true rfl) dX11_house_8 ⟨(Nat.zero_le _), (Nat.zero_le _)⟩) (fun H locs hw => ?_)
  refine m_aload_n (x := this) hx hb dX11_house_11 rfl (lv_at hl 0 rfl) ?_
  obtain ⟨v5, hv5, h⟩ := ob h
  refine m_getR hC hw (C := RX11) (T := TX11) (N := 11) hv5 ki_X11_house_X11 rfl (by decide) k_X11_house_10 (fun _ z => z) dX11_house_12 ?_
  refine lv_iconst (v := (0 : Int32)) hx hb dX11_house_15 (by decide) ?_
  obtain ⟨g6, h⟩ := itg h
  obtain ⟨r7, hr7, h⟩ := ob h
  refine m_contV hC hw (m_runV hC hw (x := v5) (ci := 12) (N := 2) (C := RX9) (T := TX9) (n := 1) (av := [.int (0 : Int32)]) (rest := []) (c_X9_keep (G := G) (l := l) hr7) gX11_house_X9_keep rfl (by decide +kernel) ⟨(Nat.le_of_ble_eq_true rfl), (Nat.le_of_ble_eq_true rfl)⟩ g6 rfl rfl hl.1 rfl (Nat.le_of_ble_eq_true rfl) dX11_house_16 ⟨(Nat.zero_le _), (Nat.zero_le _)⟩) (fun H locs hw => ?_)
  refine m_aload_n (x := this) hx hb dX11_house_19 rfl (lv_at hl 0 rfl) ?_
  obtain ⟨v8, hv8, h⟩ := ob h
  refine m_getR hC hw (C := RX11) (T := TX11) (N := 11) hv8 ki_X11_house_X11 rfl (by decide) k_X11_house_19 (fun _ z => z) dX11_house_20 ?_
  obtain ⟨g9, h⟩ := itg h
  obtain ⟨r10, hr10, h⟩ := ob h
  refine m_contI hC hw (m_runV hC hw (x := v8) (ci := 10) (N := 5) (C := RX7) (T := TX7) (n := 0) (av := []) (rest := []) (c_X7_readsHouse (G := G) (l := l) hr10) gX11_house_X7_readsHouse rfl (by decide +kernel) ⟨(Nat.le_of_ble_eq_true rfl), (Nat.le_of_ble_eq_true rfl)⟩ g9 rfl rfl hl.1 rfl (Nat.le_of_ble_eq_true rfl) dX11_house_23 ⟨(Nat.zero_le _), (Nat.zero_le _)⟩) (fun H locs hw => ?_)
  refine lv_istore_n (i := 1) (lv' := [(1, .int r10.1), (0, va_rf this)]) hx hb dX11_house_26 rfl hl (by decide) (by simp [va_rf_cat, cat_i, cat_l]) (fun ls hl => ?_)
  refine lv_iload_n hx hb dX11_house_27 rfl (lv_at hl 0 rfl) ?_
  obtain ⟨o15, ho15, h⟩ := ob h
  have J11 : ∀ (H : Heap) (locs : List Loc) (ls : Array Slot), wD G s M r10.2 sz H locs → lv_has ls 4 [(0, va_rf this), (1, .int r10.1)] → W p l e rmX11_house s m args below meth c H locs 0 0 Q (F0 m 42 ls [.int o15]) := by
    intro H locs ls hw hl
    refine lv_istore_n (i := 2) (lv' := [(2, .int o15), (0, va_rf this), (1, .int r10.1)]) hx hb dX11_house_42 rfl hl (by decide) rfl (fun ls hl => ?_)
    refine m_aload_n (x := this) hx hb dX11_house_43 rfl (lv_at hl 1 rfl) ?_
    refine lv_iload_n hx hb dX11_house_44 rfl (lv_at hl 2 rfl) ?_
    refine lv_iload_n hx hb dX11_house_45 rfl (lv_at hl 0 rfl) ?_
    refine m_aload_n (x := this) hx hb dX11_house_46 rfl (lv_at hl 1 rfl) ?_
    obtain ⟨v16, hv16, h⟩ := ob h
    refine m_getR hC hw (C := RX11) (T := TX11) (N := 11) hv16 ki_X11_house_X11 rfl (by decide) k_X11_house_30 (fun _ z => z) dX11_house_47 ?_
    obtain ⟨g17, h⟩ := itg h
    obtain ⟨r18, hr18, h⟩ := ob h
    refine m_contI hC hw (m_runV hC hw (x := v16) (ci := 2) (N := 3) (C := RJx4a65c) (T := TJx4a65c) (n := 0) (av := []) (rest := [.int o15, .int r10.1, va_rf this]) (c_Jx4a65c_size_8abf5 (G := G) (l := l) hr18) gX11_house_Jx4a65c_size_8abf5 rfl (by decide +kernel) ⟨(Nat.le_of_ble_eq_true rfl), (Nat.le_of_ble_eq_true rfl)⟩ g17 rfl rfl hl.1 rfl (by simp [va_rf_cat, cat_i, cat_r, cat_l]) dX11_house_50 ⟨(Nat.zero_le _), (Nat.zero_le _)⟩) (fun H locs hw => ?_)
    refine lv_bipush (v := (6 : Int32)) hx hb dX11_house_53 (by decide) ?_
    obtain ⟨o21, ho21, h⟩ := ob h
    have J19 : ∀ (H : Heap) (locs : List Loc) (ls : Array Slot), wD G s M r10.2 sz H locs → lv_has ls 4 [(0, va_rf this)] → W p l e rmX11_house s m args below meth c H locs 0 0 Q (F0 m 63 ls [.int o21.1, .int o21.2.1, .int o21.2.2.1, va_rf o21.2.2.2]) := by
      intro H locs ls hw hl
      obtain ⟨g22, h⟩ := itg h
      obtain ⟨r23, hr23, h⟩ := ob h
      refine m_contI hC hw (m_runV hC hw (x := o21.2.2.2) (ci := 14) (N := 11) (C := RX11) (T := TX11) (n := 3) (av := [.int o21.2.2.1, .int o21.2.1, .int o21.1]) (rest := []) (c_X11_refusalOfText (G := G) (l := l) hr23) gX11_house_X11_refusalOfText rfl (by decide +kernel) ⟨(Nat.le_of_ble_eq_true rfl), (Nat.le_of_ble_eq_true rfl)⟩ g22 rfl rfl hl.1 rfl (Nat.le_of_ble_eq_true rfl) dX11_house_63 ⟨(Nat.zero_le _), (Nat.zero_le _)⟩) (fun H locs hw => ?_)
      refine lv_istore_n (i := 3) (lv' := [(3, .int r23.1), (0, va_rf this)]) hx hb dX11_house_66 rfl hl (by decide) rfl (fun ls hl => ?_)
      refine lv_iload_n hx hb dX11_house_67 rfl (lv_at hl 0 rfl) ?_
      refine lv_if_eq (tgt := 77) hx hb dX11_house_68 (by decide) (fun c24 => ?_) (fun c24 => ?_)
      · replace h := itt h c24
        refine m_aload_n (x := this) hx hb dX11_house_77 rfl (lv_at hl 1 rfl) ?_
        obtain ⟨v25, hv25, h⟩ := ob h
        refine m_getR hC hw (C := RX11) (T := TX11) (N := 11) hv25 ki_X11_house_X11 rfl (by decide) k_X11_house_30 (fun _ z => z) dX11_house_78 ?_
        obtain ⟨M26, hM26, h⟩ := ob h
        refine m_new hC hw (C := RX3) (T := TX3) (N := 5) (ci := 6) (fs := [.int 0, .int 0, .int 0, .int 0, .null]) ki_X11_house_X3 tyX3 tyX3_ok k_X11_house_n106 k_X11_house_ni106 k_X11_house_nj106 rfl (fun j hj => by match j, hj with | 0, _ => rfl | 1, _ => rfl | 2, _ => rfl | 3, _ => rfl | 4, _ => rfl) (Nat.le_of_ble_eq_true rfl) (Nat.le_of_ble_eq_true rfl) dX11_house_81 (fun H hw => ?_)
        rw [Option.some.inj hM26] at hw
        refine m_dup (x := (some sz)) hx hb dX11_house_84 ?_
        refine m_aload_n (x := this) hx hb dX11_house_85 rfl (lv_at hl 1 rfl) ?_
        obtain ⟨v27, hv27, h⟩ := ob h
        refine m_getR hC hw (C := RX11) (T := TX11) (N := 11) hv27 ki_X11_house_X11 rfl (by decide) k_X11_house_19 (fun _ z => z) dX11_house_86 ?_
        obtain ⟨r28, hr28, h⟩ := ob h
        refine m_contV hC hw (m_runI hC hw (x := (some sz)) (n := 1) (av := [va_rf v27]) (rest := [va_rf (some sz), va_rf v25]) (c_X3_init (G := G) (l := l) hr28) gX11_house_X3_init k_X11_house_ml108 k_X11_house_imX3_init k_X11_house_inX3 rfl rfl (by decide +kernel) ⟨(Nat.le_of_ble_eq_true rfl), (Nat.le_of_ble_eq_true rfl)⟩ rfl rfl hl.1 rfl (by simp [va_rf_cat, cat_i, cat_r, cat_l]) dX11_house_89 ⟨(Nat.le_of_ble_eq_true rfl), (Nat.le_of_ble_eq_true rfl)⟩) (fun H locs hw => ?_)
        obtain ⟨g29, h⟩ := itg h
        obtain ⟨r30, hr30, h⟩ := ob h
        refine m_contI hC hw (m_runV hC hw (x := v25) (ci := 2) (N := 3) (C := RJx4a65c) (T := TJx4a65c) (n := 1) (av := [va_rf (some sz)]) (rest := []) (c_Jx4a65c_add_9ea2d (G := G) (l := l) hr30) gX11_house_Jx4a65c_add_9ea2d rfl (by decide +kernel) ⟨(Nat.le_of_ble_eq_true rfl), (Nat.le_of_ble_eq_true rfl)⟩ g29 rfl rfl hl.1 rfl (Nat.le_of_ble_eq_true rfl) dX11_house_92 ⟨(Nat.le_of_ble_eq_true rfl), (Nat.le_of_ble_eq_true rfl)⟩) (fun H locs hw => ?_)
        refine lv_pop hx hb dX11_house_95 rfl ?_
        refine m_aload_n (x := this) hx hb dX11_house_96 rfl (lv_at hl 1 rfl) ?_
        refine m_aload_n (x := this) hx hb dX11_house_97 rfl (lv_at hl 1 rfl) ?_
        obtain ⟨v31, hv31, h⟩ := ob h
        refine m_getR hC hw (C := RX11) (T := TX11) (N := 11) hv31 ki_X11_house_X11 rfl (by decide) k_X11_house_30 (fun _ z => z) dX11_house_98 ?_
        obtain ⟨g32, h⟩ := itg h
        obtain ⟨r33, hr33, h⟩ := ob h
        refine m_contI hC hw (m_runV hC hw (x := v31) (ci := 2) (N := 3) (C := RJx4a65c) (T := TJx4a65c) (n := 0) (av := []) (rest := [va_rf this]) (c_Jx4a65c_size_8abf5 (G := G) (l := l) hr33) gX11_house_Jx4a65c_size_8abf5 rfl (by decide +kernel) ⟨(Nat.le_of_ble_eq_true rfl), (Nat.le_of_ble_eq_true rfl)⟩ g32 rfl rfl hl.1 rfl (by simp [va_rf_cat, cat_i, cat_r, cat_l]) dX11_house_101 ⟨(Nat.le_of_ble_eq_true rfl), (Nat.le_of_ble_eq_true rfl)⟩) (fun H locs hw => ?_)
        refine lv_iconst (v := (1 : Int32)) hx hb dX11_house_104 (by decide) ?_
        refine lv_isub hx hb dX11_house_105 ?_
        obtain ⟨g34, h⟩ := itg h
        obtain ⟨r35, hr35, h⟩ := ob h
        refine m_contI hC hw (m_runV hC hw (x := this) (ci := 14) (N := 11) (C := RX11) (T := TX11) (n := 1) (av := [.int (r33 - (1 : Int32))]) (rest := []) (c_X11_answer (G := G) (l := l) hr35) gX11_house_X11_answer rfl (by decide +kernel) ⟨(Nat.le_of_ble_eq_true rfl), (Nat.le_of_ble_eq_true rfl)⟩ g34 rfl rfl hl.1 rfl (Nat.le_of_ble_eq_true rfl) dX11_house_106 ⟨(Nat.le_of_ble_eq_true rfl), (Nat.le_of_ble_eq_true rfl)⟩) (fun H locs hw => ?_)
        replace h := Option.some.inj h
        subst h
        exact RET hw ⟨(Nat.le_of_ble_eq_true rfl), (Nat.le_of_ble_eq_true rfl)⟩ dX11_house_109
      · replace h := itf h c24
        refine m_aload_n (x := this) hx hb dX11_house_71 rfl (lv_at hl 1 rfl) ?_
        refine lv_iload_n hx hb dX11_house_72 rfl (lv_at hl 0 rfl) ?_
        obtain ⟨g36, h⟩ := itg h
        obtain ⟨r37, hr37, h⟩ := ob h
        refine m_contI hC hw (m_runV hC hw (x := this) (ci := 14) (N := 11) (C := RX11) (T := TX11) (n := 1) (av := [.int r23.1]) (rest := []) (c_X11_refuse (G := G) (l := l) hr37) gX11_house_X11_refuse rfl (by decide +kernel) ⟨(Nat.le_of_ble_eq_true rfl), (Nat.le_of_ble_eq_true rfl)⟩ g36 rfl rfl hl.1 rfl (Nat.le_of_ble_eq_true rfl) dX11_house_73 ⟨(Nat.zero_le _), (Nat.zero_le _)⟩) (fun H locs hw => ?_)
        replace h := Option.some.inj h
        subst h
        exact RET hw ⟨(Nat.zero_le _), (Nat.zero_le _)⟩ dX11_house_76
    clear h
    replace h := ho21
    refine lv_icmp_ge (tgt := 62) hx hb dX11_house_55 (by decide) (fun c20 => ?_) (fun c20 => ?_)
    · replace h := itt h c20
      refine lv_iconst (v := (0 : Int32)) hx hb dX11_house_62 (by decide) ?_
      replace h := Option.some.inj h
      subst h
      refine W.widen (k := 0) (n := 0) (Nat.le_of_ble_eq_true rfl) (Nat.le_of_ble_eq_true rfl) ?_
      exact J19 _ _ _ hw (lv_sub hl [1] rfl)
    · replace h := itf h c20
      refine lv_iconst (v := (1 : Int32)) hx hb dX11_house_58 (by decide) ?_
      refine lv_goto (tgt := 63) hx hb dX11_house_59 (by decide) ?_
      replace h := Option.some.inj h
      subst h
      refine W.widen (k := 0) (n := 0) (Nat.le_of_ble_eq_true rfl) (Nat.le_of_ble_eq_true rfl) ?_
      exact J19 _ _ _ hw (lv_sub hl [1] rfl)
  clear h
  replace h := ho15
  refine lv_if_eq (tgt := 41) hx hb dX11_house_28 (by decide) (fun c12 => ?_) (fun c12 => ?_)
  · replace h := itt h c12
    refine lv_iconst (v := (0 : Int32)) hx hb dX11_house_41 (by decide) ?_
    replace h := Option.some.inj h
    subst h
    refine W.widen (k := 0) (n := 0) (Nat.le_of_ble_eq_true rfl) (Nat.le_of_ble_eq_true rfl) ?_
    exact J11 _ _ _ hw (lv_sub hl [1, 0] rfl)
  · replace h := itf h c12
    refine m_aload_n (x := this) hx hb dX11_house_31 rfl (lv_at hl 1 rfl) ?_
    obtain ⟨v13, hv13, h⟩ := ob h
    refine m_getR hC hw (C := RX11) (T := TX11) (N := 11) hv13 ki_X11_house_X11 rfl (by decide) k_X11_house_19 (fun _ z => z) dX11_house_32 ?_
    obtain ⟨r14, hr14, h⟩ := ob h
    refine m_contI hC hw (m_runS hC hw (n := 1) (av := [va_rf v13]) (rest := []) (c_X3_faultIn (G := G) (l := l) hr14) gX11_house_X3_faultIn rfl (by decide +kernel) ⟨(Nat.le_of_ble_eq_true rfl), (Nat.le_of_ble_eq_true rfl)⟩ rfl hl.1 rfl (Nat.le_of_ble_eq_true rfl) dX11_house_35 ⟨(Nat.zero_le _), (Nat.zero_le _)⟩) (fun H locs hw => ?_)
    refine lv_goto (tgt := 42) hx hb dX11_house_38 (by decide) ?_
    replace h := Option.some.inj h
    subst h
    refine W.widen (k := 0) (n := 0) (Nat.le_of_ble_eq_true rfl) (Nat.le_of_ble_eq_true rfl) ?_
    exact J11 _ _ _ hw (lv_sub hl [1, 0] rfl)

def f_X11_courier (big : Bool) (B : Nat) (S : Nat → Nat) (n : Nat) (M : Mem) (sz : Nat) (this : Option Nat) : Option (Int32 × Mem × Nat) := (gR M this 14 1).bind fun v1 => (gR M this 14 0).bind fun v2 => if isO M v1 10 = true then ((f_X7_begin B S n M v1 v2).bind fun r4 => (gR r4 this 14 0).bind fun v5 => if isO r4 v5 12 = true then ((f_X9_keep B r4 v5 (0 : Int32)).bind fun r7 => (gR r7 this 14 1).bind fun v8 => if isO r7 v8 10 = true then ((f_X7_readsCourier B n r7 v8).bind fun r10 => ((if r10.1 = 0 then (some ((0 : Int32))) else ((gR r10.2 this 14 1).bind fun v13 => (f_X2_faultIn n r10.2 v13).bind fun r14 => some (r14))) : Option (Int32)).bind fun o15 => (gR r10.2 this 14 4).bind fun v16 => if isO r10.2 v16 2 = true then ((f_Jx4a65c_size_8abf5 r10.2 v16).bind fun r18 => ((if (8 : Int32) ≤ r18 then (some ((0 : Int32), o15, r10.1, this)) else (some ((1 : Int32), o15, r10.1, this))) : Option (Int32 × Int32 × Int32 × Option Nat)).bind fun o21 => if isO r10.2 o21.2.2.2 14 = true then ((f_X11_refusalOfText B r10.2 o21.2.2.2 o21.2.2.1 o21.2.1 o21.1).bind fun r23 => if r23.1 = 0 then ((gR r23.2 this 14 4).bind fun v25 => if big = true then ((some (va_up r23.2 sz (some (.inl (5, [.int 0, .null, .null]))))).bind fun M27 => (gR M27 this 14 4).bind fun v28 => if isO M27 v28 2 = true then ((f_Jx4a65c_size_8abf5 M27 v28).bind fun r30 => (gR M27 this 14 1).bind fun v31 => (f_X2_init B S n M27 (sz + 1) (some sz) r30 v31).bind fun r32 => if isO r32.1 v25 2 = true then ((f_Jx4a65c_add_9ea2d B S r32.1 r32.2 v25 (some sz)).bind fun r34 => (gR r34.2.1 this 14 4).bind fun v35 => if isO r34.2.1 v35 2 = true then ((f_Jx4a65c_size_8abf5 r34.2.1 v35).bind fun r37 => if isO r34.2.1 this 14 = true then ((f_X11_answer B r34.2.1 this (r37 - (1 : Int32))).bind fun r39 => some (r39.1, r39.2, r34.2.2)) else none) else none) else none) else none) else none) else (if isO r23.2 this 14 = true then ((f_X11_refuse B r23.2 this r23.1).bind fun r41 => some (r41.1, r41.2, sz)) else none)) else none) else none) else none) else none) else none
def rmX11_courier (big : Bool) : Room := { frames := 9, cells := if big then 136 else 0, slots := if big then 39857 else 0, locals := 203 }
theorem k_X11_courier_19 : Cond.fieldLink RX11 19 "LoanBook" "reader" "LLoanBook$Reader;" ∈ wsX11_courier := List.mem_of_getElem? (i := 1) rfl
theorem ki_X11_courier_X11 : ∀ w ∈ u_ws RX11 TX11 11, w ∈ wsX11_courier := sub_r [481, 482, 483, 484, 485, 486, 487, 488, 489, 490, 491] (by decide +kernel)
theorem k_X11_courier_10 : Cond.fieldLink RX11 10 "LoanBook" "tape" "LLoanBook$Tape;" ∈ wsX11_courier := List.mem_of_getElem? (i := 2) rfl
theorem k_X11_courier_33 : Cond.fieldLink RX11 33 "LoanBook" "couriers" "Ljava/util/ArrayList;" ∈ wsX11_courier := List.mem_of_getElem? (i := 3) rfl
theorem k_X11_courier_n115 : Cond.classLink RX11 115 RX2 ∈ wsX11_courier := List.mem_of_getElem? (i := 4) rfl
theorem k_X11_courier_ni115 : Cond.instantiable RX2 3 ∈ wsX11_courier := List.mem_of_getElem? (i := 5) rfl
theorem k_X11_courier_nj115 : Cond.initialized RX2 ∈ wsX11_courier := List.mem_of_getElem? (i := 6) rfl
theorem ki_X11_courier_X2 : ∀ w ∈ u_ws RX2 TX2 3, w ∈ wsX11_courier := sub_r [492, 493, 494] (by decide +kernel)
theorem k_X11_courier_ml117 : Cond.methodLink RX11 117 yX2_init ∈ wsX11_courier := List.mem_of_getElem? (i := 189) rfl
theorem k_X11_courier_imX2_init : Cond.instanceMethod yX2_init ∈ wsX11_courier := List.mem_of_getElem? (i := 190) rfl
theorem k_X11_courier_inX2 : Cond.initialized RX2 ∈ wsX11_courier := List.mem_of_getElem? (i := 6) rfl
set_option maxHeartbeats 4000000 in
set_option maxRecDepth 100000 in
theorem c_X11_courier {G : wG} {l : Launch} {big : Bool} {n : Nat} {M : Mem} {sz : Nat} {this : Option Nat} {r : Int32 × Mem × Nat} (h : f_X11_courier big G.2.2.1 G.2.2.2 n M sz this = some r) : CtrI G l yX11_courier wsX11_courier (rmX11_courier big) [va_rf this] M sz r.1 r.2.1 r.2.2 := by
  refine m_startI (own := RX11) (cc := cX11_courier) (maxL := 4) (lv0 := [(0, va_rf this)]) (by decide) rfl rfl (by simp [lg_sl, va_rf_cat, cat_i, cat_r]) (by simp [lv_args, va_rf_cat, cat_i, cat_r]) ?_
  intro p e s m args below meth c Q hC hname RET hsz hw ls hl
  have hx := hC.1
  have hb := hC.2.1
  unfold f_X11_courier at h
  refine m_aload_n (x := this) hx hb dX11_courier_0 rfl (lv_at hl 0 rfl) ?_
  obtain ⟨v1, hv1, h⟩ := ob h
  refine m_getR hC hw (C := RX11) (T := TX11) (N := 11) hv1 ki_X11_courier_X11 rfl (by decide) k_X11_courier_19 (fun _ z => z) dX11_courier_1 ?_
  refine m_aload_n (x := this) hx hb dX11_courier_4 rfl (lv_at hl 0 rfl) ?_
  obtain ⟨v2, hv2, h⟩ := ob h
  refine m_getR hC hw (C := RX11) (T := TX11) (N := 11) hv2 ki_X11_courier_X11 rfl (by decide) k_X11_courier_10 (fun _ z => z) dX11_courier_5 ?_
  obtain ⟨g3, h⟩ := itg h
  obtain ⟨r4, hr4, h⟩ := ob h
  refine m_contV hC hw (m_runV hC hw (x := v1) (ci := 10) (N := 5) (C := RX7) (T := TX7) (n := 1) (av := [va_rf v2]) (rest := []) (c_X7_begin (G := G) (l := l) hr4) gX11_courier_X7_begin rfl (by decide +kernel) ⟨(Nat.le_of_ble_eq_true rfl), (Nat.le_of_ble_eq_true rfl)⟩ g3 rfl rfl hl.1 rfl (Nat.le_of_ble_eq_true rfl) dX11_courier_8 ⟨(Nat.zero_le _), (Nat.zero_le _)⟩) (fun H locs hw => ?_)
  refine m_aload_n (x := this) hx hb dX11_courier_11 rfl (lv_at hl 0 rfl) ?_
  obtain ⟨v5, hv5, h⟩ := ob h
  refine m_getR hC hw (C := RX11) (T := TX11) (N := 11) hv5 ki_X11_courier_X11 rfl (by decide) k_X11_courier_10 (fun _ z => z) dX11_courier_12 ?_
  refine lv_iconst (v := (0 : Int32)) hx hb dX11_courier_15 (by decide) ?_
  obtain ⟨g6, h⟩ := itg h
  obtain ⟨r7, hr7, h⟩ := ob h
  refine m_contV hC hw (m_runV hC hw (x := v5) (ci := 12) (N := 2) (C := RX9) (T := TX9) (n := 1) (av := [.int (0 : Int32)]) (rest := []) (c_X9_keep (G := G) (l := l) hr7) gX11_courier_X9_keep rfl (by decide +kernel) ⟨(Nat.le_of_ble_eq_true rfl), (Nat.le_of_ble_eq_true rfl)⟩ g6 rfl rfl hl.1 rfl (Nat.le_of_ble_eq_true rfl) dX11_courier_16 ⟨(Nat.zero_le _), (Nat.zero_le _)⟩) (fun H locs hw => ?_)
  refine m_aload_n (x := this) hx hb dX11_courier_19 rfl (lv_at hl 0 rfl) ?_
  obtain ⟨v8, hv8, h⟩ := ob h
  refine m_getR hC hw (C := RX11) (T := TX11) (N := 11) hv8 ki_X11_courier_X11 rfl (by decide) k_X11_courier_19 (fun _ z => z) dX11_courier_20 ?_
  obtain ⟨g9, h⟩ := itg h
  obtain ⟨r10, hr10, h⟩ := ob h
  refine m_contI hC hw (m_runV hC hw (x := v8) (ci := 10) (N := 5) (C := RX7) (T := TX7) (n := 0) (av := []) (rest := []) (c_X7_readsCourier (G := G) (l := l) hr10) gX11_courier_X7_readsCourier rfl (by decide +kernel) ⟨(Nat.le_of_ble_eq_true rfl), (Nat.le_of_ble_eq_true rfl)⟩ g9 rfl rfl hl.1 rfl (Nat.le_of_ble_eq_true rfl) dX11_courier_23 ⟨(Nat.zero_le _), (Nat.zero_le _)⟩) (fun H locs hw => ?_)
  refine lv_istore_n (i := 1) (lv' := [(1, .int r10.1), (0, va_rf this)]) hx hb dX11_courier_26 rfl hl (by decide) (by simp [va_rf_cat, cat_i, cat_l]) (fun ls hl => ?_)
  refine lv_iload_n hx hb dX11_courier_27 rfl (lv_at hl 0 rfl) ?_
  obtain ⟨o15, ho15, h⟩ := ob h
  have J11 : ∀ (H : Heap) (locs : List Loc) (ls : Array Slot), wD G s M r10.2 sz H locs → lv_has ls 4 [(0, va_rf this), (1, .int r10.1)] → W p l e (rmX11_courier big) s m args below meth c H locs 0 0 Q (F0 m 42 ls [.int o15]) := by
    intro H locs ls hw hl
    refine lv_istore_n (i := 2) (lv' := [(2, .int o15), (0, va_rf this), (1, .int r10.1)]) hx hb dX11_courier_42 rfl hl (by decide) rfl (fun ls hl => ?_)
    refine m_aload_n (x := this) hx hb dX11_courier_43 rfl (lv_at hl 1 rfl) ?_
    refine lv_iload_n hx hb dX11_courier_44 rfl (lv_at hl 2 rfl) ?_
    refine lv_iload_n hx hb dX11_courier_45 rfl (lv_at hl 0 rfl) ?_
    refine m_aload_n (x := this) hx hb dX11_courier_46 rfl (lv_at hl 1 rfl) ?_
    obtain ⟨v16, hv16, h⟩ := ob h
    refine m_getR hC hw (C := RX11) (T := TX11) (N := 11) hv16 ki_X11_courier_X11 rfl (by decide) k_X11_courier_33 (fun _ z => z) dX11_courier_47 ?_
    obtain ⟨g17, h⟩ := itg h
    obtain ⟨r18, hr18, h⟩ := ob h
    refine m_contI hC hw (m_runV hC hw (x := v16) (ci := 2) (N := 3) (C := RJx4a65c) (T := TJx4a65c) (n := 0) (av := []) (rest := [.int o15, .int r10.1, va_rf this]) (c_Jx4a65c_size_8abf5 (G := G) (l := l) hr18) gX11_courier_Jx4a65c_size_8abf5 rfl (by decide +kernel) ⟨(Nat.le_of_ble_eq_true rfl), (Nat.le_of_ble_eq_true rfl)⟩ g17 rfl rfl hl.1 rfl (by simp [va_rf_cat, cat_i, cat_r, cat_l]) dX11_courier_50 ⟨(Nat.zero_le _), (Nat.zero_le _)⟩) (fun H locs hw => ?_)
    refine lv_bipush (v := (8 : Int32)) hx hb dX11_courier_53 (by decide) ?_
    obtain ⟨o21, ho21, h⟩ := ob h
    have J19 : ∀ (H : Heap) (locs : List Loc) (ls : Array Slot), wD G s M r10.2 sz H locs → lv_has ls 4 [(0, va_rf this)] → W p l e (rmX11_courier big) s m args below meth c H locs 0 0 Q (F0 m 63 ls [.int o21.1, .int o21.2.1, .int o21.2.2.1, va_rf o21.2.2.2]) := by
      intro H locs ls hw hl
      obtain ⟨g22, h⟩ := itg h
      obtain ⟨r23, hr23, h⟩ := ob h
      refine m_contI hC hw (m_runV hC hw (x := o21.2.2.2) (ci := 14) (N := 11) (C := RX11) (T := TX11) (n := 3) (av := [.int o21.2.2.1, .int o21.2.1, .int o21.1]) (rest := []) (c_X11_refusalOfText (G := G) (l := l) hr23) gX11_courier_X11_refusalOfText rfl (by decide +kernel) ⟨(Nat.le_of_ble_eq_true rfl), (Nat.le_of_ble_eq_true rfl)⟩ g22 rfl rfl hl.1 rfl (Nat.le_of_ble_eq_true rfl) dX11_courier_63 ⟨(Nat.zero_le _), (Nat.zero_le _)⟩) (fun H locs hw => ?_)
      refine lv_istore_n (i := 3) (lv' := [(3, .int r23.1), (0, va_rf this)]) hx hb dX11_courier_66 rfl hl (by decide) rfl (fun ls hl => ?_)
      refine lv_iload_n hx hb dX11_courier_67 rfl (lv_at hl 0 rfl) ?_
      refine lv_if_eq (tgt := 77) hx hb dX11_courier_68 (by decide) (fun c24 => ?_) (fun c24 => ?_)
      · replace h := itt h c24
        refine m_aload_n (x := this) hx hb dX11_courier_77 rfl (lv_at hl 1 rfl) ?_
        obtain ⟨v25, hv25, h⟩ := ob h
        refine m_getR hC hw (C := RX11) (T := TX11) (N := 11) hv25 ki_X11_courier_X11 rfl (by decide) k_X11_courier_33 (fun _ z => z) dX11_courier_78 ?_
        obtain ⟨g26, h⟩ := itg h
        obtain ⟨M27, hM27, h⟩ := ob h
        refine m_new hC hw (C := RX2) (T := TX2) (N := 3) (ci := 5) (fs := [.int 0, .null, .null]) ki_X11_courier_X2 tyX2 tyX2_ok k_X11_courier_n115 k_X11_courier_ni115 k_X11_courier_nj115 rfl (fun j hj => by match j, hj with | 0, _ => rfl | 1, _ => rfl | 2, _ => rfl) (by rw [g26]; exact Nat.le_of_ble_eq_true rfl) (by rw [g26]; exact Nat.le_of_ble_eq_true rfl) dX11_courier_81 (fun H hw => ?_)
        rw [Option.some.inj hM27] at hw
        refine m_dup (x := (some sz)) hx hb dX11_courier_84 ?_
        refine m_aload_n (x := this) hx hb dX11_courier_85 rfl (lv_at hl 1 rfl) ?_
        obtain ⟨v28, hv28, h⟩ := ob h
        refine m_getR hC hw (C := RX11) (T := TX11) (N := 11) hv28 ki_X11_courier_X11 rfl (by decide) k_X11_courier_33 (fun _ z => z) dX11_courier_86 ?_
        obtain ⟨g29, h⟩ := itg h
        obtain ⟨r30, hr30, h⟩ := ob h
        refine m_contI hC hw (m_runV hC hw (x := v28) (ci := 2) (N := 3) (C := RJx4a65c) (T := TJx4a65c) (n := 0) (av := []) (rest := [va_rf (some sz), va_rf (some sz), va_rf v25]) (c_Jx4a65c_size_8abf5 (G := G) (l := l) hr30) gX11_courier_Jx4a65c_size_8abf5 rfl (by decide +kernel) ⟨(Nat.le_of_ble_eq_true rfl), (Nat.le_of_ble_eq_true rfl)⟩ g29 rfl rfl hl.1 rfl (by simp [va_rf_cat, cat_i, cat_r, cat_l]) dX11_courier_89 ⟨(by rw [g26]; exact Nat.le_of_ble_eq_true rfl), (by rw [g26]; exact Nat.le_of_ble_eq_true rfl)⟩) (fun H locs hw => ?_)
        refine m_aload_n (x := this) hx hb dX11_courier_92 rfl (lv_at hl 1 rfl) ?_
        obtain ⟨v31, hv31, h⟩ := ob h
        refine m_getR hC hw (C := RX11) (T := TX11) (N := 11) hv31 ki_X11_courier_X11 rfl (by decide) k_X11_courier_19 (fun _ z => z) dX11_courier_93 ?_
        obtain ⟨r32, hr32, h⟩ := ob h
        refine m_contV hC hw (m_runI hC hw (x := (some sz)) (n := 2) (av := [.int r30, va_rf v31]) (rest := [va_rf (some sz), va_rf v25]) (c_X2_init (G := G) (l := l) hr32) gX11_courier_X2_init k_X11_courier_ml117 k_X11_courier_imX2_init k_X11_courier_inX2 rfl rfl (by decide +kernel) ⟨(Nat.le_of_ble_eq_true rfl), (Nat.le_of_ble_eq_true rfl)⟩ rfl rfl hl.1 rfl (by simp [va_rf_cat, cat_i, cat_r, cat_l]) dX11_courier_96 ⟨(by rw [g26]; exact Nat.le_of_ble_eq_true rfl), (by rw [g26]; exact Nat.le_of_ble_eq_true rfl)⟩) (fun H locs hw => ?_)
        obtain ⟨g33, h⟩ := itg h
        obtain ⟨r34, hr34, h⟩ := ob h
        refine m_contI hC hw (m_runV hC hw (x := v25) (ci := 2) (N := 3) (C := RJx4a65c) (T := TJx4a65c) (n := 1) (av := [va_rf (some sz)]) (rest := []) (c_Jx4a65c_add_9ea2d (G := G) (l := l) hr34) gX11_courier_Jx4a65c_add_9ea2d rfl (by decide +kernel) ⟨(Nat.le_of_ble_eq_true rfl), (Nat.le_of_ble_eq_true rfl)⟩ g33 rfl rfl hl.1 rfl (Nat.le_of_ble_eq_true rfl) dX11_courier_99 ⟨(by rw [g26]; exact Nat.le_of_ble_eq_true rfl), (by rw [g26]; exact Nat.le_of_ble_eq_true rfl)⟩) (fun H locs hw => ?_)
        refine lv_pop hx hb dX11_courier_102 rfl ?_
        refine m_aload_n (x := this) hx hb dX11_courier_103 rfl (lv_at hl 1 rfl) ?_
        refine m_aload_n (x := this) hx hb dX11_courier_104 rfl (lv_at hl 1 rfl) ?_
        obtain ⟨v35, hv35, h⟩ := ob h
        refine m_getR hC hw (C := RX11) (T := TX11) (N := 11) hv35 ki_X11_courier_X11 rfl (by decide) k_X11_courier_33 (fun _ z => z) dX11_courier_105 ?_
        obtain ⟨g36, h⟩ := itg h
        obtain ⟨r37, hr37, h⟩ := ob h
        refine m_contI hC hw (m_runV hC hw (x := v35) (ci := 2) (N := 3) (C := RJx4a65c) (T := TJx4a65c) (n := 0) (av := []) (rest := [va_rf this]) (c_Jx4a65c_size_8abf5 (G := G) (l := l) hr37) gX11_courier_Jx4a65c_size_8abf5 rfl (by decide +kernel) ⟨(Nat.le_of_ble_eq_true rfl), (Nat.le_of_ble_eq_true rfl)⟩ g36 rfl rfl hl.1 rfl (by simp [va_rf_cat, cat_i, cat_r, cat_l]) dX11_courier_108 ⟨(by rw [g26]; exact Nat.le_of_ble_eq_true rfl), (by rw [g26]; exact Nat.le_of_ble_eq_true rfl)⟩) (fun H locs hw => ?_)
        refine lv_iconst (v := (1 : Int32)) hx hb dX11_courier_111 (by decide) ?_
        refine lv_isub hx hb dX11_courier_112 ?_
        obtain ⟨g38, h⟩ := itg h
        obtain ⟨r39, hr39, h⟩ := ob h
        refine m_contI hC hw (m_runV hC hw (x := this) (ci := 14) (N := 11) (C := RX11) (T := TX11) (n := 1) (av := [.int (r37 - (1 : Int32))]) (rest := []) (c_X11_answer (G := G) (l := l) hr39) gX11_courier_X11_answer rfl (by decide +kernel) ⟨(Nat.le_of_ble_eq_true rfl), (Nat.le_of_ble_eq_true rfl)⟩ g38 rfl rfl hl.1 rfl (Nat.le_of_ble_eq_true rfl) dX11_courier_113 ⟨(by rw [g26]; exact Nat.le_of_ble_eq_true rfl), (by rw [g26]; exact Nat.le_of_ble_eq_true rfl)⟩) (fun H locs hw => ?_)
        replace h := Option.some.inj h
        subst h
        exact RET hw ⟨(by rw [g26]; exact Nat.le_of_ble_eq_true rfl), (by rw [g26]; exact Nat.le_of_ble_eq_true rfl)⟩ dX11_courier_116
      · replace h := itf h c24
        refine m_aload_n (x := this) hx hb dX11_courier_71 rfl (lv_at hl 1 rfl) ?_
        refine lv_iload_n hx hb dX11_courier_72 rfl (lv_at hl 0 rfl) ?_
        obtain ⟨g40, h⟩ := itg h
        obtain ⟨r41, hr41, h⟩ := ob h
        refine m_contI hC hw (m_runV hC hw (x := this) (ci := 14) (N := 11) (C := RX11) (T := TX11) (n := 1) (av := [.int r23.1]) (rest := []) (c_X11_refuse (G := G) (l := l) hr41) gX11_courier_X11_refuse rfl (by decide +kernel) ⟨(Nat.le_of_ble_eq_true rfl), (Nat.le_of_ble_eq_true rfl)⟩ g40 rfl rfl hl.1 rfl (Nat.le_of_ble_eq_true rfl) dX11_courier_73 ⟨(Nat.zero_le _), (Nat.zero_le _)⟩) (fun H locs hw => ?_)
        replace h := Option.some.inj h
        subst h
        exact RET hw ⟨(Nat.zero_le _), (Nat.zero_le _)⟩ dX11_courier_76
    clear h
    replace h := ho21
    refine lv_icmp_ge (tgt := 62) hx hb dX11_courier_55 (by decide) (fun c20 => ?_) (fun c20 => ?_)
    · replace h := itt h c20
      refine lv_iconst (v := (0 : Int32)) hx hb dX11_courier_62 (by decide) ?_
      replace h := Option.some.inj h
      subst h
      refine W.widen (k := 0) (n := 0) (Nat.le_of_ble_eq_true rfl) (Nat.le_of_ble_eq_true rfl) ?_
      exact J19 _ _ _ hw (lv_sub hl [1] rfl)
    · replace h := itf h c20
      refine lv_iconst (v := (1 : Int32)) hx hb dX11_courier_58 (by decide) ?_
      refine lv_goto (tgt := 63) hx hb dX11_courier_59 (by decide) ?_
      replace h := Option.some.inj h
      subst h
      refine W.widen (k := 0) (n := 0) (Nat.le_of_ble_eq_true rfl) (Nat.le_of_ble_eq_true rfl) ?_
      exact J19 _ _ _ hw (lv_sub hl [1] rfl)
  clear h
  replace h := ho15
  refine lv_if_eq (tgt := 41) hx hb dX11_courier_28 (by decide) (fun c12 => ?_) (fun c12 => ?_)
  · replace h := itt h c12
    refine lv_iconst (v := (0 : Int32)) hx hb dX11_courier_41 (by decide) ?_
    replace h := Option.some.inj h
    subst h
    refine W.widen (k := 0) (n := 0) (Nat.le_of_ble_eq_true rfl) (Nat.le_of_ble_eq_true rfl) ?_
    exact J11 _ _ _ hw (lv_sub hl [1, 0] rfl)
  · replace h := itf h c12
    refine m_aload_n (x := this) hx hb dX11_courier_31 rfl (lv_at hl 1 rfl) ?_
    obtain ⟨v13, hv13, h⟩ := ob h
    refine m_getR hC hw (C := RX11) (T := TX11) (N := 11) hv13 ki_X11_courier_X11 rfl (by decide) k_X11_courier_19 (fun _ z => z) dX11_courier_32 ?_
    obtain ⟨r14, hr14, h⟩ := ob h
    refine m_contI hC hw (m_runS hC hw (n := 1) (av := [va_rf v13]) (rest := []) (c_X2_faultIn (G := G) (l := l) hr14) gX11_courier_X2_faultIn rfl (by decide +kernel) ⟨(Nat.le_of_ble_eq_true rfl), (Nat.le_of_ble_eq_true rfl)⟩ rfl hl.1 rfl (Nat.le_of_ble_eq_true rfl) dX11_courier_35 ⟨(Nat.zero_le _), (Nat.zero_le _)⟩) (fun H locs hw => ?_)
    refine lv_goto (tgt := 42) hx hb dX11_courier_38 (by decide) ?_
    replace h := Option.some.inj h
    subst h
    refine W.widen (k := 0) (n := 0) (Nat.le_of_ble_eq_true rfl) (Nat.le_of_ble_eq_true rfl) ?_
    exact J11 _ _ _ hw (lv_sub hl [1, 0] rfl)

def f_X11_houseAt (M : Mem) (this : Option Nat) (a1 : Int32) : Option (Option Nat) := if a1 < 0 then (some (none)) else ((gR M this 14 3).bind fun v2 => if isO M v2 2 = true then ((f_Jx4a65c_size_8abf5 M v2).bind fun r4 => if r4 ≤ a1 then (some (none)) else ((gR M this 14 3).bind fun v6 => if isO M v6 2 = true then ((f_Jx4a65c_get_915e3 M v6 a1).bind fun r8 => if r8 = none ∨ isO M r8 6 = true then (some (r8)) else none) else none)) else none)
def rmX11_houseAt : Room := { frames := 3, cells := 0, slots := 0, locals := 64 }
theorem k_X11_houseAt_30 : Cond.fieldLink RX11 30 "LoanBook" "houses" "Ljava/util/ArrayList;" ∈ wsX11_houseAt := List.mem_of_getElem? (i := 1) rfl
theorem ki_X11_houseAt_X11 : ∀ w ∈ u_ws RX11 TX11 11, w ∈ wsX11_houseAt := sub_r [26, 27, 28, 29, 30, 31, 32, 33, 34, 35, 36] (by decide +kernel)
theorem k_X11_houseAt_cc106 : Cond.classLink RX11 106 RX3 ∈ wsX11_houseAt := List.mem_of_getElem? (i := 2) rfl
set_option maxHeartbeats 4000000 in
set_option maxRecDepth 100000 in
theorem c_X11_houseAt {G : wG} {l : Launch} {M : Mem} {sz : Nat} {this : Option Nat} {a1 : Int32} {r : Option Nat} (h : f_X11_houseAt M this a1 = some r) : CtrQ G l yX11_houseAt wsX11_houseAt rmX11_houseAt [va_rf this, .int a1] M sz r M sz := by
  refine m_startQ (own := RX11) (cc := cX11_houseAt) (maxL := 2) (lv0 := [(0, va_rf this), (1, .int a1)]) (by decide) rfl rfl (by simp [lg_sl, va_rf_cat, cat_i, cat_r]) (by simp [lv_args, va_rf_cat, cat_i, cat_r]) (Or.inl ⟨_, rfl⟩) ?_
  intro p e s m args below meth c Q hC hname RET hsz hw ls hl
  have hx := hC.1
  have hb := hC.2.1
  unfold f_X11_houseAt at h
  refine lv_iload_n hx hb dX11_houseAt_0 rfl (lv_at hl 1 rfl) ?_
  refine lv_if_lt (tgt := 29) hx hb dX11_houseAt_1 (by decide) (fun c1 => ?_) (fun c1 => ?_)
  · replace h := itt h c1
    refine lv_null hx hb dX11_houseAt_29 ?_
    replace h := Option.some.inj h
    subst h
    exact RET hw ⟨(Nat.zero_le _), (Nat.zero_le _)⟩ dX11_houseAt_30
  · replace h := itf h c1
    refine lv_iload_n hx hb dX11_houseAt_4 rfl (lv_at hl 1 rfl) ?_
    refine m_aload_n (x := this) hx hb dX11_houseAt_5 rfl (lv_at hl 0 rfl) ?_
    obtain ⟨v2, hv2, h⟩ := ob h
    refine m_getR hC hw (C := RX11) (T := TX11) (N := 11) hv2 ki_X11_houseAt_X11 rfl (by decide) k_X11_houseAt_30 (fun _ z => z) dX11_houseAt_6 ?_
    obtain ⟨g3, h⟩ := itg h
    obtain ⟨r4, hr4, h⟩ := ob h
    refine m_contI hC hw (m_runV hC hw (x := v2) (ci := 2) (N := 3) (C := RJx4a65c) (T := TJx4a65c) (n := 0) (av := []) (rest := [.int a1]) (c_Jx4a65c_size_8abf5 (G := G) (l := l) hr4) gX11_houseAt_Jx4a65c_size_8abf5 rfl (by decide +kernel) ⟨(Nat.le_of_ble_eq_true rfl), (Nat.le_of_ble_eq_true rfl)⟩ g3 rfl rfl hl.1 rfl (Nat.le_of_ble_eq_true rfl) dX11_houseAt_9 ⟨(Nat.zero_le _), (Nat.zero_le _)⟩) (fun H locs hw => ?_)
    refine lv_icmp_ge (tgt := 29) hx hb dX11_houseAt_12 (by decide) (fun c5 => ?_) (fun c5 => ?_)
    · replace h := itt h c5
      refine lv_null hx hb dX11_houseAt_29 ?_
      replace h := Option.some.inj h
      subst h
      exact RET hw ⟨(Nat.zero_le _), (Nat.zero_le _)⟩ dX11_houseAt_30
    · replace h := itf h c5
      refine m_aload_n (x := this) hx hb dX11_houseAt_15 rfl (lv_at hl 0 rfl) ?_
      obtain ⟨v6, hv6, h⟩ := ob h
      refine m_getR hC hw (C := RX11) (T := TX11) (N := 11) hv6 ki_X11_houseAt_X11 rfl (by decide) k_X11_houseAt_30 (fun _ z => z) dX11_houseAt_16 ?_
      refine lv_iload_n hx hb dX11_houseAt_19 rfl (lv_at hl 1 rfl) ?_
      obtain ⟨g7, h⟩ := itg h
      obtain ⟨r8, hr8, h⟩ := ob h
      refine m_contQ hC hw (m_runV hC hw (x := v6) (ci := 2) (N := 3) (C := RJx4a65c) (T := TJx4a65c) (n := 1) (av := [.int a1]) (rest := []) (c_Jx4a65c_get_915e3 (G := G) (l := l) hr8) gX11_houseAt_Jx4a65c_get_915e3 rfl (by decide +kernel) ⟨(Nat.le_of_ble_eq_true rfl), (Nat.le_of_ble_eq_true rfl)⟩ g7 rfl rfl hl.1 rfl (Nat.le_of_ble_eq_true rfl) dX11_houseAt_20 ⟨(Nat.zero_le _), (Nat.zero_le _)⟩) (fun H locs hw => ?_)
      obtain ⟨g9, h⟩ := itg h
      refine m_cast (x := r8) hC hw (C := RX3) (T := TX3) (N := 5) g9 k_X11_houseAt_cc106 rfl dX11_houseAt_23 ?_
      refine lv_goto (tgt := 30) hx hb dX11_houseAt_26 (by decide) ?_
      replace h := Option.some.inj h
      subst h
      exact RET hw ⟨(Nat.zero_le _), (Nat.zero_le _)⟩ dX11_houseAt_30

def f_X11_tellsThingsRising_L4 (n : Nat) (M : Mem) (x0 : Option Nat) : Nat → Int32 → Int32 → Option (Int32)
  | 0, _, _ => none
  | k + 1, x1, x2 => (gR M x0 14 1).bind fun v1 => if isO M v1 10 = true then ((f_X7_size M v1).bind fun r3 => if r3 ≤ x2 then (some ((1 : Int32))) else ((gR M x0 14 1).bind fun v5 => if isO M v5 10 = true then ((f_X7_told M v5 x2).bind fun r7 => if r7 ≤ x1 then (some ((0 : Int32))) else ((gR M x0 14 2).bind fun v9 => if isO M v9 2 = true then ((f_Jx4a65c_size_8abf5 M v9).bind fun r11 => if r7 < r11 then (f_X11_tellsThingsRising_L4 n M x0 k r7 (x2 + (1 : Int32))) else (some ((0 : Int32)))) else none)) else none)) else none
def f_X11_tellsThingsRising (n : Nat) (M : Mem) (this : Option Nat) : Option (Int32) := f_X11_tellsThingsRising_L4 n M this n (-1 : Int32) (2 : Int32)
def rmX11_tellsThingsRising : Room := { frames := 1, cells := 0, slots := 0, locals := 21 }
theorem k_X11_tellsThingsRising_19 : Cond.fieldLink RX11 19 "LoanBook" "reader" "LLoanBook$Reader;" ∈ wsX11_tellsThingsRising := List.mem_of_getElem? (i := 1) rfl
theorem ki_X11_tellsThingsRising_X11 : ∀ w ∈ u_ws RX11 TX11 11, w ∈ wsX11_tellsThingsRising := sub_r [20, 21, 22, 23, 24, 25, 26, 27, 28, 29, 30] (by decide +kernel)
theorem k_X11_tellsThingsRising_26 : Cond.fieldLink RX11 26 "LoanBook" "things" "Ljava/util/ArrayList;" ∈ wsX11_tellsThingsRising := List.mem_of_getElem? (i := 2) rfl
set_option maxHeartbeats 4000000 in
set_option maxRecDepth 100000 in
theorem c_X11_tellsThingsRising {G : wG} {l : Launch} {n : Nat} {M : Mem} {sz : Nat} {this : Option Nat} {r : Int32} (h : f_X11_tellsThingsRising n M this = some r) : CtrI G l yX11_tellsThingsRising wsX11_tellsThingsRising rmX11_tellsThingsRising [va_rf this] M sz r M sz := by
  refine m_startZ (own := RX11) (cc := cX11_tellsThingsRising) (maxL := 4) (lv0 := [(0, va_rf this)]) (by decide) rfl rfl (by simp [lg_sl, va_rf_cat, cat_i, cat_r]) (by simp [lv_args, va_rf_cat, cat_i, cat_r]) ?_
  intro p e s m args below meth c Q hC hname RET hsz hw ls hl
  have hx := hC.1
  have hb := hC.2.1
  have L4 : ∀ (x0 : Option Nat) (k : Nat) (x1 : Int32) (x2 : Int32) (cells slots : Nat) (H : Heap) (locs : List Loc) (ls : Array Slot), f_X11_tellsThingsRising_L4 n M x0 k x1 x2 = some r → cells ≤ 0 → slots ≤ 0 → wD G s M M sz H locs → lv_has ls 4 [(0, va_rf x0), (1, .int x1), (2, .int x2)] → W p l e rmX11_tellsThingsRising s m args below meth c H locs cells slots Q (F0 m 4 ls []) := by
    intro x0 k
    induction k with
    | zero =>
      intro x1 x2 cells slots H locs ls h
      exact absurd (show (none : Option (Int32)) = some r from h) (fun z => by cases z)
    | succ k ih =>
      intro x1 x2 cells slots H locs ls h hcl hsl hw hl
      rw [f_X11_tellsThingsRising_L4] at h
      refine lv_iload_n hx hb dX11_tellsThingsRising_4 rfl (lv_at hl 2 rfl) ?_
      refine m_aload_n (x := x0) hx hb dX11_tellsThingsRising_5 rfl (lv_at hl 0 rfl) ?_
      obtain ⟨v1, hv1, h⟩ := ob h
      refine m_getR hC hw (C := RX11) (T := TX11) (N := 11) hv1 ki_X11_tellsThingsRising_X11 rfl (by decide) k_X11_tellsThingsRising_19 (fun _ z => z) dX11_tellsThingsRising_6 ?_
      obtain ⟨g2, h⟩ := itg h
      obtain ⟨r3, hr3, h⟩ := ob h
      refine m_contI hC hw (m_runV hC hw (x := v1) (ci := 10) (N := 5) (C := RX7) (T := TX7) (n := 0) (av := []) (rest := [.int x2]) (c_X7_size (G := G) (l := l) hr3) gX11_tellsThingsRising_X7_size rfl (by decide +kernel) ⟨(Nat.le_of_ble_eq_true rfl), (Nat.le_of_ble_eq_true rfl)⟩ g2 rfl rfl hl.1 rfl (Nat.le_of_ble_eq_true rfl) dX11_tellsThingsRising_9 ⟨(show cells + 0 ≤ 0 from by omega), (show slots + 0 ≤ 0 from by omega)⟩) (fun H locs hw => ?_)
      refine lv_icmp_ge (tgt := 50) hx hb dX11_tellsThingsRising_12 (by decide) (fun c4 => ?_) (fun c4 => ?_)
      · replace h := itt h c4
        refine lv_iconst (v := (1 : Int32)) hx hb dX11_tellsThingsRising_50 (by decide) ?_
        replace h := Option.some.inj h
        subst h
        exact RET (isZ.nar (Or.inr rfl)) hw ⟨(show cells + 0 ≤ 0 from by omega), (show slots + 0 ≤ 0 from by omega)⟩ dX11_tellsThingsRising_51
      · replace h := itf h c4
        refine m_aload_n (x := x0) hx hb dX11_tellsThingsRising_15 rfl (lv_at hl 0 rfl) ?_
        obtain ⟨v5, hv5, h⟩ := ob h
        refine m_getR hC hw (C := RX11) (T := TX11) (N := 11) hv5 ki_X11_tellsThingsRising_X11 rfl (by decide) k_X11_tellsThingsRising_19 (fun _ z => z) dX11_tellsThingsRising_16 ?_
        refine lv_iload_n hx hb dX11_tellsThingsRising_19 rfl (lv_at hl 2 rfl) ?_
        obtain ⟨g6, h⟩ := itg h
        obtain ⟨r7, hr7, h⟩ := ob h
        refine m_contI hC hw (m_runV hC hw (x := v5) (ci := 10) (N := 5) (C := RX7) (T := TX7) (n := 1) (av := [.int x2]) (rest := []) (c_X7_told (G := G) (l := l) hr7) gX11_tellsThingsRising_X7_told rfl (by decide +kernel) ⟨(Nat.le_of_ble_eq_true rfl), (Nat.le_of_ble_eq_true rfl)⟩ g6 rfl rfl hl.1 rfl (Nat.le_of_ble_eq_true rfl) dX11_tellsThingsRising_20 ⟨(show cells + 0 ≤ 0 from by omega), (show slots + 0 ≤ 0 from by omega)⟩) (fun H locs hw => ?_)
        refine lv_istore_n (i := 3) (lv' := [(3, .int r7), (0, va_rf x0), (1, .int x1), (2, .int x2)]) hx hb dX11_tellsThingsRising_23 rfl hl (by decide) rfl (fun ls hl => ?_)
        refine lv_iload_n hx hb dX11_tellsThingsRising_24 rfl (lv_at hl 0 rfl) ?_
        refine lv_iload_n hx hb dX11_tellsThingsRising_25 rfl (lv_at hl 2 rfl) ?_
        refine lv_icmp_le (tgt := 40) hx hb dX11_tellsThingsRising_26 (by decide) (fun c8 => ?_) (fun c8 => ?_)
        · replace h := itt h c8
          refine lv_iconst (v := (0 : Int32)) hx hb dX11_tellsThingsRising_40 (by decide) ?_
          replace h := Option.some.inj h
          subst h
          exact RET (isZ.nar (Or.inl rfl)) hw ⟨(show cells + 0 ≤ 0 from by omega), (show slots + 0 ≤ 0 from by omega)⟩ dX11_tellsThingsRising_41
        · replace h := itf h c8
          refine lv_iload_n hx hb dX11_tellsThingsRising_29 rfl (lv_at hl 0 rfl) ?_
          refine m_aload_n (x := x0) hx hb dX11_tellsThingsRising_30 rfl (lv_at hl 1 rfl) ?_
          obtain ⟨v9, hv9, h⟩ := ob h
          refine m_getR hC hw (C := RX11) (T := TX11) (N := 11) hv9 ki_X11_tellsThingsRising_X11 rfl (by decide) k_X11_tellsThingsRising_26 (fun _ z => z) dX11_tellsThingsRising_31 ?_
          obtain ⟨g10, h⟩ := itg h
          obtain ⟨r11, hr11, h⟩ := ob h
          refine m_contI hC hw (m_runV hC hw (x := v9) (ci := 2) (N := 3) (C := RJx4a65c) (T := TJx4a65c) (n := 0) (av := []) (rest := [.int r7]) (c_Jx4a65c_size_8abf5 (G := G) (l := l) hr11) gX11_tellsThingsRising_Jx4a65c_size_8abf5 rfl (by decide +kernel) ⟨(Nat.le_of_ble_eq_true rfl), (Nat.le_of_ble_eq_true rfl)⟩ g10 rfl rfl hl.1 rfl (Nat.le_of_ble_eq_true rfl) dX11_tellsThingsRising_34 ⟨(show cells + 0 ≤ 0 from by omega), (show slots + 0 ≤ 0 from by omega)⟩) (fun H locs hw => ?_)
          refine lv_icmp_lt (tgt := 42) hx hb dX11_tellsThingsRising_37 (by decide) (fun c12 => ?_) (fun c12 => ?_)
          · replace h := itt h c12
            refine lv_iload_n hx hb dX11_tellsThingsRising_42 rfl (lv_at hl 0 rfl) ?_
            refine lv_istore_n (i := 1) (lv' := [(1, .int r7), (3, .int r7), (0, va_rf x0), (2, .int x2)]) hx hb dX11_tellsThingsRising_43 rfl hl (by decide) (by simp [va_rf_cat, cat_i, cat_l]) (fun ls hl => ?_)
            refine lv_iinc (v := (x2 + (1 : Int32))) (lv' := [(2, .int (x2 + (1 : Int32))), (1, .int r7), (3, .int r7), (0, va_rf x0)]) hx hb dX11_tellsThingsRising_44 hl (k := 3) rfl rfl (by decide) rfl (fun ls hl => ?_)
            refine lv_goto (tgt := 4) hx hb dX11_tellsThingsRising_47 (by decide) ?_
            exact ih _ _ _ _ _ _ _ h hcl hsl hw (lv_sub hl [3, 1, 0] rfl)
          · replace h := itf h c12
            refine lv_iconst (v := (0 : Int32)) hx hb dX11_tellsThingsRising_40 (by decide) ?_
            replace h := Option.some.inj h
            subst h
            exact RET (isZ.nar (Or.inl rfl)) hw ⟨(show cells + 0 ≤ 0 from by omega), (show slots + 0 ≤ 0 from by omega)⟩ dX11_tellsThingsRising_41
  unfold f_X11_tellsThingsRising at h
  refine lv_iconst (v := (-1 : Int32)) hx hb dX11_tellsThingsRising_0 (by decide) ?_
  refine lv_istore_n (i := 1) (lv' := [(1, .int (-1 : Int32)), (0, va_rf this)]) hx hb dX11_tellsThingsRising_1 rfl hl (by decide) (by simp [va_rf_cat, cat_i, cat_l]) (fun ls hl => ?_)
  refine lv_iconst (v := (2 : Int32)) hx hb dX11_tellsThingsRising_2 (by decide) ?_
  refine lv_istore_n (i := 2) (lv' := [(2, .int (2 : Int32)), (1, .int (-1 : Int32)), (0, va_rf this)]) hx hb dX11_tellsThingsRising_3 rfl hl (by decide) rfl (fun ls hl => ?_)
  exact L4 this _ _ _ _ _ _ _ _ h (Nat.zero_le _) (Nat.zero_le _) hw (lv_sub hl [2, 1, 0] rfl)

def f_X11_thingAt (M : Mem) (this : Option Nat) (a1 : Int32) : Option (Option Nat) := if a1 < 0 then (some (none)) else ((gR M this 14 2).bind fun v2 => if isO M v2 2 = true then ((f_Jx4a65c_size_8abf5 M v2).bind fun r4 => if r4 ≤ a1 then (some (none)) else ((gR M this 14 2).bind fun v6 => if isO M v6 2 = true then ((f_Jx4a65c_get_915e3 M v6 a1).bind fun r8 => if r8 = none ∨ isO M r8 13 = true then (some (r8)) else none) else none)) else none)
def rmX11_thingAt : Room := { frames := 3, cells := 0, slots := 0, locals := 64 }
theorem k_X11_thingAt_26 : Cond.fieldLink RX11 26 "LoanBook" "things" "Ljava/util/ArrayList;" ∈ wsX11_thingAt := List.mem_of_getElem? (i := 1) rfl
theorem ki_X11_thingAt_X11 : ∀ w ∈ u_ws RX11 TX11 11, w ∈ wsX11_thingAt := sub_r [26, 27, 28, 29, 30, 31, 32, 33, 34, 35, 36] (by decide +kernel)
theorem k_X11_thingAt_cc85 : Cond.classLink RX11 85 RX10 ∈ wsX11_thingAt := List.mem_of_getElem? (i := 2) rfl
set_option maxHeartbeats 4000000 in
set_option maxRecDepth 100000 in
theorem c_X11_thingAt {G : wG} {l : Launch} {M : Mem} {sz : Nat} {this : Option Nat} {a1 : Int32} {r : Option Nat} (h : f_X11_thingAt M this a1 = some r) : CtrQ G l yX11_thingAt wsX11_thingAt rmX11_thingAt [va_rf this, .int a1] M sz r M sz := by
  refine m_startQ (own := RX11) (cc := cX11_thingAt) (maxL := 2) (lv0 := [(0, va_rf this), (1, .int a1)]) (by decide) rfl rfl (by simp [lg_sl, va_rf_cat, cat_i, cat_r]) (by simp [lv_args, va_rf_cat, cat_i, cat_r]) (Or.inl ⟨_, rfl⟩) ?_
  intro p e s m args below meth c Q hC hname RET hsz hw ls hl
  have hx := hC.1
  have hb := hC.2.1
  unfold f_X11_thingAt at h
  refine lv_iload_n hx hb dX11_thingAt_0 rfl (lv_at hl 1 rfl) ?_
  refine lv_if_lt (tgt := 29) hx hb dX11_thingAt_1 (by decide) (fun c1 => ?_) (fun c1 => ?_)
  · replace h := itt h c1
    refine lv_null hx hb dX11_thingAt_29 ?_
    replace h := Option.some.inj h
    subst h
    exact RET hw ⟨(Nat.zero_le _), (Nat.zero_le _)⟩ dX11_thingAt_30
  · replace h := itf h c1
    refine lv_iload_n hx hb dX11_thingAt_4 rfl (lv_at hl 1 rfl) ?_
    refine m_aload_n (x := this) hx hb dX11_thingAt_5 rfl (lv_at hl 0 rfl) ?_
    obtain ⟨v2, hv2, h⟩ := ob h
    refine m_getR hC hw (C := RX11) (T := TX11) (N := 11) hv2 ki_X11_thingAt_X11 rfl (by decide) k_X11_thingAt_26 (fun _ z => z) dX11_thingAt_6 ?_
    obtain ⟨g3, h⟩ := itg h
    obtain ⟨r4, hr4, h⟩ := ob h
    refine m_contI hC hw (m_runV hC hw (x := v2) (ci := 2) (N := 3) (C := RJx4a65c) (T := TJx4a65c) (n := 0) (av := []) (rest := [.int a1]) (c_Jx4a65c_size_8abf5 (G := G) (l := l) hr4) gX11_thingAt_Jx4a65c_size_8abf5 rfl (by decide +kernel) ⟨(Nat.le_of_ble_eq_true rfl), (Nat.le_of_ble_eq_true rfl)⟩ g3 rfl rfl hl.1 rfl (Nat.le_of_ble_eq_true rfl) dX11_thingAt_9 ⟨(Nat.zero_le _), (Nat.zero_le _)⟩) (fun H locs hw => ?_)
    refine lv_icmp_ge (tgt := 29) hx hb dX11_thingAt_12 (by decide) (fun c5 => ?_) (fun c5 => ?_)
    · replace h := itt h c5
      refine lv_null hx hb dX11_thingAt_29 ?_
      replace h := Option.some.inj h
      subst h
      exact RET hw ⟨(Nat.zero_le _), (Nat.zero_le _)⟩ dX11_thingAt_30
    · replace h := itf h c5
      refine m_aload_n (x := this) hx hb dX11_thingAt_15 rfl (lv_at hl 0 rfl) ?_
      obtain ⟨v6, hv6, h⟩ := ob h
      refine m_getR hC hw (C := RX11) (T := TX11) (N := 11) hv6 ki_X11_thingAt_X11 rfl (by decide) k_X11_thingAt_26 (fun _ z => z) dX11_thingAt_16 ?_
      refine lv_iload_n hx hb dX11_thingAt_19 rfl (lv_at hl 1 rfl) ?_
      obtain ⟨g7, h⟩ := itg h
      obtain ⟨r8, hr8, h⟩ := ob h
      refine m_contQ hC hw (m_runV hC hw (x := v6) (ci := 2) (N := 3) (C := RJx4a65c) (T := TJx4a65c) (n := 1) (av := [.int a1]) (rest := []) (c_Jx4a65c_get_915e3 (G := G) (l := l) hr8) gX11_thingAt_Jx4a65c_get_915e3 rfl (by decide +kernel) ⟨(Nat.le_of_ble_eq_true rfl), (Nat.le_of_ble_eq_true rfl)⟩ g7 rfl rfl hl.1 rfl (Nat.le_of_ble_eq_true rfl) dX11_thingAt_20 ⟨(Nat.zero_le _), (Nat.zero_le _)⟩) (fun H locs hw => ?_)
      obtain ⟨g9, h⟩ := itg h
      refine m_cast (x := r8) hC hw (C := RX10) (T := TX10) (N := 9) g9 k_X11_thingAt_cc85 rfl dX11_thingAt_23 ?_
      refine lv_goto (tgt := 30) hx hb dX11_thingAt_26 (by decide) ?_
      replace h := Option.some.inj h
      subst h
      exact RET hw ⟨(Nat.zero_le _), (Nat.zero_le _)⟩ dX11_thingAt_30

def f_X11_faultInLoan_L67 (n : Nat) (M : Mem) (x0 : Option Nat) (x1 : Option Nat) (x2 : Int32) (x4 : Int32) : Nat → Int32 → Int32 → Option (Int32)
  | 0, _, _ => none
  | k + 1, x5, x6 => (gR M x0 14 1).bind fun v14 => if isO M v14 10 = true then ((f_X7_size M v14).bind fun r16 => if r16 ≤ x6 then (if x5 = 0 then (some ((0 : Int32))) else (some ((7 : Int32)))) else ((gR M x0 14 1).bind fun v19 => if isO M v19 10 = true then ((f_X7_told M v19 x6).bind fun r21 => if isO M x0 14 = true then ((f_X11_thingAt M x0 r21).bind fun r23 => if r23 = none then (if r23 = none then (f_X11_faultInLoan_L67 n M x0 x1 x2 x4 k x5 (x6 + (1 : Int32))) else ((gI M r23 13 2).bind fun v26 => (gI M x1 6 1).bind fun v27 => if v26 ≤ v27 then (f_X11_faultInLoan_L67 n M x0 x1 x2 x4 k x5 (x6 + (1 : Int32))) else (f_X11_faultInLoan_L67 n M x0 x1 x2 x4 k (1 : Int32) (x6 + (1 : Int32))))) else ((gR M r23 13 4).bind fun v29 => if isO M v29 4 = true then ((f_X1_isOpen n M v29 x2 x4).bind fun r31 => if r31 = 0 then (some ((6 : Int32))) else (if r23 = none then (f_X11_faultInLoan_L67 n M x0 x1 x2 x4 k x5 (x6 + (1 : Int32))) else ((gI M r23 13 2).bind fun v34 => (gI M x1 6 1).bind fun v35 => if v34 ≤ v35 then (f_X11_faultInLoan_L67 n M x0 x1 x2 x4 k x5 (x6 + (1 : Int32))) else (f_X11_faultInLoan_L67 n M x0 x1 x2 x4 k (1 : Int32) (x6 + (1 : Int32)))))) else none)) else none) else none)) else none
def f_X11_faultInLoan (n : Nat) (M : Mem) (this : Option Nat) (a1 : Option Nat) : Option (Int32) := (gR M this 14 1).bind fun v1 => if isO M v1 10 = true then ((f_X7_told M v1 (0 : Int32)).bind fun r3 => (gR M this 14 1).bind fun v4 => if isO M v4 10 = true then ((f_X7_told M v4 (1 : Int32)).bind fun r6 => (gI M a1 6 0).bind fun v7 => if r6 < (1 : Int32) then (some (5 : Int32)) else (if (300 : Int32) < r6 then (some (5 : Int32)) else (if (1000 : Int32) ≤ (((r3 + ((2 : Int32) * v7)) + r6) - (1 : Int32)) then (some (5 : Int32)) else (if isO M this 14 = true then ((f_X11_tellsThingsRising n M this).bind fun r12 => if r12 = 0 then (some (5 : Int32)) else (f_X11_faultInLoan_L67 n M this a1 r3 (((r3 + ((2 : Int32) * v7)) + r6) - (1 : Int32)) n (0 : Int32) (2 : Int32))) else none)))) else none) else none
def rmX11_faultInLoan : Room := { frames := 4, cells := 0, slots := 0, locals := 85 }
theorem k_X11_faultInLoan_19 : Cond.fieldLink RX11 19 "LoanBook" "reader" "LLoanBook$Reader;" ∈ wsX11_faultInLoan := List.mem_of_getElem? (i := 1) rfl
theorem ki_X11_faultInLoan_X11 : ∀ w ∈ u_ws RX11 TX11 11, w ∈ wsX11_faultInLoan := sub_r [59, 60, 61, 62, 63, 64, 65, 66, 67, 68, 69] (by decide +kernel)
theorem k_X11_faultInLoan_318 : Cond.fieldLink RX11 318 "LoanBook$House" "way" "I" ∈ wsX11_faultInLoan := List.mem_of_getElem? (i := 2) rfl
theorem ki_X11_faultInLoan_X3 : ∀ w ∈ u_ws RX3 TX3 5, w ∈ wsX11_faultInLoan := sub_r [70, 71, 72, 73, 74] (by decide +kernel)
theorem k_X11_faultInLoan_329 : Cond.fieldLink RX11 329 "LoanBook$Thing" "weighs" "I" ∈ wsX11_faultInLoan := List.mem_of_getElem? (i := 4) rfl
theorem ki_X11_faultInLoan_X10 : ∀ w ∈ u_ws RX10 TX10 9, w ∈ wsX11_faultInLoan := sub_r [75, 76, 77, 78, 79, 80, 81, 82, 83] (by decide +kernel)
theorem k_X11_faultInLoan_330 : Cond.fieldLink RX11 330 "LoanBook$House" "limit" "I" ∈ wsX11_faultInLoan := List.mem_of_getElem? (i := 5) rfl
theorem k_X11_faultInLoan_211 : Cond.fieldLink RX11 211 "LoanBook$Thing" "calendar" "LLoanBook$Calendar;" ∈ wsX11_faultInLoan := List.mem_of_getElem? (i := 3) rfl
set_option maxHeartbeats 4000000 in
set_option maxRecDepth 100000 in
theorem c_X11_faultInLoan {G : wG} {l : Launch} {n : Nat} {M : Mem} {sz : Nat} {this : Option Nat} {a1 : Option Nat} {r : Int32} (h : f_X11_faultInLoan n M this a1 = some r) : CtrI G l yX11_faultInLoan wsX11_faultInLoan rmX11_faultInLoan [va_rf this, va_rf a1] M sz r M sz := by
  refine m_startI (own := RX11) (cc := cX11_faultInLoan) (maxL := 8) (lv0 := [(0, va_rf this), (1, va_rf a1)]) (by decide) rfl rfl (by simp [lg_sl, va_rf_cat, cat_i, cat_r]) (by simp [lv_args, va_rf_cat, cat_i, cat_r]) ?_
  intro p e s m args below meth c Q hC hname RET hsz hw ls hl
  have hx := hC.1
  have hb := hC.2.1
  have L67 : ∀ (x0 : Option Nat) (x1 : Option Nat) (x2 : Int32) (x4 : Int32) (k : Nat) (x5 : Int32) (x6 : Int32) (cells slots : Nat) (H : Heap) (locs : List Loc) (ls : Array Slot), f_X11_faultInLoan_L67 n M x0 x1 x2 x4 k x5 x6 = some r → cells ≤ 0 → slots ≤ 0 → wD G s M M sz H locs → lv_has ls 8 [(0, va_rf x0), (1, va_rf x1), (2, .int x2), (4, .int x4), (5, .int x5), (6, .int x6)] → W p l e rmX11_faultInLoan s m args below meth c H locs cells slots Q (F0 m 67 ls []) := by
    intro x0 x1 x2 x4 k
    induction k with
    | zero =>
      intro x5 x6 cells slots H locs ls h
      exact absurd (show (none : Option (Int32)) = some r from h) (fun z => by cases z)
    | succ k ih =>
      intro x5 x6 cells slots H locs ls h hcl hsl hw hl
      rw [f_X11_faultInLoan_L67] at h
      refine lv_iload hx hb dX11_faultInLoan_67 (lv_at hl 5 rfl) ?_
      refine m_aload_n (x := x0) hx hb dX11_faultInLoan_69 rfl (lv_at hl 0 rfl) ?_
      obtain ⟨v14, hv14, h⟩ := ob h
      refine m_getR hC hw (C := RX11) (T := TX11) (N := 11) hv14 ki_X11_faultInLoan_X11 rfl (by decide) k_X11_faultInLoan_19 (fun _ z => z) dX11_faultInLoan_70 ?_
      obtain ⟨g15, h⟩ := itg h
      obtain ⟨r16, hr16, h⟩ := ob h
      refine m_contI hC hw (m_runV hC hw (x := v14) (ci := 10) (N := 5) (C := RX7) (T := TX7) (n := 0) (av := []) (rest := [.int x6]) (c_X7_size (G := G) (l := l) hr16) gX11_faultInLoan_X7_size rfl (by decide +kernel) ⟨(Nat.le_of_ble_eq_true rfl), (Nat.le_of_ble_eq_true rfl)⟩ g15 rfl rfl hl.1 rfl (Nat.le_of_ble_eq_true rfl) dX11_faultInLoan_73 ⟨(show cells + 0 ≤ 0 from by omega), (show slots + 0 ≤ 0 from by omega)⟩) (fun H locs hw => ?_)
      refine lv_icmp_ge (tgt := 142) hx hb dX11_faultInLoan_76 (by decide) (fun c17 => ?_) (fun c17 => ?_)
      · replace h := itt h c17
        refine lv_iload hx hb dX11_faultInLoan_142 (lv_at hl 4 rfl) ?_
        refine lv_if_eq (tgt := 152) hx hb dX11_faultInLoan_144 (by decide) (fun c18 => ?_) (fun c18 => ?_)
        · replace h := itt h c18
          refine lv_iconst (v := (0 : Int32)) hx hb dX11_faultInLoan_152 (by decide) ?_
          replace h := Option.some.inj h
          subst h
          exact RET hw ⟨(show cells + 0 ≤ 0 from by omega), (show slots + 0 ≤ 0 from by omega)⟩ dX11_faultInLoan_153
        · replace h := itf h c18
          refine lv_bipush (v := (7 : Int32)) hx hb dX11_faultInLoan_147 (by decide) ?_
          refine lv_goto (tgt := 153) hx hb dX11_faultInLoan_149 (by decide) ?_
          replace h := Option.some.inj h
          subst h
          exact RET hw ⟨(show cells + 0 ≤ 0 from by omega), (show slots + 0 ≤ 0 from by omega)⟩ dX11_faultInLoan_153
      · replace h := itf h c17
        refine m_aload_n (x := x0) hx hb dX11_faultInLoan_79 rfl (lv_at hl 0 rfl) ?_
        refine m_aload_n (x := x0) hx hb dX11_faultInLoan_80 rfl (lv_at hl 0 rfl) ?_
        obtain ⟨v19, hv19, h⟩ := ob h
        refine m_getR hC hw (C := RX11) (T := TX11) (N := 11) hv19 ki_X11_faultInLoan_X11 rfl (by decide) k_X11_faultInLoan_19 (fun _ z => z) dX11_faultInLoan_81 ?_
        refine lv_iload hx hb dX11_faultInLoan_84 (lv_at hl 5 rfl) ?_
        obtain ⟨g20, h⟩ := itg h
        obtain ⟨r21, hr21, h⟩ := ob h
        refine m_contI hC hw (m_runV hC hw (x := v19) (ci := 10) (N := 5) (C := RX7) (T := TX7) (n := 1) (av := [.int x6]) (rest := [va_rf x0]) (c_X7_told (G := G) (l := l) hr21) gX11_faultInLoan_X7_told rfl (by decide +kernel) ⟨(Nat.le_of_ble_eq_true rfl), (Nat.le_of_ble_eq_true rfl)⟩ g20 rfl rfl hl.1 rfl (by simp [va_rf_cat, cat_i, cat_r, cat_l]) dX11_faultInLoan_86 ⟨(show cells + 0 ≤ 0 from by omega), (show slots + 0 ≤ 0 from by omega)⟩) (fun H locs hw => ?_)
        obtain ⟨g22, h⟩ := itg h
        obtain ⟨r23, hr23, h⟩ := ob h
        refine m_contQ hC hw (m_runV hC hw (x := x0) (ci := 14) (N := 11) (C := RX11) (T := TX11) (n := 1) (av := [.int r21]) (rest := []) (c_X11_thingAt (G := G) (l := l) hr23) gX11_faultInLoan_X11_thingAt rfl (by decide +kernel) ⟨(Nat.le_of_ble_eq_true rfl), (Nat.le_of_ble_eq_true rfl)⟩ g22 rfl rfl hl.1 rfl (Nat.le_of_ble_eq_true rfl) dX11_faultInLoan_89 ⟨(show cells + 0 ≤ 0 from by omega), (show slots + 0 ≤ 0 from by omega)⟩) (fun H locs hw => ?_)
        refine m_astore (x := r23) (lv' := [(7, va_rf r23), (0, va_rf x0), (1, va_rf x1), (2, .int x2), (4, .int x4), (5, .int x5), (6, .int x6)]) hx hb dX11_faultInLoan_92 hl (by decide) rfl (fun ls hl => ?_)
        refine m_aload (x := r23) hx hb dX11_faultInLoan_94 (lv_at hl 0 rfl) ?_
        refine m_ifnull (x := r23) (tgt := 116) hx hb dX11_faultInLoan_96 (by decide) (fun c24 => ?_) (fun c24 => ?_)
        · replace h := itt h c24
          refine m_aload (x := r23) hx hb dX11_faultInLoan_116 (lv_at hl 0 rfl) ?_
          refine m_ifnull (x := r23) (tgt := 136) hx hb dX11_faultInLoan_118 (by decide) (fun c25 => ?_) (fun c25 => ?_)
          · replace h := itt h c25
            refine lv_iinc (v := (x6 + (1 : Int32))) (lv' := [(6, .int (x6 + (1 : Int32))), (7, va_rf r23), (0, va_rf x0), (1, va_rf x1), (2, .int x2), (4, .int x4), (5, .int x5)]) hx hb dX11_faultInLoan_136 hl (k := 6) rfl rfl (by decide) rfl (fun ls hl => ?_)
            refine lv_goto (tgt := 67) hx hb dX11_faultInLoan_139 (by decide) ?_
            exact ih _ _ _ _ _ _ _ h hcl hsl hw (lv_sub hl [2, 3, 4, 5, 6, 0] rfl)
          · replace h := itf h c25
            refine m_aload (x := r23) hx hb dX11_faultInLoan_121 (lv_at hl 0 rfl) ?_
            obtain ⟨v26, hv26, h⟩ := ob h
            refine m_getI hC hw (C := RX10) (T := TX10) (N := 9) hv26 ki_X11_faultInLoan_X10 rfl (by decide) k_X11_faultInLoan_329 (fun _ z => z) dX11_faultInLoan_123 ?_
            refine m_aload_n (x := x1) hx hb dX11_faultInLoan_126 rfl (lv_at hl 2 rfl) ?_
            obtain ⟨v27, hv27, h⟩ := ob h
            refine m_getI hC hw (C := RX3) (T := TX3) (N := 5) hv27 ki_X11_faultInLoan_X3 rfl (by decide) k_X11_faultInLoan_330 (fun _ z => z) dX11_faultInLoan_127 ?_
            refine lv_icmp_le (tgt := 136) hx hb dX11_faultInLoan_130 (by decide) (fun c28 => ?_) (fun c28 => ?_)
            · replace h := itt h c28
              refine lv_iinc (v := (x6 + (1 : Int32))) (lv' := [(6, .int (x6 + (1 : Int32))), (7, va_rf r23), (0, va_rf x0), (1, va_rf x1), (2, .int x2), (4, .int x4), (5, .int x5)]) hx hb dX11_faultInLoan_136 hl (k := 6) rfl rfl (by decide) rfl (fun ls hl => ?_)
              refine lv_goto (tgt := 67) hx hb dX11_faultInLoan_139 (by decide) ?_
              exact ih _ _ _ _ _ _ _ h hcl hsl hw (lv_sub hl [2, 3, 4, 5, 6, 0] rfl)
            · replace h := itf h c28
              refine lv_iconst (v := (1 : Int32)) hx hb dX11_faultInLoan_133 (by decide) ?_
              refine lv_istore (lv' := [(5, .int (1 : Int32)), (7, va_rf r23), (0, va_rf x0), (1, va_rf x1), (2, .int x2), (4, .int x4), (6, .int x6)]) hx hb dX11_faultInLoan_134 hl (by decide) rfl (fun ls hl => ?_)
              refine lv_iinc (v := (x6 + (1 : Int32))) (lv' := [(6, .int (x6 + (1 : Int32))), (5, .int (1 : Int32)), (7, va_rf r23), (0, va_rf x0), (1, va_rf x1), (2, .int x2), (4, .int x4)]) hx hb dX11_faultInLoan_136 hl (k := 6) rfl rfl (by decide) rfl (fun ls hl => ?_)
              refine lv_goto (tgt := 67) hx hb dX11_faultInLoan_139 (by decide) ?_
              exact ih _ _ _ _ _ _ _ h hcl hsl hw (lv_sub hl [3, 4, 5, 6, 1, 0] rfl)
        · replace h := itf h c24
          refine m_aload (x := r23) hx hb dX11_faultInLoan_99 (lv_at hl 0 rfl) ?_
          obtain ⟨v29, hv29, h⟩ := ob h
          refine m_getR hC hw (C := RX10) (T := TX10) (N := 9) hv29 ki_X11_faultInLoan_X10 rfl (by decide) k_X11_faultInLoan_211 (fun _ z => z) dX11_faultInLoan_101 ?_
          refine lv_iload_n hx hb dX11_faultInLoan_104 rfl (lv_at hl 3 rfl) ?_
          refine lv_iload hx hb dX11_faultInLoan_105 (lv_at hl 4 rfl) ?_
          obtain ⟨g30, h⟩ := itg h
          obtain ⟨r31, hr31, h⟩ := ob h
          refine m_contI hC hw (m_runV hC hw (x := v29) (ci := 4) (N := 2) (C := RX1) (T := TX1) (n := 2) (av := [.int x2, .int x4]) (rest := []) (c_X1_isOpen (G := G) (l := l) hr31) gX11_faultInLoan_X1_isOpen rfl (by decide +kernel) ⟨(Nat.le_of_ble_eq_true rfl), (Nat.le_of_ble_eq_true rfl)⟩ g30 rfl rfl hl.1 rfl (Nat.le_of_ble_eq_true rfl) dX11_faultInLoan_107 ⟨(show cells + 0 ≤ 0 from by omega), (show slots + 0 ≤ 0 from by omega)⟩) (fun H locs hw => ?_)
          refine lv_if_ne (tgt := 116) hx hb dX11_faultInLoan_110 (by decide) (fun c32 => ?_) (fun c32 => ?_)
          · replace h := itf h c32
            refine m_aload (x := r23) hx hb dX11_faultInLoan_116 (lv_at hl 0 rfl) ?_
            refine m_ifnull (x := r23) (tgt := 136) hx hb dX11_faultInLoan_118 (by decide) (fun c33 => ?_) (fun c33 => ?_)
            · replace h := itt h c33
              refine lv_iinc (v := (x6 + (1 : Int32))) (lv' := [(6, .int (x6 + (1 : Int32))), (7, va_rf r23), (0, va_rf x0), (1, va_rf x1), (2, .int x2), (4, .int x4), (5, .int x5)]) hx hb dX11_faultInLoan_136 hl (k := 6) rfl rfl (by decide) rfl (fun ls hl => ?_)
              refine lv_goto (tgt := 67) hx hb dX11_faultInLoan_139 (by decide) ?_
              exact ih _ _ _ _ _ _ _ h hcl hsl hw (lv_sub hl [2, 3, 4, 5, 6, 0] rfl)
            · replace h := itf h c33
              refine m_aload (x := r23) hx hb dX11_faultInLoan_121 (lv_at hl 0 rfl) ?_
              obtain ⟨v34, hv34, h⟩ := ob h
              refine m_getI hC hw (C := RX10) (T := TX10) (N := 9) hv34 ki_X11_faultInLoan_X10 rfl (by decide) k_X11_faultInLoan_329 (fun _ z => z) dX11_faultInLoan_123 ?_
              refine m_aload_n (x := x1) hx hb dX11_faultInLoan_126 rfl (lv_at hl 2 rfl) ?_
              obtain ⟨v35, hv35, h⟩ := ob h
              refine m_getI hC hw (C := RX3) (T := TX3) (N := 5) hv35 ki_X11_faultInLoan_X3 rfl (by decide) k_X11_faultInLoan_330 (fun _ z => z) dX11_faultInLoan_127 ?_
              refine lv_icmp_le (tgt := 136) hx hb dX11_faultInLoan_130 (by decide) (fun c36 => ?_) (fun c36 => ?_)
              · replace h := itt h c36
                refine lv_iinc (v := (x6 + (1 : Int32))) (lv' := [(6, .int (x6 + (1 : Int32))), (7, va_rf r23), (0, va_rf x0), (1, va_rf x1), (2, .int x2), (4, .int x4), (5, .int x5)]) hx hb dX11_faultInLoan_136 hl (k := 6) rfl rfl (by decide) rfl (fun ls hl => ?_)
                refine lv_goto (tgt := 67) hx hb dX11_faultInLoan_139 (by decide) ?_
                exact ih _ _ _ _ _ _ _ h hcl hsl hw (lv_sub hl [2, 3, 4, 5, 6, 0] rfl)
              · replace h := itf h c36
                refine lv_iconst (v := (1 : Int32)) hx hb dX11_faultInLoan_133 (by decide) ?_
                refine lv_istore (lv' := [(5, .int (1 : Int32)), (7, va_rf r23), (0, va_rf x0), (1, va_rf x1), (2, .int x2), (4, .int x4), (6, .int x6)]) hx hb dX11_faultInLoan_134 hl (by decide) rfl (fun ls hl => ?_)
                refine lv_iinc (v := (x6 + (1 : Int32))) (lv' := [(6, .int (x6 + (1 : Int32))), (5, .int (1 : Int32)), (7, va_rf r23), (0, va_rf x0), (1, va_rf x1), (2, .int x2), (4, .int x4)]) hx hb dX11_faultInLoan_136 hl (k := 6) rfl rfl (by decide) rfl (fun ls hl => ?_)
                refine lv_goto (tgt := 67) hx hb dX11_faultInLoan_139 (by decide) ?_
                exact ih _ _ _ _ _ _ _ h hcl hsl hw (lv_sub hl [3, 4, 5, 6, 1, 0] rfl)
          · replace h := itt h c32
            refine lv_bipush (v := (6 : Int32)) hx hb dX11_faultInLoan_113 (by decide) ?_
            replace h := Option.some.inj h
            subst h
            exact RET hw ⟨(show cells + 0 ≤ 0 from by omega), (show slots + 0 ≤ 0 from by omega)⟩ dX11_faultInLoan_115
  unfold f_X11_faultInLoan at h
  refine m_aload_n (x := this) hx hb dX11_faultInLoan_0 rfl (lv_at hl 0 rfl) ?_
  obtain ⟨v1, hv1, h⟩ := ob h
  refine m_getR hC hw (C := RX11) (T := TX11) (N := 11) hv1 ki_X11_faultInLoan_X11 rfl (by decide) k_X11_faultInLoan_19 (fun _ z => z) dX11_faultInLoan_1 ?_
  refine lv_iconst (v := (0 : Int32)) hx hb dX11_faultInLoan_4 (by decide) ?_
  obtain ⟨g2, h⟩ := itg h
  obtain ⟨r3, hr3, h⟩ := ob h
  refine m_contI hC hw (m_runV hC hw (x := v1) (ci := 10) (N := 5) (C := RX7) (T := TX7) (n := 1) (av := [.int (0 : Int32)]) (rest := []) (c_X7_told (G := G) (l := l) hr3) gX11_faultInLoan_X7_told rfl (by decide +kernel) ⟨(Nat.le_of_ble_eq_true rfl), (Nat.le_of_ble_eq_true rfl)⟩ g2 rfl rfl hl.1 rfl (Nat.le_of_ble_eq_true rfl) dX11_faultInLoan_5 ⟨(Nat.zero_le _), (Nat.zero_le _)⟩) (fun H locs hw => ?_)
  refine lv_istore_n (i := 2) (lv' := [(2, .int r3), (0, va_rf this), (1, va_rf a1)]) hx hb dX11_faultInLoan_8 rfl hl (by decide) (by simp [va_rf_cat, cat_i, cat_l]) (fun ls hl => ?_)
  refine m_aload_n (x := this) hx hb dX11_faultInLoan_9 rfl (lv_at hl 1 rfl) ?_
  obtain ⟨v4, hv4, h⟩ := ob h
  refine m_getR hC hw (C := RX11) (T := TX11) (N := 11) hv4 ki_X11_faultInLoan_X11 rfl (by decide) k_X11_faultInLoan_19 (fun _ z => z) dX11_faultInLoan_10 ?_
  refine lv_iconst (v := (1 : Int32)) hx hb dX11_faultInLoan_13 (by decide) ?_
  obtain ⟨g5, h⟩ := itg h
  obtain ⟨r6, hr6, h⟩ := ob h
  refine m_contI hC hw (m_runV hC hw (x := v4) (ci := 10) (N := 5) (C := RX7) (T := TX7) (n := 1) (av := [.int (1 : Int32)]) (rest := []) (c_X7_told (G := G) (l := l) hr6) gX11_faultInLoan_X7_told rfl (by decide +kernel) ⟨(Nat.le_of_ble_eq_true rfl), (Nat.le_of_ble_eq_true rfl)⟩ g5 rfl rfl hl.1 rfl (Nat.le_of_ble_eq_true rfl) dX11_faultInLoan_14 ⟨(Nat.zero_le _), (Nat.zero_le _)⟩) (fun H locs hw => ?_)
  refine lv_istore_n (i := 3) (lv' := [(3, .int r6), (2, .int r3), (0, va_rf this), (1, va_rf a1)]) hx hb dX11_faultInLoan_17 rfl hl (by decide) rfl (fun ls hl => ?_)
  refine lv_iload_n hx hb dX11_faultInLoan_18 rfl (lv_at hl 1 rfl) ?_
  refine lv_iconst (v := (2 : Int32)) hx hb dX11_faultInLoan_19 (by decide) ?_
  refine m_aload_n (x := a1) hx hb dX11_faultInLoan_20 rfl (lv_at hl 3 rfl) ?_
  obtain ⟨v7, hv7, h⟩ := ob h
  refine m_getI hC hw (C := RX3) (T := TX3) (N := 5) hv7 ki_X11_faultInLoan_X3 rfl (by decide) k_X11_faultInLoan_318 (fun _ z => z) dX11_faultInLoan_21 ?_
  refine lv_imul hx hb dX11_faultInLoan_24 ?_
  refine lv_iadd hx hb dX11_faultInLoan_25 ?_
  refine lv_iload_n hx hb dX11_faultInLoan_26 rfl (lv_at hl 0 rfl) ?_
  refine lv_iadd hx hb dX11_faultInLoan_27 ?_
  refine lv_iconst (v := (1 : Int32)) hx hb dX11_faultInLoan_28 (by decide) ?_
  refine lv_isub hx hb dX11_faultInLoan_29 ?_
  refine lv_istore (lv' := [(4, .int (((r3 + ((2 : Int32) * v7)) + r6) - (1 : Int32))), (3, .int r6), (2, .int r3), (0, va_rf this), (1, va_rf a1)]) hx hb dX11_faultInLoan_30 hl (by decide) rfl (fun ls hl => ?_)
  refine lv_iload_n hx hb dX11_faultInLoan_32 rfl (lv_at hl 1 rfl) ?_
  refine lv_iconst (v := (1 : Int32)) hx hb dX11_faultInLoan_33 (by decide) ?_
  refine lv_icmp_lt (tgt := 59) hx hb dX11_faultInLoan_34 (by decide) (fun c8 => ?_) (fun c8 => ?_)
  · replace h := itt h c8
    refine lv_iconst (v := (5 : Int32)) hx hb dX11_faultInLoan_59 (by decide) ?_
    replace h := Option.some.inj h
    subst h
    exact RET hw ⟨(Nat.zero_le _), (Nat.zero_le _)⟩ dX11_faultInLoan_60
  · replace h := itf h c8
    refine lv_iload_n hx hb dX11_faultInLoan_37 rfl (lv_at hl 1 rfl) ?_
    refine lv_sipush (v := (300 : Int32)) hx hb dX11_faultInLoan_38 (by decide) ?_
    refine lv_icmp_gt (tgt := 59) hx hb dX11_faultInLoan_41 (by decide) (fun c9 => ?_) (fun c9 => ?_)
    · replace h := itt h c9
      refine lv_iconst (v := (5 : Int32)) hx hb dX11_faultInLoan_59 (by decide) ?_
      replace h := Option.some.inj h
      subst h
      exact RET hw ⟨(Nat.zero_le _), (Nat.zero_le _)⟩ dX11_faultInLoan_60
    · replace h := itf h c9
      refine lv_iload hx hb dX11_faultInLoan_44 (lv_at hl 0 rfl) ?_
      refine lv_sipush (v := (1000 : Int32)) hx hb dX11_faultInLoan_46 (by decide) ?_
      refine lv_icmp_ge (tgt := 59) hx hb dX11_faultInLoan_49 (by decide) (fun c10 => ?_) (fun c10 => ?_)
      · replace h := itt h c10
        refine lv_iconst (v := (5 : Int32)) hx hb dX11_faultInLoan_59 (by decide) ?_
        replace h := Option.some.inj h
        subst h
        exact RET hw ⟨(Nat.zero_le _), (Nat.zero_le _)⟩ dX11_faultInLoan_60
      · replace h := itf h c10
        refine m_aload_n (x := this) hx hb dX11_faultInLoan_52 rfl (lv_at hl 3 rfl) ?_
        obtain ⟨g11, h⟩ := itg h
        obtain ⟨r12, hr12, h⟩ := ob h
        refine m_contI hC hw (m_runV hC hw (x := this) (ci := 14) (N := 11) (C := RX11) (T := TX11) (n := 0) (av := []) (rest := []) (c_X11_tellsThingsRising (G := G) (l := l) hr12) gX11_faultInLoan_X11_tellsThingsRising rfl (by decide +kernel) ⟨(Nat.le_of_ble_eq_true rfl), (Nat.le_of_ble_eq_true rfl)⟩ g11 rfl rfl hl.1 rfl (Nat.le_of_ble_eq_true rfl) dX11_faultInLoan_53 ⟨(Nat.zero_le _), (Nat.zero_le _)⟩) (fun H locs hw => ?_)
        refine lv_if_ne (tgt := 61) hx hb dX11_faultInLoan_56 (by decide) (fun c13 => ?_) (fun c13 => ?_)
        · replace h := itf h c13
          refine lv_iconst (v := (0 : Int32)) hx hb dX11_faultInLoan_61 (by decide) ?_
          refine lv_istore (lv' := [(5, .int (0 : Int32)), (4, .int (((r3 + ((2 : Int32) * v7)) + r6) - (1 : Int32))), (3, .int r6), (2, .int r3), (0, va_rf this), (1, va_rf a1)]) hx hb dX11_faultInLoan_62 hl (by decide) rfl (fun ls hl => ?_)
          refine lv_iconst (v := (2 : Int32)) hx hb dX11_faultInLoan_64 (by decide) ?_
          refine lv_istore (lv' := [(6, .int (2 : Int32)), (5, .int (0 : Int32)), (4, .int (((r3 + ((2 : Int32) * v7)) + r6) - (1 : Int32))), (3, .int r6), (2, .int r3), (0, va_rf this), (1, va_rf a1)]) hx hb dX11_faultInLoan_65 hl (by decide) rfl (fun ls hl => ?_)
          exact L67 this a1 r3 (((r3 + ((2 : Int32) * v7)) + r6) - (1 : Int32)) _ _ _ _ _ _ _ _ h (Nat.zero_le _) (Nat.zero_le _) hw (lv_sub hl [5, 6, 4, 2, 1, 0] rfl)
        · replace h := itt h c13
          refine lv_iconst (v := (5 : Int32)) hx hb dX11_faultInLoan_59 (by decide) ?_
          replace h := Option.some.inj h
          subst h
          exact RET hw ⟨(Nat.zero_le _), (Nat.zero_le _)⟩ dX11_faultInLoan_60

def f_X11_addByWeight_L2 (B : Nat) (S : Nat → Nat) (n : Nat) (x0 : Option Nat) (x1 : Option Nat) : Nat → Mem → Nat → Int32 → Option (Mem × Nat)
  | 0, _, _, _ => none
  | k + 1, Mz, zz, x2 => if isO Mz x0 2 = true then ((f_Jx4a65c_size_8abf5 Mz x0).bind fun r2 => if r2 ≤ x2 then (if isO Mz x0 2 = true then ((f_Jx4a65c_add_7a177 B S Mz zz x0 x2 x1).bind fun r5 => some ((r5.1, r5.2))) else none) else (if isO Mz x0 2 = true then ((f_Jx4a65c_get_915e3 Mz x0 x2).bind fun r7 => if r7 = none ∨ isO Mz r7 13 = true then ((gI Mz r7 13 2).bind fun v9 => (gI Mz x1 13 2).bind fun v10 => if v9 < v10 then (if isO Mz x0 2 = true then ((f_Jx4a65c_add_7a177 B S Mz zz x0 x2 x1).bind fun r13 => some ((r13.1, r13.2))) else none) else (f_X11_addByWeight_L2 B S n x0 x1 k Mz zz (x2 + (1 : Int32)))) else none) else none)) else none
def f_X11_addByWeight (B : Nat) (S : Nat → Nat) (n : Nat) (M : Mem) (sz : Nat) (a1 : Option Nat) (a2 : Option Nat) : Option (Mem × Nat) := f_X11_addByWeight_L2 B S n a1 a2 130 M sz (0 : Int32)
def rmX11_addByWeight : Room := { frames := 6, cells := 1, slots := 80, locals := 171 }
theorem k_X11_addByWeight_cc85 : Cond.classLink RX11 85 RX10 ∈ wsX11_addByWeight := List.mem_of_getElem? (i := 1) rfl
theorem k_X11_addByWeight_329 : Cond.fieldLink RX11 329 "LoanBook$Thing" "weighs" "I" ∈ wsX11_addByWeight := List.mem_of_getElem? (i := 2) rfl
theorem ki_X11_addByWeight_X10 : ∀ w ∈ u_ws RX10 TX10 9, w ∈ wsX11_addByWeight := sub_r [80, 81, 82, 83, 84, 85, 86, 87, 88] (by decide +kernel)
set_option maxHeartbeats 4000000 in
set_option maxRecDepth 100000 in
theorem c_X11_addByWeight {G : wG} {l : Launch} {n : Nat} {M : Mem} {sz : Nat} {a1 : Option Nat} {a2 : Option Nat} {r : Mem × Nat} (h : f_X11_addByWeight G.2.2.1 G.2.2.2 n M sz a1 a2 = some r) : CtrV G l yX11_addByWeight wsX11_addByWeight rmX11_addByWeight [va_rf a1, va_rf a2] M sz r.1 r.2 := by
  refine m_startV (own := RX11) (cc := cX11_addByWeight) (maxL := 3) (lv0 := [(0, va_rf a1), (1, va_rf a2)]) (by decide) rfl rfl (by simp [lg_sl, va_rf_cat, cat_i, cat_r]) (by simp [lv_args, va_rf_cat, cat_i, cat_r]) ?_
  intro p e s m args below meth c Q hC hname RET hsz hw ls hl
  have hx := hC.1
  have hb := hC.2.1
  have L2 : ∀ (x0 : Option Nat) (x1 : Option Nat) (k : Nat) (Mz : Mem) (zz : Nat) (x2 : Int32) (cells slots : Nat) (CF SF : Nat) (H : Heap) (locs : List Loc) (ls : Array Slot), f_X11_addByWeight_L2 G.2.2.1 G.2.2.2 n x0 x1 k Mz zz x2 = some r → cells + k * 0 ≤ CF → slots + k * 0 ≤ SF → CF + 1 ≤ 1 → SF + 80 ≤ 80 → wD G s M Mz zz H locs → lv_has ls 3 [(0, va_rf x0), (1, va_rf x1), (2, .int x2)] → W p l e rmX11_addByWeight s m args below meth c H locs cells slots Q (F0 m 2 ls []) := by
    intro x0 x1 k
    induction k with
    | zero =>
      intro Mz zz x2 cells slots CF SF H locs ls h
      exact absurd (show (none : Option (Mem × Nat)) = some r from h) (fun z => by cases z)
    | succ k ih =>
      intro Mz zz x2 cells slots CF SF H locs ls h hcl hsl hCF hSF hw hl
      rw [f_X11_addByWeight_L2] at h
      refine lv_iload_n hx hb dX11_addByWeight_2 rfl (lv_at hl 2 rfl) ?_
      refine m_aload_n (x := x0) hx hb dX11_addByWeight_3 rfl (lv_at hl 0 rfl) ?_
      obtain ⟨g1, h⟩ := itg h
      obtain ⟨r2, hr2, h⟩ := ob h
      refine m_contI hC hw (m_runV hC hw (x := x0) (ci := 2) (N := 3) (C := RJx4a65c) (T := TJx4a65c) (n := 0) (av := []) (rest := [.int x2]) (c_Jx4a65c_size_8abf5 (G := G) (l := l) hr2) gX11_addByWeight_Jx4a65c_size_8abf5 rfl (by decide +kernel) ⟨(Nat.le_of_ble_eq_true rfl), (Nat.le_of_ble_eq_true rfl)⟩ g1 rfl rfl hl.1 rfl (Nat.le_of_ble_eq_true rfl) dX11_addByWeight_4 ⟨(show cells + 0 ≤ 1 from by omega), (show slots + 0 ≤ 80 from by omega)⟩) (fun H locs hw => ?_)
      refine lv_icmp_ge (tgt := 34) hx hb dX11_addByWeight_7 (by decide) (fun c3 => ?_) (fun c3 => ?_)
      · replace h := itt h c3
        refine m_aload_n (x := x0) hx hb dX11_addByWeight_34 rfl (lv_at hl 0 rfl) ?_
        refine lv_iload_n hx hb dX11_addByWeight_35 rfl (lv_at hl 2 rfl) ?_
        refine m_aload_n (x := x1) hx hb dX11_addByWeight_36 rfl (lv_at hl 1 rfl) ?_
        obtain ⟨g4, h⟩ := itg h
        obtain ⟨r5, hr5, h⟩ := ob h
        refine m_contV hC hw (m_runV hC hw (x := x0) (ci := 2) (N := 3) (C := RJx4a65c) (T := TJx4a65c) (n := 2) (av := [.int x2, va_rf x1]) (rest := []) (c_Jx4a65c_add_7a177 (G := G) (l := l) hr5) gX11_addByWeight_Jx4a65c_add_7a177 rfl (by decide +kernel) ⟨(Nat.le_of_ble_eq_true rfl), (Nat.le_of_ble_eq_true rfl)⟩ g4 rfl rfl hl.1 rfl (Nat.le_of_ble_eq_true rfl) dX11_addByWeight_37 ⟨(show cells + 1 ≤ 1 from by omega), (show slots + 80 ≤ 80 from by omega)⟩) (fun H locs hw => ?_)
        replace h := Option.some.inj h
        subst h
        exact RET hw ⟨(show cells + 1 ≤ 1 from by omega), (show slots + 80 ≤ 80 from by omega)⟩ dX11_addByWeight_40
      · replace h := itf h c3
        refine m_aload_n (x := x0) hx hb dX11_addByWeight_10 rfl (lv_at hl 0 rfl) ?_
        refine lv_iload_n hx hb dX11_addByWeight_11 rfl (lv_at hl 2 rfl) ?_
        obtain ⟨g6, h⟩ := itg h
        obtain ⟨r7, hr7, h⟩ := ob h
        refine m_contQ hC hw (m_runV hC hw (x := x0) (ci := 2) (N := 3) (C := RJx4a65c) (T := TJx4a65c) (n := 1) (av := [.int x2]) (rest := []) (c_Jx4a65c_get_915e3 (G := G) (l := l) hr7) gX11_addByWeight_Jx4a65c_get_915e3 rfl (by decide +kernel) ⟨(Nat.le_of_ble_eq_true rfl), (Nat.le_of_ble_eq_true rfl)⟩ g6 rfl rfl hl.1 rfl (Nat.le_of_ble_eq_true rfl) dX11_addByWeight_12 ⟨(show cells + 0 ≤ 1 from by omega), (show slots + 0 ≤ 80 from by omega)⟩) (fun H locs hw => ?_)
        obtain ⟨g8, h⟩ := itg h
        refine m_cast (x := r7) hC hw (C := RX10) (T := TX10) (N := 9) g8 k_X11_addByWeight_cc85 rfl dX11_addByWeight_15 ?_
        obtain ⟨v9, hv9, h⟩ := ob h
        refine m_getI hC hw (C := RX10) (T := TX10) (N := 9) hv9 ki_X11_addByWeight_X10 rfl (by decide) k_X11_addByWeight_329 (fun _ z => z) dX11_addByWeight_18 ?_
        refine m_aload_n (x := x1) hx hb dX11_addByWeight_21 rfl (lv_at hl 1 rfl) ?_
        obtain ⟨v10, hv10, h⟩ := ob h
        refine m_getI hC hw (C := RX10) (T := TX10) (N := 9) hv10 ki_X11_addByWeight_X10 rfl (by decide) k_X11_addByWeight_329 (fun _ z => z) dX11_addByWeight_22 ?_
        refine lv_icmp_lt (tgt := 34) hx hb dX11_addByWeight_25 (by decide) (fun c11 => ?_) (fun c11 => ?_)
        · replace h := itt h c11
          refine m_aload_n (x := x0) hx hb dX11_addByWeight_34 rfl (lv_at hl 0 rfl) ?_
          refine lv_iload_n hx hb dX11_addByWeight_35 rfl (lv_at hl 2 rfl) ?_
          refine m_aload_n (x := x1) hx hb dX11_addByWeight_36 rfl (lv_at hl 1 rfl) ?_
          obtain ⟨g12, h⟩ := itg h
          obtain ⟨r13, hr13, h⟩ := ob h
          refine m_contV hC hw (m_runV hC hw (x := x0) (ci := 2) (N := 3) (C := RJx4a65c) (T := TJx4a65c) (n := 2) (av := [.int x2, va_rf x1]) (rest := []) (c_Jx4a65c_add_7a177 (G := G) (l := l) hr13) gX11_addByWeight_Jx4a65c_add_7a177 rfl (by decide +kernel) ⟨(Nat.le_of_ble_eq_true rfl), (Nat.le_of_ble_eq_true rfl)⟩ g12 rfl rfl hl.1 rfl (Nat.le_of_ble_eq_true rfl) dX11_addByWeight_37 ⟨(show cells + 1 ≤ 1 from by omega), (show slots + 80 ≤ 80 from by omega)⟩) (fun H locs hw => ?_)
          replace h := Option.some.inj h
          subst h
          exact RET hw ⟨(show cells + 1 ≤ 1 from by omega), (show slots + 80 ≤ 80 from by omega)⟩ dX11_addByWeight_40
        · replace h := itf h c11
          refine lv_iinc (v := (x2 + (1 : Int32))) (lv' := [(2, .int (x2 + (1 : Int32))), (0, va_rf x0), (1, va_rf x1)]) hx hb dX11_addByWeight_28 hl (k := 2) rfl rfl (by decide) (by simp [va_rf_cat, cat_i, cat_l]) (fun ls hl => ?_)
          refine lv_goto (tgt := 2) hx hb dX11_addByWeight_31 (by decide) ?_
          refine W.widen (k := cells + 0) (n := slots + 0) (show cells + 0 ≤ cells + 0 by omega) (show slots + 0 ≤ slots + 0 by omega) ?_
          exact ih _ _ _ _ _ CF SF _ _ _ h (by omega) (by omega) hCF hSF hw (lv_sub hl [1, 2, 0] rfl)
  unfold f_X11_addByWeight at h
  refine lv_iconst (v := (0 : Int32)) hx hb dX11_addByWeight_0 (by decide) ?_
  refine lv_istore_n (i := 2) (lv' := [(2, .int (0 : Int32)), (0, va_rf a1), (1, va_rf a2)]) hx hb dX11_addByWeight_1 rfl hl (by decide) (by simp [va_rf_cat, cat_i, cat_l]) (fun ls hl => ?_)
  exact L2 a1 a2 _ _ _ _ _ _ 0 0 _ _ _ h (by decide) (by decide) (Nat.le_of_ble_eq_true rfl) (Nat.le_of_ble_eq_true rfl) hw (lv_sub hl [1, 2, 0] rfl)

def f_X11_draftLoan_L36 (B : Nat) (S : Nat → Nat) (n : Nat) (x0 : Option Nat) (x2 : Option Nat) (x3 : Option Nat) : Nat → Mem → Nat → Int32 → Option (Mem × Nat)
  | 0, _, _, _ => none
  | k + 1, Mz, zz, x4 => (gR Mz x0 14 1).bind fun v11 => if isO Mz v11 10 = true then ((f_X7_size Mz v11).bind fun r13 => if r13 ≤ x4 then (some ((Mz, zz))) else ((gR Mz x0 14 1).bind fun v15 => if isO Mz v15 10 = true then ((f_X7_told Mz v15 x4).bind fun r17 => if isO Mz x0 14 = true then ((f_X11_thingAt Mz x0 r17).bind fun r19 => if r19 = none then (f_X11_draftLoan_L36 B S n x0 x2 x3 k Mz zz (x4 + (1 : Int32))) else ((f_X11_addByWeight B S n Mz zz x3 r19).bind fun r21 => f_X11_draftLoan_L36 B S n x0 x2 x3 k r21.1 r21.2 (x4 + (1 : Int32)))) else none) else none)) else none
def f_X11_draftLoan_L83 (B : Nat) (S : Nat → Nat) (n : Nat) (x2 : Option Nat) (x3 : Option Nat) : Nat → Mem → Nat → Int32 → Option (Option Nat × Mem × Nat)
  | 0, _, _, _ => none
  | k + 1, Mz, zz, x4 => if isO Mz x3 2 = true then ((f_Jx4a65c_size_8abf5 Mz x3).bind fun r24 => if r24 ≤ x4 then (some ((x2, Mz, zz))) else (if isO Mz x3 2 = true then ((f_Jx4a65c_get_915e3 Mz x3 x4).bind fun r27 => if r27 = none ∨ isO Mz r27 13 = true then (if isO Mz x2 7 = true then ((f_X4_pack B S n Mz zz x2 r27).bind fun r30 => f_X11_draftLoan_L83 B S n x2 x3 k r30.1 r30.2 (x4 + (1 : Int32))) else none) else none) else none)) else none
def f_X11_draftLoan (B : Nat) (S : Nat → Nat) (n : Nat) (M : Mem) (sz : Nat) (this : Option Nat) (a1 : Option Nat) : Option (Option Nat × Mem × Nat) := (some (va_up M sz (some (.inl (7, [.null, .int 0, .null, .int 0, .int 0]))))).bind fun M1 => (gR M1 this 14 1).bind fun v2 => if isO M1 v2 10 = true then ((f_X7_told M1 v2 (0 : Int32)).bind fun r4 => (gR M1 this 14 1).bind fun v5 => if isO M1 v5 10 = true then ((f_X7_told M1 v5 (1 : Int32)).bind fun r7 => (f_X4_init B S M1 (sz + 1) (some sz) a1 r4 r7).bind fun r8 => (some (va_up r8.1 r8.2 (some (.inl (2, [.int 0, .null, .int 0]))))).bind fun M9 => (f_Jx4a65c_init_da8c8 B S M9 (some r8.2)).bind fun r10 => (f_X11_draftLoan_L36 B S n this (some sz) (some r8.2) 18 r10 (r8.2 + 1) (2 : Int32)).bind fun o22 => f_X11_draftLoan_L83 B S n (some sz) (some r8.2) 18 o22.1 o22.2 (0 : Int32)) else none) else none
def rmX11_draftLoan : Room := { frames := 9, cells := 93, slots := 4457, locals := 234 }
theorem k_X11_draftLoan_n194 : Cond.classLink RX11 194 RX4 ∈ wsX11_draftLoan := List.mem_of_getElem? (i := 1) rfl
theorem k_X11_draftLoan_ni194 : Cond.instantiable RX4 5 ∈ wsX11_draftLoan := List.mem_of_getElem? (i := 2) rfl
theorem k_X11_draftLoan_nj194 : Cond.initialized RX4 ∈ wsX11_draftLoan := List.mem_of_getElem? (i := 3) rfl
theorem ki_X11_draftLoan_X4 : ∀ w ∈ u_ws RX4 TX4 5, w ∈ wsX11_draftLoan := sub_r [183, 184, 185, 186, 187] (by decide +kernel)
theorem k_X11_draftLoan_19 : Cond.fieldLink RX11 19 "LoanBook" "reader" "LLoanBook$Reader;" ∈ wsX11_draftLoan := List.mem_of_getElem? (i := 4) rfl
theorem ki_X11_draftLoan_X11 : ∀ w ∈ u_ws RX11 TX11 11, w ∈ wsX11_draftLoan := sub_r [188, 189, 190, 191, 192, 193, 194, 195, 196, 197, 198] (by decide +kernel)
theorem k_X11_draftLoan_ml333 : Cond.methodLink RX11 333 yX4_init ∈ wsX11_draftLoan := List.mem_of_getElem? (i := 16) rfl
theorem k_X11_draftLoan_imX4_init : Cond.instanceMethod yX4_init ∈ wsX11_draftLoan := List.mem_of_getElem? (i := 17) rfl
theorem k_X11_draftLoan_inX4 : Cond.initialized RX4 ∈ wsX11_draftLoan := List.mem_of_getElem? (i := 3) rfl
theorem k_X11_draftLoan_n23 : Cond.classLink RX11 23 RJx4a65c ∈ wsX11_draftLoan := List.mem_of_getElem? (i := 5) rfl
theorem k_X11_draftLoan_ni23 : Cond.instantiable RJx4a65c 3 ∈ wsX11_draftLoan := List.mem_of_getElem? (i := 6) rfl
theorem k_X11_draftLoan_nj23 : Cond.initialized RJx4a65c ∈ wsX11_draftLoan := List.mem_of_getElem? (i := 7) rfl
theorem ki_X11_draftLoan_Jx4a65c : ∀ w ∈ u_ws RJx4a65c TJx4a65c 3, w ∈ wsX11_draftLoan := sub_r [199, 200, 201] (by decide +kernel)
theorem k_X11_draftLoan_ml25 : Cond.methodLink RX11 25 yJx4a65c_init_da8c8 ∈ wsX11_draftLoan := List.mem_of_getElem? (i := 43) rfl
theorem k_X11_draftLoan_imJx4a65c_init_da8c8 : Cond.instanceMethod yJx4a65c_init_da8c8 ∈ wsX11_draftLoan := List.mem_of_getElem? (i := 29) rfl
theorem k_X11_draftLoan_inJx4a65c : Cond.initialized RJx4a65c ∈ wsX11_draftLoan := List.mem_of_getElem? (i := 7) rfl
theorem k_X11_draftLoan_cc85 : Cond.classLink RX11 85 RX10 ∈ wsX11_draftLoan := List.mem_of_getElem? (i := 8) rfl
set_option maxHeartbeats 4000000 in
set_option maxRecDepth 100000 in
theorem c_X11_draftLoan {G : wG} {l : Launch} {n : Nat} {M : Mem} {sz : Nat} {this : Option Nat} {a1 : Option Nat} {r : Option Nat × Mem × Nat} (h : f_X11_draftLoan G.2.2.1 G.2.2.2 n M sz this a1 = some r) : CtrQ G l yX11_draftLoan wsX11_draftLoan rmX11_draftLoan [va_rf this, va_rf a1] M sz r.1 r.2.1 r.2.2 := by
  refine m_startQ (own := RX11) (cc := cX11_draftLoan) (maxL := 6) (lv0 := [(0, va_rf this), (1, va_rf a1)]) (by decide) rfl rfl (by simp [lg_sl, va_rf_cat, cat_i, cat_r]) (by simp [lv_args, va_rf_cat, cat_i, cat_r]) (Or.inl ⟨_, rfl⟩) ?_
  intro p e s m args below meth c Q hC hname RET hsz hw ls hl
  have hx := hC.1
  have hb := hC.2.1
  have L36 : ∀ (x0 : Option Nat) (x2 : Option Nat) (x3 : Option Nat) (k : Nat) (Mz : Mem) (zz : Nat) (x4 : Int32) (cells slots : Nat) (CF SF : Nat) (H : Heap) (locs : List Loc) (ls : Array Slot) (o : Mem × Nat), f_X11_draftLoan_L36 G.2.2.1 G.2.2.2 n x0 x2 x3 k Mz zz x4 = some o → cells + k * 1 ≤ CF → slots + k * 80 ≤ SF → CF + 0 ≤ 93 → SF + 0 ≤ 4457 → wD G s M Mz zz H locs → lv_has ls 6 [(0, va_rf x0), (2, va_rf x2), (3, va_rf x3), (4, .int x4)] → (∀ (H : Heap) (locs : List Loc) (ls : Array Slot), wD G s M o.1 o.2 H locs → lv_has ls 6 [(2, va_rf x2), (3, va_rf x3)] → W p l e rmX11_draftLoan s m args below meth c H locs CF SF Q (F0 m 80 ls [])) → W p l e rmX11_draftLoan s m args below meth c H locs cells slots Q (F0 m 36 ls []) := by
    intro x0 x2 x3 k
    induction k with
    | zero =>
      intro Mz zz x4 cells slots CF SF H locs ls o h
      exact absurd (show (none : Option (Mem × Nat)) = some o from h) (fun z => by cases z)
    | succ k ih =>
      intro Mz zz x4 cells slots CF SF H locs ls o h hcl hsl hCF hSF hw hl hk
      rw [f_X11_draftLoan_L36] at h
      refine lv_iload hx hb dX11_draftLoan_36 (lv_at hl 3 rfl) ?_
      refine m_aload_n (x := x0) hx hb dX11_draftLoan_38 rfl (lv_at hl 0 rfl) ?_
      obtain ⟨v11, hv11, h⟩ := ob h
      refine m_getR hC hw (C := RX11) (T := TX11) (N := 11) hv11 ki_X11_draftLoan_X11 rfl (by decide) k_X11_draftLoan_19 (fun _ z => z) dX11_draftLoan_39 ?_
      obtain ⟨g12, h⟩ := itg h
      obtain ⟨r13, hr13, h⟩ := ob h
      refine m_contI hC hw (m_runV hC hw (x := v11) (ci := 10) (N := 5) (C := RX7) (T := TX7) (n := 0) (av := []) (rest := [.int x4]) (c_X7_size (G := G) (l := l) hr13) gX11_draftLoan_X7_size rfl (by decide +kernel) ⟨(Nat.le_of_ble_eq_true rfl), (Nat.le_of_ble_eq_true rfl)⟩ g12 rfl rfl hl.1 rfl (Nat.le_of_ble_eq_true rfl) dX11_draftLoan_42 ⟨(show cells + 0 ≤ 93 from by omega), (show slots + 0 ≤ 4457 from by omega)⟩) (fun H locs hw => ?_)
      refine lv_icmp_ge (tgt := 80) hx hb dX11_draftLoan_45 (by decide) (fun c14 => ?_) (fun c14 => ?_)
      · replace h := itt h c14
        replace h := Option.some.inj h
        subst h
        refine W.widen (k := CF) (n := SF) (show cells + 0 ≤ CF by omega) (show slots + 0 ≤ SF by omega) ?_
        exact hk _ _ _  hw (lv_sub hl [1, 2] rfl)
      · replace h := itf h c14
        refine m_aload_n (x := x0) hx hb dX11_draftLoan_48 rfl (lv_at hl 0 rfl) ?_
        refine m_aload_n (x := x0) hx hb dX11_draftLoan_49 rfl (lv_at hl 0 rfl) ?_
        obtain ⟨v15, hv15, h⟩ := ob h
        refine m_getR hC hw (C := RX11) (T := TX11) (N := 11) hv15 ki_X11_draftLoan_X11 rfl (by decide) k_X11_draftLoan_19 (fun _ z => z) dX11_draftLoan_50 ?_
        refine lv_iload hx hb dX11_draftLoan_53 (lv_at hl 3 rfl) ?_
        obtain ⟨g16, h⟩ := itg h
        obtain ⟨r17, hr17, h⟩ := ob h
        refine m_contI hC hw (m_runV hC hw (x := v15) (ci := 10) (N := 5) (C := RX7) (T := TX7) (n := 1) (av := [.int x4]) (rest := [va_rf x0]) (c_X7_told (G := G) (l := l) hr17) gX11_draftLoan_X7_told rfl (by decide +kernel) ⟨(Nat.le_of_ble_eq_true rfl), (Nat.le_of_ble_eq_true rfl)⟩ g16 rfl rfl hl.1 rfl (by simp [va_rf_cat, cat_i, cat_r, cat_l]) dX11_draftLoan_55 ⟨(show cells + 0 ≤ 93 from by omega), (show slots + 0 ≤ 4457 from by omega)⟩) (fun H locs hw => ?_)
        obtain ⟨g18, h⟩ := itg h
        obtain ⟨r19, hr19, h⟩ := ob h
        refine m_contQ hC hw (m_runV hC hw (x := x0) (ci := 14) (N := 11) (C := RX11) (T := TX11) (n := 1) (av := [.int r17]) (rest := []) (c_X11_thingAt (G := G) (l := l) hr19) gX11_draftLoan_X11_thingAt rfl (by decide +kernel) ⟨(Nat.le_of_ble_eq_true rfl), (Nat.le_of_ble_eq_true rfl)⟩ g18 rfl rfl hl.1 rfl (Nat.le_of_ble_eq_true rfl) dX11_draftLoan_58 ⟨(show cells + 0 ≤ 93 from by omega), (show slots + 0 ≤ 4457 from by omega)⟩) (fun H locs hw => ?_)
        refine m_astore (x := r19) (lv' := [(5, va_rf r19), (0, va_rf x0), (2, va_rf x2), (3, va_rf x3), (4, .int x4)]) hx hb dX11_draftLoan_61 hl (by decide) rfl (fun ls hl => ?_)
        refine m_aload (x := r19) hx hb dX11_draftLoan_63 (lv_at hl 0 rfl) ?_
        refine m_ifnull (x := r19) (tgt := 74) hx hb dX11_draftLoan_65 (by decide) (fun c20 => ?_) (fun c20 => ?_)
        · replace h := itt h c20
          refine lv_iinc (v := (x4 + (1 : Int32))) (lv' := [(4, .int (x4 + (1 : Int32))), (5, va_rf r19), (0, va_rf x0), (2, va_rf x2), (3, va_rf x3)]) hx hb dX11_draftLoan_74 hl (k := 4) rfl rfl (by decide) (by simp [va_rf_cat, cat_i, cat_l]) (fun ls hl => ?_)
          refine lv_goto (tgt := 36) hx hb dX11_draftLoan_77 (by decide) ?_
          refine W.widen (k := cells + 1) (n := slots + 80) (show cells + 0 ≤ cells + 1 by omega) (show slots + 0 ≤ slots + 80 by omega) ?_
          exact ih _ _ _ _ _ CF SF _ _ _ _ h (by omega) (by omega) hCF hSF hw (lv_sub hl [2, 3, 4, 0] rfl) hk
        · replace h := itf h c20
          refine m_aload_n (x := x3) hx hb dX11_draftLoan_68 rfl (lv_at hl 3 rfl) ?_
          refine m_aload (x := r19) hx hb dX11_draftLoan_69 (lv_at hl 0 rfl) ?_
          obtain ⟨r21, hr21, h⟩ := ob h
          refine m_contV hC hw (m_runS hC hw (n := 2) (av := [va_rf x3, va_rf r19]) (rest := []) (c_X11_addByWeight (G := G) (l := l) hr21) gX11_draftLoan_X11_addByWeight rfl (by decide +kernel) ⟨(Nat.le_of_ble_eq_true rfl), (Nat.le_of_ble_eq_true rfl)⟩ rfl hl.1 rfl (Nat.le_of_ble_eq_true rfl) dX11_draftLoan_71 ⟨(show cells + 1 ≤ 93 from by omega), (show slots + 80 ≤ 4457 from by omega)⟩) (fun H locs hw => ?_)
          refine lv_iinc (v := (x4 + (1 : Int32))) (lv' := [(4, .int (x4 + (1 : Int32))), (5, va_rf r19), (0, va_rf x0), (2, va_rf x2), (3, va_rf x3)]) hx hb dX11_draftLoan_74 hl (k := 4) rfl rfl (by decide) (by simp [va_rf_cat, cat_i, cat_l]) (fun ls hl => ?_)
          refine lv_goto (tgt := 36) hx hb dX11_draftLoan_77 (by decide) ?_
          refine W.widen (k := cells + 1) (n := slots + 80) (show cells + 1 ≤ cells + 1 by omega) (show slots + 80 ≤ slots + 80 by omega) ?_
          exact ih _ _ _ _ _ CF SF _ _ _ _ h (by omega) (by omega) hCF hSF hw (lv_sub hl [2, 3, 4, 0] rfl) hk
  have L83 : ∀ (x2 : Option Nat) (x3 : Option Nat) (k : Nat) (Mz : Mem) (zz : Nat) (x4 : Int32) (cells slots : Nat) (CF SF : Nat) (H : Heap) (locs : List Loc) (ls : Array Slot), f_X11_draftLoan_L83 G.2.2.1 G.2.2.2 n x2 x3 k Mz zz x4 = some r → cells + k * 4 ≤ CF → slots + k * 167 ≤ SF → CF + 0 ≤ 93 → SF + 0 ≤ 4457 → wD G s M Mz zz H locs → lv_has ls 6 [(2, va_rf x2), (3, va_rf x3), (4, .int x4)] → W p l e rmX11_draftLoan s m args below meth c H locs cells slots Q (F0 m 83 ls []) := by
    intro x2 x3 k
    induction k with
    | zero =>
      intro Mz zz x4 cells slots CF SF H locs ls h
      exact absurd (show (none : Option (Option Nat × Mem × Nat)) = some r from h) (fun z => by cases z)
    | succ k ih =>
      intro Mz zz x4 cells slots CF SF H locs ls h hcl hsl hCF hSF hw hl
      rw [f_X11_draftLoan_L83] at h
      refine lv_iload hx hb dX11_draftLoan_83 (lv_at hl 2 rfl) ?_
      refine m_aload_n (x := x3) hx hb dX11_draftLoan_85 rfl (lv_at hl 1 rfl) ?_
      obtain ⟨g23, h⟩ := itg h
      obtain ⟨r24, hr24, h⟩ := ob h
      refine m_contI hC hw (m_runV hC hw (x := x3) (ci := 2) (N := 3) (C := RJx4a65c) (T := TJx4a65c) (n := 0) (av := []) (rest := [.int x4]) (c_Jx4a65c_size_8abf5 (G := G) (l := l) hr24) gX11_draftLoan_Jx4a65c_size_8abf5 rfl (by decide +kernel) ⟨(Nat.le_of_ble_eq_true rfl), (Nat.le_of_ble_eq_true rfl)⟩ g23 rfl rfl hl.1 rfl (Nat.le_of_ble_eq_true rfl) dX11_draftLoan_86 ⟨(show cells + 0 ≤ 93 from by omega), (show slots + 0 ≤ 4457 from by omega)⟩) (fun H locs hw => ?_)
      refine lv_icmp_ge (tgt := 111) hx hb dX11_draftLoan_89 (by decide) (fun c25 => ?_) (fun c25 => ?_)
      · replace h := itt h c25
        refine m_aload_n (x := x2) hx hb dX11_draftLoan_111 rfl (lv_at hl 0 rfl) ?_
        replace h := Option.some.inj h
        subst h
        exact RET hw ⟨(show cells + 0 ≤ 93 from by omega), (show slots + 0 ≤ 4457 from by omega)⟩ dX11_draftLoan_112
      · replace h := itf h c25
        refine m_aload_n (x := x2) hx hb dX11_draftLoan_92 rfl (lv_at hl 0 rfl) ?_
        refine m_aload_n (x := x3) hx hb dX11_draftLoan_93 rfl (lv_at hl 1 rfl) ?_
        refine lv_iload hx hb dX11_draftLoan_94 (lv_at hl 2 rfl) ?_
        obtain ⟨g26, h⟩ := itg h
        obtain ⟨r27, hr27, h⟩ := ob h
        refine m_contQ hC hw (m_runV hC hw (x := x3) (ci := 2) (N := 3) (C := RJx4a65c) (T := TJx4a65c) (n := 1) (av := [.int x4]) (rest := [va_rf x2]) (c_Jx4a65c_get_915e3 (G := G) (l := l) hr27) gX11_draftLoan_Jx4a65c_get_915e3 rfl (by decide +kernel) ⟨(Nat.le_of_ble_eq_true rfl), (Nat.le_of_ble_eq_true rfl)⟩ g26 rfl rfl hl.1 rfl (by simp [va_rf_cat, cat_i, cat_r, cat_l]) dX11_draftLoan_96 ⟨(show cells + 0 ≤ 93 from by omega), (show slots + 0 ≤ 4457 from by omega)⟩) (fun H locs hw => ?_)
        obtain ⟨g28, h⟩ := itg h
        refine m_cast (x := r27) hC hw (C := RX10) (T := TX10) (N := 9) g28 k_X11_draftLoan_cc85 rfl dX11_draftLoan_99 ?_
        obtain ⟨g29, h⟩ := itg h
        obtain ⟨r30, hr30, h⟩ := ob h
        refine m_contV hC hw (m_runV hC hw (x := x2) (ci := 7) (N := 5) (C := RX4) (T := TX4) (n := 1) (av := [va_rf r27]) (rest := []) (c_X4_pack (G := G) (l := l) hr30) gX11_draftLoan_X4_pack rfl (by decide +kernel) ⟨(Nat.le_of_ble_eq_true rfl), (Nat.le_of_ble_eq_true rfl)⟩ g29 rfl rfl hl.1 rfl (Nat.le_of_ble_eq_true rfl) dX11_draftLoan_102 ⟨(show cells + 4 ≤ 93 from by omega), (show slots + 167 ≤ 4457 from by omega)⟩) (fun H locs hw => ?_)
        refine lv_iinc (v := (x4 + (1 : Int32))) (lv' := [(4, .int (x4 + (1 : Int32))), (2, va_rf x2), (3, va_rf x3)]) hx hb dX11_draftLoan_105 hl (k := 2) rfl rfl (by decide) (by simp [va_rf_cat, cat_i, cat_l]) (fun ls hl => ?_)
        refine lv_goto (tgt := 83) hx hb dX11_draftLoan_108 (by decide) ?_
        refine W.widen (k := cells + 4) (n := slots + 167) (show cells + 4 ≤ cells + 4 by omega) (show slots + 167 ≤ slots + 167 by omega) ?_
        exact ih _ _ _ _ _ CF SF _ _ _ h (by omega) (by omega) hCF hSF hw (lv_sub hl [1, 2, 0] rfl)
  unfold f_X11_draftLoan at h
  obtain ⟨M1, hM1, h⟩ := ob h
  refine m_new hC hw (C := RX4) (T := TX4) (N := 5) (ci := 7) (fs := [.null, .int 0, .null, .int 0, .int 0]) ki_X11_draftLoan_X4 tyX4 tyX4_ok k_X11_draftLoan_n194 k_X11_draftLoan_ni194 k_X11_draftLoan_nj194 rfl (fun j hj => by match j, hj with | 0, _ => rfl | 1, _ => rfl | 2, _ => rfl | 3, _ => rfl | 4, _ => rfl) (Nat.le_of_ble_eq_true rfl) (Nat.le_of_ble_eq_true rfl) dX11_draftLoan_0 (fun H hw => ?_)
  rw [Option.some.inj hM1] at hw
  refine m_dup (x := (some sz)) hx hb dX11_draftLoan_3 ?_
  refine m_aload_n (x := a1) hx hb dX11_draftLoan_4 rfl (lv_at hl 1 rfl) ?_
  refine m_aload_n (x := this) hx hb dX11_draftLoan_5 rfl (lv_at hl 0 rfl) ?_
  obtain ⟨v2, hv2, h⟩ := ob h
  refine m_getR hC hw (C := RX11) (T := TX11) (N := 11) hv2 ki_X11_draftLoan_X11 rfl (by decide) k_X11_draftLoan_19 (fun _ z => z) dX11_draftLoan_6 ?_
  refine lv_iconst (v := (0 : Int32)) hx hb dX11_draftLoan_9 (by decide) ?_
  obtain ⟨g3, h⟩ := itg h
  obtain ⟨r4, hr4, h⟩ := ob h
  refine m_contI hC hw (m_runV hC hw (x := v2) (ci := 10) (N := 5) (C := RX7) (T := TX7) (n := 1) (av := [.int (0 : Int32)]) (rest := [va_rf a1, va_rf (some sz), va_rf (some sz)]) (c_X7_told (G := G) (l := l) hr4) gX11_draftLoan_X7_told rfl (by decide +kernel) ⟨(Nat.le_of_ble_eq_true rfl), (Nat.le_of_ble_eq_true rfl)⟩ g3 rfl rfl hl.1 rfl (by simp [va_rf_cat, cat_i, cat_r, cat_l]) dX11_draftLoan_10 ⟨(Nat.le_of_ble_eq_true rfl), (Nat.le_of_ble_eq_true rfl)⟩) (fun H locs hw => ?_)
  refine m_aload_n (x := this) hx hb dX11_draftLoan_13 rfl (lv_at hl 0 rfl) ?_
  obtain ⟨v5, hv5, h⟩ := ob h
  refine m_getR hC hw (C := RX11) (T := TX11) (N := 11) hv5 ki_X11_draftLoan_X11 rfl (by decide) k_X11_draftLoan_19 (fun _ z => z) dX11_draftLoan_14 ?_
  refine lv_iconst (v := (1 : Int32)) hx hb dX11_draftLoan_17 (by decide) ?_
  obtain ⟨g6, h⟩ := itg h
  obtain ⟨r7, hr7, h⟩ := ob h
  refine m_contI hC hw (m_runV hC hw (x := v5) (ci := 10) (N := 5) (C := RX7) (T := TX7) (n := 1) (av := [.int (1 : Int32)]) (rest := [.int r4, va_rf a1, va_rf (some sz), va_rf (some sz)]) (c_X7_told (G := G) (l := l) hr7) gX11_draftLoan_X7_told rfl (by decide +kernel) ⟨(Nat.le_of_ble_eq_true rfl), (Nat.le_of_ble_eq_true rfl)⟩ g6 rfl rfl hl.1 rfl (by simp [va_rf_cat, cat_i, cat_r, cat_l]) dX11_draftLoan_18 ⟨(Nat.le_of_ble_eq_true rfl), (Nat.le_of_ble_eq_true rfl)⟩) (fun H locs hw => ?_)
  obtain ⟨r8, hr8, h⟩ := ob h
  refine m_contV hC hw (m_runI hC hw (x := (some sz)) (n := 3) (av := [va_rf a1, .int r4, .int r7]) (rest := [va_rf (some sz)]) (c_X4_init (G := G) (l := l) hr8) gX11_draftLoan_X4_init k_X11_draftLoan_ml333 k_X11_draftLoan_imX4_init k_X11_draftLoan_inX4 rfl rfl (by decide +kernel) ⟨(Nat.le_of_ble_eq_true rfl), (Nat.le_of_ble_eq_true rfl)⟩ rfl rfl hl.1 rfl (by simp [va_rf_cat, cat_i, cat_r, cat_l]) dX11_draftLoan_21 ⟨(Nat.le_of_ble_eq_true rfl), (Nat.le_of_ble_eq_true rfl)⟩) (fun H locs hw => ?_)
  refine m_astore_n (x := (some sz)) (i := 2) (lv' := [(2, va_rf (some sz)), (0, va_rf this), (1, va_rf a1)]) hx hb dX11_draftLoan_24 rfl hl (by decide) (by simp [va_rf_cat, cat_i, cat_l]) (fun ls hl => ?_)
  obtain ⟨M9, hM9, h⟩ := ob h
  refine m_new hC hw (C := RJx4a65c) (T := TJx4a65c) (N := 3) (ci := 2) (fs := [.int 0, .null, .int 0]) ki_X11_draftLoan_Jx4a65c tyJx4a65c tyJx4a65c_ok k_X11_draftLoan_n23 k_X11_draftLoan_ni23 k_X11_draftLoan_nj23 rfl (fun j hj => by match j, hj with | 0, _ => rfl | 1, _ => rfl | 2, _ => rfl) (Nat.le_of_ble_eq_true rfl) (Nat.le_of_ble_eq_true rfl) dX11_draftLoan_25 (fun H hw => ?_)
  rw [Option.some.inj hM9] at hw
  refine m_dup (x := (some r8.2)) hx hb dX11_draftLoan_28 ?_
  obtain ⟨r10, hr10, h⟩ := ob h
  refine m_contV hC hw (m_runI hC hw (x := (some r8.2)) (n := 0) (av := []) (rest := [va_rf (some r8.2)]) (c_Jx4a65c_init_da8c8 (G := G) (l := l) hr10) gX11_draftLoan_Jx4a65c_init_da8c8 k_X11_draftLoan_ml25 k_X11_draftLoan_imJx4a65c_init_da8c8 k_X11_draftLoan_inJx4a65c rfl rfl (by decide +kernel) ⟨(Nat.le_of_ble_eq_true rfl), (Nat.le_of_ble_eq_true rfl)⟩ rfl rfl hl.1 rfl (by simp [va_rf_cat, cat_i, cat_r, cat_l]) dX11_draftLoan_29 ⟨(Nat.le_of_ble_eq_true rfl), (Nat.le_of_ble_eq_true rfl)⟩) (fun H locs hw => ?_)
  refine m_astore_n (x := (some r8.2)) (i := 3) (lv' := [(3, va_rf (some r8.2)), (2, va_rf (some sz)), (0, va_rf this), (1, va_rf a1)]) hx hb dX11_draftLoan_32 rfl hl (by decide) (by simp [va_rf_cat, cat_i, cat_l]) (fun ls hl => ?_)
  refine lv_iconst (v := (2 : Int32)) hx hb dX11_draftLoan_33 (by decide) ?_
  refine lv_istore (lv' := [(4, .int (2 : Int32)), (3, va_rf (some r8.2)), (2, va_rf (some sz)), (0, va_rf this), (1, va_rf a1)]) hx hb dX11_draftLoan_34 hl (by decide) (by simp [va_rf_cat, cat_i, cat_l]) (fun ls hl => ?_)
  obtain ⟨o22, ho22, h⟩ := ob h
  refine L36 this (some sz) (some r8.2) _ _ _ _ _ _ 21 1451 _ _ _ _ ho22 (by decide) (by decide) (Nat.le_of_ble_eq_true rfl) (Nat.le_of_ble_eq_true rfl) hw (lv_sub hl [3, 2, 1, 0] rfl) (fun H locs ls hw hl => ?_)
  refine lv_iconst (v := (0 : Int32)) hx hb dX11_draftLoan_80 (by decide) ?_
  refine lv_istore (lv' := [(4, .int (0 : Int32)), (2, va_rf (some sz)), (3, va_rf (some r8.2))]) hx hb dX11_draftLoan_81 hl (by decide) (by simp [va_rf_cat, cat_i, cat_l]) (fun ls hl => ?_)
  exact L83 (some sz) (some r8.2) _ _ _ _ _ _ 93 4457 _ _ _ h (by decide) (by decide) (Nat.le_of_ble_eq_true rfl) (Nat.le_of_ble_eq_true rfl) hw (lv_sub hl [1, 2, 0] rfl)

def f_X11_leastBusyCourier_L5 (n : Nat) (M : Mem) (x0 : Option Nat) (x1 : Int32) (x2 : Int32) : Nat → Option Nat → Int32 → Option (Option Nat)
  | 0, _, _ => none
  | k + 1, x3, x4 => (gR M x0 14 4).bind fun v1 => if isO M v1 2 = true then ((f_Jx4a65c_size_8abf5 M v1).bind fun r3 => if r3 ≤ x4 then (some (x3)) else ((gR M x0 14 4).bind fun v5 => if isO M v5 2 = true then ((f_Jx4a65c_get_915e3 M v5 x4).bind fun r7 => if r7 = none ∨ isO M r7 5 = true then (((if x3 = none then (some ((1 : Int32))) else ((gR M r7 5 2).bind fun v11 => if isO M v11 4 = true then ((f_X1_daysTaken M v11).bind fun r13 => (gR M x3 5 2).bind fun v14 => if isO M v14 4 = true then ((f_X1_daysTaken M v14).bind fun r16 => if r16 ≤ r13 then (some ((0 : Int32))) else (some ((1 : Int32)))) else none) else none)) : Option (Int32)).bind fun o18 => if o18 = 0 then (f_X11_leastBusyCourier_L5 n M x0 x1 x2 k x3 (x4 + (1 : Int32))) else ((gR M r7 5 2).bind fun v20 => if isO M v20 4 = true then ((f_X1_isOpen n M v20 x1 x2).bind fun r22 => if r22 = 0 then (f_X11_leastBusyCourier_L5 n M x0 x1 x2 k x3 (x4 + (1 : Int32))) else (f_X11_leastBusyCourier_L5 n M x0 x1 x2 k r7 (x4 + (1 : Int32)))) else none)) else none) else none)) else none
def f_X11_leastBusyCourier (n : Nat) (M : Mem) (this : Option Nat) (a1 : Int32) (a2 : Int32) : Option (Option Nat) := f_X11_leastBusyCourier_L5 n M this a1 a2 n none (0 : Int32)
def rmX11_leastBusyCourier : Room := { frames := 3, cells := 0, slots := 0, locals := 64 }
theorem k_X11_leastBusyCourier_33 : Cond.fieldLink RX11 33 "LoanBook" "couriers" "Ljava/util/ArrayList;" ∈ wsX11_leastBusyCourier := List.mem_of_getElem? (i := 1) rfl
theorem ki_X11_leastBusyCourier_X11 : ∀ w ∈ u_ws RX11 TX11 11, w ∈ wsX11_leastBusyCourier := sub_r [41, 42, 43, 44, 45, 46, 47, 48, 49, 50, 51] (by decide +kernel)
theorem k_X11_leastBusyCourier_cc115 : Cond.classLink RX11 115 RX2 ∈ wsX11_leastBusyCourier := List.mem_of_getElem? (i := 2) rfl
theorem k_X11_leastBusyCourier_252 : Cond.fieldLink RX11 252 "LoanBook$Courier" "calendar" "LLoanBook$Calendar;" ∈ wsX11_leastBusyCourier := List.mem_of_getElem? (i := 3) rfl
theorem ki_X11_leastBusyCourier_X2 : ∀ w ∈ u_ws RX2 TX2 3, w ∈ wsX11_leastBusyCourier := sub_r [52, 53, 54] (by decide +kernel)
set_option maxHeartbeats 4000000 in
set_option maxRecDepth 100000 in
theorem c_X11_leastBusyCourier {G : wG} {l : Launch} {n : Nat} {M : Mem} {sz : Nat} {this : Option Nat} {a1 : Int32} {a2 : Int32} {r : Option Nat} (h : f_X11_leastBusyCourier n M this a1 a2 = some r) : CtrQ G l yX11_leastBusyCourier wsX11_leastBusyCourier rmX11_leastBusyCourier [va_rf this, .int a1, .int a2] M sz r M sz := by
  refine m_startQ (own := RX11) (cc := cX11_leastBusyCourier) (maxL := 7) (lv0 := [(0, va_rf this), (1, .int a1), (2, .int a2)]) (by decide) rfl rfl (by simp [lg_sl, va_rf_cat, cat_i, cat_r]) (by simp [lv_args, va_rf_cat, cat_i, cat_r]) (Or.inl ⟨_, rfl⟩) ?_
  intro p e s m args below meth c Q hC hname RET hsz hw ls hl
  have hx := hC.1
  have hb := hC.2.1
  have L5 : ∀ (x0 : Option Nat) (x1 : Int32) (x2 : Int32) (k : Nat) (x3 : Option Nat) (x4 : Int32) (cells slots : Nat) (H : Heap) (locs : List Loc) (ls : Array Slot), f_X11_leastBusyCourier_L5 n M x0 x1 x2 k x3 x4 = some r → cells ≤ 0 → slots ≤ 0 → wD G s M M sz H locs → lv_has ls 7 [(0, va_rf x0), (1, .int x1), (2, .int x2), (3, va_rf x3), (4, .int x4)] → W p l e rmX11_leastBusyCourier s m args below meth c H locs cells slots Q (F0 m 5 ls []) := by
    intro x0 x1 x2 k
    induction k with
    | zero =>
      intro x3 x4 cells slots H locs ls h
      exact absurd (show (none : Option (Option Nat)) = some r from h) (fun z => by cases z)
    | succ k ih =>
      intro x3 x4 cells slots H locs ls h hcl hsl hw hl
      rw [f_X11_leastBusyCourier_L5] at h
      refine lv_iload hx hb dX11_leastBusyCourier_5 (lv_at hl 4 rfl) ?_
      refine m_aload_n (x := x0) hx hb dX11_leastBusyCourier_7 rfl (lv_at hl 0 rfl) ?_
      obtain ⟨v1, hv1, h⟩ := ob h
      refine m_getR hC hw (C := RX11) (T := TX11) (N := 11) hv1 ki_X11_leastBusyCourier_X11 rfl (by decide) k_X11_leastBusyCourier_33 (fun _ z => z) dX11_leastBusyCourier_8 ?_
      obtain ⟨g2, h⟩ := itg h
      obtain ⟨r3, hr3, h⟩ := ob h
      refine m_contI hC hw (m_runV hC hw (x := v1) (ci := 2) (N := 3) (C := RJx4a65c) (T := TJx4a65c) (n := 0) (av := []) (rest := [.int x4]) (c_Jx4a65c_size_8abf5 (G := G) (l := l) hr3) gX11_leastBusyCourier_Jx4a65c_size_8abf5 rfl (by decide +kernel) ⟨(Nat.le_of_ble_eq_true rfl), (Nat.le_of_ble_eq_true rfl)⟩ g2 rfl rfl hl.1 rfl (Nat.le_of_ble_eq_true rfl) dX11_leastBusyCourier_11 ⟨(show cells + 0 ≤ 0 from by omega), (show slots + 0 ≤ 0 from by omega)⟩) (fun H locs hw => ?_)
      refine lv_icmp_ge (tgt := 87) hx hb dX11_leastBusyCourier_14 (by decide) (fun c4 => ?_) (fun c4 => ?_)
      · replace h := itt h c4
        refine m_aload_n (x := x3) hx hb dX11_leastBusyCourier_87 rfl (lv_at hl 3 rfl) ?_
        replace h := Option.some.inj h
        subst h
        exact RET hw ⟨(show cells + 0 ≤ 0 from by omega), (show slots + 0 ≤ 0 from by omega)⟩ dX11_leastBusyCourier_88
      · replace h := itf h c4
        refine m_aload_n (x := x0) hx hb dX11_leastBusyCourier_17 rfl (lv_at hl 0 rfl) ?_
        obtain ⟨v5, hv5, h⟩ := ob h
        refine m_getR hC hw (C := RX11) (T := TX11) (N := 11) hv5 ki_X11_leastBusyCourier_X11 rfl (by decide) k_X11_leastBusyCourier_33 (fun _ z => z) dX11_leastBusyCourier_18 ?_
        refine lv_iload hx hb dX11_leastBusyCourier_21 (lv_at hl 4 rfl) ?_
        obtain ⟨g6, h⟩ := itg h
        obtain ⟨r7, hr7, h⟩ := ob h
        refine m_contQ hC hw (m_runV hC hw (x := v5) (ci := 2) (N := 3) (C := RJx4a65c) (T := TJx4a65c) (n := 1) (av := [.int x4]) (rest := []) (c_Jx4a65c_get_915e3 (G := G) (l := l) hr7) gX11_leastBusyCourier_Jx4a65c_get_915e3 rfl (by decide +kernel) ⟨(Nat.le_of_ble_eq_true rfl), (Nat.le_of_ble_eq_true rfl)⟩ g6 rfl rfl hl.1 rfl (Nat.le_of_ble_eq_true rfl) dX11_leastBusyCourier_23 ⟨(show cells + 0 ≤ 0 from by omega), (show slots + 0 ≤ 0 from by omega)⟩) (fun H locs hw => ?_)
        obtain ⟨g8, h⟩ := itg h
        refine m_cast (x := r7) hC hw (C := RX2) (T := TX2) (N := 3) g8 k_X11_leastBusyCourier_cc115 rfl dX11_leastBusyCourier_26 ?_
        refine m_astore (x := r7) (lv' := [(5, va_rf r7), (0, va_rf x0), (1, .int x1), (2, .int x2), (3, va_rf x3), (4, .int x4)]) hx hb dX11_leastBusyCourier_29 hl (by decide) rfl (fun ls hl => ?_)
        refine m_aload_n (x := x3) hx hb dX11_leastBusyCourier_31 rfl (lv_at hl 4 rfl) ?_
        obtain ⟨o18, ho18, h⟩ := ob h
        have J9 : ∀ (H : Heap) (locs : List Loc) (ls : Array Slot), wD G s M M sz H locs → lv_has ls 7 [(0, va_rf x0), (1, .int x1), (2, .int x2), (3, va_rf x3), (4, .int x4), (5, va_rf r7)] → W p l e rmX11_leastBusyCourier s m args below meth c H locs (cells + 0) (slots + 0) Q (F0 m 58 ls [.int o18]) := by
          intro H locs ls hw hl
          refine lv_istore (lv' := [(6, .int o18), (0, va_rf x0), (1, .int x1), (2, .int x2), (3, va_rf x3), (4, .int x4), (5, va_rf r7)]) hx hb dX11_leastBusyCourier_58 hl (by decide) (by simp [va_rf_cat, cat_i, cat_l]) (fun ls hl => ?_)
          refine lv_iload hx hb dX11_leastBusyCourier_60 (lv_at hl 0 rfl) ?_
          refine lv_if_eq (tgt := 81) hx hb dX11_leastBusyCourier_62 (by decide) (fun c19 => ?_) (fun c19 => ?_)
          · replace h := itt h c19
            refine lv_iinc (v := (x4 + (1 : Int32))) (lv' := [(4, .int (x4 + (1 : Int32))), (6, .int o18), (0, va_rf x0), (1, .int x1), (2, .int x2), (3, va_rf x3), (5, va_rf r7)]) hx hb dX11_leastBusyCourier_81 hl (k := 5) rfl rfl (by decide) (by simp [va_rf_cat, cat_i, cat_l]) (fun ls hl => ?_)
            refine lv_goto (tgt := 5) hx hb dX11_leastBusyCourier_84 (by decide) ?_
            exact ih _ _ _ _ _ _ _ h hcl hsl hw (lv_sub hl [2, 3, 4, 5, 0] rfl)
          · replace h := itf h c19
            refine m_aload (x := r7) hx hb dX11_leastBusyCourier_65 (lv_at hl 6 rfl) ?_
            obtain ⟨v20, hv20, h⟩ := ob h
            refine m_getR hC hw (C := RX2) (T := TX2) (N := 3) hv20 ki_X11_leastBusyCourier_X2 rfl (by decide) k_X11_leastBusyCourier_252 (fun _ z => z) dX11_leastBusyCourier_67 ?_
            refine lv_iload_n hx hb dX11_leastBusyCourier_70 rfl (lv_at hl 2 rfl) ?_
            refine lv_iload_n hx hb dX11_leastBusyCourier_71 rfl (lv_at hl 3 rfl) ?_
            obtain ⟨g21, h⟩ := itg h
            obtain ⟨r22, hr22, h⟩ := ob h
            refine m_contI hC hw (m_runV hC hw (x := v20) (ci := 4) (N := 2) (C := RX1) (T := TX1) (n := 2) (av := [.int x1, .int x2]) (rest := []) (c_X1_isOpen (G := G) (l := l) hr22) gX11_leastBusyCourier_X1_isOpen rfl (by decide +kernel) ⟨(Nat.le_of_ble_eq_true rfl), (Nat.le_of_ble_eq_true rfl)⟩ g21 rfl rfl hl.1 rfl (Nat.le_of_ble_eq_true rfl) dX11_leastBusyCourier_72 ⟨(show cells + 0 ≤ 0 from by omega), (show slots + 0 ≤ 0 from by omega)⟩) (fun H locs hw => ?_)
            refine lv_if_eq (tgt := 81) hx hb dX11_leastBusyCourier_75 (by decide) (fun c23 => ?_) (fun c23 => ?_)
            · replace h := itt h c23
              refine lv_iinc (v := (x4 + (1 : Int32))) (lv' := [(4, .int (x4 + (1 : Int32))), (6, .int o18), (0, va_rf x0), (1, .int x1), (2, .int x2), (3, va_rf x3), (5, va_rf r7)]) hx hb dX11_leastBusyCourier_81 hl (k := 5) rfl rfl (by decide) (by simp [va_rf_cat, cat_i, cat_l]) (fun ls hl => ?_)
              refine lv_goto (tgt := 5) hx hb dX11_leastBusyCourier_84 (by decide) ?_
              exact ih _ _ _ _ _ _ _ h hcl hsl hw (lv_sub hl [2, 3, 4, 5, 0] rfl)
            · replace h := itf h c23
              refine m_aload (x := r7) hx hb dX11_leastBusyCourier_78 (lv_at hl 6 rfl) ?_
              refine m_astore_n (x := r7) (i := 3) (lv' := [(3, va_rf r7), (6, .int o18), (0, va_rf x0), (1, .int x1), (2, .int x2), (4, .int x4), (5, va_rf r7)]) hx hb dX11_leastBusyCourier_80 rfl hl (by decide) rfl (fun ls hl => ?_)
              refine lv_iinc (v := (x4 + (1 : Int32))) (lv' := [(4, .int (x4 + (1 : Int32))), (3, va_rf r7), (6, .int o18), (0, va_rf x0), (1, .int x1), (2, .int x2), (5, va_rf r7)]) hx hb dX11_leastBusyCourier_81 hl (k := 5) rfl rfl (by decide) (by simp [va_rf_cat, cat_i, cat_l]) (fun ls hl => ?_)
              refine lv_goto (tgt := 5) hx hb dX11_leastBusyCourier_84 (by decide) ?_
              exact ih _ _ _ _ _ _ _ h hcl hsl hw (lv_sub hl [3, 4, 5, 1, 0] rfl)
        clear h
        replace h := ho18
        refine m_ifnull (x := x3) (tgt := 53) hx hb dX11_leastBusyCourier_32 (by decide) (fun c10 => ?_) (fun c10 => ?_)
        · replace h := itt h c10
          refine lv_iconst (v := (1 : Int32)) hx hb dX11_leastBusyCourier_53 (by decide) ?_
          refine lv_goto (tgt := 58) hx hb dX11_leastBusyCourier_54 (by decide) ?_
          replace h := Option.some.inj h
          subst h
          exact J9 _ _ _ hw (lv_sub hl [1, 2, 3, 4, 5, 0] rfl)
        · replace h := itf h c10
          refine m_aload (x := r7) hx hb dX11_leastBusyCourier_35 (lv_at hl 0 rfl) ?_
          obtain ⟨v11, hv11, h⟩ := ob h
          refine m_getR hC hw (C := RX2) (T := TX2) (N := 3) hv11 ki_X11_leastBusyCourier_X2 rfl (by decide) k_X11_leastBusyCourier_252 (fun _ z => z) dX11_leastBusyCourier_37 ?_
          obtain ⟨g12, h⟩ := itg h
          obtain ⟨r13, hr13, h⟩ := ob h
          refine m_contI hC hw (m_runV hC hw (x := v11) (ci := 4) (N := 2) (C := RX1) (T := TX1) (n := 0) (av := []) (rest := []) (c_X1_daysTaken (G := G) (l := l) hr13) gX11_leastBusyCourier_X1_daysTaken rfl (by decide +kernel) ⟨(Nat.le_of_ble_eq_true rfl), (Nat.le_of_ble_eq_true rfl)⟩ g12 rfl rfl hl.1 rfl (Nat.le_of_ble_eq_true rfl) dX11_leastBusyCourier_40 ⟨(show cells + 0 ≤ 0 from by omega), (show slots + 0 ≤ 0 from by omega)⟩) (fun H locs hw => ?_)
          refine m_aload_n (x := x3) hx hb dX11_leastBusyCourier_43 rfl (lv_at hl 4 rfl) ?_
          obtain ⟨v14, hv14, h⟩ := ob h
          refine m_getR hC hw (C := RX2) (T := TX2) (N := 3) hv14 ki_X11_leastBusyCourier_X2 rfl (by decide) k_X11_leastBusyCourier_252 (fun _ z => z) dX11_leastBusyCourier_44 ?_
          obtain ⟨g15, h⟩ := itg h
          obtain ⟨r16, hr16, h⟩ := ob h
          refine m_contI hC hw (m_runV hC hw (x := v14) (ci := 4) (N := 2) (C := RX1) (T := TX1) (n := 0) (av := []) (rest := [.int r13]) (c_X1_daysTaken (G := G) (l := l) hr16) gX11_leastBusyCourier_X1_daysTaken rfl (by decide +kernel) ⟨(Nat.le_of_ble_eq_true rfl), (Nat.le_of_ble_eq_true rfl)⟩ g15 rfl rfl hl.1 rfl (Nat.le_of_ble_eq_true rfl) dX11_leastBusyCourier_47 ⟨(show cells + 0 ≤ 0 from by omega), (show slots + 0 ≤ 0 from by omega)⟩) (fun H locs hw => ?_)
          refine lv_icmp_ge (tgt := 57) hx hb dX11_leastBusyCourier_50 (by decide) (fun c17 => ?_) (fun c17 => ?_)
          · replace h := itt h c17
            refine lv_iconst (v := (0 : Int32)) hx hb dX11_leastBusyCourier_57 (by decide) ?_
            replace h := Option.some.inj h
            subst h
            exact J9 _ _ _ hw (lv_sub hl [1, 2, 3, 4, 5, 0] rfl)
          · replace h := itf h c17
            refine lv_iconst (v := (1 : Int32)) hx hb dX11_leastBusyCourier_53 (by decide) ?_
            refine lv_goto (tgt := 58) hx hb dX11_leastBusyCourier_54 (by decide) ?_
            replace h := Option.some.inj h
            subst h
            exact J9 _ _ _ hw (lv_sub hl [1, 2, 3, 4, 5, 0] rfl)
  unfold f_X11_leastBusyCourier at h
  refine lv_null hx hb dX11_leastBusyCourier_0 ?_
  refine m_astore_n (x := none) (i := 3) (lv' := [(3, va_rf none), (0, va_rf this), (1, .int a1), (2, .int a2)]) hx hb dX11_leastBusyCourier_1 rfl hl (by decide) rfl (fun ls hl => ?_)
  refine lv_iconst (v := (0 : Int32)) hx hb dX11_leastBusyCourier_2 (by decide) ?_
  refine lv_istore (lv' := [(4, .int (0 : Int32)), (3, va_rf none), (0, va_rf this), (1, .int a1), (2, .int a2)]) hx hb dX11_leastBusyCourier_3 hl (by decide) (by simp [va_rf_cat, cat_i, cat_l]) (fun ls hl => ?_)
  exact L5 this a1 a2 _ _ _ _ _ _ _ _ h (Nat.zero_le _) (Nat.zero_le _) hw (lv_sub hl [2, 3, 4, 1, 0] rfl)

def f_X11_findCouriers_L24 (B : Nat) (n : Nat) (x0 : Option Nat) (x1 : Option Nat) (x2 : Int32) (x3 : Int32) (x4 : Int32) (x5 : Int32) : Nat → Mem → Int32 → Option (Int32 × Mem)
  | 0, _, _ => none
  | k + 1, Mz, x6 => (gR Mz x1 7 2).bind fun v5 => if isO Mz v5 2 = true then ((f_Jx4a65c_size_8abf5 Mz v5).bind fun r7 => if r7 ≤ x6 then (some (((1 : Int32), Mz))) else (if isO Mz x1 7 = true then ((f_X4_nextToGuard n Mz x1 x3).bind fun r10 => if r10 = none then (some (((1 : Int32), Mz))) else (if isO Mz x0 14 = true then ((f_X11_leastBusyCourier n Mz x0 x4 x5).bind fun r13 => if r13 = none then (some (((0 : Int32), Mz))) else ((gR Mz r13 5 2).bind fun v15 => if isO Mz v15 4 = true then ((f_X1_take B n Mz v15 x4 x5 x2).bind fun r17 => (gI r17 r13 5 0).bind fun v18 => if isO r17 r10 8 = true then ((f_X5_guardBy B r17 r10 v18 x3).bind fun r20 => f_X11_findCouriers_L24 B n x0 x1 x2 x3 x4 x5 k r20 (x6 + (1 : Int32))) else none) else none)) else none)) else none)) else none
def f_X11_findCouriers (B : Nat) (n : Nat) (M : Mem) (this : Option Nat) (a1 : Option Nat) (a2 : Int32) (a3 : Int32) : Option (Int32 × Mem) := if isO M a1 7 = true then ((f_X4_firstOf M a1 a3).bind fun r2 => (gR M a1 7 0).bind fun v3 => (gI M v3 6 0).bind fun v4 => f_X11_findCouriers_L24 B n this a1 a2 a3 r2 ((r2 + v4) - (1 : Int32)) n M (0 : Int32)) else none
def rmX11_findCouriers : Room := { frames := 5, cells := 0, slots := 0, locals := 115 }
theorem k_X11_findCouriers_350 : Cond.fieldLink RX11 350 "LoanBook$Loan" "borrower" "LLoanBook$House;" ∈ wsX11_findCouriers := List.mem_of_getElem? (i := 1) rfl
theorem ki_X11_findCouriers_X4 : ∀ w ∈ u_ws RX4 TX4 5, w ∈ wsX11_findCouriers := sub_r [118, 119, 120, 121, 122] (by decide +kernel)
theorem k_X11_findCouriers_318 : Cond.fieldLink RX11 318 "LoanBook$House" "way" "I" ∈ wsX11_findCouriers := List.mem_of_getElem? (i := 2) rfl
theorem ki_X11_findCouriers_X3 : ∀ w ∈ u_ws RX3 TX3 5, w ∈ wsX11_findCouriers := sub_r [123, 124, 125, 126, 127] (by decide +kernel)
theorem k_X11_findCouriers_230 : Cond.fieldLink RX11 230 "LoanBook$Loan" "parcels" "Ljava/util/ArrayList;" ∈ wsX11_findCouriers := List.mem_of_getElem? (i := 3) rfl
theorem k_X11_findCouriers_252 : Cond.fieldLink RX11 252 "LoanBook$Courier" "calendar" "LLoanBook$Calendar;" ∈ wsX11_findCouriers := List.mem_of_getElem? (i := 4) rfl
theorem ki_X11_findCouriers_X2 : ∀ w ∈ u_ws RX2 TX2 3, w ∈ wsX11_findCouriers := sub_r [128, 129, 130] (by decide +kernel)
theorem k_X11_findCouriers_365 : Cond.fieldLink RX11 365 "LoanBook$Courier" "number" "I" ∈ wsX11_findCouriers := List.mem_of_getElem? (i := 5) rfl
set_option maxHeartbeats 4000000 in
set_option maxRecDepth 100000 in
theorem c_X11_findCouriers {G : wG} {l : Launch} {n : Nat} {M : Mem} {sz : Nat} {this : Option Nat} {a1 : Option Nat} {a2 : Int32} {a3 : Int32} {r : Int32 × Mem} (h : f_X11_findCouriers G.2.2.1 n M this a1 a2 a3 = some r) : CtrI G l yX11_findCouriers wsX11_findCouriers rmX11_findCouriers [va_rf this, va_rf a1, .int a2, .int a3] M sz r.1 r.2 sz := by
  refine m_startZ (own := RX11) (cc := cX11_findCouriers) (maxL := 9) (lv0 := [(0, va_rf this), (1, va_rf a1), (2, .int a2), (3, .int a3)]) (by decide) rfl rfl (by simp [lg_sl, va_rf_cat, cat_i, cat_r]) (by simp [lv_args, va_rf_cat, cat_i, cat_r]) ?_
  intro p e s m args below meth c Q hC hname RET hsz hw ls hl
  have hx := hC.1
  have hb := hC.2.1
  have L24 : ∀ (x0 : Option Nat) (x1 : Option Nat) (x2 : Int32) (x3 : Int32) (x4 : Int32) (x5 : Int32) (k : Nat) (Mz : Mem) (x6 : Int32) (cells slots : Nat) (H : Heap) (locs : List Loc) (ls : Array Slot), f_X11_findCouriers_L24 G.2.2.1 n x0 x1 x2 x3 x4 x5 k Mz x6 = some r → cells ≤ 0 → slots ≤ 0 → wD G s M Mz sz H locs → lv_has ls 9 [(0, va_rf x0), (1, va_rf x1), (2, .int x2), (3, .int x3), (4, .int x4), (5, .int x5), (6, .int x6)] → W p l e rmX11_findCouriers s m args below meth c H locs cells slots Q (F0 m 24 ls []) := by
    intro x0 x1 x2 x3 x4 x5 k
    induction k with
    | zero =>
      intro Mz x6 cells slots H locs ls h
      exact absurd (show (none : Option (Int32 × Mem)) = some r from h) (fun z => by cases z)
    | succ k ih =>
      intro Mz x6 cells slots H locs ls h hcl hsl hw hl
      rw [f_X11_findCouriers_L24] at h
      refine lv_iload hx hb dX11_findCouriers_24 (lv_at hl 6 rfl) ?_
      refine m_aload_n (x := x1) hx hb dX11_findCouriers_26 rfl (lv_at hl 1 rfl) ?_
      obtain ⟨v5, hv5, h⟩ := ob h
      refine m_getR hC hw (C := RX4) (T := TX4) (N := 5) hv5 ki_X11_findCouriers_X4 rfl (by decide) k_X11_findCouriers_230 (fun _ z => z) dX11_findCouriers_27 ?_
      obtain ⟨g6, h⟩ := itg h
      obtain ⟨r7, hr7, h⟩ := ob h
      refine m_contI hC hw (m_runV hC hw (x := v5) (ci := 2) (N := 3) (C := RJx4a65c) (T := TJx4a65c) (n := 0) (av := []) (rest := [.int x6]) (c_Jx4a65c_size_8abf5 (G := G) (l := l) hr7) gX11_findCouriers_Jx4a65c_size_8abf5 rfl (by decide +kernel) ⟨(Nat.le_of_ble_eq_true rfl), (Nat.le_of_ble_eq_true rfl)⟩ g6 rfl rfl hl.1 rfl (Nat.le_of_ble_eq_true rfl) dX11_findCouriers_30 ⟨(show cells + 0 ≤ 0 from by omega), (show slots + 0 ≤ 0 from by omega)⟩) (fun H locs hw => ?_)
      refine lv_icmp_ge (tgt := 97) hx hb dX11_findCouriers_33 (by decide) (fun c8 => ?_) (fun c8 => ?_)
      · replace h := itt h c8
        refine lv_iconst (v := (1 : Int32)) hx hb dX11_findCouriers_97 (by decide) ?_
        replace h := Option.some.inj h
        subst h
        exact RET (isZ.nar (Or.inr rfl)) hw ⟨(show cells + 0 ≤ 0 from by omega), (show slots + 0 ≤ 0 from by omega)⟩ dX11_findCouriers_98
      · replace h := itf h c8
        refine m_aload_n (x := x1) hx hb dX11_findCouriers_36 rfl (lv_at hl 1 rfl) ?_
        refine lv_iload_n hx hb dX11_findCouriers_37 rfl (lv_at hl 3 rfl) ?_
        obtain ⟨g9, h⟩ := itg h
        obtain ⟨r10, hr10, h⟩ := ob h
        refine m_contQ hC hw (m_runV hC hw (x := x1) (ci := 7) (N := 5) (C := RX4) (T := TX4) (n := 1) (av := [.int x3]) (rest := []) (c_X4_nextToGuard (G := G) (l := l) hr10) gX11_findCouriers_X4_nextToGuard rfl (by decide +kernel) ⟨(Nat.le_of_ble_eq_true rfl), (Nat.le_of_ble_eq_true rfl)⟩ g9 rfl rfl hl.1 rfl (Nat.le_of_ble_eq_true rfl) dX11_findCouriers_38 ⟨(show cells + 0 ≤ 0 from by omega), (show slots + 0 ≤ 0 from by omega)⟩) (fun H locs hw => ?_)
        refine m_astore (x := r10) (lv' := [(7, va_rf r10), (0, va_rf x0), (1, va_rf x1), (2, .int x2), (3, .int x3), (4, .int x4), (5, .int x5), (6, .int x6)]) hx hb dX11_findCouriers_41 hl (by decide) rfl (fun ls hl => ?_)
        refine m_aload (x := r10) hx hb dX11_findCouriers_43 (lv_at hl 0 rfl) ?_
        refine m_ifnonnull (x := r10) (tgt := 50) hx hb dX11_findCouriers_45 (by decide) (fun c11 => ?_) (fun c11 => ?_)
        · replace h := itf h c11
          refine m_aload_n (x := x0) hx hb dX11_findCouriers_50 rfl (lv_at hl 1 rfl) ?_
          refine lv_iload hx hb dX11_findCouriers_51 (lv_at hl 5 rfl) ?_
          refine lv_iload hx hb dX11_findCouriers_53 (lv_at hl 6 rfl) ?_
          obtain ⟨g12, h⟩ := itg h
          obtain ⟨r13, hr13, h⟩ := ob h
          refine m_contQ hC hw (m_runV hC hw (x := x0) (ci := 14) (N := 11) (C := RX11) (T := TX11) (n := 2) (av := [.int x4, .int x5]) (rest := []) (c_X11_leastBusyCourier (G := G) (l := l) hr13) gX11_findCouriers_X11_leastBusyCourier rfl (by decide +kernel) ⟨(Nat.le_of_ble_eq_true rfl), (Nat.le_of_ble_eq_true rfl)⟩ g12 rfl rfl hl.1 rfl (Nat.le_of_ble_eq_true rfl) dX11_findCouriers_55 ⟨(show cells + 0 ≤ 0 from by omega), (show slots + 0 ≤ 0 from by omega)⟩) (fun H locs hw => ?_)
          refine m_astore (x := r13) (lv' := [(8, va_rf r13), (7, va_rf r10), (0, va_rf x0), (1, va_rf x1), (2, .int x2), (3, .int x3), (4, .int x4), (5, .int x5), (6, .int x6)]) hx hb dX11_findCouriers_58 hl (by decide) (by simp [va_rf_cat, cat_i, cat_l]) (fun ls hl => ?_)
          refine m_aload (x := r13) hx hb dX11_findCouriers_60 (lv_at hl 0 rfl) ?_
          refine m_ifnonnull (x := r13) (tgt := 67) hx hb dX11_findCouriers_62 (by decide) (fun c14 => ?_) (fun c14 => ?_)
          · replace h := itf h c14
            refine m_aload (x := r13) hx hb dX11_findCouriers_67 (lv_at hl 0 rfl) ?_
            obtain ⟨v15, hv15, h⟩ := ob h
            refine m_getR hC hw (C := RX2) (T := TX2) (N := 3) hv15 ki_X11_findCouriers_X2 rfl (by decide) k_X11_findCouriers_252 (fun _ z => z) dX11_findCouriers_69 ?_
            refine lv_iload hx hb dX11_findCouriers_72 (lv_at hl 6 rfl) ?_
            refine lv_iload hx hb dX11_findCouriers_74 (lv_at hl 7 rfl) ?_
            refine lv_iload_n hx hb dX11_findCouriers_76 rfl (lv_at hl 4 rfl) ?_
            obtain ⟨g16, h⟩ := itg h
            obtain ⟨r17, hr17, h⟩ := ob h
            refine m_contV hC hw (m_runV hC hw (x := v15) (ci := 4) (N := 2) (C := RX1) (T := TX1) (n := 3) (av := [.int x4, .int x5, .int x2]) (rest := []) (c_X1_take (G := G) (l := l) hr17) gX11_findCouriers_X1_take rfl (by decide +kernel) ⟨(Nat.le_of_ble_eq_true rfl), (Nat.le_of_ble_eq_true rfl)⟩ g16 rfl rfl hl.1 rfl (Nat.le_of_ble_eq_true rfl) dX11_findCouriers_77 ⟨(show cells + 0 ≤ 0 from by omega), (show slots + 0 ≤ 0 from by omega)⟩) (fun H locs hw => ?_)
            refine m_aload (x := r10) hx hb dX11_findCouriers_80 (lv_at hl 1 rfl) ?_
            refine m_aload (x := r13) hx hb dX11_findCouriers_82 (lv_at hl 0 rfl) ?_
            obtain ⟨v18, hv18, h⟩ := ob h
            refine m_getI hC hw (C := RX2) (T := TX2) (N := 3) hv18 ki_X11_findCouriers_X2 rfl (by decide) k_X11_findCouriers_365 (fun _ z => z) dX11_findCouriers_84 ?_
            refine lv_iload_n hx hb dX11_findCouriers_87 rfl (lv_at hl 5 rfl) ?_
            obtain ⟨g19, h⟩ := itg h
            obtain ⟨r20, hr20, h⟩ := ob h
            refine m_contV hC hw (m_runV hC hw (x := r10) (ci := 8) (N := 4) (C := RX5) (T := TX5) (n := 2) (av := [.int v18, .int x3]) (rest := []) (c_X5_guardBy (G := G) (l := l) hr20) gX11_findCouriers_X5_guardBy rfl (by decide +kernel) ⟨(Nat.le_of_ble_eq_true rfl), (Nat.le_of_ble_eq_true rfl)⟩ g19 rfl rfl hl.1 rfl (Nat.le_of_ble_eq_true rfl) dX11_findCouriers_88 ⟨(show cells + 0 ≤ 0 from by omega), (show slots + 0 ≤ 0 from by omega)⟩) (fun H locs hw => ?_)
            refine lv_iinc (v := (x6 + (1 : Int32))) (lv' := [(6, .int (x6 + (1 : Int32))), (8, va_rf r13), (7, va_rf r10), (0, va_rf x0), (1, va_rf x1), (2, .int x2), (3, .int x3), (4, .int x4), (5, .int x5)]) hx hb dX11_findCouriers_91 hl (k := 8) rfl rfl (by decide) rfl (fun ls hl => ?_)
            refine lv_goto (tgt := 24) hx hb dX11_findCouriers_94 (by decide) ?_
            exact ih _ _ _ _ _ _ _ h hcl hsl hw (lv_sub hl [3, 4, 5, 6, 7, 8, 0] rfl)
          · replace h := itt h c14
            refine lv_iconst (v := (0 : Int32)) hx hb dX11_findCouriers_65 (by decide) ?_
            replace h := Option.some.inj h
            subst h
            exact RET (isZ.nar (Or.inl rfl)) hw ⟨(show cells + 0 ≤ 0 from by omega), (show slots + 0 ≤ 0 from by omega)⟩ dX11_findCouriers_66
        · replace h := itt h c11
          refine lv_iconst (v := (1 : Int32)) hx hb dX11_findCouriers_48 (by decide) ?_
          replace h := Option.some.inj h
          subst h
          exact RET (isZ.nar (Or.inr rfl)) hw ⟨(show cells + 0 ≤ 0 from by omega), (show slots + 0 ≤ 0 from by omega)⟩ dX11_findCouriers_49
  unfold f_X11_findCouriers at h
  refine m_aload_n (x := a1) hx hb dX11_findCouriers_0 rfl (lv_at hl 1 rfl) ?_
  refine lv_iload_n hx hb dX11_findCouriers_1 rfl (lv_at hl 3 rfl) ?_
  obtain ⟨g1, h⟩ := itg h
  obtain ⟨r2, hr2, h⟩ := ob h
  refine m_contI hC hw (m_runV hC hw (x := a1) (ci := 7) (N := 5) (C := RX4) (T := TX4) (n := 1) (av := [.int a3]) (rest := []) (c_X4_firstOf (G := G) (l := l) hr2) gX11_findCouriers_X4_firstOf rfl (by decide +kernel) ⟨(Nat.le_of_ble_eq_true rfl), (Nat.le_of_ble_eq_true rfl)⟩ g1 rfl rfl hl.1 rfl (Nat.le_of_ble_eq_true rfl) dX11_findCouriers_2 ⟨(Nat.zero_le _), (Nat.zero_le _)⟩) (fun H locs hw => ?_)
  refine lv_istore (lv' := [(4, .int r2), (0, va_rf this), (1, va_rf a1), (2, .int a2), (3, .int a3)]) hx hb dX11_findCouriers_5 hl (by decide) rfl (fun ls hl => ?_)
  refine lv_iload hx hb dX11_findCouriers_7 (lv_at hl 0 rfl) ?_
  refine m_aload_n (x := a1) hx hb dX11_findCouriers_9 rfl (lv_at hl 2 rfl) ?_
  obtain ⟨v3, hv3, h⟩ := ob h
  refine m_getR hC hw (C := RX4) (T := TX4) (N := 5) hv3 ki_X11_findCouriers_X4 rfl (by decide) k_X11_findCouriers_350 (fun _ z => z) dX11_findCouriers_10 ?_
  obtain ⟨v4, hv4, h⟩ := ob h
  refine m_getI hC hw (C := RX3) (T := TX3) (N := 5) hv4 ki_X11_findCouriers_X3 rfl (by decide) k_X11_findCouriers_318 (fun _ z => z) dX11_findCouriers_13 ?_
  refine lv_iadd hx hb dX11_findCouriers_16 ?_
  refine lv_iconst (v := (1 : Int32)) hx hb dX11_findCouriers_17 (by decide) ?_
  refine lv_isub hx hb dX11_findCouriers_18 ?_
  refine lv_istore (lv' := [(5, .int ((r2 + v4) - (1 : Int32))), (4, .int r2), (0, va_rf this), (1, va_rf a1), (2, .int a2), (3, .int a3)]) hx hb dX11_findCouriers_19 hl (by decide) rfl (fun ls hl => ?_)
  refine lv_iconst (v := (0 : Int32)) hx hb dX11_findCouriers_21 (by decide) ?_
  refine lv_istore (lv' := [(6, .int (0 : Int32)), (5, .int ((r2 + v4) - (1 : Int32))), (4, .int r2), (0, va_rf this), (1, va_rf a1), (2, .int a2), (3, .int a3)]) hx hb dX11_findCouriers_22 hl (by decide) rfl (fun ls hl => ?_)
  exact L24 this a1 a2 a3 r2 ((r2 + v4) - (1 : Int32)) _ _ _ _ _ _ _ _ h (Nat.zero_le _) (Nat.zero_le _) hw (lv_sub hl [3, 4, 5, 6, 2, 1, 0] rfl)

def f_X11_releaseCouriers_L2 (B : Nat) (n : Nat) (x0 : Option Nat) (x1 : Int32) : Nat → Mem → Int32 → Option (Mem)
  | 0, _, _ => none
  | k + 1, Mz, x2 => (gR Mz x0 14 4).bind fun v1 => if isO Mz v1 2 = true then ((f_Jx4a65c_size_8abf5 Mz v1).bind fun r3 => if r3 ≤ x2 then (some (Mz)) else ((gR Mz x0 14 4).bind fun v5 => if isO Mz v5 2 = true then ((f_Jx4a65c_get_915e3 Mz v5 x2).bind fun r7 => if r7 = none ∨ isO Mz r7 5 = true then ((gR Mz r7 5 2).bind fun v9 => if isO Mz v9 4 = true then ((f_X1_release B n Mz v9 x1).bind fun r11 => f_X11_releaseCouriers_L2 B n x0 x1 k r11 (x2 + (1 : Int32))) else none) else none) else none)) else none
def f_X11_releaseCouriers (B : Nat) (n : Nat) (M : Mem) (this : Option Nat) (a1 : Int32) : Option (Mem) := f_X11_releaseCouriers_L2 B n this a1 n M (0 : Int32)
def rmX11_releaseCouriers : Room := { frames := 3, cells := 0, slots := 0, locals := 64 }
theorem k_X11_releaseCouriers_33 : Cond.fieldLink RX11 33 "LoanBook" "couriers" "Ljava/util/ArrayList;" ∈ wsX11_releaseCouriers := List.mem_of_getElem? (i := 1) rfl
theorem ki_X11_releaseCouriers_X11 : ∀ w ∈ u_ws RX11 TX11 11, w ∈ wsX11_releaseCouriers := sub_r [34, 35, 36, 37, 38, 39, 40, 41, 42, 43, 44] (by decide +kernel)
theorem k_X11_releaseCouriers_cc115 : Cond.classLink RX11 115 RX2 ∈ wsX11_releaseCouriers := List.mem_of_getElem? (i := 2) rfl
theorem k_X11_releaseCouriers_252 : Cond.fieldLink RX11 252 "LoanBook$Courier" "calendar" "LLoanBook$Calendar;" ∈ wsX11_releaseCouriers := List.mem_of_getElem? (i := 3) rfl
theorem ki_X11_releaseCouriers_X2 : ∀ w ∈ u_ws RX2 TX2 3, w ∈ wsX11_releaseCouriers := sub_r [45, 46, 47] (by decide +kernel)
set_option maxHeartbeats 4000000 in
set_option maxRecDepth 100000 in
theorem c_X11_releaseCouriers {G : wG} {l : Launch} {n : Nat} {M : Mem} {sz : Nat} {this : Option Nat} {a1 : Int32} {r : Mem} (h : f_X11_releaseCouriers G.2.2.1 n M this a1 = some r) : CtrV G l yX11_releaseCouriers wsX11_releaseCouriers rmX11_releaseCouriers [va_rf this, .int a1] M sz r sz := by
  refine m_startV (own := RX11) (cc := cX11_releaseCouriers) (maxL := 3) (lv0 := [(0, va_rf this), (1, .int a1)]) (by decide) rfl rfl (by simp [lg_sl, va_rf_cat, cat_i, cat_r]) (by simp [lv_args, va_rf_cat, cat_i, cat_r]) ?_
  intro p e s m args below meth c Q hC hname RET hsz hw ls hl
  have hx := hC.1
  have hb := hC.2.1
  have L2 : ∀ (x0 : Option Nat) (x1 : Int32) (k : Nat) (Mz : Mem) (x2 : Int32) (cells slots : Nat) (H : Heap) (locs : List Loc) (ls : Array Slot), f_X11_releaseCouriers_L2 G.2.2.1 n x0 x1 k Mz x2 = some r → cells ≤ 0 → slots ≤ 0 → wD G s M Mz sz H locs → lv_has ls 3 [(0, va_rf x0), (1, .int x1), (2, .int x2)] → W p l e rmX11_releaseCouriers s m args below meth c H locs cells slots Q (F0 m 2 ls []) := by
    intro x0 x1 k
    induction k with
    | zero =>
      intro Mz x2 cells slots H locs ls h
      exact absurd (show (none : Option (Mem)) = some r from h) (fun z => by cases z)
    | succ k ih =>
      intro Mz x2 cells slots H locs ls h hcl hsl hw hl
      rw [f_X11_releaseCouriers_L2] at h
      refine lv_iload_n hx hb dX11_releaseCouriers_2 rfl (lv_at hl 2 rfl) ?_
      refine m_aload_n (x := x0) hx hb dX11_releaseCouriers_3 rfl (lv_at hl 0 rfl) ?_
      obtain ⟨v1, hv1, h⟩ := ob h
      refine m_getR hC hw (C := RX11) (T := TX11) (N := 11) hv1 ki_X11_releaseCouriers_X11 rfl (by decide) k_X11_releaseCouriers_33 (fun _ z => z) dX11_releaseCouriers_4 ?_
      obtain ⟨g2, h⟩ := itg h
      obtain ⟨r3, hr3, h⟩ := ob h
      refine m_contI hC hw (m_runV hC hw (x := v1) (ci := 2) (N := 3) (C := RJx4a65c) (T := TJx4a65c) (n := 0) (av := []) (rest := [.int x2]) (c_Jx4a65c_size_8abf5 (G := G) (l := l) hr3) gX11_releaseCouriers_Jx4a65c_size_8abf5 rfl (by decide +kernel) ⟨(Nat.le_of_ble_eq_true rfl), (Nat.le_of_ble_eq_true rfl)⟩ g2 rfl rfl hl.1 rfl (Nat.le_of_ble_eq_true rfl) dX11_releaseCouriers_7 ⟨(show cells + 0 ≤ 0 from by omega), (show slots + 0 ≤ 0 from by omega)⟩) (fun H locs hw => ?_)
      refine lv_icmp_ge (tgt := 37) hx hb dX11_releaseCouriers_10 (by decide) (fun c4 => ?_) (fun c4 => ?_)
      · replace h := itt h c4
        replace h := Option.some.inj h
        subst h
        exact RET hw ⟨(show cells + 0 ≤ 0 from by omega), (show slots + 0 ≤ 0 from by omega)⟩ dX11_releaseCouriers_37
      · replace h := itf h c4
        refine m_aload_n (x := x0) hx hb dX11_releaseCouriers_13 rfl (lv_at hl 0 rfl) ?_
        obtain ⟨v5, hv5, h⟩ := ob h
        refine m_getR hC hw (C := RX11) (T := TX11) (N := 11) hv5 ki_X11_releaseCouriers_X11 rfl (by decide) k_X11_releaseCouriers_33 (fun _ z => z) dX11_releaseCouriers_14 ?_
        refine lv_iload_n hx hb dX11_releaseCouriers_17 rfl (lv_at hl 2 rfl) ?_
        obtain ⟨g6, h⟩ := itg h
        obtain ⟨r7, hr7, h⟩ := ob h
        refine m_contQ hC hw (m_runV hC hw (x := v5) (ci := 2) (N := 3) (C := RJx4a65c) (T := TJx4a65c) (n := 1) (av := [.int x2]) (rest := []) (c_Jx4a65c_get_915e3 (G := G) (l := l) hr7) gX11_releaseCouriers_Jx4a65c_get_915e3 rfl (by decide +kernel) ⟨(Nat.le_of_ble_eq_true rfl), (Nat.le_of_ble_eq_true rfl)⟩ g6 rfl rfl hl.1 rfl (Nat.le_of_ble_eq_true rfl) dX11_releaseCouriers_18 ⟨(show cells + 0 ≤ 0 from by omega), (show slots + 0 ≤ 0 from by omega)⟩) (fun H locs hw => ?_)
        obtain ⟨g8, h⟩ := itg h
        refine m_cast (x := r7) hC hw (C := RX2) (T := TX2) (N := 3) g8 k_X11_releaseCouriers_cc115 rfl dX11_releaseCouriers_21 ?_
        obtain ⟨v9, hv9, h⟩ := ob h
        refine m_getR hC hw (C := RX2) (T := TX2) (N := 3) hv9 ki_X11_releaseCouriers_X2 rfl (by decide) k_X11_releaseCouriers_252 (fun _ z => z) dX11_releaseCouriers_24 ?_
        refine lv_iload_n hx hb dX11_releaseCouriers_27 rfl (lv_at hl 1 rfl) ?_
        obtain ⟨g10, h⟩ := itg h
        obtain ⟨r11, hr11, h⟩ := ob h
        refine m_contV hC hw (m_runV hC hw (x := v9) (ci := 4) (N := 2) (C := RX1) (T := TX1) (n := 1) (av := [.int x1]) (rest := []) (c_X1_release (G := G) (l := l) hr11) gX11_releaseCouriers_X1_release rfl (by decide +kernel) ⟨(Nat.le_of_ble_eq_true rfl), (Nat.le_of_ble_eq_true rfl)⟩ g10 rfl rfl hl.1 rfl (Nat.le_of_ble_eq_true rfl) dX11_releaseCouriers_28 ⟨(show cells + 0 ≤ 0 from by omega), (show slots + 0 ≤ 0 from by omega)⟩) (fun H locs hw => ?_)
        refine lv_iinc (v := (x2 + (1 : Int32))) (lv' := [(2, .int (x2 + (1 : Int32))), (0, va_rf x0), (1, .int x1)]) hx hb dX11_releaseCouriers_31 hl (k := 2) rfl rfl (by decide) rfl (fun ls hl => ?_)
        refine lv_goto (tgt := 2) hx hb dX11_releaseCouriers_34 (by decide) ?_
        exact ih _ _ _ _ _ _ _ h hcl hsl hw (lv_sub hl [1, 2, 0] rfl)
  unfold f_X11_releaseCouriers at h
  refine lv_iconst (v := (0 : Int32)) hx hb dX11_releaseCouriers_0 (by decide) ?_
  refine lv_istore_n (i := 2) (lv' := [(2, .int (0 : Int32)), (0, va_rf this), (1, .int a1)]) hx hb dX11_releaseCouriers_1 rfl hl (by decide) rfl (fun ls hl => ?_)
  exact L2 this a1 _ _ _ _ _ _ _ _ h (Nat.zero_le _) (Nat.zero_le _) hw (lv_sub hl [1, 2, 0] rfl)

def f_X11_takeThings_L2 (B : Nat) (n : Nat) (x0 : Option Nat) (x1 : Option Nat) (x2 : Int32) : Nat → Mem → Int32 → Option (Mem)
  | 0, _, _ => none
  | k + 1, Mz, x3 => (gR Mz x0 14 2).bind fun v1 => if isO Mz v1 2 = true then ((f_Jx4a65c_size_8abf5 Mz v1).bind fun r3 => if r3 ≤ x3 then (some (Mz)) else ((gR Mz x0 14 2).bind fun v5 => if isO Mz v5 2 = true then ((f_Jx4a65c_get_915e3 Mz v5 x3).bind fun r7 => if r7 = none ∨ isO Mz r7 13 = true then (if isO Mz x1 7 = true then ((f_X4_parcelWith n Mz x1 x3).bind fun r10 => if r10 = (-1 : Int32) then (f_X11_takeThings_L2 B n x0 x1 x2 k Mz (x3 + (1 : Int32))) else ((gR Mz r7 13 4).bind fun v12 => (gI Mz x1 7 1).bind fun v13 => if isO Mz x1 7 = true then ((f_X4_last Mz x1).bind fun r15 => if isO Mz v12 4 = true then ((f_X1_take B n Mz v12 v13 r15 x2).bind fun r17 => f_X11_takeThings_L2 B n x0 x1 x2 k r17 (x3 + (1 : Int32))) else none) else none)) else none) else none) else none)) else none
def f_X11_takeThings (B : Nat) (n : Nat) (M : Mem) (this : Option Nat) (a1 : Option Nat) (a2 : Int32) : Option (Mem) := f_X11_takeThings_L2 B n this a1 a2 n M (0 : Int32)
def rmX11_takeThings : Room := { frames := 5, cells := 0, slots := 0, locals := 108 }
theorem k_X11_takeThings_26 : Cond.fieldLink RX11 26 "LoanBook" "things" "Ljava/util/ArrayList;" ∈ wsX11_takeThings := List.mem_of_getElem? (i := 1) rfl
theorem ki_X11_takeThings_X11 : ∀ w ∈ u_ws RX11 TX11 11, w ∈ wsX11_takeThings := sub_r [70, 71, 72, 73, 74, 75, 76, 77, 78, 79, 80] (by decide +kernel)
theorem k_X11_takeThings_cc85 : Cond.classLink RX11 85 RX10 ∈ wsX11_takeThings := List.mem_of_getElem? (i := 2) rfl
theorem k_X11_takeThings_211 : Cond.fieldLink RX11 211 "LoanBook$Thing" "calendar" "LLoanBook$Calendar;" ∈ wsX11_takeThings := List.mem_of_getElem? (i := 3) rfl
theorem ki_X11_takeThings_X10 : ∀ w ∈ u_ws RX10 TX10 9, w ∈ wsX11_takeThings := sub_r [81, 82, 83, 84, 85, 86, 87, 88, 89] (by decide +kernel)
theorem k_X11_takeThings_371 : Cond.fieldLink RX11 371 "LoanBook$Loan" "first" "I" ∈ wsX11_takeThings := List.mem_of_getElem? (i := 4) rfl
theorem ki_X11_takeThings_X4 : ∀ w ∈ u_ws RX4 TX4 5, w ∈ wsX11_takeThings := sub_r [90, 91, 92, 93, 94] (by decide +kernel)
set_option maxHeartbeats 4000000 in
set_option maxRecDepth 100000 in
theorem c_X11_takeThings {G : wG} {l : Launch} {n : Nat} {M : Mem} {sz : Nat} {this : Option Nat} {a1 : Option Nat} {a2 : Int32} {r : Mem} (h : f_X11_takeThings G.2.2.1 n M this a1 a2 = some r) : CtrV G l yX11_takeThings wsX11_takeThings rmX11_takeThings [va_rf this, va_rf a1, .int a2] M sz r sz := by
  refine m_startV (own := RX11) (cc := cX11_takeThings) (maxL := 5) (lv0 := [(0, va_rf this), (1, va_rf a1), (2, .int a2)]) (by decide) rfl rfl (by simp [lg_sl, va_rf_cat, cat_i, cat_r]) (by simp [lv_args, va_rf_cat, cat_i, cat_r]) ?_
  intro p e s m args below meth c Q hC hname RET hsz hw ls hl
  have hx := hC.1
  have hb := hC.2.1
  have L2 : ∀ (x0 : Option Nat) (x1 : Option Nat) (x2 : Int32) (k : Nat) (Mz : Mem) (x3 : Int32) (cells slots : Nat) (H : Heap) (locs : List Loc) (ls : Array Slot), f_X11_takeThings_L2 G.2.2.1 n x0 x1 x2 k Mz x3 = some r → cells ≤ 0 → slots ≤ 0 → wD G s M Mz sz H locs → lv_has ls 5 [(0, va_rf x0), (1, va_rf x1), (2, .int x2), (3, .int x3)] → W p l e rmX11_takeThings s m args below meth c H locs cells slots Q (F0 m 2 ls []) := by
    intro x0 x1 x2 k
    induction k with
    | zero =>
      intro Mz x3 cells slots H locs ls h
      exact absurd (show (none : Option (Mem)) = some r from h) (fun z => by cases z)
    | succ k ih =>
      intro Mz x3 cells slots H locs ls h hcl hsl hw hl
      rw [f_X11_takeThings_L2] at h
      refine lv_iload_n hx hb dX11_takeThings_2 rfl (lv_at hl 3 rfl) ?_
      refine m_aload_n (x := x0) hx hb dX11_takeThings_3 rfl (lv_at hl 0 rfl) ?_
      obtain ⟨v1, hv1, h⟩ := ob h
      refine m_getR hC hw (C := RX11) (T := TX11) (N := 11) hv1 ki_X11_takeThings_X11 rfl (by decide) k_X11_takeThings_26 (fun _ z => z) dX11_takeThings_4 ?_
      obtain ⟨g2, h⟩ := itg h
      obtain ⟨r3, hr3, h⟩ := ob h
      refine m_contI hC hw (m_runV hC hw (x := v1) (ci := 2) (N := 3) (C := RJx4a65c) (T := TJx4a65c) (n := 0) (av := []) (rest := [.int x3]) (c_Jx4a65c_size_8abf5 (G := G) (l := l) hr3) gX11_takeThings_Jx4a65c_size_8abf5 rfl (by decide +kernel) ⟨(Nat.le_of_ble_eq_true rfl), (Nat.le_of_ble_eq_true rfl)⟩ g2 rfl rfl hl.1 rfl (Nat.le_of_ble_eq_true rfl) dX11_takeThings_7 ⟨(show cells + 0 ≤ 0 from by omega), (show slots + 0 ≤ 0 from by omega)⟩) (fun H locs hw => ?_)
      refine lv_icmp_ge (tgt := 58) hx hb dX11_takeThings_10 (by decide) (fun c4 => ?_) (fun c4 => ?_)
      · replace h := itt h c4
        replace h := Option.some.inj h
        subst h
        exact RET hw ⟨(show cells + 0 ≤ 0 from by omega), (show slots + 0 ≤ 0 from by omega)⟩ dX11_takeThings_58
      · replace h := itf h c4
        refine m_aload_n (x := x0) hx hb dX11_takeThings_13 rfl (lv_at hl 0 rfl) ?_
        obtain ⟨v5, hv5, h⟩ := ob h
        refine m_getR hC hw (C := RX11) (T := TX11) (N := 11) hv5 ki_X11_takeThings_X11 rfl (by decide) k_X11_takeThings_26 (fun _ z => z) dX11_takeThings_14 ?_
        refine lv_iload_n hx hb dX11_takeThings_17 rfl (lv_at hl 3 rfl) ?_
        obtain ⟨g6, h⟩ := itg h
        obtain ⟨r7, hr7, h⟩ := ob h
        refine m_contQ hC hw (m_runV hC hw (x := v5) (ci := 2) (N := 3) (C := RJx4a65c) (T := TJx4a65c) (n := 1) (av := [.int x3]) (rest := []) (c_Jx4a65c_get_915e3 (G := G) (l := l) hr7) gX11_takeThings_Jx4a65c_get_915e3 rfl (by decide +kernel) ⟨(Nat.le_of_ble_eq_true rfl), (Nat.le_of_ble_eq_true rfl)⟩ g6 rfl rfl hl.1 rfl (Nat.le_of_ble_eq_true rfl) dX11_takeThings_18 ⟨(show cells + 0 ≤ 0 from by omega), (show slots + 0 ≤ 0 from by omega)⟩) (fun H locs hw => ?_)
        obtain ⟨g8, h⟩ := itg h
        refine m_cast (x := r7) hC hw (C := RX10) (T := TX10) (N := 9) g8 k_X11_takeThings_cc85 rfl dX11_takeThings_21 ?_
        refine m_astore (x := r7) (lv' := [(4, va_rf r7), (0, va_rf x0), (1, va_rf x1), (2, .int x2), (3, .int x3)]) hx hb dX11_takeThings_24 hl (by decide) rfl (fun ls hl => ?_)
        refine m_aload_n (x := x1) hx hb dX11_takeThings_26 rfl (lv_at hl 2 rfl) ?_
        refine lv_iload_n hx hb dX11_takeThings_27 rfl (lv_at hl 4 rfl) ?_
        obtain ⟨g9, h⟩ := itg h
        obtain ⟨r10, hr10, h⟩ := ob h
        refine m_contI hC hw (m_runV hC hw (x := x1) (ci := 7) (N := 5) (C := RX4) (T := TX4) (n := 1) (av := [.int x3]) (rest := []) (c_X4_parcelWith (G := G) (l := l) hr10) gX11_takeThings_X4_parcelWith rfl (by decide +kernel) ⟨(Nat.le_of_ble_eq_true rfl), (Nat.le_of_ble_eq_true rfl)⟩ g9 rfl rfl hl.1 rfl (Nat.le_of_ble_eq_true rfl) dX11_takeThings_28 ⟨(show cells + 0 ≤ 0 from by omega), (show slots + 0 ≤ 0 from by omega)⟩) (fun H locs hw => ?_)
        refine lv_iconst (v := (-1 : Int32)) hx hb dX11_takeThings_31 (by decide) ?_
        refine lv_icmp_eq (tgt := 52) hx hb dX11_takeThings_32 (by decide) (fun c11 => ?_) (fun c11 => ?_)
        · replace h := itt h c11
          refine lv_iinc (v := (x3 + (1 : Int32))) (lv' := [(3, .int (x3 + (1 : Int32))), (4, va_rf r7), (0, va_rf x0), (1, va_rf x1), (2, .int x2)]) hx hb dX11_takeThings_52 hl (k := 4) rfl rfl (by decide) rfl (fun ls hl => ?_)
          refine lv_goto (tgt := 2) hx hb dX11_takeThings_55 (by decide) ?_
          exact ih _ _ _ _ _ _ _ h hcl hsl hw (lv_sub hl [2, 3, 4, 0] rfl)
        · replace h := itf h c11
          refine m_aload (x := r7) hx hb dX11_takeThings_35 (lv_at hl 0 rfl) ?_
          obtain ⟨v12, hv12, h⟩ := ob h
          refine m_getR hC hw (C := RX10) (T := TX10) (N := 9) hv12 ki_X11_takeThings_X10 rfl (by decide) k_X11_takeThings_211 (fun _ z => z) dX11_takeThings_37 ?_
          refine m_aload_n (x := x1) hx hb dX11_takeThings_40 rfl (lv_at hl 2 rfl) ?_
          obtain ⟨v13, hv13, h⟩ := ob h
          refine m_getI hC hw (C := RX4) (T := TX4) (N := 5) hv13 ki_X11_takeThings_X4 rfl (by decide) k_X11_takeThings_371 (fun _ z => z) dX11_takeThings_41 ?_
          refine m_aload_n (x := x1) hx hb dX11_takeThings_44 rfl (lv_at hl 2 rfl) ?_
          obtain ⟨g14, h⟩ := itg h
          obtain ⟨r15, hr15, h⟩ := ob h
          refine m_contI hC hw (m_runV hC hw (x := x1) (ci := 7) (N := 5) (C := RX4) (T := TX4) (n := 0) (av := []) (rest := [.int v13, va_rf v12]) (c_X4_last (G := G) (l := l) hr15) gX11_takeThings_X4_last rfl (by decide +kernel) ⟨(Nat.le_of_ble_eq_true rfl), (Nat.le_of_ble_eq_true rfl)⟩ g14 rfl rfl hl.1 rfl (by simp [va_rf_cat, cat_i, cat_r, cat_l]) dX11_takeThings_45 ⟨(show cells + 0 ≤ 0 from by omega), (show slots + 0 ≤ 0 from by omega)⟩) (fun H locs hw => ?_)
          refine lv_iload_n hx hb dX11_takeThings_48 rfl (lv_at hl 3 rfl) ?_
          obtain ⟨g16, h⟩ := itg h
          obtain ⟨r17, hr17, h⟩ := ob h
          refine m_contV hC hw (m_runV hC hw (x := v12) (ci := 4) (N := 2) (C := RX1) (T := TX1) (n := 3) (av := [.int v13, .int r15, .int x2]) (rest := []) (c_X1_take (G := G) (l := l) hr17) gX11_takeThings_X1_take rfl (by decide +kernel) ⟨(Nat.le_of_ble_eq_true rfl), (Nat.le_of_ble_eq_true rfl)⟩ g16 rfl rfl hl.1 rfl (Nat.le_of_ble_eq_true rfl) dX11_takeThings_49 ⟨(show cells + 0 ≤ 0 from by omega), (show slots + 0 ≤ 0 from by omega)⟩) (fun H locs hw => ?_)
          refine lv_iinc (v := (x3 + (1 : Int32))) (lv' := [(3, .int (x3 + (1 : Int32))), (4, va_rf r7), (0, va_rf x0), (1, va_rf x1), (2, .int x2)]) hx hb dX11_takeThings_52 hl (k := 4) rfl rfl (by decide) rfl (fun ls hl => ?_)
          refine lv_goto (tgt := 2) hx hb dX11_takeThings_55 (by decide) ?_
          exact ih _ _ _ _ _ _ _ h hcl hsl hw (lv_sub hl [2, 3, 4, 0] rfl)
  unfold f_X11_takeThings at h
  refine lv_iconst (v := (0 : Int32)) hx hb dX11_takeThings_0 (by decide) ?_
  refine lv_istore_n (i := 3) (lv' := [(3, .int (0 : Int32)), (0, va_rf this), (1, va_rf a1), (2, .int a2)]) hx hb dX11_takeThings_1 rfl hl (by decide) rfl (fun ls hl => ?_)
  exact L2 this a1 a2 _ _ _ _ _ _ _ _ h (Nat.zero_le _) (Nat.zero_le _) hw (lv_sub hl [1, 2, 3, 0] rfl)

def f_X11_loan (B : Nat) (S : Nat → Nat) (n : Nat) (M : Mem) (sz : Nat) (this : Option Nat) (a1 : Int32) : Option (Int32 × Mem × Nat) := if isO M this 14 = true then ((f_X11_houseAt M this a1).bind fun r2 => if r2 = none then ((gR M this 14 0).bind fun v61 => if isO M v61 12 = true then ((f_X9_keep B M v61 (0 : Int32)).bind fun r63 => if isO r63 this 14 = true then ((f_X11_refuse B r63 this (1 : Int32)).bind fun r65 => some (r65.1, r65.2, sz)) else none) else none) else ((gR M this 14 1).bind fun v4 => (gR M this 14 0).bind fun v5 => if isO M v4 10 = true then ((f_X7_begin B S n M v4 v5).bind fun r7 => (gR r7 this 14 0).bind fun v8 => if isO r7 v8 12 = true then ((f_X9_keep B r7 v8 (0 : Int32)).bind fun r10 => (gR r10 this 14 1).bind fun v11 => if isO r10 v11 10 = true then ((f_X7_readsLoan B n r10 v11).bind fun r13 => (gR r13.2 this 14 5).bind fun v14 => if isO r13.2 v14 2 = true then ((f_Jx4a65c_size_8abf5 r13.2 v14).bind fun r16 => ((if r13.1 = 0 then (some ((0 : Int32))) else (if isO r13.2 this 14 = true then ((f_X11_faultInLoan n r13.2 this r2).bind fun r20 => some (r20)) else none)) : Option (Int32)).bind fun o21 => ((if r13.1 = 0 then (some (o21, none, r13.2, sz)) else (if o21 = 0 then (if isO r13.2 this 14 = true then ((f_X11_draftLoan B S n r13.2 sz this r2).bind fun r26 => if isO r26.2.1 this 14 = true then ((f_X11_findCouriers B n r26.2.1 this r26.1 r16 (0 : Int32)).bind fun r28 => if r28.1 = 0 then (some ((8 : Int32), r26.1, r28.2, r26.2.2)) else (if isO r28.2 this 14 = true then ((f_X11_findCouriers B n r28.2 this r26.1 r16 (1 : Int32)).bind fun r32 => if r32.1 = 0 then (some ((8 : Int32), r26.1, r32.2, r26.2.2)) else (some ((0 : Int32), r26.1, r32.2, r26.2.2))) else none)) else none) else none) else (some (o21, none, r13.2, sz)))) : Option (Int32 × Option Nat × Mem × Nat)).bind fun o36 => ((if (16 : Int32) ≤ r16 then (some ((0 : Int32), o36.1, r13.1, this)) else (some ((1 : Int32), o36.1, r13.1, this))) : Option (Int32 × Int32 × Int32 × Option Nat)).bind fun o39 => if isO o36.2.2.1 o39.2.2.2 14 = true then ((f_X11_refusalOfText B o36.2.2.1 o39.2.2.2 o39.2.2.1 o39.2.1 o39.1).bind fun r41 => if r41.1 = 0 then (if o36.2.1 = none then (if isO r41.2 this 14 = true then ((f_X11_releaseCouriers B n r41.2 this r16).bind fun r58 => if isO r58 this 14 = true then ((f_X11_refuse B r58 this r41.1).bind fun r60 => some (r60.1, r60.2, o36.2.2.2)) else none) else none) else ((gR r41.2 this 14 5).bind fun v48 => if isO r41.2 v48 2 = true then ((f_Jx4a65c_add_9ea2d B S r41.2 o36.2.2.2 v48 o36.2.1).bind fun r50 => (gI r50.2.1 this 14 6).bind fun v51 => (pF B r50.2.1 this 14 6 (.int (v51 + (1 : Int32)))).bind fun M52 => if isO M52 this 14 = true then ((f_X11_takeThings B n M52 this o36.2.1 r16).bind fun r54 => if isO r54 this 14 = true then ((f_X11_answer B r54 this r16).bind fun r56 => some (r56.1, r56.2, r50.2.2)) else none) else none) else none)) else (if isO r41.2 this 14 = true then ((f_X11_releaseCouriers B n r41.2 this r16).bind fun r44 => if isO r44 this 14 = true then ((f_X11_refuse B r44 this r41.1).bind fun r46 => some (r46.1, r46.2, o36.2.2.2)) else none) else none)) else none) else none) else none) else none) else none)) else none
def rmX11_loan : Room := { frames := 10, cells := 94, slots := 4537, locals := 259 }
theorem k_X11_loan_19 : Cond.fieldLink RX11 19 "LoanBook" "reader" "LLoanBook$Reader;" ∈ wsX11_loan := List.mem_of_getElem? (i := 2) rfl
theorem ki_X11_loan_X11 : ∀ w ∈ u_ws RX11 TX11 11, w ∈ wsX11_loan := sub_r [469, 470, 471, 472, 473, 474, 475, 476, 477, 478, 479] (by decide +kernel)
theorem k_X11_loan_10 : Cond.fieldLink RX11 10 "LoanBook" "tape" "LLoanBook$Tape;" ∈ wsX11_loan := List.mem_of_getElem? (i := 1) rfl
theorem k_X11_loan_36 : Cond.fieldLink RX11 36 "LoanBook" "loans" "Ljava/util/ArrayList;" ∈ wsX11_loan := List.mem_of_getElem? (i := 3) rfl
theorem k_X11_loan_39 : Cond.fieldLink RX11 39 "LoanBook" "standing" "I" ∈ wsX11_loan := List.mem_of_getElem? (i := 4) rfl
set_option maxHeartbeats 4000000 in
set_option maxRecDepth 100000 in
theorem c_X11_loan {G : wG} {l : Launch} {n : Nat} {M : Mem} {sz : Nat} {this : Option Nat} {a1 : Int32} {r : Int32 × Mem × Nat} (h : f_X11_loan G.2.2.1 G.2.2.2 n M sz this a1 = some r) : CtrI G l yX11_loan wsX11_loan rmX11_loan [va_rf this, .int a1] M sz r.1 r.2.1 r.2.2 := by
  refine m_startI (own := RX11) (cc := cX11_loan) (maxL := 8) (lv0 := [(0, va_rf this), (1, .int a1)]) (by decide) rfl rfl (by simp [lg_sl, va_rf_cat, cat_i, cat_r]) (by simp [lv_args, va_rf_cat, cat_i, cat_r]) ?_
  intro p e s m args below meth c Q hC hname RET hsz hw ls hl
  have hx := hC.1
  have hb := hC.2.1
  unfold f_X11_loan at h
  refine m_aload_n (x := this) hx hb dX11_loan_0 rfl (lv_at hl 0 rfl) ?_
  refine lv_iload_n hx hb dX11_loan_1 rfl (lv_at hl 1 rfl) ?_
  obtain ⟨g1, h⟩ := itg h
  obtain ⟨r2, hr2, h⟩ := ob h
  refine m_contQ hC hw (m_runV hC hw (x := this) (ci := 14) (N := 11) (C := RX11) (T := TX11) (n := 1) (av := [.int a1]) (rest := []) (c_X11_houseAt (G := G) (l := l) hr2) gX11_loan_X11_houseAt rfl (by decide +kernel) ⟨(Nat.le_of_ble_eq_true rfl), (Nat.le_of_ble_eq_true rfl)⟩ g1 rfl rfl hl.1 rfl (Nat.le_of_ble_eq_true rfl) dX11_loan_2 ⟨(Nat.zero_le _), (Nat.zero_le _)⟩) (fun H locs hw => ?_)
  refine m_astore_n (x := r2) (i := 2) (lv' := [(2, va_rf r2), (0, va_rf this), (1, .int a1)]) hx hb dX11_loan_5 rfl hl (by decide) rfl (fun ls hl => ?_)
  refine m_aload_n (x := r2) hx hb dX11_loan_6 rfl (lv_at hl 0 rfl) ?_
  refine m_ifnonnull (x := r2) (tgt := 24) hx hb dX11_loan_7 (by decide) (fun c3 => ?_) (fun c3 => ?_)
  · replace h := itf h c3
    refine m_aload_n (x := this) hx hb dX11_loan_24 rfl (lv_at hl 1 rfl) ?_
    obtain ⟨v4, hv4, h⟩ := ob h
    refine m_getR hC hw (C := RX11) (T := TX11) (N := 11) hv4 ki_X11_loan_X11 rfl (by decide) k_X11_loan_19 (fun _ z => z) dX11_loan_25 ?_
    refine m_aload_n (x := this) hx hb dX11_loan_28 rfl (lv_at hl 1 rfl) ?_
    obtain ⟨v5, hv5, h⟩ := ob h
    refine m_getR hC hw (C := RX11) (T := TX11) (N := 11) hv5 ki_X11_loan_X11 rfl (by decide) k_X11_loan_10 (fun _ z => z) dX11_loan_29 ?_
    obtain ⟨g6, h⟩ := itg h
    obtain ⟨r7, hr7, h⟩ := ob h
    refine m_contV hC hw (m_runV hC hw (x := v4) (ci := 10) (N := 5) (C := RX7) (T := TX7) (n := 1) (av := [va_rf v5]) (rest := []) (c_X7_begin (G := G) (l := l) hr7) gX11_loan_X7_begin rfl (by decide +kernel) ⟨(Nat.le_of_ble_eq_true rfl), (Nat.le_of_ble_eq_true rfl)⟩ g6 rfl rfl hl.1 rfl (Nat.le_of_ble_eq_true rfl) dX11_loan_32 ⟨(Nat.zero_le _), (Nat.zero_le _)⟩) (fun H locs hw => ?_)
    refine m_aload_n (x := this) hx hb dX11_loan_35 rfl (lv_at hl 1 rfl) ?_
    obtain ⟨v8, hv8, h⟩ := ob h
    refine m_getR hC hw (C := RX11) (T := TX11) (N := 11) hv8 ki_X11_loan_X11 rfl (by decide) k_X11_loan_10 (fun _ z => z) dX11_loan_36 ?_
    refine lv_iconst (v := (0 : Int32)) hx hb dX11_loan_39 (by decide) ?_
    obtain ⟨g9, h⟩ := itg h
    obtain ⟨r10, hr10, h⟩ := ob h
    refine m_contV hC hw (m_runV hC hw (x := v8) (ci := 12) (N := 2) (C := RX9) (T := TX9) (n := 1) (av := [.int (0 : Int32)]) (rest := []) (c_X9_keep (G := G) (l := l) hr10) gX11_loan_X9_keep rfl (by decide +kernel) ⟨(Nat.le_of_ble_eq_true rfl), (Nat.le_of_ble_eq_true rfl)⟩ g9 rfl rfl hl.1 rfl (Nat.le_of_ble_eq_true rfl) dX11_loan_40 ⟨(Nat.zero_le _), (Nat.zero_le _)⟩) (fun H locs hw => ?_)
    refine m_aload_n (x := this) hx hb dX11_loan_43 rfl (lv_at hl 1 rfl) ?_
    obtain ⟨v11, hv11, h⟩ := ob h
    refine m_getR hC hw (C := RX11) (T := TX11) (N := 11) hv11 ki_X11_loan_X11 rfl (by decide) k_X11_loan_19 (fun _ z => z) dX11_loan_44 ?_
    obtain ⟨g12, h⟩ := itg h
    obtain ⟨r13, hr13, h⟩ := ob h
    refine m_contI hC hw (m_runV hC hw (x := v11) (ci := 10) (N := 5) (C := RX7) (T := TX7) (n := 0) (av := []) (rest := []) (c_X7_readsLoan (G := G) (l := l) hr13) gX11_loan_X7_readsLoan rfl (by decide +kernel) ⟨(Nat.le_of_ble_eq_true rfl), (Nat.le_of_ble_eq_true rfl)⟩ g12 rfl rfl hl.1 rfl (Nat.le_of_ble_eq_true rfl) dX11_loan_47 ⟨(Nat.zero_le _), (Nat.zero_le _)⟩) (fun H locs hw => ?_)
    refine lv_istore_n (i := 3) (lv' := [(3, .int r13.1), (2, va_rf r2), (0, va_rf this), (1, .int a1)]) hx hb dX11_loan_50 rfl hl (by decide) (by simp [va_rf_cat, cat_i, cat_l]) (fun ls hl => ?_)
    refine m_aload_n (x := this) hx hb dX11_loan_51 rfl (lv_at hl 2 rfl) ?_
    obtain ⟨v14, hv14, h⟩ := ob h
    refine m_getR hC hw (C := RX11) (T := TX11) (N := 11) hv14 ki_X11_loan_X11 rfl (by decide) k_X11_loan_36 (fun _ z => z) dX11_loan_52 ?_
    obtain ⟨g15, h⟩ := itg h
    obtain ⟨r16, hr16, h⟩ := ob h
    refine m_contI hC hw (m_runV hC hw (x := v14) (ci := 2) (N := 3) (C := RJx4a65c) (T := TJx4a65c) (n := 0) (av := []) (rest := []) (c_Jx4a65c_size_8abf5 (G := G) (l := l) hr16) gX11_loan_Jx4a65c_size_8abf5 rfl (by decide +kernel) ⟨(Nat.le_of_ble_eq_true rfl), (Nat.le_of_ble_eq_true rfl)⟩ g15 rfl rfl hl.1 rfl (Nat.le_of_ble_eq_true rfl) dX11_loan_55 ⟨(Nat.zero_le _), (Nat.zero_le _)⟩) (fun H locs hw => ?_)
    refine lv_istore (lv' := [(4, .int r16), (3, .int r13.1), (2, va_rf r2), (0, va_rf this), (1, .int a1)]) hx hb dX11_loan_58 hl (by decide) rfl (fun ls hl => ?_)
    refine lv_iload_n hx hb dX11_loan_60 rfl (lv_at hl 1 rfl) ?_
    obtain ⟨o21, ho21, h⟩ := ob h
    have J17 : ∀ (H : Heap) (locs : List Loc) (ls : Array Slot), wD G s M r13.2 sz H locs → lv_has ls 8 [(0, va_rf this), (2, va_rf r2), (3, .int r13.1), (4, .int r16)] → W p l e rmX11_loan s m args below meth c H locs 0 0 Q (F0 m 73 ls [.int o21]) := by
      intro H locs ls hw hl
      refine lv_istore (lv' := [(5, .int o21), (0, va_rf this), (2, va_rf r2), (3, .int r13.1), (4, .int r16)]) hx hb dX11_loan_73 hl (by decide) rfl (fun ls hl => ?_)
      refine lv_null hx hb dX11_loan_75 ?_
      refine m_astore (x := none) (lv' := [(6, va_rf none), (5, .int o21), (0, va_rf this), (2, va_rf r2), (3, .int r13.1), (4, .int r16)]) hx hb dX11_loan_76 hl (by decide) rfl (fun ls hl => ?_)
      refine lv_iload_n hx hb dX11_loan_78 rfl (lv_at hl 4 rfl) ?_
      obtain ⟨o36, ho36, h⟩ := ob h
      have J22 : ∀ (H : Heap) (locs : List Loc) (ls : Array Slot), wD G s M o36.2.2.1 o36.2.2.2 H locs → lv_has ls 8 [(0, va_rf this), (3, .int r13.1), (4, .int r16), (5, .int o36.1), (6, va_rf o36.2.1)] → W p l e rmX11_loan s m args below meth c H locs 93 4457 Q (F0 m 138 ls []) := by
        intro H locs ls hw hl
        refine m_aload_n (x := this) hx hb dX11_loan_138 rfl (lv_at hl 0 rfl) ?_
        refine lv_iload_n hx hb dX11_loan_139 rfl (lv_at hl 1 rfl) ?_
        refine lv_iload hx hb dX11_loan_140 (lv_at hl 3 rfl) ?_
        refine lv_iload hx hb dX11_loan_142 (lv_at hl 2 rfl) ?_
        refine lv_bipush (v := (16 : Int32)) hx hb dX11_loan_144 (by decide) ?_
        obtain ⟨o39, ho39, h⟩ := ob h
        have J37 : ∀ (H : Heap) (locs : List Loc) (ls : Array Slot), wD G s M o36.2.2.1 o36.2.2.2 H locs → lv_has ls 8 [(0, va_rf this), (4, .int r16), (6, va_rf o36.2.1)] → W p l e rmX11_loan s m args below meth c H locs 93 4457 Q (F0 m 154 ls [.int o39.1, .int o39.2.1, .int o39.2.2.1, va_rf o39.2.2.2]) := by
          intro H locs ls hw hl
          obtain ⟨g40, h⟩ := itg h
          obtain ⟨r41, hr41, h⟩ := ob h
          refine m_contI hC hw (m_runV hC hw (x := o39.2.2.2) (ci := 14) (N := 11) (C := RX11) (T := TX11) (n := 3) (av := [.int o39.2.2.1, .int o39.2.1, .int o39.1]) (rest := []) (c_X11_refusalOfText (G := G) (l := l) hr41) gX11_loan_X11_refusalOfText rfl (by decide +kernel) ⟨(Nat.le_of_ble_eq_true rfl), (Nat.le_of_ble_eq_true rfl)⟩ g40 rfl rfl hl.1 rfl (Nat.le_of_ble_eq_true rfl) dX11_loan_154 ⟨(Nat.le_of_ble_eq_true rfl), (Nat.le_of_ble_eq_true rfl)⟩) (fun H locs hw => ?_)
          refine lv_istore (lv' := [(7, .int r41.1), (0, va_rf this), (4, .int r16), (6, va_rf o36.2.1)]) hx hb dX11_loan_157 hl (by decide) (by simp [va_rf_cat, cat_i, cat_l]) (fun ls hl => ?_)
          refine lv_iload hx hb dX11_loan_159 (lv_at hl 0 rfl) ?_
          refine lv_if_ne (tgt := 169) hx hb dX11_loan_161 (by decide) (fun c42 => ?_) (fun c42 => ?_)
          · replace h := itf h c42
            refine m_aload_n (x := this) hx hb dX11_loan_169 rfl (lv_at hl 1 rfl) ?_
            refine lv_iload hx hb dX11_loan_170 (lv_at hl 2 rfl) ?_
            obtain ⟨g43, h⟩ := itg h
            obtain ⟨r44, hr44, h⟩ := ob h
            refine m_contV hC hw (m_runV hC hw (x := this) (ci := 14) (N := 11) (C := RX11) (T := TX11) (n := 1) (av := [.int r16]) (rest := []) (c_X11_releaseCouriers (G := G) (l := l) hr44) gX11_loan_X11_releaseCouriers rfl (by decide +kernel) ⟨(Nat.le_of_ble_eq_true rfl), (Nat.le_of_ble_eq_true rfl)⟩ g43 rfl rfl hl.1 rfl (Nat.le_of_ble_eq_true rfl) dX11_loan_172 ⟨(Nat.le_of_ble_eq_true rfl), (Nat.le_of_ble_eq_true rfl)⟩) (fun H locs hw => ?_)
            refine m_aload_n (x := this) hx hb dX11_loan_175 rfl (lv_at hl 1 rfl) ?_
            refine lv_iload hx hb dX11_loan_176 (lv_at hl 0 rfl) ?_
            obtain ⟨g45, h⟩ := itg h
            obtain ⟨r46, hr46, h⟩ := ob h
            refine m_contI hC hw (m_runV hC hw (x := this) (ci := 14) (N := 11) (C := RX11) (T := TX11) (n := 1) (av := [.int r41.1]) (rest := []) (c_X11_refuse (G := G) (l := l) hr46) gX11_loan_X11_refuse rfl (by decide +kernel) ⟨(Nat.le_of_ble_eq_true rfl), (Nat.le_of_ble_eq_true rfl)⟩ g45 rfl rfl hl.1 rfl (Nat.le_of_ble_eq_true rfl) dX11_loan_178 ⟨(Nat.le_of_ble_eq_true rfl), (Nat.le_of_ble_eq_true rfl)⟩) (fun H locs hw => ?_)
            replace h := Option.some.inj h
            subst h
            exact RET hw ⟨(Nat.le_of_ble_eq_true rfl), (Nat.le_of_ble_eq_true rfl)⟩ dX11_loan_181
          · replace h := itt h c42
            refine m_aload (x := o36.2.1) hx hb dX11_loan_164 (lv_at hl 3 rfl) ?_
            refine m_ifnonnull (x := o36.2.1) (tgt := 182) hx hb dX11_loan_166 (by decide) (fun c47 => ?_) (fun c47 => ?_)
            · replace h := itf h c47
              refine m_aload_n (x := this) hx hb dX11_loan_182 rfl (lv_at hl 1 rfl) ?_
              obtain ⟨v48, hv48, h⟩ := ob h
              refine m_getR hC hw (C := RX11) (T := TX11) (N := 11) hv48 ki_X11_loan_X11 rfl (by decide) k_X11_loan_36 (fun _ z => z) dX11_loan_183 ?_
              refine m_aload (x := o36.2.1) hx hb dX11_loan_186 (lv_at hl 3 rfl) ?_
              obtain ⟨g49, h⟩ := itg h
              obtain ⟨r50, hr50, h⟩ := ob h
              refine m_contI hC hw (m_runV hC hw (x := v48) (ci := 2) (N := 3) (C := RJx4a65c) (T := TJx4a65c) (n := 1) (av := [va_rf o36.2.1]) (rest := []) (c_Jx4a65c_add_9ea2d (G := G) (l := l) hr50) gX11_loan_Jx4a65c_add_9ea2d rfl (by decide +kernel) ⟨(Nat.le_of_ble_eq_true rfl), (Nat.le_of_ble_eq_true rfl)⟩ g49 rfl rfl hl.1 rfl (Nat.le_of_ble_eq_true rfl) dX11_loan_188 ⟨(Nat.le_of_ble_eq_true rfl), (Nat.le_of_ble_eq_true rfl)⟩) (fun H locs hw => ?_)
              refine lv_pop hx hb dX11_loan_191 rfl ?_
              refine m_aload_n (x := this) hx hb dX11_loan_192 rfl (lv_at hl 1 rfl) ?_
              refine m_dup (x := this) hx hb dX11_loan_193 ?_
              obtain ⟨v51, hv51, h⟩ := ob h
              refine m_getI hC hw (C := RX11) (T := TX11) (N := 11) hv51 ki_X11_loan_X11 rfl (by decide) k_X11_loan_39 (fun _ z => z) dX11_loan_194 ?_
              refine lv_iconst (v := (1 : Int32)) hx hb dX11_loan_197 (by decide) ?_
              refine lv_iadd hx hb dX11_loan_198 ?_
              obtain ⟨M52, hM52, h⟩ := ob h
              refine m_put hC hw (C := RX11) (T := TX11) (N := 11) (x := this) hM52 ki_X11_loan_X11 tyX11 tyX11_ok nmX11 rfl (by decide) k_X11_loan_39 (fun _ z => z) rfl rfl rfl dX11_loan_199 (fun H locs hw => ?_)
              refine m_aload_n (x := this) hx hb dX11_loan_202 rfl (lv_at hl 1 rfl) ?_
              refine m_aload (x := o36.2.1) hx hb dX11_loan_203 (lv_at hl 3 rfl) ?_
              refine lv_iload hx hb dX11_loan_205 (lv_at hl 2 rfl) ?_
              obtain ⟨g53, h⟩ := itg h
              obtain ⟨r54, hr54, h⟩ := ob h
              refine m_contV hC hw (m_runV hC hw (x := this) (ci := 14) (N := 11) (C := RX11) (T := TX11) (n := 2) (av := [va_rf o36.2.1, .int r16]) (rest := []) (c_X11_takeThings (G := G) (l := l) hr54) gX11_loan_X11_takeThings rfl (by decide +kernel) ⟨(Nat.le_of_ble_eq_true rfl), (Nat.le_of_ble_eq_true rfl)⟩ g53 rfl rfl hl.1 rfl (Nat.le_of_ble_eq_true rfl) dX11_loan_207 ⟨(Nat.le_of_ble_eq_true rfl), (Nat.le_of_ble_eq_true rfl)⟩) (fun H locs hw => ?_)
              refine m_aload_n (x := this) hx hb dX11_loan_210 rfl (lv_at hl 1 rfl) ?_
              refine lv_iload hx hb dX11_loan_211 (lv_at hl 2 rfl) ?_
              obtain ⟨g55, h⟩ := itg h
              obtain ⟨r56, hr56, h⟩ := ob h
              refine m_contI hC hw (m_runV hC hw (x := this) (ci := 14) (N := 11) (C := RX11) (T := TX11) (n := 1) (av := [.int r16]) (rest := []) (c_X11_answer (G := G) (l := l) hr56) gX11_loan_X11_answer rfl (by decide +kernel) ⟨(Nat.le_of_ble_eq_true rfl), (Nat.le_of_ble_eq_true rfl)⟩ g55 rfl rfl hl.1 rfl (Nat.le_of_ble_eq_true rfl) dX11_loan_213 ⟨(Nat.le_of_ble_eq_true rfl), (Nat.le_of_ble_eq_true rfl)⟩) (fun H locs hw => ?_)
              replace h := Option.some.inj h
              subst h
              exact RET hw ⟨(Nat.le_of_ble_eq_true rfl), (Nat.le_of_ble_eq_true rfl)⟩ dX11_loan_216
            · replace h := itt h c47
              refine m_aload_n (x := this) hx hb dX11_loan_169 rfl (lv_at hl 1 rfl) ?_
              refine lv_iload hx hb dX11_loan_170 (lv_at hl 2 rfl) ?_
              obtain ⟨g57, h⟩ := itg h
              obtain ⟨r58, hr58, h⟩ := ob h
              refine m_contV hC hw (m_runV hC hw (x := this) (ci := 14) (N := 11) (C := RX11) (T := TX11) (n := 1) (av := [.int r16]) (rest := []) (c_X11_releaseCouriers (G := G) (l := l) hr58) gX11_loan_X11_releaseCouriers rfl (by decide +kernel) ⟨(Nat.le_of_ble_eq_true rfl), (Nat.le_of_ble_eq_true rfl)⟩ g57 rfl rfl hl.1 rfl (Nat.le_of_ble_eq_true rfl) dX11_loan_172 ⟨(Nat.le_of_ble_eq_true rfl), (Nat.le_of_ble_eq_true rfl)⟩) (fun H locs hw => ?_)
              refine m_aload_n (x := this) hx hb dX11_loan_175 rfl (lv_at hl 1 rfl) ?_
              refine lv_iload hx hb dX11_loan_176 (lv_at hl 0 rfl) ?_
              obtain ⟨g59, h⟩ := itg h
              obtain ⟨r60, hr60, h⟩ := ob h
              refine m_contI hC hw (m_runV hC hw (x := this) (ci := 14) (N := 11) (C := RX11) (T := TX11) (n := 1) (av := [.int r41.1]) (rest := []) (c_X11_refuse (G := G) (l := l) hr60) gX11_loan_X11_refuse rfl (by decide +kernel) ⟨(Nat.le_of_ble_eq_true rfl), (Nat.le_of_ble_eq_true rfl)⟩ g59 rfl rfl hl.1 rfl (Nat.le_of_ble_eq_true rfl) dX11_loan_178 ⟨(Nat.le_of_ble_eq_true rfl), (Nat.le_of_ble_eq_true rfl)⟩) (fun H locs hw => ?_)
              replace h := Option.some.inj h
              subst h
              exact RET hw ⟨(Nat.le_of_ble_eq_true rfl), (Nat.le_of_ble_eq_true rfl)⟩ dX11_loan_181
        clear h
        replace h := ho39
        refine lv_icmp_ge (tgt := 153) hx hb dX11_loan_146 (by decide) (fun c38 => ?_) (fun c38 => ?_)
        · replace h := itt h c38
          refine lv_iconst (v := (0 : Int32)) hx hb dX11_loan_153 (by decide) ?_
          replace h := Option.some.inj h
          subst h
          refine W.widen (k := 93) (n := 4457) (Nat.le_of_ble_eq_true rfl) (Nat.le_of_ble_eq_true rfl) ?_
          exact J37 _ _ _ hw (lv_sub hl [0, 2, 4] rfl)
        · replace h := itf h c38
          refine lv_iconst (v := (1 : Int32)) hx hb dX11_loan_149 (by decide) ?_
          refine lv_goto (tgt := 154) hx hb dX11_loan_150 (by decide) ?_
          replace h := Option.some.inj h
          subst h
          refine W.widen (k := 93) (n := 4457) (Nat.le_of_ble_eq_true rfl) (Nat.le_of_ble_eq_true rfl) ?_
          exact J37 _ _ _ hw (lv_sub hl [0, 2, 4] rfl)
      clear h
      replace h := ho36
      refine lv_if_eq (tgt := 138) hx hb dX11_loan_79 (by decide) (fun c23 => ?_) (fun c23 => ?_)
      · replace h := itt h c23
        replace h := Option.some.inj h
        subst h
        refine W.widen (k := 93) (n := 4457) (Nat.le_of_ble_eq_true rfl) (Nat.le_of_ble_eq_true rfl) ?_
        exact J22 _ _ _ hw (lv_sub hl [2, 4, 5, 1, 0] rfl)
      · replace h := itf h c23
        refine lv_iload hx hb dX11_loan_82 (lv_at hl 1 rfl) ?_
        refine lv_if_ne (tgt := 138) hx hb dX11_loan_84 (by decide) (fun c24 => ?_) (fun c24 => ?_)
        · replace h := itf h c24
          replace h := Option.some.inj h
          subst h
          refine W.widen (k := 93) (n := 4457) (Nat.le_of_ble_eq_true rfl) (Nat.le_of_ble_eq_true rfl) ?_
          exact J22 _ _ _ hw (lv_sub hl [2, 4, 5, 1, 0] rfl)
        · replace h := itt h c24
          refine m_aload_n (x := this) hx hb dX11_loan_87 rfl (lv_at hl 2 rfl) ?_
          refine m_aload_n (x := r2) hx hb dX11_loan_88 rfl (lv_at hl 3 rfl) ?_
          obtain ⟨g25, h⟩ := itg h
          obtain ⟨r26, hr26, h⟩ := ob h
          refine m_contQ hC hw (m_runV hC hw (x := this) (ci := 14) (N := 11) (C := RX11) (T := TX11) (n := 1) (av := [va_rf r2]) (rest := []) (c_X11_draftLoan (G := G) (l := l) hr26) gX11_loan_X11_draftLoan rfl (by decide +kernel) ⟨(Nat.le_of_ble_eq_true rfl), (Nat.le_of_ble_eq_true rfl)⟩ g25 rfl rfl hl.1 rfl (Nat.le_of_ble_eq_true rfl) dX11_loan_89 ⟨(Nat.le_of_ble_eq_true rfl), (Nat.le_of_ble_eq_true rfl)⟩) (fun H locs hw => ?_)
          refine m_astore (x := r26.1) (lv' := [(6, va_rf r26.1), (5, .int o21), (0, va_rf this), (2, va_rf r2), (3, .int r13.1), (4, .int r16)]) hx hb dX11_loan_92 hl (by decide) rfl (fun ls hl => ?_)
          refine m_aload_n (x := this) hx hb dX11_loan_94 rfl (lv_at hl 2 rfl) ?_
          refine m_aload (x := r26.1) hx hb dX11_loan_95 (lv_at hl 0 rfl) ?_
          refine lv_iload hx hb dX11_loan_97 (lv_at hl 5 rfl) ?_
          refine lv_iconst (v := (0 : Int32)) hx hb dX11_loan_99 (by decide) ?_
          obtain ⟨g27, h⟩ := itg h
          obtain ⟨r28, hr28, h⟩ := ob h
          refine m_contI hC hw (m_runV hC hw (x := this) (ci := 14) (N := 11) (C := RX11) (T := TX11) (n := 3) (av := [va_rf r26.1, .int r16, .int (0 : Int32)]) (rest := []) (c_X11_findCouriers (G := G) (l := l) hr28) gX11_loan_X11_findCouriers rfl (by decide +kernel) ⟨(Nat.le_of_ble_eq_true rfl), (Nat.le_of_ble_eq_true rfl)⟩ g27 rfl rfl hl.1 rfl (Nat.le_of_ble_eq_true rfl) dX11_loan_100 ⟨(Nat.le_of_ble_eq_true rfl), (Nat.le_of_ble_eq_true rfl)⟩) (fun H locs hw => ?_)
          refine lv_if_eq (tgt := 122) hx hb dX11_loan_103 (by decide) (fun c29 => ?_) (fun c29 => ?_)
          · replace h := itt h c29
            refine lv_iconst (v := (0 : Int32)) hx hb dX11_loan_122 (by decide) ?_
            refine lv_istore (lv' := [(7, .int (0 : Int32)), (6, va_rf r26.1), (5, .int o21), (0, va_rf this), (2, va_rf r2), (3, .int r13.1), (4, .int r16)]) hx hb dX11_loan_123 hl (by decide) (by simp [va_rf_cat, cat_i, cat_l]) (fun ls hl => ?_)
            refine lv_iload hx hb dX11_loan_125 (lv_at hl 0 rfl) ?_
            refine lv_if_eq (tgt := 134) hx hb dX11_loan_127 (by decide) (fun _ => ?_) (fun c30 => ?_)
            · refine lv_bipush (v := (8 : Int32)) hx hb dX11_loan_134 (by decide) ?_
              refine lv_istore (lv' := [(5, .int (8 : Int32)), (7, .int (0 : Int32)), (6, va_rf r26.1), (0, va_rf this), (2, va_rf r2), (3, .int r13.1), (4, .int r16)]) hx hb dX11_loan_136 hl (by decide) rfl (fun ls hl => ?_)
              replace h := Option.some.inj h
              subst h
              refine W.widen (k := 93) (n := 4457) (Nat.le_of_ble_eq_true rfl) (Nat.le_of_ble_eq_true rfl) ?_
              exact J22 _ _ _ hw (lv_sub hl [3, 5, 6, 0, 2] rfl)
            · first | exact absurd c30 (by decide) | exact (c30 (by decide)).elim | exact absurd rfl c30 | cases c30
          · replace h := itf h c29
            refine m_aload_n (x := this) hx hb dX11_loan_106 rfl (lv_at hl 2 rfl) ?_
            refine m_aload (x := r26.1) hx hb dX11_loan_107 (lv_at hl 0 rfl) ?_
            refine lv_iload hx hb dX11_loan_109 (lv_at hl 5 rfl) ?_
            refine lv_iconst (v := (1 : Int32)) hx hb dX11_loan_111 (by decide) ?_
            obtain ⟨g31, h⟩ := itg h
            obtain ⟨r32, hr32, h⟩ := ob h
            refine m_contI hC hw (m_runV hC hw (x := this) (ci := 14) (N := 11) (C := RX11) (T := TX11) (n := 3) (av := [va_rf r26.1, .int r16, .int (1 : Int32)]) (rest := []) (c_X11_findCouriers (G := G) (l := l) hr32) gX11_loan_X11_findCouriers rfl (by decide +kernel) ⟨(Nat.le_of_ble_eq_true rfl), (Nat.le_of_ble_eq_true rfl)⟩ g31 rfl rfl hl.1 rfl (Nat.le_of_ble_eq_true rfl) dX11_loan_112 ⟨(Nat.le_of_ble_eq_true rfl), (Nat.le_of_ble_eq_true rfl)⟩) (fun H locs hw => ?_)
            refine lv_if_eq (tgt := 122) hx hb dX11_loan_115 (by decide) (fun c33 => ?_) (fun c33 => ?_)
            · replace h := itt h c33
              refine lv_iconst (v := (0 : Int32)) hx hb dX11_loan_122 (by decide) ?_
              refine lv_istore (lv' := [(7, .int (0 : Int32)), (6, va_rf r26.1), (5, .int o21), (0, va_rf this), (2, va_rf r2), (3, .int r13.1), (4, .int r16)]) hx hb dX11_loan_123 hl (by decide) (by simp [va_rf_cat, cat_i, cat_l]) (fun ls hl => ?_)
              refine lv_iload hx hb dX11_loan_125 (lv_at hl 0 rfl) ?_
              refine lv_if_eq (tgt := 134) hx hb dX11_loan_127 (by decide) (fun _ => ?_) (fun c34 => ?_)
              · refine lv_bipush (v := (8 : Int32)) hx hb dX11_loan_134 (by decide) ?_
                refine lv_istore (lv' := [(5, .int (8 : Int32)), (7, .int (0 : Int32)), (6, va_rf r26.1), (0, va_rf this), (2, va_rf r2), (3, .int r13.1), (4, .int r16)]) hx hb dX11_loan_136 hl (by decide) rfl (fun ls hl => ?_)
                replace h := Option.some.inj h
                subst h
                refine W.widen (k := 93) (n := 4457) (Nat.le_of_ble_eq_true rfl) (Nat.le_of_ble_eq_true rfl) ?_
                exact J22 _ _ _ hw (lv_sub hl [3, 5, 6, 0, 2] rfl)
              · first | exact absurd c34 (by decide) | exact (c34 (by decide)).elim | exact absurd rfl c34 | cases c34
            · replace h := itf h c33
              refine lv_iconst (v := (1 : Int32)) hx hb dX11_loan_118 (by decide) ?_
              refine lv_goto (tgt := 123) hx hb dX11_loan_119 (by decide) ?_
              refine lv_istore (lv' := [(7, .int (1 : Int32)), (6, va_rf r26.1), (5, .int o21), (0, va_rf this), (2, va_rf r2), (3, .int r13.1), (4, .int r16)]) hx hb dX11_loan_123 hl (by decide) (by simp [va_rf_cat, cat_i, cat_l]) (fun ls hl => ?_)
              refine lv_iload hx hb dX11_loan_125 (lv_at hl 0 rfl) ?_
              refine lv_if_eq (tgt := 134) hx hb dX11_loan_127 (by decide) (fun c35 => ?_) (fun _ => ?_)
              · first | exact absurd c35 (by decide) | exact (c35 (by decide)).elim | exact absurd rfl c35 | cases c35
              · refine lv_iconst (v := (0 : Int32)) hx hb dX11_loan_130 (by decide) ?_
                refine lv_goto (tgt := 136) hx hb dX11_loan_131 (by decide) ?_
                refine lv_istore (lv' := [(5, .int (0 : Int32)), (7, .int (1 : Int32)), (6, va_rf r26.1), (0, va_rf this), (2, va_rf r2), (3, .int r13.1), (4, .int r16)]) hx hb dX11_loan_136 hl (by decide) rfl (fun ls hl => ?_)
                replace h := Option.some.inj h
                subst h
                refine W.widen (k := 93) (n := 4457) (Nat.le_of_ble_eq_true rfl) (Nat.le_of_ble_eq_true rfl) ?_
                exact J22 _ _ _ hw (lv_sub hl [3, 5, 6, 0, 2] rfl)
    clear h
    replace h := ho21
    refine lv_if_eq (tgt := 72) hx hb dX11_loan_61 (by decide) (fun c18 => ?_) (fun c18 => ?_)
    · replace h := itt h c18
      refine lv_iconst (v := (0 : Int32)) hx hb dX11_loan_72 (by decide) ?_
      replace h := Option.some.inj h
      subst h
      refine W.widen (k := 0) (n := 0) (Nat.le_of_ble_eq_true rfl) (Nat.le_of_ble_eq_true rfl) ?_
      exact J17 _ _ _ hw (lv_sub hl [3, 2, 1, 0] rfl)
    · replace h := itf h c18
      refine m_aload_n (x := this) hx hb dX11_loan_64 rfl (lv_at hl 3 rfl) ?_
      refine m_aload_n (x := r2) hx hb dX11_loan_65 rfl (lv_at hl 2 rfl) ?_
      obtain ⟨g19, h⟩ := itg h
      obtain ⟨r20, hr20, h⟩ := ob h
      refine m_contI hC hw (m_runV hC hw (x := this) (ci := 14) (N := 11) (C := RX11) (T := TX11) (n := 1) (av := [va_rf r2]) (rest := []) (c_X11_faultInLoan (G := G) (l := l) hr20) gX11_loan_X11_faultInLoan rfl (by decide +kernel) ⟨(Nat.le_of_ble_eq_true rfl), (Nat.le_of_ble_eq_true rfl)⟩ g19 rfl rfl hl.1 rfl (Nat.le_of_ble_eq_true rfl) dX11_loan_66 ⟨(Nat.zero_le _), (Nat.zero_le _)⟩) (fun H locs hw => ?_)
      refine lv_goto (tgt := 73) hx hb dX11_loan_69 (by decide) ?_
      replace h := Option.some.inj h
      subst h
      refine W.widen (k := 0) (n := 0) (Nat.le_of_ble_eq_true rfl) (Nat.le_of_ble_eq_true rfl) ?_
      exact J17 _ _ _ hw (lv_sub hl [3, 2, 1, 0] rfl)
  · replace h := itt h c3
    refine m_aload_n (x := this) hx hb dX11_loan_10 rfl (lv_at hl 1 rfl) ?_
    obtain ⟨v61, hv61, h⟩ := ob h
    refine m_getR hC hw (C := RX11) (T := TX11) (N := 11) hv61 ki_X11_loan_X11 rfl (by decide) k_X11_loan_10 (fun _ z => z) dX11_loan_11 ?_
    refine lv_iconst (v := (0 : Int32)) hx hb dX11_loan_14 (by decide) ?_
    obtain ⟨g62, h⟩ := itg h
    obtain ⟨r63, hr63, h⟩ := ob h
    refine m_contV hC hw (m_runV hC hw (x := v61) (ci := 12) (N := 2) (C := RX9) (T := TX9) (n := 1) (av := [.int (0 : Int32)]) (rest := []) (c_X9_keep (G := G) (l := l) hr63) gX11_loan_X9_keep rfl (by decide +kernel) ⟨(Nat.le_of_ble_eq_true rfl), (Nat.le_of_ble_eq_true rfl)⟩ g62 rfl rfl hl.1 rfl (Nat.le_of_ble_eq_true rfl) dX11_loan_15 ⟨(Nat.zero_le _), (Nat.zero_le _)⟩) (fun H locs hw => ?_)
    refine m_aload_n (x := this) hx hb dX11_loan_18 rfl (lv_at hl 1 rfl) ?_
    refine lv_iconst (v := (1 : Int32)) hx hb dX11_loan_19 (by decide) ?_
    obtain ⟨g64, h⟩ := itg h
    obtain ⟨r65, hr65, h⟩ := ob h
    refine m_contI hC hw (m_runV hC hw (x := this) (ci := 14) (N := 11) (C := RX11) (T := TX11) (n := 1) (av := [.int (1 : Int32)]) (rest := []) (c_X11_refuse (G := G) (l := l) hr65) gX11_loan_X11_refuse rfl (by decide +kernel) ⟨(Nat.le_of_ble_eq_true rfl), (Nat.le_of_ble_eq_true rfl)⟩ g64 rfl rfl hl.1 rfl (Nat.le_of_ble_eq_true rfl) dX11_loan_20 ⟨(Nat.zero_le _), (Nat.zero_le _)⟩) (fun H locs hw => ?_)
    replace h := Option.some.inj h
    subst h
    exact RET hw ⟨(Nat.zero_le _), (Nat.zero_le _)⟩ dX11_loan_23

def f_X11_refuseAsked (B : Nat) (M : Mem) (this : Option Nat) (a1 : Int32) : Option (Int32 × Mem) := if a1 = 0 then (if isO M this 14 = true then ((f_X11_refuse B M this (1 : Int32)).bind fun r3 => some (r3.1, r3.2)) else none) else (if isO M this 14 = true then ((f_X11_refuse B M this (3 : Int32)).bind fun r5 => some (r5.1, r5.2)) else none)
def rmX11_refuseAsked : Room := { frames := 1, cells := 0, slots := 0, locals := 21 }
set_option maxHeartbeats 4000000 in
set_option maxRecDepth 100000 in
theorem c_X11_refuseAsked {G : wG} {l : Launch} {M : Mem} {sz : Nat} {this : Option Nat} {a1 : Int32} {r : Int32 × Mem} (h : f_X11_refuseAsked G.2.2.1 M this a1 = some r) : CtrI G l yX11_refuseAsked wsX11_refuseAsked rmX11_refuseAsked [va_rf this, .int a1] M sz r.1 r.2 sz := by
  refine m_startI (own := RX11) (cc := cX11_refuseAsked) (maxL := 2) (lv0 := [(0, va_rf this), (1, .int a1)]) (by decide) rfl rfl (by simp [lg_sl, va_rf_cat, cat_i, cat_r]) (by simp [lv_args, va_rf_cat, cat_i, cat_r]) ?_
  intro p e s m args below meth c Q hC hname RET hsz hw ls hl
  have hx := hC.1
  have hb := hC.2.1
  unfold f_X11_refuseAsked at h
  refine m_aload_n (x := this) hx hb dX11_refuseAsked_0 rfl (lv_at hl 0 rfl) ?_
  refine lv_iload_n hx hb dX11_refuseAsked_1 rfl (lv_at hl 1 rfl) ?_
  refine lv_if_eq (tgt := 9) hx hb dX11_refuseAsked_2 (by decide) (fun c1 => ?_) (fun c1 => ?_)
  · replace h := itt h c1
    refine lv_iconst (v := (1 : Int32)) hx hb dX11_refuseAsked_9 (by decide) ?_
    obtain ⟨g2, h⟩ := itg h
    obtain ⟨r3, hr3, h⟩ := ob h
    refine m_contI hC hw (m_runV hC hw (x := this) (ci := 14) (N := 11) (C := RX11) (T := TX11) (n := 1) (av := [.int (1 : Int32)]) (rest := []) (c_X11_refuse (G := G) (l := l) hr3) gX11_refuseAsked_X11_refuse rfl (by decide +kernel) ⟨(Nat.le_of_ble_eq_true rfl), (Nat.le_of_ble_eq_true rfl)⟩ g2 rfl rfl hl.1 rfl (Nat.le_of_ble_eq_true rfl) dX11_refuseAsked_10 ⟨(Nat.zero_le _), (Nat.zero_le _)⟩) (fun H locs hw => ?_)
    replace h := Option.some.inj h
    subst h
    exact RET hw ⟨(Nat.zero_le _), (Nat.zero_le _)⟩ dX11_refuseAsked_13
  · replace h := itf h c1
    refine lv_iconst (v := (3 : Int32)) hx hb dX11_refuseAsked_5 (by decide) ?_
    refine lv_goto (tgt := 10) hx hb dX11_refuseAsked_6 (by decide) ?_
    obtain ⟨g4, h⟩ := itg h
    obtain ⟨r5, hr5, h⟩ := ob h
    refine m_contI hC hw (m_runV hC hw (x := this) (ci := 14) (N := 11) (C := RX11) (T := TX11) (n := 1) (av := [.int (3 : Int32)]) (rest := []) (c_X11_refuse (G := G) (l := l) hr5) gX11_refuseAsked_X11_refuse rfl (by decide +kernel) ⟨(Nat.le_of_ble_eq_true rfl), (Nat.le_of_ble_eq_true rfl)⟩ g4 rfl rfl hl.1 rfl (Nat.le_of_ble_eq_true rfl) dX11_refuseAsked_10 ⟨(Nat.zero_le _), (Nat.zero_le _)⟩) (fun H locs hw => ?_)
    replace h := Option.some.inj h
    subst h
    exact RET hw ⟨(Nat.zero_le _), (Nat.zero_le _)⟩ dX11_refuseAsked_13

def f_X11_report (big : Bool) (B : Nat) (S : Nat → Nat) (n : Nat) (M : Mem) (sz : Nat) (this : Option Nat) (a1 : Int32) (a2 : Int32) : Option (Int32 × Mem × Nat) := if isO M this 14 = true then ((f_X11_thingAt M this a1).bind fun r2 => if r2 = none then ((gR M this 14 0).bind fun v4 => if isO M v4 12 = true then ((f_X9_keep B M v4 (0 : Int32)).bind fun r6 => if r2 = none then (if isO r6 this 14 = true then ((f_X11_refuseAsked B r6 this (0 : Int32)).bind fun r9 => some (r9.1, r9.2, sz)) else none) else (if isO r6 this 14 = true then ((f_X11_refuseAsked B r6 this (1 : Int32)).bind fun r11 => some (r11.1, r11.2, sz)) else none)) else none) else ((f_X11_isDay M a2).bind fun r12 => if r12 = 0 then ((gR M this 14 0).bind fun v57 => if isO M v57 12 = true then ((f_X9_keep B M v57 (0 : Int32)).bind fun r59 => if r2 = none then (if isO r59 this 14 = true then ((f_X11_refuseAsked B r59 this (0 : Int32)).bind fun r62 => some (r62.1, r62.2, sz)) else none) else (if isO r59 this 14 = true then ((f_X11_refuseAsked B r59 this (1 : Int32)).bind fun r64 => some (r64.1, r64.2, sz)) else none)) else none) else ((gR M this 14 1).bind fun v14 => (gR M this 14 0).bind fun v15 => if isO M v14 10 = true then ((f_X7_begin B S n M v14 v15).bind fun r17 => (gR r17 this 14 0).bind fun v18 => if isO r17 v18 12 = true then ((f_X9_keep B r17 v18 (0 : Int32)).bind fun r20 => (gR r20 this 14 1).bind fun v21 => if isO r20 v21 10 = true then ((f_X7_readsReport B n r20 v21).bind fun r23 => ((if r23.1 = 0 then (some ((0 : Int32))) else ((gR r23.2 this 14 1).bind fun v26 => (f_X8_faultIn n r23.2 v26).bind fun r27 => some (r27))) : Option (Int32)).bind fun o28 => ((if r23.1 = 0 then (some (o28)) else (if o28 = 0 then (if isO r23.2 r2 13 = true then ((f_X10_reportOn n r23.2 r2 a2).bind fun r33 => if r33 = none then (some (o28)) else (some ((11 : Int32)))) else none) else (some (o28)))) : Option (Int32)).bind fun o35 => (gI r23.2 this 14 7).bind fun v36 => ((if (48 : Int32) ≤ v36 then (some ((0 : Int32), o35, r23.1, this)) else (some ((1 : Int32), o35, r23.1, this))) : Option (Int32 × Int32 × Int32 × Option Nat)).bind fun o39 => if isO r23.2 o39.2.2.2 14 = true then ((f_X11_refusalOfText B r23.2 o39.2.2.2 o39.2.2.1 o39.2.1 o39.1).bind fun r41 => if r41.1 = 0 then (if big = true then ((some (va_up r41.2 sz (some (.inl (11, [.int 0, .null, .null, .null]))))).bind fun M44 => (gR M44 this 14 1).bind fun v45 => (f_X8_init B S n M44 (sz + 1) (some sz) a2 v45).bind fun r46 => if isO r46.1 r2 13 = true then ((f_X10_addReport B S n r46.1 r46.2 r2 (some sz)).bind fun r48 => (gI r48.1 this 14 7).bind fun v49 => (pF B r48.1 this 14 7 (.int (v49 + (1 : Int32)))).bind fun M50 => if isO M50 r2 13 = true then ((f_X10_reportsTold M50 r2).bind fun r52 => if isO M50 this 14 = true then ((f_X11_answer B M50 this r52).bind fun r54 => some (r54.1, r54.2, r48.2)) else none) else none) else none) else none) else (if isO r41.2 this 14 = true then ((f_X11_refuse B r41.2 this r41.1).bind fun r56 => some (r56.1, r56.2, sz)) else none)) else none) else none) else none) else none))) else none
def rmX11_report (big : Bool) : Room := { frames := 9, cells := if big then 110 else 0, slots := if big then 31184 else 0, locals := 220 }
theorem k_X11_report_10 : Cond.fieldLink RX11 10 "LoanBook" "tape" "LLoanBook$Tape;" ∈ wsX11_report := List.mem_of_getElem? (i := 1) rfl
theorem ki_X11_report_X11 : ∀ w ∈ u_ws RX11 TX11 11, w ∈ wsX11_report := sub_r [524, 525, 526, 527, 528, 529, 530, 531, 532, 533, 534] (by decide +kernel)
theorem k_X11_report_19 : Cond.fieldLink RX11 19 "LoanBook" "reader" "LLoanBook$Reader;" ∈ wsX11_report := List.mem_of_getElem? (i := 2) rfl
theorem k_X11_report_43 : Cond.fieldLink RX11 43 "LoanBook" "reports" "I" ∈ wsX11_report := List.mem_of_getElem? (i := 3) rfl
theorem k_X11_report_n160 : Cond.classLink RX11 160 RX8 ∈ wsX11_report := List.mem_of_getElem? (i := 4) rfl
theorem k_X11_report_ni160 : Cond.instantiable RX8 4 ∈ wsX11_report := List.mem_of_getElem? (i := 5) rfl
theorem k_X11_report_nj160 : Cond.initialized RX8 ∈ wsX11_report := List.mem_of_getElem? (i := 6) rfl
theorem ki_X11_report_X8 : ∀ w ∈ u_ws RX8 TX8 4, w ∈ wsX11_report := sub_r [535, 536, 537, 538] (by decide +kernel)
theorem k_X11_report_ml166 : Cond.methodLink RX11 166 yX8_init ∈ wsX11_report := List.mem_of_getElem? (i := 244) rfl
theorem k_X11_report_imX8_init : Cond.instanceMethod yX8_init ∈ wsX11_report := List.mem_of_getElem? (i := 245) rfl
theorem k_X11_report_inX8 : Cond.initialized RX8 ∈ wsX11_report := List.mem_of_getElem? (i := 6) rfl
set_option maxHeartbeats 4000000 in
set_option maxRecDepth 100000 in
theorem c_X11_report {G : wG} {l : Launch} {big : Bool} {n : Nat} {M : Mem} {sz : Nat} {this : Option Nat} {a1 : Int32} {a2 : Int32} {r : Int32 × Mem × Nat} (h : f_X11_report big G.2.2.1 G.2.2.2 n M sz this a1 a2 = some r) : CtrI G l yX11_report wsX11_report (rmX11_report big) [va_rf this, .int a1, .int a2] M sz r.1 r.2.1 r.2.2 := by
  refine m_startI (own := RX11) (cc := cX11_report) (maxL := 7) (lv0 := [(0, va_rf this), (1, .int a1), (2, .int a2)]) (by decide) rfl rfl (by simp [lg_sl, va_rf_cat, cat_i, cat_r]) (by simp [lv_args, va_rf_cat, cat_i, cat_r]) ?_
  intro p e s m args below meth c Q hC hname RET hsz hw ls hl
  have hx := hC.1
  have hb := hC.2.1
  unfold f_X11_report at h
  refine m_aload_n (x := this) hx hb dX11_report_0 rfl (lv_at hl 0 rfl) ?_
  refine lv_iload_n hx hb dX11_report_1 rfl (lv_at hl 1 rfl) ?_
  obtain ⟨g1, h⟩ := itg h
  obtain ⟨r2, hr2, h⟩ := ob h
  refine m_contQ hC hw (m_runV hC hw (x := this) (ci := 14) (N := 11) (C := RX11) (T := TX11) (n := 1) (av := [.int a1]) (rest := []) (c_X11_thingAt (G := G) (l := l) hr2) gX11_report_X11_thingAt rfl (by decide +kernel) ⟨(Nat.le_of_ble_eq_true rfl), (Nat.le_of_ble_eq_true rfl)⟩ g1 rfl rfl hl.1 rfl (Nat.le_of_ble_eq_true rfl) dX11_report_2 ⟨(Nat.zero_le _), (Nat.zero_le _)⟩) (fun H locs hw => ?_)
  refine m_astore_n (x := r2) (i := 3) (lv' := [(3, va_rf r2), (0, va_rf this), (1, .int a1), (2, .int a2)]) hx hb dX11_report_5 rfl hl (by decide) rfl (fun ls hl => ?_)
  refine m_aload_n (x := r2) hx hb dX11_report_6 rfl (lv_at hl 0 rfl) ?_
  refine m_ifnull (x := r2) (tgt := 17) hx hb dX11_report_7 (by decide) (fun c3 => ?_) (fun c3 => ?_)
  · replace h := itt h c3
    refine m_aload_n (x := this) hx hb dX11_report_17 rfl (lv_at hl 1 rfl) ?_
    obtain ⟨v4, hv4, h⟩ := ob h
    refine m_getR hC hw (C := RX11) (T := TX11) (N := 11) hv4 ki_X11_report_X11 rfl (by decide) k_X11_report_10 (fun _ z => z) dX11_report_18 ?_
    refine lv_iconst (v := (0 : Int32)) hx hb dX11_report_21 (by decide) ?_
    obtain ⟨g5, h⟩ := itg h
    obtain ⟨r6, hr6, h⟩ := ob h
    refine m_contV hC hw (m_runV hC hw (x := v4) (ci := 12) (N := 2) (C := RX9) (T := TX9) (n := 1) (av := [.int (0 : Int32)]) (rest := []) (c_X9_keep (G := G) (l := l) hr6) gX11_report_X9_keep rfl (by decide +kernel) ⟨(Nat.le_of_ble_eq_true rfl), (Nat.le_of_ble_eq_true rfl)⟩ g5 rfl rfl hl.1 rfl (Nat.le_of_ble_eq_true rfl) dX11_report_22 ⟨(Nat.zero_le _), (Nat.zero_le _)⟩) (fun H locs hw => ?_)
    refine m_aload_n (x := this) hx hb dX11_report_25 rfl (lv_at hl 1 rfl) ?_
    refine m_aload_n (x := r2) hx hb dX11_report_26 rfl (lv_at hl 0 rfl) ?_
    refine m_ifnull (x := r2) (tgt := 34) hx hb dX11_report_27 (by decide) (fun c7 => ?_) (fun c7 => ?_)
    · replace h := itt h c7
      refine lv_iconst (v := (0 : Int32)) hx hb dX11_report_34 (by decide) ?_
      obtain ⟨g8, h⟩ := itg h
      obtain ⟨r9, hr9, h⟩ := ob h
      refine m_contI hC hw (m_runV hC hw (x := this) (ci := 14) (N := 11) (C := RX11) (T := TX11) (n := 1) (av := [.int (0 : Int32)]) (rest := []) (c_X11_refuseAsked (G := G) (l := l) hr9) gX11_report_X11_refuseAsked rfl (by decide +kernel) ⟨(Nat.le_of_ble_eq_true rfl), (Nat.le_of_ble_eq_true rfl)⟩ g8 rfl rfl hl.1 rfl (Nat.le_of_ble_eq_true rfl) dX11_report_35 ⟨(Nat.zero_le _), (Nat.zero_le _)⟩) (fun H locs hw => ?_)
      replace h := Option.some.inj h
      subst h
      exact RET hw ⟨(Nat.zero_le _), (Nat.zero_le _)⟩ dX11_report_38
    · replace h := itf h c7
      refine lv_iconst (v := (1 : Int32)) hx hb dX11_report_30 (by decide) ?_
      refine lv_goto (tgt := 35) hx hb dX11_report_31 (by decide) ?_
      obtain ⟨g10, h⟩ := itg h
      obtain ⟨r11, hr11, h⟩ := ob h
      refine m_contI hC hw (m_runV hC hw (x := this) (ci := 14) (N := 11) (C := RX11) (T := TX11) (n := 1) (av := [.int (1 : Int32)]) (rest := []) (c_X11_refuseAsked (G := G) (l := l) hr11) gX11_report_X11_refuseAsked rfl (by decide +kernel) ⟨(Nat.le_of_ble_eq_true rfl), (Nat.le_of_ble_eq_true rfl)⟩ g10 rfl rfl hl.1 rfl (Nat.le_of_ble_eq_true rfl) dX11_report_35 ⟨(Nat.zero_le _), (Nat.zero_le _)⟩) (fun H locs hw => ?_)
      replace h := Option.some.inj h
      subst h
      exact RET hw ⟨(Nat.zero_le _), (Nat.zero_le _)⟩ dX11_report_38
  · replace h := itf h c3
    refine lv_iload_n hx hb dX11_report_10 rfl (lv_at hl 3 rfl) ?_
    obtain ⟨r12, hr12, h⟩ := ob h
    refine m_contI hC hw (m_runS hC hw (n := 1) (av := [.int a2]) (rest := []) (c_X11_isDay (G := G) (l := l) hr12) gX11_report_X11_isDay rfl (by decide +kernel) ⟨(Nat.le_of_ble_eq_true rfl), (Nat.le_of_ble_eq_true rfl)⟩ rfl hl.1 rfl (Nat.le_of_ble_eq_true rfl) dX11_report_11 ⟨(Nat.zero_le _), (Nat.zero_le _)⟩) (fun H locs hw => ?_)
    refine lv_if_ne (tgt := 39) hx hb dX11_report_14 (by decide) (fun c13 => ?_) (fun c13 => ?_)
    · replace h := itf h c13
      refine m_aload_n (x := this) hx hb dX11_report_39 rfl (lv_at hl 1 rfl) ?_
      obtain ⟨v14, hv14, h⟩ := ob h
      refine m_getR hC hw (C := RX11) (T := TX11) (N := 11) hv14 ki_X11_report_X11 rfl (by decide) k_X11_report_19 (fun _ z => z) dX11_report_40 ?_
      refine m_aload_n (x := this) hx hb dX11_report_43 rfl (lv_at hl 1 rfl) ?_
      obtain ⟨v15, hv15, h⟩ := ob h
      refine m_getR hC hw (C := RX11) (T := TX11) (N := 11) hv15 ki_X11_report_X11 rfl (by decide) k_X11_report_10 (fun _ z => z) dX11_report_44 ?_
      obtain ⟨g16, h⟩ := itg h
      obtain ⟨r17, hr17, h⟩ := ob h
      refine m_contV hC hw (m_runV hC hw (x := v14) (ci := 10) (N := 5) (C := RX7) (T := TX7) (n := 1) (av := [va_rf v15]) (rest := []) (c_X7_begin (G := G) (l := l) hr17) gX11_report_X7_begin rfl (by decide +kernel) ⟨(Nat.le_of_ble_eq_true rfl), (Nat.le_of_ble_eq_true rfl)⟩ g16 rfl rfl hl.1 rfl (Nat.le_of_ble_eq_true rfl) dX11_report_47 ⟨(Nat.zero_le _), (Nat.zero_le _)⟩) (fun H locs hw => ?_)
      refine m_aload_n (x := this) hx hb dX11_report_50 rfl (lv_at hl 1 rfl) ?_
      obtain ⟨v18, hv18, h⟩ := ob h
      refine m_getR hC hw (C := RX11) (T := TX11) (N := 11) hv18 ki_X11_report_X11 rfl (by decide) k_X11_report_10 (fun _ z => z) dX11_report_51 ?_
      refine lv_iconst (v := (0 : Int32)) hx hb dX11_report_54 (by decide) ?_
      obtain ⟨g19, h⟩ := itg h
      obtain ⟨r20, hr20, h⟩ := ob h
      refine m_contV hC hw (m_runV hC hw (x := v18) (ci := 12) (N := 2) (C := RX9) (T := TX9) (n := 1) (av := [.int (0 : Int32)]) (rest := []) (c_X9_keep (G := G) (l := l) hr20) gX11_report_X9_keep rfl (by decide +kernel) ⟨(Nat.le_of_ble_eq_true rfl), (Nat.le_of_ble_eq_true rfl)⟩ g19 rfl rfl hl.1 rfl (Nat.le_of_ble_eq_true rfl) dX11_report_55 ⟨(Nat.zero_le _), (Nat.zero_le _)⟩) (fun H locs hw => ?_)
      refine m_aload_n (x := this) hx hb dX11_report_58 rfl (lv_at hl 1 rfl) ?_
      obtain ⟨v21, hv21, h⟩ := ob h
      refine m_getR hC hw (C := RX11) (T := TX11) (N := 11) hv21 ki_X11_report_X11 rfl (by decide) k_X11_report_19 (fun _ z => z) dX11_report_59 ?_
      obtain ⟨g22, h⟩ := itg h
      obtain ⟨r23, hr23, h⟩ := ob h
      refine m_contI hC hw (m_runV hC hw (x := v21) (ci := 10) (N := 5) (C := RX7) (T := TX7) (n := 0) (av := []) (rest := []) (c_X7_readsReport (G := G) (l := l) hr23) gX11_report_X7_readsReport rfl (by decide +kernel) ⟨(Nat.le_of_ble_eq_true rfl), (Nat.le_of_ble_eq_true rfl)⟩ g22 rfl rfl hl.1 rfl (Nat.le_of_ble_eq_true rfl) dX11_report_62 ⟨(Nat.zero_le _), (Nat.zero_le _)⟩) (fun H locs hw => ?_)
      refine lv_istore (lv' := [(4, .int r23.1), (3, va_rf r2), (0, va_rf this), (1, .int a1), (2, .int a2)]) hx hb dX11_report_65 hl (by decide) (by simp [va_rf_cat, cat_i, cat_l]) (fun ls hl => ?_)
      refine lv_iload hx hb dX11_report_67 (lv_at hl 0 rfl) ?_
      obtain ⟨o28, ho28, h⟩ := ob h
      have J24 : ∀ (H : Heap) (locs : List Loc) (ls : Array Slot), wD G s M r23.2 sz H locs → lv_has ls 7 [(0, va_rf this), (2, .int a2), (3, va_rf r2), (4, .int r23.1)] → W p l e (rmX11_report big) s m args below meth c H locs 0 0 Q (F0 m 83 ls [.int o28]) := by
        intro H locs ls hw hl
        refine lv_istore (lv' := [(5, .int o28), (0, va_rf this), (2, .int a2), (3, va_rf r2), (4, .int r23.1)]) hx hb dX11_report_83 hl (by decide) rfl (fun ls hl => ?_)
        refine lv_iload hx hb dX11_report_85 (lv_at hl 4 rfl) ?_
        obtain ⟨o35, ho35, h⟩ := ob h
        have J29 : ∀ (H : Heap) (locs : List Loc) (ls : Array Slot), wD G s M r23.2 sz H locs → lv_has ls 7 [(0, va_rf this), (2, .int a2), (3, va_rf r2), (4, .int r23.1), (5, .int o35)] → W p l e (rmX11_report big) s m args below meth c H locs 0 0 Q (F0 m 107 ls []) := by
          intro H locs ls hw hl
          refine m_aload_n (x := this) hx hb dX11_report_107 rfl (lv_at hl 0 rfl) ?_
          refine lv_iload hx hb dX11_report_108 (lv_at hl 3 rfl) ?_
          refine lv_iload hx hb dX11_report_110 (lv_at hl 4 rfl) ?_
          refine m_aload_n (x := this) hx hb dX11_report_112 rfl (lv_at hl 0 rfl) ?_
          obtain ⟨v36, hv36, h⟩ := ob h
          refine m_getI hC hw (C := RX11) (T := TX11) (N := 11) hv36 ki_X11_report_X11 rfl (by decide) k_X11_report_43 (fun _ z => z) dX11_report_113 ?_
          refine lv_bipush (v := (48 : Int32)) hx hb dX11_report_116 (by decide) ?_
          obtain ⟨o39, ho39, h⟩ := ob h
          have J37 : ∀ (H : Heap) (locs : List Loc) (ls : Array Slot), wD G s M r23.2 sz H locs → lv_has ls 7 [(0, va_rf this), (2, .int a2), (3, va_rf r2)] → W p l e (rmX11_report big) s m args below meth c H locs 0 0 Q (F0 m 126 ls [.int o39.1, .int o39.2.1, .int o39.2.2.1, va_rf o39.2.2.2]) := by
            intro H locs ls hw hl
            obtain ⟨g40, h⟩ := itg h
            obtain ⟨r41, hr41, h⟩ := ob h
            refine m_contI hC hw (m_runV hC hw (x := o39.2.2.2) (ci := 14) (N := 11) (C := RX11) (T := TX11) (n := 3) (av := [.int o39.2.2.1, .int o39.2.1, .int o39.1]) (rest := []) (c_X11_refusalOfText (G := G) (l := l) hr41) gX11_report_X11_refusalOfText rfl (by decide +kernel) ⟨(Nat.le_of_ble_eq_true rfl), (Nat.le_of_ble_eq_true rfl)⟩ g40 rfl rfl hl.1 rfl (Nat.le_of_ble_eq_true rfl) dX11_report_126 ⟨(Nat.zero_le _), (Nat.zero_le _)⟩) (fun H locs hw => ?_)
            refine lv_istore (lv' := [(6, .int r41.1), (0, va_rf this), (2, .int a2), (3, va_rf r2)]) hx hb dX11_report_129 hl (by decide) rfl (fun ls hl => ?_)
            refine lv_iload hx hb dX11_report_131 (lv_at hl 0 rfl) ?_
            refine lv_if_eq (tgt := 143) hx hb dX11_report_133 (by decide) (fun c42 => ?_) (fun c42 => ?_)
            · replace h := itt h c42
              refine m_aload_n (x := r2) hx hb dX11_report_143 rfl (lv_at hl 3 rfl) ?_
              obtain ⟨g43, h⟩ := itg h
              obtain ⟨M44, hM44, h⟩ := ob h
              refine m_new hC hw (C := RX8) (T := TX8) (N := 4) (ci := 11) (fs := [.int 0, .null, .null, .null]) ki_X11_report_X8 tyX8 tyX8_ok k_X11_report_n160 k_X11_report_ni160 k_X11_report_nj160 rfl (fun j hj => by match j, hj with | 0, _ => rfl | 1, _ => rfl | 2, _ => rfl | 3, _ => rfl) (by rw [g43]; exact Nat.le_of_ble_eq_true rfl) (by rw [g43]; exact Nat.le_of_ble_eq_true rfl) dX11_report_144 (fun H hw => ?_)
              rw [Option.some.inj hM44] at hw
              refine m_dup (x := (some sz)) hx hb dX11_report_147 ?_
              refine lv_iload_n hx hb dX11_report_148 rfl (lv_at hl 2 rfl) ?_
              refine m_aload_n (x := this) hx hb dX11_report_149 rfl (lv_at hl 1 rfl) ?_
              obtain ⟨v45, hv45, h⟩ := ob h
              refine m_getR hC hw (C := RX11) (T := TX11) (N := 11) hv45 ki_X11_report_X11 rfl (by decide) k_X11_report_19 (fun _ z => z) dX11_report_150 ?_
              obtain ⟨r46, hr46, h⟩ := ob h
              refine m_contV hC hw (m_runI hC hw (x := (some sz)) (n := 2) (av := [.int a2, va_rf v45]) (rest := [va_rf (some sz), va_rf r2]) (c_X8_init (G := G) (l := l) hr46) gX11_report_X8_init k_X11_report_ml166 k_X11_report_imX8_init k_X11_report_inX8 rfl rfl (by decide +kernel) ⟨(Nat.le_of_ble_eq_true rfl), (Nat.le_of_ble_eq_true rfl)⟩ rfl rfl hl.1 rfl (by simp [va_rf_cat, cat_i, cat_r, cat_l]) dX11_report_153 ⟨(by rw [g43]; exact Nat.le_of_ble_eq_true rfl), (by rw [g43]; exact Nat.le_of_ble_eq_true rfl)⟩) (fun H locs hw => ?_)
              obtain ⟨g47, h⟩ := itg h
              obtain ⟨r48, hr48, h⟩ := ob h
              refine m_contV hC hw (m_runV hC hw (x := r2) (ci := 13) (N := 9) (C := RX10) (T := TX10) (n := 1) (av := [va_rf (some sz)]) (rest := []) (c_X10_addReport (G := G) (l := l) hr48) gX11_report_X10_addReport rfl (by decide +kernel) ⟨(Nat.le_of_ble_eq_true rfl), (Nat.le_of_ble_eq_true rfl)⟩ g47 rfl rfl hl.1 rfl (Nat.le_of_ble_eq_true rfl) dX11_report_156 ⟨(by rw [g43]; exact Nat.le_of_ble_eq_true rfl), (by rw [g43]; exact Nat.le_of_ble_eq_true rfl)⟩) (fun H locs hw => ?_)
              refine m_aload_n (x := this) hx hb dX11_report_159 rfl (lv_at hl 1 rfl) ?_
              refine m_dup (x := this) hx hb dX11_report_160 ?_
              obtain ⟨v49, hv49, h⟩ := ob h
              refine m_getI hC hw (C := RX11) (T := TX11) (N := 11) hv49 ki_X11_report_X11 rfl (by decide) k_X11_report_43 (fun _ z => z) dX11_report_161 ?_
              refine lv_iconst (v := (1 : Int32)) hx hb dX11_report_164 (by decide) ?_
              refine lv_iadd hx hb dX11_report_165 ?_
              obtain ⟨M50, hM50, h⟩ := ob h
              refine m_put hC hw (C := RX11) (T := TX11) (N := 11) (x := this) hM50 ki_X11_report_X11 tyX11 tyX11_ok nmX11 rfl (by decide) k_X11_report_43 (fun _ z => z) rfl rfl rfl dX11_report_166 (fun H locs hw => ?_)
              refine m_aload_n (x := this) hx hb dX11_report_169 rfl (lv_at hl 1 rfl) ?_
              refine m_aload_n (x := r2) hx hb dX11_report_170 rfl (lv_at hl 3 rfl) ?_
              obtain ⟨g51, h⟩ := itg h
              obtain ⟨r52, hr52, h⟩ := ob h
              refine m_contI hC hw (m_runV hC hw (x := r2) (ci := 13) (N := 9) (C := RX10) (T := TX10) (n := 0) (av := []) (rest := [va_rf this]) (c_X10_reportsTold (G := G) (l := l) hr52) gX11_report_X10_reportsTold rfl (by decide +kernel) ⟨(Nat.le_of_ble_eq_true rfl), (Nat.le_of_ble_eq_true rfl)⟩ g51 rfl rfl hl.1 rfl (by simp [va_rf_cat, cat_i, cat_r, cat_l]) dX11_report_171 ⟨(by rw [g43]; exact Nat.le_of_ble_eq_true rfl), (by rw [g43]; exact Nat.le_of_ble_eq_true rfl)⟩) (fun H locs hw => ?_)
              obtain ⟨g53, h⟩ := itg h
              obtain ⟨r54, hr54, h⟩ := ob h
              refine m_contI hC hw (m_runV hC hw (x := this) (ci := 14) (N := 11) (C := RX11) (T := TX11) (n := 1) (av := [.int r52]) (rest := []) (c_X11_answer (G := G) (l := l) hr54) gX11_report_X11_answer rfl (by decide +kernel) ⟨(Nat.le_of_ble_eq_true rfl), (Nat.le_of_ble_eq_true rfl)⟩ g53 rfl rfl hl.1 rfl (Nat.le_of_ble_eq_true rfl) dX11_report_174 ⟨(by rw [g43]; exact Nat.le_of_ble_eq_true rfl), (by rw [g43]; exact Nat.le_of_ble_eq_true rfl)⟩) (fun H locs hw => ?_)
              replace h := Option.some.inj h
              subst h
              exact RET hw ⟨(by rw [g43]; exact Nat.le_of_ble_eq_true rfl), (by rw [g43]; exact Nat.le_of_ble_eq_true rfl)⟩ dX11_report_177
            · replace h := itf h c42
              refine m_aload_n (x := this) hx hb dX11_report_136 rfl (lv_at hl 1 rfl) ?_
              refine lv_iload hx hb dX11_report_137 (lv_at hl 0 rfl) ?_
              obtain ⟨g55, h⟩ := itg h
              obtain ⟨r56, hr56, h⟩ := ob h
              refine m_contI hC hw (m_runV hC hw (x := this) (ci := 14) (N := 11) (C := RX11) (T := TX11) (n := 1) (av := [.int r41.1]) (rest := []) (c_X11_refuse (G := G) (l := l) hr56) gX11_report_X11_refuse rfl (by decide +kernel) ⟨(Nat.le_of_ble_eq_true rfl), (Nat.le_of_ble_eq_true rfl)⟩ g55 rfl rfl hl.1 rfl (Nat.le_of_ble_eq_true rfl) dX11_report_139 ⟨(Nat.zero_le _), (Nat.zero_le _)⟩) (fun H locs hw => ?_)
              replace h := Option.some.inj h
              subst h
              exact RET hw ⟨(Nat.zero_le _), (Nat.zero_le _)⟩ dX11_report_142
          clear h
          replace h := ho39
          refine lv_icmp_ge (tgt := 125) hx hb dX11_report_118 (by decide) (fun c38 => ?_) (fun c38 => ?_)
          · replace h := itt h c38
            refine lv_iconst (v := (0 : Int32)) hx hb dX11_report_125 (by decide) ?_
            replace h := Option.some.inj h
            subst h
            refine W.widen (k := 0) (n := 0) (Nat.le_of_ble_eq_true rfl) (Nat.le_of_ble_eq_true rfl) ?_
            exact J37 _ _ _ hw (lv_sub hl [0, 1, 2] rfl)
          · replace h := itf h c38
            refine lv_iconst (v := (1 : Int32)) hx hb dX11_report_121 (by decide) ?_
            refine lv_goto (tgt := 126) hx hb dX11_report_122 (by decide) ?_
            replace h := Option.some.inj h
            subst h
            refine W.widen (k := 0) (n := 0) (Nat.le_of_ble_eq_true rfl) (Nat.le_of_ble_eq_true rfl) ?_
            exact J37 _ _ _ hw (lv_sub hl [0, 1, 2] rfl)
        clear h
        replace h := ho35
        refine lv_if_eq (tgt := 107) hx hb dX11_report_87 (by decide) (fun c30 => ?_) (fun c30 => ?_)
        · replace h := itt h c30
          replace h := Option.some.inj h
          subst h
          refine W.widen (k := 0) (n := 0) (Nat.le_of_ble_eq_true rfl) (Nat.le_of_ble_eq_true rfl) ?_
          exact J29 _ _ _ hw (lv_sub hl [1, 2, 3, 4, 0] rfl)
        · replace h := itf h c30
          refine lv_iload hx hb dX11_report_90 (lv_at hl 0 rfl) ?_
          refine lv_if_ne (tgt := 107) hx hb dX11_report_92 (by decide) (fun c31 => ?_) (fun c31 => ?_)
          · replace h := itf h c31
            replace h := Option.some.inj h
            subst h
            refine W.widen (k := 0) (n := 0) (Nat.le_of_ble_eq_true rfl) (Nat.le_of_ble_eq_true rfl) ?_
            exact J29 _ _ _ hw (lv_sub hl [1, 2, 3, 4, 0] rfl)
          · replace h := itt h c31
            refine m_aload_n (x := r2) hx hb dX11_report_95 rfl (lv_at hl 3 rfl) ?_
            refine lv_iload_n hx hb dX11_report_96 rfl (lv_at hl 2 rfl) ?_
            obtain ⟨g32, h⟩ := itg h
            obtain ⟨r33, hr33, h⟩ := ob h
            refine m_contQ hC hw (m_runV hC hw (x := r2) (ci := 13) (N := 9) (C := RX10) (T := TX10) (n := 1) (av := [.int a2]) (rest := []) (c_X10_reportOn (G := G) (l := l) hr33) gX11_report_X10_reportOn rfl (by decide +kernel) ⟨(Nat.le_of_ble_eq_true rfl), (Nat.le_of_ble_eq_true rfl)⟩ g32 rfl rfl hl.1 rfl (Nat.le_of_ble_eq_true rfl) dX11_report_97 ⟨(Nat.zero_le _), (Nat.zero_le _)⟩) (fun H locs hw => ?_)
            refine m_ifnull (x := r33) (tgt := 107) hx hb dX11_report_100 (by decide) (fun c34 => ?_) (fun c34 => ?_)
            · replace h := itt h c34
              replace h := Option.some.inj h
              subst h
              refine W.widen (k := 0) (n := 0) (Nat.le_of_ble_eq_true rfl) (Nat.le_of_ble_eq_true rfl) ?_
              exact J29 _ _ _ hw (lv_sub hl [1, 2, 3, 4, 0] rfl)
            · replace h := itf h c34
              refine lv_bipush (v := (11 : Int32)) hx hb dX11_report_103 (by decide) ?_
              refine lv_istore (lv' := [(5, .int (11 : Int32)), (0, va_rf this), (2, .int a2), (3, va_rf r2), (4, .int r23.1)]) hx hb dX11_report_105 hl (by decide) rfl (fun ls hl => ?_)
              replace h := Option.some.inj h
              subst h
              refine W.widen (k := 0) (n := 0) (Nat.le_of_ble_eq_true rfl) (Nat.le_of_ble_eq_true rfl) ?_
              exact J29 _ _ _ hw (lv_sub hl [1, 2, 3, 4, 0] rfl)
      clear h
      replace h := ho28
      refine lv_if_eq (tgt := 82) hx hb dX11_report_69 (by decide) (fun c25 => ?_) (fun c25 => ?_)
      · replace h := itt h c25
        refine lv_iconst (v := (0 : Int32)) hx hb dX11_report_82 (by decide) ?_
        replace h := Option.some.inj h
        subst h
        refine W.widen (k := 0) (n := 0) (Nat.le_of_ble_eq_true rfl) (Nat.le_of_ble_eq_true rfl) ?_
        exact J24 _ _ _ hw (lv_sub hl [2, 4, 1, 0] rfl)
      · replace h := itf h c25
        refine m_aload_n (x := this) hx hb dX11_report_72 rfl (lv_at hl 2 rfl) ?_
        obtain ⟨v26, hv26, h⟩ := ob h
        refine m_getR hC hw (C := RX11) (T := TX11) (N := 11) hv26 ki_X11_report_X11 rfl (by decide) k_X11_report_19 (fun _ z => z) dX11_report_73 ?_
        obtain ⟨r27, hr27, h⟩ := ob h
        refine m_contI hC hw (m_runS hC hw (n := 1) (av := [va_rf v26]) (rest := []) (c_X8_faultIn (G := G) (l := l) hr27) gX11_report_X8_faultIn rfl (by decide +kernel) ⟨(Nat.le_of_ble_eq_true rfl), (Nat.le_of_ble_eq_true rfl)⟩ rfl hl.1 rfl (Nat.le_of_ble_eq_true rfl) dX11_report_76 ⟨(Nat.zero_le _), (Nat.zero_le _)⟩) (fun H locs hw => ?_)
        refine lv_goto (tgt := 83) hx hb dX11_report_79 (by decide) ?_
        replace h := Option.some.inj h
        subst h
        refine W.widen (k := 0) (n := 0) (Nat.le_of_ble_eq_true rfl) (Nat.le_of_ble_eq_true rfl) ?_
        exact J24 _ _ _ hw (lv_sub hl [2, 4, 1, 0] rfl)
    · replace h := itt h c13
      refine m_aload_n (x := this) hx hb dX11_report_17 rfl (lv_at hl 1 rfl) ?_
      obtain ⟨v57, hv57, h⟩ := ob h
      refine m_getR hC hw (C := RX11) (T := TX11) (N := 11) hv57 ki_X11_report_X11 rfl (by decide) k_X11_report_10 (fun _ z => z) dX11_report_18 ?_
      refine lv_iconst (v := (0 : Int32)) hx hb dX11_report_21 (by decide) ?_
      obtain ⟨g58, h⟩ := itg h
      obtain ⟨r59, hr59, h⟩ := ob h
      refine m_contV hC hw (m_runV hC hw (x := v57) (ci := 12) (N := 2) (C := RX9) (T := TX9) (n := 1) (av := [.int (0 : Int32)]) (rest := []) (c_X9_keep (G := G) (l := l) hr59) gX11_report_X9_keep rfl (by decide +kernel) ⟨(Nat.le_of_ble_eq_true rfl), (Nat.le_of_ble_eq_true rfl)⟩ g58 rfl rfl hl.1 rfl (Nat.le_of_ble_eq_true rfl) dX11_report_22 ⟨(Nat.zero_le _), (Nat.zero_le _)⟩) (fun H locs hw => ?_)
      refine m_aload_n (x := this) hx hb dX11_report_25 rfl (lv_at hl 1 rfl) ?_
      refine m_aload_n (x := r2) hx hb dX11_report_26 rfl (lv_at hl 0 rfl) ?_
      refine m_ifnull (x := r2) (tgt := 34) hx hb dX11_report_27 (by decide) (fun c60 => ?_) (fun c60 => ?_)
      · replace h := itt h c60
        refine lv_iconst (v := (0 : Int32)) hx hb dX11_report_34 (by decide) ?_
        obtain ⟨g61, h⟩ := itg h
        obtain ⟨r62, hr62, h⟩ := ob h
        refine m_contI hC hw (m_runV hC hw (x := this) (ci := 14) (N := 11) (C := RX11) (T := TX11) (n := 1) (av := [.int (0 : Int32)]) (rest := []) (c_X11_refuseAsked (G := G) (l := l) hr62) gX11_report_X11_refuseAsked rfl (by decide +kernel) ⟨(Nat.le_of_ble_eq_true rfl), (Nat.le_of_ble_eq_true rfl)⟩ g61 rfl rfl hl.1 rfl (Nat.le_of_ble_eq_true rfl) dX11_report_35 ⟨(Nat.zero_le _), (Nat.zero_le _)⟩) (fun H locs hw => ?_)
        replace h := Option.some.inj h
        subst h
        exact RET hw ⟨(Nat.zero_le _), (Nat.zero_le _)⟩ dX11_report_38
      · replace h := itf h c60
        refine lv_iconst (v := (1 : Int32)) hx hb dX11_report_30 (by decide) ?_
        refine lv_goto (tgt := 35) hx hb dX11_report_31 (by decide) ?_
        obtain ⟨g63, h⟩ := itg h
        obtain ⟨r64, hr64, h⟩ := ob h
        refine m_contI hC hw (m_runV hC hw (x := this) (ci := 14) (N := 11) (C := RX11) (T := TX11) (n := 1) (av := [.int (1 : Int32)]) (rest := []) (c_X11_refuseAsked (G := G) (l := l) hr64) gX11_report_X11_refuseAsked rfl (by decide +kernel) ⟨(Nat.le_of_ble_eq_true rfl), (Nat.le_of_ble_eq_true rfl)⟩ g63 rfl rfl hl.1 rfl (Nat.le_of_ble_eq_true rfl) dX11_report_35 ⟨(Nat.zero_le _), (Nat.zero_le _)⟩) (fun H locs hw => ?_)
        replace h := Option.some.inj h
        subst h
        exact RET hw ⟨(Nat.zero_le _), (Nat.zero_le _)⟩ dX11_report_38

def f_X11_appraise (B : Nat) (n : Nat) (M : Mem) (this : Option Nat) (a1 : Int32) (a2 : Int32) (a3 : Int32) : Option (Int32 × Mem) := if isO M this 14 = true then ((f_X11_thingAt M this a1).bind fun r2 => if r2 = none then (if r2 = none then (if isO M this 14 = true then ((f_X11_refuseAsked B M this (0 : Int32)).bind fun r6 => some (r6.1, r6.2)) else none) else (if isO M this 14 = true then ((f_X11_refuseAsked B M this (1 : Int32)).bind fun r8 => some (r8.1, r8.2)) else none)) else ((f_X11_isDay M a2).bind fun r9 => if r9 = 0 then (if r2 = none then (if isO M this 14 = true then ((f_X11_refuseAsked B M this (0 : Int32)).bind fun r13 => some (r13.1, r13.2)) else none) else (if isO M this 14 = true then ((f_X11_refuseAsked B M this (1 : Int32)).bind fun r15 => some (r15.1, r15.2)) else none)) else (if a3 < (1 : Int32) then (if r2 = none then (if isO M this 14 = true then ((f_X11_refuseAsked B M this (0 : Int32)).bind fun r19 => some (r19.1, r19.2)) else none) else (if isO M this 14 = true then ((f_X11_refuseAsked B M this (1 : Int32)).bind fun r21 => some (r21.1, r21.2)) else none)) else (if a3 ≤ (9999 : Int32) then ((gR M r2 13 5).bind fun v23 => if isO M v23 3 = true then ((f_X0_tells n M v23 a2).bind fun r25 => ((if r25 = 0 then (some ((1 : Int32))) else (some ((0 : Int32)))) : Option (Int32)).bind fun o28 => if o28 = 0 then (if isO M r2 13 = true then ((f_X10_valueOn n M r2 a2).bind fun r31 => (gR M r2 13 5).bind fun v32 => if isO M v32 3 = true then ((f_X0_tell B n M v32 a2 a3).bind fun r34 => if o28 = 0 then (if isO r34 this 14 = true then ((f_X11_answer B r34 this r31).bind fun r37 => some (r37.1, r37.2)) else none) else ((gI r34 this 14 8).bind fun v38 => (pF B r34 this 14 8 (.int (v38 + (1 : Int32)))).bind fun M39 => if isO M39 this 14 = true then ((f_X11_answer B M39 this r31).bind fun r41 => some (r41.1, r41.2)) else none)) else none) else none) else ((gI M this 14 8).bind fun v42 => if v42 < (48 : Int32) then (if isO M r2 13 = true then ((f_X10_valueOn n M r2 a2).bind fun r45 => (gR M r2 13 5).bind fun v46 => if isO M v46 3 = true then ((f_X0_tell B n M v46 a2 a3).bind fun r48 => if o28 = 0 then (if isO r48 this 14 = true then ((f_X11_answer B r48 this r45).bind fun r51 => some (r51.1, r51.2)) else none) else ((gI r48 this 14 8).bind fun v52 => (pF B r48 this 14 8 (.int (v52 + (1 : Int32)))).bind fun M53 => if isO M53 this 14 = true then ((f_X11_answer B M53 this r45).bind fun r55 => some (r55.1, r55.2)) else none)) else none) else none) else (if isO M this 14 = true then ((f_X11_refuse B M this (9 : Int32)).bind fun r57 => some (r57.1, r57.2)) else none))) else none) else (if r2 = none then (if isO M this 14 = true then ((f_X11_refuseAsked B M this (0 : Int32)).bind fun r60 => some (r60.1, r60.2)) else none) else (if isO M this 14 = true then ((f_X11_refuseAsked B M this (1 : Int32)).bind fun r62 => some (r62.1, r62.2)) else none)))))) else none
def rmX11_appraise : Room := { frames := 4, cells := 0, slots := 0, locals := 85 }
theorem k_X11_appraise_174 : Cond.fieldLink RX11 174 "LoanBook$Thing" "appraisals" "LLoanBook$Appraisals;" ∈ wsX11_appraise := List.mem_of_getElem? (i := 1) rfl
theorem ki_X11_appraise_X10 : ∀ w ∈ u_ws RX10 TX10 9, w ∈ wsX11_appraise := sub_r [81, 82, 83, 84, 85, 86, 87, 88, 89] (by decide +kernel)
theorem k_X11_appraise_46 : Cond.fieldLink RX11 46 "LoanBook" "appraisals" "I" ∈ wsX11_appraise := List.mem_of_getElem? (i := 2) rfl
theorem ki_X11_appraise_X11 : ∀ w ∈ u_ws RX11 TX11 11, w ∈ wsX11_appraise := sub_r [90, 91, 92, 93, 94, 95, 96, 97, 98, 99, 100] (by decide +kernel)
set_option maxHeartbeats 4000000 in
set_option maxRecDepth 100000 in
theorem c_X11_appraise {G : wG} {l : Launch} {n : Nat} {M : Mem} {sz : Nat} {this : Option Nat} {a1 : Int32} {a2 : Int32} {a3 : Int32} {r : Int32 × Mem} (h : f_X11_appraise G.2.2.1 n M this a1 a2 a3 = some r) : CtrI G l yX11_appraise wsX11_appraise rmX11_appraise [va_rf this, .int a1, .int a2, .int a3] M sz r.1 r.2 sz := by
  refine m_startI (own := RX11) (cc := cX11_appraise) (maxL := 7) (lv0 := [(0, va_rf this), (1, .int a1), (2, .int a2), (3, .int a3)]) (by decide) rfl rfl (by simp [lg_sl, va_rf_cat, cat_i, cat_r]) (by simp [lv_args, va_rf_cat, cat_i, cat_r]) ?_
  intro p e s m args below meth c Q hC hname RET hsz hw ls hl
  have hx := hC.1
  have hb := hC.2.1
  unfold f_X11_appraise at h
  refine m_aload_n (x := this) hx hb dX11_appraise_0 rfl (lv_at hl 0 rfl) ?_
  refine lv_iload_n hx hb dX11_appraise_1 rfl (lv_at hl 1 rfl) ?_
  obtain ⟨g1, h⟩ := itg h
  obtain ⟨r2, hr2, h⟩ := ob h
  refine m_contQ hC hw (m_runV hC hw (x := this) (ci := 14) (N := 11) (C := RX11) (T := TX11) (n := 1) (av := [.int a1]) (rest := []) (c_X11_thingAt (G := G) (l := l) hr2) gX11_appraise_X11_thingAt rfl (by decide +kernel) ⟨(Nat.le_of_ble_eq_true rfl), (Nat.le_of_ble_eq_true rfl)⟩ g1 rfl rfl hl.1 rfl (Nat.le_of_ble_eq_true rfl) dX11_appraise_2 ⟨(Nat.zero_le _), (Nat.zero_le _)⟩) (fun H locs hw => ?_)
  refine m_astore (x := r2) (lv' := [(4, va_rf r2), (0, va_rf this), (1, .int a1), (2, .int a2), (3, .int a3)]) hx hb dX11_appraise_5 hl (by decide) rfl (fun ls hl => ?_)
  refine m_aload (x := r2) hx hb dX11_appraise_7 (lv_at hl 0 rfl) ?_
  refine m_ifnull (x := r2) (tgt := 31) hx hb dX11_appraise_9 (by decide) (fun c3 => ?_) (fun c3 => ?_)
  · replace h := itt h c3
    refine m_aload_n (x := this) hx hb dX11_appraise_31 rfl (lv_at hl 1 rfl) ?_
    refine m_aload (x := r2) hx hb dX11_appraise_32 (lv_at hl 0 rfl) ?_
    refine m_ifnull (x := r2) (tgt := 41) hx hb dX11_appraise_34 (by decide) (fun c4 => ?_) (fun c4 => ?_)
    · replace h := itt h c4
      refine lv_iconst (v := (0 : Int32)) hx hb dX11_appraise_41 (by decide) ?_
      obtain ⟨g5, h⟩ := itg h
      obtain ⟨r6, hr6, h⟩ := ob h
      refine m_contI hC hw (m_runV hC hw (x := this) (ci := 14) (N := 11) (C := RX11) (T := TX11) (n := 1) (av := [.int (0 : Int32)]) (rest := []) (c_X11_refuseAsked (G := G) (l := l) hr6) gX11_appraise_X11_refuseAsked rfl (by decide +kernel) ⟨(Nat.le_of_ble_eq_true rfl), (Nat.le_of_ble_eq_true rfl)⟩ g5 rfl rfl hl.1 rfl (Nat.le_of_ble_eq_true rfl) dX11_appraise_42 ⟨(Nat.zero_le _), (Nat.zero_le _)⟩) (fun H locs hw => ?_)
      replace h := Option.some.inj h
      subst h
      exact RET hw ⟨(Nat.zero_le _), (Nat.zero_le _)⟩ dX11_appraise_45
    · replace h := itf h c4
      refine lv_iconst (v := (1 : Int32)) hx hb dX11_appraise_37 (by decide) ?_
      refine lv_goto (tgt := 42) hx hb dX11_appraise_38 (by decide) ?_
      obtain ⟨g7, h⟩ := itg h
      obtain ⟨r8, hr8, h⟩ := ob h
      refine m_contI hC hw (m_runV hC hw (x := this) (ci := 14) (N := 11) (C := RX11) (T := TX11) (n := 1) (av := [.int (1 : Int32)]) (rest := []) (c_X11_refuseAsked (G := G) (l := l) hr8) gX11_appraise_X11_refuseAsked rfl (by decide +kernel) ⟨(Nat.le_of_ble_eq_true rfl), (Nat.le_of_ble_eq_true rfl)⟩ g7 rfl rfl hl.1 rfl (Nat.le_of_ble_eq_true rfl) dX11_appraise_42 ⟨(Nat.zero_le _), (Nat.zero_le _)⟩) (fun H locs hw => ?_)
      replace h := Option.some.inj h
      subst h
      exact RET hw ⟨(Nat.zero_le _), (Nat.zero_le _)⟩ dX11_appraise_45
  · replace h := itf h c3
    refine lv_iload_n hx hb dX11_appraise_12 rfl (lv_at hl 3 rfl) ?_
    obtain ⟨r9, hr9, h⟩ := ob h
    refine m_contI hC hw (m_runS hC hw (n := 1) (av := [.int a2]) (rest := []) (c_X11_isDay (G := G) (l := l) hr9) gX11_appraise_X11_isDay rfl (by decide +kernel) ⟨(Nat.le_of_ble_eq_true rfl), (Nat.le_of_ble_eq_true rfl)⟩ rfl hl.1 rfl (Nat.le_of_ble_eq_true rfl) dX11_appraise_13 ⟨(Nat.zero_le _), (Nat.zero_le _)⟩) (fun H locs hw => ?_)
    refine lv_if_eq (tgt := 31) hx hb dX11_appraise_16 (by decide) (fun c10 => ?_) (fun c10 => ?_)
    · replace h := itt h c10
      refine m_aload_n (x := this) hx hb dX11_appraise_31 rfl (lv_at hl 1 rfl) ?_
      refine m_aload (x := r2) hx hb dX11_appraise_32 (lv_at hl 0 rfl) ?_
      refine m_ifnull (x := r2) (tgt := 41) hx hb dX11_appraise_34 (by decide) (fun c11 => ?_) (fun c11 => ?_)
      · replace h := itt h c11
        refine lv_iconst (v := (0 : Int32)) hx hb dX11_appraise_41 (by decide) ?_
        obtain ⟨g12, h⟩ := itg h
        obtain ⟨r13, hr13, h⟩ := ob h
        refine m_contI hC hw (m_runV hC hw (x := this) (ci := 14) (N := 11) (C := RX11) (T := TX11) (n := 1) (av := [.int (0 : Int32)]) (rest := []) (c_X11_refuseAsked (G := G) (l := l) hr13) gX11_appraise_X11_refuseAsked rfl (by decide +kernel) ⟨(Nat.le_of_ble_eq_true rfl), (Nat.le_of_ble_eq_true rfl)⟩ g12 rfl rfl hl.1 rfl (Nat.le_of_ble_eq_true rfl) dX11_appraise_42 ⟨(Nat.zero_le _), (Nat.zero_le _)⟩) (fun H locs hw => ?_)
        replace h := Option.some.inj h
        subst h
        exact RET hw ⟨(Nat.zero_le _), (Nat.zero_le _)⟩ dX11_appraise_45
      · replace h := itf h c11
        refine lv_iconst (v := (1 : Int32)) hx hb dX11_appraise_37 (by decide) ?_
        refine lv_goto (tgt := 42) hx hb dX11_appraise_38 (by decide) ?_
        obtain ⟨g14, h⟩ := itg h
        obtain ⟨r15, hr15, h⟩ := ob h
        refine m_contI hC hw (m_runV hC hw (x := this) (ci := 14) (N := 11) (C := RX11) (T := TX11) (n := 1) (av := [.int (1 : Int32)]) (rest := []) (c_X11_refuseAsked (G := G) (l := l) hr15) gX11_appraise_X11_refuseAsked rfl (by decide +kernel) ⟨(Nat.le_of_ble_eq_true rfl), (Nat.le_of_ble_eq_true rfl)⟩ g14 rfl rfl hl.1 rfl (Nat.le_of_ble_eq_true rfl) dX11_appraise_42 ⟨(Nat.zero_le _), (Nat.zero_le _)⟩) (fun H locs hw => ?_)
        replace h := Option.some.inj h
        subst h
        exact RET hw ⟨(Nat.zero_le _), (Nat.zero_le _)⟩ dX11_appraise_45
    · replace h := itf h c10
      refine lv_iload_n hx hb dX11_appraise_19 rfl (lv_at hl 4 rfl) ?_
      refine lv_iconst (v := (1 : Int32)) hx hb dX11_appraise_20 (by decide) ?_
      refine lv_icmp_lt (tgt := 31) hx hb dX11_appraise_21 (by decide) (fun c16 => ?_) (fun c16 => ?_)
      · replace h := itt h c16
        refine m_aload_n (x := this) hx hb dX11_appraise_31 rfl (lv_at hl 1 rfl) ?_
        refine m_aload (x := r2) hx hb dX11_appraise_32 (lv_at hl 0 rfl) ?_
        refine m_ifnull (x := r2) (tgt := 41) hx hb dX11_appraise_34 (by decide) (fun c17 => ?_) (fun c17 => ?_)
        · replace h := itt h c17
          refine lv_iconst (v := (0 : Int32)) hx hb dX11_appraise_41 (by decide) ?_
          obtain ⟨g18, h⟩ := itg h
          obtain ⟨r19, hr19, h⟩ := ob h
          refine m_contI hC hw (m_runV hC hw (x := this) (ci := 14) (N := 11) (C := RX11) (T := TX11) (n := 1) (av := [.int (0 : Int32)]) (rest := []) (c_X11_refuseAsked (G := G) (l := l) hr19) gX11_appraise_X11_refuseAsked rfl (by decide +kernel) ⟨(Nat.le_of_ble_eq_true rfl), (Nat.le_of_ble_eq_true rfl)⟩ g18 rfl rfl hl.1 rfl (Nat.le_of_ble_eq_true rfl) dX11_appraise_42 ⟨(Nat.zero_le _), (Nat.zero_le _)⟩) (fun H locs hw => ?_)
          replace h := Option.some.inj h
          subst h
          exact RET hw ⟨(Nat.zero_le _), (Nat.zero_le _)⟩ dX11_appraise_45
        · replace h := itf h c17
          refine lv_iconst (v := (1 : Int32)) hx hb dX11_appraise_37 (by decide) ?_
          refine lv_goto (tgt := 42) hx hb dX11_appraise_38 (by decide) ?_
          obtain ⟨g20, h⟩ := itg h
          obtain ⟨r21, hr21, h⟩ := ob h
          refine m_contI hC hw (m_runV hC hw (x := this) (ci := 14) (N := 11) (C := RX11) (T := TX11) (n := 1) (av := [.int (1 : Int32)]) (rest := []) (c_X11_refuseAsked (G := G) (l := l) hr21) gX11_appraise_X11_refuseAsked rfl (by decide +kernel) ⟨(Nat.le_of_ble_eq_true rfl), (Nat.le_of_ble_eq_true rfl)⟩ g20 rfl rfl hl.1 rfl (Nat.le_of_ble_eq_true rfl) dX11_appraise_42 ⟨(Nat.zero_le _), (Nat.zero_le _)⟩) (fun H locs hw => ?_)
          replace h := Option.some.inj h
          subst h
          exact RET hw ⟨(Nat.zero_le _), (Nat.zero_le _)⟩ dX11_appraise_45
      · replace h := itf h c16
        refine lv_iload_n hx hb dX11_appraise_24 rfl (lv_at hl 4 rfl) ?_
        refine lv_sipush (v := (9999 : Int32)) hx hb dX11_appraise_25 (by decide) ?_
        refine lv_icmp_le (tgt := 46) hx hb dX11_appraise_28 (by decide) (fun c22 => ?_) (fun c22 => ?_)
        · replace h := itt h c22
          refine m_aload (x := r2) hx hb dX11_appraise_46 (lv_at hl 0 rfl) ?_
          obtain ⟨v23, hv23, h⟩ := ob h
          refine m_getR hC hw (C := RX10) (T := TX10) (N := 9) hv23 ki_X11_appraise_X10 rfl (by decide) k_X11_appraise_174 (fun _ z => z) dX11_appraise_48 ?_
          refine lv_iload_n hx hb dX11_appraise_51 rfl (lv_at hl 3 rfl) ?_
          obtain ⟨g24, h⟩ := itg h
          obtain ⟨r25, hr25, h⟩ := ob h
          refine m_contI hC hw (m_runV hC hw (x := v23) (ci := 3) (N := 3) (C := RX0) (T := TX0) (n := 1) (av := [.int a2]) (rest := []) (c_X0_tells (G := G) (l := l) hr25) gX11_appraise_X0_tells rfl (by decide +kernel) ⟨(Nat.le_of_ble_eq_true rfl), (Nat.le_of_ble_eq_true rfl)⟩ g24 rfl rfl hl.1 rfl (Nat.le_of_ble_eq_true rfl) dX11_appraise_52 ⟨(Nat.zero_le _), (Nat.zero_le _)⟩) (fun H locs hw => ?_)
          obtain ⟨o28, ho28, h⟩ := ob h
          have J26 : ∀ (H : Heap) (locs : List Loc) (ls : Array Slot), wD G s M M sz H locs → lv_has ls 7 [(0, va_rf this), (2, .int a2), (3, .int a3), (4, va_rf r2)] → W p l e rmX11_appraise s m args below meth c H locs 0 0 Q (F0 m 63 ls [.int o28]) := by
            intro H locs ls hw hl
            refine lv_istore (lv' := [(5, .int o28), (0, va_rf this), (2, .int a2), (3, .int a3), (4, va_rf r2)]) hx hb dX11_appraise_63 hl (by decide) (by simp [va_rf_cat, cat_i, cat_l]) (fun ls hl => ?_)
            refine lv_iload hx hb dX11_appraise_65 (lv_at hl 0 rfl) ?_
            refine lv_if_eq (tgt := 86) hx hb dX11_appraise_67 (by decide) (fun c29 => ?_) (fun c29 => ?_)
            · replace h := itt h c29
              refine m_aload (x := r2) hx hb dX11_appraise_86 (lv_at hl 4 rfl) ?_
              refine lv_iload_n hx hb dX11_appraise_88 rfl (lv_at hl 2 rfl) ?_
              obtain ⟨g30, h⟩ := itg h
              obtain ⟨r31, hr31, h⟩ := ob h
              refine m_contI hC hw (m_runV hC hw (x := r2) (ci := 13) (N := 9) (C := RX10) (T := TX10) (n := 1) (av := [.int a2]) (rest := []) (c_X10_valueOn (G := G) (l := l) hr31) gX11_appraise_X10_valueOn rfl (by decide +kernel) ⟨(Nat.le_of_ble_eq_true rfl), (Nat.le_of_ble_eq_true rfl)⟩ g30 rfl rfl hl.1 rfl (Nat.le_of_ble_eq_true rfl) dX11_appraise_89 ⟨(Nat.zero_le _), (Nat.zero_le _)⟩) (fun H locs hw => ?_)
              refine lv_istore (lv' := [(6, .int r31), (5, .int o28), (0, va_rf this), (2, .int a2), (3, .int a3), (4, va_rf r2)]) hx hb dX11_appraise_92 hl (by decide) rfl (fun ls hl => ?_)
              refine m_aload (x := r2) hx hb dX11_appraise_94 (lv_at hl 5 rfl) ?_
              obtain ⟨v32, hv32, h⟩ := ob h
              refine m_getR hC hw (C := RX10) (T := TX10) (N := 9) hv32 ki_X11_appraise_X10 rfl (by decide) k_X11_appraise_174 (fun _ z => z) dX11_appraise_96 ?_
              refine lv_iload_n hx hb dX11_appraise_99 rfl (lv_at hl 3 rfl) ?_
              refine lv_iload_n hx hb dX11_appraise_100 rfl (lv_at hl 4 rfl) ?_
              obtain ⟨g33, h⟩ := itg h
              obtain ⟨r34, hr34, h⟩ := ob h
              refine m_contV hC hw (m_runV hC hw (x := v32) (ci := 3) (N := 3) (C := RX0) (T := TX0) (n := 2) (av := [.int a2, .int a3]) (rest := []) (c_X0_tell (G := G) (l := l) hr34) gX11_appraise_X0_tell rfl (by decide +kernel) ⟨(Nat.le_of_ble_eq_true rfl), (Nat.le_of_ble_eq_true rfl)⟩ g33 rfl rfl hl.1 rfl (Nat.le_of_ble_eq_true rfl) dX11_appraise_101 ⟨(Nat.zero_le _), (Nat.zero_le _)⟩) (fun H locs hw => ?_)
              refine lv_iload hx hb dX11_appraise_104 (lv_at hl 1 rfl) ?_
              refine lv_if_eq (tgt := 119) hx hb dX11_appraise_106 (by decide) (fun c35 => ?_) (fun c35 => ?_)
              · replace h := itt h c35
                refine m_aload_n (x := this) hx hb dX11_appraise_119 rfl (lv_at hl 2 rfl) ?_
                refine lv_iload hx hb dX11_appraise_120 (lv_at hl 0 rfl) ?_
                obtain ⟨g36, h⟩ := itg h
                obtain ⟨r37, hr37, h⟩ := ob h
                refine m_contI hC hw (m_runV hC hw (x := this) (ci := 14) (N := 11) (C := RX11) (T := TX11) (n := 1) (av := [.int r31]) (rest := []) (c_X11_answer (G := G) (l := l) hr37) gX11_appraise_X11_answer rfl (by decide +kernel) ⟨(Nat.le_of_ble_eq_true rfl), (Nat.le_of_ble_eq_true rfl)⟩ g36 rfl rfl hl.1 rfl (Nat.le_of_ble_eq_true rfl) dX11_appraise_122 ⟨(Nat.zero_le _), (Nat.zero_le _)⟩) (fun H locs hw => ?_)
                replace h := Option.some.inj h
                subst h
                exact RET hw ⟨(Nat.zero_le _), (Nat.zero_le _)⟩ dX11_appraise_125
              · replace h := itf h c35
                refine m_aload_n (x := this) hx hb dX11_appraise_109 rfl (lv_at hl 2 rfl) ?_
                refine m_dup (x := this) hx hb dX11_appraise_110 ?_
                obtain ⟨v38, hv38, h⟩ := ob h
                refine m_getI hC hw (C := RX11) (T := TX11) (N := 11) hv38 ki_X11_appraise_X11 rfl (by decide) k_X11_appraise_46 (fun _ z => z) dX11_appraise_111 ?_
                refine lv_iconst (v := (1 : Int32)) hx hb dX11_appraise_114 (by decide) ?_
                refine lv_iadd hx hb dX11_appraise_115 ?_
                obtain ⟨M39, hM39, h⟩ := ob h
                refine m_put hC hw (C := RX11) (T := TX11) (N := 11) (x := this) hM39 ki_X11_appraise_X11 tyX11 tyX11_ok nmX11 rfl (by decide) k_X11_appraise_46 (fun _ z => z) rfl rfl rfl dX11_appraise_116 (fun H locs hw => ?_)
                refine m_aload_n (x := this) hx hb dX11_appraise_119 rfl (lv_at hl 2 rfl) ?_
                refine lv_iload hx hb dX11_appraise_120 (lv_at hl 0 rfl) ?_
                obtain ⟨g40, h⟩ := itg h
                obtain ⟨r41, hr41, h⟩ := ob h
                refine m_contI hC hw (m_runV hC hw (x := this) (ci := 14) (N := 11) (C := RX11) (T := TX11) (n := 1) (av := [.int r31]) (rest := []) (c_X11_answer (G := G) (l := l) hr41) gX11_appraise_X11_answer rfl (by decide +kernel) ⟨(Nat.le_of_ble_eq_true rfl), (Nat.le_of_ble_eq_true rfl)⟩ g40 rfl rfl hl.1 rfl (Nat.le_of_ble_eq_true rfl) dX11_appraise_122 ⟨(Nat.zero_le _), (Nat.zero_le _)⟩) (fun H locs hw => ?_)
                replace h := Option.some.inj h
                subst h
                exact RET hw ⟨(Nat.zero_le _), (Nat.zero_le _)⟩ dX11_appraise_125
            · replace h := itf h c29
              refine m_aload_n (x := this) hx hb dX11_appraise_70 rfl (lv_at hl 1 rfl) ?_
              obtain ⟨v42, hv42, h⟩ := ob h
              refine m_getI hC hw (C := RX11) (T := TX11) (N := 11) hv42 ki_X11_appraise_X11 rfl (by decide) k_X11_appraise_46 (fun _ z => z) dX11_appraise_71 ?_
              refine lv_bipush (v := (48 : Int32)) hx hb dX11_appraise_74 (by decide) ?_
              refine lv_icmp_lt (tgt := 86) hx hb dX11_appraise_76 (by decide) (fun c43 => ?_) (fun c43 => ?_)
              · replace h := itt h c43
                refine m_aload (x := r2) hx hb dX11_appraise_86 (lv_at hl 4 rfl) ?_
                refine lv_iload_n hx hb dX11_appraise_88 rfl (lv_at hl 2 rfl) ?_
                obtain ⟨g44, h⟩ := itg h
                obtain ⟨r45, hr45, h⟩ := ob h
                refine m_contI hC hw (m_runV hC hw (x := r2) (ci := 13) (N := 9) (C := RX10) (T := TX10) (n := 1) (av := [.int a2]) (rest := []) (c_X10_valueOn (G := G) (l := l) hr45) gX11_appraise_X10_valueOn rfl (by decide +kernel) ⟨(Nat.le_of_ble_eq_true rfl), (Nat.le_of_ble_eq_true rfl)⟩ g44 rfl rfl hl.1 rfl (Nat.le_of_ble_eq_true rfl) dX11_appraise_89 ⟨(Nat.zero_le _), (Nat.zero_le _)⟩) (fun H locs hw => ?_)
                refine lv_istore (lv' := [(6, .int r45), (5, .int o28), (0, va_rf this), (2, .int a2), (3, .int a3), (4, va_rf r2)]) hx hb dX11_appraise_92 hl (by decide) rfl (fun ls hl => ?_)
                refine m_aload (x := r2) hx hb dX11_appraise_94 (lv_at hl 5 rfl) ?_
                obtain ⟨v46, hv46, h⟩ := ob h
                refine m_getR hC hw (C := RX10) (T := TX10) (N := 9) hv46 ki_X11_appraise_X10 rfl (by decide) k_X11_appraise_174 (fun _ z => z) dX11_appraise_96 ?_
                refine lv_iload_n hx hb dX11_appraise_99 rfl (lv_at hl 3 rfl) ?_
                refine lv_iload_n hx hb dX11_appraise_100 rfl (lv_at hl 4 rfl) ?_
                obtain ⟨g47, h⟩ := itg h
                obtain ⟨r48, hr48, h⟩ := ob h
                refine m_contV hC hw (m_runV hC hw (x := v46) (ci := 3) (N := 3) (C := RX0) (T := TX0) (n := 2) (av := [.int a2, .int a3]) (rest := []) (c_X0_tell (G := G) (l := l) hr48) gX11_appraise_X0_tell rfl (by decide +kernel) ⟨(Nat.le_of_ble_eq_true rfl), (Nat.le_of_ble_eq_true rfl)⟩ g47 rfl rfl hl.1 rfl (Nat.le_of_ble_eq_true rfl) dX11_appraise_101 ⟨(Nat.zero_le _), (Nat.zero_le _)⟩) (fun H locs hw => ?_)
                refine lv_iload hx hb dX11_appraise_104 (lv_at hl 1 rfl) ?_
                refine lv_if_eq (tgt := 119) hx hb dX11_appraise_106 (by decide) (fun c49 => ?_) (fun c49 => ?_)
                · replace h := itt h c49
                  refine m_aload_n (x := this) hx hb dX11_appraise_119 rfl (lv_at hl 2 rfl) ?_
                  refine lv_iload hx hb dX11_appraise_120 (lv_at hl 0 rfl) ?_
                  obtain ⟨g50, h⟩ := itg h
                  obtain ⟨r51, hr51, h⟩ := ob h
                  refine m_contI hC hw (m_runV hC hw (x := this) (ci := 14) (N := 11) (C := RX11) (T := TX11) (n := 1) (av := [.int r45]) (rest := []) (c_X11_answer (G := G) (l := l) hr51) gX11_appraise_X11_answer rfl (by decide +kernel) ⟨(Nat.le_of_ble_eq_true rfl), (Nat.le_of_ble_eq_true rfl)⟩ g50 rfl rfl hl.1 rfl (Nat.le_of_ble_eq_true rfl) dX11_appraise_122 ⟨(Nat.zero_le _), (Nat.zero_le _)⟩) (fun H locs hw => ?_)
                  replace h := Option.some.inj h
                  subst h
                  exact RET hw ⟨(Nat.zero_le _), (Nat.zero_le _)⟩ dX11_appraise_125
                · replace h := itf h c49
                  refine m_aload_n (x := this) hx hb dX11_appraise_109 rfl (lv_at hl 2 rfl) ?_
                  refine m_dup (x := this) hx hb dX11_appraise_110 ?_
                  obtain ⟨v52, hv52, h⟩ := ob h
                  refine m_getI hC hw (C := RX11) (T := TX11) (N := 11) hv52 ki_X11_appraise_X11 rfl (by decide) k_X11_appraise_46 (fun _ z => z) dX11_appraise_111 ?_
                  refine lv_iconst (v := (1 : Int32)) hx hb dX11_appraise_114 (by decide) ?_
                  refine lv_iadd hx hb dX11_appraise_115 ?_
                  obtain ⟨M53, hM53, h⟩ := ob h
                  refine m_put hC hw (C := RX11) (T := TX11) (N := 11) (x := this) hM53 ki_X11_appraise_X11 tyX11 tyX11_ok nmX11 rfl (by decide) k_X11_appraise_46 (fun _ z => z) rfl rfl rfl dX11_appraise_116 (fun H locs hw => ?_)
                  refine m_aload_n (x := this) hx hb dX11_appraise_119 rfl (lv_at hl 2 rfl) ?_
                  refine lv_iload hx hb dX11_appraise_120 (lv_at hl 0 rfl) ?_
                  obtain ⟨g54, h⟩ := itg h
                  obtain ⟨r55, hr55, h⟩ := ob h
                  refine m_contI hC hw (m_runV hC hw (x := this) (ci := 14) (N := 11) (C := RX11) (T := TX11) (n := 1) (av := [.int r45]) (rest := []) (c_X11_answer (G := G) (l := l) hr55) gX11_appraise_X11_answer rfl (by decide +kernel) ⟨(Nat.le_of_ble_eq_true rfl), (Nat.le_of_ble_eq_true rfl)⟩ g54 rfl rfl hl.1 rfl (Nat.le_of_ble_eq_true rfl) dX11_appraise_122 ⟨(Nat.zero_le _), (Nat.zero_le _)⟩) (fun H locs hw => ?_)
                  replace h := Option.some.inj h
                  subst h
                  exact RET hw ⟨(Nat.zero_le _), (Nat.zero_le _)⟩ dX11_appraise_125
              · replace h := itf h c43
                refine m_aload_n (x := this) hx hb dX11_appraise_79 rfl (lv_at hl 1 rfl) ?_
                refine lv_bipush (v := (9 : Int32)) hx hb dX11_appraise_80 (by decide) ?_
                obtain ⟨g56, h⟩ := itg h
                obtain ⟨r57, hr57, h⟩ := ob h
                refine m_contI hC hw (m_runV hC hw (x := this) (ci := 14) (N := 11) (C := RX11) (T := TX11) (n := 1) (av := [.int (9 : Int32)]) (rest := []) (c_X11_refuse (G := G) (l := l) hr57) gX11_appraise_X11_refuse rfl (by decide +kernel) ⟨(Nat.le_of_ble_eq_true rfl), (Nat.le_of_ble_eq_true rfl)⟩ g56 rfl rfl hl.1 rfl (Nat.le_of_ble_eq_true rfl) dX11_appraise_82 ⟨(Nat.zero_le _), (Nat.zero_le _)⟩) (fun H locs hw => ?_)
                replace h := Option.some.inj h
                subst h
                exact RET hw ⟨(Nat.zero_le _), (Nat.zero_le _)⟩ dX11_appraise_85
          clear h
          replace h := ho28
          refine lv_if_ne (tgt := 62) hx hb dX11_appraise_55 (by decide) (fun c27 => ?_) (fun c27 => ?_)
          · replace h := itf h c27
            refine lv_iconst (v := (0 : Int32)) hx hb dX11_appraise_62 (by decide) ?_
            replace h := Option.some.inj h
            subst h
            exact J26 _ _ _ hw (lv_sub hl [1, 3, 4, 0] rfl)
          · replace h := itt h c27
            refine lv_iconst (v := (1 : Int32)) hx hb dX11_appraise_58 (by decide) ?_
            refine lv_goto (tgt := 63) hx hb dX11_appraise_59 (by decide) ?_
            replace h := Option.some.inj h
            subst h
            exact J26 _ _ _ hw (lv_sub hl [1, 3, 4, 0] rfl)
        · replace h := itf h c22
          refine m_aload_n (x := this) hx hb dX11_appraise_31 rfl (lv_at hl 1 rfl) ?_
          refine m_aload (x := r2) hx hb dX11_appraise_32 (lv_at hl 0 rfl) ?_
          refine m_ifnull (x := r2) (tgt := 41) hx hb dX11_appraise_34 (by decide) (fun c58 => ?_) (fun c58 => ?_)
          · replace h := itt h c58
            refine lv_iconst (v := (0 : Int32)) hx hb dX11_appraise_41 (by decide) ?_
            obtain ⟨g59, h⟩ := itg h
            obtain ⟨r60, hr60, h⟩ := ob h
            refine m_contI hC hw (m_runV hC hw (x := this) (ci := 14) (N := 11) (C := RX11) (T := TX11) (n := 1) (av := [.int (0 : Int32)]) (rest := []) (c_X11_refuseAsked (G := G) (l := l) hr60) gX11_appraise_X11_refuseAsked rfl (by decide +kernel) ⟨(Nat.le_of_ble_eq_true rfl), (Nat.le_of_ble_eq_true rfl)⟩ g59 rfl rfl hl.1 rfl (Nat.le_of_ble_eq_true rfl) dX11_appraise_42 ⟨(Nat.zero_le _), (Nat.zero_le _)⟩) (fun H locs hw => ?_)
            replace h := Option.some.inj h
            subst h
            exact RET hw ⟨(Nat.zero_le _), (Nat.zero_le _)⟩ dX11_appraise_45
          · replace h := itf h c58
            refine lv_iconst (v := (1 : Int32)) hx hb dX11_appraise_37 (by decide) ?_
            refine lv_goto (tgt := 42) hx hb dX11_appraise_38 (by decide) ?_
            obtain ⟨g61, h⟩ := itg h
            obtain ⟨r62, hr62, h⟩ := ob h
            refine m_contI hC hw (m_runV hC hw (x := this) (ci := 14) (N := 11) (C := RX11) (T := TX11) (n := 1) (av := [.int (1 : Int32)]) (rest := []) (c_X11_refuseAsked (G := G) (l := l) hr62) gX11_appraise_X11_refuseAsked rfl (by decide +kernel) ⟨(Nat.le_of_ble_eq_true rfl), (Nat.le_of_ble_eq_true rfl)⟩ g61 rfl rfl hl.1 rfl (Nat.le_of_ble_eq_true rfl) dX11_appraise_42 ⟨(Nat.zero_le _), (Nat.zero_le _)⟩) (fun H locs hw => ?_)
            replace h := Option.some.inj h
            subst h
            exact RET hw ⟨(Nat.zero_le _), (Nat.zero_le _)⟩ dX11_appraise_45

def f_X11_standingLoanAt (M : Mem) (this : Option Nat) (a1 : Int32) : Option (Option Nat) := if a1 < 0 then (some (none)) else ((gR M this 14 5).bind fun v2 => if isO M v2 2 = true then ((f_Jx4a65c_size_8abf5 M v2).bind fun r4 => if a1 < r4 then ((gR M this 14 5).bind fun v6 => if isO M v6 2 = true then ((f_Jx4a65c_get_915e3 M v6 a1).bind fun r8 => if r8 = none ∨ isO M r8 7 = true then ((gI M r8 7 3).bind fun v10 => if v10 = 0 then (some (none)) else (some (r8))) else none) else none) else (some (none))) else none)
def rmX11_standingLoanAt : Room := { frames := 3, cells := 0, slots := 0, locals := 64 }
theorem k_X11_standingLoanAt_36 : Cond.fieldLink RX11 36 "LoanBook" "loans" "Ljava/util/ArrayList;" ∈ wsX11_standingLoanAt := List.mem_of_getElem? (i := 1) rfl
theorem ki_X11_standingLoanAt_X11 : ∀ w ∈ u_ws RX11 TX11 11, w ∈ wsX11_standingLoanAt := sub_r [27, 28, 29, 30, 31, 32, 33, 34, 35, 36, 37] (by decide +kernel)
theorem k_X11_standingLoanAt_cc194 : Cond.classLink RX11 194 RX4 ∈ wsX11_standingLoanAt := List.mem_of_getElem? (i := 2) rfl
theorem k_X11_standingLoanAt_193 : Cond.fieldLink RX11 193 "LoanBook$Loan" "stands" "Z" ∈ wsX11_standingLoanAt := List.mem_of_getElem? (i := 3) rfl
theorem ki_X11_standingLoanAt_X4 : ∀ w ∈ u_ws RX4 TX4 5, w ∈ wsX11_standingLoanAt := sub_r [38, 39, 40, 41, 42] (by decide +kernel)
set_option maxHeartbeats 4000000 in
set_option maxRecDepth 100000 in
theorem c_X11_standingLoanAt {G : wG} {l : Launch} {M : Mem} {sz : Nat} {this : Option Nat} {a1 : Int32} {r : Option Nat} (h : f_X11_standingLoanAt M this a1 = some r) : CtrQ G l yX11_standingLoanAt wsX11_standingLoanAt rmX11_standingLoanAt [va_rf this, .int a1] M sz r M sz := by
  refine m_startQ (own := RX11) (cc := cX11_standingLoanAt) (maxL := 3) (lv0 := [(0, va_rf this), (1, .int a1)]) (by decide) rfl rfl (by simp [lg_sl, va_rf_cat, cat_i, cat_r]) (by simp [lv_args, va_rf_cat, cat_i, cat_r]) (Or.inl ⟨_, rfl⟩) ?_
  intro p e s m args below meth c Q hC hname RET hsz hw ls hl
  have hx := hC.1
  have hb := hC.2.1
  unfold f_X11_standingLoanAt at h
  refine lv_iload_n hx hb dX11_standingLoanAt_0 rfl (lv_at hl 1 rfl) ?_
  refine lv_if_lt (tgt := 15) hx hb dX11_standingLoanAt_1 (by decide) (fun c1 => ?_) (fun c1 => ?_)
  · replace h := itt h c1
    refine lv_null hx hb dX11_standingLoanAt_15 ?_
    replace h := Option.some.inj h
    subst h
    exact RET hw ⟨(Nat.zero_le _), (Nat.zero_le _)⟩ dX11_standingLoanAt_16
  · replace h := itf h c1
    refine lv_iload_n hx hb dX11_standingLoanAt_4 rfl (lv_at hl 1 rfl) ?_
    refine m_aload_n (x := this) hx hb dX11_standingLoanAt_5 rfl (lv_at hl 0 rfl) ?_
    obtain ⟨v2, hv2, h⟩ := ob h
    refine m_getR hC hw (C := RX11) (T := TX11) (N := 11) hv2 ki_X11_standingLoanAt_X11 rfl (by decide) k_X11_standingLoanAt_36 (fun _ z => z) dX11_standingLoanAt_6 ?_
    obtain ⟨g3, h⟩ := itg h
    obtain ⟨r4, hr4, h⟩ := ob h
    refine m_contI hC hw (m_runV hC hw (x := v2) (ci := 2) (N := 3) (C := RJx4a65c) (T := TJx4a65c) (n := 0) (av := []) (rest := [.int a1]) (c_Jx4a65c_size_8abf5 (G := G) (l := l) hr4) gX11_standingLoanAt_Jx4a65c_size_8abf5 rfl (by decide +kernel) ⟨(Nat.le_of_ble_eq_true rfl), (Nat.le_of_ble_eq_true rfl)⟩ g3 rfl rfl hl.1 rfl (Nat.le_of_ble_eq_true rfl) dX11_standingLoanAt_9 ⟨(Nat.zero_le _), (Nat.zero_le _)⟩) (fun H locs hw => ?_)
    refine lv_icmp_lt (tgt := 17) hx hb dX11_standingLoanAt_12 (by decide) (fun c5 => ?_) (fun c5 => ?_)
    · replace h := itt h c5
      refine m_aload_n (x := this) hx hb dX11_standingLoanAt_17 rfl (lv_at hl 0 rfl) ?_
      obtain ⟨v6, hv6, h⟩ := ob h
      refine m_getR hC hw (C := RX11) (T := TX11) (N := 11) hv6 ki_X11_standingLoanAt_X11 rfl (by decide) k_X11_standingLoanAt_36 (fun _ z => z) dX11_standingLoanAt_18 ?_
      refine lv_iload_n hx hb dX11_standingLoanAt_21 rfl (lv_at hl 1 rfl) ?_
      obtain ⟨g7, h⟩ := itg h
      obtain ⟨r8, hr8, h⟩ := ob h
      refine m_contQ hC hw (m_runV hC hw (x := v6) (ci := 2) (N := 3) (C := RJx4a65c) (T := TJx4a65c) (n := 1) (av := [.int a1]) (rest := []) (c_Jx4a65c_get_915e3 (G := G) (l := l) hr8) gX11_standingLoanAt_Jx4a65c_get_915e3 rfl (by decide +kernel) ⟨(Nat.le_of_ble_eq_true rfl), (Nat.le_of_ble_eq_true rfl)⟩ g7 rfl rfl hl.1 rfl (Nat.le_of_ble_eq_true rfl) dX11_standingLoanAt_22 ⟨(Nat.zero_le _), (Nat.zero_le _)⟩) (fun H locs hw => ?_)
      obtain ⟨g9, h⟩ := itg h
      refine m_cast (x := r8) hC hw (C := RX4) (T := TX4) (N := 5) g9 k_X11_standingLoanAt_cc194 rfl dX11_standingLoanAt_25 ?_
      refine m_astore_n (x := r8) (i := 2) (lv' := [(2, va_rf r8), (0, va_rf this), (1, .int a1)]) hx hb dX11_standingLoanAt_28 rfl hl (by decide) rfl (fun ls hl => ?_)
      refine m_aload_n (x := r8) hx hb dX11_standingLoanAt_29 rfl (lv_at hl 0 rfl) ?_
      obtain ⟨v10, hv10, h⟩ := ob h
      refine m_getI hC hw (C := RX4) (T := TX4) (N := 5) hv10 ki_X11_standingLoanAt_X4 rfl (by decide) k_X11_standingLoanAt_193 (fun _ z => z) dX11_standingLoanAt_30 ?_
      refine lv_if_eq (tgt := 40) hx hb dX11_standingLoanAt_33 (by decide) (fun c11 => ?_) (fun c11 => ?_)
      · replace h := itt h c11
        refine lv_null hx hb dX11_standingLoanAt_40 ?_
        replace h := Option.some.inj h
        subst h
        exact RET hw ⟨(Nat.zero_le _), (Nat.zero_le _)⟩ dX11_standingLoanAt_41
      · replace h := itf h c11
        refine m_aload_n (x := r8) hx hb dX11_standingLoanAt_36 rfl (lv_at hl 0 rfl) ?_
        refine lv_goto (tgt := 41) hx hb dX11_standingLoanAt_37 (by decide) ?_
        replace h := Option.some.inj h
        subst h
        exact RET hw ⟨(Nat.zero_le _), (Nat.zero_le _)⟩ dX11_standingLoanAt_41
    · replace h := itf h c5
      refine lv_null hx hb dX11_standingLoanAt_15 ?_
      replace h := Option.some.inj h
      subst h
      exact RET hw ⟨(Nat.zero_le _), (Nat.zero_le _)⟩ dX11_standingLoanAt_16

def f_X11_releaseThings_L2 (B : Nat) (n : Nat) (x0 : Option Nat) (x1 : Int32) : Nat → Mem → Int32 → Option (Mem)
  | 0, _, _ => none
  | k + 1, Mz, x2 => (gR Mz x0 14 2).bind fun v1 => if isO Mz v1 2 = true then ((f_Jx4a65c_size_8abf5 Mz v1).bind fun r3 => if r3 ≤ x2 then (some (Mz)) else ((gR Mz x0 14 2).bind fun v5 => if isO Mz v5 2 = true then ((f_Jx4a65c_get_915e3 Mz v5 x2).bind fun r7 => if r7 = none ∨ isO Mz r7 13 = true then ((gR Mz r7 13 4).bind fun v9 => if isO Mz v9 4 = true then ((f_X1_release B n Mz v9 x1).bind fun r11 => f_X11_releaseThings_L2 B n x0 x1 k r11 (x2 + (1 : Int32))) else none) else none) else none)) else none
def f_X11_releaseThings (B : Nat) (n : Nat) (M : Mem) (this : Option Nat) (a1 : Int32) : Option (Mem) := f_X11_releaseThings_L2 B n this a1 n M (0 : Int32)
def rmX11_releaseThings : Room := { frames := 3, cells := 0, slots := 0, locals := 64 }
theorem k_X11_releaseThings_26 : Cond.fieldLink RX11 26 "LoanBook" "things" "Ljava/util/ArrayList;" ∈ wsX11_releaseThings := List.mem_of_getElem? (i := 1) rfl
theorem ki_X11_releaseThings_X11 : ∀ w ∈ u_ws RX11 TX11 11, w ∈ wsX11_releaseThings := sub_r [34, 35, 36, 37, 38, 39, 40, 41, 42, 43, 44] (by decide +kernel)
theorem k_X11_releaseThings_cc85 : Cond.classLink RX11 85 RX10 ∈ wsX11_releaseThings := List.mem_of_getElem? (i := 2) rfl
theorem k_X11_releaseThings_211 : Cond.fieldLink RX11 211 "LoanBook$Thing" "calendar" "LLoanBook$Calendar;" ∈ wsX11_releaseThings := List.mem_of_getElem? (i := 3) rfl
theorem ki_X11_releaseThings_X10 : ∀ w ∈ u_ws RX10 TX10 9, w ∈ wsX11_releaseThings := sub_r [45, 46, 47, 48, 49, 50, 51, 52, 53] (by decide +kernel)
set_option maxHeartbeats 4000000 in
set_option maxRecDepth 100000 in
theorem c_X11_releaseThings {G : wG} {l : Launch} {n : Nat} {M : Mem} {sz : Nat} {this : Option Nat} {a1 : Int32} {r : Mem} (h : f_X11_releaseThings G.2.2.1 n M this a1 = some r) : CtrV G l yX11_releaseThings wsX11_releaseThings rmX11_releaseThings [va_rf this, .int a1] M sz r sz := by
  refine m_startV (own := RX11) (cc := cX11_releaseThings) (maxL := 3) (lv0 := [(0, va_rf this), (1, .int a1)]) (by decide) rfl rfl (by simp [lg_sl, va_rf_cat, cat_i, cat_r]) (by simp [lv_args, va_rf_cat, cat_i, cat_r]) ?_
  intro p e s m args below meth c Q hC hname RET hsz hw ls hl
  have hx := hC.1
  have hb := hC.2.1
  have L2 : ∀ (x0 : Option Nat) (x1 : Int32) (k : Nat) (Mz : Mem) (x2 : Int32) (cells slots : Nat) (H : Heap) (locs : List Loc) (ls : Array Slot), f_X11_releaseThings_L2 G.2.2.1 n x0 x1 k Mz x2 = some r → cells ≤ 0 → slots ≤ 0 → wD G s M Mz sz H locs → lv_has ls 3 [(0, va_rf x0), (1, .int x1), (2, .int x2)] → W p l e rmX11_releaseThings s m args below meth c H locs cells slots Q (F0 m 2 ls []) := by
    intro x0 x1 k
    induction k with
    | zero =>
      intro Mz x2 cells slots H locs ls h
      exact absurd (show (none : Option (Mem)) = some r from h) (fun z => by cases z)
    | succ k ih =>
      intro Mz x2 cells slots H locs ls h hcl hsl hw hl
      rw [f_X11_releaseThings_L2] at h
      refine lv_iload_n hx hb dX11_releaseThings_2 rfl (lv_at hl 2 rfl) ?_
      refine m_aload_n (x := x0) hx hb dX11_releaseThings_3 rfl (lv_at hl 0 rfl) ?_
      obtain ⟨v1, hv1, h⟩ := ob h
      refine m_getR hC hw (C := RX11) (T := TX11) (N := 11) hv1 ki_X11_releaseThings_X11 rfl (by decide) k_X11_releaseThings_26 (fun _ z => z) dX11_releaseThings_4 ?_
      obtain ⟨g2, h⟩ := itg h
      obtain ⟨r3, hr3, h⟩ := ob h
      refine m_contI hC hw (m_runV hC hw (x := v1) (ci := 2) (N := 3) (C := RJx4a65c) (T := TJx4a65c) (n := 0) (av := []) (rest := [.int x2]) (c_Jx4a65c_size_8abf5 (G := G) (l := l) hr3) gX11_releaseThings_Jx4a65c_size_8abf5 rfl (by decide +kernel) ⟨(Nat.le_of_ble_eq_true rfl), (Nat.le_of_ble_eq_true rfl)⟩ g2 rfl rfl hl.1 rfl (Nat.le_of_ble_eq_true rfl) dX11_releaseThings_7 ⟨(show cells + 0 ≤ 0 from by omega), (show slots + 0 ≤ 0 from by omega)⟩) (fun H locs hw => ?_)
      refine lv_icmp_ge (tgt := 37) hx hb dX11_releaseThings_10 (by decide) (fun c4 => ?_) (fun c4 => ?_)
      · replace h := itt h c4
        replace h := Option.some.inj h
        subst h
        exact RET hw ⟨(show cells + 0 ≤ 0 from by omega), (show slots + 0 ≤ 0 from by omega)⟩ dX11_releaseThings_37
      · replace h := itf h c4
        refine m_aload_n (x := x0) hx hb dX11_releaseThings_13 rfl (lv_at hl 0 rfl) ?_
        obtain ⟨v5, hv5, h⟩ := ob h
        refine m_getR hC hw (C := RX11) (T := TX11) (N := 11) hv5 ki_X11_releaseThings_X11 rfl (by decide) k_X11_releaseThings_26 (fun _ z => z) dX11_releaseThings_14 ?_
        refine lv_iload_n hx hb dX11_releaseThings_17 rfl (lv_at hl 2 rfl) ?_
        obtain ⟨g6, h⟩ := itg h
        obtain ⟨r7, hr7, h⟩ := ob h
        refine m_contQ hC hw (m_runV hC hw (x := v5) (ci := 2) (N := 3) (C := RJx4a65c) (T := TJx4a65c) (n := 1) (av := [.int x2]) (rest := []) (c_Jx4a65c_get_915e3 (G := G) (l := l) hr7) gX11_releaseThings_Jx4a65c_get_915e3 rfl (by decide +kernel) ⟨(Nat.le_of_ble_eq_true rfl), (Nat.le_of_ble_eq_true rfl)⟩ g6 rfl rfl hl.1 rfl (Nat.le_of_ble_eq_true rfl) dX11_releaseThings_18 ⟨(show cells + 0 ≤ 0 from by omega), (show slots + 0 ≤ 0 from by omega)⟩) (fun H locs hw => ?_)
        obtain ⟨g8, h⟩ := itg h
        refine m_cast (x := r7) hC hw (C := RX10) (T := TX10) (N := 9) g8 k_X11_releaseThings_cc85 rfl dX11_releaseThings_21 ?_
        obtain ⟨v9, hv9, h⟩ := ob h
        refine m_getR hC hw (C := RX10) (T := TX10) (N := 9) hv9 ki_X11_releaseThings_X10 rfl (by decide) k_X11_releaseThings_211 (fun _ z => z) dX11_releaseThings_24 ?_
        refine lv_iload_n hx hb dX11_releaseThings_27 rfl (lv_at hl 1 rfl) ?_
        obtain ⟨g10, h⟩ := itg h
        obtain ⟨r11, hr11, h⟩ := ob h
        refine m_contV hC hw (m_runV hC hw (x := v9) (ci := 4) (N := 2) (C := RX1) (T := TX1) (n := 1) (av := [.int x1]) (rest := []) (c_X1_release (G := G) (l := l) hr11) gX11_releaseThings_X1_release rfl (by decide +kernel) ⟨(Nat.le_of_ble_eq_true rfl), (Nat.le_of_ble_eq_true rfl)⟩ g10 rfl rfl hl.1 rfl (Nat.le_of_ble_eq_true rfl) dX11_releaseThings_28 ⟨(show cells + 0 ≤ 0 from by omega), (show slots + 0 ≤ 0 from by omega)⟩) (fun H locs hw => ?_)
        refine lv_iinc (v := (x2 + (1 : Int32))) (lv' := [(2, .int (x2 + (1 : Int32))), (0, va_rf x0), (1, .int x1)]) hx hb dX11_releaseThings_31 hl (k := 2) rfl rfl (by decide) rfl (fun ls hl => ?_)
        refine lv_goto (tgt := 2) hx hb dX11_releaseThings_34 (by decide) ?_
        exact ih _ _ _ _ _ _ _ h hcl hsl hw (lv_sub hl [1, 2, 0] rfl)
  unfold f_X11_releaseThings at h
  refine lv_iconst (v := (0 : Int32)) hx hb dX11_releaseThings_0 (by decide) ?_
  refine lv_istore_n (i := 2) (lv' := [(2, .int (0 : Int32)), (0, va_rf this), (1, .int a1)]) hx hb dX11_releaseThings_1 rfl hl (by decide) rfl (fun ls hl => ?_)
  exact L2 this a1 _ _ _ _ _ _ _ _ h (Nat.zero_le _) (Nat.zero_le _) hw (lv_sub hl [1, 2, 0] rfl)

def f_X11_cancel (B : Nat) (n : Nat) (M : Mem) (this : Option Nat) (a1 : Int32) : Option (Int32 × Mem) := if isO M this 14 = true then ((f_X11_standingLoanAt M this a1).bind fun r2 => if r2 = none then (if isO M this 14 = true then ((f_X11_refuse B M this (1 : Int32)).bind fun r15 => some (r15.1, r15.2)) else none) else ((pF B M r2 7 3 (.int (0 : Int32))).bind fun M4 => (gI M4 this 14 6).bind fun v5 => (pF B M4 this 14 6 (.int (v5 - (1 : Int32)))).bind fun M6 => if isO M6 this 14 = true then ((f_X11_releaseThings B n M6 this a1).bind fun r8 => if isO r8 this 14 = true then ((f_X11_releaseCouriers B n r8 this a1).bind fun r10 => (gI r10 this 14 6).bind fun v11 => if isO r10 this 14 = true then ((f_X11_answer B r10 this v11).bind fun r13 => some (r13.1, r13.2)) else none) else none) else none)) else none
def rmX11_cancel : Room := { frames := 4, cells := 0, slots := 0, locals := 86 }
theorem k_X11_cancel_193 : Cond.fieldLink RX11 193 "LoanBook$Loan" "stands" "Z" ∈ wsX11_cancel := List.mem_of_getElem? (i := 1) rfl
theorem ki_X11_cancel_X4 : ∀ w ∈ u_ws RX4 TX4 5, w ∈ wsX11_cancel := sub_r [63, 64, 65, 66, 67] (by decide +kernel)
theorem k_X11_cancel_39 : Cond.fieldLink RX11 39 "LoanBook" "standing" "I" ∈ wsX11_cancel := List.mem_of_getElem? (i := 2) rfl
theorem ki_X11_cancel_X11 : ∀ w ∈ u_ws RX11 TX11 11, w ∈ wsX11_cancel := sub_r [68, 69, 70, 71, 72, 73, 74, 75, 76, 77, 78] (by decide +kernel)
set_option maxHeartbeats 4000000 in
set_option maxRecDepth 100000 in
theorem c_X11_cancel {G : wG} {l : Launch} {n : Nat} {M : Mem} {sz : Nat} {this : Option Nat} {a1 : Int32} {r : Int32 × Mem} (h : f_X11_cancel G.2.2.1 n M this a1 = some r) : CtrI G l yX11_cancel wsX11_cancel rmX11_cancel [va_rf this, .int a1] M sz r.1 r.2 sz := by
  refine m_startI (own := RX11) (cc := cX11_cancel) (maxL := 3) (lv0 := [(0, va_rf this), (1, .int a1)]) (by decide) rfl rfl (by simp [lg_sl, va_rf_cat, cat_i, cat_r]) (by simp [lv_args, va_rf_cat, cat_i, cat_r]) ?_
  intro p e s m args below meth c Q hC hname RET hsz hw ls hl
  have hx := hC.1
  have hb := hC.2.1
  unfold f_X11_cancel at h
  refine m_aload_n (x := this) hx hb dX11_cancel_0 rfl (lv_at hl 0 rfl) ?_
  refine lv_iload_n hx hb dX11_cancel_1 rfl (lv_at hl 1 rfl) ?_
  obtain ⟨g1, h⟩ := itg h
  obtain ⟨r2, hr2, h⟩ := ob h
  refine m_contQ hC hw (m_runV hC hw (x := this) (ci := 14) (N := 11) (C := RX11) (T := TX11) (n := 1) (av := [.int a1]) (rest := []) (c_X11_standingLoanAt (G := G) (l := l) hr2) gX11_cancel_X11_standingLoanAt rfl (by decide +kernel) ⟨(Nat.le_of_ble_eq_true rfl), (Nat.le_of_ble_eq_true rfl)⟩ g1 rfl rfl hl.1 rfl (Nat.le_of_ble_eq_true rfl) dX11_cancel_2 ⟨(Nat.zero_le _), (Nat.zero_le _)⟩) (fun H locs hw => ?_)
  refine m_astore_n (x := r2) (i := 2) (lv' := [(2, va_rf r2), (0, va_rf this), (1, .int a1)]) hx hb dX11_cancel_5 rfl hl (by decide) rfl (fun ls hl => ?_)
  refine m_aload_n (x := r2) hx hb dX11_cancel_6 rfl (lv_at hl 0 rfl) ?_
  refine m_ifnonnull (x := r2) (tgt := 16) hx hb dX11_cancel_7 (by decide) (fun c3 => ?_) (fun c3 => ?_)
  · replace h := itf h c3
    refine m_aload_n (x := r2) hx hb dX11_cancel_16 rfl (lv_at hl 0 rfl) ?_
    refine lv_iconst (v := (0 : Int32)) hx hb dX11_cancel_17 (by decide) ?_
    obtain ⟨M4, hM4, h⟩ := ob h
    refine m_put hC hw (C := RX4) (T := TX4) (N := 5) (x := r2) hM4 ki_X11_cancel_X4 tyX4 tyX4_ok nmX4 rfl (by decide) k_X11_cancel_193 (fun _ z => z) rfl (by decide) (by decide) dX11_cancel_18 (fun H locs hw => ?_)
    refine m_aload_n (x := this) hx hb dX11_cancel_21 rfl (lv_at hl 1 rfl) ?_
    refine m_dup (x := this) hx hb dX11_cancel_22 ?_
    obtain ⟨v5, hv5, h⟩ := ob h
    refine m_getI hC hw (C := RX11) (T := TX11) (N := 11) hv5 ki_X11_cancel_X11 rfl (by decide) k_X11_cancel_39 (fun _ z => z) dX11_cancel_23 ?_
    refine lv_iconst (v := (1 : Int32)) hx hb dX11_cancel_26 (by decide) ?_
    refine lv_isub hx hb dX11_cancel_27 ?_
    obtain ⟨M6, hM6, h⟩ := ob h
    refine m_put hC hw (C := RX11) (T := TX11) (N := 11) (x := this) hM6 ki_X11_cancel_X11 tyX11 tyX11_ok nmX11 rfl (by decide) k_X11_cancel_39 (fun _ z => z) rfl rfl rfl dX11_cancel_28 (fun H locs hw => ?_)
    refine m_aload_n (x := this) hx hb dX11_cancel_31 rfl (lv_at hl 1 rfl) ?_
    refine lv_iload_n hx hb dX11_cancel_32 rfl (lv_at hl 2 rfl) ?_
    obtain ⟨g7, h⟩ := itg h
    obtain ⟨r8, hr8, h⟩ := ob h
    refine m_contV hC hw (m_runV hC hw (x := this) (ci := 14) (N := 11) (C := RX11) (T := TX11) (n := 1) (av := [.int a1]) (rest := []) (c_X11_releaseThings (G := G) (l := l) hr8) gX11_cancel_X11_releaseThings rfl (by decide +kernel) ⟨(Nat.le_of_ble_eq_true rfl), (Nat.le_of_ble_eq_true rfl)⟩ g7 rfl rfl hl.1 rfl (Nat.le_of_ble_eq_true rfl) dX11_cancel_33 ⟨(Nat.zero_le _), (Nat.zero_le _)⟩) (fun H locs hw => ?_)
    refine m_aload_n (x := this) hx hb dX11_cancel_36 rfl (lv_at hl 1 rfl) ?_
    refine lv_iload_n hx hb dX11_cancel_37 rfl (lv_at hl 2 rfl) ?_
    obtain ⟨g9, h⟩ := itg h
    obtain ⟨r10, hr10, h⟩ := ob h
    refine m_contV hC hw (m_runV hC hw (x := this) (ci := 14) (N := 11) (C := RX11) (T := TX11) (n := 1) (av := [.int a1]) (rest := []) (c_X11_releaseCouriers (G := G) (l := l) hr10) gX11_cancel_X11_releaseCouriers rfl (by decide +kernel) ⟨(Nat.le_of_ble_eq_true rfl), (Nat.le_of_ble_eq_true rfl)⟩ g9 rfl rfl hl.1 rfl (Nat.le_of_ble_eq_true rfl) dX11_cancel_38 ⟨(Nat.zero_le _), (Nat.zero_le _)⟩) (fun H locs hw => ?_)
    refine m_aload_n (x := this) hx hb dX11_cancel_41 rfl (lv_at hl 1 rfl) ?_
    refine m_aload_n (x := this) hx hb dX11_cancel_42 rfl (lv_at hl 1 rfl) ?_
    obtain ⟨v11, hv11, h⟩ := ob h
    refine m_getI hC hw (C := RX11) (T := TX11) (N := 11) hv11 ki_X11_cancel_X11 rfl (by decide) k_X11_cancel_39 (fun _ z => z) dX11_cancel_43 ?_
    obtain ⟨g12, h⟩ := itg h
    obtain ⟨r13, hr13, h⟩ := ob h
    refine m_contI hC hw (m_runV hC hw (x := this) (ci := 14) (N := 11) (C := RX11) (T := TX11) (n := 1) (av := [.int v11]) (rest := []) (c_X11_answer (G := G) (l := l) hr13) gX11_cancel_X11_answer rfl (by decide +kernel) ⟨(Nat.le_of_ble_eq_true rfl), (Nat.le_of_ble_eq_true rfl)⟩ g12 rfl rfl hl.1 rfl (Nat.le_of_ble_eq_true rfl) dX11_cancel_46 ⟨(Nat.zero_le _), (Nat.zero_le _)⟩) (fun H locs hw => ?_)
    replace h := Option.some.inj h
    subst h
    exact RET hw ⟨(Nat.zero_le _), (Nat.zero_le _)⟩ dX11_cancel_49
  · replace h := itt h c3
    refine m_aload_n (x := this) hx hb dX11_cancel_10 rfl (lv_at hl 1 rfl) ?_
    refine lv_iconst (v := (1 : Int32)) hx hb dX11_cancel_11 (by decide) ?_
    obtain ⟨g14, h⟩ := itg h
    obtain ⟨r15, hr15, h⟩ := ob h
    refine m_contI hC hw (m_runV hC hw (x := this) (ci := 14) (N := 11) (C := RX11) (T := TX11) (n := 1) (av := [.int (1 : Int32)]) (rest := []) (c_X11_refuse (G := G) (l := l) hr15) gX11_cancel_X11_refuse rfl (by decide +kernel) ⟨(Nat.le_of_ble_eq_true rfl), (Nat.le_of_ble_eq_true rfl)⟩ g14 rfl rfl hl.1 rfl (Nat.le_of_ble_eq_true rfl) dX11_cancel_12 ⟨(Nat.zero_le _), (Nat.zero_le _)⟩) (fun H locs hw => ?_)
    replace h := Option.some.inj h
    subst h
    exact RET hw ⟨(Nat.zero_le _), (Nat.zero_le _)⟩ dX11_cancel_15

def f_X11_place (M : Mem) (this : Option Nat) : Option (Int32) := (gR M this 14 1).bind fun v1 => if isO M v1 10 = true then ((f_X7_wrongAt M v1).bind fun r3 => some (r3)) else none
def rmX11_place : Room := { frames := 1, cells := 0, slots := 0, locals := 20 }
theorem k_X11_place_19 : Cond.fieldLink RX11 19 "LoanBook" "reader" "LLoanBook$Reader;" ∈ wsX11_place := List.mem_of_getElem? (i := 1) rfl
theorem ki_X11_place_X11 : ∀ w ∈ u_ws RX11 TX11 11, w ∈ wsX11_place := sub_r [8, 9, 10, 11, 12, 13, 14, 15, 16, 17, 18] (by decide +kernel)
set_option maxHeartbeats 4000000 in
set_option maxRecDepth 100000 in
theorem c_X11_place {G : wG} {l : Launch} {M : Mem} {sz : Nat} {this : Option Nat} {r : Int32} (h : f_X11_place M this = some r) : CtrI G l yX11_place wsX11_place rmX11_place [va_rf this] M sz r M sz := by
  refine m_startI (own := RX11) (cc := cX11_place) (maxL := 1) (lv0 := [(0, va_rf this)]) (by decide) rfl rfl (by simp [lg_sl, va_rf_cat, cat_i, cat_r]) (by simp [lv_args, va_rf_cat, cat_i, cat_r]) ?_
  intro p e s m args below meth c Q hC hname RET hsz hw ls hl
  have hx := hC.1
  have hb := hC.2.1
  unfold f_X11_place at h
  refine m_aload_n (x := this) hx hb dX11_place_0 rfl (lv_at hl 0 rfl) ?_
  obtain ⟨v1, hv1, h⟩ := ob h
  refine m_getR hC hw (C := RX11) (T := TX11) (N := 11) hv1 ki_X11_place_X11 rfl (by decide) k_X11_place_19 (fun _ z => z) dX11_place_1 ?_
  obtain ⟨g2, h⟩ := itg h
  obtain ⟨r3, hr3, h⟩ := ob h
  refine m_contI hC hw (m_runV hC hw (x := v1) (ci := 10) (N := 5) (C := RX7) (T := TX7) (n := 0) (av := []) (rest := []) (c_X7_wrongAt (G := G) (l := l) hr3) gX11_place_X7_wrongAt rfl (by decide +kernel) ⟨(Nat.le_of_ble_eq_true rfl), (Nat.le_of_ble_eq_true rfl)⟩ g2 rfl rfl hl.1 rfl (Nat.le_of_ble_eq_true rfl) dX11_place_4 ⟨(Nat.zero_le _), (Nat.zero_le _)⟩) (fun H locs hw => ?_)
  replace h := Option.some.inj h
  subst h
  exact RET hw ⟨(Nat.zero_le _), (Nat.zero_le _)⟩ dX11_place_7

def f_X11_fault (M : Mem) (this : Option Nat) : Option (Int32) := (gI M this 14 9).bind fun v1 => some (v1)
def rmX11_fault : Room := { frames := 0, cells := 0, slots := 0, locals := 0 }
theorem k_X11_fault_49 : Cond.fieldLink RX11 49 "LoanBook" "lastFault" "I" ∈ wsX11_fault := List.mem_of_getElem? (i := 1) rfl
theorem ki_X11_fault_X11 : ∀ w ∈ u_ws RX11 TX11 11, w ∈ wsX11_fault := sub_r [2, 3, 4, 5, 6, 7, 8, 9, 10, 11, 12] (by decide +kernel)
set_option maxHeartbeats 4000000 in
set_option maxRecDepth 100000 in
theorem c_X11_fault {G : wG} {l : Launch} {M : Mem} {sz : Nat} {this : Option Nat} {r : Int32} (h : f_X11_fault M this = some r) : CtrI G l yX11_fault wsX11_fault rmX11_fault [va_rf this] M sz r M sz := by
  refine m_startI (own := RX11) (cc := cX11_fault) (maxL := 1) (lv0 := [(0, va_rf this)]) (by decide) rfl rfl (by simp [lg_sl, va_rf_cat, cat_i, cat_r]) (by simp [lv_args, va_rf_cat, cat_i, cat_r]) ?_
  intro p e s m args below meth c Q hC hname RET hsz hw ls hl
  have hx := hC.1
  have hb := hC.2.1
  unfold f_X11_fault at h
  refine m_aload_n (x := this) hx hb dX11_fault_0 rfl (lv_at hl 0 rfl) ?_
  obtain ⟨v1, hv1, h⟩ := ob h
  refine m_getI hC hw (C := RX11) (T := TX11) (N := 11) hv1 ki_X11_fault_X11 rfl (by decide) k_X11_fault_49 (fun _ z => z) dX11_fault_1 ?_
  replace h := Option.some.inj h
  subst h
  exact RET hw ⟨(Nat.zero_le _), (Nat.zero_le _)⟩ dX11_fault_4

def f_X11_count (B : Nat) (M : Mem) (this : Option Nat) (a1 : Int32) : Option (Int32 × Mem) := if a1 = (0 : Int32) then ((gR M this 14 2).bind fun v2 => if isO M v2 2 = true then ((f_Jx4a65c_size_8abf5 M v2).bind fun r4 => if isO M this 14 = true then ((f_X11_answer B M this r4).bind fun r6 => some (r6.1, r6.2)) else none) else none) else (if a1 = (1 : Int32) then ((gR M this 14 3).bind fun v8 => if isO M v8 2 = true then ((f_Jx4a65c_size_8abf5 M v8).bind fun r10 => if isO M this 14 = true then ((f_X11_answer B M this r10).bind fun r12 => some (r12.1, r12.2)) else none) else none) else (if a1 = (2 : Int32) then ((gR M this 14 4).bind fun v14 => if isO M v14 2 = true then ((f_Jx4a65c_size_8abf5 M v14).bind fun r16 => if isO M this 14 = true then ((f_X11_answer B M this r16).bind fun r18 => some (r18.1, r18.2)) else none) else none) else (if a1 = (3 : Int32) then ((gR M this 14 5).bind fun v20 => if isO M v20 2 = true then ((f_Jx4a65c_size_8abf5 M v20).bind fun r22 => if isO M this 14 = true then ((f_X11_answer B M this r22).bind fun r24 => some (r24.1, r24.2)) else none) else none) else (if a1 = (4 : Int32) then ((gI M this 14 6).bind fun v26 => if isO M this 14 = true then ((f_X11_answer B M this v26).bind fun r28 => some (r28.1, r28.2)) else none) else (if a1 = (5 : Int32) then ((gI M this 14 7).bind fun v30 => if isO M this 14 = true then ((f_X11_answer B M this v30).bind fun r32 => some (r32.1, r32.2)) else none) else (if a1 = (6 : Int32) then ((gR M this 14 0).bind fun v34 => if isO M v34 12 = true then ((f_X9_size M v34).bind fun r36 => if isO M this 14 = true then ((f_X11_answer B M this r36).bind fun r38 => some (r38.1, r38.2)) else none) else none) else (if isO M this 14 = true then ((f_X11_refuse B M this (3 : Int32)).bind fun r40 => some (r40.1, r40.2)) else none)))))))
def rmX11_count : Room := { frames := 1, cells := 0, slots := 0, locals := 21 }
theorem k_X11_count_26 : Cond.fieldLink RX11 26 "LoanBook" "things" "Ljava/util/ArrayList;" ∈ wsX11_count := List.mem_of_getElem? (i := 1) rfl
theorem ki_X11_count_X11 : ∀ w ∈ u_ws RX11 TX11 11, w ∈ wsX11_count := sub_r [30, 31, 32, 33, 34, 35, 36, 37, 38, 39, 40] (by decide +kernel)
theorem k_X11_count_30 : Cond.fieldLink RX11 30 "LoanBook" "houses" "Ljava/util/ArrayList;" ∈ wsX11_count := List.mem_of_getElem? (i := 2) rfl
theorem k_X11_count_33 : Cond.fieldLink RX11 33 "LoanBook" "couriers" "Ljava/util/ArrayList;" ∈ wsX11_count := List.mem_of_getElem? (i := 3) rfl
theorem k_X11_count_36 : Cond.fieldLink RX11 36 "LoanBook" "loans" "Ljava/util/ArrayList;" ∈ wsX11_count := List.mem_of_getElem? (i := 4) rfl
theorem k_X11_count_39 : Cond.fieldLink RX11 39 "LoanBook" "standing" "I" ∈ wsX11_count := List.mem_of_getElem? (i := 5) rfl
theorem k_X11_count_43 : Cond.fieldLink RX11 43 "LoanBook" "reports" "I" ∈ wsX11_count := List.mem_of_getElem? (i := 6) rfl
theorem k_X11_count_10 : Cond.fieldLink RX11 10 "LoanBook" "tape" "LLoanBook$Tape;" ∈ wsX11_count := List.mem_of_getElem? (i := 7) rfl
set_option maxHeartbeats 4000000 in
set_option maxRecDepth 100000 in
theorem c_X11_count {G : wG} {l : Launch} {M : Mem} {sz : Nat} {this : Option Nat} {a1 : Int32} {r : Int32 × Mem} (h : f_X11_count G.2.2.1 M this a1 = some r) : CtrI G l yX11_count wsX11_count rmX11_count [va_rf this, .int a1] M sz r.1 r.2 sz := by
  refine m_startI (own := RX11) (cc := cX11_count) (maxL := 2) (lv0 := [(0, va_rf this), (1, .int a1)]) (by decide) rfl rfl (by simp [lg_sl, va_rf_cat, cat_i, cat_r]) (by simp [lv_args, va_rf_cat, cat_i, cat_r]) ?_
  intro p e s m args below meth c Q hC hname RET hsz hw ls hl
  have hx := hC.1
  have hb := hC.2.1
  unfold f_X11_count at h
  refine lv_iload_n hx hb dX11_count_0 rfl (lv_at hl 1 rfl) ?_
  by_cases c1 : a1 = (0 : Int32)
  · replace h := itt h c1
    refine lv_tableIn (tgt := 44) hx hb dX11_count_1 (by rw [c1]; decide) (by rw [c1]; decide) (by rw [c1]; rfl) (by decide) ?_
    refine m_aload_n (x := this) hx hb dX11_count_44 rfl (lv_at hl 0 rfl) ?_
    refine m_aload_n (x := this) hx hb dX11_count_45 rfl (lv_at hl 0 rfl) ?_
    obtain ⟨v2, hv2, h⟩ := ob h
    refine m_getR hC hw (C := RX11) (T := TX11) (N := 11) hv2 ki_X11_count_X11 rfl (by decide) k_X11_count_26 (fun _ z => z) dX11_count_46 ?_
    obtain ⟨g3, h⟩ := itg h
    obtain ⟨r4, hr4, h⟩ := ob h
    refine m_contI hC hw (m_runV hC hw (x := v2) (ci := 2) (N := 3) (C := RJx4a65c) (T := TJx4a65c) (n := 0) (av := []) (rest := [va_rf this]) (c_Jx4a65c_size_8abf5 (G := G) (l := l) hr4) gX11_count_Jx4a65c_size_8abf5 rfl (by decide +kernel) ⟨(Nat.le_of_ble_eq_true rfl), (Nat.le_of_ble_eq_true rfl)⟩ g3 rfl rfl hl.1 rfl (by simp [va_rf_cat, cat_i, cat_r, cat_l]) dX11_count_49 ⟨(Nat.zero_le _), (Nat.zero_le _)⟩) (fun H locs hw => ?_)
    obtain ⟨g5, h⟩ := itg h
    obtain ⟨r6, hr6, h⟩ := ob h
    refine m_contI hC hw (m_runV hC hw (x := this) (ci := 14) (N := 11) (C := RX11) (T := TX11) (n := 1) (av := [.int r4]) (rest := []) (c_X11_answer (G := G) (l := l) hr6) gX11_count_X11_answer rfl (by decide +kernel) ⟨(Nat.le_of_ble_eq_true rfl), (Nat.le_of_ble_eq_true rfl)⟩ g5 rfl rfl hl.1 rfl (Nat.le_of_ble_eq_true rfl) dX11_count_52 ⟨(Nat.zero_le _), (Nat.zero_le _)⟩) (fun H locs hw => ?_)
    replace h := Option.some.inj h
    subst h
    exact RET hw ⟨(Nat.zero_le _), (Nat.zero_le _)⟩ dX11_count_55
  replace h := itf h c1
  by_cases c7 : a1 = (1 : Int32)
  · replace h := itt h c7
    refine lv_tableIn (tgt := 56) hx hb dX11_count_1 (by rw [c7]; decide) (by rw [c7]; decide) (by rw [c7]; rfl) (by decide) ?_
    refine m_aload_n (x := this) hx hb dX11_count_56 rfl (lv_at hl 0 rfl) ?_
    refine m_aload_n (x := this) hx hb dX11_count_57 rfl (lv_at hl 0 rfl) ?_
    obtain ⟨v8, hv8, h⟩ := ob h
    refine m_getR hC hw (C := RX11) (T := TX11) (N := 11) hv8 ki_X11_count_X11 rfl (by decide) k_X11_count_30 (fun _ z => z) dX11_count_58 ?_
    obtain ⟨g9, h⟩ := itg h
    obtain ⟨r10, hr10, h⟩ := ob h
    refine m_contI hC hw (m_runV hC hw (x := v8) (ci := 2) (N := 3) (C := RJx4a65c) (T := TJx4a65c) (n := 0) (av := []) (rest := [va_rf this]) (c_Jx4a65c_size_8abf5 (G := G) (l := l) hr10) gX11_count_Jx4a65c_size_8abf5 rfl (by decide +kernel) ⟨(Nat.le_of_ble_eq_true rfl), (Nat.le_of_ble_eq_true rfl)⟩ g9 rfl rfl hl.1 rfl (by simp [va_rf_cat, cat_i, cat_r, cat_l]) dX11_count_61 ⟨(Nat.zero_le _), (Nat.zero_le _)⟩) (fun H locs hw => ?_)
    obtain ⟨g11, h⟩ := itg h
    obtain ⟨r12, hr12, h⟩ := ob h
    refine m_contI hC hw (m_runV hC hw (x := this) (ci := 14) (N := 11) (C := RX11) (T := TX11) (n := 1) (av := [.int r10]) (rest := []) (c_X11_answer (G := G) (l := l) hr12) gX11_count_X11_answer rfl (by decide +kernel) ⟨(Nat.le_of_ble_eq_true rfl), (Nat.le_of_ble_eq_true rfl)⟩ g11 rfl rfl hl.1 rfl (Nat.le_of_ble_eq_true rfl) dX11_count_64 ⟨(Nat.zero_le _), (Nat.zero_le _)⟩) (fun H locs hw => ?_)
    replace h := Option.some.inj h
    subst h
    exact RET hw ⟨(Nat.zero_le _), (Nat.zero_le _)⟩ dX11_count_67
  replace h := itf h c7
  by_cases c13 : a1 = (2 : Int32)
  · replace h := itt h c13
    refine lv_tableIn (tgt := 68) hx hb dX11_count_1 (by rw [c13]; decide) (by rw [c13]; decide) (by rw [c13]; rfl) (by decide) ?_
    refine m_aload_n (x := this) hx hb dX11_count_68 rfl (lv_at hl 0 rfl) ?_
    refine m_aload_n (x := this) hx hb dX11_count_69 rfl (lv_at hl 0 rfl) ?_
    obtain ⟨v14, hv14, h⟩ := ob h
    refine m_getR hC hw (C := RX11) (T := TX11) (N := 11) hv14 ki_X11_count_X11 rfl (by decide) k_X11_count_33 (fun _ z => z) dX11_count_70 ?_
    obtain ⟨g15, h⟩ := itg h
    obtain ⟨r16, hr16, h⟩ := ob h
    refine m_contI hC hw (m_runV hC hw (x := v14) (ci := 2) (N := 3) (C := RJx4a65c) (T := TJx4a65c) (n := 0) (av := []) (rest := [va_rf this]) (c_Jx4a65c_size_8abf5 (G := G) (l := l) hr16) gX11_count_Jx4a65c_size_8abf5 rfl (by decide +kernel) ⟨(Nat.le_of_ble_eq_true rfl), (Nat.le_of_ble_eq_true rfl)⟩ g15 rfl rfl hl.1 rfl (by simp [va_rf_cat, cat_i, cat_r, cat_l]) dX11_count_73 ⟨(Nat.zero_le _), (Nat.zero_le _)⟩) (fun H locs hw => ?_)
    obtain ⟨g17, h⟩ := itg h
    obtain ⟨r18, hr18, h⟩ := ob h
    refine m_contI hC hw (m_runV hC hw (x := this) (ci := 14) (N := 11) (C := RX11) (T := TX11) (n := 1) (av := [.int r16]) (rest := []) (c_X11_answer (G := G) (l := l) hr18) gX11_count_X11_answer rfl (by decide +kernel) ⟨(Nat.le_of_ble_eq_true rfl), (Nat.le_of_ble_eq_true rfl)⟩ g17 rfl rfl hl.1 rfl (Nat.le_of_ble_eq_true rfl) dX11_count_76 ⟨(Nat.zero_le _), (Nat.zero_le _)⟩) (fun H locs hw => ?_)
    replace h := Option.some.inj h
    subst h
    exact RET hw ⟨(Nat.zero_le _), (Nat.zero_le _)⟩ dX11_count_79
  replace h := itf h c13
  by_cases c19 : a1 = (3 : Int32)
  · replace h := itt h c19
    refine lv_tableIn (tgt := 80) hx hb dX11_count_1 (by rw [c19]; decide) (by rw [c19]; decide) (by rw [c19]; rfl) (by decide) ?_
    refine m_aload_n (x := this) hx hb dX11_count_80 rfl (lv_at hl 0 rfl) ?_
    refine m_aload_n (x := this) hx hb dX11_count_81 rfl (lv_at hl 0 rfl) ?_
    obtain ⟨v20, hv20, h⟩ := ob h
    refine m_getR hC hw (C := RX11) (T := TX11) (N := 11) hv20 ki_X11_count_X11 rfl (by decide) k_X11_count_36 (fun _ z => z) dX11_count_82 ?_
    obtain ⟨g21, h⟩ := itg h
    obtain ⟨r22, hr22, h⟩ := ob h
    refine m_contI hC hw (m_runV hC hw (x := v20) (ci := 2) (N := 3) (C := RJx4a65c) (T := TJx4a65c) (n := 0) (av := []) (rest := [va_rf this]) (c_Jx4a65c_size_8abf5 (G := G) (l := l) hr22) gX11_count_Jx4a65c_size_8abf5 rfl (by decide +kernel) ⟨(Nat.le_of_ble_eq_true rfl), (Nat.le_of_ble_eq_true rfl)⟩ g21 rfl rfl hl.1 rfl (by simp [va_rf_cat, cat_i, cat_r, cat_l]) dX11_count_85 ⟨(Nat.zero_le _), (Nat.zero_le _)⟩) (fun H locs hw => ?_)
    obtain ⟨g23, h⟩ := itg h
    obtain ⟨r24, hr24, h⟩ := ob h
    refine m_contI hC hw (m_runV hC hw (x := this) (ci := 14) (N := 11) (C := RX11) (T := TX11) (n := 1) (av := [.int r22]) (rest := []) (c_X11_answer (G := G) (l := l) hr24) gX11_count_X11_answer rfl (by decide +kernel) ⟨(Nat.le_of_ble_eq_true rfl), (Nat.le_of_ble_eq_true rfl)⟩ g23 rfl rfl hl.1 rfl (Nat.le_of_ble_eq_true rfl) dX11_count_88 ⟨(Nat.zero_le _), (Nat.zero_le _)⟩) (fun H locs hw => ?_)
    replace h := Option.some.inj h
    subst h
    exact RET hw ⟨(Nat.zero_le _), (Nat.zero_le _)⟩ dX11_count_91
  replace h := itf h c19
  by_cases c25 : a1 = (4 : Int32)
  · replace h := itt h c25
    refine lv_tableIn (tgt := 92) hx hb dX11_count_1 (by rw [c25]; decide) (by rw [c25]; decide) (by rw [c25]; rfl) (by decide) ?_
    refine m_aload_n (x := this) hx hb dX11_count_92 rfl (lv_at hl 0 rfl) ?_
    refine m_aload_n (x := this) hx hb dX11_count_93 rfl (lv_at hl 0 rfl) ?_
    obtain ⟨v26, hv26, h⟩ := ob h
    refine m_getI hC hw (C := RX11) (T := TX11) (N := 11) hv26 ki_X11_count_X11 rfl (by decide) k_X11_count_39 (fun _ z => z) dX11_count_94 ?_
    obtain ⟨g27, h⟩ := itg h
    obtain ⟨r28, hr28, h⟩ := ob h
    refine m_contI hC hw (m_runV hC hw (x := this) (ci := 14) (N := 11) (C := RX11) (T := TX11) (n := 1) (av := [.int v26]) (rest := []) (c_X11_answer (G := G) (l := l) hr28) gX11_count_X11_answer rfl (by decide +kernel) ⟨(Nat.le_of_ble_eq_true rfl), (Nat.le_of_ble_eq_true rfl)⟩ g27 rfl rfl hl.1 rfl (Nat.le_of_ble_eq_true rfl) dX11_count_97 ⟨(Nat.zero_le _), (Nat.zero_le _)⟩) (fun H locs hw => ?_)
    replace h := Option.some.inj h
    subst h
    exact RET hw ⟨(Nat.zero_le _), (Nat.zero_le _)⟩ dX11_count_100
  replace h := itf h c25
  by_cases c29 : a1 = (5 : Int32)
  · replace h := itt h c29
    refine lv_tableIn (tgt := 101) hx hb dX11_count_1 (by rw [c29]; decide) (by rw [c29]; decide) (by rw [c29]; rfl) (by decide) ?_
    refine m_aload_n (x := this) hx hb dX11_count_101 rfl (lv_at hl 0 rfl) ?_
    refine m_aload_n (x := this) hx hb dX11_count_102 rfl (lv_at hl 0 rfl) ?_
    obtain ⟨v30, hv30, h⟩ := ob h
    refine m_getI hC hw (C := RX11) (T := TX11) (N := 11) hv30 ki_X11_count_X11 rfl (by decide) k_X11_count_43 (fun _ z => z) dX11_count_103 ?_
    obtain ⟨g31, h⟩ := itg h
    obtain ⟨r32, hr32, h⟩ := ob h
    refine m_contI hC hw (m_runV hC hw (x := this) (ci := 14) (N := 11) (C := RX11) (T := TX11) (n := 1) (av := [.int v30]) (rest := []) (c_X11_answer (G := G) (l := l) hr32) gX11_count_X11_answer rfl (by decide +kernel) ⟨(Nat.le_of_ble_eq_true rfl), (Nat.le_of_ble_eq_true rfl)⟩ g31 rfl rfl hl.1 rfl (Nat.le_of_ble_eq_true rfl) dX11_count_106 ⟨(Nat.zero_le _), (Nat.zero_le _)⟩) (fun H locs hw => ?_)
    replace h := Option.some.inj h
    subst h
    exact RET hw ⟨(Nat.zero_le _), (Nat.zero_le _)⟩ dX11_count_109
  replace h := itf h c29
  by_cases c33 : a1 = (6 : Int32)
  · replace h := itt h c33
    refine lv_tableIn (tgt := 110) hx hb dX11_count_1 (by rw [c33]; decide) (by rw [c33]; decide) (by rw [c33]; rfl) (by decide) ?_
    refine m_aload_n (x := this) hx hb dX11_count_110 rfl (lv_at hl 0 rfl) ?_
    refine m_aload_n (x := this) hx hb dX11_count_111 rfl (lv_at hl 0 rfl) ?_
    obtain ⟨v34, hv34, h⟩ := ob h
    refine m_getR hC hw (C := RX11) (T := TX11) (N := 11) hv34 ki_X11_count_X11 rfl (by decide) k_X11_count_10 (fun _ z => z) dX11_count_112 ?_
    obtain ⟨g35, h⟩ := itg h
    obtain ⟨r36, hr36, h⟩ := ob h
    refine m_contI hC hw (m_runV hC hw (x := v34) (ci := 12) (N := 2) (C := RX9) (T := TX9) (n := 0) (av := []) (rest := [va_rf this]) (c_X9_size (G := G) (l := l) hr36) gX11_count_X9_size rfl (by decide +kernel) ⟨(Nat.le_of_ble_eq_true rfl), (Nat.le_of_ble_eq_true rfl)⟩ g35 rfl rfl hl.1 rfl (by simp [va_rf_cat, cat_i, cat_r, cat_l]) dX11_count_115 ⟨(Nat.zero_le _), (Nat.zero_le _)⟩) (fun H locs hw => ?_)
    obtain ⟨g37, h⟩ := itg h
    obtain ⟨r38, hr38, h⟩ := ob h
    refine m_contI hC hw (m_runV hC hw (x := this) (ci := 14) (N := 11) (C := RX11) (T := TX11) (n := 1) (av := [.int r36]) (rest := []) (c_X11_answer (G := G) (l := l) hr38) gX11_count_X11_answer rfl (by decide +kernel) ⟨(Nat.le_of_ble_eq_true rfl), (Nat.le_of_ble_eq_true rfl)⟩ g37 rfl rfl hl.1 rfl (Nat.le_of_ble_eq_true rfl) dX11_count_118 ⟨(Nat.zero_le _), (Nat.zero_le _)⟩) (fun H locs hw => ?_)
    replace h := Option.some.inj h
    subst h
    exact RET hw ⟨(Nat.zero_le _), (Nat.zero_le _)⟩ dX11_count_121
  replace h := itf h c33
  refine lv_tableOut (tgt := 122) hx hb dX11_count_1 (by have tc1 := lv_neT c1 (a := 0) rfl; have tc7 := lv_neT c7 (a := 1) rfl; have tc13 := lv_neT c13 (a := 2) rfl; have tc19 := lv_neT c19 (a := 3) rfl; have tc25 := lv_neT c25 (a := 4) rfl; have tc29 := lv_neT c29 (a := 5) rfl; have tc33 := lv_neT c33 (a := 6) rfl; omega) (by decide) ?_
  refine m_aload_n (x := this) hx hb dX11_count_122 rfl (lv_at hl 0 rfl) ?_
  refine lv_iconst (v := (3 : Int32)) hx hb dX11_count_123 (by decide) ?_
  obtain ⟨g39, h⟩ := itg h
  obtain ⟨r40, hr40, h⟩ := ob h
  refine m_contI hC hw (m_runV hC hw (x := this) (ci := 14) (N := 11) (C := RX11) (T := TX11) (n := 1) (av := [.int (3 : Int32)]) (rest := []) (c_X11_refuse (G := G) (l := l) hr40) gX11_count_X11_refuse rfl (by decide +kernel) ⟨(Nat.le_of_ble_eq_true rfl), (Nat.le_of_ble_eq_true rfl)⟩ g39 rfl rfl hl.1 rfl (Nat.le_of_ble_eq_true rfl) dX11_count_124 ⟨(Nat.zero_le _), (Nat.zero_le _)⟩) (fun H locs hw => ?_)
  replace h := Option.some.inj h
  subst h
  exact RET hw ⟨(Nat.zero_le _), (Nat.zero_le _)⟩ dX11_count_127

def f_X11_value (B : Nat) (n : Nat) (M : Mem) (this : Option Nat) (a1 : Int32) (a2 : Int32) : Option (Int32 × Mem) := if isO M this 14 = true then ((f_X11_thingAt M this a1).bind fun r2 => if r2 = none then (if r2 = none then (if isO M this 14 = true then ((f_X11_refuseAsked B M this (0 : Int32)).bind fun r6 => some (r6.1, r6.2)) else none) else (if isO M this 14 = true then ((f_X11_refuseAsked B M this (1 : Int32)).bind fun r8 => some (r8.1, r8.2)) else none)) else ((f_X11_isDay M a2).bind fun r9 => if r9 = 0 then (if r2 = none then (if isO M this 14 = true then ((f_X11_refuseAsked B M this (0 : Int32)).bind fun r17 => some (r17.1, r17.2)) else none) else (if isO M this 14 = true then ((f_X11_refuseAsked B M this (1 : Int32)).bind fun r19 => some (r19.1, r19.2)) else none)) else (if isO M r2 13 = true then ((f_X10_valueOn n M r2 a2).bind fun r12 => if isO M this 14 = true then ((f_X11_answer B M this r12).bind fun r14 => some (r14.1, r14.2)) else none) else none))) else none
def rmX11_value : Room := { frames := 4, cells := 0, slots := 0, locals := 85 }
set_option maxHeartbeats 4000000 in
set_option maxRecDepth 100000 in
theorem c_X11_value {G : wG} {l : Launch} {n : Nat} {M : Mem} {sz : Nat} {this : Option Nat} {a1 : Int32} {a2 : Int32} {r : Int32 × Mem} (h : f_X11_value G.2.2.1 n M this a1 a2 = some r) : CtrI G l yX11_value wsX11_value rmX11_value [va_rf this, .int a1, .int a2] M sz r.1 r.2 sz := by
  refine m_startI (own := RX11) (cc := cX11_value) (maxL := 4) (lv0 := [(0, va_rf this), (1, .int a1), (2, .int a2)]) (by decide) rfl rfl (by simp [lg_sl, va_rf_cat, cat_i, cat_r]) (by simp [lv_args, va_rf_cat, cat_i, cat_r]) ?_
  intro p e s m args below meth c Q hC hname RET hsz hw ls hl
  have hx := hC.1
  have hb := hC.2.1
  unfold f_X11_value at h
  refine m_aload_n (x := this) hx hb dX11_value_0 rfl (lv_at hl 0 rfl) ?_
  refine lv_iload_n hx hb dX11_value_1 rfl (lv_at hl 1 rfl) ?_
  obtain ⟨g1, h⟩ := itg h
  obtain ⟨r2, hr2, h⟩ := ob h
  refine m_contQ hC hw (m_runV hC hw (x := this) (ci := 14) (N := 11) (C := RX11) (T := TX11) (n := 1) (av := [.int a1]) (rest := []) (c_X11_thingAt (G := G) (l := l) hr2) gX11_value_X11_thingAt rfl (by decide +kernel) ⟨(Nat.le_of_ble_eq_true rfl), (Nat.le_of_ble_eq_true rfl)⟩ g1 rfl rfl hl.1 rfl (Nat.le_of_ble_eq_true rfl) dX11_value_2 ⟨(Nat.zero_le _), (Nat.zero_le _)⟩) (fun H locs hw => ?_)
  refine m_astore_n (x := r2) (i := 3) (lv' := [(3, va_rf r2), (0, va_rf this), (1, .int a1), (2, .int a2)]) hx hb dX11_value_5 rfl hl (by decide) rfl (fun ls hl => ?_)
  refine m_aload_n (x := r2) hx hb dX11_value_6 rfl (lv_at hl 0 rfl) ?_
  refine m_ifnull (x := r2) (tgt := 17) hx hb dX11_value_7 (by decide) (fun c3 => ?_) (fun c3 => ?_)
  · replace h := itt h c3
    refine m_aload_n (x := this) hx hb dX11_value_17 rfl (lv_at hl 1 rfl) ?_
    refine m_aload_n (x := r2) hx hb dX11_value_18 rfl (lv_at hl 0 rfl) ?_
    refine m_ifnull (x := r2) (tgt := 26) hx hb dX11_value_19 (by decide) (fun c4 => ?_) (fun c4 => ?_)
    · replace h := itt h c4
      refine lv_iconst (v := (0 : Int32)) hx hb dX11_value_26 (by decide) ?_
      obtain ⟨g5, h⟩ := itg h
      obtain ⟨r6, hr6, h⟩ := ob h
      refine m_contI hC hw (m_runV hC hw (x := this) (ci := 14) (N := 11) (C := RX11) (T := TX11) (n := 1) (av := [.int (0 : Int32)]) (rest := []) (c_X11_refuseAsked (G := G) (l := l) hr6) gX11_value_X11_refuseAsked rfl (by decide +kernel) ⟨(Nat.le_of_ble_eq_true rfl), (Nat.le_of_ble_eq_true rfl)⟩ g5 rfl rfl hl.1 rfl (Nat.le_of_ble_eq_true rfl) dX11_value_27 ⟨(Nat.zero_le _), (Nat.zero_le _)⟩) (fun H locs hw => ?_)
      replace h := Option.some.inj h
      subst h
      exact RET hw ⟨(Nat.zero_le _), (Nat.zero_le _)⟩ dX11_value_30
    · replace h := itf h c4
      refine lv_iconst (v := (1 : Int32)) hx hb dX11_value_22 (by decide) ?_
      refine lv_goto (tgt := 27) hx hb dX11_value_23 (by decide) ?_
      obtain ⟨g7, h⟩ := itg h
      obtain ⟨r8, hr8, h⟩ := ob h
      refine m_contI hC hw (m_runV hC hw (x := this) (ci := 14) (N := 11) (C := RX11) (T := TX11) (n := 1) (av := [.int (1 : Int32)]) (rest := []) (c_X11_refuseAsked (G := G) (l := l) hr8) gX11_value_X11_refuseAsked rfl (by decide +kernel) ⟨(Nat.le_of_ble_eq_true rfl), (Nat.le_of_ble_eq_true rfl)⟩ g7 rfl rfl hl.1 rfl (Nat.le_of_ble_eq_true rfl) dX11_value_27 ⟨(Nat.zero_le _), (Nat.zero_le _)⟩) (fun H locs hw => ?_)
      replace h := Option.some.inj h
      subst h
      exact RET hw ⟨(Nat.zero_le _), (Nat.zero_le _)⟩ dX11_value_30
  · replace h := itf h c3
    refine lv_iload_n hx hb dX11_value_10 rfl (lv_at hl 3 rfl) ?_
    obtain ⟨r9, hr9, h⟩ := ob h
    refine m_contI hC hw (m_runS hC hw (n := 1) (av := [.int a2]) (rest := []) (c_X11_isDay (G := G) (l := l) hr9) gX11_value_X11_isDay rfl (by decide +kernel) ⟨(Nat.le_of_ble_eq_true rfl), (Nat.le_of_ble_eq_true rfl)⟩ rfl hl.1 rfl (Nat.le_of_ble_eq_true rfl) dX11_value_11 ⟨(Nat.zero_le _), (Nat.zero_le _)⟩) (fun H locs hw => ?_)
    refine lv_if_ne (tgt := 31) hx hb dX11_value_14 (by decide) (fun c10 => ?_) (fun c10 => ?_)
    · replace h := itf h c10
      refine m_aload_n (x := this) hx hb dX11_value_31 rfl (lv_at hl 1 rfl) ?_
      refine m_aload_n (x := r2) hx hb dX11_value_32 rfl (lv_at hl 0 rfl) ?_
      refine lv_iload_n hx hb dX11_value_33 rfl (lv_at hl 3 rfl) ?_
      obtain ⟨g11, h⟩ := itg h
      obtain ⟨r12, hr12, h⟩ := ob h
      refine m_contI hC hw (m_runV hC hw (x := r2) (ci := 13) (N := 9) (C := RX10) (T := TX10) (n := 1) (av := [.int a2]) (rest := [va_rf this]) (c_X10_valueOn (G := G) (l := l) hr12) gX11_value_X10_valueOn rfl (by decide +kernel) ⟨(Nat.le_of_ble_eq_true rfl), (Nat.le_of_ble_eq_true rfl)⟩ g11 rfl rfl hl.1 rfl (by simp [va_rf_cat, cat_i, cat_r, cat_l]) dX11_value_34 ⟨(Nat.zero_le _), (Nat.zero_le _)⟩) (fun H locs hw => ?_)
      obtain ⟨g13, h⟩ := itg h
      obtain ⟨r14, hr14, h⟩ := ob h
      refine m_contI hC hw (m_runV hC hw (x := this) (ci := 14) (N := 11) (C := RX11) (T := TX11) (n := 1) (av := [.int r12]) (rest := []) (c_X11_answer (G := G) (l := l) hr14) gX11_value_X11_answer rfl (by decide +kernel) ⟨(Nat.le_of_ble_eq_true rfl), (Nat.le_of_ble_eq_true rfl)⟩ g13 rfl rfl hl.1 rfl (Nat.le_of_ble_eq_true rfl) dX11_value_37 ⟨(Nat.zero_le _), (Nat.zero_le _)⟩) (fun H locs hw => ?_)
      replace h := Option.some.inj h
      subst h
      exact RET hw ⟨(Nat.zero_le _), (Nat.zero_le _)⟩ dX11_value_40
    · replace h := itt h c10
      refine m_aload_n (x := this) hx hb dX11_value_17 rfl (lv_at hl 1 rfl) ?_
      refine m_aload_n (x := r2) hx hb dX11_value_18 rfl (lv_at hl 0 rfl) ?_
      refine m_ifnull (x := r2) (tgt := 26) hx hb dX11_value_19 (by decide) (fun c15 => ?_) (fun c15 => ?_)
      · replace h := itt h c15
        refine lv_iconst (v := (0 : Int32)) hx hb dX11_value_26 (by decide) ?_
        obtain ⟨g16, h⟩ := itg h
        obtain ⟨r17, hr17, h⟩ := ob h
        refine m_contI hC hw (m_runV hC hw (x := this) (ci := 14) (N := 11) (C := RX11) (T := TX11) (n := 1) (av := [.int (0 : Int32)]) (rest := []) (c_X11_refuseAsked (G := G) (l := l) hr17) gX11_value_X11_refuseAsked rfl (by decide +kernel) ⟨(Nat.le_of_ble_eq_true rfl), (Nat.le_of_ble_eq_true rfl)⟩ g16 rfl rfl hl.1 rfl (Nat.le_of_ble_eq_true rfl) dX11_value_27 ⟨(Nat.zero_le _), (Nat.zero_le _)⟩) (fun H locs hw => ?_)
        replace h := Option.some.inj h
        subst h
        exact RET hw ⟨(Nat.zero_le _), (Nat.zero_le _)⟩ dX11_value_30
      · replace h := itf h c15
        refine lv_iconst (v := (1 : Int32)) hx hb dX11_value_22 (by decide) ?_
        refine lv_goto (tgt := 27) hx hb dX11_value_23 (by decide) ?_
        obtain ⟨g18, h⟩ := itg h
        obtain ⟨r19, hr19, h⟩ := ob h
        refine m_contI hC hw (m_runV hC hw (x := this) (ci := 14) (N := 11) (C := RX11) (T := TX11) (n := 1) (av := [.int (1 : Int32)]) (rest := []) (c_X11_refuseAsked (G := G) (l := l) hr19) gX11_value_X11_refuseAsked rfl (by decide +kernel) ⟨(Nat.le_of_ble_eq_true rfl), (Nat.le_of_ble_eq_true rfl)⟩ g18 rfl rfl hl.1 rfl (Nat.le_of_ble_eq_true rfl) dX11_value_27 ⟨(Nat.zero_le _), (Nat.zero_le _)⟩) (fun H locs hw => ?_)
        replace h := Option.some.inj h
        subst h
        exact RET hw ⟨(Nat.zero_le _), (Nat.zero_le _)⟩ dX11_value_30

def f_X11_together (B : Nat) (M : Mem) (this : Option Nat) (a1 : Int32) (a2 : Int32) : Option (Int32 × Mem) := if isO M this 14 = true then ((f_X11_thingAt M this a1).bind fun r2 => if isO M this 14 = true then ((f_X11_thingAt M this a2).bind fun r4 => if r2 = none then (if isO M this 14 = true then ((f_X11_refuse B M this (1 : Int32)).bind fun r7 => some (r7.1, r7.2)) else none) else (if r4 = none then (if isO M this 14 = true then ((f_X11_refuse B M this (1 : Int32)).bind fun r24 => some (r24.1, r24.2)) else none) else ((gI M r4 13 1).bind fun v9 => if isO M r2 13 = true then ((f_X10_bars M r2 v9).bind fun r11 => if r11 = 0 then ((gI M r2 13 1).bind fun v15 => if isO M r4 13 = true then ((f_X10_bars M r4 v15).bind fun r17 => if r17 = 0 then (if isO M this 14 = true then ((f_X11_answer B M this (1 : Int32)).bind fun r20 => some (r20.1, r20.2)) else none) else (if isO M this 14 = true then ((f_X11_answer B M this (0 : Int32)).bind fun r22 => some (r22.1, r22.2)) else none)) else none) else (if isO M this 14 = true then ((f_X11_answer B M this (0 : Int32)).bind fun r14 => some (r14.1, r14.2)) else none)) else none))) else none) else none
def rmX11_together : Room := { frames := 4, cells := 0, slots := 0, locals := 85 }
theorem k_X11_together_205 : Cond.fieldLink RX11 205 "LoanBook$Thing" "kind" "I" ∈ wsX11_together := List.mem_of_getElem? (i := 1) rfl
theorem ki_X11_together_X10 : ∀ w ∈ u_ws RX10 TX10 9, w ∈ wsX11_together := sub_r [50, 51, 52, 53, 54, 55, 56, 57, 58] (by decide +kernel)
set_option maxHeartbeats 4000000 in
set_option maxRecDepth 100000 in
theorem c_X11_together {G : wG} {l : Launch} {M : Mem} {sz : Nat} {this : Option Nat} {a1 : Int32} {a2 : Int32} {r : Int32 × Mem} (h : f_X11_together G.2.2.1 M this a1 a2 = some r) : CtrI G l yX11_together wsX11_together rmX11_together [va_rf this, .int a1, .int a2] M sz r.1 r.2 sz := by
  refine m_startI (own := RX11) (cc := cX11_together) (maxL := 5) (lv0 := [(0, va_rf this), (1, .int a1), (2, .int a2)]) (by decide) rfl rfl (by simp [lg_sl, va_rf_cat, cat_i, cat_r]) (by simp [lv_args, va_rf_cat, cat_i, cat_r]) ?_
  intro p e s m args below meth c Q hC hname RET hsz hw ls hl
  have hx := hC.1
  have hb := hC.2.1
  unfold f_X11_together at h
  refine m_aload_n (x := this) hx hb dX11_together_0 rfl (lv_at hl 0 rfl) ?_
  refine lv_iload_n hx hb dX11_together_1 rfl (lv_at hl 1 rfl) ?_
  obtain ⟨g1, h⟩ := itg h
  obtain ⟨r2, hr2, h⟩ := ob h
  refine m_contQ hC hw (m_runV hC hw (x := this) (ci := 14) (N := 11) (C := RX11) (T := TX11) (n := 1) (av := [.int a1]) (rest := []) (c_X11_thingAt (G := G) (l := l) hr2) gX11_together_X11_thingAt rfl (by decide +kernel) ⟨(Nat.le_of_ble_eq_true rfl), (Nat.le_of_ble_eq_true rfl)⟩ g1 rfl rfl hl.1 rfl (Nat.le_of_ble_eq_true rfl) dX11_together_2 ⟨(Nat.zero_le _), (Nat.zero_le _)⟩) (fun H locs hw => ?_)
  refine m_astore_n (x := r2) (i := 3) (lv' := [(3, va_rf r2), (0, va_rf this), (1, .int a1), (2, .int a2)]) hx hb dX11_together_5 rfl hl (by decide) rfl (fun ls hl => ?_)
  refine m_aload_n (x := this) hx hb dX11_together_6 rfl (lv_at hl 1 rfl) ?_
  refine lv_iload_n hx hb dX11_together_7 rfl (lv_at hl 3 rfl) ?_
  obtain ⟨g3, h⟩ := itg h
  obtain ⟨r4, hr4, h⟩ := ob h
  refine m_contQ hC hw (m_runV hC hw (x := this) (ci := 14) (N := 11) (C := RX11) (T := TX11) (n := 1) (av := [.int a2]) (rest := []) (c_X11_thingAt (G := G) (l := l) hr4) gX11_together_X11_thingAt rfl (by decide +kernel) ⟨(Nat.le_of_ble_eq_true rfl), (Nat.le_of_ble_eq_true rfl)⟩ g3 rfl rfl hl.1 rfl (Nat.le_of_ble_eq_true rfl) dX11_together_8 ⟨(Nat.zero_le _), (Nat.zero_le _)⟩) (fun H locs hw => ?_)
  refine m_astore (x := r4) (lv' := [(4, va_rf r4), (3, va_rf r2), (0, va_rf this), (1, .int a1), (2, .int a2)]) hx hb dX11_together_11 hl (by decide) (by simp [va_rf_cat, cat_i, cat_l]) (fun ls hl => ?_)
  refine m_aload_n (x := r2) hx hb dX11_together_13 rfl (lv_at hl 1 rfl) ?_
  refine m_ifnull (x := r2) (tgt := 22) hx hb dX11_together_14 (by decide) (fun c5 => ?_) (fun c5 => ?_)
  · replace h := itt h c5
    refine m_aload_n (x := this) hx hb dX11_together_22 rfl (lv_at hl 2 rfl) ?_
    refine lv_iconst (v := (1 : Int32)) hx hb dX11_together_23 (by decide) ?_
    obtain ⟨g6, h⟩ := itg h
    obtain ⟨r7, hr7, h⟩ := ob h
    refine m_contI hC hw (m_runV hC hw (x := this) (ci := 14) (N := 11) (C := RX11) (T := TX11) (n := 1) (av := [.int (1 : Int32)]) (rest := []) (c_X11_refuse (G := G) (l := l) hr7) gX11_together_X11_refuse rfl (by decide +kernel) ⟨(Nat.le_of_ble_eq_true rfl), (Nat.le_of_ble_eq_true rfl)⟩ g6 rfl rfl hl.1 rfl (Nat.le_of_ble_eq_true rfl) dX11_together_24 ⟨(Nat.zero_le _), (Nat.zero_le _)⟩) (fun H locs hw => ?_)
    replace h := Option.some.inj h
    subst h
    exact RET hw ⟨(Nat.zero_le _), (Nat.zero_le _)⟩ dX11_together_27
  · replace h := itf h c5
    refine m_aload (x := r4) hx hb dX11_together_17 (lv_at hl 0 rfl) ?_
    refine m_ifnonnull (x := r4) (tgt := 28) hx hb dX11_together_19 (by decide) (fun c8 => ?_) (fun c8 => ?_)
    · replace h := itf h c8
      refine m_aload_n (x := this) hx hb dX11_together_28 rfl (lv_at hl 2 rfl) ?_
      refine m_aload_n (x := r2) hx hb dX11_together_29 rfl (lv_at hl 1 rfl) ?_
      refine m_aload (x := r4) hx hb dX11_together_30 (lv_at hl 0 rfl) ?_
      obtain ⟨v9, hv9, h⟩ := ob h
      refine m_getI hC hw (C := RX10) (T := TX10) (N := 9) hv9 ki_X11_together_X10 rfl (by decide) k_X11_together_205 (fun _ z => z) dX11_together_32 ?_
      obtain ⟨g10, h⟩ := itg h
      obtain ⟨r11, hr11, h⟩ := ob h
      refine m_contI hC hw (m_runV hC hw (x := r2) (ci := 13) (N := 9) (C := RX10) (T := TX10) (n := 1) (av := [.int v9]) (rest := [va_rf this]) (c_X10_bars (G := G) (l := l) hr11) gX11_together_X10_bars rfl (by decide +kernel) ⟨(Nat.le_of_ble_eq_true rfl), (Nat.le_of_ble_eq_true rfl)⟩ g10 rfl rfl hl.1 rfl (by simp [va_rf_cat, cat_i, cat_r, cat_l]) dX11_together_35 ⟨(Nat.zero_le _), (Nat.zero_le _)⟩) (fun H locs hw => ?_)
      refine lv_if_ne (tgt := 53) hx hb dX11_together_38 (by decide) (fun c12 => ?_) (fun c12 => ?_)
      · replace h := itf h c12
        refine lv_iconst (v := (0 : Int32)) hx hb dX11_together_53 (by decide) ?_
        refine lv_goto (tgt := 58) hx hb dX11_together_54 (by decide) ?_
        obtain ⟨g13, h⟩ := itg h
        obtain ⟨r14, hr14, h⟩ := ob h
        refine m_contI hC hw (m_runV hC hw (x := this) (ci := 14) (N := 11) (C := RX11) (T := TX11) (n := 1) (av := [.int (0 : Int32)]) (rest := []) (c_X11_answer (G := G) (l := l) hr14) gX11_together_X11_answer rfl (by decide +kernel) ⟨(Nat.le_of_ble_eq_true rfl), (Nat.le_of_ble_eq_true rfl)⟩ g13 rfl rfl hl.1 rfl (Nat.le_of_ble_eq_true rfl) dX11_together_58 ⟨(Nat.zero_le _), (Nat.zero_le _)⟩) (fun H locs hw => ?_)
        replace h := Option.some.inj h
        subst h
        exact RET hw ⟨(Nat.zero_le _), (Nat.zero_le _)⟩ dX11_together_61
      · replace h := itt h c12
        refine m_aload (x := r4) hx hb dX11_together_41 (lv_at hl 0 rfl) ?_
        refine m_aload_n (x := r2) hx hb dX11_together_43 rfl (lv_at hl 1 rfl) ?_
        obtain ⟨v15, hv15, h⟩ := ob h
        refine m_getI hC hw (C := RX10) (T := TX10) (N := 9) hv15 ki_X11_together_X10 rfl (by decide) k_X11_together_205 (fun _ z => z) dX11_together_44 ?_
        obtain ⟨g16, h⟩ := itg h
        obtain ⟨r17, hr17, h⟩ := ob h
        refine m_contI hC hw (m_runV hC hw (x := r4) (ci := 13) (N := 9) (C := RX10) (T := TX10) (n := 1) (av := [.int v15]) (rest := [va_rf this]) (c_X10_bars (G := G) (l := l) hr17) gX11_together_X10_bars rfl (by decide +kernel) ⟨(Nat.le_of_ble_eq_true rfl), (Nat.le_of_ble_eq_true rfl)⟩ g16 rfl rfl hl.1 rfl (by simp [va_rf_cat, cat_i, cat_r, cat_l]) dX11_together_47 ⟨(Nat.zero_le _), (Nat.zero_le _)⟩) (fun H locs hw => ?_)
        refine lv_if_eq (tgt := 57) hx hb dX11_together_50 (by decide) (fun c18 => ?_) (fun c18 => ?_)
        · replace h := itt h c18
          refine lv_iconst (v := (1 : Int32)) hx hb dX11_together_57 (by decide) ?_
          obtain ⟨g19, h⟩ := itg h
          obtain ⟨r20, hr20, h⟩ := ob h
          refine m_contI hC hw (m_runV hC hw (x := this) (ci := 14) (N := 11) (C := RX11) (T := TX11) (n := 1) (av := [.int (1 : Int32)]) (rest := []) (c_X11_answer (G := G) (l := l) hr20) gX11_together_X11_answer rfl (by decide +kernel) ⟨(Nat.le_of_ble_eq_true rfl), (Nat.le_of_ble_eq_true rfl)⟩ g19 rfl rfl hl.1 rfl (Nat.le_of_ble_eq_true rfl) dX11_together_58 ⟨(Nat.zero_le _), (Nat.zero_le _)⟩) (fun H locs hw => ?_)
          replace h := Option.some.inj h
          subst h
          exact RET hw ⟨(Nat.zero_le _), (Nat.zero_le _)⟩ dX11_together_61
        · replace h := itf h c18
          refine lv_iconst (v := (0 : Int32)) hx hb dX11_together_53 (by decide) ?_
          refine lv_goto (tgt := 58) hx hb dX11_together_54 (by decide) ?_
          obtain ⟨g21, h⟩ := itg h
          obtain ⟨r22, hr22, h⟩ := ob h
          refine m_contI hC hw (m_runV hC hw (x := this) (ci := 14) (N := 11) (C := RX11) (T := TX11) (n := 1) (av := [.int (0 : Int32)]) (rest := []) (c_X11_answer (G := G) (l := l) hr22) gX11_together_X11_answer rfl (by decide +kernel) ⟨(Nat.le_of_ble_eq_true rfl), (Nat.le_of_ble_eq_true rfl)⟩ g21 rfl rfl hl.1 rfl (Nat.le_of_ble_eq_true rfl) dX11_together_58 ⟨(Nat.zero_le _), (Nat.zero_le _)⟩) (fun H locs hw => ?_)
          replace h := Option.some.inj h
          subst h
          exact RET hw ⟨(Nat.zero_le _), (Nat.zero_le _)⟩ dX11_together_61
    · replace h := itt h c8
      refine m_aload_n (x := this) hx hb dX11_together_22 rfl (lv_at hl 2 rfl) ?_
      refine lv_iconst (v := (1 : Int32)) hx hb dX11_together_23 (by decide) ?_
      obtain ⟨g23, h⟩ := itg h
      obtain ⟨r24, hr24, h⟩ := ob h
      refine m_contI hC hw (m_runV hC hw (x := this) (ci := 14) (N := 11) (C := RX11) (T := TX11) (n := 1) (av := [.int (1 : Int32)]) (rest := []) (c_X11_refuse (G := G) (l := l) hr24) gX11_together_X11_refuse rfl (by decide +kernel) ⟨(Nat.le_of_ble_eq_true rfl), (Nat.le_of_ble_eq_true rfl)⟩ g23 rfl rfl hl.1 rfl (Nat.le_of_ble_eq_true rfl) dX11_together_24 ⟨(Nat.zero_le _), (Nat.zero_le _)⟩) (fun H locs hw => ?_)
      replace h := Option.some.inj h
      subst h
      exact RET hw ⟨(Nat.zero_le _), (Nat.zero_le _)⟩ dX11_together_27

def f_X11_where (B : Nat) (M : Mem) (this : Option Nat) (a1 : Int32) (a2 : Int32) : Option (Int32 × Mem) := if isO M this 14 = true then ((f_X11_thingAt M this a1).bind fun r2 => if r2 = none then (if r2 = none then (if isO M this 14 = true then ((f_X11_refuseAsked B M this (0 : Int32)).bind fun r6 => some (r6.1, r6.2)) else none) else (if isO M this 14 = true then ((f_X11_refuseAsked B M this (1 : Int32)).bind fun r8 => some (r8.1, r8.2)) else none)) else ((f_X11_isDay M a2).bind fun r9 => if r9 = 0 then (if r2 = none then (if isO M this 14 = true then ((f_X11_refuseAsked B M this (0 : Int32)).bind fun r18 => some (r18.1, r18.2)) else none) else (if isO M this 14 = true then ((f_X11_refuseAsked B M this (1 : Int32)).bind fun r20 => some (r20.1, r20.2)) else none)) else ((gR M r2 13 4).bind fun v11 => if isO M v11 4 = true then ((f_X1_loanOn M v11 a2).bind fun r13 => if isO M this 14 = true then ((f_X11_answer B M this r13).bind fun r15 => some (r15.1, r15.2)) else none) else none))) else none
def rmX11_where : Room := { frames := 4, cells := 0, slots := 0, locals := 85 }
theorem k_X11_where_211 : Cond.fieldLink RX11 211 "LoanBook$Thing" "calendar" "LLoanBook$Calendar;" ∈ wsX11_where := List.mem_of_getElem? (i := 1) rfl
theorem ki_X11_where_X10 : ∀ w ∈ u_ws RX10 TX10 9, w ∈ wsX11_where := sub_r [58, 59, 60, 61, 62, 63, 64, 65, 66] (by decide +kernel)
set_option maxHeartbeats 4000000 in
set_option maxRecDepth 100000 in
theorem c_X11_where {G : wG} {l : Launch} {M : Mem} {sz : Nat} {this : Option Nat} {a1 : Int32} {a2 : Int32} {r : Int32 × Mem} (h : f_X11_where G.2.2.1 M this a1 a2 = some r) : CtrI G l yX11_where wsX11_where rmX11_where [va_rf this, .int a1, .int a2] M sz r.1 r.2 sz := by
  refine m_startI (own := RX11) (cc := cX11_where) (maxL := 4) (lv0 := [(0, va_rf this), (1, .int a1), (2, .int a2)]) (by decide) rfl rfl (by simp [lg_sl, va_rf_cat, cat_i, cat_r]) (by simp [lv_args, va_rf_cat, cat_i, cat_r]) ?_
  intro p e s m args below meth c Q hC hname RET hsz hw ls hl
  have hx := hC.1
  have hb := hC.2.1
  unfold f_X11_where at h
  refine m_aload_n (x := this) hx hb dX11_where_0 rfl (lv_at hl 0 rfl) ?_
  refine lv_iload_n hx hb dX11_where_1 rfl (lv_at hl 1 rfl) ?_
  obtain ⟨g1, h⟩ := itg h
  obtain ⟨r2, hr2, h⟩ := ob h
  refine m_contQ hC hw (m_runV hC hw (x := this) (ci := 14) (N := 11) (C := RX11) (T := TX11) (n := 1) (av := [.int a1]) (rest := []) (c_X11_thingAt (G := G) (l := l) hr2) gX11_where_X11_thingAt rfl (by decide +kernel) ⟨(Nat.le_of_ble_eq_true rfl), (Nat.le_of_ble_eq_true rfl)⟩ g1 rfl rfl hl.1 rfl (Nat.le_of_ble_eq_true rfl) dX11_where_2 ⟨(Nat.zero_le _), (Nat.zero_le _)⟩) (fun H locs hw => ?_)
  refine m_astore_n (x := r2) (i := 3) (lv' := [(3, va_rf r2), (0, va_rf this), (1, .int a1), (2, .int a2)]) hx hb dX11_where_5 rfl hl (by decide) rfl (fun ls hl => ?_)
  refine m_aload_n (x := r2) hx hb dX11_where_6 rfl (lv_at hl 0 rfl) ?_
  refine m_ifnull (x := r2) (tgt := 17) hx hb dX11_where_7 (by decide) (fun c3 => ?_) (fun c3 => ?_)
  · replace h := itt h c3
    refine m_aload_n (x := this) hx hb dX11_where_17 rfl (lv_at hl 1 rfl) ?_
    refine m_aload_n (x := r2) hx hb dX11_where_18 rfl (lv_at hl 0 rfl) ?_
    refine m_ifnull (x := r2) (tgt := 26) hx hb dX11_where_19 (by decide) (fun c4 => ?_) (fun c4 => ?_)
    · replace h := itt h c4
      refine lv_iconst (v := (0 : Int32)) hx hb dX11_where_26 (by decide) ?_
      obtain ⟨g5, h⟩ := itg h
      obtain ⟨r6, hr6, h⟩ := ob h
      refine m_contI hC hw (m_runV hC hw (x := this) (ci := 14) (N := 11) (C := RX11) (T := TX11) (n := 1) (av := [.int (0 : Int32)]) (rest := []) (c_X11_refuseAsked (G := G) (l := l) hr6) gX11_where_X11_refuseAsked rfl (by decide +kernel) ⟨(Nat.le_of_ble_eq_true rfl), (Nat.le_of_ble_eq_true rfl)⟩ g5 rfl rfl hl.1 rfl (Nat.le_of_ble_eq_true rfl) dX11_where_27 ⟨(Nat.zero_le _), (Nat.zero_le _)⟩) (fun H locs hw => ?_)
      replace h := Option.some.inj h
      subst h
      exact RET hw ⟨(Nat.zero_le _), (Nat.zero_le _)⟩ dX11_where_30
    · replace h := itf h c4
      refine lv_iconst (v := (1 : Int32)) hx hb dX11_where_22 (by decide) ?_
      refine lv_goto (tgt := 27) hx hb dX11_where_23 (by decide) ?_
      obtain ⟨g7, h⟩ := itg h
      obtain ⟨r8, hr8, h⟩ := ob h
      refine m_contI hC hw (m_runV hC hw (x := this) (ci := 14) (N := 11) (C := RX11) (T := TX11) (n := 1) (av := [.int (1 : Int32)]) (rest := []) (c_X11_refuseAsked (G := G) (l := l) hr8) gX11_where_X11_refuseAsked rfl (by decide +kernel) ⟨(Nat.le_of_ble_eq_true rfl), (Nat.le_of_ble_eq_true rfl)⟩ g7 rfl rfl hl.1 rfl (Nat.le_of_ble_eq_true rfl) dX11_where_27 ⟨(Nat.zero_le _), (Nat.zero_le _)⟩) (fun H locs hw => ?_)
      replace h := Option.some.inj h
      subst h
      exact RET hw ⟨(Nat.zero_le _), (Nat.zero_le _)⟩ dX11_where_30
  · replace h := itf h c3
    refine lv_iload_n hx hb dX11_where_10 rfl (lv_at hl 3 rfl) ?_
    obtain ⟨r9, hr9, h⟩ := ob h
    refine m_contI hC hw (m_runS hC hw (n := 1) (av := [.int a2]) (rest := []) (c_X11_isDay (G := G) (l := l) hr9) gX11_where_X11_isDay rfl (by decide +kernel) ⟨(Nat.le_of_ble_eq_true rfl), (Nat.le_of_ble_eq_true rfl)⟩ rfl hl.1 rfl (Nat.le_of_ble_eq_true rfl) dX11_where_11 ⟨(Nat.zero_le _), (Nat.zero_le _)⟩) (fun H locs hw => ?_)
    refine lv_if_ne (tgt := 31) hx hb dX11_where_14 (by decide) (fun c10 => ?_) (fun c10 => ?_)
    · replace h := itf h c10
      refine m_aload_n (x := this) hx hb dX11_where_31 rfl (lv_at hl 1 rfl) ?_
      refine m_aload_n (x := r2) hx hb dX11_where_32 rfl (lv_at hl 0 rfl) ?_
      obtain ⟨v11, hv11, h⟩ := ob h
      refine m_getR hC hw (C := RX10) (T := TX10) (N := 9) hv11 ki_X11_where_X10 rfl (by decide) k_X11_where_211 (fun _ z => z) dX11_where_33 ?_
      refine lv_iload_n hx hb dX11_where_36 rfl (lv_at hl 3 rfl) ?_
      obtain ⟨g12, h⟩ := itg h
      obtain ⟨r13, hr13, h⟩ := ob h
      refine m_contI hC hw (m_runV hC hw (x := v11) (ci := 4) (N := 2) (C := RX1) (T := TX1) (n := 1) (av := [.int a2]) (rest := [va_rf this]) (c_X1_loanOn (G := G) (l := l) hr13) gX11_where_X1_loanOn rfl (by decide +kernel) ⟨(Nat.le_of_ble_eq_true rfl), (Nat.le_of_ble_eq_true rfl)⟩ g12 rfl rfl hl.1 rfl (by simp [va_rf_cat, cat_i, cat_r, cat_l]) dX11_where_37 ⟨(Nat.zero_le _), (Nat.zero_le _)⟩) (fun H locs hw => ?_)
      obtain ⟨g14, h⟩ := itg h
      obtain ⟨r15, hr15, h⟩ := ob h
      refine m_contI hC hw (m_runV hC hw (x := this) (ci := 14) (N := 11) (C := RX11) (T := TX11) (n := 1) (av := [.int r13]) (rest := []) (c_X11_answer (G := G) (l := l) hr15) gX11_where_X11_answer rfl (by decide +kernel) ⟨(Nat.le_of_ble_eq_true rfl), (Nat.le_of_ble_eq_true rfl)⟩ g14 rfl rfl hl.1 rfl (Nat.le_of_ble_eq_true rfl) dX11_where_40 ⟨(Nat.zero_le _), (Nat.zero_le _)⟩) (fun H locs hw => ?_)
      replace h := Option.some.inj h
      subst h
      exact RET hw ⟨(Nat.zero_le _), (Nat.zero_le _)⟩ dX11_where_43
    · replace h := itt h c10
      refine m_aload_n (x := this) hx hb dX11_where_17 rfl (lv_at hl 1 rfl) ?_
      refine m_aload_n (x := r2) hx hb dX11_where_18 rfl (lv_at hl 0 rfl) ?_
      refine m_ifnull (x := r2) (tgt := 26) hx hb dX11_where_19 (by decide) (fun c16 => ?_) (fun c16 => ?_)
      · replace h := itt h c16
        refine lv_iconst (v := (0 : Int32)) hx hb dX11_where_26 (by decide) ?_
        obtain ⟨g17, h⟩ := itg h
        obtain ⟨r18, hr18, h⟩ := ob h
        refine m_contI hC hw (m_runV hC hw (x := this) (ci := 14) (N := 11) (C := RX11) (T := TX11) (n := 1) (av := [.int (0 : Int32)]) (rest := []) (c_X11_refuseAsked (G := G) (l := l) hr18) gX11_where_X11_refuseAsked rfl (by decide +kernel) ⟨(Nat.le_of_ble_eq_true rfl), (Nat.le_of_ble_eq_true rfl)⟩ g17 rfl rfl hl.1 rfl (Nat.le_of_ble_eq_true rfl) dX11_where_27 ⟨(Nat.zero_le _), (Nat.zero_le _)⟩) (fun H locs hw => ?_)
        replace h := Option.some.inj h
        subst h
        exact RET hw ⟨(Nat.zero_le _), (Nat.zero_le _)⟩ dX11_where_30
      · replace h := itf h c16
        refine lv_iconst (v := (1 : Int32)) hx hb dX11_where_22 (by decide) ?_
        refine lv_goto (tgt := 27) hx hb dX11_where_23 (by decide) ?_
        obtain ⟨g19, h⟩ := itg h
        obtain ⟨r20, hr20, h⟩ := ob h
        refine m_contI hC hw (m_runV hC hw (x := this) (ci := 14) (N := 11) (C := RX11) (T := TX11) (n := 1) (av := [.int (1 : Int32)]) (rest := []) (c_X11_refuseAsked (G := G) (l := l) hr20) gX11_where_X11_refuseAsked rfl (by decide +kernel) ⟨(Nat.le_of_ble_eq_true rfl), (Nat.le_of_ble_eq_true rfl)⟩ g19 rfl rfl hl.1 rfl (Nat.le_of_ble_eq_true rfl) dX11_where_27 ⟨(Nat.zero_le _), (Nat.zero_le _)⟩) (fun H locs hw => ?_)
        replace h := Option.some.inj h
        subst h
        exact RET hw ⟨(Nat.zero_le _), (Nat.zero_le _)⟩ dX11_where_30

def f_X11_isLength (M : Mem) (a1 : Int32) : Option (Int32) := if a1 < (1 : Int32) then (some (0 : Int32)) else (if (1000 : Int32) < a1 then (some (0 : Int32)) else (some (1 : Int32)))
def rmX11_isLength : Room := { frames := 0, cells := 0, slots := 0, locals := 0 }
set_option maxHeartbeats 4000000 in
set_option maxRecDepth 100000 in
theorem c_X11_isLength {G : wG} {l : Launch} {M : Mem} {sz : Nat} {a1 : Int32} {r : Int32} (h : f_X11_isLength M a1 = some r) : CtrI G l yX11_isLength wsX11_isLength rmX11_isLength [.int a1] M sz r M sz := by
  refine m_startZ (own := RX11) (cc := cX11_isLength) (maxL := 1) (lv0 := [(0, .int a1)]) (by decide) rfl rfl (by simp [lg_sl, va_rf_cat, cat_i, cat_r]) (by simp [lv_args, va_rf_cat, cat_i, cat_r]) ?_
  intro p e s m args below meth c Q hC hname RET hsz hw ls hl
  have hx := hC.1
  have hb := hC.2.1
  unfold f_X11_isLength at h
  refine lv_iload_n hx hb dX11_isLength_0 rfl (lv_at hl 0 rfl) ?_
  refine lv_iconst (v := (1 : Int32)) hx hb dX11_isLength_1 (by decide) ?_
  refine lv_icmp_lt (tgt := 16) hx hb dX11_isLength_2 (by decide) (fun c1 => ?_) (fun c1 => ?_)
  · replace h := itt h c1
    refine lv_iconst (v := (0 : Int32)) hx hb dX11_isLength_16 (by decide) ?_
    replace h := Option.some.inj h
    subst h
    exact RET (isZ.nar (Or.inl rfl)) hw ⟨(Nat.zero_le _), (Nat.zero_le _)⟩ dX11_isLength_17
  · replace h := itf h c1
    refine lv_iload_n hx hb dX11_isLength_5 rfl (lv_at hl 0 rfl) ?_
    refine lv_sipush (v := (1000 : Int32)) hx hb dX11_isLength_6 (by decide) ?_
    refine lv_icmp_gt (tgt := 16) hx hb dX11_isLength_9 (by decide) (fun c2 => ?_) (fun c2 => ?_)
    · replace h := itt h c2
      refine lv_iconst (v := (0 : Int32)) hx hb dX11_isLength_16 (by decide) ?_
      replace h := Option.some.inj h
      subst h
      exact RET (isZ.nar (Or.inl rfl)) hw ⟨(Nat.zero_le _), (Nat.zero_le _)⟩ dX11_isLength_17
    · replace h := itf h c2
      refine lv_iconst (v := (1 : Int32)) hx hb dX11_isLength_12 (by decide) ?_
      refine lv_goto (tgt := 17) hx hb dX11_isLength_13 (by decide) ?_
      replace h := Option.some.inj h
      subst h
      exact RET (isZ.nar (Or.inr rfl)) hw ⟨(Nat.zero_le _), (Nat.zero_le _)⟩ dX11_isLength_17

def f_X11_free (B : Nat) (n : Nat) (M : Mem) (this : Option Nat) (a1 : Int32) (a2 : Int32) (a3 : Int32) : Option (Int32 × Mem) := if isO M this 14 = true then ((f_X11_thingAt M this a1).bind fun r2 => if r2 = none then (if r2 = none then (if isO M this 14 = true then ((f_X11_refuseAsked B M this (0 : Int32)).bind fun r6 => some (r6.1, r6.2)) else none) else (if isO M this 14 = true then ((f_X11_refuseAsked B M this (1 : Int32)).bind fun r8 => some (r8.1, r8.2)) else none)) else ((f_X11_isDay M a2).bind fun r9 => if r9 = 0 then (if r2 = none then (if isO M this 14 = true then ((f_X11_refuseAsked B M this (0 : Int32)).bind fun r13 => some (r13.1, r13.2)) else none) else (if isO M this 14 = true then ((f_X11_refuseAsked B M this (1 : Int32)).bind fun r15 => some (r15.1, r15.2)) else none)) else ((f_X11_isLength M a3).bind fun r16 => if r16 = 0 then (if r2 = none then (if isO M this 14 = true then ((f_X11_refuseAsked B M this (0 : Int32)).bind fun r25 => some (r25.1, r25.2)) else none) else (if isO M this 14 = true then ((f_X11_refuseAsked B M this (1 : Int32)).bind fun r27 => some (r27.1, r27.2)) else none)) else ((gR M r2 13 4).bind fun v18 => if isO M v18 4 = true then ((f_X1_firstOpen n M v18 a2 a3).bind fun r20 => if isO M this 14 = true then ((f_X11_answer B M this r20).bind fun r22 => some (r22.1, r22.2)) else none) else none)))) else none
def rmX11_free : Room := { frames := 4, cells := 0, slots := 0, locals := 85 }
theorem k_X11_free_211 : Cond.fieldLink RX11 211 "LoanBook$Thing" "calendar" "LLoanBook$Calendar;" ∈ wsX11_free := List.mem_of_getElem? (i := 1) rfl
theorem ki_X11_free_X10 : ∀ w ∈ u_ws RX10 TX10 9, w ∈ wsX11_free := sub_r [61, 62, 63, 64, 65, 66, 67, 68, 69] (by decide +kernel)
set_option maxHeartbeats 4000000 in
set_option maxRecDepth 100000 in
theorem c_X11_free {G : wG} {l : Launch} {n : Nat} {M : Mem} {sz : Nat} {this : Option Nat} {a1 : Int32} {a2 : Int32} {a3 : Int32} {r : Int32 × Mem} (h : f_X11_free G.2.2.1 n M this a1 a2 a3 = some r) : CtrI G l yX11_free wsX11_free rmX11_free [va_rf this, .int a1, .int a2, .int a3] M sz r.1 r.2 sz := by
  refine m_startI (own := RX11) (cc := cX11_free) (maxL := 5) (lv0 := [(0, va_rf this), (1, .int a1), (2, .int a2), (3, .int a3)]) (by decide) rfl rfl (by simp [lg_sl, va_rf_cat, cat_i, cat_r]) (by simp [lv_args, va_rf_cat, cat_i, cat_r]) ?_
  intro p e s m args below meth c Q hC hname RET hsz hw ls hl
  have hx := hC.1
  have hb := hC.2.1
  unfold f_X11_free at h
  refine m_aload_n (x := this) hx hb dX11_free_0 rfl (lv_at hl 0 rfl) ?_
  refine lv_iload_n hx hb dX11_free_1 rfl (lv_at hl 1 rfl) ?_
  obtain ⟨g1, h⟩ := itg h
  obtain ⟨r2, hr2, h⟩ := ob h
  refine m_contQ hC hw (m_runV hC hw (x := this) (ci := 14) (N := 11) (C := RX11) (T := TX11) (n := 1) (av := [.int a1]) (rest := []) (c_X11_thingAt (G := G) (l := l) hr2) gX11_free_X11_thingAt rfl (by decide +kernel) ⟨(Nat.le_of_ble_eq_true rfl), (Nat.le_of_ble_eq_true rfl)⟩ g1 rfl rfl hl.1 rfl (Nat.le_of_ble_eq_true rfl) dX11_free_2 ⟨(Nat.zero_le _), (Nat.zero_le _)⟩) (fun H locs hw => ?_)
  refine m_astore (x := r2) (lv' := [(4, va_rf r2), (0, va_rf this), (1, .int a1), (2, .int a2), (3, .int a3)]) hx hb dX11_free_5 hl (by decide) rfl (fun ls hl => ?_)
  refine m_aload (x := r2) hx hb dX11_free_7 (lv_at hl 0 rfl) ?_
  refine m_ifnull (x := r2) (tgt := 26) hx hb dX11_free_9 (by decide) (fun c3 => ?_) (fun c3 => ?_)
  · replace h := itt h c3
    refine m_aload_n (x := this) hx hb dX11_free_26 rfl (lv_at hl 1 rfl) ?_
    refine m_aload (x := r2) hx hb dX11_free_27 (lv_at hl 0 rfl) ?_
    refine m_ifnull (x := r2) (tgt := 36) hx hb dX11_free_29 (by decide) (fun c4 => ?_) (fun c4 => ?_)
    · replace h := itt h c4
      refine lv_iconst (v := (0 : Int32)) hx hb dX11_free_36 (by decide) ?_
      obtain ⟨g5, h⟩ := itg h
      obtain ⟨r6, hr6, h⟩ := ob h
      refine m_contI hC hw (m_runV hC hw (x := this) (ci := 14) (N := 11) (C := RX11) (T := TX11) (n := 1) (av := [.int (0 : Int32)]) (rest := []) (c_X11_refuseAsked (G := G) (l := l) hr6) gX11_free_X11_refuseAsked rfl (by decide +kernel) ⟨(Nat.le_of_ble_eq_true rfl), (Nat.le_of_ble_eq_true rfl)⟩ g5 rfl rfl hl.1 rfl (Nat.le_of_ble_eq_true rfl) dX11_free_37 ⟨(Nat.zero_le _), (Nat.zero_le _)⟩) (fun H locs hw => ?_)
      replace h := Option.some.inj h
      subst h
      exact RET hw ⟨(Nat.zero_le _), (Nat.zero_le _)⟩ dX11_free_40
    · replace h := itf h c4
      refine lv_iconst (v := (1 : Int32)) hx hb dX11_free_32 (by decide) ?_
      refine lv_goto (tgt := 37) hx hb dX11_free_33 (by decide) ?_
      obtain ⟨g7, h⟩ := itg h
      obtain ⟨r8, hr8, h⟩ := ob h
      refine m_contI hC hw (m_runV hC hw (x := this) (ci := 14) (N := 11) (C := RX11) (T := TX11) (n := 1) (av := [.int (1 : Int32)]) (rest := []) (c_X11_refuseAsked (G := G) (l := l) hr8) gX11_free_X11_refuseAsked rfl (by decide +kernel) ⟨(Nat.le_of_ble_eq_true rfl), (Nat.le_of_ble_eq_true rfl)⟩ g7 rfl rfl hl.1 rfl (Nat.le_of_ble_eq_true rfl) dX11_free_37 ⟨(Nat.zero_le _), (Nat.zero_le _)⟩) (fun H locs hw => ?_)
      replace h := Option.some.inj h
      subst h
      exact RET hw ⟨(Nat.zero_le _), (Nat.zero_le _)⟩ dX11_free_40
  · replace h := itf h c3
    refine lv_iload_n hx hb dX11_free_12 rfl (lv_at hl 3 rfl) ?_
    obtain ⟨r9, hr9, h⟩ := ob h
    refine m_contI hC hw (m_runS hC hw (n := 1) (av := [.int a2]) (rest := []) (c_X11_isDay (G := G) (l := l) hr9) gX11_free_X11_isDay rfl (by decide +kernel) ⟨(Nat.le_of_ble_eq_true rfl), (Nat.le_of_ble_eq_true rfl)⟩ rfl hl.1 rfl (Nat.le_of_ble_eq_true rfl) dX11_free_13 ⟨(Nat.zero_le _), (Nat.zero_le _)⟩) (fun H locs hw => ?_)
    refine lv_if_eq (tgt := 26) hx hb dX11_free_16 (by decide) (fun c10 => ?_) (fun c10 => ?_)
    · replace h := itt h c10
      refine m_aload_n (x := this) hx hb dX11_free_26 rfl (lv_at hl 1 rfl) ?_
      refine m_aload (x := r2) hx hb dX11_free_27 (lv_at hl 0 rfl) ?_
      refine m_ifnull (x := r2) (tgt := 36) hx hb dX11_free_29 (by decide) (fun c11 => ?_) (fun c11 => ?_)
      · replace h := itt h c11
        refine lv_iconst (v := (0 : Int32)) hx hb dX11_free_36 (by decide) ?_
        obtain ⟨g12, h⟩ := itg h
        obtain ⟨r13, hr13, h⟩ := ob h
        refine m_contI hC hw (m_runV hC hw (x := this) (ci := 14) (N := 11) (C := RX11) (T := TX11) (n := 1) (av := [.int (0 : Int32)]) (rest := []) (c_X11_refuseAsked (G := G) (l := l) hr13) gX11_free_X11_refuseAsked rfl (by decide +kernel) ⟨(Nat.le_of_ble_eq_true rfl), (Nat.le_of_ble_eq_true rfl)⟩ g12 rfl rfl hl.1 rfl (Nat.le_of_ble_eq_true rfl) dX11_free_37 ⟨(Nat.zero_le _), (Nat.zero_le _)⟩) (fun H locs hw => ?_)
        replace h := Option.some.inj h
        subst h
        exact RET hw ⟨(Nat.zero_le _), (Nat.zero_le _)⟩ dX11_free_40
      · replace h := itf h c11
        refine lv_iconst (v := (1 : Int32)) hx hb dX11_free_32 (by decide) ?_
        refine lv_goto (tgt := 37) hx hb dX11_free_33 (by decide) ?_
        obtain ⟨g14, h⟩ := itg h
        obtain ⟨r15, hr15, h⟩ := ob h
        refine m_contI hC hw (m_runV hC hw (x := this) (ci := 14) (N := 11) (C := RX11) (T := TX11) (n := 1) (av := [.int (1 : Int32)]) (rest := []) (c_X11_refuseAsked (G := G) (l := l) hr15) gX11_free_X11_refuseAsked rfl (by decide +kernel) ⟨(Nat.le_of_ble_eq_true rfl), (Nat.le_of_ble_eq_true rfl)⟩ g14 rfl rfl hl.1 rfl (Nat.le_of_ble_eq_true rfl) dX11_free_37 ⟨(Nat.zero_le _), (Nat.zero_le _)⟩) (fun H locs hw => ?_)
        replace h := Option.some.inj h
        subst h
        exact RET hw ⟨(Nat.zero_le _), (Nat.zero_le _)⟩ dX11_free_40
    · replace h := itf h c10
      refine lv_iload_n hx hb dX11_free_19 rfl (lv_at hl 4 rfl) ?_
      obtain ⟨r16, hr16, h⟩ := ob h
      refine m_contI hC hw (m_runS hC hw (n := 1) (av := [.int a3]) (rest := []) (c_X11_isLength (G := G) (l := l) hr16) gX11_free_X11_isLength rfl (by decide +kernel) ⟨(Nat.le_of_ble_eq_true rfl), (Nat.le_of_ble_eq_true rfl)⟩ rfl hl.1 rfl (Nat.le_of_ble_eq_true rfl) dX11_free_20 ⟨(Nat.zero_le _), (Nat.zero_le _)⟩) (fun H locs hw => ?_)
      refine lv_if_ne (tgt := 41) hx hb dX11_free_23 (by decide) (fun c17 => ?_) (fun c17 => ?_)
      · replace h := itf h c17
        refine m_aload_n (x := this) hx hb dX11_free_41 rfl (lv_at hl 1 rfl) ?_
        refine m_aload (x := r2) hx hb dX11_free_42 (lv_at hl 0 rfl) ?_
        obtain ⟨v18, hv18, h⟩ := ob h
        refine m_getR hC hw (C := RX10) (T := TX10) (N := 9) hv18 ki_X11_free_X10 rfl (by decide) k_X11_free_211 (fun _ z => z) dX11_free_44 ?_
        refine lv_iload_n hx hb dX11_free_47 rfl (lv_at hl 3 rfl) ?_
        refine lv_iload_n hx hb dX11_free_48 rfl (lv_at hl 4 rfl) ?_
        obtain ⟨g19, h⟩ := itg h
        obtain ⟨r20, hr20, h⟩ := ob h
        refine m_contI hC hw (m_runV hC hw (x := v18) (ci := 4) (N := 2) (C := RX1) (T := TX1) (n := 2) (av := [.int a2, .int a3]) (rest := [va_rf this]) (c_X1_firstOpen (G := G) (l := l) hr20) gX11_free_X1_firstOpen rfl (by decide +kernel) ⟨(Nat.le_of_ble_eq_true rfl), (Nat.le_of_ble_eq_true rfl)⟩ g19 rfl rfl hl.1 rfl (by simp [va_rf_cat, cat_i, cat_r, cat_l]) dX11_free_49 ⟨(Nat.zero_le _), (Nat.zero_le _)⟩) (fun H locs hw => ?_)
        obtain ⟨g21, h⟩ := itg h
        obtain ⟨r22, hr22, h⟩ := ob h
        refine m_contI hC hw (m_runV hC hw (x := this) (ci := 14) (N := 11) (C := RX11) (T := TX11) (n := 1) (av := [.int r20]) (rest := []) (c_X11_answer (G := G) (l := l) hr22) gX11_free_X11_answer rfl (by decide +kernel) ⟨(Nat.le_of_ble_eq_true rfl), (Nat.le_of_ble_eq_true rfl)⟩ g21 rfl rfl hl.1 rfl (Nat.le_of_ble_eq_true rfl) dX11_free_52 ⟨(Nat.zero_le _), (Nat.zero_le _)⟩) (fun H locs hw => ?_)
        replace h := Option.some.inj h
        subst h
        exact RET hw ⟨(Nat.zero_le _), (Nat.zero_le _)⟩ dX11_free_55
      · replace h := itt h c17
        refine m_aload_n (x := this) hx hb dX11_free_26 rfl (lv_at hl 1 rfl) ?_
        refine m_aload (x := r2) hx hb dX11_free_27 (lv_at hl 0 rfl) ?_
        refine m_ifnull (x := r2) (tgt := 36) hx hb dX11_free_29 (by decide) (fun c23 => ?_) (fun c23 => ?_)
        · replace h := itt h c23
          refine lv_iconst (v := (0 : Int32)) hx hb dX11_free_36 (by decide) ?_
          obtain ⟨g24, h⟩ := itg h
          obtain ⟨r25, hr25, h⟩ := ob h
          refine m_contI hC hw (m_runV hC hw (x := this) (ci := 14) (N := 11) (C := RX11) (T := TX11) (n := 1) (av := [.int (0 : Int32)]) (rest := []) (c_X11_refuseAsked (G := G) (l := l) hr25) gX11_free_X11_refuseAsked rfl (by decide +kernel) ⟨(Nat.le_of_ble_eq_true rfl), (Nat.le_of_ble_eq_true rfl)⟩ g24 rfl rfl hl.1 rfl (Nat.le_of_ble_eq_true rfl) dX11_free_37 ⟨(Nat.zero_le _), (Nat.zero_le _)⟩) (fun H locs hw => ?_)
          replace h := Option.some.inj h
          subst h
          exact RET hw ⟨(Nat.zero_le _), (Nat.zero_le _)⟩ dX11_free_40
        · replace h := itf h c23
          refine lv_iconst (v := (1 : Int32)) hx hb dX11_free_32 (by decide) ?_
          refine lv_goto (tgt := 37) hx hb dX11_free_33 (by decide) ?_
          obtain ⟨g26, h⟩ := itg h
          obtain ⟨r27, hr27, h⟩ := ob h
          refine m_contI hC hw (m_runV hC hw (x := this) (ci := 14) (N := 11) (C := RX11) (T := TX11) (n := 1) (av := [.int (1 : Int32)]) (rest := []) (c_X11_refuseAsked (G := G) (l := l) hr27) gX11_free_X11_refuseAsked rfl (by decide +kernel) ⟨(Nat.le_of_ble_eq_true rfl), (Nat.le_of_ble_eq_true rfl)⟩ g26 rfl rfl hl.1 rfl (Nat.le_of_ble_eq_true rfl) dX11_free_37 ⟨(Nat.zero_le _), (Nat.zero_le _)⟩) (fun H locs hw => ?_)
          replace h := Option.some.inj h
          subst h
          exact RET hw ⟨(Nat.zero_le _), (Nat.zero_le _)⟩ dX11_free_40

def f_X11_stage (B : Nat) (M : Mem) (this : Option Nat) (a1 : Int32) (a2 : Int32) : Option (Int32 × Mem) := if isO M this 14 = true then ((f_X11_standingLoanAt M this a1).bind fun r2 => if r2 = none then (if r2 = none then (if isO M this 14 = true then ((f_X11_refuseAsked B M this (0 : Int32)).bind fun r6 => some (r6.1, r6.2)) else none) else (if isO M this 14 = true then ((f_X11_refuseAsked B M this (1 : Int32)).bind fun r8 => some (r8.1, r8.2)) else none)) else ((f_X11_isDay M a2).bind fun r9 => if r9 = 0 then (if r2 = none then (if isO M this 14 = true then ((f_X11_refuseAsked B M this (0 : Int32)).bind fun r17 => some (r17.1, r17.2)) else none) else (if isO M this 14 = true then ((f_X11_refuseAsked B M this (1 : Int32)).bind fun r19 => some (r19.1, r19.2)) else none)) else (if isO M r2 7 = true then ((f_X4_stageOn M r2 a2).bind fun r12 => if isO M this 14 = true then ((f_X11_answer B M this r12).bind fun r14 => some (r14.1, r14.2)) else none) else none))) else none
def rmX11_stage : Room := { frames := 4, cells := 0, slots := 0, locals := 86 }
set_option maxHeartbeats 4000000 in
set_option maxRecDepth 100000 in
theorem c_X11_stage {G : wG} {l : Launch} {M : Mem} {sz : Nat} {this : Option Nat} {a1 : Int32} {a2 : Int32} {r : Int32 × Mem} (h : f_X11_stage G.2.2.1 M this a1 a2 = some r) : CtrI G l yX11_stage wsX11_stage rmX11_stage [va_rf this, .int a1, .int a2] M sz r.1 r.2 sz := by
  refine m_startI (own := RX11) (cc := cX11_stage) (maxL := 4) (lv0 := [(0, va_rf this), (1, .int a1), (2, .int a2)]) (by decide) rfl rfl (by simp [lg_sl, va_rf_cat, cat_i, cat_r]) (by simp [lv_args, va_rf_cat, cat_i, cat_r]) ?_
  intro p e s m args below meth c Q hC hname RET hsz hw ls hl
  have hx := hC.1
  have hb := hC.2.1
  unfold f_X11_stage at h
  refine m_aload_n (x := this) hx hb dX11_stage_0 rfl (lv_at hl 0 rfl) ?_
  refine lv_iload_n hx hb dX11_stage_1 rfl (lv_at hl 1 rfl) ?_
  obtain ⟨g1, h⟩ := itg h
  obtain ⟨r2, hr2, h⟩ := ob h
  refine m_contQ hC hw (m_runV hC hw (x := this) (ci := 14) (N := 11) (C := RX11) (T := TX11) (n := 1) (av := [.int a1]) (rest := []) (c_X11_standingLoanAt (G := G) (l := l) hr2) gX11_stage_X11_standingLoanAt rfl (by decide +kernel) ⟨(Nat.le_of_ble_eq_true rfl), (Nat.le_of_ble_eq_true rfl)⟩ g1 rfl rfl hl.1 rfl (Nat.le_of_ble_eq_true rfl) dX11_stage_2 ⟨(Nat.zero_le _), (Nat.zero_le _)⟩) (fun H locs hw => ?_)
  refine m_astore_n (x := r2) (i := 3) (lv' := [(3, va_rf r2), (0, va_rf this), (1, .int a1), (2, .int a2)]) hx hb dX11_stage_5 rfl hl (by decide) rfl (fun ls hl => ?_)
  refine m_aload_n (x := r2) hx hb dX11_stage_6 rfl (lv_at hl 0 rfl) ?_
  refine m_ifnull (x := r2) (tgt := 17) hx hb dX11_stage_7 (by decide) (fun c3 => ?_) (fun c3 => ?_)
  · replace h := itt h c3
    refine m_aload_n (x := this) hx hb dX11_stage_17 rfl (lv_at hl 1 rfl) ?_
    refine m_aload_n (x := r2) hx hb dX11_stage_18 rfl (lv_at hl 0 rfl) ?_
    refine m_ifnull (x := r2) (tgt := 26) hx hb dX11_stage_19 (by decide) (fun c4 => ?_) (fun c4 => ?_)
    · replace h := itt h c4
      refine lv_iconst (v := (0 : Int32)) hx hb dX11_stage_26 (by decide) ?_
      obtain ⟨g5, h⟩ := itg h
      obtain ⟨r6, hr6, h⟩ := ob h
      refine m_contI hC hw (m_runV hC hw (x := this) (ci := 14) (N := 11) (C := RX11) (T := TX11) (n := 1) (av := [.int (0 : Int32)]) (rest := []) (c_X11_refuseAsked (G := G) (l := l) hr6) gX11_stage_X11_refuseAsked rfl (by decide +kernel) ⟨(Nat.le_of_ble_eq_true rfl), (Nat.le_of_ble_eq_true rfl)⟩ g5 rfl rfl hl.1 rfl (Nat.le_of_ble_eq_true rfl) dX11_stage_27 ⟨(Nat.zero_le _), (Nat.zero_le _)⟩) (fun H locs hw => ?_)
      replace h := Option.some.inj h
      subst h
      exact RET hw ⟨(Nat.zero_le _), (Nat.zero_le _)⟩ dX11_stage_30
    · replace h := itf h c4
      refine lv_iconst (v := (1 : Int32)) hx hb dX11_stage_22 (by decide) ?_
      refine lv_goto (tgt := 27) hx hb dX11_stage_23 (by decide) ?_
      obtain ⟨g7, h⟩ := itg h
      obtain ⟨r8, hr8, h⟩ := ob h
      refine m_contI hC hw (m_runV hC hw (x := this) (ci := 14) (N := 11) (C := RX11) (T := TX11) (n := 1) (av := [.int (1 : Int32)]) (rest := []) (c_X11_refuseAsked (G := G) (l := l) hr8) gX11_stage_X11_refuseAsked rfl (by decide +kernel) ⟨(Nat.le_of_ble_eq_true rfl), (Nat.le_of_ble_eq_true rfl)⟩ g7 rfl rfl hl.1 rfl (Nat.le_of_ble_eq_true rfl) dX11_stage_27 ⟨(Nat.zero_le _), (Nat.zero_le _)⟩) (fun H locs hw => ?_)
      replace h := Option.some.inj h
      subst h
      exact RET hw ⟨(Nat.zero_le _), (Nat.zero_le _)⟩ dX11_stage_30
  · replace h := itf h c3
    refine lv_iload_n hx hb dX11_stage_10 rfl (lv_at hl 3 rfl) ?_
    obtain ⟨r9, hr9, h⟩ := ob h
    refine m_contI hC hw (m_runS hC hw (n := 1) (av := [.int a2]) (rest := []) (c_X11_isDay (G := G) (l := l) hr9) gX11_stage_X11_isDay rfl (by decide +kernel) ⟨(Nat.le_of_ble_eq_true rfl), (Nat.le_of_ble_eq_true rfl)⟩ rfl hl.1 rfl (Nat.le_of_ble_eq_true rfl) dX11_stage_11 ⟨(Nat.zero_le _), (Nat.zero_le _)⟩) (fun H locs hw => ?_)
    refine lv_if_ne (tgt := 31) hx hb dX11_stage_14 (by decide) (fun c10 => ?_) (fun c10 => ?_)
    · replace h := itf h c10
      refine m_aload_n (x := this) hx hb dX11_stage_31 rfl (lv_at hl 1 rfl) ?_
      refine m_aload_n (x := r2) hx hb dX11_stage_32 rfl (lv_at hl 0 rfl) ?_
      refine lv_iload_n hx hb dX11_stage_33 rfl (lv_at hl 3 rfl) ?_
      obtain ⟨g11, h⟩ := itg h
      obtain ⟨r12, hr12, h⟩ := ob h
      refine m_contI hC hw (m_runV hC hw (x := r2) (ci := 7) (N := 5) (C := RX4) (T := TX4) (n := 1) (av := [.int a2]) (rest := [va_rf this]) (c_X4_stageOn (G := G) (l := l) hr12) gX11_stage_X4_stageOn rfl (by decide +kernel) ⟨(Nat.le_of_ble_eq_true rfl), (Nat.le_of_ble_eq_true rfl)⟩ g11 rfl rfl hl.1 rfl (by simp [va_rf_cat, cat_i, cat_r, cat_l]) dX11_stage_34 ⟨(Nat.zero_le _), (Nat.zero_le _)⟩) (fun H locs hw => ?_)
      obtain ⟨g13, h⟩ := itg h
      obtain ⟨r14, hr14, h⟩ := ob h
      refine m_contI hC hw (m_runV hC hw (x := this) (ci := 14) (N := 11) (C := RX11) (T := TX11) (n := 1) (av := [.int r12]) (rest := []) (c_X11_answer (G := G) (l := l) hr14) gX11_stage_X11_answer rfl (by decide +kernel) ⟨(Nat.le_of_ble_eq_true rfl), (Nat.le_of_ble_eq_true rfl)⟩ g13 rfl rfl hl.1 rfl (Nat.le_of_ble_eq_true rfl) dX11_stage_37 ⟨(Nat.zero_le _), (Nat.zero_le _)⟩) (fun H locs hw => ?_)
      replace h := Option.some.inj h
      subst h
      exact RET hw ⟨(Nat.zero_le _), (Nat.zero_le _)⟩ dX11_stage_40
    · replace h := itt h c10
      refine m_aload_n (x := this) hx hb dX11_stage_17 rfl (lv_at hl 1 rfl) ?_
      refine m_aload_n (x := r2) hx hb dX11_stage_18 rfl (lv_at hl 0 rfl) ?_
      refine m_ifnull (x := r2) (tgt := 26) hx hb dX11_stage_19 (by decide) (fun c15 => ?_) (fun c15 => ?_)
      · replace h := itt h c15
        refine lv_iconst (v := (0 : Int32)) hx hb dX11_stage_26 (by decide) ?_
        obtain ⟨g16, h⟩ := itg h
        obtain ⟨r17, hr17, h⟩ := ob h
        refine m_contI hC hw (m_runV hC hw (x := this) (ci := 14) (N := 11) (C := RX11) (T := TX11) (n := 1) (av := [.int (0 : Int32)]) (rest := []) (c_X11_refuseAsked (G := G) (l := l) hr17) gX11_stage_X11_refuseAsked rfl (by decide +kernel) ⟨(Nat.le_of_ble_eq_true rfl), (Nat.le_of_ble_eq_true rfl)⟩ g16 rfl rfl hl.1 rfl (Nat.le_of_ble_eq_true rfl) dX11_stage_27 ⟨(Nat.zero_le _), (Nat.zero_le _)⟩) (fun H locs hw => ?_)
        replace h := Option.some.inj h
        subst h
        exact RET hw ⟨(Nat.zero_le _), (Nat.zero_le _)⟩ dX11_stage_30
      · replace h := itf h c15
        refine lv_iconst (v := (1 : Int32)) hx hb dX11_stage_22 (by decide) ?_
        refine lv_goto (tgt := 27) hx hb dX11_stage_23 (by decide) ?_
        obtain ⟨g18, h⟩ := itg h
        obtain ⟨r19, hr19, h⟩ := ob h
        refine m_contI hC hw (m_runV hC hw (x := this) (ci := 14) (N := 11) (C := RX11) (T := TX11) (n := 1) (av := [.int (1 : Int32)]) (rest := []) (c_X11_refuseAsked (G := G) (l := l) hr19) gX11_stage_X11_refuseAsked rfl (by decide +kernel) ⟨(Nat.le_of_ble_eq_true rfl), (Nat.le_of_ble_eq_true rfl)⟩ g18 rfl rfl hl.1 rfl (Nat.le_of_ble_eq_true rfl) dX11_stage_27 ⟨(Nat.zero_le _), (Nat.zero_le _)⟩) (fun H locs hw => ?_)
        replace h := Option.some.inj h
        subst h
        exact RET hw ⟨(Nat.zero_le _), (Nat.zero_le _)⟩ dX11_stage_30

def f_X11_parcels (B : Nat) (M : Mem) (this : Option Nat) (a1 : Int32) : Option (Int32 × Mem) := if isO M this 14 = true then ((f_X11_standingLoanAt M this a1).bind fun r2 => if r2 = none then (if isO M this 14 = true then ((f_X11_refuse B M this (1 : Int32)).bind fun r10 => some (r10.1, r10.2)) else none) else ((gR M r2 7 2).bind fun v4 => if isO M v4 2 = true then ((f_Jx4a65c_size_8abf5 M v4).bind fun r6 => if isO M this 14 = true then ((f_X11_answer B M this r6).bind fun r8 => some (r8.1, r8.2)) else none) else none)) else none
def rmX11_parcels : Room := { frames := 4, cells := 0, slots := 0, locals := 86 }
theorem k_X11_parcels_230 : Cond.fieldLink RX11 230 "LoanBook$Loan" "parcels" "Ljava/util/ArrayList;" ∈ wsX11_parcels := List.mem_of_getElem? (i := 1) rfl
theorem ki_X11_parcels_X4 : ∀ w ∈ u_ws RX4 TX4 5, w ∈ wsX11_parcels := sub_r [42, 43, 44, 45, 46] (by decide +kernel)
set_option maxHeartbeats 4000000 in
set_option maxRecDepth 100000 in
theorem c_X11_parcels {G : wG} {l : Launch} {M : Mem} {sz : Nat} {this : Option Nat} {a1 : Int32} {r : Int32 × Mem} (h : f_X11_parcels G.2.2.1 M this a1 = some r) : CtrI G l yX11_parcels wsX11_parcels rmX11_parcels [va_rf this, .int a1] M sz r.1 r.2 sz := by
  refine m_startI (own := RX11) (cc := cX11_parcels) (maxL := 3) (lv0 := [(0, va_rf this), (1, .int a1)]) (by decide) rfl rfl (by simp [lg_sl, va_rf_cat, cat_i, cat_r]) (by simp [lv_args, va_rf_cat, cat_i, cat_r]) ?_
  intro p e s m args below meth c Q hC hname RET hsz hw ls hl
  have hx := hC.1
  have hb := hC.2.1
  unfold f_X11_parcels at h
  refine m_aload_n (x := this) hx hb dX11_parcels_0 rfl (lv_at hl 0 rfl) ?_
  refine lv_iload_n hx hb dX11_parcels_1 rfl (lv_at hl 1 rfl) ?_
  obtain ⟨g1, h⟩ := itg h
  obtain ⟨r2, hr2, h⟩ := ob h
  refine m_contQ hC hw (m_runV hC hw (x := this) (ci := 14) (N := 11) (C := RX11) (T := TX11) (n := 1) (av := [.int a1]) (rest := []) (c_X11_standingLoanAt (G := G) (l := l) hr2) gX11_parcels_X11_standingLoanAt rfl (by decide +kernel) ⟨(Nat.le_of_ble_eq_true rfl), (Nat.le_of_ble_eq_true rfl)⟩ g1 rfl rfl hl.1 rfl (Nat.le_of_ble_eq_true rfl) dX11_parcels_2 ⟨(Nat.zero_le _), (Nat.zero_le _)⟩) (fun H locs hw => ?_)
  refine m_astore_n (x := r2) (i := 2) (lv' := [(2, va_rf r2), (0, va_rf this), (1, .int a1)]) hx hb dX11_parcels_5 rfl hl (by decide) rfl (fun ls hl => ?_)
  refine m_aload_n (x := r2) hx hb dX11_parcels_6 rfl (lv_at hl 0 rfl) ?_
  refine m_ifnonnull (x := r2) (tgt := 16) hx hb dX11_parcels_7 (by decide) (fun c3 => ?_) (fun c3 => ?_)
  · replace h := itf h c3
    refine m_aload_n (x := this) hx hb dX11_parcels_16 rfl (lv_at hl 1 rfl) ?_
    refine m_aload_n (x := r2) hx hb dX11_parcels_17 rfl (lv_at hl 0 rfl) ?_
    obtain ⟨v4, hv4, h⟩ := ob h
    refine m_getR hC hw (C := RX4) (T := TX4) (N := 5) hv4 ki_X11_parcels_X4 rfl (by decide) k_X11_parcels_230 (fun _ z => z) dX11_parcels_18 ?_
    obtain ⟨g5, h⟩ := itg h
    obtain ⟨r6, hr6, h⟩ := ob h
    refine m_contI hC hw (m_runV hC hw (x := v4) (ci := 2) (N := 3) (C := RJx4a65c) (T := TJx4a65c) (n := 0) (av := []) (rest := [va_rf this]) (c_Jx4a65c_size_8abf5 (G := G) (l := l) hr6) gX11_parcels_Jx4a65c_size_8abf5 rfl (by decide +kernel) ⟨(Nat.le_of_ble_eq_true rfl), (Nat.le_of_ble_eq_true rfl)⟩ g5 rfl rfl hl.1 rfl (by simp [va_rf_cat, cat_i, cat_r, cat_l]) dX11_parcels_21 ⟨(Nat.zero_le _), (Nat.zero_le _)⟩) (fun H locs hw => ?_)
    obtain ⟨g7, h⟩ := itg h
    obtain ⟨r8, hr8, h⟩ := ob h
    refine m_contI hC hw (m_runV hC hw (x := this) (ci := 14) (N := 11) (C := RX11) (T := TX11) (n := 1) (av := [.int r6]) (rest := []) (c_X11_answer (G := G) (l := l) hr8) gX11_parcels_X11_answer rfl (by decide +kernel) ⟨(Nat.le_of_ble_eq_true rfl), (Nat.le_of_ble_eq_true rfl)⟩ g7 rfl rfl hl.1 rfl (Nat.le_of_ble_eq_true rfl) dX11_parcels_24 ⟨(Nat.zero_le _), (Nat.zero_le _)⟩) (fun H locs hw => ?_)
    replace h := Option.some.inj h
    subst h
    exact RET hw ⟨(Nat.zero_le _), (Nat.zero_le _)⟩ dX11_parcels_27
  · replace h := itt h c3
    refine m_aload_n (x := this) hx hb dX11_parcels_10 rfl (lv_at hl 1 rfl) ?_
    refine lv_iconst (v := (1 : Int32)) hx hb dX11_parcels_11 (by decide) ?_
    obtain ⟨g9, h⟩ := itg h
    obtain ⟨r10, hr10, h⟩ := ob h
    refine m_contI hC hw (m_runV hC hw (x := this) (ci := 14) (N := 11) (C := RX11) (T := TX11) (n := 1) (av := [.int (1 : Int32)]) (rest := []) (c_X11_refuse (G := G) (l := l) hr10) gX11_parcels_X11_refuse rfl (by decide +kernel) ⟨(Nat.le_of_ble_eq_true rfl), (Nat.le_of_ble_eq_true rfl)⟩ g9 rfl rfl hl.1 rfl (Nat.le_of_ble_eq_true rfl) dX11_parcels_12 ⟨(Nat.zero_le _), (Nat.zero_le _)⟩) (fun H locs hw => ?_)
    replace h := Option.some.inj h
    subst h
    exact RET hw ⟨(Nat.zero_le _), (Nat.zero_le _)⟩ dX11_parcels_15

def f_X11_parcel (B : Nat) (n : Nat) (M : Mem) (this : Option Nat) (a1 : Int32) (a2 : Int32) : Option (Int32 × Mem) := if isO M this 14 = true then ((f_X11_standingLoanAt M this a1).bind fun r2 => ((if r2 = none then (some ((-1 : Int32))) else (if isO M r2 7 = true then ((f_X4_parcelWith n M r2 a2).bind fun r6 => some (r6)) else none)) : Option (Int32)).bind fun o7 => if o7 = (-1 : Int32) then (if isO M this 14 = true then ((f_X11_refuse B M this (1 : Int32)).bind fun r12 => some (r12.1, r12.2)) else none) else (if isO M this 14 = true then ((f_X11_answer B M this o7).bind fun r10 => some (r10.1, r10.2)) else none)) else none
def rmX11_parcel : Room := { frames := 5, cells := 0, slots := 0, locals := 108 }
set_option maxHeartbeats 4000000 in
set_option maxRecDepth 100000 in
theorem c_X11_parcel {G : wG} {l : Launch} {n : Nat} {M : Mem} {sz : Nat} {this : Option Nat} {a1 : Int32} {a2 : Int32} {r : Int32 × Mem} (h : f_X11_parcel G.2.2.1 n M this a1 a2 = some r) : CtrI G l yX11_parcel wsX11_parcel rmX11_parcel [va_rf this, .int a1, .int a2] M sz r.1 r.2 sz := by
  refine m_startI (own := RX11) (cc := cX11_parcel) (maxL := 5) (lv0 := [(0, va_rf this), (1, .int a1), (2, .int a2)]) (by decide) rfl rfl (by simp [lg_sl, va_rf_cat, cat_i, cat_r]) (by simp [lv_args, va_rf_cat, cat_i, cat_r]) ?_
  intro p e s m args below meth c Q hC hname RET hsz hw ls hl
  have hx := hC.1
  have hb := hC.2.1
  unfold f_X11_parcel at h
  refine m_aload_n (x := this) hx hb dX11_parcel_0 rfl (lv_at hl 0 rfl) ?_
  refine lv_iload_n hx hb dX11_parcel_1 rfl (lv_at hl 1 rfl) ?_
  obtain ⟨g1, h⟩ := itg h
  obtain ⟨r2, hr2, h⟩ := ob h
  refine m_contQ hC hw (m_runV hC hw (x := this) (ci := 14) (N := 11) (C := RX11) (T := TX11) (n := 1) (av := [.int a1]) (rest := []) (c_X11_standingLoanAt (G := G) (l := l) hr2) gX11_parcel_X11_standingLoanAt rfl (by decide +kernel) ⟨(Nat.le_of_ble_eq_true rfl), (Nat.le_of_ble_eq_true rfl)⟩ g1 rfl rfl hl.1 rfl (Nat.le_of_ble_eq_true rfl) dX11_parcel_2 ⟨(Nat.zero_le _), (Nat.zero_le _)⟩) (fun H locs hw => ?_)
  refine m_astore_n (x := r2) (i := 3) (lv' := [(3, va_rf r2), (0, va_rf this), (1, .int a1), (2, .int a2)]) hx hb dX11_parcel_5 rfl hl (by decide) rfl (fun ls hl => ?_)
  refine m_aload_n (x := r2) hx hb dX11_parcel_6 rfl (lv_at hl 0 rfl) ?_
  obtain ⟨o7, ho7, h⟩ := ob h
  have J3 : ∀ (H : Heap) (locs : List Loc) (ls : Array Slot), wD G s M M sz H locs → lv_has ls 5 [(0, va_rf this)] → W p l e rmX11_parcel s m args below meth c H locs 0 0 Q (F0 m 19 ls [.int o7]) := by
    intro H locs ls hw hl
    refine lv_istore (lv' := [(4, .int o7), (0, va_rf this)]) hx hb dX11_parcel_19 hl (by decide) rfl (fun ls hl => ?_)
    refine lv_iload hx hb dX11_parcel_21 (lv_at hl 0 rfl) ?_
    refine lv_iconst (v := (-1 : Int32)) hx hb dX11_parcel_23 (by decide) ?_
    refine lv_icmp_ne (tgt := 33) hx hb dX11_parcel_24 (by decide) (fun c8 => ?_) (fun c8 => ?_)
    · replace h := itf h c8
      refine m_aload_n (x := this) hx hb dX11_parcel_33 rfl (lv_at hl 1 rfl) ?_
      refine lv_iload hx hb dX11_parcel_34 (lv_at hl 0 rfl) ?_
      obtain ⟨g9, h⟩ := itg h
      obtain ⟨r10, hr10, h⟩ := ob h
      refine m_contI hC hw (m_runV hC hw (x := this) (ci := 14) (N := 11) (C := RX11) (T := TX11) (n := 1) (av := [.int o7]) (rest := []) (c_X11_answer (G := G) (l := l) hr10) gX11_parcel_X11_answer rfl (by decide +kernel) ⟨(Nat.le_of_ble_eq_true rfl), (Nat.le_of_ble_eq_true rfl)⟩ g9 rfl rfl hl.1 rfl (Nat.le_of_ble_eq_true rfl) dX11_parcel_36 ⟨(Nat.zero_le _), (Nat.zero_le _)⟩) (fun H locs hw => ?_)
      replace h := Option.some.inj h
      subst h
      exact RET hw ⟨(Nat.zero_le _), (Nat.zero_le _)⟩ dX11_parcel_39
    · replace h := itt h c8
      refine m_aload_n (x := this) hx hb dX11_parcel_27 rfl (lv_at hl 1 rfl) ?_
      refine lv_iconst (v := (1 : Int32)) hx hb dX11_parcel_28 (by decide) ?_
      obtain ⟨g11, h⟩ := itg h
      obtain ⟨r12, hr12, h⟩ := ob h
      refine m_contI hC hw (m_runV hC hw (x := this) (ci := 14) (N := 11) (C := RX11) (T := TX11) (n := 1) (av := [.int (1 : Int32)]) (rest := []) (c_X11_refuse (G := G) (l := l) hr12) gX11_parcel_X11_refuse rfl (by decide +kernel) ⟨(Nat.le_of_ble_eq_true rfl), (Nat.le_of_ble_eq_true rfl)⟩ g11 rfl rfl hl.1 rfl (Nat.le_of_ble_eq_true rfl) dX11_parcel_29 ⟨(Nat.zero_le _), (Nat.zero_le _)⟩) (fun H locs hw => ?_)
      replace h := Option.some.inj h
      subst h
      exact RET hw ⟨(Nat.zero_le _), (Nat.zero_le _)⟩ dX11_parcel_32
  clear h
  replace h := ho7
  refine m_ifnonnull (x := r2) (tgt := 14) hx hb dX11_parcel_7 (by decide) (fun c4 => ?_) (fun c4 => ?_)
  · replace h := itf h c4
    refine m_aload_n (x := r2) hx hb dX11_parcel_14 rfl (lv_at hl 0 rfl) ?_
    refine lv_iload_n hx hb dX11_parcel_15 rfl (lv_at hl 3 rfl) ?_
    obtain ⟨g5, h⟩ := itg h
    obtain ⟨r6, hr6, h⟩ := ob h
    refine m_contI hC hw (m_runV hC hw (x := r2) (ci := 7) (N := 5) (C := RX4) (T := TX4) (n := 1) (av := [.int a2]) (rest := []) (c_X4_parcelWith (G := G) (l := l) hr6) gX11_parcel_X4_parcelWith rfl (by decide +kernel) ⟨(Nat.le_of_ble_eq_true rfl), (Nat.le_of_ble_eq_true rfl)⟩ g5 rfl rfl hl.1 rfl (Nat.le_of_ble_eq_true rfl) dX11_parcel_16 ⟨(Nat.zero_le _), (Nat.zero_le _)⟩) (fun H locs hw => ?_)
    replace h := Option.some.inj h
    subst h
    exact J3 _ _ _ hw (lv_sub hl [1] rfl)
  · replace h := itt h c4
    refine lv_iconst (v := (-1 : Int32)) hx hb dX11_parcel_10 (by decide) ?_
    refine lv_goto (tgt := 19) hx hb dX11_parcel_11 (by decide) ?_
    replace h := Option.some.inj h
    subst h
    exact J3 _ _ _ hw (lv_sub hl [1] rfl)

def f_X11_weight (B : Nat) (M : Mem) (this : Option Nat) (a1 : Int32) (a2 : Int32) : Option (Int32 × Mem) := if isO M this 14 = true then ((f_X11_standingLoanAt M this a1).bind fun r2 => ((if r2 = none then (some (none)) else (if isO M r2 7 = true then ((f_X4_parcelAt M r2 a2).bind fun r6 => some (r6)) else none)) : Option (Option Nat)).bind fun o7 => if o7 = none then (if isO M this 14 = true then ((f_X11_refuse B M this (1 : Int32)).bind fun r13 => some (r13.1, r13.2)) else none) else ((gI M o7 8 0).bind fun v9 => if isO M this 14 = true then ((f_X11_answer B M this v9).bind fun r11 => some (r11.1, r11.2)) else none)) else none
def rmX11_weight : Room := { frames := 4, cells := 0, slots := 0, locals := 86 }
theorem k_X11_weight_240 : Cond.fieldLink RX11 240 "LoanBook$Parcel" "weighs" "I" ∈ wsX11_weight := List.mem_of_getElem? (i := 1) rfl
theorem ki_X11_weight_X5 : ∀ w ∈ u_ws RX5 TX5 4, w ∈ wsX11_weight := sub_r [51, 52, 53, 54] (by decide +kernel)
set_option maxHeartbeats 4000000 in
set_option maxRecDepth 100000 in
theorem c_X11_weight {G : wG} {l : Launch} {M : Mem} {sz : Nat} {this : Option Nat} {a1 : Int32} {a2 : Int32} {r : Int32 × Mem} (h : f_X11_weight G.2.2.1 M this a1 a2 = some r) : CtrI G l yX11_weight wsX11_weight rmX11_weight [va_rf this, .int a1, .int a2] M sz r.1 r.2 sz := by
  refine m_startI (own := RX11) (cc := cX11_weight) (maxL := 5) (lv0 := [(0, va_rf this), (1, .int a1), (2, .int a2)]) (by decide) rfl rfl (by simp [lg_sl, va_rf_cat, cat_i, cat_r]) (by simp [lv_args, va_rf_cat, cat_i, cat_r]) ?_
  intro p e s m args below meth c Q hC hname RET hsz hw ls hl
  have hx := hC.1
  have hb := hC.2.1
  unfold f_X11_weight at h
  refine m_aload_n (x := this) hx hb dX11_weight_0 rfl (lv_at hl 0 rfl) ?_
  refine lv_iload_n hx hb dX11_weight_1 rfl (lv_at hl 1 rfl) ?_
  obtain ⟨g1, h⟩ := itg h
  obtain ⟨r2, hr2, h⟩ := ob h
  refine m_contQ hC hw (m_runV hC hw (x := this) (ci := 14) (N := 11) (C := RX11) (T := TX11) (n := 1) (av := [.int a1]) (rest := []) (c_X11_standingLoanAt (G := G) (l := l) hr2) gX11_weight_X11_standingLoanAt rfl (by decide +kernel) ⟨(Nat.le_of_ble_eq_true rfl), (Nat.le_of_ble_eq_true rfl)⟩ g1 rfl rfl hl.1 rfl (Nat.le_of_ble_eq_true rfl) dX11_weight_2 ⟨(Nat.zero_le _), (Nat.zero_le _)⟩) (fun H locs hw => ?_)
  refine m_astore_n (x := r2) (i := 3) (lv' := [(3, va_rf r2), (0, va_rf this), (1, .int a1), (2, .int a2)]) hx hb dX11_weight_5 rfl hl (by decide) rfl (fun ls hl => ?_)
  refine m_aload_n (x := r2) hx hb dX11_weight_6 rfl (lv_at hl 0 rfl) ?_
  obtain ⟨o7, ho7, h⟩ := ob h
  have J3 : ∀ (H : Heap) (locs : List Loc) (ls : Array Slot), wD G s M M sz H locs → lv_has ls 5 [(0, va_rf this)] → W p l e rmX11_weight s m args below meth c H locs 0 0 Q (F0 m 19 ls [va_rf o7]) := by
    intro H locs ls hw hl
    refine m_astore (x := o7) (lv' := [(4, va_rf o7), (0, va_rf this)]) hx hb dX11_weight_19 hl (by decide) rfl (fun ls hl => ?_)
    refine m_aload (x := o7) hx hb dX11_weight_21 (lv_at hl 0 rfl) ?_
    refine m_ifnonnull (x := o7) (tgt := 32) hx hb dX11_weight_23 (by decide) (fun c8 => ?_) (fun c8 => ?_)
    · replace h := itf h c8
      refine m_aload_n (x := this) hx hb dX11_weight_32 rfl (lv_at hl 1 rfl) ?_
      refine m_aload (x := o7) hx hb dX11_weight_33 (lv_at hl 0 rfl) ?_
      obtain ⟨v9, hv9, h⟩ := ob h
      refine m_getI hC hw (C := RX5) (T := TX5) (N := 4) hv9 ki_X11_weight_X5 rfl (by decide) k_X11_weight_240 (fun _ z => z) dX11_weight_35 ?_
      obtain ⟨g10, h⟩ := itg h
      obtain ⟨r11, hr11, h⟩ := ob h
      refine m_contI hC hw (m_runV hC hw (x := this) (ci := 14) (N := 11) (C := RX11) (T := TX11) (n := 1) (av := [.int v9]) (rest := []) (c_X11_answer (G := G) (l := l) hr11) gX11_weight_X11_answer rfl (by decide +kernel) ⟨(Nat.le_of_ble_eq_true rfl), (Nat.le_of_ble_eq_true rfl)⟩ g10 rfl rfl hl.1 rfl (Nat.le_of_ble_eq_true rfl) dX11_weight_38 ⟨(Nat.zero_le _), (Nat.zero_le _)⟩) (fun H locs hw => ?_)
      replace h := Option.some.inj h
      subst h
      exact RET hw ⟨(Nat.zero_le _), (Nat.zero_le _)⟩ dX11_weight_41
    · replace h := itt h c8
      refine m_aload_n (x := this) hx hb dX11_weight_26 rfl (lv_at hl 1 rfl) ?_
      refine lv_iconst (v := (1 : Int32)) hx hb dX11_weight_27 (by decide) ?_
      obtain ⟨g12, h⟩ := itg h
      obtain ⟨r13, hr13, h⟩ := ob h
      refine m_contI hC hw (m_runV hC hw (x := this) (ci := 14) (N := 11) (C := RX11) (T := TX11) (n := 1) (av := [.int (1 : Int32)]) (rest := []) (c_X11_refuse (G := G) (l := l) hr13) gX11_weight_X11_refuse rfl (by decide +kernel) ⟨(Nat.le_of_ble_eq_true rfl), (Nat.le_of_ble_eq_true rfl)⟩ g12 rfl rfl hl.1 rfl (Nat.le_of_ble_eq_true rfl) dX11_weight_28 ⟨(Nat.zero_le _), (Nat.zero_le _)⟩) (fun H locs hw => ?_)
      replace h := Option.some.inj h
      subst h
      exact RET hw ⟨(Nat.zero_le _), (Nat.zero_le _)⟩ dX11_weight_31
  clear h
  replace h := ho7
  refine m_ifnonnull (x := r2) (tgt := 14) hx hb dX11_weight_7 (by decide) (fun c4 => ?_) (fun c4 => ?_)
  · replace h := itf h c4
    refine m_aload_n (x := r2) hx hb dX11_weight_14 rfl (lv_at hl 0 rfl) ?_
    refine lv_iload_n hx hb dX11_weight_15 rfl (lv_at hl 3 rfl) ?_
    obtain ⟨g5, h⟩ := itg h
    obtain ⟨r6, hr6, h⟩ := ob h
    refine m_contQ hC hw (m_runV hC hw (x := r2) (ci := 7) (N := 5) (C := RX4) (T := TX4) (n := 1) (av := [.int a2]) (rest := []) (c_X4_parcelAt (G := G) (l := l) hr6) gX11_weight_X4_parcelAt rfl (by decide +kernel) ⟨(Nat.le_of_ble_eq_true rfl), (Nat.le_of_ble_eq_true rfl)⟩ g5 rfl rfl hl.1 rfl (Nat.le_of_ble_eq_true rfl) dX11_weight_16 ⟨(Nat.zero_le _), (Nat.zero_le _)⟩) (fun H locs hw => ?_)
    replace h := Option.some.inj h
    subst h
    exact J3 _ _ _ hw (lv_sub hl [1] rfl)
  · replace h := itt h c4
    refine lv_null hx hb dX11_weight_10 ?_
    refine lv_goto (tgt := 19) hx hb dX11_weight_11 (by decide) ?_
    replace h := Option.some.inj h
    subst h
    exact J3 _ _ _ hw (lv_sub hl [1] rfl)

def f_X11_guard (B : Nat) (M : Mem) (this : Option Nat) (a1 : Int32) (a2 : Int32) (a3 : Int32) : Option (Int32 × Mem) := if isO M this 14 = true then ((f_X11_standingLoanAt M this a1).bind fun r2 => ((if r2 = none then (some (none)) else (if isO M r2 7 = true then ((f_X4_parcelAt M r2 a2).bind fun r6 => some (r6)) else none)) : Option (Option Nat)).bind fun o7 => if o7 = none then (if o7 = none then (if isO M this 14 = true then ((f_X11_refuseAsked B M this (0 : Int32)).bind fun r11 => some (r11.1, r11.2)) else none) else (if isO M this 14 = true then ((f_X11_refuseAsked B M this (1 : Int32)).bind fun r13 => some (r13.1, r13.2)) else none)) else (if a3 = 0 then (if isO M o7 8 = true then ((f_X5_courierOn M o7 a3).bind fun r16 => if isO M this 14 = true then ((f_X11_answer B M this r16).bind fun r18 => some (r18.1, r18.2)) else none) else none) else (if a3 = (1 : Int32) then (if isO M o7 8 = true then ((f_X5_courierOn M o7 a3).bind fun r21 => if isO M this 14 = true then ((f_X11_answer B M this r21).bind fun r23 => some (r23.1, r23.2)) else none) else none) else (if o7 = none then (if isO M this 14 = true then ((f_X11_refuseAsked B M this (0 : Int32)).bind fun r26 => some (r26.1, r26.2)) else none) else (if isO M this 14 = true then ((f_X11_refuseAsked B M this (1 : Int32)).bind fun r28 => some (r28.1, r28.2)) else none))))) else none
def rmX11_guard : Room := { frames := 4, cells := 0, slots := 0, locals := 86 }
set_option maxHeartbeats 4000000 in
set_option maxRecDepth 100000 in
theorem c_X11_guard {G : wG} {l : Launch} {M : Mem} {sz : Nat} {this : Option Nat} {a1 : Int32} {a2 : Int32} {a3 : Int32} {r : Int32 × Mem} (h : f_X11_guard G.2.2.1 M this a1 a2 a3 = some r) : CtrI G l yX11_guard wsX11_guard rmX11_guard [va_rf this, .int a1, .int a2, .int a3] M sz r.1 r.2 sz := by
  refine m_startI (own := RX11) (cc := cX11_guard) (maxL := 6) (lv0 := [(0, va_rf this), (1, .int a1), (2, .int a2), (3, .int a3)]) (by decide) rfl rfl (by simp [lg_sl, va_rf_cat, cat_i, cat_r]) (by simp [lv_args, va_rf_cat, cat_i, cat_r]) ?_
  intro p e s m args below meth c Q hC hname RET hsz hw ls hl
  have hx := hC.1
  have hb := hC.2.1
  unfold f_X11_guard at h
  refine m_aload_n (x := this) hx hb dX11_guard_0 rfl (lv_at hl 0 rfl) ?_
  refine lv_iload_n hx hb dX11_guard_1 rfl (lv_at hl 1 rfl) ?_
  obtain ⟨g1, h⟩ := itg h
  obtain ⟨r2, hr2, h⟩ := ob h
  refine m_contQ hC hw (m_runV hC hw (x := this) (ci := 14) (N := 11) (C := RX11) (T := TX11) (n := 1) (av := [.int a1]) (rest := []) (c_X11_standingLoanAt (G := G) (l := l) hr2) gX11_guard_X11_standingLoanAt rfl (by decide +kernel) ⟨(Nat.le_of_ble_eq_true rfl), (Nat.le_of_ble_eq_true rfl)⟩ g1 rfl rfl hl.1 rfl (Nat.le_of_ble_eq_true rfl) dX11_guard_2 ⟨(Nat.zero_le _), (Nat.zero_le _)⟩) (fun H locs hw => ?_)
  refine m_astore (x := r2) (lv' := [(4, va_rf r2), (0, va_rf this), (1, .int a1), (2, .int a2), (3, .int a3)]) hx hb dX11_guard_5 hl (by decide) rfl (fun ls hl => ?_)
  refine m_aload (x := r2) hx hb dX11_guard_7 (lv_at hl 0 rfl) ?_
  obtain ⟨o7, ho7, h⟩ := ob h
  have J3 : ∀ (H : Heap) (locs : List Loc) (ls : Array Slot), wD G s M M sz H locs → lv_has ls 6 [(0, va_rf this), (3, .int a3)] → W p l e rmX11_guard s m args below meth c H locs 0 0 Q (F0 m 22 ls [va_rf o7]) := by
    intro H locs ls hw hl
    refine m_astore (x := o7) (lv' := [(5, va_rf o7), (0, va_rf this), (3, .int a3)]) hx hb dX11_guard_22 hl (by decide) rfl (fun ls hl => ?_)
    refine m_aload (x := o7) hx hb dX11_guard_24 (lv_at hl 0 rfl) ?_
    refine m_ifnull (x := o7) (tgt := 38) hx hb dX11_guard_26 (by decide) (fun c8 => ?_) (fun c8 => ?_)
    · replace h := itt h c8
      refine m_aload_n (x := this) hx hb dX11_guard_38 rfl (lv_at hl 1 rfl) ?_
      refine m_aload (x := o7) hx hb dX11_guard_39 (lv_at hl 0 rfl) ?_
      refine m_ifnull (x := o7) (tgt := 48) hx hb dX11_guard_41 (by decide) (fun c9 => ?_) (fun c9 => ?_)
      · replace h := itt h c9
        refine lv_iconst (v := (0 : Int32)) hx hb dX11_guard_48 (by decide) ?_
        obtain ⟨g10, h⟩ := itg h
        obtain ⟨r11, hr11, h⟩ := ob h
        refine m_contI hC hw (m_runV hC hw (x := this) (ci := 14) (N := 11) (C := RX11) (T := TX11) (n := 1) (av := [.int (0 : Int32)]) (rest := []) (c_X11_refuseAsked (G := G) (l := l) hr11) gX11_guard_X11_refuseAsked rfl (by decide +kernel) ⟨(Nat.le_of_ble_eq_true rfl), (Nat.le_of_ble_eq_true rfl)⟩ g10 rfl rfl hl.1 rfl (Nat.le_of_ble_eq_true rfl) dX11_guard_49 ⟨(Nat.zero_le _), (Nat.zero_le _)⟩) (fun H locs hw => ?_)
        replace h := Option.some.inj h
        subst h
        exact RET hw ⟨(Nat.zero_le _), (Nat.zero_le _)⟩ dX11_guard_52
      · replace h := itf h c9
        refine lv_iconst (v := (1 : Int32)) hx hb dX11_guard_44 (by decide) ?_
        refine lv_goto (tgt := 49) hx hb dX11_guard_45 (by decide) ?_
        obtain ⟨g12, h⟩ := itg h
        obtain ⟨r13, hr13, h⟩ := ob h
        refine m_contI hC hw (m_runV hC hw (x := this) (ci := 14) (N := 11) (C := RX11) (T := TX11) (n := 1) (av := [.int (1 : Int32)]) (rest := []) (c_X11_refuseAsked (G := G) (l := l) hr13) gX11_guard_X11_refuseAsked rfl (by decide +kernel) ⟨(Nat.le_of_ble_eq_true rfl), (Nat.le_of_ble_eq_true rfl)⟩ g12 rfl rfl hl.1 rfl (Nat.le_of_ble_eq_true rfl) dX11_guard_49 ⟨(Nat.zero_le _), (Nat.zero_le _)⟩) (fun H locs hw => ?_)
        replace h := Option.some.inj h
        subst h
        exact RET hw ⟨(Nat.zero_le _), (Nat.zero_le _)⟩ dX11_guard_52
    · replace h := itf h c8
      refine lv_iload_n hx hb dX11_guard_29 rfl (lv_at hl 2 rfl) ?_
      refine lv_if_eq (tgt := 53) hx hb dX11_guard_30 (by decide) (fun c14 => ?_) (fun c14 => ?_)
      · replace h := itt h c14
        refine m_aload_n (x := this) hx hb dX11_guard_53 rfl (lv_at hl 1 rfl) ?_
        refine m_aload (x := o7) hx hb dX11_guard_54 (lv_at hl 0 rfl) ?_
        refine lv_iload_n hx hb dX11_guard_56 rfl (lv_at hl 2 rfl) ?_
        obtain ⟨g15, h⟩ := itg h
        obtain ⟨r16, hr16, h⟩ := ob h
        refine m_contI hC hw (m_runV hC hw (x := o7) (ci := 8) (N := 4) (C := RX5) (T := TX5) (n := 1) (av := [.int a3]) (rest := [va_rf this]) (c_X5_courierOn (G := G) (l := l) hr16) gX11_guard_X5_courierOn rfl (by decide +kernel) ⟨(Nat.le_of_ble_eq_true rfl), (Nat.le_of_ble_eq_true rfl)⟩ g15 rfl rfl hl.1 rfl (by simp [va_rf_cat, cat_i, cat_r, cat_l]) dX11_guard_57 ⟨(Nat.zero_le _), (Nat.zero_le _)⟩) (fun H locs hw => ?_)
        obtain ⟨g17, h⟩ := itg h
        obtain ⟨r18, hr18, h⟩ := ob h
        refine m_contI hC hw (m_runV hC hw (x := this) (ci := 14) (N := 11) (C := RX11) (T := TX11) (n := 1) (av := [.int r16]) (rest := []) (c_X11_answer (G := G) (l := l) hr18) gX11_guard_X11_answer rfl (by decide +kernel) ⟨(Nat.le_of_ble_eq_true rfl), (Nat.le_of_ble_eq_true rfl)⟩ g17 rfl rfl hl.1 rfl (Nat.le_of_ble_eq_true rfl) dX11_guard_60 ⟨(Nat.zero_le _), (Nat.zero_le _)⟩) (fun H locs hw => ?_)
        replace h := Option.some.inj h
        subst h
        exact RET hw ⟨(Nat.zero_le _), (Nat.zero_le _)⟩ dX11_guard_63
      · replace h := itf h c14
        refine lv_iload_n hx hb dX11_guard_33 rfl (lv_at hl 2 rfl) ?_
        refine lv_iconst (v := (1 : Int32)) hx hb dX11_guard_34 (by decide) ?_
        refine lv_icmp_eq (tgt := 53) hx hb dX11_guard_35 (by decide) (fun c19 => ?_) (fun c19 => ?_)
        · replace h := itt h c19
          refine m_aload_n (x := this) hx hb dX11_guard_53 rfl (lv_at hl 1 rfl) ?_
          refine m_aload (x := o7) hx hb dX11_guard_54 (lv_at hl 0 rfl) ?_
          refine lv_iload_n hx hb dX11_guard_56 rfl (lv_at hl 2 rfl) ?_
          obtain ⟨g20, h⟩ := itg h
          obtain ⟨r21, hr21, h⟩ := ob h
          refine m_contI hC hw (m_runV hC hw (x := o7) (ci := 8) (N := 4) (C := RX5) (T := TX5) (n := 1) (av := [.int a3]) (rest := [va_rf this]) (c_X5_courierOn (G := G) (l := l) hr21) gX11_guard_X5_courierOn rfl (by decide +kernel) ⟨(Nat.le_of_ble_eq_true rfl), (Nat.le_of_ble_eq_true rfl)⟩ g20 rfl rfl hl.1 rfl (by simp [va_rf_cat, cat_i, cat_r, cat_l]) dX11_guard_57 ⟨(Nat.zero_le _), (Nat.zero_le _)⟩) (fun H locs hw => ?_)
          obtain ⟨g22, h⟩ := itg h
          obtain ⟨r23, hr23, h⟩ := ob h
          refine m_contI hC hw (m_runV hC hw (x := this) (ci := 14) (N := 11) (C := RX11) (T := TX11) (n := 1) (av := [.int r21]) (rest := []) (c_X11_answer (G := G) (l := l) hr23) gX11_guard_X11_answer rfl (by decide +kernel) ⟨(Nat.le_of_ble_eq_true rfl), (Nat.le_of_ble_eq_true rfl)⟩ g22 rfl rfl hl.1 rfl (Nat.le_of_ble_eq_true rfl) dX11_guard_60 ⟨(Nat.zero_le _), (Nat.zero_le _)⟩) (fun H locs hw => ?_)
          replace h := Option.some.inj h
          subst h
          exact RET hw ⟨(Nat.zero_le _), (Nat.zero_le _)⟩ dX11_guard_63
        · replace h := itf h c19
          refine m_aload_n (x := this) hx hb dX11_guard_38 rfl (lv_at hl 1 rfl) ?_
          refine m_aload (x := o7) hx hb dX11_guard_39 (lv_at hl 0 rfl) ?_
          refine m_ifnull (x := o7) (tgt := 48) hx hb dX11_guard_41 (by decide) (fun c24 => ?_) (fun c24 => ?_)
          · replace h := itt h c24
            refine lv_iconst (v := (0 : Int32)) hx hb dX11_guard_48 (by decide) ?_
            obtain ⟨g25, h⟩ := itg h
            obtain ⟨r26, hr26, h⟩ := ob h
            refine m_contI hC hw (m_runV hC hw (x := this) (ci := 14) (N := 11) (C := RX11) (T := TX11) (n := 1) (av := [.int (0 : Int32)]) (rest := []) (c_X11_refuseAsked (G := G) (l := l) hr26) gX11_guard_X11_refuseAsked rfl (by decide +kernel) ⟨(Nat.le_of_ble_eq_true rfl), (Nat.le_of_ble_eq_true rfl)⟩ g25 rfl rfl hl.1 rfl (Nat.le_of_ble_eq_true rfl) dX11_guard_49 ⟨(Nat.zero_le _), (Nat.zero_le _)⟩) (fun H locs hw => ?_)
            replace h := Option.some.inj h
            subst h
            exact RET hw ⟨(Nat.zero_le _), (Nat.zero_le _)⟩ dX11_guard_52
          · replace h := itf h c24
            refine lv_iconst (v := (1 : Int32)) hx hb dX11_guard_44 (by decide) ?_
            refine lv_goto (tgt := 49) hx hb dX11_guard_45 (by decide) ?_
            obtain ⟨g27, h⟩ := itg h
            obtain ⟨r28, hr28, h⟩ := ob h
            refine m_contI hC hw (m_runV hC hw (x := this) (ci := 14) (N := 11) (C := RX11) (T := TX11) (n := 1) (av := [.int (1 : Int32)]) (rest := []) (c_X11_refuseAsked (G := G) (l := l) hr28) gX11_guard_X11_refuseAsked rfl (by decide +kernel) ⟨(Nat.le_of_ble_eq_true rfl), (Nat.le_of_ble_eq_true rfl)⟩ g27 rfl rfl hl.1 rfl (Nat.le_of_ble_eq_true rfl) dX11_guard_49 ⟨(Nat.zero_le _), (Nat.zero_le _)⟩) (fun H locs hw => ?_)
            replace h := Option.some.inj h
            subst h
            exact RET hw ⟨(Nat.zero_le _), (Nat.zero_le _)⟩ dX11_guard_52
  clear h
  replace h := ho7
  refine m_ifnonnull (x := r2) (tgt := 16) hx hb dX11_guard_9 (by decide) (fun c4 => ?_) (fun c4 => ?_)
  · replace h := itf h c4
    refine m_aload (x := r2) hx hb dX11_guard_16 (lv_at hl 0 rfl) ?_
    refine lv_iload_n hx hb dX11_guard_18 rfl (lv_at hl 3 rfl) ?_
    obtain ⟨g5, h⟩ := itg h
    obtain ⟨r6, hr6, h⟩ := ob h
    refine m_contQ hC hw (m_runV hC hw (x := r2) (ci := 7) (N := 5) (C := RX4) (T := TX4) (n := 1) (av := [.int a2]) (rest := []) (c_X4_parcelAt (G := G) (l := l) hr6) gX11_guard_X4_parcelAt rfl (by decide +kernel) ⟨(Nat.le_of_ble_eq_true rfl), (Nat.le_of_ble_eq_true rfl)⟩ g5 rfl rfl hl.1 rfl (Nat.le_of_ble_eq_true rfl) dX11_guard_19 ⟨(Nat.zero_le _), (Nat.zero_le _)⟩) (fun H locs hw => ?_)
    replace h := Option.some.inj h
    subst h
    exact J3 _ _ _ hw (lv_sub hl [1, 4] rfl)
  · replace h := itt h c4
    refine lv_null hx hb dX11_guard_12 ?_
    refine lv_goto (tgt := 22) hx hb dX11_guard_13 (by decide) ?_
    replace h := Option.some.inj h
    subst h
    exact J3 _ _ _ hw (lv_sub hl [1, 4] rfl)

def f_X11_courierAt (M : Mem) (this : Option Nat) (a1 : Int32) : Option (Option Nat) := if a1 < 0 then (some (none)) else ((gR M this 14 4).bind fun v2 => if isO M v2 2 = true then ((f_Jx4a65c_size_8abf5 M v2).bind fun r4 => if r4 ≤ a1 then (some (none)) else ((gR M this 14 4).bind fun v6 => if isO M v6 2 = true then ((f_Jx4a65c_get_915e3 M v6 a1).bind fun r8 => if r8 = none ∨ isO M r8 5 = true then (some (r8)) else none) else none)) else none)
def rmX11_courierAt : Room := { frames := 3, cells := 0, slots := 0, locals := 64 }
theorem k_X11_courierAt_33 : Cond.fieldLink RX11 33 "LoanBook" "couriers" "Ljava/util/ArrayList;" ∈ wsX11_courierAt := List.mem_of_getElem? (i := 1) rfl
theorem ki_X11_courierAt_X11 : ∀ w ∈ u_ws RX11 TX11 11, w ∈ wsX11_courierAt := sub_r [26, 27, 28, 29, 30, 31, 32, 33, 34, 35, 36] (by decide +kernel)
theorem k_X11_courierAt_cc115 : Cond.classLink RX11 115 RX2 ∈ wsX11_courierAt := List.mem_of_getElem? (i := 2) rfl
set_option maxHeartbeats 4000000 in
set_option maxRecDepth 100000 in
theorem c_X11_courierAt {G : wG} {l : Launch} {M : Mem} {sz : Nat} {this : Option Nat} {a1 : Int32} {r : Option Nat} (h : f_X11_courierAt M this a1 = some r) : CtrQ G l yX11_courierAt wsX11_courierAt rmX11_courierAt [va_rf this, .int a1] M sz r M sz := by
  refine m_startQ (own := RX11) (cc := cX11_courierAt) (maxL := 2) (lv0 := [(0, va_rf this), (1, .int a1)]) (by decide) rfl rfl (by simp [lg_sl, va_rf_cat, cat_i, cat_r]) (by simp [lv_args, va_rf_cat, cat_i, cat_r]) (Or.inl ⟨_, rfl⟩) ?_
  intro p e s m args below meth c Q hC hname RET hsz hw ls hl
  have hx := hC.1
  have hb := hC.2.1
  unfold f_X11_courierAt at h
  refine lv_iload_n hx hb dX11_courierAt_0 rfl (lv_at hl 1 rfl) ?_
  refine lv_if_lt (tgt := 29) hx hb dX11_courierAt_1 (by decide) (fun c1 => ?_) (fun c1 => ?_)
  · replace h := itt h c1
    refine lv_null hx hb dX11_courierAt_29 ?_
    replace h := Option.some.inj h
    subst h
    exact RET hw ⟨(Nat.zero_le _), (Nat.zero_le _)⟩ dX11_courierAt_30
  · replace h := itf h c1
    refine lv_iload_n hx hb dX11_courierAt_4 rfl (lv_at hl 1 rfl) ?_
    refine m_aload_n (x := this) hx hb dX11_courierAt_5 rfl (lv_at hl 0 rfl) ?_
    obtain ⟨v2, hv2, h⟩ := ob h
    refine m_getR hC hw (C := RX11) (T := TX11) (N := 11) hv2 ki_X11_courierAt_X11 rfl (by decide) k_X11_courierAt_33 (fun _ z => z) dX11_courierAt_6 ?_
    obtain ⟨g3, h⟩ := itg h
    obtain ⟨r4, hr4, h⟩ := ob h
    refine m_contI hC hw (m_runV hC hw (x := v2) (ci := 2) (N := 3) (C := RJx4a65c) (T := TJx4a65c) (n := 0) (av := []) (rest := [.int a1]) (c_Jx4a65c_size_8abf5 (G := G) (l := l) hr4) gX11_courierAt_Jx4a65c_size_8abf5 rfl (by decide +kernel) ⟨(Nat.le_of_ble_eq_true rfl), (Nat.le_of_ble_eq_true rfl)⟩ g3 rfl rfl hl.1 rfl (Nat.le_of_ble_eq_true rfl) dX11_courierAt_9 ⟨(Nat.zero_le _), (Nat.zero_le _)⟩) (fun H locs hw => ?_)
    refine lv_icmp_ge (tgt := 29) hx hb dX11_courierAt_12 (by decide) (fun c5 => ?_) (fun c5 => ?_)
    · replace h := itt h c5
      refine lv_null hx hb dX11_courierAt_29 ?_
      replace h := Option.some.inj h
      subst h
      exact RET hw ⟨(Nat.zero_le _), (Nat.zero_le _)⟩ dX11_courierAt_30
    · replace h := itf h c5
      refine m_aload_n (x := this) hx hb dX11_courierAt_15 rfl (lv_at hl 0 rfl) ?_
      obtain ⟨v6, hv6, h⟩ := ob h
      refine m_getR hC hw (C := RX11) (T := TX11) (N := 11) hv6 ki_X11_courierAt_X11 rfl (by decide) k_X11_courierAt_33 (fun _ z => z) dX11_courierAt_16 ?_
      refine lv_iload_n hx hb dX11_courierAt_19 rfl (lv_at hl 1 rfl) ?_
      obtain ⟨g7, h⟩ := itg h
      obtain ⟨r8, hr8, h⟩ := ob h
      refine m_contQ hC hw (m_runV hC hw (x := v6) (ci := 2) (N := 3) (C := RJx4a65c) (T := TJx4a65c) (n := 1) (av := [.int a1]) (rest := []) (c_Jx4a65c_get_915e3 (G := G) (l := l) hr8) gX11_courierAt_Jx4a65c_get_915e3 rfl (by decide +kernel) ⟨(Nat.le_of_ble_eq_true rfl), (Nat.le_of_ble_eq_true rfl)⟩ g7 rfl rfl hl.1 rfl (Nat.le_of_ble_eq_true rfl) dX11_courierAt_20 ⟨(Nat.zero_le _), (Nat.zero_le _)⟩) (fun H locs hw => ?_)
      obtain ⟨g9, h⟩ := itg h
      refine m_cast (x := r8) hC hw (C := RX2) (T := TX2) (N := 3) g9 k_X11_courierAt_cc115 rfl dX11_courierAt_23 ?_
      refine lv_goto (tgt := 30) hx hb dX11_courierAt_26 (by decide) ?_
      replace h := Option.some.inj h
      subst h
      exact RET hw ⟨(Nat.zero_le _), (Nat.zero_le _)⟩ dX11_courierAt_30

def f_X11_busy (B : Nat) (M : Mem) (this : Option Nat) (a1 : Int32) : Option (Int32 × Mem) := if isO M this 14 = true then ((f_X11_courierAt M this a1).bind fun r2 => if r2 = none then (if isO M this 14 = true then ((f_X11_refuse B M this (1 : Int32)).bind fun r10 => some (r10.1, r10.2)) else none) else ((gR M r2 5 2).bind fun v4 => if isO M v4 4 = true then ((f_X1_daysTaken M v4).bind fun r6 => if isO M this 14 = true then ((f_X11_answer B M this r6).bind fun r8 => some (r8.1, r8.2)) else none) else none)) else none
def rmX11_busy : Room := { frames := 4, cells := 0, slots := 0, locals := 85 }
theorem k_X11_busy_252 : Cond.fieldLink RX11 252 "LoanBook$Courier" "calendar" "LLoanBook$Calendar;" ∈ wsX11_busy := List.mem_of_getElem? (i := 1) rfl
theorem ki_X11_busy_X2 : ∀ w ∈ u_ws RX2 TX2 3, w ∈ wsX11_busy := sub_r [47, 48, 49] (by decide +kernel)
set_option maxHeartbeats 4000000 in
set_option maxRecDepth 100000 in
theorem c_X11_busy {G : wG} {l : Launch} {M : Mem} {sz : Nat} {this : Option Nat} {a1 : Int32} {r : Int32 × Mem} (h : f_X11_busy G.2.2.1 M this a1 = some r) : CtrI G l yX11_busy wsX11_busy rmX11_busy [va_rf this, .int a1] M sz r.1 r.2 sz := by
  refine m_startI (own := RX11) (cc := cX11_busy) (maxL := 3) (lv0 := [(0, va_rf this), (1, .int a1)]) (by decide) rfl rfl (by simp [lg_sl, va_rf_cat, cat_i, cat_r]) (by simp [lv_args, va_rf_cat, cat_i, cat_r]) ?_
  intro p e s m args below meth c Q hC hname RET hsz hw ls hl
  have hx := hC.1
  have hb := hC.2.1
  unfold f_X11_busy at h
  refine m_aload_n (x := this) hx hb dX11_busy_0 rfl (lv_at hl 0 rfl) ?_
  refine lv_iload_n hx hb dX11_busy_1 rfl (lv_at hl 1 rfl) ?_
  obtain ⟨g1, h⟩ := itg h
  obtain ⟨r2, hr2, h⟩ := ob h
  refine m_contQ hC hw (m_runV hC hw (x := this) (ci := 14) (N := 11) (C := RX11) (T := TX11) (n := 1) (av := [.int a1]) (rest := []) (c_X11_courierAt (G := G) (l := l) hr2) gX11_busy_X11_courierAt rfl (by decide +kernel) ⟨(Nat.le_of_ble_eq_true rfl), (Nat.le_of_ble_eq_true rfl)⟩ g1 rfl rfl hl.1 rfl (Nat.le_of_ble_eq_true rfl) dX11_busy_2 ⟨(Nat.zero_le _), (Nat.zero_le _)⟩) (fun H locs hw => ?_)
  refine m_astore_n (x := r2) (i := 2) (lv' := [(2, va_rf r2), (0, va_rf this), (1, .int a1)]) hx hb dX11_busy_5 rfl hl (by decide) rfl (fun ls hl => ?_)
  refine m_aload_n (x := r2) hx hb dX11_busy_6 rfl (lv_at hl 0 rfl) ?_
  refine m_ifnonnull (x := r2) (tgt := 16) hx hb dX11_busy_7 (by decide) (fun c3 => ?_) (fun c3 => ?_)
  · replace h := itf h c3
    refine m_aload_n (x := this) hx hb dX11_busy_16 rfl (lv_at hl 1 rfl) ?_
    refine m_aload_n (x := r2) hx hb dX11_busy_17 rfl (lv_at hl 0 rfl) ?_
    obtain ⟨v4, hv4, h⟩ := ob h
    refine m_getR hC hw (C := RX2) (T := TX2) (N := 3) hv4 ki_X11_busy_X2 rfl (by decide) k_X11_busy_252 (fun _ z => z) dX11_busy_18 ?_
    obtain ⟨g5, h⟩ := itg h
    obtain ⟨r6, hr6, h⟩ := ob h
    refine m_contI hC hw (m_runV hC hw (x := v4) (ci := 4) (N := 2) (C := RX1) (T := TX1) (n := 0) (av := []) (rest := [va_rf this]) (c_X1_daysTaken (G := G) (l := l) hr6) gX11_busy_X1_daysTaken rfl (by decide +kernel) ⟨(Nat.le_of_ble_eq_true rfl), (Nat.le_of_ble_eq_true rfl)⟩ g5 rfl rfl hl.1 rfl (by simp [va_rf_cat, cat_i, cat_r, cat_l]) dX11_busy_21 ⟨(Nat.zero_le _), (Nat.zero_le _)⟩) (fun H locs hw => ?_)
    obtain ⟨g7, h⟩ := itg h
    obtain ⟨r8, hr8, h⟩ := ob h
    refine m_contI hC hw (m_runV hC hw (x := this) (ci := 14) (N := 11) (C := RX11) (T := TX11) (n := 1) (av := [.int r6]) (rest := []) (c_X11_answer (G := G) (l := l) hr8) gX11_busy_X11_answer rfl (by decide +kernel) ⟨(Nat.le_of_ble_eq_true rfl), (Nat.le_of_ble_eq_true rfl)⟩ g7 rfl rfl hl.1 rfl (Nat.le_of_ble_eq_true rfl) dX11_busy_24 ⟨(Nat.zero_le _), (Nat.zero_le _)⟩) (fun H locs hw => ?_)
    replace h := Option.some.inj h
    subst h
    exact RET hw ⟨(Nat.zero_le _), (Nat.zero_le _)⟩ dX11_busy_27
  · replace h := itt h c3
    refine m_aload_n (x := this) hx hb dX11_busy_10 rfl (lv_at hl 1 rfl) ?_
    refine lv_iconst (v := (1 : Int32)) hx hb dX11_busy_11 (by decide) ?_
    obtain ⟨g9, h⟩ := itg h
    obtain ⟨r10, hr10, h⟩ := ob h
    refine m_contI hC hw (m_runV hC hw (x := this) (ci := 14) (N := 11) (C := RX11) (T := TX11) (n := 1) (av := [.int (1 : Int32)]) (rest := []) (c_X11_refuse (G := G) (l := l) hr10) gX11_busy_X11_refuse rfl (by decide +kernel) ⟨(Nat.le_of_ble_eq_true rfl), (Nat.le_of_ble_eq_true rfl)⟩ g9 rfl rfl hl.1 rfl (Nat.le_of_ble_eq_true rfl) dX11_busy_12 ⟨(Nat.zero_le _), (Nat.zero_le _)⟩) (fun H locs hw => ?_)
    replace h := Option.some.inj h
    subst h
    exact RET hw ⟨(Nat.zero_le _), (Nat.zero_le _)⟩ dX11_busy_15

def f_X11_with (B : Nat) (M : Mem) (this : Option Nat) (a1 : Int32) (a2 : Int32) : Option (Int32 × Mem) := if isO M this 14 = true then ((f_X11_courierAt M this a1).bind fun r2 => if r2 = none then (if r2 = none then (if isO M this 14 = true then ((f_X11_refuseAsked B M this (0 : Int32)).bind fun r6 => some (r6.1, r6.2)) else none) else (if isO M this 14 = true then ((f_X11_refuseAsked B M this (1 : Int32)).bind fun r8 => some (r8.1, r8.2)) else none)) else ((f_X11_isDay M a2).bind fun r9 => if r9 = 0 then (if r2 = none then (if isO M this 14 = true then ((f_X11_refuseAsked B M this (0 : Int32)).bind fun r18 => some (r18.1, r18.2)) else none) else (if isO M this 14 = true then ((f_X11_refuseAsked B M this (1 : Int32)).bind fun r20 => some (r20.1, r20.2)) else none)) else ((gR M r2 5 2).bind fun v11 => if isO M v11 4 = true then ((f_X1_loanOn M v11 a2).bind fun r13 => if isO M this 14 = true then ((f_X11_answer B M this r13).bind fun r15 => some (r15.1, r15.2)) else none) else none))) else none
def rmX11_with : Room := { frames := 4, cells := 0, slots := 0, locals := 85 }
theorem k_X11_with_252 : Cond.fieldLink RX11 252 "LoanBook$Courier" "calendar" "LLoanBook$Calendar;" ∈ wsX11_with := List.mem_of_getElem? (i := 1) rfl
theorem ki_X11_with_X2 : ∀ w ∈ u_ws RX2 TX2 3, w ∈ wsX11_with := sub_r [58, 59, 60] (by decide +kernel)
set_option maxHeartbeats 4000000 in
set_option maxRecDepth 100000 in
theorem c_X11_with {G : wG} {l : Launch} {M : Mem} {sz : Nat} {this : Option Nat} {a1 : Int32} {a2 : Int32} {r : Int32 × Mem} (h : f_X11_with G.2.2.1 M this a1 a2 = some r) : CtrI G l yX11_with wsX11_with rmX11_with [va_rf this, .int a1, .int a2] M sz r.1 r.2 sz := by
  refine m_startI (own := RX11) (cc := cX11_with) (maxL := 4) (lv0 := [(0, va_rf this), (1, .int a1), (2, .int a2)]) (by decide) rfl rfl (by simp [lg_sl, va_rf_cat, cat_i, cat_r]) (by simp [lv_args, va_rf_cat, cat_i, cat_r]) ?_
  intro p e s m args below meth c Q hC hname RET hsz hw ls hl
  have hx := hC.1
  have hb := hC.2.1
  unfold f_X11_with at h
  refine m_aload_n (x := this) hx hb dX11_with_0 rfl (lv_at hl 0 rfl) ?_
  refine lv_iload_n hx hb dX11_with_1 rfl (lv_at hl 1 rfl) ?_
  obtain ⟨g1, h⟩ := itg h
  obtain ⟨r2, hr2, h⟩ := ob h
  refine m_contQ hC hw (m_runV hC hw (x := this) (ci := 14) (N := 11) (C := RX11) (T := TX11) (n := 1) (av := [.int a1]) (rest := []) (c_X11_courierAt (G := G) (l := l) hr2) gX11_with_X11_courierAt rfl (by decide +kernel) ⟨(Nat.le_of_ble_eq_true rfl), (Nat.le_of_ble_eq_true rfl)⟩ g1 rfl rfl hl.1 rfl (Nat.le_of_ble_eq_true rfl) dX11_with_2 ⟨(Nat.zero_le _), (Nat.zero_le _)⟩) (fun H locs hw => ?_)
  refine m_astore_n (x := r2) (i := 3) (lv' := [(3, va_rf r2), (0, va_rf this), (1, .int a1), (2, .int a2)]) hx hb dX11_with_5 rfl hl (by decide) rfl (fun ls hl => ?_)
  refine m_aload_n (x := r2) hx hb dX11_with_6 rfl (lv_at hl 0 rfl) ?_
  refine m_ifnull (x := r2) (tgt := 17) hx hb dX11_with_7 (by decide) (fun c3 => ?_) (fun c3 => ?_)
  · replace h := itt h c3
    refine m_aload_n (x := this) hx hb dX11_with_17 rfl (lv_at hl 1 rfl) ?_
    refine m_aload_n (x := r2) hx hb dX11_with_18 rfl (lv_at hl 0 rfl) ?_
    refine m_ifnull (x := r2) (tgt := 26) hx hb dX11_with_19 (by decide) (fun c4 => ?_) (fun c4 => ?_)
    · replace h := itt h c4
      refine lv_iconst (v := (0 : Int32)) hx hb dX11_with_26 (by decide) ?_
      obtain ⟨g5, h⟩ := itg h
      obtain ⟨r6, hr6, h⟩ := ob h
      refine m_contI hC hw (m_runV hC hw (x := this) (ci := 14) (N := 11) (C := RX11) (T := TX11) (n := 1) (av := [.int (0 : Int32)]) (rest := []) (c_X11_refuseAsked (G := G) (l := l) hr6) gX11_with_X11_refuseAsked rfl (by decide +kernel) ⟨(Nat.le_of_ble_eq_true rfl), (Nat.le_of_ble_eq_true rfl)⟩ g5 rfl rfl hl.1 rfl (Nat.le_of_ble_eq_true rfl) dX11_with_27 ⟨(Nat.zero_le _), (Nat.zero_le _)⟩) (fun H locs hw => ?_)
      replace h := Option.some.inj h
      subst h
      exact RET hw ⟨(Nat.zero_le _), (Nat.zero_le _)⟩ dX11_with_30
    · replace h := itf h c4
      refine lv_iconst (v := (1 : Int32)) hx hb dX11_with_22 (by decide) ?_
      refine lv_goto (tgt := 27) hx hb dX11_with_23 (by decide) ?_
      obtain ⟨g7, h⟩ := itg h
      obtain ⟨r8, hr8, h⟩ := ob h
      refine m_contI hC hw (m_runV hC hw (x := this) (ci := 14) (N := 11) (C := RX11) (T := TX11) (n := 1) (av := [.int (1 : Int32)]) (rest := []) (c_X11_refuseAsked (G := G) (l := l) hr8) gX11_with_X11_refuseAsked rfl (by decide +kernel) ⟨(Nat.le_of_ble_eq_true rfl), (Nat.le_of_ble_eq_true rfl)⟩ g7 rfl rfl hl.1 rfl (Nat.le_of_ble_eq_true rfl) dX11_with_27 ⟨(Nat.zero_le _), (Nat.zero_le _)⟩) (fun H locs hw => ?_)
      replace h := Option.some.inj h
      subst h
      exact RET hw ⟨(Nat.zero_le _), (Nat.zero_le _)⟩ dX11_with_30
  · replace h := itf h c3
    refine lv_iload_n hx hb dX11_with_10 rfl (lv_at hl 3 rfl) ?_
    obtain ⟨r9, hr9, h⟩ := ob h
    refine m_contI hC hw (m_runS hC hw (n := 1) (av := [.int a2]) (rest := []) (c_X11_isDay (G := G) (l := l) hr9) gX11_with_X11_isDay rfl (by decide +kernel) ⟨(Nat.le_of_ble_eq_true rfl), (Nat.le_of_ble_eq_true rfl)⟩ rfl hl.1 rfl (Nat.le_of_ble_eq_true rfl) dX11_with_11 ⟨(Nat.zero_le _), (Nat.zero_le _)⟩) (fun H locs hw => ?_)
    refine lv_if_ne (tgt := 31) hx hb dX11_with_14 (by decide) (fun c10 => ?_) (fun c10 => ?_)
    · replace h := itf h c10
      refine m_aload_n (x := this) hx hb dX11_with_31 rfl (lv_at hl 1 rfl) ?_
      refine m_aload_n (x := r2) hx hb dX11_with_32 rfl (lv_at hl 0 rfl) ?_
      obtain ⟨v11, hv11, h⟩ := ob h
      refine m_getR hC hw (C := RX2) (T := TX2) (N := 3) hv11 ki_X11_with_X2 rfl (by decide) k_X11_with_252 (fun _ z => z) dX11_with_33 ?_
      refine lv_iload_n hx hb dX11_with_36 rfl (lv_at hl 3 rfl) ?_
      obtain ⟨g12, h⟩ := itg h
      obtain ⟨r13, hr13, h⟩ := ob h
      refine m_contI hC hw (m_runV hC hw (x := v11) (ci := 4) (N := 2) (C := RX1) (T := TX1) (n := 1) (av := [.int a2]) (rest := [va_rf this]) (c_X1_loanOn (G := G) (l := l) hr13) gX11_with_X1_loanOn rfl (by decide +kernel) ⟨(Nat.le_of_ble_eq_true rfl), (Nat.le_of_ble_eq_true rfl)⟩ g12 rfl rfl hl.1 rfl (by simp [va_rf_cat, cat_i, cat_r, cat_l]) dX11_with_37 ⟨(Nat.zero_le _), (Nat.zero_le _)⟩) (fun H locs hw => ?_)
      obtain ⟨g14, h⟩ := itg h
      obtain ⟨r15, hr15, h⟩ := ob h
      refine m_contI hC hw (m_runV hC hw (x := this) (ci := 14) (N := 11) (C := RX11) (T := TX11) (n := 1) (av := [.int r13]) (rest := []) (c_X11_answer (G := G) (l := l) hr15) gX11_with_X11_answer rfl (by decide +kernel) ⟨(Nat.le_of_ble_eq_true rfl), (Nat.le_of_ble_eq_true rfl)⟩ g14 rfl rfl hl.1 rfl (Nat.le_of_ble_eq_true rfl) dX11_with_40 ⟨(Nat.zero_le _), (Nat.zero_le _)⟩) (fun H locs hw => ?_)
      replace h := Option.some.inj h
      subst h
      exact RET hw ⟨(Nat.zero_le _), (Nat.zero_le _)⟩ dX11_with_43
    · replace h := itt h c10
      refine m_aload_n (x := this) hx hb dX11_with_17 rfl (lv_at hl 1 rfl) ?_
      refine m_aload_n (x := r2) hx hb dX11_with_18 rfl (lv_at hl 0 rfl) ?_
      refine m_ifnull (x := r2) (tgt := 26) hx hb dX11_with_19 (by decide) (fun c16 => ?_) (fun c16 => ?_)
      · replace h := itt h c16
        refine lv_iconst (v := (0 : Int32)) hx hb dX11_with_26 (by decide) ?_
        obtain ⟨g17, h⟩ := itg h
        obtain ⟨r18, hr18, h⟩ := ob h
        refine m_contI hC hw (m_runV hC hw (x := this) (ci := 14) (N := 11) (C := RX11) (T := TX11) (n := 1) (av := [.int (0 : Int32)]) (rest := []) (c_X11_refuseAsked (G := G) (l := l) hr18) gX11_with_X11_refuseAsked rfl (by decide +kernel) ⟨(Nat.le_of_ble_eq_true rfl), (Nat.le_of_ble_eq_true rfl)⟩ g17 rfl rfl hl.1 rfl (Nat.le_of_ble_eq_true rfl) dX11_with_27 ⟨(Nat.zero_le _), (Nat.zero_le _)⟩) (fun H locs hw => ?_)
        replace h := Option.some.inj h
        subst h
        exact RET hw ⟨(Nat.zero_le _), (Nat.zero_le _)⟩ dX11_with_30
      · replace h := itf h c16
        refine lv_iconst (v := (1 : Int32)) hx hb dX11_with_22 (by decide) ?_
        refine lv_goto (tgt := 27) hx hb dX11_with_23 (by decide) ?_
        obtain ⟨g19, h⟩ := itg h
        obtain ⟨r20, hr20, h⟩ := ob h
        refine m_contI hC hw (m_runV hC hw (x := this) (ci := 14) (N := 11) (C := RX11) (T := TX11) (n := 1) (av := [.int (1 : Int32)]) (rest := []) (c_X11_refuseAsked (G := G) (l := l) hr20) gX11_with_X11_refuseAsked rfl (by decide +kernel) ⟨(Nat.le_of_ble_eq_true rfl), (Nat.le_of_ble_eq_true rfl)⟩ g19 rfl rfl hl.1 rfl (Nat.le_of_ble_eq_true rfl) dX11_with_27 ⟨(Nat.zero_le _), (Nat.zero_le _)⟩) (fun H locs hw => ?_)
        replace h := Option.some.inj h
        subst h
        exact RET hw ⟨(Nat.zero_le _), (Nat.zero_le _)⟩ dX11_with_30

def f_X11_ready (B : Nat) (n : Nat) (M : Mem) (this : Option Nat) (a1 : Int32) (a2 : Int32) (a3 : Int32) : Option (Int32 × Mem) := if isO M this 14 = true then ((f_X11_courierAt M this a1).bind fun r2 => if r2 = none then (if r2 = none then (if isO M this 14 = true then ((f_X11_refuseAsked B M this (0 : Int32)).bind fun r6 => some (r6.1, r6.2)) else none) else (if isO M this 14 = true then ((f_X11_refuseAsked B M this (1 : Int32)).bind fun r8 => some (r8.1, r8.2)) else none)) else ((f_X11_isDay M a2).bind fun r9 => if r9 = 0 then (if r2 = none then (if isO M this 14 = true then ((f_X11_refuseAsked B M this (0 : Int32)).bind fun r13 => some (r13.1, r13.2)) else none) else (if isO M this 14 = true then ((f_X11_refuseAsked B M this (1 : Int32)).bind fun r15 => some (r15.1, r15.2)) else none)) else ((f_X11_isLength M a3).bind fun r16 => if r16 = 0 then (if r2 = none then (if isO M this 14 = true then ((f_X11_refuseAsked B M this (0 : Int32)).bind fun r25 => some (r25.1, r25.2)) else none) else (if isO M this 14 = true then ((f_X11_refuseAsked B M this (1 : Int32)).bind fun r27 => some (r27.1, r27.2)) else none)) else ((gR M r2 5 2).bind fun v18 => if isO M v18 4 = true then ((f_X1_firstOpen n M v18 a2 a3).bind fun r20 => if isO M this 14 = true then ((f_X11_answer B M this r20).bind fun r22 => some (r22.1, r22.2)) else none) else none)))) else none
def rmX11_ready : Room := { frames := 4, cells := 0, slots := 0, locals := 85 }
theorem k_X11_ready_252 : Cond.fieldLink RX11 252 "LoanBook$Courier" "calendar" "LLoanBook$Calendar;" ∈ wsX11_ready := List.mem_of_getElem? (i := 1) rfl
theorem ki_X11_ready_X2 : ∀ w ∈ u_ws RX2 TX2 3, w ∈ wsX11_ready := sub_r [61, 62, 63] (by decide +kernel)
set_option maxHeartbeats 4000000 in
set_option maxRecDepth 100000 in
theorem c_X11_ready {G : wG} {l : Launch} {n : Nat} {M : Mem} {sz : Nat} {this : Option Nat} {a1 : Int32} {a2 : Int32} {a3 : Int32} {r : Int32 × Mem} (h : f_X11_ready G.2.2.1 n M this a1 a2 a3 = some r) : CtrI G l yX11_ready wsX11_ready rmX11_ready [va_rf this, .int a1, .int a2, .int a3] M sz r.1 r.2 sz := by
  refine m_startI (own := RX11) (cc := cX11_ready) (maxL := 5) (lv0 := [(0, va_rf this), (1, .int a1), (2, .int a2), (3, .int a3)]) (by decide) rfl rfl (by simp [lg_sl, va_rf_cat, cat_i, cat_r]) (by simp [lv_args, va_rf_cat, cat_i, cat_r]) ?_
  intro p e s m args below meth c Q hC hname RET hsz hw ls hl
  have hx := hC.1
  have hb := hC.2.1
  unfold f_X11_ready at h
  refine m_aload_n (x := this) hx hb dX11_ready_0 rfl (lv_at hl 0 rfl) ?_
  refine lv_iload_n hx hb dX11_ready_1 rfl (lv_at hl 1 rfl) ?_
  obtain ⟨g1, h⟩ := itg h
  obtain ⟨r2, hr2, h⟩ := ob h
  refine m_contQ hC hw (m_runV hC hw (x := this) (ci := 14) (N := 11) (C := RX11) (T := TX11) (n := 1) (av := [.int a1]) (rest := []) (c_X11_courierAt (G := G) (l := l) hr2) gX11_ready_X11_courierAt rfl (by decide +kernel) ⟨(Nat.le_of_ble_eq_true rfl), (Nat.le_of_ble_eq_true rfl)⟩ g1 rfl rfl hl.1 rfl (Nat.le_of_ble_eq_true rfl) dX11_ready_2 ⟨(Nat.zero_le _), (Nat.zero_le _)⟩) (fun H locs hw => ?_)
  refine m_astore (x := r2) (lv' := [(4, va_rf r2), (0, va_rf this), (1, .int a1), (2, .int a2), (3, .int a3)]) hx hb dX11_ready_5 hl (by decide) rfl (fun ls hl => ?_)
  refine m_aload (x := r2) hx hb dX11_ready_7 (lv_at hl 0 rfl) ?_
  refine m_ifnull (x := r2) (tgt := 26) hx hb dX11_ready_9 (by decide) (fun c3 => ?_) (fun c3 => ?_)
  · replace h := itt h c3
    refine m_aload_n (x := this) hx hb dX11_ready_26 rfl (lv_at hl 1 rfl) ?_
    refine m_aload (x := r2) hx hb dX11_ready_27 (lv_at hl 0 rfl) ?_
    refine m_ifnull (x := r2) (tgt := 36) hx hb dX11_ready_29 (by decide) (fun c4 => ?_) (fun c4 => ?_)
    · replace h := itt h c4
      refine lv_iconst (v := (0 : Int32)) hx hb dX11_ready_36 (by decide) ?_
      obtain ⟨g5, h⟩ := itg h
      obtain ⟨r6, hr6, h⟩ := ob h
      refine m_contI hC hw (m_runV hC hw (x := this) (ci := 14) (N := 11) (C := RX11) (T := TX11) (n := 1) (av := [.int (0 : Int32)]) (rest := []) (c_X11_refuseAsked (G := G) (l := l) hr6) gX11_ready_X11_refuseAsked rfl (by decide +kernel) ⟨(Nat.le_of_ble_eq_true rfl), (Nat.le_of_ble_eq_true rfl)⟩ g5 rfl rfl hl.1 rfl (Nat.le_of_ble_eq_true rfl) dX11_ready_37 ⟨(Nat.zero_le _), (Nat.zero_le _)⟩) (fun H locs hw => ?_)
      replace h := Option.some.inj h
      subst h
      exact RET hw ⟨(Nat.zero_le _), (Nat.zero_le _)⟩ dX11_ready_40
    · replace h := itf h c4
      refine lv_iconst (v := (1 : Int32)) hx hb dX11_ready_32 (by decide) ?_
      refine lv_goto (tgt := 37) hx hb dX11_ready_33 (by decide) ?_
      obtain ⟨g7, h⟩ := itg h
      obtain ⟨r8, hr8, h⟩ := ob h
      refine m_contI hC hw (m_runV hC hw (x := this) (ci := 14) (N := 11) (C := RX11) (T := TX11) (n := 1) (av := [.int (1 : Int32)]) (rest := []) (c_X11_refuseAsked (G := G) (l := l) hr8) gX11_ready_X11_refuseAsked rfl (by decide +kernel) ⟨(Nat.le_of_ble_eq_true rfl), (Nat.le_of_ble_eq_true rfl)⟩ g7 rfl rfl hl.1 rfl (Nat.le_of_ble_eq_true rfl) dX11_ready_37 ⟨(Nat.zero_le _), (Nat.zero_le _)⟩) (fun H locs hw => ?_)
      replace h := Option.some.inj h
      subst h
      exact RET hw ⟨(Nat.zero_le _), (Nat.zero_le _)⟩ dX11_ready_40
  · replace h := itf h c3
    refine lv_iload_n hx hb dX11_ready_12 rfl (lv_at hl 3 rfl) ?_
    obtain ⟨r9, hr9, h⟩ := ob h
    refine m_contI hC hw (m_runS hC hw (n := 1) (av := [.int a2]) (rest := []) (c_X11_isDay (G := G) (l := l) hr9) gX11_ready_X11_isDay rfl (by decide +kernel) ⟨(Nat.le_of_ble_eq_true rfl), (Nat.le_of_ble_eq_true rfl)⟩ rfl hl.1 rfl (Nat.le_of_ble_eq_true rfl) dX11_ready_13 ⟨(Nat.zero_le _), (Nat.zero_le _)⟩) (fun H locs hw => ?_)
    refine lv_if_eq (tgt := 26) hx hb dX11_ready_16 (by decide) (fun c10 => ?_) (fun c10 => ?_)
    · replace h := itt h c10
      refine m_aload_n (x := this) hx hb dX11_ready_26 rfl (lv_at hl 1 rfl) ?_
      refine m_aload (x := r2) hx hb dX11_ready_27 (lv_at hl 0 rfl) ?_
      refine m_ifnull (x := r2) (tgt := 36) hx hb dX11_ready_29 (by decide) (fun c11 => ?_) (fun c11 => ?_)
      · replace h := itt h c11
        refine lv_iconst (v := (0 : Int32)) hx hb dX11_ready_36 (by decide) ?_
        obtain ⟨g12, h⟩ := itg h
        obtain ⟨r13, hr13, h⟩ := ob h
        refine m_contI hC hw (m_runV hC hw (x := this) (ci := 14) (N := 11) (C := RX11) (T := TX11) (n := 1) (av := [.int (0 : Int32)]) (rest := []) (c_X11_refuseAsked (G := G) (l := l) hr13) gX11_ready_X11_refuseAsked rfl (by decide +kernel) ⟨(Nat.le_of_ble_eq_true rfl), (Nat.le_of_ble_eq_true rfl)⟩ g12 rfl rfl hl.1 rfl (Nat.le_of_ble_eq_true rfl) dX11_ready_37 ⟨(Nat.zero_le _), (Nat.zero_le _)⟩) (fun H locs hw => ?_)
        replace h := Option.some.inj h
        subst h
        exact RET hw ⟨(Nat.zero_le _), (Nat.zero_le _)⟩ dX11_ready_40
      · replace h := itf h c11
        refine lv_iconst (v := (1 : Int32)) hx hb dX11_ready_32 (by decide) ?_
        refine lv_goto (tgt := 37) hx hb dX11_ready_33 (by decide) ?_
        obtain ⟨g14, h⟩ := itg h
        obtain ⟨r15, hr15, h⟩ := ob h
        refine m_contI hC hw (m_runV hC hw (x := this) (ci := 14) (N := 11) (C := RX11) (T := TX11) (n := 1) (av := [.int (1 : Int32)]) (rest := []) (c_X11_refuseAsked (G := G) (l := l) hr15) gX11_ready_X11_refuseAsked rfl (by decide +kernel) ⟨(Nat.le_of_ble_eq_true rfl), (Nat.le_of_ble_eq_true rfl)⟩ g14 rfl rfl hl.1 rfl (Nat.le_of_ble_eq_true rfl) dX11_ready_37 ⟨(Nat.zero_le _), (Nat.zero_le _)⟩) (fun H locs hw => ?_)
        replace h := Option.some.inj h
        subst h
        exact RET hw ⟨(Nat.zero_le _), (Nat.zero_le _)⟩ dX11_ready_40
    · replace h := itf h c10
      refine lv_iload_n hx hb dX11_ready_19 rfl (lv_at hl 4 rfl) ?_
      obtain ⟨r16, hr16, h⟩ := ob h
      refine m_contI hC hw (m_runS hC hw (n := 1) (av := [.int a3]) (rest := []) (c_X11_isLength (G := G) (l := l) hr16) gX11_ready_X11_isLength rfl (by decide +kernel) ⟨(Nat.le_of_ble_eq_true rfl), (Nat.le_of_ble_eq_true rfl)⟩ rfl hl.1 rfl (Nat.le_of_ble_eq_true rfl) dX11_ready_20 ⟨(Nat.zero_le _), (Nat.zero_le _)⟩) (fun H locs hw => ?_)
      refine lv_if_ne (tgt := 41) hx hb dX11_ready_23 (by decide) (fun c17 => ?_) (fun c17 => ?_)
      · replace h := itf h c17
        refine m_aload_n (x := this) hx hb dX11_ready_41 rfl (lv_at hl 1 rfl) ?_
        refine m_aload (x := r2) hx hb dX11_ready_42 (lv_at hl 0 rfl) ?_
        obtain ⟨v18, hv18, h⟩ := ob h
        refine m_getR hC hw (C := RX2) (T := TX2) (N := 3) hv18 ki_X11_ready_X2 rfl (by decide) k_X11_ready_252 (fun _ z => z) dX11_ready_44 ?_
        refine lv_iload_n hx hb dX11_ready_47 rfl (lv_at hl 3 rfl) ?_
        refine lv_iload_n hx hb dX11_ready_48 rfl (lv_at hl 4 rfl) ?_
        obtain ⟨g19, h⟩ := itg h
        obtain ⟨r20, hr20, h⟩ := ob h
        refine m_contI hC hw (m_runV hC hw (x := v18) (ci := 4) (N := 2) (C := RX1) (T := TX1) (n := 2) (av := [.int a2, .int a3]) (rest := [va_rf this]) (c_X1_firstOpen (G := G) (l := l) hr20) gX11_ready_X1_firstOpen rfl (by decide +kernel) ⟨(Nat.le_of_ble_eq_true rfl), (Nat.le_of_ble_eq_true rfl)⟩ g19 rfl rfl hl.1 rfl (by simp [va_rf_cat, cat_i, cat_r, cat_l]) dX11_ready_49 ⟨(Nat.zero_le _), (Nat.zero_le _)⟩) (fun H locs hw => ?_)
        obtain ⟨g21, h⟩ := itg h
        obtain ⟨r22, hr22, h⟩ := ob h
        refine m_contI hC hw (m_runV hC hw (x := this) (ci := 14) (N := 11) (C := RX11) (T := TX11) (n := 1) (av := [.int r20]) (rest := []) (c_X11_answer (G := G) (l := l) hr22) gX11_ready_X11_answer rfl (by decide +kernel) ⟨(Nat.le_of_ble_eq_true rfl), (Nat.le_of_ble_eq_true rfl)⟩ g21 rfl rfl hl.1 rfl (Nat.le_of_ble_eq_true rfl) dX11_ready_52 ⟨(Nat.zero_le _), (Nat.zero_le _)⟩) (fun H locs hw => ?_)
        replace h := Option.some.inj h
        subst h
        exact RET hw ⟨(Nat.zero_le _), (Nat.zero_le _)⟩ dX11_ready_55
      · replace h := itt h c17
        refine m_aload_n (x := this) hx hb dX11_ready_26 rfl (lv_at hl 1 rfl) ?_
        refine m_aload (x := r2) hx hb dX11_ready_27 (lv_at hl 0 rfl) ?_
        refine m_ifnull (x := r2) (tgt := 36) hx hb dX11_ready_29 (by decide) (fun c23 => ?_) (fun c23 => ?_)
        · replace h := itt h c23
          refine lv_iconst (v := (0 : Int32)) hx hb dX11_ready_36 (by decide) ?_
          obtain ⟨g24, h⟩ := itg h
          obtain ⟨r25, hr25, h⟩ := ob h
          refine m_contI hC hw (m_runV hC hw (x := this) (ci := 14) (N := 11) (C := RX11) (T := TX11) (n := 1) (av := [.int (0 : Int32)]) (rest := []) (c_X11_refuseAsked (G := G) (l := l) hr25) gX11_ready_X11_refuseAsked rfl (by decide +kernel) ⟨(Nat.le_of_ble_eq_true rfl), (Nat.le_of_ble_eq_true rfl)⟩ g24 rfl rfl hl.1 rfl (Nat.le_of_ble_eq_true rfl) dX11_ready_37 ⟨(Nat.zero_le _), (Nat.zero_le _)⟩) (fun H locs hw => ?_)
          replace h := Option.some.inj h
          subst h
          exact RET hw ⟨(Nat.zero_le _), (Nat.zero_le _)⟩ dX11_ready_40
        · replace h := itf h c23
          refine lv_iconst (v := (1 : Int32)) hx hb dX11_ready_32 (by decide) ?_
          refine lv_goto (tgt := 37) hx hb dX11_ready_33 (by decide) ?_
          obtain ⟨g26, h⟩ := itg h
          obtain ⟨r27, hr27, h⟩ := ob h
          refine m_contI hC hw (m_runV hC hw (x := this) (ci := 14) (N := 11) (C := RX11) (T := TX11) (n := 1) (av := [.int (1 : Int32)]) (rest := []) (c_X11_refuseAsked (G := G) (l := l) hr27) gX11_ready_X11_refuseAsked rfl (by decide +kernel) ⟨(Nat.le_of_ble_eq_true rfl), (Nat.le_of_ble_eq_true rfl)⟩ g26 rfl rfl hl.1 rfl (Nat.le_of_ble_eq_true rfl) dX11_ready_37 ⟨(Nat.zero_le _), (Nat.zero_le _)⟩) (fun H locs hw => ?_)
          replace h := Option.some.inj h
          subst h
          exact RET hw ⟨(Nat.zero_le _), (Nat.zero_le _)⟩ dX11_ready_40

def f_X11_cost (B : Nat) (n : Nat) (M : Mem) (this : Option Nat) (a1 : Int32) (a2 : Int32) : Option (Int32 × Mem) := if isO M this 14 = true then ((f_X11_standingLoanAt M this a1).bind fun r2 => if r2 = none then (if r2 = none then (if isO M this 14 = true then ((f_X11_refuseAsked B M this (0 : Int32)).bind fun r6 => some (r6.1, r6.2)) else none) else (if isO M this 14 = true then ((f_X11_refuseAsked B M this (1 : Int32)).bind fun r8 => some (r8.1, r8.2)) else none)) else ((f_X11_isDay M a2).bind fun r9 => if r9 = 0 then (if r2 = none then (if isO M this 14 = true then ((f_X11_refuseAsked B M this (0 : Int32)).bind fun r17 => some (r17.1, r17.2)) else none) else (if isO M this 14 = true then ((f_X11_refuseAsked B M this (1 : Int32)).bind fun r19 => some (r19.1, r19.2)) else none)) else (if isO M r2 7 = true then ((f_X4_costOn n M r2 a2).bind fun r12 => if isO M this 14 = true then ((f_X11_answer B M this r12).bind fun r14 => some (r14.1, r14.2)) else none) else none))) else none
def rmX11_cost : Room := { frames := 7, cells := 0, slots := 0, locals := 157 }
set_option maxHeartbeats 4000000 in
set_option maxRecDepth 100000 in
theorem c_X11_cost {G : wG} {l : Launch} {n : Nat} {M : Mem} {sz : Nat} {this : Option Nat} {a1 : Int32} {a2 : Int32} {r : Int32 × Mem} (h : f_X11_cost G.2.2.1 n M this a1 a2 = some r) : CtrI G l yX11_cost wsX11_cost rmX11_cost [va_rf this, .int a1, .int a2] M sz r.1 r.2 sz := by
  refine m_startI (own := RX11) (cc := cX11_cost) (maxL := 4) (lv0 := [(0, va_rf this), (1, .int a1), (2, .int a2)]) (by decide) rfl rfl (by simp [lg_sl, va_rf_cat, cat_i, cat_r]) (by simp [lv_args, va_rf_cat, cat_i, cat_r]) ?_
  intro p e s m args below meth c Q hC hname RET hsz hw ls hl
  have hx := hC.1
  have hb := hC.2.1
  unfold f_X11_cost at h
  refine m_aload_n (x := this) hx hb dX11_cost_0 rfl (lv_at hl 0 rfl) ?_
  refine lv_iload_n hx hb dX11_cost_1 rfl (lv_at hl 1 rfl) ?_
  obtain ⟨g1, h⟩ := itg h
  obtain ⟨r2, hr2, h⟩ := ob h
  refine m_contQ hC hw (m_runV hC hw (x := this) (ci := 14) (N := 11) (C := RX11) (T := TX11) (n := 1) (av := [.int a1]) (rest := []) (c_X11_standingLoanAt (G := G) (l := l) hr2) gX11_cost_X11_standingLoanAt rfl (by decide +kernel) ⟨(Nat.le_of_ble_eq_true rfl), (Nat.le_of_ble_eq_true rfl)⟩ g1 rfl rfl hl.1 rfl (Nat.le_of_ble_eq_true rfl) dX11_cost_2 ⟨(Nat.zero_le _), (Nat.zero_le _)⟩) (fun H locs hw => ?_)
  refine m_astore_n (x := r2) (i := 3) (lv' := [(3, va_rf r2), (0, va_rf this), (1, .int a1), (2, .int a2)]) hx hb dX11_cost_5 rfl hl (by decide) rfl (fun ls hl => ?_)
  refine m_aload_n (x := r2) hx hb dX11_cost_6 rfl (lv_at hl 0 rfl) ?_
  refine m_ifnull (x := r2) (tgt := 17) hx hb dX11_cost_7 (by decide) (fun c3 => ?_) (fun c3 => ?_)
  · replace h := itt h c3
    refine m_aload_n (x := this) hx hb dX11_cost_17 rfl (lv_at hl 1 rfl) ?_
    refine m_aload_n (x := r2) hx hb dX11_cost_18 rfl (lv_at hl 0 rfl) ?_
    refine m_ifnull (x := r2) (tgt := 26) hx hb dX11_cost_19 (by decide) (fun c4 => ?_) (fun c4 => ?_)
    · replace h := itt h c4
      refine lv_iconst (v := (0 : Int32)) hx hb dX11_cost_26 (by decide) ?_
      obtain ⟨g5, h⟩ := itg h
      obtain ⟨r6, hr6, h⟩ := ob h
      refine m_contI hC hw (m_runV hC hw (x := this) (ci := 14) (N := 11) (C := RX11) (T := TX11) (n := 1) (av := [.int (0 : Int32)]) (rest := []) (c_X11_refuseAsked (G := G) (l := l) hr6) gX11_cost_X11_refuseAsked rfl (by decide +kernel) ⟨(Nat.le_of_ble_eq_true rfl), (Nat.le_of_ble_eq_true rfl)⟩ g5 rfl rfl hl.1 rfl (Nat.le_of_ble_eq_true rfl) dX11_cost_27 ⟨(Nat.zero_le _), (Nat.zero_le _)⟩) (fun H locs hw => ?_)
      replace h := Option.some.inj h
      subst h
      exact RET hw ⟨(Nat.zero_le _), (Nat.zero_le _)⟩ dX11_cost_30
    · replace h := itf h c4
      refine lv_iconst (v := (1 : Int32)) hx hb dX11_cost_22 (by decide) ?_
      refine lv_goto (tgt := 27) hx hb dX11_cost_23 (by decide) ?_
      obtain ⟨g7, h⟩ := itg h
      obtain ⟨r8, hr8, h⟩ := ob h
      refine m_contI hC hw (m_runV hC hw (x := this) (ci := 14) (N := 11) (C := RX11) (T := TX11) (n := 1) (av := [.int (1 : Int32)]) (rest := []) (c_X11_refuseAsked (G := G) (l := l) hr8) gX11_cost_X11_refuseAsked rfl (by decide +kernel) ⟨(Nat.le_of_ble_eq_true rfl), (Nat.le_of_ble_eq_true rfl)⟩ g7 rfl rfl hl.1 rfl (Nat.le_of_ble_eq_true rfl) dX11_cost_27 ⟨(Nat.zero_le _), (Nat.zero_le _)⟩) (fun H locs hw => ?_)
      replace h := Option.some.inj h
      subst h
      exact RET hw ⟨(Nat.zero_le _), (Nat.zero_le _)⟩ dX11_cost_30
  · replace h := itf h c3
    refine lv_iload_n hx hb dX11_cost_10 rfl (lv_at hl 3 rfl) ?_
    obtain ⟨r9, hr9, h⟩ := ob h
    refine m_contI hC hw (m_runS hC hw (n := 1) (av := [.int a2]) (rest := []) (c_X11_isDay (G := G) (l := l) hr9) gX11_cost_X11_isDay rfl (by decide +kernel) ⟨(Nat.le_of_ble_eq_true rfl), (Nat.le_of_ble_eq_true rfl)⟩ rfl hl.1 rfl (Nat.le_of_ble_eq_true rfl) dX11_cost_11 ⟨(Nat.zero_le _), (Nat.zero_le _)⟩) (fun H locs hw => ?_)
    refine lv_if_ne (tgt := 31) hx hb dX11_cost_14 (by decide) (fun c10 => ?_) (fun c10 => ?_)
    · replace h := itf h c10
      refine m_aload_n (x := this) hx hb dX11_cost_31 rfl (lv_at hl 1 rfl) ?_
      refine m_aload_n (x := r2) hx hb dX11_cost_32 rfl (lv_at hl 0 rfl) ?_
      refine lv_iload_n hx hb dX11_cost_33 rfl (lv_at hl 3 rfl) ?_
      obtain ⟨g11, h⟩ := itg h
      obtain ⟨r12, hr12, h⟩ := ob h
      refine m_contI hC hw (m_runV hC hw (x := r2) (ci := 7) (N := 5) (C := RX4) (T := TX4) (n := 1) (av := [.int a2]) (rest := [va_rf this]) (c_X4_costOn (G := G) (l := l) hr12) gX11_cost_X4_costOn rfl (by decide +kernel) ⟨(Nat.le_of_ble_eq_true rfl), (Nat.le_of_ble_eq_true rfl)⟩ g11 rfl rfl hl.1 rfl (by simp [va_rf_cat, cat_i, cat_r, cat_l]) dX11_cost_34 ⟨(Nat.zero_le _), (Nat.zero_le _)⟩) (fun H locs hw => ?_)
      obtain ⟨g13, h⟩ := itg h
      obtain ⟨r14, hr14, h⟩ := ob h
      refine m_contI hC hw (m_runV hC hw (x := this) (ci := 14) (N := 11) (C := RX11) (T := TX11) (n := 1) (av := [.int r12]) (rest := []) (c_X11_answer (G := G) (l := l) hr14) gX11_cost_X11_answer rfl (by decide +kernel) ⟨(Nat.le_of_ble_eq_true rfl), (Nat.le_of_ble_eq_true rfl)⟩ g13 rfl rfl hl.1 rfl (Nat.le_of_ble_eq_true rfl) dX11_cost_37 ⟨(Nat.zero_le _), (Nat.zero_le _)⟩) (fun H locs hw => ?_)
      replace h := Option.some.inj h
      subst h
      exact RET hw ⟨(Nat.zero_le _), (Nat.zero_le _)⟩ dX11_cost_40
    · replace h := itt h c10
      refine m_aload_n (x := this) hx hb dX11_cost_17 rfl (lv_at hl 1 rfl) ?_
      refine m_aload_n (x := r2) hx hb dX11_cost_18 rfl (lv_at hl 0 rfl) ?_
      refine m_ifnull (x := r2) (tgt := 26) hx hb dX11_cost_19 (by decide) (fun c15 => ?_) (fun c15 => ?_)
      · replace h := itt h c15
        refine lv_iconst (v := (0 : Int32)) hx hb dX11_cost_26 (by decide) ?_
        obtain ⟨g16, h⟩ := itg h
        obtain ⟨r17, hr17, h⟩ := ob h
        refine m_contI hC hw (m_runV hC hw (x := this) (ci := 14) (N := 11) (C := RX11) (T := TX11) (n := 1) (av := [.int (0 : Int32)]) (rest := []) (c_X11_refuseAsked (G := G) (l := l) hr17) gX11_cost_X11_refuseAsked rfl (by decide +kernel) ⟨(Nat.le_of_ble_eq_true rfl), (Nat.le_of_ble_eq_true rfl)⟩ g16 rfl rfl hl.1 rfl (Nat.le_of_ble_eq_true rfl) dX11_cost_27 ⟨(Nat.zero_le _), (Nat.zero_le _)⟩) (fun H locs hw => ?_)
        replace h := Option.some.inj h
        subst h
        exact RET hw ⟨(Nat.zero_le _), (Nat.zero_le _)⟩ dX11_cost_30
      · replace h := itf h c15
        refine lv_iconst (v := (1 : Int32)) hx hb dX11_cost_22 (by decide) ?_
        refine lv_goto (tgt := 27) hx hb dX11_cost_23 (by decide) ?_
        obtain ⟨g18, h⟩ := itg h
        obtain ⟨r19, hr19, h⟩ := ob h
        refine m_contI hC hw (m_runV hC hw (x := this) (ci := 14) (N := 11) (C := RX11) (T := TX11) (n := 1) (av := [.int (1 : Int32)]) (rest := []) (c_X11_refuseAsked (G := G) (l := l) hr19) gX11_cost_X11_refuseAsked rfl (by decide +kernel) ⟨(Nat.le_of_ble_eq_true rfl), (Nat.le_of_ble_eq_true rfl)⟩ g18 rfl rfl hl.1 rfl (Nat.le_of_ble_eq_true rfl) dX11_cost_27 ⟨(Nat.zero_le _), (Nat.zero_le _)⟩) (fun H locs hw => ?_)
        replace h := Option.some.inj h
        subst h
        exact RET hw ⟨(Nat.zero_le _), (Nat.zero_le _)⟩ dX11_cost_30

def f_X11_premium (B : Nat) (n : Nat) (M : Mem) (this : Option Nat) (a1 : Int32) (a2 : Int32) (a3 : Int32) : Option (Int32 × Mem) := if isO M this 14 = true then ((f_X11_standingLoanAt M this a1).bind fun r2 => if r2 = none then (if r2 = none then (if isO M this 14 = true then ((f_X11_refuseAsked B M this (0 : Int32)).bind fun r6 => some (r6.1, r6.2)) else none) else (if isO M this 14 = true then ((f_X11_refuseAsked B M this (1 : Int32)).bind fun r8 => some (r8.1, r8.2)) else none)) else ((f_X11_isDay M a2).bind fun r9 => if r9 = 0 then (if r2 = none then (if isO M this 14 = true then ((f_X11_refuseAsked B M this (0 : Int32)).bind fun r13 => some (r13.1, r13.2)) else none) else (if isO M this 14 = true then ((f_X11_refuseAsked B M this (1 : Int32)).bind fun r15 => some (r15.1, r15.2)) else none)) else ((f_X11_isDay M a3).bind fun r16 => if r16 = 0 then (if r2 = none then (if isO M this 14 = true then ((f_X11_refuseAsked B M this (0 : Int32)).bind fun r20 => some (r20.1, r20.2)) else none) else (if isO M this 14 = true then ((f_X11_refuseAsked B M this (1 : Int32)).bind fun r22 => some (r22.1, r22.2)) else none)) else (if a2 ≤ a3 then (if isO M r2 7 = true then ((f_X4_costBetween n M r2 a2 a3).bind fun r25 => if isO M this 14 = true then ((f_X11_answer B M this ((r25 / (10000 : Int64))).toInt32).bind fun r27 => some (r27.1, r27.2)) else none) else none) else (if r2 = none then (if isO M this 14 = true then ((f_X11_refuseAsked B M this (0 : Int32)).bind fun r30 => some (r30.1, r30.2)) else none) else (if isO M this 14 = true then ((f_X11_refuseAsked B M this (1 : Int32)).bind fun r32 => some (r32.1, r32.2)) else none)))))) else none
def rmX11_premium : Room := { frames := 8, cells := 0, slots := 0, locals := 183 }
theorem k_X11_premium_263 : Cond.constantLong RX11 263 (10000) ∈ wsX11_premium := List.mem_of_getElem? (i := 1) rfl
set_option maxHeartbeats 4000000 in
set_option maxRecDepth 100000 in
theorem c_X11_premium {G : wG} {l : Launch} {n : Nat} {M : Mem} {sz : Nat} {this : Option Nat} {a1 : Int32} {a2 : Int32} {a3 : Int32} {r : Int32 × Mem} (h : f_X11_premium G.2.2.1 n M this a1 a2 a3 = some r) : CtrI G l yX11_premium wsX11_premium rmX11_premium [va_rf this, .int a1, .int a2, .int a3] M sz r.1 r.2 sz := by
  refine m_startI (own := RX11) (cc := cX11_premium) (maxL := 5) (lv0 := [(0, va_rf this), (1, .int a1), (2, .int a2), (3, .int a3)]) (by decide) rfl rfl (by simp [lg_sl, va_rf_cat, cat_i, cat_r]) (by simp [lv_args, va_rf_cat, cat_i, cat_r]) ?_
  intro p e s m args below meth c Q hC hname RET hsz hw ls hl
  have hx := hC.1
  have hb := hC.2.1
  unfold f_X11_premium at h
  refine m_aload_n (x := this) hx hb dX11_premium_0 rfl (lv_at hl 0 rfl) ?_
  refine lv_iload_n hx hb dX11_premium_1 rfl (lv_at hl 1 rfl) ?_
  obtain ⟨g1, h⟩ := itg h
  obtain ⟨r2, hr2, h⟩ := ob h
  refine m_contQ hC hw (m_runV hC hw (x := this) (ci := 14) (N := 11) (C := RX11) (T := TX11) (n := 1) (av := [.int a1]) (rest := []) (c_X11_standingLoanAt (G := G) (l := l) hr2) gX11_premium_X11_standingLoanAt rfl (by decide +kernel) ⟨(Nat.le_of_ble_eq_true rfl), (Nat.le_of_ble_eq_true rfl)⟩ g1 rfl rfl hl.1 rfl (Nat.le_of_ble_eq_true rfl) dX11_premium_2 ⟨(Nat.zero_le _), (Nat.zero_le _)⟩) (fun H locs hw => ?_)
  refine m_astore (x := r2) (lv' := [(4, va_rf r2), (0, va_rf this), (1, .int a1), (2, .int a2), (3, .int a3)]) hx hb dX11_premium_5 hl (by decide) rfl (fun ls hl => ?_)
  refine m_aload (x := r2) hx hb dX11_premium_7 (lv_at hl 0 rfl) ?_
  refine m_ifnull (x := r2) (tgt := 31) hx hb dX11_premium_9 (by decide) (fun c3 => ?_) (fun c3 => ?_)
  · replace h := itt h c3
    refine m_aload_n (x := this) hx hb dX11_premium_31 rfl (lv_at hl 1 rfl) ?_
    refine m_aload (x := r2) hx hb dX11_premium_32 (lv_at hl 0 rfl) ?_
    refine m_ifnull (x := r2) (tgt := 41) hx hb dX11_premium_34 (by decide) (fun c4 => ?_) (fun c4 => ?_)
    · replace h := itt h c4
      refine lv_iconst (v := (0 : Int32)) hx hb dX11_premium_41 (by decide) ?_
      obtain ⟨g5, h⟩ := itg h
      obtain ⟨r6, hr6, h⟩ := ob h
      refine m_contI hC hw (m_runV hC hw (x := this) (ci := 14) (N := 11) (C := RX11) (T := TX11) (n := 1) (av := [.int (0 : Int32)]) (rest := []) (c_X11_refuseAsked (G := G) (l := l) hr6) gX11_premium_X11_refuseAsked rfl (by decide +kernel) ⟨(Nat.le_of_ble_eq_true rfl), (Nat.le_of_ble_eq_true rfl)⟩ g5 rfl rfl hl.1 rfl (Nat.le_of_ble_eq_true rfl) dX11_premium_42 ⟨(Nat.zero_le _), (Nat.zero_le _)⟩) (fun H locs hw => ?_)
      replace h := Option.some.inj h
      subst h
      exact RET hw ⟨(Nat.zero_le _), (Nat.zero_le _)⟩ dX11_premium_45
    · replace h := itf h c4
      refine lv_iconst (v := (1 : Int32)) hx hb dX11_premium_37 (by decide) ?_
      refine lv_goto (tgt := 42) hx hb dX11_premium_38 (by decide) ?_
      obtain ⟨g7, h⟩ := itg h
      obtain ⟨r8, hr8, h⟩ := ob h
      refine m_contI hC hw (m_runV hC hw (x := this) (ci := 14) (N := 11) (C := RX11) (T := TX11) (n := 1) (av := [.int (1 : Int32)]) (rest := []) (c_X11_refuseAsked (G := G) (l := l) hr8) gX11_premium_X11_refuseAsked rfl (by decide +kernel) ⟨(Nat.le_of_ble_eq_true rfl), (Nat.le_of_ble_eq_true rfl)⟩ g7 rfl rfl hl.1 rfl (Nat.le_of_ble_eq_true rfl) dX11_premium_42 ⟨(Nat.zero_le _), (Nat.zero_le _)⟩) (fun H locs hw => ?_)
      replace h := Option.some.inj h
      subst h
      exact RET hw ⟨(Nat.zero_le _), (Nat.zero_le _)⟩ dX11_premium_45
  · replace h := itf h c3
    refine lv_iload_n hx hb dX11_premium_12 rfl (lv_at hl 3 rfl) ?_
    obtain ⟨r9, hr9, h⟩ := ob h
    refine m_contI hC hw (m_runS hC hw (n := 1) (av := [.int a2]) (rest := []) (c_X11_isDay (G := G) (l := l) hr9) gX11_premium_X11_isDay rfl (by decide +kernel) ⟨(Nat.le_of_ble_eq_true rfl), (Nat.le_of_ble_eq_true rfl)⟩ rfl hl.1 rfl (Nat.le_of_ble_eq_true rfl) dX11_premium_13 ⟨(Nat.zero_le _), (Nat.zero_le _)⟩) (fun H locs hw => ?_)
    refine lv_if_eq (tgt := 31) hx hb dX11_premium_16 (by decide) (fun c10 => ?_) (fun c10 => ?_)
    · replace h := itt h c10
      refine m_aload_n (x := this) hx hb dX11_premium_31 rfl (lv_at hl 1 rfl) ?_
      refine m_aload (x := r2) hx hb dX11_premium_32 (lv_at hl 0 rfl) ?_
      refine m_ifnull (x := r2) (tgt := 41) hx hb dX11_premium_34 (by decide) (fun c11 => ?_) (fun c11 => ?_)
      · replace h := itt h c11
        refine lv_iconst (v := (0 : Int32)) hx hb dX11_premium_41 (by decide) ?_
        obtain ⟨g12, h⟩ := itg h
        obtain ⟨r13, hr13, h⟩ := ob h
        refine m_contI hC hw (m_runV hC hw (x := this) (ci := 14) (N := 11) (C := RX11) (T := TX11) (n := 1) (av := [.int (0 : Int32)]) (rest := []) (c_X11_refuseAsked (G := G) (l := l) hr13) gX11_premium_X11_refuseAsked rfl (by decide +kernel) ⟨(Nat.le_of_ble_eq_true rfl), (Nat.le_of_ble_eq_true rfl)⟩ g12 rfl rfl hl.1 rfl (Nat.le_of_ble_eq_true rfl) dX11_premium_42 ⟨(Nat.zero_le _), (Nat.zero_le _)⟩) (fun H locs hw => ?_)
        replace h := Option.some.inj h
        subst h
        exact RET hw ⟨(Nat.zero_le _), (Nat.zero_le _)⟩ dX11_premium_45
      · replace h := itf h c11
        refine lv_iconst (v := (1 : Int32)) hx hb dX11_premium_37 (by decide) ?_
        refine lv_goto (tgt := 42) hx hb dX11_premium_38 (by decide) ?_
        obtain ⟨g14, h⟩ := itg h
        obtain ⟨r15, hr15, h⟩ := ob h
        refine m_contI hC hw (m_runV hC hw (x := this) (ci := 14) (N := 11) (C := RX11) (T := TX11) (n := 1) (av := [.int (1 : Int32)]) (rest := []) (c_X11_refuseAsked (G := G) (l := l) hr15) gX11_premium_X11_refuseAsked rfl (by decide +kernel) ⟨(Nat.le_of_ble_eq_true rfl), (Nat.le_of_ble_eq_true rfl)⟩ g14 rfl rfl hl.1 rfl (Nat.le_of_ble_eq_true rfl) dX11_premium_42 ⟨(Nat.zero_le _), (Nat.zero_le _)⟩) (fun H locs hw => ?_)
        replace h := Option.some.inj h
        subst h
        exact RET hw ⟨(Nat.zero_le _), (Nat.zero_le _)⟩ dX11_premium_45
    · replace h := itf h c10
      refine lv_iload_n hx hb dX11_premium_19 rfl (lv_at hl 4 rfl) ?_
      obtain ⟨r16, hr16, h⟩ := ob h
      refine m_contI hC hw (m_runS hC hw (n := 1) (av := [.int a3]) (rest := []) (c_X11_isDay (G := G) (l := l) hr16) gX11_premium_X11_isDay rfl (by decide +kernel) ⟨(Nat.le_of_ble_eq_true rfl), (Nat.le_of_ble_eq_true rfl)⟩ rfl hl.1 rfl (Nat.le_of_ble_eq_true rfl) dX11_premium_20 ⟨(Nat.zero_le _), (Nat.zero_le _)⟩) (fun H locs hw => ?_)
      refine lv_if_eq (tgt := 31) hx hb dX11_premium_23 (by decide) (fun c17 => ?_) (fun c17 => ?_)
      · replace h := itt h c17
        refine m_aload_n (x := this) hx hb dX11_premium_31 rfl (lv_at hl 1 rfl) ?_
        refine m_aload (x := r2) hx hb dX11_premium_32 (lv_at hl 0 rfl) ?_
        refine m_ifnull (x := r2) (tgt := 41) hx hb dX11_premium_34 (by decide) (fun c18 => ?_) (fun c18 => ?_)
        · replace h := itt h c18
          refine lv_iconst (v := (0 : Int32)) hx hb dX11_premium_41 (by decide) ?_
          obtain ⟨g19, h⟩ := itg h
          obtain ⟨r20, hr20, h⟩ := ob h
          refine m_contI hC hw (m_runV hC hw (x := this) (ci := 14) (N := 11) (C := RX11) (T := TX11) (n := 1) (av := [.int (0 : Int32)]) (rest := []) (c_X11_refuseAsked (G := G) (l := l) hr20) gX11_premium_X11_refuseAsked rfl (by decide +kernel) ⟨(Nat.le_of_ble_eq_true rfl), (Nat.le_of_ble_eq_true rfl)⟩ g19 rfl rfl hl.1 rfl (Nat.le_of_ble_eq_true rfl) dX11_premium_42 ⟨(Nat.zero_le _), (Nat.zero_le _)⟩) (fun H locs hw => ?_)
          replace h := Option.some.inj h
          subst h
          exact RET hw ⟨(Nat.zero_le _), (Nat.zero_le _)⟩ dX11_premium_45
        · replace h := itf h c18
          refine lv_iconst (v := (1 : Int32)) hx hb dX11_premium_37 (by decide) ?_
          refine lv_goto (tgt := 42) hx hb dX11_premium_38 (by decide) ?_
          obtain ⟨g21, h⟩ := itg h
          obtain ⟨r22, hr22, h⟩ := ob h
          refine m_contI hC hw (m_runV hC hw (x := this) (ci := 14) (N := 11) (C := RX11) (T := TX11) (n := 1) (av := [.int (1 : Int32)]) (rest := []) (c_X11_refuseAsked (G := G) (l := l) hr22) gX11_premium_X11_refuseAsked rfl (by decide +kernel) ⟨(Nat.le_of_ble_eq_true rfl), (Nat.le_of_ble_eq_true rfl)⟩ g21 rfl rfl hl.1 rfl (Nat.le_of_ble_eq_true rfl) dX11_premium_42 ⟨(Nat.zero_le _), (Nat.zero_le _)⟩) (fun H locs hw => ?_)
          replace h := Option.some.inj h
          subst h
          exact RET hw ⟨(Nat.zero_le _), (Nat.zero_le _)⟩ dX11_premium_45
      · replace h := itf h c17
        refine lv_iload_n hx hb dX11_premium_26 rfl (lv_at hl 3 rfl) ?_
        refine lv_iload_n hx hb dX11_premium_27 rfl (lv_at hl 4 rfl) ?_
        refine lv_icmp_le (tgt := 46) hx hb dX11_premium_28 (by decide) (fun c23 => ?_) (fun c23 => ?_)
        · replace h := itt h c23
          refine m_aload_n (x := this) hx hb dX11_premium_46 rfl (lv_at hl 1 rfl) ?_
          refine m_aload (x := r2) hx hb dX11_premium_47 (lv_at hl 0 rfl) ?_
          refine lv_iload_n hx hb dX11_premium_49 rfl (lv_at hl 3 rfl) ?_
          refine lv_iload_n hx hb dX11_premium_50 rfl (lv_at hl 4 rfl) ?_
          obtain ⟨g24, h⟩ := itg h
          obtain ⟨r25, hr25, h⟩ := ob h
          refine m_contL hC hw (m_runV hC hw (x := r2) (ci := 7) (N := 5) (C := RX4) (T := TX4) (n := 2) (av := [.int a2, .int a3]) (rest := [va_rf this]) (c_X4_costBetween (G := G) (l := l) hr25) gX11_premium_X4_costBetween rfl (by decide +kernel) ⟨(Nat.le_of_ble_eq_true rfl), (Nat.le_of_ble_eq_true rfl)⟩ g24 rfl rfl hl.1 rfl (by simp [va_rf_cat, cat_i, cat_r, cat_l]) dX11_premium_51 ⟨(Nat.zero_le _), (Nat.zero_le _)⟩) (fun H locs hw => ?_)
          refine lv_ldc2 (v := (10000 : Int64)) hx hb hC.2.2.2.1 (hC.tab _ k_X11_premium_263) dX11_premium_54 ?_
          refine lv_ldiv hx hb dX11_premium_57 (by decide) ?_
          refine lv_l2i hx hb dX11_premium_58 rfl ?_
          obtain ⟨g26, h⟩ := itg h
          obtain ⟨r27, hr27, h⟩ := ob h
          refine m_contI hC hw (m_runV hC hw (x := this) (ci := 14) (N := 11) (C := RX11) (T := TX11) (n := 1) (av := [.int ((r25 / (10000 : Int64))).toInt32]) (rest := []) (c_X11_answer (G := G) (l := l) hr27) gX11_premium_X11_answer rfl (by decide +kernel) ⟨(Nat.le_of_ble_eq_true rfl), (Nat.le_of_ble_eq_true rfl)⟩ g26 rfl rfl hl.1 rfl (Nat.le_of_ble_eq_true rfl) dX11_premium_59 ⟨(Nat.zero_le _), (Nat.zero_le _)⟩) (fun H locs hw => ?_)
          replace h := Option.some.inj h
          subst h
          exact RET hw ⟨(Nat.zero_le _), (Nat.zero_le _)⟩ dX11_premium_62
        · replace h := itf h c23
          refine m_aload_n (x := this) hx hb dX11_premium_31 rfl (lv_at hl 1 rfl) ?_
          refine m_aload (x := r2) hx hb dX11_premium_32 (lv_at hl 0 rfl) ?_
          refine m_ifnull (x := r2) (tgt := 41) hx hb dX11_premium_34 (by decide) (fun c28 => ?_) (fun c28 => ?_)
          · replace h := itt h c28
            refine lv_iconst (v := (0 : Int32)) hx hb dX11_premium_41 (by decide) ?_
            obtain ⟨g29, h⟩ := itg h
            obtain ⟨r30, hr30, h⟩ := ob h
            refine m_contI hC hw (m_runV hC hw (x := this) (ci := 14) (N := 11) (C := RX11) (T := TX11) (n := 1) (av := [.int (0 : Int32)]) (rest := []) (c_X11_refuseAsked (G := G) (l := l) hr30) gX11_premium_X11_refuseAsked rfl (by decide +kernel) ⟨(Nat.le_of_ble_eq_true rfl), (Nat.le_of_ble_eq_true rfl)⟩ g29 rfl rfl hl.1 rfl (Nat.le_of_ble_eq_true rfl) dX11_premium_42 ⟨(Nat.zero_le _), (Nat.zero_le _)⟩) (fun H locs hw => ?_)
            replace h := Option.some.inj h
            subst h
            exact RET hw ⟨(Nat.zero_le _), (Nat.zero_le _)⟩ dX11_premium_45
          · replace h := itf h c28
            refine lv_iconst (v := (1 : Int32)) hx hb dX11_premium_37 (by decide) ?_
            refine lv_goto (tgt := 42) hx hb dX11_premium_38 (by decide) ?_
            obtain ⟨g31, h⟩ := itg h
            obtain ⟨r32, hr32, h⟩ := ob h
            refine m_contI hC hw (m_runV hC hw (x := this) (ci := 14) (N := 11) (C := RX11) (T := TX11) (n := 1) (av := [.int (1 : Int32)]) (rest := []) (c_X11_refuseAsked (G := G) (l := l) hr32) gX11_premium_X11_refuseAsked rfl (by decide +kernel) ⟨(Nat.le_of_ble_eq_true rfl), (Nat.le_of_ble_eq_true rfl)⟩ g31 rfl rfl hl.1 rfl (Nat.le_of_ble_eq_true rfl) dX11_premium_42 ⟨(Nat.zero_le _), (Nat.zero_le _)⟩) (fun H locs hw => ?_)
            replace h := Option.some.inj h
            subst h
            exact RET hw ⟨(Nat.zero_le _), (Nat.zero_le _)⟩ dX11_premium_45

def f_X11_dearest (B : Nat) (n : Nat) (M : Mem) (this : Option Nat) (a1 : Int32) : Option (Int32 × Mem) := if isO M this 14 = true then ((f_X11_standingLoanAt M this a1).bind fun r2 => if r2 = none then (if isO M this 14 = true then ((f_X11_refuse B M this (1 : Int32)).bind fun r9 => some (r9.1, r9.2)) else none) else (if isO M r2 7 = true then ((f_X4_dearestDay n M r2).bind fun r5 => if isO M this 14 = true then ((f_X11_answer B M this r5).bind fun r7 => some (r7.1, r7.2)) else none) else none)) else none
def rmX11_dearest : Room := { frames := 8, cells := 0, slots := 0, locals := 182 }
set_option maxHeartbeats 4000000 in
set_option maxRecDepth 100000 in
theorem c_X11_dearest {G : wG} {l : Launch} {n : Nat} {M : Mem} {sz : Nat} {this : Option Nat} {a1 : Int32} {r : Int32 × Mem} (h : f_X11_dearest G.2.2.1 n M this a1 = some r) : CtrI G l yX11_dearest wsX11_dearest rmX11_dearest [va_rf this, .int a1] M sz r.1 r.2 sz := by
  refine m_startI (own := RX11) (cc := cX11_dearest) (maxL := 3) (lv0 := [(0, va_rf this), (1, .int a1)]) (by decide) rfl rfl (by simp [lg_sl, va_rf_cat, cat_i, cat_r]) (by simp [lv_args, va_rf_cat, cat_i, cat_r]) ?_
  intro p e s m args below meth c Q hC hname RET hsz hw ls hl
  have hx := hC.1
  have hb := hC.2.1
  unfold f_X11_dearest at h
  refine m_aload_n (x := this) hx hb dX11_dearest_0 rfl (lv_at hl 0 rfl) ?_
  refine lv_iload_n hx hb dX11_dearest_1 rfl (lv_at hl 1 rfl) ?_
  obtain ⟨g1, h⟩ := itg h
  obtain ⟨r2, hr2, h⟩ := ob h
  refine m_contQ hC hw (m_runV hC hw (x := this) (ci := 14) (N := 11) (C := RX11) (T := TX11) (n := 1) (av := [.int a1]) (rest := []) (c_X11_standingLoanAt (G := G) (l := l) hr2) gX11_dearest_X11_standingLoanAt rfl (by decide +kernel) ⟨(Nat.le_of_ble_eq_true rfl), (Nat.le_of_ble_eq_true rfl)⟩ g1 rfl rfl hl.1 rfl (Nat.le_of_ble_eq_true rfl) dX11_dearest_2 ⟨(Nat.zero_le _), (Nat.zero_le _)⟩) (fun H locs hw => ?_)
  refine m_astore_n (x := r2) (i := 2) (lv' := [(2, va_rf r2), (0, va_rf this), (1, .int a1)]) hx hb dX11_dearest_5 rfl hl (by decide) rfl (fun ls hl => ?_)
  refine m_aload_n (x := r2) hx hb dX11_dearest_6 rfl (lv_at hl 0 rfl) ?_
  refine m_ifnonnull (x := r2) (tgt := 16) hx hb dX11_dearest_7 (by decide) (fun c3 => ?_) (fun c3 => ?_)
  · replace h := itf h c3
    refine m_aload_n (x := this) hx hb dX11_dearest_16 rfl (lv_at hl 1 rfl) ?_
    refine m_aload_n (x := r2) hx hb dX11_dearest_17 rfl (lv_at hl 0 rfl) ?_
    obtain ⟨g4, h⟩ := itg h
    obtain ⟨r5, hr5, h⟩ := ob h
    refine m_contI hC hw (m_runV hC hw (x := r2) (ci := 7) (N := 5) (C := RX4) (T := TX4) (n := 0) (av := []) (rest := [va_rf this]) (c_X4_dearestDay (G := G) (l := l) hr5) gX11_dearest_X4_dearestDay rfl (by decide +kernel) ⟨(Nat.le_of_ble_eq_true rfl), (Nat.le_of_ble_eq_true rfl)⟩ g4 rfl rfl hl.1 rfl (by simp [va_rf_cat, cat_i, cat_r, cat_l]) dX11_dearest_18 ⟨(Nat.zero_le _), (Nat.zero_le _)⟩) (fun H locs hw => ?_)
    obtain ⟨g6, h⟩ := itg h
    obtain ⟨r7, hr7, h⟩ := ob h
    refine m_contI hC hw (m_runV hC hw (x := this) (ci := 14) (N := 11) (C := RX11) (T := TX11) (n := 1) (av := [.int r5]) (rest := []) (c_X11_answer (G := G) (l := l) hr7) gX11_dearest_X11_answer rfl (by decide +kernel) ⟨(Nat.le_of_ble_eq_true rfl), (Nat.le_of_ble_eq_true rfl)⟩ g6 rfl rfl hl.1 rfl (Nat.le_of_ble_eq_true rfl) dX11_dearest_21 ⟨(Nat.zero_le _), (Nat.zero_le _)⟩) (fun H locs hw => ?_)
    replace h := Option.some.inj h
    subst h
    exact RET hw ⟨(Nat.zero_le _), (Nat.zero_le _)⟩ dX11_dearest_24
  · replace h := itt h c3
    refine m_aload_n (x := this) hx hb dX11_dearest_10 rfl (lv_at hl 1 rfl) ?_
    refine lv_iconst (v := (1 : Int32)) hx hb dX11_dearest_11 (by decide) ?_
    obtain ⟨g8, h⟩ := itg h
    obtain ⟨r9, hr9, h⟩ := ob h
    refine m_contI hC hw (m_runV hC hw (x := this) (ci := 14) (N := 11) (C := RX11) (T := TX11) (n := 1) (av := [.int (1 : Int32)]) (rest := []) (c_X11_refuse (G := G) (l := l) hr9) gX11_dearest_X11_refuse rfl (by decide +kernel) ⟨(Nat.le_of_ble_eq_true rfl), (Nat.le_of_ble_eq_true rfl)⟩ g8 rfl rfl hl.1 rfl (Nat.le_of_ble_eq_true rfl) dX11_dearest_12 ⟨(Nat.zero_le _), (Nat.zero_le _)⟩) (fun H locs hw => ?_)
    replace h := Option.some.inj h
    subst h
    exact RET hw ⟨(Nat.zero_le _), (Nat.zero_le _)⟩ dX11_dearest_15

def f_X11_harms (B : Nat) (n : Nat) (M : Mem) (this : Option Nat) (a1 : Int32) (a2 : Int32) : Option (Int32 × Mem) := if isO M this 14 = true then ((f_X11_thingAt M this a1).bind fun r2 => if r2 = none then (if r2 = none then (if isO M this 14 = true then ((f_X11_refuseAsked B M this (0 : Int32)).bind fun r6 => some (r6.1, r6.2)) else none) else (if isO M this 14 = true then ((f_X11_refuseAsked B M this (1 : Int32)).bind fun r8 => some (r8.1, r8.2)) else none)) else ((f_X11_isDay M a2).bind fun r9 => if r9 = 0 then (if r2 = none then (if isO M this 14 = true then ((f_X11_refuseAsked B M this (0 : Int32)).bind fun r17 => some (r17.1, r17.2)) else none) else (if isO M this 14 = true then ((f_X11_refuseAsked B M this (1 : Int32)).bind fun r19 => some (r19.1, r19.2)) else none)) else (if isO M r2 13 = true then ((f_X10_harmsOn n M r2 a2).bind fun r12 => if isO M this 14 = true then ((f_X11_answer B M this r12).bind fun r14 => some (r14.1, r14.2)) else none) else none))) else none
def rmX11_harms : Room := { frames := 5, cells := 0, slots := 0, locals := 108 }
set_option maxHeartbeats 4000000 in
set_option maxRecDepth 100000 in
theorem c_X11_harms {G : wG} {l : Launch} {n : Nat} {M : Mem} {sz : Nat} {this : Option Nat} {a1 : Int32} {a2 : Int32} {r : Int32 × Mem} (h : f_X11_harms G.2.2.1 n M this a1 a2 = some r) : CtrI G l yX11_harms wsX11_harms rmX11_harms [va_rf this, .int a1, .int a2] M sz r.1 r.2 sz := by
  refine m_startI (own := RX11) (cc := cX11_harms) (maxL := 4) (lv0 := [(0, va_rf this), (1, .int a1), (2, .int a2)]) (by decide) rfl rfl (by simp [lg_sl, va_rf_cat, cat_i, cat_r]) (by simp [lv_args, va_rf_cat, cat_i, cat_r]) ?_
  intro p e s m args below meth c Q hC hname RET hsz hw ls hl
  have hx := hC.1
  have hb := hC.2.1
  unfold f_X11_harms at h
  refine m_aload_n (x := this) hx hb dX11_harms_0 rfl (lv_at hl 0 rfl) ?_
  refine lv_iload_n hx hb dX11_harms_1 rfl (lv_at hl 1 rfl) ?_
  obtain ⟨g1, h⟩ := itg h
  obtain ⟨r2, hr2, h⟩ := ob h
  refine m_contQ hC hw (m_runV hC hw (x := this) (ci := 14) (N := 11) (C := RX11) (T := TX11) (n := 1) (av := [.int a1]) (rest := []) (c_X11_thingAt (G := G) (l := l) hr2) gX11_harms_X11_thingAt rfl (by decide +kernel) ⟨(Nat.le_of_ble_eq_true rfl), (Nat.le_of_ble_eq_true rfl)⟩ g1 rfl rfl hl.1 rfl (Nat.le_of_ble_eq_true rfl) dX11_harms_2 ⟨(Nat.zero_le _), (Nat.zero_le _)⟩) (fun H locs hw => ?_)
  refine m_astore_n (x := r2) (i := 3) (lv' := [(3, va_rf r2), (0, va_rf this), (1, .int a1), (2, .int a2)]) hx hb dX11_harms_5 rfl hl (by decide) rfl (fun ls hl => ?_)
  refine m_aload_n (x := r2) hx hb dX11_harms_6 rfl (lv_at hl 0 rfl) ?_
  refine m_ifnull (x := r2) (tgt := 17) hx hb dX11_harms_7 (by decide) (fun c3 => ?_) (fun c3 => ?_)
  · replace h := itt h c3
    refine m_aload_n (x := this) hx hb dX11_harms_17 rfl (lv_at hl 1 rfl) ?_
    refine m_aload_n (x := r2) hx hb dX11_harms_18 rfl (lv_at hl 0 rfl) ?_
    refine m_ifnull (x := r2) (tgt := 26) hx hb dX11_harms_19 (by decide) (fun c4 => ?_) (fun c4 => ?_)
    · replace h := itt h c4
      refine lv_iconst (v := (0 : Int32)) hx hb dX11_harms_26 (by decide) ?_
      obtain ⟨g5, h⟩ := itg h
      obtain ⟨r6, hr6, h⟩ := ob h
      refine m_contI hC hw (m_runV hC hw (x := this) (ci := 14) (N := 11) (C := RX11) (T := TX11) (n := 1) (av := [.int (0 : Int32)]) (rest := []) (c_X11_refuseAsked (G := G) (l := l) hr6) gX11_harms_X11_refuseAsked rfl (by decide +kernel) ⟨(Nat.le_of_ble_eq_true rfl), (Nat.le_of_ble_eq_true rfl)⟩ g5 rfl rfl hl.1 rfl (Nat.le_of_ble_eq_true rfl) dX11_harms_27 ⟨(Nat.zero_le _), (Nat.zero_le _)⟩) (fun H locs hw => ?_)
      replace h := Option.some.inj h
      subst h
      exact RET hw ⟨(Nat.zero_le _), (Nat.zero_le _)⟩ dX11_harms_30
    · replace h := itf h c4
      refine lv_iconst (v := (1 : Int32)) hx hb dX11_harms_22 (by decide) ?_
      refine lv_goto (tgt := 27) hx hb dX11_harms_23 (by decide) ?_
      obtain ⟨g7, h⟩ := itg h
      obtain ⟨r8, hr8, h⟩ := ob h
      refine m_contI hC hw (m_runV hC hw (x := this) (ci := 14) (N := 11) (C := RX11) (T := TX11) (n := 1) (av := [.int (1 : Int32)]) (rest := []) (c_X11_refuseAsked (G := G) (l := l) hr8) gX11_harms_X11_refuseAsked rfl (by decide +kernel) ⟨(Nat.le_of_ble_eq_true rfl), (Nat.le_of_ble_eq_true rfl)⟩ g7 rfl rfl hl.1 rfl (Nat.le_of_ble_eq_true rfl) dX11_harms_27 ⟨(Nat.zero_le _), (Nat.zero_le _)⟩) (fun H locs hw => ?_)
      replace h := Option.some.inj h
      subst h
      exact RET hw ⟨(Nat.zero_le _), (Nat.zero_le _)⟩ dX11_harms_30
  · replace h := itf h c3
    refine lv_iload_n hx hb dX11_harms_10 rfl (lv_at hl 3 rfl) ?_
    obtain ⟨r9, hr9, h⟩ := ob h
    refine m_contI hC hw (m_runS hC hw (n := 1) (av := [.int a2]) (rest := []) (c_X11_isDay (G := G) (l := l) hr9) gX11_harms_X11_isDay rfl (by decide +kernel) ⟨(Nat.le_of_ble_eq_true rfl), (Nat.le_of_ble_eq_true rfl)⟩ rfl hl.1 rfl (Nat.le_of_ble_eq_true rfl) dX11_harms_11 ⟨(Nat.zero_le _), (Nat.zero_le _)⟩) (fun H locs hw => ?_)
    refine lv_if_ne (tgt := 31) hx hb dX11_harms_14 (by decide) (fun c10 => ?_) (fun c10 => ?_)
    · replace h := itf h c10
      refine m_aload_n (x := this) hx hb dX11_harms_31 rfl (lv_at hl 1 rfl) ?_
      refine m_aload_n (x := r2) hx hb dX11_harms_32 rfl (lv_at hl 0 rfl) ?_
      refine lv_iload_n hx hb dX11_harms_33 rfl (lv_at hl 3 rfl) ?_
      obtain ⟨g11, h⟩ := itg h
      obtain ⟨r12, hr12, h⟩ := ob h
      refine m_contI hC hw (m_runV hC hw (x := r2) (ci := 13) (N := 9) (C := RX10) (T := TX10) (n := 1) (av := [.int a2]) (rest := [va_rf this]) (c_X10_harmsOn (G := G) (l := l) hr12) gX11_harms_X10_harmsOn rfl (by decide +kernel) ⟨(Nat.le_of_ble_eq_true rfl), (Nat.le_of_ble_eq_true rfl)⟩ g11 rfl rfl hl.1 rfl (by simp [va_rf_cat, cat_i, cat_r, cat_l]) dX11_harms_34 ⟨(Nat.zero_le _), (Nat.zero_le _)⟩) (fun H locs hw => ?_)
      obtain ⟨g13, h⟩ := itg h
      obtain ⟨r14, hr14, h⟩ := ob h
      refine m_contI hC hw (m_runV hC hw (x := this) (ci := 14) (N := 11) (C := RX11) (T := TX11) (n := 1) (av := [.int r12]) (rest := []) (c_X11_answer (G := G) (l := l) hr14) gX11_harms_X11_answer rfl (by decide +kernel) ⟨(Nat.le_of_ble_eq_true rfl), (Nat.le_of_ble_eq_true rfl)⟩ g13 rfl rfl hl.1 rfl (Nat.le_of_ble_eq_true rfl) dX11_harms_37 ⟨(Nat.zero_le _), (Nat.zero_le _)⟩) (fun H locs hw => ?_)
      replace h := Option.some.inj h
      subst h
      exact RET hw ⟨(Nat.zero_le _), (Nat.zero_le _)⟩ dX11_harms_40
    · replace h := itt h c10
      refine m_aload_n (x := this) hx hb dX11_harms_17 rfl (lv_at hl 1 rfl) ?_
      refine m_aload_n (x := r2) hx hb dX11_harms_18 rfl (lv_at hl 0 rfl) ?_
      refine m_ifnull (x := r2) (tgt := 26) hx hb dX11_harms_19 (by decide) (fun c15 => ?_) (fun c15 => ?_)
      · replace h := itt h c15
        refine lv_iconst (v := (0 : Int32)) hx hb dX11_harms_26 (by decide) ?_
        obtain ⟨g16, h⟩ := itg h
        obtain ⟨r17, hr17, h⟩ := ob h
        refine m_contI hC hw (m_runV hC hw (x := this) (ci := 14) (N := 11) (C := RX11) (T := TX11) (n := 1) (av := [.int (0 : Int32)]) (rest := []) (c_X11_refuseAsked (G := G) (l := l) hr17) gX11_harms_X11_refuseAsked rfl (by decide +kernel) ⟨(Nat.le_of_ble_eq_true rfl), (Nat.le_of_ble_eq_true rfl)⟩ g16 rfl rfl hl.1 rfl (Nat.le_of_ble_eq_true rfl) dX11_harms_27 ⟨(Nat.zero_le _), (Nat.zero_le _)⟩) (fun H locs hw => ?_)
        replace h := Option.some.inj h
        subst h
        exact RET hw ⟨(Nat.zero_le _), (Nat.zero_le _)⟩ dX11_harms_30
      · replace h := itf h c15
        refine lv_iconst (v := (1 : Int32)) hx hb dX11_harms_22 (by decide) ?_
        refine lv_goto (tgt := 27) hx hb dX11_harms_23 (by decide) ?_
        obtain ⟨g18, h⟩ := itg h
        obtain ⟨r19, hr19, h⟩ := ob h
        refine m_contI hC hw (m_runV hC hw (x := this) (ci := 14) (N := 11) (C := RX11) (T := TX11) (n := 1) (av := [.int (1 : Int32)]) (rest := []) (c_X11_refuseAsked (G := G) (l := l) hr19) gX11_harms_X11_refuseAsked rfl (by decide +kernel) ⟨(Nat.le_of_ble_eq_true rfl), (Nat.le_of_ble_eq_true rfl)⟩ g18 rfl rfl hl.1 rfl (Nat.le_of_ble_eq_true rfl) dX11_harms_27 ⟨(Nat.zero_le _), (Nat.zero_le _)⟩) (fun H locs hw => ?_)
        replace h := Option.some.inj h
        subst h
        exact RET hw ⟨(Nat.zero_le _), (Nat.zero_le _)⟩ dX11_harms_30

def f_X11_answerByte (B : Nat) (M : Mem) (this : Option Nat) (a1 : Option Nat) (a2 : Int32) : Option (Int32 × Mem) := if a2 < 0 then (if isO M this 14 = true then ((f_X11_refuse B M this (1 : Int32)).bind fun r3 => some (r3.1, r3.2)) else none) else (if isO M a1 0 = true then ((f_J0_length_8abf5 M a1).bind fun r5 => if a2 < r5 then (if isO M a1 0 = true then ((f_J0_charAt_5068e M a1 a2).bind fun r8 => if isO M this 14 = true then ((f_X11_answer B M this r8).bind fun r10 => some (r10.1, r10.2)) else none) else none) else (if isO M this 14 = true then ((f_X11_refuse B M this (1 : Int32)).bind fun r12 => some (r12.1, r12.2)) else none)) else none)
def rmX11_answerByte : Room := { frames := 4, cells := 0, slots := 0, locals := 85 }
set_option maxHeartbeats 4000000 in
set_option maxRecDepth 100000 in
theorem c_X11_answerByte {G : wG} {l : Launch} {M : Mem} {sz : Nat} {this : Option Nat} {a1 : Option Nat} {a2 : Int32} {r : Int32 × Mem} (h : f_X11_answerByte G.2.2.1 M this a1 a2 = some r) : CtrI G l yX11_answerByte wsX11_answerByte rmX11_answerByte [va_rf this, va_rf a1, .int a2] M sz r.1 r.2 sz := by
  refine m_startI (own := RX11) (cc := cX11_answerByte) (maxL := 3) (lv0 := [(0, va_rf this), (1, va_rf a1), (2, .int a2)]) (by decide) rfl rfl (by simp [lg_sl, va_rf_cat, cat_i, cat_r]) (by simp [lv_args, va_rf_cat, cat_i, cat_r]) ?_
  intro p e s m args below meth c Q hC hname RET hsz hw ls hl
  have hx := hC.1
  have hb := hC.2.1
  unfold f_X11_answerByte at h
  refine lv_iload_n hx hb dX11_answerByte_0 rfl (lv_at hl 2 rfl) ?_
  refine lv_if_lt (tgt := 12) hx hb dX11_answerByte_1 (by decide) (fun c1 => ?_) (fun c1 => ?_)
  · replace h := itt h c1
    refine m_aload_n (x := this) hx hb dX11_answerByte_12 rfl (lv_at hl 0 rfl) ?_
    refine lv_iconst (v := (1 : Int32)) hx hb dX11_answerByte_13 (by decide) ?_
    obtain ⟨g2, h⟩ := itg h
    obtain ⟨r3, hr3, h⟩ := ob h
    refine m_contI hC hw (m_runV hC hw (x := this) (ci := 14) (N := 11) (C := RX11) (T := TX11) (n := 1) (av := [.int (1 : Int32)]) (rest := []) (c_X11_refuse (G := G) (l := l) hr3) gX11_answerByte_X11_refuse rfl (by decide +kernel) ⟨(Nat.le_of_ble_eq_true rfl), (Nat.le_of_ble_eq_true rfl)⟩ g2 rfl rfl hl.1 rfl (Nat.le_of_ble_eq_true rfl) dX11_answerByte_14 ⟨(Nat.zero_le _), (Nat.zero_le _)⟩) (fun H locs hw => ?_)
    replace h := Option.some.inj h
    subst h
    exact RET hw ⟨(Nat.zero_le _), (Nat.zero_le _)⟩ dX11_answerByte_17
  · replace h := itf h c1
    refine lv_iload_n hx hb dX11_answerByte_4 rfl (lv_at hl 2 rfl) ?_
    refine m_aload_n (x := a1) hx hb dX11_answerByte_5 rfl (lv_at hl 1 rfl) ?_
    obtain ⟨g4, h⟩ := itg h
    obtain ⟨r5, hr5, h⟩ := ob h
    refine m_contI hC hw (m_runV hC hw (x := a1) (ci := 0) (N := 4) (C := RJ0) (T := TJ0) (n := 0) (av := []) (rest := [.int a2]) (c_J0_length_8abf5 (G := G) (l := l) hr5) gX11_answerByte_J0_length_8abf5 rfl (by decide +kernel) ⟨(Nat.le_of_ble_eq_true rfl), (Nat.le_of_ble_eq_true rfl)⟩ g4 rfl rfl hl.1 rfl (Nat.le_of_ble_eq_true rfl) dX11_answerByte_6 ⟨(Nat.zero_le _), (Nat.zero_le _)⟩) (fun H locs hw => ?_)
    refine lv_icmp_lt (tgt := 18) hx hb dX11_answerByte_9 (by decide) (fun c6 => ?_) (fun c6 => ?_)
    · replace h := itt h c6
      refine m_aload_n (x := this) hx hb dX11_answerByte_18 rfl (lv_at hl 0 rfl) ?_
      refine m_aload_n (x := a1) hx hb dX11_answerByte_19 rfl (lv_at hl 1 rfl) ?_
      refine lv_iload_n hx hb dX11_answerByte_20 rfl (lv_at hl 2 rfl) ?_
      obtain ⟨g7, h⟩ := itg h
      obtain ⟨r8, hr8, h⟩ := ob h
      refine m_contI hC hw (m_runV hC hw (x := a1) (ci := 0) (N := 4) (C := RJ0) (T := TJ0) (n := 1) (av := [.int a2]) (rest := [va_rf this]) (c_J0_charAt_5068e (G := G) (l := l) hr8) gX11_answerByte_J0_charAt_5068e rfl (by decide +kernel) ⟨(Nat.le_of_ble_eq_true rfl), (Nat.le_of_ble_eq_true rfl)⟩ g7 rfl rfl hl.1 rfl (by simp [va_rf_cat, cat_i, cat_r, cat_l]) dX11_answerByte_21 ⟨(Nat.zero_le _), (Nat.zero_le _)⟩) (fun H locs hw => ?_)
      obtain ⟨g9, h⟩ := itg h
      obtain ⟨r10, hr10, h⟩ := ob h
      refine m_contI hC hw (m_runV hC hw (x := this) (ci := 14) (N := 11) (C := RX11) (T := TX11) (n := 1) (av := [.int r8]) (rest := []) (c_X11_answer (G := G) (l := l) hr10) gX11_answerByte_X11_answer rfl (by decide +kernel) ⟨(Nat.le_of_ble_eq_true rfl), (Nat.le_of_ble_eq_true rfl)⟩ g9 rfl rfl hl.1 rfl (Nat.le_of_ble_eq_true rfl) dX11_answerByte_24 ⟨(Nat.zero_le _), (Nat.zero_le _)⟩) (fun H locs hw => ?_)
      replace h := Option.some.inj h
      subst h
      exact RET hw ⟨(Nat.zero_le _), (Nat.zero_le _)⟩ dX11_answerByte_27
    · replace h := itf h c6
      refine m_aload_n (x := this) hx hb dX11_answerByte_12 rfl (lv_at hl 0 rfl) ?_
      refine lv_iconst (v := (1 : Int32)) hx hb dX11_answerByte_13 (by decide) ?_
      obtain ⟨g11, h⟩ := itg h
      obtain ⟨r12, hr12, h⟩ := ob h
      refine m_contI hC hw (m_runV hC hw (x := this) (ci := 14) (N := 11) (C := RX11) (T := TX11) (n := 1) (av := [.int (1 : Int32)]) (rest := []) (c_X11_refuse (G := G) (l := l) hr12) gX11_answerByte_X11_refuse rfl (by decide +kernel) ⟨(Nat.le_of_ble_eq_true rfl), (Nat.le_of_ble_eq_true rfl)⟩ g11 rfl rfl hl.1 rfl (Nat.le_of_ble_eq_true rfl) dX11_answerByte_14 ⟨(Nat.zero_le _), (Nat.zero_le _)⟩) (fun H locs hw => ?_)
      replace h := Option.some.inj h
      subst h
      exact RET hw ⟨(Nat.zero_le _), (Nat.zero_le _)⟩ dX11_answerByte_17

def f_X11_note (B : Nat) (n : Nat) (M : Mem) (this : Option Nat) (a1 : Int32) (a2 : Int32) (a3 : Int32) : Option (Int32 × Mem) := if isO M this 14 = true then ((f_X11_thingAt M this a1).bind fun r2 => if r2 = none then (if r2 = none then (if isO M this 14 = true then ((f_X11_refuseAsked B M this (0 : Int32)).bind fun r6 => some (r6.1, r6.2)) else none) else (if isO M this 14 = true then ((f_X11_refuseAsked B M this (1 : Int32)).bind fun r8 => some (r8.1, r8.2)) else none)) else ((f_X11_isDay M a2).bind fun r9 => if r9 = 0 then (if r2 = none then (if isO M this 14 = true then ((f_X11_refuseAsked B M this (0 : Int32)).bind fun r23 => some (r23.1, r23.2)) else none) else (if isO M this 14 = true then ((f_X11_refuseAsked B M this (1 : Int32)).bind fun r25 => some (r25.1, r25.2)) else none)) else (if isO M r2 13 = true then ((f_X10_latestReport n M r2 a2).bind fun r12 => if isO M r2 13 = true then ((f_X10_reportAt M r2 r12).bind fun r14 => if r14 = none then (if isO M this 14 = true then ((f_X11_refuse B M this (1 : Int32)).bind fun r20 => some (r20.1, r20.2)) else none) else ((gR M r14 11 1).bind fun v16 => if isO M this 14 = true then ((f_X11_answerByte B M this v16 a3).bind fun r18 => some (r18.1, r18.2)) else none)) else none) else none))) else none
def rmX11_note : Room := { frames := 5, cells := 0, slots := 0, locals := 107 }
theorem k_X11_note_277 : Cond.fieldLink RX11 277 "LoanBook$Report" "written" "Ljava/lang/String;" ∈ wsX11_note := List.mem_of_getElem? (i := 1) rfl
theorem ki_X11_note_X8 : ∀ w ∈ u_ws RX8 TX8 4, w ∈ wsX11_note := sub_r [112, 113, 114, 115] (by decide +kernel)
set_option maxHeartbeats 4000000 in
set_option maxRecDepth 100000 in
theorem c_X11_note {G : wG} {l : Launch} {n : Nat} {M : Mem} {sz : Nat} {this : Option Nat} {a1 : Int32} {a2 : Int32} {a3 : Int32} {r : Int32 × Mem} (h : f_X11_note G.2.2.1 n M this a1 a2 a3 = some r) : CtrI G l yX11_note wsX11_note rmX11_note [va_rf this, .int a1, .int a2, .int a3] M sz r.1 r.2 sz := by
  refine m_startI (own := RX11) (cc := cX11_note) (maxL := 6) (lv0 := [(0, va_rf this), (1, .int a1), (2, .int a2), (3, .int a3)]) (by decide) rfl rfl (by simp [lg_sl, va_rf_cat, cat_i, cat_r]) (by simp [lv_args, va_rf_cat, cat_i, cat_r]) ?_
  intro p e s m args below meth c Q hC hname RET hsz hw ls hl
  have hx := hC.1
  have hb := hC.2.1
  unfold f_X11_note at h
  refine m_aload_n (x := this) hx hb dX11_note_0 rfl (lv_at hl 0 rfl) ?_
  refine lv_iload_n hx hb dX11_note_1 rfl (lv_at hl 1 rfl) ?_
  obtain ⟨g1, h⟩ := itg h
  obtain ⟨r2, hr2, h⟩ := ob h
  refine m_contQ hC hw (m_runV hC hw (x := this) (ci := 14) (N := 11) (C := RX11) (T := TX11) (n := 1) (av := [.int a1]) (rest := []) (c_X11_thingAt (G := G) (l := l) hr2) gX11_note_X11_thingAt rfl (by decide +kernel) ⟨(Nat.le_of_ble_eq_true rfl), (Nat.le_of_ble_eq_true rfl)⟩ g1 rfl rfl hl.1 rfl (Nat.le_of_ble_eq_true rfl) dX11_note_2 ⟨(Nat.zero_le _), (Nat.zero_le _)⟩) (fun H locs hw => ?_)
  refine m_astore (x := r2) (lv' := [(4, va_rf r2), (0, va_rf this), (1, .int a1), (2, .int a2), (3, .int a3)]) hx hb dX11_note_5 hl (by decide) rfl (fun ls hl => ?_)
  refine m_aload (x := r2) hx hb dX11_note_7 (lv_at hl 0 rfl) ?_
  refine m_ifnull (x := r2) (tgt := 19) hx hb dX11_note_9 (by decide) (fun c3 => ?_) (fun c3 => ?_)
  · replace h := itt h c3
    refine m_aload_n (x := this) hx hb dX11_note_19 rfl (lv_at hl 1 rfl) ?_
    refine m_aload (x := r2) hx hb dX11_note_20 (lv_at hl 0 rfl) ?_
    refine m_ifnull (x := r2) (tgt := 29) hx hb dX11_note_22 (by decide) (fun c4 => ?_) (fun c4 => ?_)
    · replace h := itt h c4
      refine lv_iconst (v := (0 : Int32)) hx hb dX11_note_29 (by decide) ?_
      obtain ⟨g5, h⟩ := itg h
      obtain ⟨r6, hr6, h⟩ := ob h
      refine m_contI hC hw (m_runV hC hw (x := this) (ci := 14) (N := 11) (C := RX11) (T := TX11) (n := 1) (av := [.int (0 : Int32)]) (rest := []) (c_X11_refuseAsked (G := G) (l := l) hr6) gX11_note_X11_refuseAsked rfl (by decide +kernel) ⟨(Nat.le_of_ble_eq_true rfl), (Nat.le_of_ble_eq_true rfl)⟩ g5 rfl rfl hl.1 rfl (Nat.le_of_ble_eq_true rfl) dX11_note_30 ⟨(Nat.zero_le _), (Nat.zero_le _)⟩) (fun H locs hw => ?_)
      replace h := Option.some.inj h
      subst h
      exact RET hw ⟨(Nat.zero_le _), (Nat.zero_le _)⟩ dX11_note_33
    · replace h := itf h c4
      refine lv_iconst (v := (1 : Int32)) hx hb dX11_note_25 (by decide) ?_
      refine lv_goto (tgt := 30) hx hb dX11_note_26 (by decide) ?_
      obtain ⟨g7, h⟩ := itg h
      obtain ⟨r8, hr8, h⟩ := ob h
      refine m_contI hC hw (m_runV hC hw (x := this) (ci := 14) (N := 11) (C := RX11) (T := TX11) (n := 1) (av := [.int (1 : Int32)]) (rest := []) (c_X11_refuseAsked (G := G) (l := l) hr8) gX11_note_X11_refuseAsked rfl (by decide +kernel) ⟨(Nat.le_of_ble_eq_true rfl), (Nat.le_of_ble_eq_true rfl)⟩ g7 rfl rfl hl.1 rfl (Nat.le_of_ble_eq_true rfl) dX11_note_30 ⟨(Nat.zero_le _), (Nat.zero_le _)⟩) (fun H locs hw => ?_)
      replace h := Option.some.inj h
      subst h
      exact RET hw ⟨(Nat.zero_le _), (Nat.zero_le _)⟩ dX11_note_33
  · replace h := itf h c3
    refine lv_iload_n hx hb dX11_note_12 rfl (lv_at hl 3 rfl) ?_
    obtain ⟨r9, hr9, h⟩ := ob h
    refine m_contI hC hw (m_runS hC hw (n := 1) (av := [.int a2]) (rest := []) (c_X11_isDay (G := G) (l := l) hr9) gX11_note_X11_isDay rfl (by decide +kernel) ⟨(Nat.le_of_ble_eq_true rfl), (Nat.le_of_ble_eq_true rfl)⟩ rfl hl.1 rfl (Nat.le_of_ble_eq_true rfl) dX11_note_13 ⟨(Nat.zero_le _), (Nat.zero_le _)⟩) (fun H locs hw => ?_)
    refine lv_if_ne (tgt := 34) hx hb dX11_note_16 (by decide) (fun c10 => ?_) (fun c10 => ?_)
    · replace h := itf h c10
      refine m_aload (x := r2) hx hb dX11_note_34 (lv_at hl 0 rfl) ?_
      refine m_aload (x := r2) hx hb dX11_note_36 (lv_at hl 0 rfl) ?_
      refine lv_iload_n hx hb dX11_note_38 rfl (lv_at hl 3 rfl) ?_
      obtain ⟨g11, h⟩ := itg h
      obtain ⟨r12, hr12, h⟩ := ob h
      refine m_contI hC hw (m_runV hC hw (x := r2) (ci := 13) (N := 9) (C := RX10) (T := TX10) (n := 1) (av := [.int a2]) (rest := [va_rf r2]) (c_X10_latestReport (G := G) (l := l) hr12) gX11_note_X10_latestReport rfl (by decide +kernel) ⟨(Nat.le_of_ble_eq_true rfl), (Nat.le_of_ble_eq_true rfl)⟩ g11 rfl rfl hl.1 rfl (by simp [va_rf_cat, cat_i, cat_r, cat_l]) dX11_note_39 ⟨(Nat.zero_le _), (Nat.zero_le _)⟩) (fun H locs hw => ?_)
      obtain ⟨g13, h⟩ := itg h
      obtain ⟨r14, hr14, h⟩ := ob h
      refine m_contQ hC hw (m_runV hC hw (x := r2) (ci := 13) (N := 9) (C := RX10) (T := TX10) (n := 1) (av := [.int r12]) (rest := []) (c_X10_reportAt (G := G) (l := l) hr14) gX11_note_X10_reportAt rfl (by decide +kernel) ⟨(Nat.le_of_ble_eq_true rfl), (Nat.le_of_ble_eq_true rfl)⟩ g13 rfl rfl hl.1 rfl (Nat.le_of_ble_eq_true rfl) dX11_note_42 ⟨(Nat.zero_le _), (Nat.zero_le _)⟩) (fun H locs hw => ?_)
      refine m_astore (x := r14) (lv' := [(5, va_rf r14), (4, va_rf r2), (0, va_rf this), (1, .int a1), (2, .int a2), (3, .int a3)]) hx hb dX11_note_45 hl (by decide) (by simp [va_rf_cat, cat_i, cat_l]) (fun ls hl => ?_)
      refine m_aload (x := r14) hx hb dX11_note_47 (lv_at hl 0 rfl) ?_
      refine m_ifnonnull (x := r14) (tgt := 58) hx hb dX11_note_49 (by decide) (fun c15 => ?_) (fun c15 => ?_)
      · replace h := itf h c15
        refine m_aload_n (x := this) hx hb dX11_note_58 rfl (lv_at hl 2 rfl) ?_
        refine m_aload (x := r14) hx hb dX11_note_59 (lv_at hl 0 rfl) ?_
        obtain ⟨v16, hv16, h⟩ := ob h
        refine m_getR hC hw (C := RX8) (T := TX8) (N := 4) hv16 ki_X11_note_X8 rfl (by decide) k_X11_note_277 (fun _ z => z) dX11_note_61 ?_
        refine lv_iload_n hx hb dX11_note_64 rfl (lv_at hl 5 rfl) ?_
        obtain ⟨g17, h⟩ := itg h
        obtain ⟨r18, hr18, h⟩ := ob h
        refine m_contI hC hw (m_runV hC hw (x := this) (ci := 14) (N := 11) (C := RX11) (T := TX11) (n := 2) (av := [va_rf v16, .int a3]) (rest := []) (c_X11_answerByte (G := G) (l := l) hr18) gX11_note_X11_answerByte rfl (by decide +kernel) ⟨(Nat.le_of_ble_eq_true rfl), (Nat.le_of_ble_eq_true rfl)⟩ g17 rfl rfl hl.1 rfl (Nat.le_of_ble_eq_true rfl) dX11_note_65 ⟨(Nat.zero_le _), (Nat.zero_le _)⟩) (fun H locs hw => ?_)
        replace h := Option.some.inj h
        subst h
        exact RET hw ⟨(Nat.zero_le _), (Nat.zero_le _)⟩ dX11_note_68
      · replace h := itt h c15
        refine m_aload_n (x := this) hx hb dX11_note_52 rfl (lv_at hl 2 rfl) ?_
        refine lv_iconst (v := (1 : Int32)) hx hb dX11_note_53 (by decide) ?_
        obtain ⟨g19, h⟩ := itg h
        obtain ⟨r20, hr20, h⟩ := ob h
        refine m_contI hC hw (m_runV hC hw (x := this) (ci := 14) (N := 11) (C := RX11) (T := TX11) (n := 1) (av := [.int (1 : Int32)]) (rest := []) (c_X11_refuse (G := G) (l := l) hr20) gX11_note_X11_refuse rfl (by decide +kernel) ⟨(Nat.le_of_ble_eq_true rfl), (Nat.le_of_ble_eq_true rfl)⟩ g19 rfl rfl hl.1 rfl (Nat.le_of_ble_eq_true rfl) dX11_note_54 ⟨(Nat.zero_le _), (Nat.zero_le _)⟩) (fun H locs hw => ?_)
        replace h := Option.some.inj h
        subst h
        exact RET hw ⟨(Nat.zero_le _), (Nat.zero_le _)⟩ dX11_note_57
    · replace h := itt h c10
      refine m_aload_n (x := this) hx hb dX11_note_19 rfl (lv_at hl 1 rfl) ?_
      refine m_aload (x := r2) hx hb dX11_note_20 (lv_at hl 0 rfl) ?_
      refine m_ifnull (x := r2) (tgt := 29) hx hb dX11_note_22 (by decide) (fun c21 => ?_) (fun c21 => ?_)
      · replace h := itt h c21
        refine lv_iconst (v := (0 : Int32)) hx hb dX11_note_29 (by decide) ?_
        obtain ⟨g22, h⟩ := itg h
        obtain ⟨r23, hr23, h⟩ := ob h
        refine m_contI hC hw (m_runV hC hw (x := this) (ci := 14) (N := 11) (C := RX11) (T := TX11) (n := 1) (av := [.int (0 : Int32)]) (rest := []) (c_X11_refuseAsked (G := G) (l := l) hr23) gX11_note_X11_refuseAsked rfl (by decide +kernel) ⟨(Nat.le_of_ble_eq_true rfl), (Nat.le_of_ble_eq_true rfl)⟩ g22 rfl rfl hl.1 rfl (Nat.le_of_ble_eq_true rfl) dX11_note_30 ⟨(Nat.zero_le _), (Nat.zero_le _)⟩) (fun H locs hw => ?_)
        replace h := Option.some.inj h
        subst h
        exact RET hw ⟨(Nat.zero_le _), (Nat.zero_le _)⟩ dX11_note_33
      · replace h := itf h c21
        refine lv_iconst (v := (1 : Int32)) hx hb dX11_note_25 (by decide) ?_
        refine lv_goto (tgt := 30) hx hb dX11_note_26 (by decide) ?_
        obtain ⟨g24, h⟩ := itg h
        obtain ⟨r25, hr25, h⟩ := ob h
        refine m_contI hC hw (m_runV hC hw (x := this) (ci := 14) (N := 11) (C := RX11) (T := TX11) (n := 1) (av := [.int (1 : Int32)]) (rest := []) (c_X11_refuseAsked (G := G) (l := l) hr25) gX11_note_X11_refuseAsked rfl (by decide +kernel) ⟨(Nat.le_of_ble_eq_true rfl), (Nat.le_of_ble_eq_true rfl)⟩ g24 rfl rfl hl.1 rfl (Nat.le_of_ble_eq_true rfl) dX11_note_30 ⟨(Nat.zero_le _), (Nat.zero_le _)⟩) (fun H locs hw => ?_)
        replace h := Option.some.inj h
        subst h
        exact RET hw ⟨(Nat.zero_le _), (Nat.zero_le _)⟩ dX11_note_33

def f_X11_damage (B : Nat) (n : Nat) (M : Mem) (this : Option Nat) (a1 : Int32) (a2 : Int32) : Option (Int32 × Mem) := if isO M this 14 = true then ((f_X11_thingAt M this a1).bind fun r2 => if r2 = none then (if r2 = none then (if isO M this 14 = true then ((f_X11_refuseAsked B M this (0 : Int32)).bind fun r6 => some (r6.1, r6.2)) else none) else (if isO M this 14 = true then ((f_X11_refuseAsked B M this (1 : Int32)).bind fun r8 => some (r8.1, r8.2)) else none)) else ((f_X11_isDay M a2).bind fun r9 => if r9 = 0 then (if r2 = none then (if isO M this 14 = true then ((f_X11_refuseAsked B M this (0 : Int32)).bind fun r24 => some (r24.1, r24.2)) else none) else (if isO M this 14 = true then ((f_X11_refuseAsked B M this (1 : Int32)).bind fun r26 => some (r26.1, r26.2)) else none)) else (if isO M r2 13 = true then ((f_X10_reportOn n M r2 a2).bind fun r12 => if r12 = none then (if isO M this 14 = true then ((f_X11_refuse B M this (1 : Int32)).bind fun r21 => some (r21.1, r21.2)) else none) else (if isO M r2 13 = true then ((f_X10_latestReport n M r2 a2).bind fun r15 => if isO M r2 13 = true then ((f_X10_damageTold n M r2 r15).bind fun r17 => if isO M this 14 = true then ((f_X11_answer B M this r17).bind fun r19 => some (r19.1, r19.2)) else none) else none) else none)) else none))) else none
def rmX11_damage : Room := { frames := 5, cells := 0, slots := 0, locals := 108 }
set_option maxHeartbeats 4000000 in
set_option maxRecDepth 100000 in
theorem c_X11_damage {G : wG} {l : Launch} {n : Nat} {M : Mem} {sz : Nat} {this : Option Nat} {a1 : Int32} {a2 : Int32} {r : Int32 × Mem} (h : f_X11_damage G.2.2.1 n M this a1 a2 = some r) : CtrI G l yX11_damage wsX11_damage rmX11_damage [va_rf this, .int a1, .int a2] M sz r.1 r.2 sz := by
  refine m_startI (own := RX11) (cc := cX11_damage) (maxL := 4) (lv0 := [(0, va_rf this), (1, .int a1), (2, .int a2)]) (by decide) rfl rfl (by simp [lg_sl, va_rf_cat, cat_i, cat_r]) (by simp [lv_args, va_rf_cat, cat_i, cat_r]) ?_
  intro p e s m args below meth c Q hC hname RET hsz hw ls hl
  have hx := hC.1
  have hb := hC.2.1
  unfold f_X11_damage at h
  refine m_aload_n (x := this) hx hb dX11_damage_0 rfl (lv_at hl 0 rfl) ?_
  refine lv_iload_n hx hb dX11_damage_1 rfl (lv_at hl 1 rfl) ?_
  obtain ⟨g1, h⟩ := itg h
  obtain ⟨r2, hr2, h⟩ := ob h
  refine m_contQ hC hw (m_runV hC hw (x := this) (ci := 14) (N := 11) (C := RX11) (T := TX11) (n := 1) (av := [.int a1]) (rest := []) (c_X11_thingAt (G := G) (l := l) hr2) gX11_damage_X11_thingAt rfl (by decide +kernel) ⟨(Nat.le_of_ble_eq_true rfl), (Nat.le_of_ble_eq_true rfl)⟩ g1 rfl rfl hl.1 rfl (Nat.le_of_ble_eq_true rfl) dX11_damage_2 ⟨(Nat.zero_le _), (Nat.zero_le _)⟩) (fun H locs hw => ?_)
  refine m_astore_n (x := r2) (i := 3) (lv' := [(3, va_rf r2), (0, va_rf this), (1, .int a1), (2, .int a2)]) hx hb dX11_damage_5 rfl hl (by decide) rfl (fun ls hl => ?_)
  refine m_aload_n (x := r2) hx hb dX11_damage_6 rfl (lv_at hl 0 rfl) ?_
  refine m_ifnull (x := r2) (tgt := 17) hx hb dX11_damage_7 (by decide) (fun c3 => ?_) (fun c3 => ?_)
  · replace h := itt h c3
    refine m_aload_n (x := this) hx hb dX11_damage_17 rfl (lv_at hl 1 rfl) ?_
    refine m_aload_n (x := r2) hx hb dX11_damage_18 rfl (lv_at hl 0 rfl) ?_
    refine m_ifnull (x := r2) (tgt := 26) hx hb dX11_damage_19 (by decide) (fun c4 => ?_) (fun c4 => ?_)
    · replace h := itt h c4
      refine lv_iconst (v := (0 : Int32)) hx hb dX11_damage_26 (by decide) ?_
      obtain ⟨g5, h⟩ := itg h
      obtain ⟨r6, hr6, h⟩ := ob h
      refine m_contI hC hw (m_runV hC hw (x := this) (ci := 14) (N := 11) (C := RX11) (T := TX11) (n := 1) (av := [.int (0 : Int32)]) (rest := []) (c_X11_refuseAsked (G := G) (l := l) hr6) gX11_damage_X11_refuseAsked rfl (by decide +kernel) ⟨(Nat.le_of_ble_eq_true rfl), (Nat.le_of_ble_eq_true rfl)⟩ g5 rfl rfl hl.1 rfl (Nat.le_of_ble_eq_true rfl) dX11_damage_27 ⟨(Nat.zero_le _), (Nat.zero_le _)⟩) (fun H locs hw => ?_)
      replace h := Option.some.inj h
      subst h
      exact RET hw ⟨(Nat.zero_le _), (Nat.zero_le _)⟩ dX11_damage_30
    · replace h := itf h c4
      refine lv_iconst (v := (1 : Int32)) hx hb dX11_damage_22 (by decide) ?_
      refine lv_goto (tgt := 27) hx hb dX11_damage_23 (by decide) ?_
      obtain ⟨g7, h⟩ := itg h
      obtain ⟨r8, hr8, h⟩ := ob h
      refine m_contI hC hw (m_runV hC hw (x := this) (ci := 14) (N := 11) (C := RX11) (T := TX11) (n := 1) (av := [.int (1 : Int32)]) (rest := []) (c_X11_refuseAsked (G := G) (l := l) hr8) gX11_damage_X11_refuseAsked rfl (by decide +kernel) ⟨(Nat.le_of_ble_eq_true rfl), (Nat.le_of_ble_eq_true rfl)⟩ g7 rfl rfl hl.1 rfl (Nat.le_of_ble_eq_true rfl) dX11_damage_27 ⟨(Nat.zero_le _), (Nat.zero_le _)⟩) (fun H locs hw => ?_)
      replace h := Option.some.inj h
      subst h
      exact RET hw ⟨(Nat.zero_le _), (Nat.zero_le _)⟩ dX11_damage_30
  · replace h := itf h c3
    refine lv_iload_n hx hb dX11_damage_10 rfl (lv_at hl 3 rfl) ?_
    obtain ⟨r9, hr9, h⟩ := ob h
    refine m_contI hC hw (m_runS hC hw (n := 1) (av := [.int a2]) (rest := []) (c_X11_isDay (G := G) (l := l) hr9) gX11_damage_X11_isDay rfl (by decide +kernel) ⟨(Nat.le_of_ble_eq_true rfl), (Nat.le_of_ble_eq_true rfl)⟩ rfl hl.1 rfl (Nat.le_of_ble_eq_true rfl) dX11_damage_11 ⟨(Nat.zero_le _), (Nat.zero_le _)⟩) (fun H locs hw => ?_)
    refine lv_if_ne (tgt := 31) hx hb dX11_damage_14 (by decide) (fun c10 => ?_) (fun c10 => ?_)
    · replace h := itf h c10
      refine m_aload_n (x := r2) hx hb dX11_damage_31 rfl (lv_at hl 0 rfl) ?_
      refine lv_iload_n hx hb dX11_damage_32 rfl (lv_at hl 3 rfl) ?_
      obtain ⟨g11, h⟩ := itg h
      obtain ⟨r12, hr12, h⟩ := ob h
      refine m_contQ hC hw (m_runV hC hw (x := r2) (ci := 13) (N := 9) (C := RX10) (T := TX10) (n := 1) (av := [.int a2]) (rest := []) (c_X10_reportOn (G := G) (l := l) hr12) gX11_damage_X10_reportOn rfl (by decide +kernel) ⟨(Nat.le_of_ble_eq_true rfl), (Nat.le_of_ble_eq_true rfl)⟩ g11 rfl rfl hl.1 rfl (Nat.le_of_ble_eq_true rfl) dX11_damage_33 ⟨(Nat.zero_le _), (Nat.zero_le _)⟩) (fun H locs hw => ?_)
      refine m_ifnonnull (x := r12) (tgt := 45) hx hb dX11_damage_36 (by decide) (fun c13 => ?_) (fun c13 => ?_)
      · replace h := itf h c13
        refine m_aload_n (x := this) hx hb dX11_damage_45 rfl (lv_at hl 1 rfl) ?_
        refine m_aload_n (x := r2) hx hb dX11_damage_46 rfl (lv_at hl 0 rfl) ?_
        refine m_aload_n (x := r2) hx hb dX11_damage_47 rfl (lv_at hl 0 rfl) ?_
        refine lv_iload_n hx hb dX11_damage_48 rfl (lv_at hl 3 rfl) ?_
        obtain ⟨g14, h⟩ := itg h
        obtain ⟨r15, hr15, h⟩ := ob h
        refine m_contI hC hw (m_runV hC hw (x := r2) (ci := 13) (N := 9) (C := RX10) (T := TX10) (n := 1) (av := [.int a2]) (rest := [va_rf r2, va_rf this]) (c_X10_latestReport (G := G) (l := l) hr15) gX11_damage_X10_latestReport rfl (by decide +kernel) ⟨(Nat.le_of_ble_eq_true rfl), (Nat.le_of_ble_eq_true rfl)⟩ g14 rfl rfl hl.1 rfl (by simp [va_rf_cat, cat_i, cat_r, cat_l]) dX11_damage_49 ⟨(Nat.zero_le _), (Nat.zero_le _)⟩) (fun H locs hw => ?_)
        obtain ⟨g16, h⟩ := itg h
        obtain ⟨r17, hr17, h⟩ := ob h
        refine m_contI hC hw (m_runV hC hw (x := r2) (ci := 13) (N := 9) (C := RX10) (T := TX10) (n := 1) (av := [.int r15]) (rest := [va_rf this]) (c_X10_damageTold (G := G) (l := l) hr17) gX11_damage_X10_damageTold rfl (by decide +kernel) ⟨(Nat.le_of_ble_eq_true rfl), (Nat.le_of_ble_eq_true rfl)⟩ g16 rfl rfl hl.1 rfl (by simp [va_rf_cat, cat_i, cat_r, cat_l]) dX11_damage_52 ⟨(Nat.zero_le _), (Nat.zero_le _)⟩) (fun H locs hw => ?_)
        obtain ⟨g18, h⟩ := itg h
        obtain ⟨r19, hr19, h⟩ := ob h
        refine m_contI hC hw (m_runV hC hw (x := this) (ci := 14) (N := 11) (C := RX11) (T := TX11) (n := 1) (av := [.int r17]) (rest := []) (c_X11_answer (G := G) (l := l) hr19) gX11_damage_X11_answer rfl (by decide +kernel) ⟨(Nat.le_of_ble_eq_true rfl), (Nat.le_of_ble_eq_true rfl)⟩ g18 rfl rfl hl.1 rfl (Nat.le_of_ble_eq_true rfl) dX11_damage_55 ⟨(Nat.zero_le _), (Nat.zero_le _)⟩) (fun H locs hw => ?_)
        replace h := Option.some.inj h
        subst h
        exact RET hw ⟨(Nat.zero_le _), (Nat.zero_le _)⟩ dX11_damage_58
      · replace h := itt h c13
        refine m_aload_n (x := this) hx hb dX11_damage_39 rfl (lv_at hl 1 rfl) ?_
        refine lv_iconst (v := (1 : Int32)) hx hb dX11_damage_40 (by decide) ?_
        obtain ⟨g20, h⟩ := itg h
        obtain ⟨r21, hr21, h⟩ := ob h
        refine m_contI hC hw (m_runV hC hw (x := this) (ci := 14) (N := 11) (C := RX11) (T := TX11) (n := 1) (av := [.int (1 : Int32)]) (rest := []) (c_X11_refuse (G := G) (l := l) hr21) gX11_damage_X11_refuse rfl (by decide +kernel) ⟨(Nat.le_of_ble_eq_true rfl), (Nat.le_of_ble_eq_true rfl)⟩ g20 rfl rfl hl.1 rfl (Nat.le_of_ble_eq_true rfl) dX11_damage_41 ⟨(Nat.zero_le _), (Nat.zero_le _)⟩) (fun H locs hw => ?_)
        replace h := Option.some.inj h
        subst h
        exact RET hw ⟨(Nat.zero_le _), (Nat.zero_le _)⟩ dX11_damage_44
    · replace h := itt h c10
      refine m_aload_n (x := this) hx hb dX11_damage_17 rfl (lv_at hl 1 rfl) ?_
      refine m_aload_n (x := r2) hx hb dX11_damage_18 rfl (lv_at hl 0 rfl) ?_
      refine m_ifnull (x := r2) (tgt := 26) hx hb dX11_damage_19 (by decide) (fun c22 => ?_) (fun c22 => ?_)
      · replace h := itt h c22
        refine lv_iconst (v := (0 : Int32)) hx hb dX11_damage_26 (by decide) ?_
        obtain ⟨g23, h⟩ := itg h
        obtain ⟨r24, hr24, h⟩ := ob h
        refine m_contI hC hw (m_runV hC hw (x := this) (ci := 14) (N := 11) (C := RX11) (T := TX11) (n := 1) (av := [.int (0 : Int32)]) (rest := []) (c_X11_refuseAsked (G := G) (l := l) hr24) gX11_damage_X11_refuseAsked rfl (by decide +kernel) ⟨(Nat.le_of_ble_eq_true rfl), (Nat.le_of_ble_eq_true rfl)⟩ g23 rfl rfl hl.1 rfl (Nat.le_of_ble_eq_true rfl) dX11_damage_27 ⟨(Nat.zero_le _), (Nat.zero_le _)⟩) (fun H locs hw => ?_)
        replace h := Option.some.inj h
        subst h
        exact RET hw ⟨(Nat.zero_le _), (Nat.zero_le _)⟩ dX11_damage_30
      · replace h := itf h c22
        refine lv_iconst (v := (1 : Int32)) hx hb dX11_damage_22 (by decide) ?_
        refine lv_goto (tgt := 27) hx hb dX11_damage_23 (by decide) ?_
        obtain ⟨g25, h⟩ := itg h
        obtain ⟨r26, hr26, h⟩ := ob h
        refine m_contI hC hw (m_runV hC hw (x := this) (ci := 14) (N := 11) (C := RX11) (T := TX11) (n := 1) (av := [.int (1 : Int32)]) (rest := []) (c_X11_refuseAsked (G := G) (l := l) hr26) gX11_damage_X11_refuseAsked rfl (by decide +kernel) ⟨(Nat.le_of_ble_eq_true rfl), (Nat.le_of_ble_eq_true rfl)⟩ g25 rfl rfl hl.1 rfl (Nat.le_of_ble_eq_true rfl) dX11_damage_27 ⟨(Nat.zero_le _), (Nat.zero_le _)⟩) (fun H locs hw => ?_)
        replace h := Option.some.inj h
        subst h
        exact RET hw ⟨(Nat.zero_le _), (Nat.zero_le _)⟩ dX11_damage_30

def f_X11_bearerOf_L40 (n : Nat) (M : Mem) (x0 : Option Nat) (x1 : Option Nat) (x3 : Option Nat) (x4 : Option Nat) : Nat → Int32 → Int32 → Int32 → Int32 → Option (Int32)
  | 0, _, _, _, _ => none
  | k + 1, x5, x6, x7, x8 => (gR M x0 14 5).bind fun v7 => if isO M v7 2 = true then ((f_Jx4a65c_size_8abf5 M v7).bind fun r9 => if r9 ≤ x8 then (some (x5)) else ((gR M x0 14 5).bind fun v11 => if isO M v11 2 = true then ((f_Jx4a65c_get_915e3 M v11 x8).bind fun r13 => if r13 = none ∨ isO M r13 7 = true then ((gI M r13 7 3).bind fun v15 => if v15 = 0 then (f_X11_bearerOf_L40 n M x0 x1 x3 x4 k x5 x6 x7 (x8 + (1 : Int32))) else ((gI M x1 13 0).bind fun v17 => if isO M r13 7 = true then ((f_X4_parcelWith n M r13 v17).bind fun r19 => if r19 = (-1 : Int32) then (f_X11_bearerOf_L40 n M x0 x1 x3 x4 k x5 x6 x7 (x8 + (1 : Int32))) else ((gI M x4 11 0).bind fun v21 => (gI M x3 11 0).bind fun v22 => if isO M r13 7 = true then ((f_X4_daysBetween M r13 (v21 + (1 : Int32)) v22).bind fun r24 => ((if r24 ≤ 0 then (some ((0 : Int32))) else (if r24 = x6 then ((gI M r13 7 1).bind fun v28 => if x7 ≤ v28 then (some ((0 : Int32))) else (some ((1 : Int32)))) else (some ((0 : Int32))))) : Option (Int32)).bind fun o30 => if x6 < r24 then ((gI M r13 7 1).bind fun v32 => f_X11_bearerOf_L40 n M x0 x1 x3 x4 k x8 r24 v32 (x8 + (1 : Int32))) else (if o30 = 0 then (f_X11_bearerOf_L40 n M x0 x1 x3 x4 k x5 x6 x7 (x8 + (1 : Int32))) else ((gI M r13 7 1).bind fun v34 => f_X11_bearerOf_L40 n M x0 x1 x3 x4 k x8 r24 v34 (x8 + (1 : Int32))))) else none)) else none)) else none) else none)) else none
def f_X11_bearerOf (n : Nat) (M : Mem) (this : Option Nat) (a1 : Option Nat) (a2 : Int32) : Option (Int32) := if isO M a1 13 = true then ((f_X10_reportAt M a1 a2).bind fun r2 => if isO M a1 13 = true then ((f_X10_reportAt M a1 (a2 - (1 : Int32))).bind fun r4 => if r2 = none then (some (-1 : Int32)) else (if r4 = none then (some (-1 : Int32)) else (f_X11_bearerOf_L40 n M this a1 r2 r4 n (-1 : Int32) (0 : Int32) (1000 : Int32) (0 : Int32)))) else none) else none
def rmX11_bearerOf : Room := { frames := 5, cells := 0, slots := 0, locals := 108 }
theorem k_X11_bearerOf_36 : Cond.fieldLink RX11 36 "LoanBook" "loans" "Ljava/util/ArrayList;" ∈ wsX11_bearerOf := List.mem_of_getElem? (i := 1) rfl
theorem ki_X11_bearerOf_X11 : ∀ w ∈ u_ws RX11 TX11 11, w ∈ wsX11_bearerOf := sub_r [77, 78, 79, 80, 81, 82, 83, 84, 85, 86, 87] (by decide +kernel)
theorem k_X11_bearerOf_cc194 : Cond.classLink RX11 194 RX4 ∈ wsX11_bearerOf := List.mem_of_getElem? (i := 2) rfl
theorem k_X11_bearerOf_193 : Cond.fieldLink RX11 193 "LoanBook$Loan" "stands" "Z" ∈ wsX11_bearerOf := List.mem_of_getElem? (i := 3) rfl
theorem ki_X11_bearerOf_X4 : ∀ w ∈ u_ws RX4 TX4 5, w ∈ wsX11_bearerOf := sub_r [88, 89, 90, 91, 92] (by decide +kernel)
theorem k_X11_bearerOf_380 : Cond.fieldLink RX11 380 "LoanBook$Thing" "number" "I" ∈ wsX11_bearerOf := List.mem_of_getElem? (i := 4) rfl
theorem ki_X11_bearerOf_X10 : ∀ w ∈ u_ws RX10 TX10 9, w ∈ wsX11_bearerOf := sub_r [93, 94, 95, 96, 97, 98, 99, 100, 101] (by decide +kernel)
theorem k_X11_bearerOf_381 : Cond.fieldLink RX11 381 "LoanBook$Report" "day" "I" ∈ wsX11_bearerOf := List.mem_of_getElem? (i := 5) rfl
theorem ki_X11_bearerOf_X8 : ∀ w ∈ u_ws RX8 TX8 4, w ∈ wsX11_bearerOf := sub_r [102, 103, 104, 105] (by decide +kernel)
theorem k_X11_bearerOf_371 : Cond.fieldLink RX11 371 "LoanBook$Loan" "first" "I" ∈ wsX11_bearerOf := List.mem_of_getElem? (i := 6) rfl
set_option maxHeartbeats 4000000 in
set_option maxRecDepth 100000 in
theorem c_X11_bearerOf {G : wG} {l : Launch} {n : Nat} {M : Mem} {sz : Nat} {this : Option Nat} {a1 : Option Nat} {a2 : Int32} {r : Int32} (h : f_X11_bearerOf n M this a1 a2 = some r) : CtrI G l yX11_bearerOf wsX11_bearerOf rmX11_bearerOf [va_rf this, va_rf a1, .int a2] M sz r M sz := by
  refine m_startI (own := RX11) (cc := cX11_bearerOf) (maxL := 12) (lv0 := [(0, va_rf this), (1, va_rf a1), (2, .int a2)]) (by decide) rfl rfl (by simp [lg_sl, va_rf_cat, cat_i, cat_r]) (by simp [lv_args, va_rf_cat, cat_i, cat_r]) ?_
  intro p e s m args below meth c Q hC hname RET hsz hw ls hl
  have hx := hC.1
  have hb := hC.2.1
  have L40 : ∀ (x0 : Option Nat) (x1 : Option Nat) (x3 : Option Nat) (x4 : Option Nat) (k : Nat) (x5 : Int32) (x6 : Int32) (x7 : Int32) (x8 : Int32) (cells slots : Nat) (H : Heap) (locs : List Loc) (ls : Array Slot), f_X11_bearerOf_L40 n M x0 x1 x3 x4 k x5 x6 x7 x8 = some r → cells ≤ 0 → slots ≤ 0 → wD G s M M sz H locs → lv_has ls 12 [(0, va_rf x0), (1, va_rf x1), (3, va_rf x3), (4, va_rf x4), (5, .int x5), (6, .int x6), (7, .int x7), (8, .int x8)] → W p l e rmX11_bearerOf s m args below meth c H locs cells slots Q (F0 m 40 ls []) := by
    intro x0 x1 x3 x4 k
    induction k with
    | zero =>
      intro x5 x6 x7 x8 cells slots H locs ls h
      exact absurd (show (none : Option (Int32)) = some r from h) (fun z => by cases z)
    | succ k ih =>
      intro x5 x6 x7 x8 cells slots H locs ls h hcl hsl hw hl
      rw [f_X11_bearerOf_L40] at h
      refine lv_iload hx hb dX11_bearerOf_40 (lv_at hl 7 rfl) ?_
      refine m_aload_n (x := x0) hx hb dX11_bearerOf_42 rfl (lv_at hl 0 rfl) ?_
      obtain ⟨v7, hv7, h⟩ := ob h
      refine m_getR hC hw (C := RX11) (T := TX11) (N := 11) hv7 ki_X11_bearerOf_X11 rfl (by decide) k_X11_bearerOf_36 (fun _ z => z) dX11_bearerOf_43 ?_
      obtain ⟨g8, h⟩ := itg h
      obtain ⟨r9, hr9, h⟩ := ob h
      refine m_contI hC hw (m_runV hC hw (x := v7) (ci := 2) (N := 3) (C := RJx4a65c) (T := TJx4a65c) (n := 0) (av := []) (rest := [.int x8]) (c_Jx4a65c_size_8abf5 (G := G) (l := l) hr9) gX11_bearerOf_Jx4a65c_size_8abf5 rfl (by decide +kernel) ⟨(Nat.le_of_ble_eq_true rfl), (Nat.le_of_ble_eq_true rfl)⟩ g8 rfl rfl hl.1 rfl (Nat.le_of_ble_eq_true rfl) dX11_bearerOf_46 ⟨(show cells + 0 ≤ 0 from by omega), (show slots + 0 ≤ 0 from by omega)⟩) (fun H locs hw => ?_)
      refine lv_icmp_ge (tgt := 170) hx hb dX11_bearerOf_49 (by decide) (fun c10 => ?_) (fun c10 => ?_)
      · replace h := itt h c10
        refine lv_iload hx hb dX11_bearerOf_170 (lv_at hl 4 rfl) ?_
        replace h := Option.some.inj h
        subst h
        exact RET hw ⟨(show cells + 0 ≤ 0 from by omega), (show slots + 0 ≤ 0 from by omega)⟩ dX11_bearerOf_172
      · replace h := itf h c10
        refine m_aload_n (x := x0) hx hb dX11_bearerOf_52 rfl (lv_at hl 0 rfl) ?_
        obtain ⟨v11, hv11, h⟩ := ob h
        refine m_getR hC hw (C := RX11) (T := TX11) (N := 11) hv11 ki_X11_bearerOf_X11 rfl (by decide) k_X11_bearerOf_36 (fun _ z => z) dX11_bearerOf_53 ?_
        refine lv_iload hx hb dX11_bearerOf_56 (lv_at hl 7 rfl) ?_
        obtain ⟨g12, h⟩ := itg h
        obtain ⟨r13, hr13, h⟩ := ob h
        refine m_contQ hC hw (m_runV hC hw (x := v11) (ci := 2) (N := 3) (C := RJx4a65c) (T := TJx4a65c) (n := 1) (av := [.int x8]) (rest := []) (c_Jx4a65c_get_915e3 (G := G) (l := l) hr13) gX11_bearerOf_Jx4a65c_get_915e3 rfl (by decide +kernel) ⟨(Nat.le_of_ble_eq_true rfl), (Nat.le_of_ble_eq_true rfl)⟩ g12 rfl rfl hl.1 rfl (Nat.le_of_ble_eq_true rfl) dX11_bearerOf_58 ⟨(show cells + 0 ≤ 0 from by omega), (show slots + 0 ≤ 0 from by omega)⟩) (fun H locs hw => ?_)
        obtain ⟨g14, h⟩ := itg h
        refine m_cast (x := r13) hC hw (C := RX4) (T := TX4) (N := 5) g14 k_X11_bearerOf_cc194 rfl dX11_bearerOf_61 ?_
        refine m_astore (x := r13) (lv' := [(9, va_rf r13), (0, va_rf x0), (1, va_rf x1), (3, va_rf x3), (4, va_rf x4), (5, .int x5), (6, .int x6), (7, .int x7), (8, .int x8)]) hx hb dX11_bearerOf_64 hl (by decide) rfl (fun ls hl => ?_)
        refine m_aload (x := r13) hx hb dX11_bearerOf_66 (lv_at hl 0 rfl) ?_
        obtain ⟨v15, hv15, h⟩ := ob h
        refine m_getI hC hw (C := RX4) (T := TX4) (N := 5) hv15 ki_X11_bearerOf_X4 rfl (by decide) k_X11_bearerOf_193 (fun _ z => z) dX11_bearerOf_68 ?_
        refine lv_if_eq (tgt := 164) hx hb dX11_bearerOf_71 (by decide) (fun c16 => ?_) (fun c16 => ?_)
        · replace h := itt h c16
          refine lv_iinc (v := (x8 + (1 : Int32))) (lv' := [(8, .int (x8 + (1 : Int32))), (9, va_rf r13), (0, va_rf x0), (1, va_rf x1), (3, va_rf x3), (4, va_rf x4), (5, .int x5), (6, .int x6), (7, .int x7)]) hx hb dX11_bearerOf_164 hl (k := 8) rfl rfl (by decide) rfl (fun ls hl => ?_)
          refine lv_goto (tgt := 40) hx hb dX11_bearerOf_167 (by decide) ?_
          exact ih _ _ _ _ _ _ _ _ _ h hcl hsl hw (lv_sub hl [2, 3, 4, 5, 6, 7, 8, 0] rfl)
        · replace h := itf h c16
          refine m_aload (x := r13) hx hb dX11_bearerOf_74 (lv_at hl 0 rfl) ?_
          refine m_aload_n (x := x1) hx hb dX11_bearerOf_76 rfl (lv_at hl 2 rfl) ?_
          obtain ⟨v17, hv17, h⟩ := ob h
          refine m_getI hC hw (C := RX10) (T := TX10) (N := 9) hv17 ki_X11_bearerOf_X10 rfl (by decide) k_X11_bearerOf_380 (fun _ z => z) dX11_bearerOf_77 ?_
          obtain ⟨g18, h⟩ := itg h
          obtain ⟨r19, hr19, h⟩ := ob h
          refine m_contI hC hw (m_runV hC hw (x := r13) (ci := 7) (N := 5) (C := RX4) (T := TX4) (n := 1) (av := [.int v17]) (rest := []) (c_X4_parcelWith (G := G) (l := l) hr19) gX11_bearerOf_X4_parcelWith rfl (by decide +kernel) ⟨(Nat.le_of_ble_eq_true rfl), (Nat.le_of_ble_eq_true rfl)⟩ g18 rfl rfl hl.1 rfl (Nat.le_of_ble_eq_true rfl) dX11_bearerOf_80 ⟨(show cells + 0 ≤ 0 from by omega), (show slots + 0 ≤ 0 from by omega)⟩) (fun H locs hw => ?_)
          refine lv_iconst (v := (-1 : Int32)) hx hb dX11_bearerOf_83 (by decide) ?_
          refine lv_icmp_ne (tgt := 90) hx hb dX11_bearerOf_84 (by decide) (fun c20 => ?_) (fun c20 => ?_)
          · replace h := itf h c20
            refine m_aload (x := r13) hx hb dX11_bearerOf_90 (lv_at hl 0 rfl) ?_
            refine m_aload (x := x4) hx hb dX11_bearerOf_92 (lv_at hl 4 rfl) ?_
            obtain ⟨v21, hv21, h⟩ := ob h
            refine m_getI hC hw (C := RX8) (T := TX8) (N := 4) hv21 ki_X11_bearerOf_X8 rfl (by decide) k_X11_bearerOf_381 (fun _ z => z) dX11_bearerOf_94 ?_
            refine lv_iconst (v := (1 : Int32)) hx hb dX11_bearerOf_97 (by decide) ?_
            refine lv_iadd hx hb dX11_bearerOf_98 ?_
            refine m_aload_n (x := x3) hx hb dX11_bearerOf_99 rfl (lv_at hl 3 rfl) ?_
            obtain ⟨v22, hv22, h⟩ := ob h
            refine m_getI hC hw (C := RX8) (T := TX8) (N := 4) hv22 ki_X11_bearerOf_X8 rfl (by decide) k_X11_bearerOf_381 (fun _ z => z) dX11_bearerOf_100 ?_
            obtain ⟨g23, h⟩ := itg h
            obtain ⟨r24, hr24, h⟩ := ob h
            refine m_contI hC hw (m_runV hC hw (x := r13) (ci := 7) (N := 5) (C := RX4) (T := TX4) (n := 2) (av := [.int (v21 + (1 : Int32)), .int v22]) (rest := []) (c_X4_daysBetween (G := G) (l := l) hr24) gX11_bearerOf_X4_daysBetween rfl (by decide +kernel) ⟨(Nat.le_of_ble_eq_true rfl), (Nat.le_of_ble_eq_true rfl)⟩ g23 rfl rfl hl.1 rfl (Nat.le_of_ble_eq_true rfl) dX11_bearerOf_103 ⟨(show cells + 0 ≤ 0 from by omega), (show slots + 0 ≤ 0 from by omega)⟩) (fun H locs hw => ?_)
            refine lv_istore (lv' := [(10, .int r24), (9, va_rf r13), (0, va_rf x0), (1, va_rf x1), (3, va_rf x3), (4, va_rf x4), (5, .int x5), (6, .int x6), (7, .int x7), (8, .int x8)]) hx hb dX11_bearerOf_106 hl (by decide) (by simp [va_rf_cat, cat_i, cat_l]) (fun ls hl => ?_)
            refine lv_iload hx hb dX11_bearerOf_108 (lv_at hl 0 rfl) ?_
            obtain ⟨o30, ho30, h⟩ := ob h
            have J25 : ∀ (H : Heap) (locs : List Loc) (ls : Array Slot), wD G s M M sz H locs → lv_has ls 12 [(0, va_rf x0), (1, va_rf x1), (3, va_rf x3), (4, va_rf x4), (5, .int x5), (6, .int x6), (7, .int x7), (8, .int x8), (9, va_rf r13), (10, .int r24)] → W p l e rmX11_bearerOf s m args below meth c H locs (cells + 0) (slots + 0) Q (F0 m 135 ls [.int o30]) := by
              intro H locs ls hw hl
              refine lv_istore (lv' := [(11, .int o30), (0, va_rf x0), (1, va_rf x1), (3, va_rf x3), (4, va_rf x4), (5, .int x5), (6, .int x6), (7, .int x7), (8, .int x8), (9, va_rf r13), (10, .int r24)]) hx hb dX11_bearerOf_135 hl (by decide) rfl (fun ls hl => ?_)
              refine lv_iload hx hb dX11_bearerOf_137 (lv_at hl 10 rfl) ?_
              refine lv_iload hx hb dX11_bearerOf_139 (lv_at hl 6 rfl) ?_
              refine lv_icmp_gt (tgt := 149) hx hb dX11_bearerOf_141 (by decide) (fun c31 => ?_) (fun c31 => ?_)
              · replace h := itt h c31
                refine lv_iload hx hb dX11_bearerOf_149 (lv_at hl 8 rfl) ?_
                refine lv_istore (lv' := [(5, .int x8), (11, .int o30), (0, va_rf x0), (1, va_rf x1), (3, va_rf x3), (4, va_rf x4), (6, .int x6), (7, .int x7), (8, .int x8), (9, va_rf r13), (10, .int r24)]) hx hb dX11_bearerOf_151 hl (by decide) (by simp [va_rf_cat, cat_i, cat_l]) (fun ls hl => ?_)
                refine lv_iload hx hb dX11_bearerOf_153 (lv_at hl 10 rfl) ?_
                refine lv_istore (lv' := [(6, .int r24), (5, .int x8), (11, .int o30), (0, va_rf x0), (1, va_rf x1), (3, va_rf x3), (4, va_rf x4), (7, .int x7), (8, .int x8), (9, va_rf r13), (10, .int r24)]) hx hb dX11_bearerOf_155 hl (by decide) rfl (fun ls hl => ?_)
                refine m_aload (x := r13) hx hb dX11_bearerOf_157 (lv_at hl 9 rfl) ?_
                obtain ⟨v32, hv32, h⟩ := ob h
                refine m_getI hC hw (C := RX4) (T := TX4) (N := 5) hv32 ki_X11_bearerOf_X4 rfl (by decide) k_X11_bearerOf_371 (fun _ z => z) dX11_bearerOf_159 ?_
                refine lv_istore (lv' := [(7, .int v32), (6, .int r24), (5, .int x8), (11, .int o30), (0, va_rf x0), (1, va_rf x1), (3, va_rf x3), (4, va_rf x4), (8, .int x8), (9, va_rf r13), (10, .int r24)]) hx hb dX11_bearerOf_162 hl (by decide) rfl (fun ls hl => ?_)
                refine lv_iinc (v := (x8 + (1 : Int32))) (lv' := [(8, .int (x8 + (1 : Int32))), (7, .int v32), (6, .int r24), (5, .int x8), (11, .int o30), (0, va_rf x0), (1, va_rf x1), (3, va_rf x3), (4, va_rf x4), (9, va_rf r13), (10, .int r24)]) hx hb dX11_bearerOf_164 hl (k := 8) rfl rfl (by decide) rfl (fun ls hl => ?_)
                refine lv_goto (tgt := 40) hx hb dX11_bearerOf_167 (by decide) ?_
                exact ih _ _ _ _ _ _ _ _ _ h hcl hsl hw (lv_sub hl [5, 6, 7, 8, 3, 2, 1, 0] rfl)
              · replace h := itf h c31
                refine lv_iload hx hb dX11_bearerOf_144 (lv_at hl 0 rfl) ?_
                refine lv_if_eq (tgt := 164) hx hb dX11_bearerOf_146 (by decide) (fun c33 => ?_) (fun c33 => ?_)
                · replace h := itt h c33
                  refine lv_iinc (v := (x8 + (1 : Int32))) (lv' := [(8, .int (x8 + (1 : Int32))), (11, .int o30), (0, va_rf x0), (1, va_rf x1), (3, va_rf x3), (4, va_rf x4), (5, .int x5), (6, .int x6), (7, .int x7), (9, va_rf r13), (10, .int r24)]) hx hb dX11_bearerOf_164 hl (k := 8) rfl rfl (by decide) rfl (fun ls hl => ?_)
                  refine lv_goto (tgt := 40) hx hb dX11_bearerOf_167 (by decide) ?_
                  exact ih _ _ _ _ _ _ _ _ _ h hcl hsl hw (lv_sub hl [2, 3, 4, 5, 6, 7, 8, 0] rfl)
                · replace h := itf h c33
                  refine lv_iload hx hb dX11_bearerOf_149 (lv_at hl 8 rfl) ?_
                  refine lv_istore (lv' := [(5, .int x8), (11, .int o30), (0, va_rf x0), (1, va_rf x1), (3, va_rf x3), (4, va_rf x4), (6, .int x6), (7, .int x7), (8, .int x8), (9, va_rf r13), (10, .int r24)]) hx hb dX11_bearerOf_151 hl (by decide) (by simp [va_rf_cat, cat_i, cat_l]) (fun ls hl => ?_)
                  refine lv_iload hx hb dX11_bearerOf_153 (lv_at hl 10 rfl) ?_
                  refine lv_istore (lv' := [(6, .int r24), (5, .int x8), (11, .int o30), (0, va_rf x0), (1, va_rf x1), (3, va_rf x3), (4, va_rf x4), (7, .int x7), (8, .int x8), (9, va_rf r13), (10, .int r24)]) hx hb dX11_bearerOf_155 hl (by decide) rfl (fun ls hl => ?_)
                  refine m_aload (x := r13) hx hb dX11_bearerOf_157 (lv_at hl 9 rfl) ?_
                  obtain ⟨v34, hv34, h⟩ := ob h
                  refine m_getI hC hw (C := RX4) (T := TX4) (N := 5) hv34 ki_X11_bearerOf_X4 rfl (by decide) k_X11_bearerOf_371 (fun _ z => z) dX11_bearerOf_159 ?_
                  refine lv_istore (lv' := [(7, .int v34), (6, .int r24), (5, .int x8), (11, .int o30), (0, va_rf x0), (1, va_rf x1), (3, va_rf x3), (4, va_rf x4), (8, .int x8), (9, va_rf r13), (10, .int r24)]) hx hb dX11_bearerOf_162 hl (by decide) rfl (fun ls hl => ?_)
                  refine lv_iinc (v := (x8 + (1 : Int32))) (lv' := [(8, .int (x8 + (1 : Int32))), (7, .int v34), (6, .int r24), (5, .int x8), (11, .int o30), (0, va_rf x0), (1, va_rf x1), (3, va_rf x3), (4, va_rf x4), (9, va_rf r13), (10, .int r24)]) hx hb dX11_bearerOf_164 hl (k := 8) rfl rfl (by decide) rfl (fun ls hl => ?_)
                  refine lv_goto (tgt := 40) hx hb dX11_bearerOf_167 (by decide) ?_
                  exact ih _ _ _ _ _ _ _ _ _ h hcl hsl hw (lv_sub hl [5, 6, 7, 8, 3, 2, 1, 0] rfl)
            clear h
            replace h := ho30
            refine lv_if_le (tgt := 134) hx hb dX11_bearerOf_110 (by decide) (fun c26 => ?_) (fun c26 => ?_)
            · replace h := itt h c26
              refine lv_iconst (v := (0 : Int32)) hx hb dX11_bearerOf_134 (by decide) ?_
              replace h := Option.some.inj h
              subst h
              exact J25 _ _ _ hw (lv_sub hl [2, 3, 4, 5, 6, 7, 8, 9, 1, 0] rfl)
            · replace h := itf h c26
              refine lv_iload hx hb dX11_bearerOf_113 (lv_at hl 0 rfl) ?_
              refine lv_iload hx hb dX11_bearerOf_115 (lv_at hl 7 rfl) ?_
              refine lv_icmp_ne (tgt := 134) hx hb dX11_bearerOf_117 (by decide) (fun c27 => ?_) (fun c27 => ?_)
              · replace h := itf h c27
                refine lv_iconst (v := (0 : Int32)) hx hb dX11_bearerOf_134 (by decide) ?_
                replace h := Option.some.inj h
                subst h
                exact J25 _ _ _ hw (lv_sub hl [2, 3, 4, 5, 6, 7, 8, 9, 1, 0] rfl)
              · replace h := itt h c27
                refine m_aload (x := r13) hx hb dX11_bearerOf_120 (lv_at hl 1 rfl) ?_
                obtain ⟨v28, hv28, h⟩ := ob h
                refine m_getI hC hw (C := RX4) (T := TX4) (N := 5) hv28 ki_X11_bearerOf_X4 rfl (by decide) k_X11_bearerOf_371 (fun _ z => z) dX11_bearerOf_122 ?_
                refine lv_iload hx hb dX11_bearerOf_125 (lv_at hl 8 rfl) ?_
                refine lv_icmp_ge (tgt := 134) hx hb dX11_bearerOf_127 (by decide) (fun c29 => ?_) (fun c29 => ?_)
                · replace h := itt h c29
                  refine lv_iconst (v := (0 : Int32)) hx hb dX11_bearerOf_134 (by decide) ?_
                  replace h := Option.some.inj h
                  subst h
                  exact J25 _ _ _ hw (lv_sub hl [2, 3, 4, 5, 6, 7, 8, 9, 1, 0] rfl)
                · replace h := itf h c29
                  refine lv_iconst (v := (1 : Int32)) hx hb dX11_bearerOf_130 (by decide) ?_
                  refine lv_goto (tgt := 135) hx hb dX11_bearerOf_131 (by decide) ?_
                  replace h := Option.some.inj h
                  subst h
                  exact J25 _ _ _ hw (lv_sub hl [2, 3, 4, 5, 6, 7, 8, 9, 1, 0] rfl)
          · replace h := itt h c20
            refine lv_goto (tgt := 164) hx hb dX11_bearerOf_87 (by decide) ?_
            refine lv_iinc (v := (x8 + (1 : Int32))) (lv' := [(8, .int (x8 + (1 : Int32))), (9, va_rf r13), (0, va_rf x0), (1, va_rf x1), (3, va_rf x3), (4, va_rf x4), (5, .int x5), (6, .int x6), (7, .int x7)]) hx hb dX11_bearerOf_164 hl (k := 8) rfl rfl (by decide) rfl (fun ls hl => ?_)
            refine lv_goto (tgt := 40) hx hb dX11_bearerOf_167 (by decide) ?_
            exact ih _ _ _ _ _ _ _ _ _ h hcl hsl hw (lv_sub hl [2, 3, 4, 5, 6, 7, 8, 0] rfl)
  unfold f_X11_bearerOf at h
  refine m_aload_n (x := a1) hx hb dX11_bearerOf_0 rfl (lv_at hl 1 rfl) ?_
  refine lv_iload_n hx hb dX11_bearerOf_1 rfl (lv_at hl 2 rfl) ?_
  obtain ⟨g1, h⟩ := itg h
  obtain ⟨r2, hr2, h⟩ := ob h
  refine m_contQ hC hw (m_runV hC hw (x := a1) (ci := 13) (N := 9) (C := RX10) (T := TX10) (n := 1) (av := [.int a2]) (rest := []) (c_X10_reportAt (G := G) (l := l) hr2) gX11_bearerOf_X10_reportAt rfl (by decide +kernel) ⟨(Nat.le_of_ble_eq_true rfl), (Nat.le_of_ble_eq_true rfl)⟩ g1 rfl rfl hl.1 rfl (Nat.le_of_ble_eq_true rfl) dX11_bearerOf_2 ⟨(Nat.zero_le _), (Nat.zero_le _)⟩) (fun H locs hw => ?_)
  refine m_astore_n (x := r2) (i := 3) (lv' := [(3, va_rf r2), (0, va_rf this), (1, va_rf a1), (2, .int a2)]) hx hb dX11_bearerOf_5 rfl hl (by decide) rfl (fun ls hl => ?_)
  refine m_aload_n (x := a1) hx hb dX11_bearerOf_6 rfl (lv_at hl 2 rfl) ?_
  refine lv_iload_n hx hb dX11_bearerOf_7 rfl (lv_at hl 3 rfl) ?_
  refine lv_iconst (v := (1 : Int32)) hx hb dX11_bearerOf_8 (by decide) ?_
  refine lv_isub hx hb dX11_bearerOf_9 ?_
  obtain ⟨g3, h⟩ := itg h
  obtain ⟨r4, hr4, h⟩ := ob h
  refine m_contQ hC hw (m_runV hC hw (x := a1) (ci := 13) (N := 9) (C := RX10) (T := TX10) (n := 1) (av := [.int (a2 - (1 : Int32))]) (rest := []) (c_X10_reportAt (G := G) (l := l) hr4) gX11_bearerOf_X10_reportAt rfl (by decide +kernel) ⟨(Nat.le_of_ble_eq_true rfl), (Nat.le_of_ble_eq_true rfl)⟩ g3 rfl rfl hl.1 rfl (Nat.le_of_ble_eq_true rfl) dX11_bearerOf_10 ⟨(Nat.zero_le _), (Nat.zero_le _)⟩) (fun H locs hw => ?_)
  refine m_astore (x := r4) (lv' := [(4, va_rf r4), (3, va_rf r2), (0, va_rf this), (1, va_rf a1), (2, .int a2)]) hx hb dX11_bearerOf_13 hl (by decide) (by simp [va_rf_cat, cat_i, cat_l]) (fun ls hl => ?_)
  refine m_aload_n (x := r2) hx hb dX11_bearerOf_15 rfl (lv_at hl 1 rfl) ?_
  refine m_ifnull (x := r2) (tgt := 24) hx hb dX11_bearerOf_16 (by decide) (fun c5 => ?_) (fun c5 => ?_)
  · replace h := itt h c5
    refine lv_iconst (v := (-1 : Int32)) hx hb dX11_bearerOf_24 (by decide) ?_
    replace h := Option.some.inj h
    subst h
    exact RET hw ⟨(Nat.zero_le _), (Nat.zero_le _)⟩ dX11_bearerOf_25
  · replace h := itf h c5
    refine m_aload (x := r4) hx hb dX11_bearerOf_19 (lv_at hl 0 rfl) ?_
    refine m_ifnonnull (x := r4) (tgt := 26) hx hb dX11_bearerOf_21 (by decide) (fun c6 => ?_) (fun c6 => ?_)
    · replace h := itf h c6
      refine lv_iconst (v := (-1 : Int32)) hx hb dX11_bearerOf_26 (by decide) ?_
      refine lv_istore (lv' := [(5, .int (-1 : Int32)), (4, va_rf r4), (3, va_rf r2), (0, va_rf this), (1, va_rf a1), (2, .int a2)]) hx hb dX11_bearerOf_27 hl (by decide) (by simp [va_rf_cat, cat_i, cat_l]) (fun ls hl => ?_)
      refine lv_iconst (v := (0 : Int32)) hx hb dX11_bearerOf_29 (by decide) ?_
      refine lv_istore (lv' := [(6, .int (0 : Int32)), (5, .int (-1 : Int32)), (4, va_rf r4), (3, va_rf r2), (0, va_rf this), (1, va_rf a1), (2, .int a2)]) hx hb dX11_bearerOf_30 hl (by decide) rfl (fun ls hl => ?_)
      refine lv_sipush (v := (1000 : Int32)) hx hb dX11_bearerOf_32 (by decide) ?_
      refine lv_istore (lv' := [(7, .int (1000 : Int32)), (6, .int (0 : Int32)), (5, .int (-1 : Int32)), (4, va_rf r4), (3, va_rf r2), (0, va_rf this), (1, va_rf a1), (2, .int a2)]) hx hb dX11_bearerOf_35 hl (by decide) rfl (fun ls hl => ?_)
      refine lv_iconst (v := (0 : Int32)) hx hb dX11_bearerOf_37 (by decide) ?_
      refine lv_istore (lv' := [(8, .int (0 : Int32)), (7, .int (1000 : Int32)), (6, .int (0 : Int32)), (5, .int (-1 : Int32)), (4, va_rf r4), (3, va_rf r2), (0, va_rf this), (1, va_rf a1), (2, .int a2)]) hx hb dX11_bearerOf_38 hl (by decide) rfl (fun ls hl => ?_)
      exact L40 this a1 r2 r4 _ _ _ _ _ _ _ _ _ _ h (Nat.zero_le _) (Nat.zero_le _) hw (lv_sub hl [6, 7, 5, 4, 3, 2, 1, 0] rfl)
    · replace h := itt h c6
      refine lv_iconst (v := (-1 : Int32)) hx hb dX11_bearerOf_24 (by decide) ?_
      replace h := Option.some.inj h
      subst h
      exact RET hw ⟨(Nat.zero_le _), (Nat.zero_le _)⟩ dX11_bearerOf_25

def f_X11_bearer (B : Nat) (n : Nat) (M : Mem) (this : Option Nat) (a1 : Int32) (a2 : Int32) : Option (Int32 × Mem) := if isO M this 14 = true then ((f_X11_thingAt M this a1).bind fun r2 => if r2 = none then (if r2 = none then (if isO M this 14 = true then ((f_X11_refuseAsked B M this (0 : Int32)).bind fun r6 => some (r6.1, r6.2)) else none) else (if isO M this 14 = true then ((f_X11_refuseAsked B M this (1 : Int32)).bind fun r8 => some (r8.1, r8.2)) else none)) else ((f_X11_isDay M a2).bind fun r9 => if r9 = 0 then (if r2 = none then (if isO M this 14 = true then ((f_X11_refuseAsked B M this (0 : Int32)).bind fun r24 => some (r24.1, r24.2)) else none) else (if isO M this 14 = true then ((f_X11_refuseAsked B M this (1 : Int32)).bind fun r26 => some (r26.1, r26.2)) else none)) else (if isO M r2 13 = true then ((f_X10_reportOn n M r2 a2).bind fun r12 => if r12 = none then (if isO M this 14 = true then ((f_X11_refuse B M this (1 : Int32)).bind fun r21 => some (r21.1, r21.2)) else none) else (if isO M r2 13 = true then ((f_X10_latestReport n M r2 a2).bind fun r15 => if isO M this 14 = true then ((f_X11_bearerOf n M this r2 r15).bind fun r17 => if isO M this 14 = true then ((f_X11_answer B M this r17).bind fun r19 => some (r19.1, r19.2)) else none) else none) else none)) else none))) else none
def rmX11_bearer : Room := { frames := 6, cells := 0, slots := 0, locals := 139 }
set_option maxHeartbeats 4000000 in
set_option maxRecDepth 100000 in
theorem c_X11_bearer {G : wG} {l : Launch} {n : Nat} {M : Mem} {sz : Nat} {this : Option Nat} {a1 : Int32} {a2 : Int32} {r : Int32 × Mem} (h : f_X11_bearer G.2.2.1 n M this a1 a2 = some r) : CtrI G l yX11_bearer wsX11_bearer rmX11_bearer [va_rf this, .int a1, .int a2] M sz r.1 r.2 sz := by
  refine m_startI (own := RX11) (cc := cX11_bearer) (maxL := 4) (lv0 := [(0, va_rf this), (1, .int a1), (2, .int a2)]) (by decide) rfl rfl (by simp [lg_sl, va_rf_cat, cat_i, cat_r]) (by simp [lv_args, va_rf_cat, cat_i, cat_r]) ?_
  intro p e s m args below meth c Q hC hname RET hsz hw ls hl
  have hx := hC.1
  have hb := hC.2.1
  unfold f_X11_bearer at h
  refine m_aload_n (x := this) hx hb dX11_bearer_0 rfl (lv_at hl 0 rfl) ?_
  refine lv_iload_n hx hb dX11_bearer_1 rfl (lv_at hl 1 rfl) ?_
  obtain ⟨g1, h⟩ := itg h
  obtain ⟨r2, hr2, h⟩ := ob h
  refine m_contQ hC hw (m_runV hC hw (x := this) (ci := 14) (N := 11) (C := RX11) (T := TX11) (n := 1) (av := [.int a1]) (rest := []) (c_X11_thingAt (G := G) (l := l) hr2) gX11_bearer_X11_thingAt rfl (by decide +kernel) ⟨(Nat.le_of_ble_eq_true rfl), (Nat.le_of_ble_eq_true rfl)⟩ g1 rfl rfl hl.1 rfl (Nat.le_of_ble_eq_true rfl) dX11_bearer_2 ⟨(Nat.zero_le _), (Nat.zero_le _)⟩) (fun H locs hw => ?_)
  refine m_astore_n (x := r2) (i := 3) (lv' := [(3, va_rf r2), (0, va_rf this), (1, .int a1), (2, .int a2)]) hx hb dX11_bearer_5 rfl hl (by decide) rfl (fun ls hl => ?_)
  refine m_aload_n (x := r2) hx hb dX11_bearer_6 rfl (lv_at hl 0 rfl) ?_
  refine m_ifnull (x := r2) (tgt := 17) hx hb dX11_bearer_7 (by decide) (fun c3 => ?_) (fun c3 => ?_)
  · replace h := itt h c3
    refine m_aload_n (x := this) hx hb dX11_bearer_17 rfl (lv_at hl 1 rfl) ?_
    refine m_aload_n (x := r2) hx hb dX11_bearer_18 rfl (lv_at hl 0 rfl) ?_
    refine m_ifnull (x := r2) (tgt := 26) hx hb dX11_bearer_19 (by decide) (fun c4 => ?_) (fun c4 => ?_)
    · replace h := itt h c4
      refine lv_iconst (v := (0 : Int32)) hx hb dX11_bearer_26 (by decide) ?_
      obtain ⟨g5, h⟩ := itg h
      obtain ⟨r6, hr6, h⟩ := ob h
      refine m_contI hC hw (m_runV hC hw (x := this) (ci := 14) (N := 11) (C := RX11) (T := TX11) (n := 1) (av := [.int (0 : Int32)]) (rest := []) (c_X11_refuseAsked (G := G) (l := l) hr6) gX11_bearer_X11_refuseAsked rfl (by decide +kernel) ⟨(Nat.le_of_ble_eq_true rfl), (Nat.le_of_ble_eq_true rfl)⟩ g5 rfl rfl hl.1 rfl (Nat.le_of_ble_eq_true rfl) dX11_bearer_27 ⟨(Nat.zero_le _), (Nat.zero_le _)⟩) (fun H locs hw => ?_)
      replace h := Option.some.inj h
      subst h
      exact RET hw ⟨(Nat.zero_le _), (Nat.zero_le _)⟩ dX11_bearer_30
    · replace h := itf h c4
      refine lv_iconst (v := (1 : Int32)) hx hb dX11_bearer_22 (by decide) ?_
      refine lv_goto (tgt := 27) hx hb dX11_bearer_23 (by decide) ?_
      obtain ⟨g7, h⟩ := itg h
      obtain ⟨r8, hr8, h⟩ := ob h
      refine m_contI hC hw (m_runV hC hw (x := this) (ci := 14) (N := 11) (C := RX11) (T := TX11) (n := 1) (av := [.int (1 : Int32)]) (rest := []) (c_X11_refuseAsked (G := G) (l := l) hr8) gX11_bearer_X11_refuseAsked rfl (by decide +kernel) ⟨(Nat.le_of_ble_eq_true rfl), (Nat.le_of_ble_eq_true rfl)⟩ g7 rfl rfl hl.1 rfl (Nat.le_of_ble_eq_true rfl) dX11_bearer_27 ⟨(Nat.zero_le _), (Nat.zero_le _)⟩) (fun H locs hw => ?_)
      replace h := Option.some.inj h
      subst h
      exact RET hw ⟨(Nat.zero_le _), (Nat.zero_le _)⟩ dX11_bearer_30
  · replace h := itf h c3
    refine lv_iload_n hx hb dX11_bearer_10 rfl (lv_at hl 3 rfl) ?_
    obtain ⟨r9, hr9, h⟩ := ob h
    refine m_contI hC hw (m_runS hC hw (n := 1) (av := [.int a2]) (rest := []) (c_X11_isDay (G := G) (l := l) hr9) gX11_bearer_X11_isDay rfl (by decide +kernel) ⟨(Nat.le_of_ble_eq_true rfl), (Nat.le_of_ble_eq_true rfl)⟩ rfl hl.1 rfl (Nat.le_of_ble_eq_true rfl) dX11_bearer_11 ⟨(Nat.zero_le _), (Nat.zero_le _)⟩) (fun H locs hw => ?_)
    refine lv_if_ne (tgt := 31) hx hb dX11_bearer_14 (by decide) (fun c10 => ?_) (fun c10 => ?_)
    · replace h := itf h c10
      refine m_aload_n (x := r2) hx hb dX11_bearer_31 rfl (lv_at hl 0 rfl) ?_
      refine lv_iload_n hx hb dX11_bearer_32 rfl (lv_at hl 3 rfl) ?_
      obtain ⟨g11, h⟩ := itg h
      obtain ⟨r12, hr12, h⟩ := ob h
      refine m_contQ hC hw (m_runV hC hw (x := r2) (ci := 13) (N := 9) (C := RX10) (T := TX10) (n := 1) (av := [.int a2]) (rest := []) (c_X10_reportOn (G := G) (l := l) hr12) gX11_bearer_X10_reportOn rfl (by decide +kernel) ⟨(Nat.le_of_ble_eq_true rfl), (Nat.le_of_ble_eq_true rfl)⟩ g11 rfl rfl hl.1 rfl (Nat.le_of_ble_eq_true rfl) dX11_bearer_33 ⟨(Nat.zero_le _), (Nat.zero_le _)⟩) (fun H locs hw => ?_)
      refine m_ifnonnull (x := r12) (tgt := 45) hx hb dX11_bearer_36 (by decide) (fun c13 => ?_) (fun c13 => ?_)
      · replace h := itf h c13
        refine m_aload_n (x := this) hx hb dX11_bearer_45 rfl (lv_at hl 1 rfl) ?_
        refine m_aload_n (x := this) hx hb dX11_bearer_46 rfl (lv_at hl 1 rfl) ?_
        refine m_aload_n (x := r2) hx hb dX11_bearer_47 rfl (lv_at hl 0 rfl) ?_
        refine m_aload_n (x := r2) hx hb dX11_bearer_48 rfl (lv_at hl 0 rfl) ?_
        refine lv_iload_n hx hb dX11_bearer_49 rfl (lv_at hl 3 rfl) ?_
        obtain ⟨g14, h⟩ := itg h
        obtain ⟨r15, hr15, h⟩ := ob h
        refine m_contI hC hw (m_runV hC hw (x := r2) (ci := 13) (N := 9) (C := RX10) (T := TX10) (n := 1) (av := [.int a2]) (rest := [va_rf r2, va_rf this, va_rf this]) (c_X10_latestReport (G := G) (l := l) hr15) gX11_bearer_X10_latestReport rfl (by decide +kernel) ⟨(Nat.le_of_ble_eq_true rfl), (Nat.le_of_ble_eq_true rfl)⟩ g14 rfl rfl hl.1 rfl (by simp [va_rf_cat, cat_i, cat_r, cat_l]) dX11_bearer_50 ⟨(Nat.zero_le _), (Nat.zero_le _)⟩) (fun H locs hw => ?_)
        obtain ⟨g16, h⟩ := itg h
        obtain ⟨r17, hr17, h⟩ := ob h
        refine m_contI hC hw (m_runV hC hw (x := this) (ci := 14) (N := 11) (C := RX11) (T := TX11) (n := 2) (av := [va_rf r2, .int r15]) (rest := [va_rf this]) (c_X11_bearerOf (G := G) (l := l) hr17) gX11_bearer_X11_bearerOf rfl (by decide +kernel) ⟨(Nat.le_of_ble_eq_true rfl), (Nat.le_of_ble_eq_true rfl)⟩ g16 rfl rfl hl.1 rfl (by simp [va_rf_cat, cat_i, cat_r, cat_l]) dX11_bearer_53 ⟨(Nat.zero_le _), (Nat.zero_le _)⟩) (fun H locs hw => ?_)
        obtain ⟨g18, h⟩ := itg h
        obtain ⟨r19, hr19, h⟩ := ob h
        refine m_contI hC hw (m_runV hC hw (x := this) (ci := 14) (N := 11) (C := RX11) (T := TX11) (n := 1) (av := [.int r17]) (rest := []) (c_X11_answer (G := G) (l := l) hr19) gX11_bearer_X11_answer rfl (by decide +kernel) ⟨(Nat.le_of_ble_eq_true rfl), (Nat.le_of_ble_eq_true rfl)⟩ g18 rfl rfl hl.1 rfl (Nat.le_of_ble_eq_true rfl) dX11_bearer_56 ⟨(Nat.zero_le _), (Nat.zero_le _)⟩) (fun H locs hw => ?_)
        replace h := Option.some.inj h
        subst h
        exact RET hw ⟨(Nat.zero_le _), (Nat.zero_le _)⟩ dX11_bearer_59
      · replace h := itt h c13
        refine m_aload_n (x := this) hx hb dX11_bearer_39 rfl (lv_at hl 1 rfl) ?_
        refine lv_iconst (v := (1 : Int32)) hx hb dX11_bearer_40 (by decide) ?_
        obtain ⟨g20, h⟩ := itg h
        obtain ⟨r21, hr21, h⟩ := ob h
        refine m_contI hC hw (m_runV hC hw (x := this) (ci := 14) (N := 11) (C := RX11) (T := TX11) (n := 1) (av := [.int (1 : Int32)]) (rest := []) (c_X11_refuse (G := G) (l := l) hr21) gX11_bearer_X11_refuse rfl (by decide +kernel) ⟨(Nat.le_of_ble_eq_true rfl), (Nat.le_of_ble_eq_true rfl)⟩ g20 rfl rfl hl.1 rfl (Nat.le_of_ble_eq_true rfl) dX11_bearer_41 ⟨(Nat.zero_le _), (Nat.zero_le _)⟩) (fun H locs hw => ?_)
        replace h := Option.some.inj h
        subst h
        exact RET hw ⟨(Nat.zero_le _), (Nat.zero_le _)⟩ dX11_bearer_44
    · replace h := itt h c10
      refine m_aload_n (x := this) hx hb dX11_bearer_17 rfl (lv_at hl 1 rfl) ?_
      refine m_aload_n (x := r2) hx hb dX11_bearer_18 rfl (lv_at hl 0 rfl) ?_
      refine m_ifnull (x := r2) (tgt := 26) hx hb dX11_bearer_19 (by decide) (fun c22 => ?_) (fun c22 => ?_)
      · replace h := itt h c22
        refine lv_iconst (v := (0 : Int32)) hx hb dX11_bearer_26 (by decide) ?_
        obtain ⟨g23, h⟩ := itg h
        obtain ⟨r24, hr24, h⟩ := ob h
        refine m_contI hC hw (m_runV hC hw (x := this) (ci := 14) (N := 11) (C := RX11) (T := TX11) (n := 1) (av := [.int (0 : Int32)]) (rest := []) (c_X11_refuseAsked (G := G) (l := l) hr24) gX11_bearer_X11_refuseAsked rfl (by decide +kernel) ⟨(Nat.le_of_ble_eq_true rfl), (Nat.le_of_ble_eq_true rfl)⟩ g23 rfl rfl hl.1 rfl (Nat.le_of_ble_eq_true rfl) dX11_bearer_27 ⟨(Nat.zero_le _), (Nat.zero_le _)⟩) (fun H locs hw => ?_)
        replace h := Option.some.inj h
        subst h
        exact RET hw ⟨(Nat.zero_le _), (Nat.zero_le _)⟩ dX11_bearer_30
      · replace h := itf h c22
        refine lv_iconst (v := (1 : Int32)) hx hb dX11_bearer_22 (by decide) ?_
        refine lv_goto (tgt := 27) hx hb dX11_bearer_23 (by decide) ?_
        obtain ⟨g25, h⟩ := itg h
        obtain ⟨r26, hr26, h⟩ := ob h
        refine m_contI hC hw (m_runV hC hw (x := this) (ci := 14) (N := 11) (C := RX11) (T := TX11) (n := 1) (av := [.int (1 : Int32)]) (rest := []) (c_X11_refuseAsked (G := G) (l := l) hr26) gX11_bearer_X11_refuseAsked rfl (by decide +kernel) ⟨(Nat.le_of_ble_eq_true rfl), (Nat.le_of_ble_eq_true rfl)⟩ g25 rfl rfl hl.1 rfl (Nat.le_of_ble_eq_true rfl) dX11_bearer_27 ⟨(Nat.zero_le _), (Nat.zero_le _)⟩) (fun H locs hw => ?_)
        replace h := Option.some.inj h
        subst h
        exact RET hw ⟨(Nat.zero_le _), (Nat.zero_le _)⟩ dX11_bearer_30

def f_X11_damagesBorneBy_L34 (n : Nat) (M : Mem) (x0 : Option Nat) (x1 : Int32) (x4 : Int32) (x5 : Option Nat) : Nat → Int64 → Int32 → Option (Int64)
  | 0, _, _ => none
  | k + 1, x2, x6 => if isO M x5 13 = true then ((f_X10_reportsTold M x5).bind fun r10 => if r10 ≤ x6 then (some ((x2))) else (if isO M x0 14 = true then ((f_X11_bearerOf n M x0 x5 x6).bind fun r13 => if r13 = x1 then (if isO M x5 13 = true then ((f_X10_damageTold n M x5 x6).bind fun r16 => f_X11_damagesBorneBy_L34 n M x0 x1 x4 x5 k (x2 + (r16).toInt64) (x6 + (1 : Int32))) else none) else (f_X11_damagesBorneBy_L34 n M x0 x1 x4 x5 k x2 (x6 + (1 : Int32)))) else none)) else none
def f_X11_damagesBorneBy_L5 (n : Nat) (M : Mem) (x0 : Option Nat) (x1 : Int32) : Nat → Int64 → Int32 → Option (Int32)
  | 0, _, _ => none
  | k + 1, x2, x4 => (gR M x0 14 2).bind fun v1 => if isO M v1 2 = true then ((f_Jx4a65c_size_8abf5 M v1).bind fun r3 => if r3 ≤ x4 then (some (((x2 / (1000 : Int64))).toInt32)) else ((gR M x0 14 2).bind fun v5 => if isO M v5 2 = true then ((f_Jx4a65c_get_915e3 M v5 x4).bind fun r7 => if r7 = none ∨ isO M r7 13 = true then ((f_X11_damagesBorneBy_L34 n M x0 x1 x4 r7 n x2 (0 : Int32)).bind fun o17 => f_X11_damagesBorneBy_L5 n M x0 x1 k o17 (x4 + (1 : Int32))) else none) else none)) else none
def f_X11_damagesBorneBy (n : Nat) (M : Mem) (this : Option Nat) (a1 : Int32) : Option (Int32) := f_X11_damagesBorneBy_L5 n M this a1 n (0 : Int64) (0 : Int32)
def rmX11_damagesBorneBy : Room := { frames := 6, cells := 0, slots := 0, locals := 139 }
theorem k_X11_damagesBorneBy_26 : Cond.fieldLink RX11 26 "LoanBook" "things" "Ljava/util/ArrayList;" ∈ wsX11_damagesBorneBy := List.mem_of_getElem? (i := 1) rfl
theorem ki_X11_damagesBorneBy_X11 : ∀ w ∈ u_ws RX11 TX11 11, w ∈ wsX11_damagesBorneBy := sub_r [127, 128, 129, 130, 131, 132, 133, 134, 135, 136, 137] (by decide +kernel)
theorem k_X11_damagesBorneBy_387 : Cond.constantLong RX11 387 (1000) ∈ wsX11_damagesBorneBy := List.mem_of_getElem? (i := 3) rfl
theorem k_X11_damagesBorneBy_cc85 : Cond.classLink RX11 85 RX10 ∈ wsX11_damagesBorneBy := List.mem_of_getElem? (i := 2) rfl
set_option maxHeartbeats 4000000 in
set_option maxRecDepth 100000 in
theorem c_X11_damagesBorneBy {G : wG} {l : Launch} {n : Nat} {M : Mem} {sz : Nat} {this : Option Nat} {a1 : Int32} {r : Int32} (h : f_X11_damagesBorneBy n M this a1 = some r) : CtrI G l yX11_damagesBorneBy wsX11_damagesBorneBy rmX11_damagesBorneBy [va_rf this, .int a1] M sz r M sz := by
  refine m_startI (own := RX11) (cc := cX11_damagesBorneBy) (maxL := 7) (lv0 := [(0, va_rf this), (1, .int a1)]) (by decide) rfl rfl (by simp [lg_sl, va_rf_cat, cat_i, cat_r]) (by simp [lv_args, va_rf_cat, cat_i, cat_r]) ?_
  intro p e s m args below meth c Q hC hname RET hsz hw ls hl
  have hx := hC.1
  have hb := hC.2.1
  have L34 : ∀ (x0 : Option Nat) (x1 : Int32) (x4 : Int32) (x5 : Option Nat) (k : Nat) (x2 : Int64) (x6 : Int32) (cells slots : Nat) (H : Heap) (locs : List Loc) (ls : Array Slot) (o : Int64), f_X11_damagesBorneBy_L34 n M x0 x1 x4 x5 k x2 x6 = some o → cells ≤ 0 → slots ≤ 0 → wD G s M M sz H locs → lv_has ls 7 [(0, va_rf x0), (1, .int x1), (2, .long x2), (4, .int x4), (5, va_rf x5), (6, .int x6)] → (∀ (H : Heap) (locs : List Loc) (ls : Array Slot), wD G s M M sz H locs → lv_has ls 7 [(0, va_rf x0), (1, .int x1), (2, .long o), (4, .int x4)] → W p l e rmX11_damagesBorneBy s m args below meth c H locs cells slots Q (F0 m 73 ls [])) → W p l e rmX11_damagesBorneBy s m args below meth c H locs cells slots Q (F0 m 34 ls []) := by
    intro x0 x1 x4 x5 k
    induction k with
    | zero =>
      intro x2 x6 cells slots H locs ls o h
      exact absurd (show (none : Option (Int64)) = some o from h) (fun z => by cases z)
    | succ k ih =>
      intro x2 x6 cells slots H locs ls o h hcl hsl hw hl hk
      rw [f_X11_damagesBorneBy_L34] at h
      refine lv_iload hx hb dX11_damagesBorneBy_34 (lv_at hl 5 rfl) ?_
      refine m_aload (x := x5) hx hb dX11_damagesBorneBy_36 (lv_at hl 4 rfl) ?_
      obtain ⟨g9, h⟩ := itg h
      obtain ⟨r10, hr10, h⟩ := ob h
      refine m_contI hC hw (m_runV hC hw (x := x5) (ci := 13) (N := 9) (C := RX10) (T := TX10) (n := 0) (av := []) (rest := [.int x6]) (c_X10_reportsTold (G := G) (l := l) hr10) gX11_damagesBorneBy_X10_reportsTold rfl (by decide +kernel) ⟨(Nat.le_of_ble_eq_true rfl), (Nat.le_of_ble_eq_true rfl)⟩ g9 rfl rfl hl.1 rfl (Nat.le_of_ble_eq_true rfl) dX11_damagesBorneBy_38 ⟨(show cells + 0 ≤ 0 from by omega), (show slots + 0 ≤ 0 from by omega)⟩) (fun H locs hw => ?_)
      refine lv_icmp_ge (tgt := 73) hx hb dX11_damagesBorneBy_41 (by decide) (fun c11 => ?_) (fun c11 => ?_)
      · replace h := itt h c11
        replace h := Option.some.inj h
        subst h
        exact hk _ _ _  hw (lv_sub hl [0, 1, 2, 3] rfl)
      · replace h := itf h c11
        refine m_aload_n (x := x0) hx hb dX11_damagesBorneBy_44 rfl (lv_at hl 0 rfl) ?_
        refine m_aload (x := x5) hx hb dX11_damagesBorneBy_45 (lv_at hl 4 rfl) ?_
        refine lv_iload hx hb dX11_damagesBorneBy_47 (lv_at hl 5 rfl) ?_
        obtain ⟨g12, h⟩ := itg h
        obtain ⟨r13, hr13, h⟩ := ob h
        refine m_contI hC hw (m_runV hC hw (x := x0) (ci := 14) (N := 11) (C := RX11) (T := TX11) (n := 2) (av := [va_rf x5, .int x6]) (rest := []) (c_X11_bearerOf (G := G) (l := l) hr13) gX11_damagesBorneBy_X11_bearerOf rfl (by decide +kernel) ⟨(Nat.le_of_ble_eq_true rfl), (Nat.le_of_ble_eq_true rfl)⟩ g12 rfl rfl hl.1 rfl (Nat.le_of_ble_eq_true rfl) dX11_damagesBorneBy_49 ⟨(show cells + 0 ≤ 0 from by omega), (show slots + 0 ≤ 0 from by omega)⟩) (fun H locs hw => ?_)
        refine lv_iload_n hx hb dX11_damagesBorneBy_52 rfl (lv_at hl 1 rfl) ?_
        refine lv_icmp_ne (tgt := 67) hx hb dX11_damagesBorneBy_53 (by decide) (fun c14 => ?_) (fun c14 => ?_)
        · replace h := itf h c14
          refine lv_iinc (v := (x6 + (1 : Int32))) (lv' := [(6, .int (x6 + (1 : Int32))), (0, va_rf x0), (1, .int x1), (2, .long x2), (4, .int x4), (5, va_rf x5)]) hx hb dX11_damagesBorneBy_67 hl (k := 5) rfl rfl (by decide) (by simp [va_rf_cat, cat_i, cat_l]) (fun ls hl => ?_)
          refine lv_goto (tgt := 34) hx hb dX11_damagesBorneBy_70 (by decide) ?_
          exact ih _ _ _ _ _ _ _ _ h hcl hsl hw (lv_sub hl [1, 2, 3, 4, 5, 0] rfl) hk
        · replace h := itt h c14
          refine lv_lload_n hx hb dX11_damagesBorneBy_56 rfl (lv_at hl 2 rfl) ?_
          refine m_aload (x := x5) hx hb dX11_damagesBorneBy_57 (lv_at hl 4 rfl) ?_
          refine lv_iload hx hb dX11_damagesBorneBy_59 (lv_at hl 5 rfl) ?_
          obtain ⟨g15, h⟩ := itg h
          obtain ⟨r16, hr16, h⟩ := ob h
          refine m_contI hC hw (m_runV hC hw (x := x5) (ci := 13) (N := 9) (C := RX10) (T := TX10) (n := 1) (av := [.int x6]) (rest := [.long x2]) (c_X10_damageTold (G := G) (l := l) hr16) gX11_damagesBorneBy_X10_damageTold rfl (by decide +kernel) ⟨(Nat.le_of_ble_eq_true rfl), (Nat.le_of_ble_eq_true rfl)⟩ g15 rfl rfl hl.1 rfl (Nat.le_of_ble_eq_true rfl) dX11_damagesBorneBy_61 ⟨(show cells + 0 ≤ 0 from by omega), (show slots + 0 ≤ 0 from by omega)⟩) (fun H locs hw => ?_)
          refine lv_i2l hx hb dX11_damagesBorneBy_64 rfl ?_
          refine lv_ladd hx hb dX11_damagesBorneBy_65 ?_
          refine lv_lstore_n (i := 2) (lv' := [(2, .long (x2 + (r16).toInt64)), (0, va_rf x0), (1, .int x1), (4, .int x4), (5, va_rf x5), (6, .int x6)]) hx hb dX11_damagesBorneBy_66 rfl hl (by decide) rfl (fun ls hl => ?_)
          refine lv_iinc (v := (x6 + (1 : Int32))) (lv' := [(6, .int (x6 + (1 : Int32))), (2, .long (x2 + (r16).toInt64)), (0, va_rf x0), (1, .int x1), (4, .int x4), (5, va_rf x5)]) hx hb dX11_damagesBorneBy_67 hl (k := 5) rfl rfl (by decide) (by simp [va_rf_cat, cat_i, cat_l]) (fun ls hl => ?_)
          refine lv_goto (tgt := 34) hx hb dX11_damagesBorneBy_70 (by decide) ?_
          exact ih _ _ _ _ _ _ _ _ h hcl hsl hw (lv_sub hl [2, 3, 1, 4, 5, 0] rfl) hk
  have L5 : ∀ (x0 : Option Nat) (x1 : Int32) (k : Nat) (x2 : Int64) (x4 : Int32) (cells slots : Nat) (H : Heap) (locs : List Loc) (ls : Array Slot), f_X11_damagesBorneBy_L5 n M x0 x1 k x2 x4 = some r → cells ≤ 0 → slots ≤ 0 → wD G s M M sz H locs → lv_has ls 7 [(0, va_rf x0), (1, .int x1), (2, .long x2), (4, .int x4)] → W p l e rmX11_damagesBorneBy s m args below meth c H locs cells slots Q (F0 m 5 ls []) := by
    intro x0 x1 k
    induction k with
    | zero =>
      intro x2 x4 cells slots H locs ls h
      exact absurd (show (none : Option (Int32)) = some r from h) (fun z => by cases z)
    | succ k ih =>
      intro x2 x4 cells slots H locs ls h hcl hsl hw hl
      rw [f_X11_damagesBorneBy_L5] at h
      refine lv_iload hx hb dX11_damagesBorneBy_5 (lv_at hl 3 rfl) ?_
      refine m_aload_n (x := x0) hx hb dX11_damagesBorneBy_7 rfl (lv_at hl 0 rfl) ?_
      obtain ⟨v1, hv1, h⟩ := ob h
      refine m_getR hC hw (C := RX11) (T := TX11) (N := 11) hv1 ki_X11_damagesBorneBy_X11 rfl (by decide) k_X11_damagesBorneBy_26 (fun _ z => z) dX11_damagesBorneBy_8 ?_
      obtain ⟨g2, h⟩ := itg h
      obtain ⟨r3, hr3, h⟩ := ob h
      refine m_contI hC hw (m_runV hC hw (x := v1) (ci := 2) (N := 3) (C := RJx4a65c) (T := TJx4a65c) (n := 0) (av := []) (rest := [.int x4]) (c_Jx4a65c_size_8abf5 (G := G) (l := l) hr3) gX11_damagesBorneBy_Jx4a65c_size_8abf5 rfl (by decide +kernel) ⟨(Nat.le_of_ble_eq_true rfl), (Nat.le_of_ble_eq_true rfl)⟩ g2 rfl rfl hl.1 rfl (Nat.le_of_ble_eq_true rfl) dX11_damagesBorneBy_11 ⟨(show cells + 0 ≤ 0 from by omega), (show slots + 0 ≤ 0 from by omega)⟩) (fun H locs hw => ?_)
      refine lv_icmp_ge (tgt := 79) hx hb dX11_damagesBorneBy_14 (by decide) (fun c4 => ?_) (fun c4 => ?_)
      · replace h := itt h c4
        refine lv_lload_n hx hb dX11_damagesBorneBy_79 rfl (lv_at hl 2 rfl) ?_
        refine lv_ldc2 (v := (1000 : Int64)) hx hb hC.2.2.2.1 (hC.tab _ k_X11_damagesBorneBy_387) dX11_damagesBorneBy_80 ?_
        refine lv_ldiv hx hb dX11_damagesBorneBy_83 (by decide) ?_
        refine lv_l2i hx hb dX11_damagesBorneBy_84 rfl ?_
        replace h := Option.some.inj h
        subst h
        exact RET hw ⟨(show cells + 0 ≤ 0 from by omega), (show slots + 0 ≤ 0 from by omega)⟩ dX11_damagesBorneBy_85
      · replace h := itf h c4
        refine m_aload_n (x := x0) hx hb dX11_damagesBorneBy_17 rfl (lv_at hl 0 rfl) ?_
        obtain ⟨v5, hv5, h⟩ := ob h
        refine m_getR hC hw (C := RX11) (T := TX11) (N := 11) hv5 ki_X11_damagesBorneBy_X11 rfl (by decide) k_X11_damagesBorneBy_26 (fun _ z => z) dX11_damagesBorneBy_18 ?_
        refine lv_iload hx hb dX11_damagesBorneBy_21 (lv_at hl 3 rfl) ?_
        obtain ⟨g6, h⟩ := itg h
        obtain ⟨r7, hr7, h⟩ := ob h
        refine m_contQ hC hw (m_runV hC hw (x := v5) (ci := 2) (N := 3) (C := RJx4a65c) (T := TJx4a65c) (n := 1) (av := [.int x4]) (rest := []) (c_Jx4a65c_get_915e3 (G := G) (l := l) hr7) gX11_damagesBorneBy_Jx4a65c_get_915e3 rfl (by decide +kernel) ⟨(Nat.le_of_ble_eq_true rfl), (Nat.le_of_ble_eq_true rfl)⟩ g6 rfl rfl hl.1 rfl (Nat.le_of_ble_eq_true rfl) dX11_damagesBorneBy_23 ⟨(show cells + 0 ≤ 0 from by omega), (show slots + 0 ≤ 0 from by omega)⟩) (fun H locs hw => ?_)
        obtain ⟨g8, h⟩ := itg h
        refine m_cast (x := r7) hC hw (C := RX10) (T := TX10) (N := 9) g8 k_X11_damagesBorneBy_cc85 rfl dX11_damagesBorneBy_26 ?_
        refine m_astore (x := r7) (lv' := [(5, va_rf r7), (0, va_rf x0), (1, .int x1), (2, .long x2), (4, .int x4)]) hx hb dX11_damagesBorneBy_29 hl (by decide) rfl (fun ls hl => ?_)
        refine lv_iconst (v := (0 : Int32)) hx hb dX11_damagesBorneBy_31 (by decide) ?_
        refine lv_istore (lv' := [(6, .int (0 : Int32)), (5, va_rf r7), (0, va_rf x0), (1, .int x1), (2, .long x2), (4, .int x4)]) hx hb dX11_damagesBorneBy_32 hl (by decide) (by simp [va_rf_cat, cat_i, cat_l]) (fun ls hl => ?_)
        obtain ⟨o17, ho17, h⟩ := ob h
        refine L34 x0 x1 x4 r7 _ _ _ _ _ _ _ _ _ ho17 (show cells + 0 ≤ 0 from by omega) (show slots + 0 ≤ 0 from by omega) hw (lv_sub hl [2, 3, 4, 5, 1, 0] rfl) (fun H locs ls hw hl => ?_)
        refine lv_iinc (v := (x4 + (1 : Int32))) (lv' := [(4, .int (x4 + (1 : Int32))), (0, va_rf x0), (1, .int x1), (2, .long o17)]) hx hb dX11_damagesBorneBy_73 hl (k := 3) rfl rfl (by decide) rfl (fun ls hl => ?_)
        refine lv_goto (tgt := 5) hx hb dX11_damagesBorneBy_76 (by decide) ?_
        exact ih _ _ _ _ _ _ _ h hcl hsl hw (lv_sub hl [1, 2, 3, 0] rfl)
  unfold f_X11_damagesBorneBy at h
  refine lv_lconst (v := (0 : Int64)) hx hb dX11_damagesBorneBy_0 (by decide) ?_
  refine lv_lstore_n (i := 2) (lv' := [(2, .long (0 : Int64)), (0, va_rf this), (1, .int a1)]) hx hb dX11_damagesBorneBy_1 rfl hl (by decide) rfl (fun ls hl => ?_)
  refine lv_iconst (v := (0 : Int32)) hx hb dX11_damagesBorneBy_2 (by decide) ?_
  refine lv_istore (lv' := [(4, .int (0 : Int32)), (2, .long (0 : Int64)), (0, va_rf this), (1, .int a1)]) hx hb dX11_damagesBorneBy_3 hl (by decide) rfl (fun ls hl => ?_)
  exact L5 this a1 _ _ _ _ _ _ _ _ h (Nat.zero_le _) (Nat.zero_le _) hw (lv_sub hl [2, 3, 1, 0] rfl)

def f_X11_charge (B : Nat) (n : Nat) (M : Mem) (this : Option Nat) (a1 : Int32) : Option (Int32 × Mem) := if isO M this 14 = true then ((f_X11_standingLoanAt M this a1).bind fun r2 => if r2 = none then (if isO M this 14 = true then ((f_X11_refuse B M this (1 : Int32)).bind fun r9 => some (r9.1, r9.2)) else none) else (if isO M this 14 = true then ((f_X11_damagesBorneBy n M this a1).bind fun r5 => if isO M this 14 = true then ((f_X11_answer B M this r5).bind fun r7 => some (r7.1, r7.2)) else none) else none)) else none
def rmX11_charge : Room := { frames := 7, cells := 0, slots := 0, locals := 165 }
set_option maxHeartbeats 4000000 in
set_option maxRecDepth 100000 in
theorem c_X11_charge {G : wG} {l : Launch} {n : Nat} {M : Mem} {sz : Nat} {this : Option Nat} {a1 : Int32} {r : Int32 × Mem} (h : f_X11_charge G.2.2.1 n M this a1 = some r) : CtrI G l yX11_charge wsX11_charge rmX11_charge [va_rf this, .int a1] M sz r.1 r.2 sz := by
  refine m_startI (own := RX11) (cc := cX11_charge) (maxL := 2) (lv0 := [(0, va_rf this), (1, .int a1)]) (by decide) rfl rfl (by simp [lg_sl, va_rf_cat, cat_i, cat_r]) (by simp [lv_args, va_rf_cat, cat_i, cat_r]) ?_
  intro p e s m args below meth c Q hC hname RET hsz hw ls hl
  have hx := hC.1
  have hb := hC.2.1
  unfold f_X11_charge at h
  refine m_aload_n (x := this) hx hb dX11_charge_0 rfl (lv_at hl 0 rfl) ?_
  refine lv_iload_n hx hb dX11_charge_1 rfl (lv_at hl 1 rfl) ?_
  obtain ⟨g1, h⟩ := itg h
  obtain ⟨r2, hr2, h⟩ := ob h
  refine m_contQ hC hw (m_runV hC hw (x := this) (ci := 14) (N := 11) (C := RX11) (T := TX11) (n := 1) (av := [.int a1]) (rest := []) (c_X11_standingLoanAt (G := G) (l := l) hr2) gX11_charge_X11_standingLoanAt rfl (by decide +kernel) ⟨(Nat.le_of_ble_eq_true rfl), (Nat.le_of_ble_eq_true rfl)⟩ g1 rfl rfl hl.1 rfl (Nat.le_of_ble_eq_true rfl) dX11_charge_2 ⟨(Nat.zero_le _), (Nat.zero_le _)⟩) (fun H locs hw => ?_)
  refine m_ifnonnull (x := r2) (tgt := 14) hx hb dX11_charge_5 (by decide) (fun c3 => ?_) (fun c3 => ?_)
  · replace h := itf h c3
    refine m_aload_n (x := this) hx hb dX11_charge_14 rfl (lv_at hl 0 rfl) ?_
    refine m_aload_n (x := this) hx hb dX11_charge_15 rfl (lv_at hl 0 rfl) ?_
    refine lv_iload_n hx hb dX11_charge_16 rfl (lv_at hl 1 rfl) ?_
    obtain ⟨g4, h⟩ := itg h
    obtain ⟨r5, hr5, h⟩ := ob h
    refine m_contI hC hw (m_runV hC hw (x := this) (ci := 14) (N := 11) (C := RX11) (T := TX11) (n := 1) (av := [.int a1]) (rest := [va_rf this]) (c_X11_damagesBorneBy (G := G) (l := l) hr5) gX11_charge_X11_damagesBorneBy rfl (by decide +kernel) ⟨(Nat.le_of_ble_eq_true rfl), (Nat.le_of_ble_eq_true rfl)⟩ g4 rfl rfl hl.1 rfl (by simp [va_rf_cat, cat_i, cat_r, cat_l]) dX11_charge_17 ⟨(Nat.zero_le _), (Nat.zero_le _)⟩) (fun H locs hw => ?_)
    obtain ⟨g6, h⟩ := itg h
    obtain ⟨r7, hr7, h⟩ := ob h
    refine m_contI hC hw (m_runV hC hw (x := this) (ci := 14) (N := 11) (C := RX11) (T := TX11) (n := 1) (av := [.int r5]) (rest := []) (c_X11_answer (G := G) (l := l) hr7) gX11_charge_X11_answer rfl (by decide +kernel) ⟨(Nat.le_of_ble_eq_true rfl), (Nat.le_of_ble_eq_true rfl)⟩ g6 rfl rfl hl.1 rfl (Nat.le_of_ble_eq_true rfl) dX11_charge_20 ⟨(Nat.zero_le _), (Nat.zero_le _)⟩) (fun H locs hw => ?_)
    replace h := Option.some.inj h
    subst h
    exact RET hw ⟨(Nat.zero_le _), (Nat.zero_le _)⟩ dX11_charge_23
  · replace h := itt h c3
    refine m_aload_n (x := this) hx hb dX11_charge_8 rfl (lv_at hl 0 rfl) ?_
    refine lv_iconst (v := (1 : Int32)) hx hb dX11_charge_9 (by decide) ?_
    obtain ⟨g8, h⟩ := itg h
    obtain ⟨r9, hr9, h⟩ := ob h
    refine m_contI hC hw (m_runV hC hw (x := this) (ci := 14) (N := 11) (C := RX11) (T := TX11) (n := 1) (av := [.int (1 : Int32)]) (rest := []) (c_X11_refuse (G := G) (l := l) hr9) gX11_charge_X11_refuse rfl (by decide +kernel) ⟨(Nat.le_of_ble_eq_true rfl), (Nat.le_of_ble_eq_true rfl)⟩ g8 rfl rfl hl.1 rfl (Nat.le_of_ble_eq_true rfl) dX11_charge_10 ⟨(Nat.zero_le _), (Nat.zero_le _)⟩) (fun H locs hw => ?_)
    replace h := Option.some.inj h
    subst h
    exact RET hw ⟨(Nat.zero_le _), (Nat.zero_le _)⟩ dX11_charge_13

def f_X11_home (n : Nat) (M : Mem) (this : Option Nat) : Option (Int32) := if isO M this 14 = true then ((f_X11_damagesBorneBy n M this (-1 : Int32)).bind fun r2 => some (r2)) else none
def rmX11_home : Room := { frames := 7, cells := 0, slots := 0, locals := 165 }
set_option maxHeartbeats 4000000 in
set_option maxRecDepth 100000 in
theorem c_X11_home {G : wG} {l : Launch} {n : Nat} {M : Mem} {sz : Nat} {this : Option Nat} {r : Int32} (h : f_X11_home n M this = some r) : CtrI G l yX11_home wsX11_home rmX11_home [va_rf this] M sz r M sz := by
  refine m_startI (own := RX11) (cc := cX11_home) (maxL := 1) (lv0 := [(0, va_rf this)]) (by decide) rfl rfl (by simp [lg_sl, va_rf_cat, cat_i, cat_r]) (by simp [lv_args, va_rf_cat, cat_i, cat_r]) ?_
  intro p e s m args below meth c Q hC hname RET hsz hw ls hl
  have hx := hC.1
  have hb := hC.2.1
  unfold f_X11_home at h
  refine m_aload_n (x := this) hx hb dX11_home_0 rfl (lv_at hl 0 rfl) ?_
  refine lv_iconst (v := (-1 : Int32)) hx hb dX11_home_1 (by decide) ?_
  obtain ⟨g1, h⟩ := itg h
  obtain ⟨r2, hr2, h⟩ := ob h
  refine m_contI hC hw (m_runV hC hw (x := this) (ci := 14) (N := 11) (C := RX11) (T := TX11) (n := 1) (av := [.int (-1 : Int32)]) (rest := []) (c_X11_damagesBorneBy (G := G) (l := l) hr2) gX11_home_X11_damagesBorneBy rfl (by decide +kernel) ⟨(Nat.le_of_ble_eq_true rfl), (Nat.le_of_ble_eq_true rfl)⟩ g1 rfl rfl hl.1 rfl (Nat.le_of_ble_eq_true rfl) dX11_home_2 ⟨(Nat.zero_le _), (Nat.zero_le _)⟩) (fun H locs hw => ?_)
  replace h := Option.some.inj h
  subst h
  exact RET hw ⟨(Nat.zero_le _), (Nat.zero_le _)⟩ dX11_home_5

def f_X11_writingOf (M : Mem) (this : Option Nat) (a1 : Int32) (a2 : Int32) : Option (Option Nat) := if a1 = 0 then (if isO M this 14 = true then ((f_X11_thingAt M this a2).bind fun r12 => if r12 = none then (some (none)) else ((gR M r12 13 3).bind fun v14 => some (v14))) else none) else (if a1 = (1 : Int32) then (if isO M this 14 = true then ((f_X11_houseAt M this a2).bind fun r8 => if r8 = none then (some (none)) else ((gR M r8 6 4).bind fun v10 => some (v10))) else none) else (if isO M this 14 = true then ((f_X11_courierAt M this a2).bind fun r4 => if r4 = none then (some (none)) else ((gR M r4 5 1).bind fun v6 => some (v6))) else none))
def rmX11_writingOf : Room := { frames := 4, cells := 0, slots := 0, locals := 85 }
theorem k_X11_writingOf_314 : Cond.fieldLink RX11 314 "LoanBook$Courier" "written" "Ljava/lang/String;" ∈ wsX11_writingOf := List.mem_of_getElem? (i := 3) rfl
theorem ki_X11_writingOf_X2 : ∀ w ∈ u_ws RX2 TX2 3, w ∈ wsX11_writingOf := sub_r [60, 61, 62] (by decide +kernel)
theorem k_X11_writingOf_313 : Cond.fieldLink RX11 313 "LoanBook$House" "written" "Ljava/lang/String;" ∈ wsX11_writingOf := List.mem_of_getElem? (i := 2) rfl
theorem ki_X11_writingOf_X3 : ∀ w ∈ u_ws RX3 TX3 5, w ∈ wsX11_writingOf := sub_r [55, 56, 57, 58, 59] (by decide +kernel)
theorem k_X11_writingOf_312 : Cond.fieldLink RX11 312 "LoanBook$Thing" "written" "Ljava/lang/String;" ∈ wsX11_writingOf := List.mem_of_getElem? (i := 1) rfl
theorem ki_X11_writingOf_X10 : ∀ w ∈ u_ws RX10 TX10 9, w ∈ wsX11_writingOf := sub_r [46, 47, 48, 49, 50, 51, 52, 53, 54] (by decide +kernel)
set_option maxHeartbeats 4000000 in
set_option maxRecDepth 100000 in
theorem c_X11_writingOf {G : wG} {l : Launch} {M : Mem} {sz : Nat} {this : Option Nat} {a1 : Int32} {a2 : Int32} {r : Option Nat} (h : f_X11_writingOf M this a1 a2 = some r) : CtrQ G l yX11_writingOf wsX11_writingOf rmX11_writingOf [va_rf this, .int a1, .int a2] M sz r M sz := by
  refine m_startQ (own := RX11) (cc := cX11_writingOf) (maxL := 4) (lv0 := [(0, va_rf this), (1, .int a1), (2, .int a2)]) (by decide) rfl rfl (by simp [lg_sl, va_rf_cat, cat_i, cat_r]) (by simp [lv_args, va_rf_cat, cat_i, cat_r]) (Or.inl ⟨_, rfl⟩) ?_
  intro p e s m args below meth c Q hC hname RET hsz hw ls hl
  have hx := hC.1
  have hb := hC.2.1
  unfold f_X11_writingOf at h
  refine lv_iload_n hx hb dX11_writingOf_0 rfl (lv_at hl 1 rfl) ?_
  refine lv_if_ne (tgt := 23) hx hb dX11_writingOf_1 (by decide) (fun c1 => ?_) (fun c1 => ?_)
  · replace h := itf h c1
    refine lv_iload_n hx hb dX11_writingOf_23 rfl (lv_at hl 1 rfl) ?_
    refine lv_iconst (v := (1 : Int32)) hx hb dX11_writingOf_24 (by decide) ?_
    refine lv_icmp_ne (tgt := 47) hx hb dX11_writingOf_25 (by decide) (fun c2 => ?_) (fun c2 => ?_)
    · replace h := itf h c2
      refine m_aload_n (x := this) hx hb dX11_writingOf_47 rfl (lv_at hl 0 rfl) ?_
      refine lv_iload_n hx hb dX11_writingOf_48 rfl (lv_at hl 2 rfl) ?_
      obtain ⟨g3, h⟩ := itg h
      obtain ⟨r4, hr4, h⟩ := ob h
      refine m_contQ hC hw (m_runV hC hw (x := this) (ci := 14) (N := 11) (C := RX11) (T := TX11) (n := 1) (av := [.int a2]) (rest := []) (c_X11_courierAt (G := G) (l := l) hr4) gX11_writingOf_X11_courierAt rfl (by decide +kernel) ⟨(Nat.le_of_ble_eq_true rfl), (Nat.le_of_ble_eq_true rfl)⟩ g3 rfl rfl hl.1 rfl (Nat.le_of_ble_eq_true rfl) dX11_writingOf_49 ⟨(Nat.zero_le _), (Nat.zero_le _)⟩) (fun H locs hw => ?_)
      refine m_astore_n (x := r4) (i := 3) (lv' := [(3, va_rf r4), (0, va_rf this), (1, .int a1), (2, .int a2)]) hx hb dX11_writingOf_52 rfl hl (by decide) rfl (fun ls hl => ?_)
      refine m_aload_n (x := r4) hx hb dX11_writingOf_53 rfl (lv_at hl 0 rfl) ?_
      refine m_ifnonnull (x := r4) (tgt := 61) hx hb dX11_writingOf_54 (by decide) (fun c5 => ?_) (fun c5 => ?_)
      · replace h := itf h c5
        refine m_aload_n (x := r4) hx hb dX11_writingOf_61 rfl (lv_at hl 0 rfl) ?_
        obtain ⟨v6, hv6, h⟩ := ob h
        refine m_getR hC hw (C := RX2) (T := TX2) (N := 3) hv6 ki_X11_writingOf_X2 rfl (by decide) k_X11_writingOf_314 (fun _ z => z) dX11_writingOf_62 ?_
        replace h := Option.some.inj h
        subst h
        exact RET hw ⟨(Nat.zero_le _), (Nat.zero_le _)⟩ dX11_writingOf_65
      · replace h := itt h c5
        refine lv_null hx hb dX11_writingOf_57 ?_
        refine lv_goto (tgt := 65) hx hb dX11_writingOf_58 (by decide) ?_
        replace h := Option.some.inj h
        subst h
        exact RET hw ⟨(Nat.zero_le _), (Nat.zero_le _)⟩ dX11_writingOf_65
    · replace h := itt h c2
      refine m_aload_n (x := this) hx hb dX11_writingOf_28 rfl (lv_at hl 0 rfl) ?_
      refine lv_iload_n hx hb dX11_writingOf_29 rfl (lv_at hl 2 rfl) ?_
      obtain ⟨g7, h⟩ := itg h
      obtain ⟨r8, hr8, h⟩ := ob h
      refine m_contQ hC hw (m_runV hC hw (x := this) (ci := 14) (N := 11) (C := RX11) (T := TX11) (n := 1) (av := [.int a2]) (rest := []) (c_X11_houseAt (G := G) (l := l) hr8) gX11_writingOf_X11_houseAt rfl (by decide +kernel) ⟨(Nat.le_of_ble_eq_true rfl), (Nat.le_of_ble_eq_true rfl)⟩ g7 rfl rfl hl.1 rfl (Nat.le_of_ble_eq_true rfl) dX11_writingOf_30 ⟨(Nat.zero_le _), (Nat.zero_le _)⟩) (fun H locs hw => ?_)
      refine m_astore_n (x := r8) (i := 3) (lv' := [(3, va_rf r8), (0, va_rf this), (1, .int a1), (2, .int a2)]) hx hb dX11_writingOf_33 rfl hl (by decide) rfl (fun ls hl => ?_)
      refine m_aload_n (x := r8) hx hb dX11_writingOf_34 rfl (lv_at hl 0 rfl) ?_
      refine m_ifnonnull (x := r8) (tgt := 42) hx hb dX11_writingOf_35 (by decide) (fun c9 => ?_) (fun c9 => ?_)
      · replace h := itf h c9
        refine m_aload_n (x := r8) hx hb dX11_writingOf_42 rfl (lv_at hl 0 rfl) ?_
        obtain ⟨v10, hv10, h⟩ := ob h
        refine m_getR hC hw (C := RX3) (T := TX3) (N := 5) hv10 ki_X11_writingOf_X3 rfl (by decide) k_X11_writingOf_313 (fun _ z => z) dX11_writingOf_43 ?_
        replace h := Option.some.inj h
        subst h
        exact RET hw ⟨(Nat.zero_le _), (Nat.zero_le _)⟩ dX11_writingOf_46
      · replace h := itt h c9
        refine lv_null hx hb dX11_writingOf_38 ?_
        refine lv_goto (tgt := 46) hx hb dX11_writingOf_39 (by decide) ?_
        replace h := Option.some.inj h
        subst h
        exact RET hw ⟨(Nat.zero_le _), (Nat.zero_le _)⟩ dX11_writingOf_46
  · replace h := itt h c1
    refine m_aload_n (x := this) hx hb dX11_writingOf_4 rfl (lv_at hl 0 rfl) ?_
    refine lv_iload_n hx hb dX11_writingOf_5 rfl (lv_at hl 2 rfl) ?_
    obtain ⟨g11, h⟩ := itg h
    obtain ⟨r12, hr12, h⟩ := ob h
    refine m_contQ hC hw (m_runV hC hw (x := this) (ci := 14) (N := 11) (C := RX11) (T := TX11) (n := 1) (av := [.int a2]) (rest := []) (c_X11_thingAt (G := G) (l := l) hr12) gX11_writingOf_X11_thingAt rfl (by decide +kernel) ⟨(Nat.le_of_ble_eq_true rfl), (Nat.le_of_ble_eq_true rfl)⟩ g11 rfl rfl hl.1 rfl (Nat.le_of_ble_eq_true rfl) dX11_writingOf_6 ⟨(Nat.zero_le _), (Nat.zero_le _)⟩) (fun H locs hw => ?_)
    refine m_astore_n (x := r12) (i := 3) (lv' := [(3, va_rf r12), (0, va_rf this), (1, .int a1), (2, .int a2)]) hx hb dX11_writingOf_9 rfl hl (by decide) rfl (fun ls hl => ?_)
    refine m_aload_n (x := r12) hx hb dX11_writingOf_10 rfl (lv_at hl 0 rfl) ?_
    refine m_ifnonnull (x := r12) (tgt := 18) hx hb dX11_writingOf_11 (by decide) (fun c13 => ?_) (fun c13 => ?_)
    · replace h := itf h c13
      refine m_aload_n (x := r12) hx hb dX11_writingOf_18 rfl (lv_at hl 0 rfl) ?_
      obtain ⟨v14, hv14, h⟩ := ob h
      refine m_getR hC hw (C := RX10) (T := TX10) (N := 9) hv14 ki_X11_writingOf_X10 rfl (by decide) k_X11_writingOf_312 (fun _ z => z) dX11_writingOf_19 ?_
      replace h := Option.some.inj h
      subst h
      exact RET hw ⟨(Nat.zero_le _), (Nat.zero_le _)⟩ dX11_writingOf_22
    · replace h := itt h c13
      refine lv_null hx hb dX11_writingOf_14 ?_
      refine lv_goto (tgt := 22) hx hb dX11_writingOf_15 (by decide) ?_
      replace h := Option.some.inj h
      subst h
      exact RET hw ⟨(Nat.zero_le _), (Nat.zero_le _)⟩ dX11_writingOf_22

def f_X11_letter (B : Nat) (M : Mem) (this : Option Nat) (a1 : Int32) (a2 : Int32) (a3 : Int32) : Option (Int32 × Mem) := if a1 < 0 then (if isO M this 14 = true then ((f_X11_refuse B M this (3 : Int32)).bind fun r3 => some (r3.1, r3.2)) else none) else (if a1 ≤ (2 : Int32) then (if isO M this 14 = true then ((f_X11_writingOf M this a1 a2).bind fun r6 => if r6 = none then (if isO M this 14 = true then ((f_X11_refuse B M this (1 : Int32)).bind fun r11 => some (r11.1, r11.2)) else none) else (if isO M this 14 = true then ((f_X11_answerByte B M this r6 a3).bind fun r9 => some (r9.1, r9.2)) else none)) else none) else (if isO M this 14 = true then ((f_X11_refuse B M this (3 : Int32)).bind fun r13 => some (r13.1, r13.2)) else none))
def rmX11_letter : Room := { frames := 5, cells := 0, slots := 0, locals := 108 }
set_option maxHeartbeats 4000000 in
set_option maxRecDepth 100000 in
theorem c_X11_letter {G : wG} {l : Launch} {M : Mem} {sz : Nat} {this : Option Nat} {a1 : Int32} {a2 : Int32} {a3 : Int32} {r : Int32 × Mem} (h : f_X11_letter G.2.2.1 M this a1 a2 a3 = some r) : CtrI G l yX11_letter wsX11_letter rmX11_letter [va_rf this, .int a1, .int a2, .int a3] M sz r.1 r.2 sz := by
  refine m_startI (own := RX11) (cc := cX11_letter) (maxL := 5) (lv0 := [(0, va_rf this), (1, .int a1), (2, .int a2), (3, .int a3)]) (by decide) rfl rfl (by simp [lg_sl, va_rf_cat, cat_i, cat_r]) (by simp [lv_args, va_rf_cat, cat_i, cat_r]) ?_
  intro p e s m args below meth c Q hC hname RET hsz hw ls hl
  have hx := hC.1
  have hb := hC.2.1
  unfold f_X11_letter at h
  refine lv_iload_n hx hb dX11_letter_0 rfl (lv_at hl 1 rfl) ?_
  refine lv_if_lt (tgt := 9) hx hb dX11_letter_1 (by decide) (fun c1 => ?_) (fun c1 => ?_)
  · replace h := itt h c1
    refine m_aload_n (x := this) hx hb dX11_letter_9 rfl (lv_at hl 0 rfl) ?_
    refine lv_iconst (v := (3 : Int32)) hx hb dX11_letter_10 (by decide) ?_
    obtain ⟨g2, h⟩ := itg h
    obtain ⟨r3, hr3, h⟩ := ob h
    refine m_contI hC hw (m_runV hC hw (x := this) (ci := 14) (N := 11) (C := RX11) (T := TX11) (n := 1) (av := [.int (3 : Int32)]) (rest := []) (c_X11_refuse (G := G) (l := l) hr3) gX11_letter_X11_refuse rfl (by decide +kernel) ⟨(Nat.le_of_ble_eq_true rfl), (Nat.le_of_ble_eq_true rfl)⟩ g2 rfl rfl hl.1 rfl (Nat.le_of_ble_eq_true rfl) dX11_letter_11 ⟨(Nat.zero_le _), (Nat.zero_le _)⟩) (fun H locs hw => ?_)
    replace h := Option.some.inj h
    subst h
    exact RET hw ⟨(Nat.zero_le _), (Nat.zero_le _)⟩ dX11_letter_14
  · replace h := itf h c1
    refine lv_iload_n hx hb dX11_letter_4 rfl (lv_at hl 1 rfl) ?_
    refine lv_iconst (v := (2 : Int32)) hx hb dX11_letter_5 (by decide) ?_
    refine lv_icmp_le (tgt := 15) hx hb dX11_letter_6 (by decide) (fun c4 => ?_) (fun c4 => ?_)
    · replace h := itt h c4
      refine m_aload_n (x := this) hx hb dX11_letter_15 rfl (lv_at hl 0 rfl) ?_
      refine lv_iload_n hx hb dX11_letter_16 rfl (lv_at hl 1 rfl) ?_
      refine lv_iload_n hx hb dX11_letter_17 rfl (lv_at hl 2 rfl) ?_
      obtain ⟨g5, h⟩ := itg h
      obtain ⟨r6, hr6, h⟩ := ob h
      refine m_contQ hC hw (m_runV hC hw (x := this) (ci := 14) (N := 11) (C := RX11) (T := TX11) (n := 2) (av := [.int a1, .int a2]) (rest := []) (c_X11_writingOf (G := G) (l := l) hr6) gX11_letter_X11_writingOf rfl (by decide +kernel) ⟨(Nat.le_of_ble_eq_true rfl), (Nat.le_of_ble_eq_true rfl)⟩ g5 rfl rfl hl.1 rfl (Nat.le_of_ble_eq_true rfl) dX11_letter_18 ⟨(Nat.zero_le _), (Nat.zero_le _)⟩) (fun H locs hw => ?_)
      refine m_astore (x := r6) (lv' := [(4, va_rf r6), (0, va_rf this), (1, .int a1), (2, .int a2), (3, .int a3)]) hx hb dX11_letter_21 hl (by decide) rfl (fun ls hl => ?_)
      refine m_aload (x := r6) hx hb dX11_letter_23 (lv_at hl 0 rfl) ?_
      refine m_ifnonnull (x := r6) (tgt := 34) hx hb dX11_letter_25 (by decide) (fun c7 => ?_) (fun c7 => ?_)
      · replace h := itf h c7
        refine m_aload_n (x := this) hx hb dX11_letter_34 rfl (lv_at hl 1 rfl) ?_
        refine m_aload (x := r6) hx hb dX11_letter_35 (lv_at hl 0 rfl) ?_
        refine lv_iload_n hx hb dX11_letter_37 rfl (lv_at hl 4 rfl) ?_
        obtain ⟨g8, h⟩ := itg h
        obtain ⟨r9, hr9, h⟩ := ob h
        refine m_contI hC hw (m_runV hC hw (x := this) (ci := 14) (N := 11) (C := RX11) (T := TX11) (n := 2) (av := [va_rf r6, .int a3]) (rest := []) (c_X11_answerByte (G := G) (l := l) hr9) gX11_letter_X11_answerByte rfl (by decide +kernel) ⟨(Nat.le_of_ble_eq_true rfl), (Nat.le_of_ble_eq_true rfl)⟩ g8 rfl rfl hl.1 rfl (Nat.le_of_ble_eq_true rfl) dX11_letter_38 ⟨(Nat.zero_le _), (Nat.zero_le _)⟩) (fun H locs hw => ?_)
        replace h := Option.some.inj h
        subst h
        exact RET hw ⟨(Nat.zero_le _), (Nat.zero_le _)⟩ dX11_letter_41
      · replace h := itt h c7
        refine m_aload_n (x := this) hx hb dX11_letter_28 rfl (lv_at hl 1 rfl) ?_
        refine lv_iconst (v := (1 : Int32)) hx hb dX11_letter_29 (by decide) ?_
        obtain ⟨g10, h⟩ := itg h
        obtain ⟨r11, hr11, h⟩ := ob h
        refine m_contI hC hw (m_runV hC hw (x := this) (ci := 14) (N := 11) (C := RX11) (T := TX11) (n := 1) (av := [.int (1 : Int32)]) (rest := []) (c_X11_refuse (G := G) (l := l) hr11) gX11_letter_X11_refuse rfl (by decide +kernel) ⟨(Nat.le_of_ble_eq_true rfl), (Nat.le_of_ble_eq_true rfl)⟩ g10 rfl rfl hl.1 rfl (Nat.le_of_ble_eq_true rfl) dX11_letter_30 ⟨(Nat.zero_le _), (Nat.zero_le _)⟩) (fun H locs hw => ?_)
        replace h := Option.some.inj h
        subst h
        exact RET hw ⟨(Nat.zero_le _), (Nat.zero_le _)⟩ dX11_letter_33
    · replace h := itf h c4
      refine m_aload_n (x := this) hx hb dX11_letter_9 rfl (lv_at hl 0 rfl) ?_
      refine lv_iconst (v := (3 : Int32)) hx hb dX11_letter_10 (by decide) ?_
      obtain ⟨g12, h⟩ := itg h
      obtain ⟨r13, hr13, h⟩ := ob h
      refine m_contI hC hw (m_runV hC hw (x := this) (ci := 14) (N := 11) (C := RX11) (T := TX11) (n := 1) (av := [.int (3 : Int32)]) (rest := []) (c_X11_refuse (G := G) (l := l) hr13) gX11_letter_X11_refuse rfl (by decide +kernel) ⟨(Nat.le_of_ble_eq_true rfl), (Nat.le_of_ble_eq_true rfl)⟩ g12 rfl rfl hl.1 rfl (Nat.le_of_ble_eq_true rfl) dX11_letter_11 ⟨(Nat.zero_le _), (Nat.zero_le _)⟩) (fun H locs hw => ?_)
      replace h := Option.some.inj h
      subst h
      exact RET hw ⟨(Nat.zero_le _), (Nat.zero_le _)⟩ dX11_letter_14

def f_X11_status (M : Mem) (this : Option Nat) : Option (Int32) := (gI M this 14 10).bind fun v1 => some (v1)
def rmX11_status : Room := { frames := 0, cells := 0, slots := 0, locals := 0 }
theorem k_X11_status_52 : Cond.fieldLink RX11 52 "LoanBook" "lastStatus" "I" ∈ wsX11_status := List.mem_of_getElem? (i := 1) rfl
theorem ki_X11_status_X11 : ∀ w ∈ u_ws RX11 TX11 11, w ∈ wsX11_status := sub_r [2, 3, 4, 5, 6, 7, 8, 9, 10, 11, 12] (by decide +kernel)
set_option maxHeartbeats 4000000 in
set_option maxRecDepth 100000 in
theorem c_X11_status {G : wG} {l : Launch} {M : Mem} {sz : Nat} {this : Option Nat} {r : Int32} (h : f_X11_status M this = some r) : CtrI G l yX11_status wsX11_status rmX11_status [va_rf this] M sz r M sz := by
  refine m_startI (own := RX11) (cc := cX11_status) (maxL := 1) (lv0 := [(0, va_rf this)]) (by decide) rfl rfl (by simp [lg_sl, va_rf_cat, cat_i, cat_r]) (by simp [lv_args, va_rf_cat, cat_i, cat_r]) ?_
  intro p e s m args below meth c Q hC hname RET hsz hw ls hl
  have hx := hC.1
  have hb := hC.2.1
  unfold f_X11_status at h
  refine m_aload_n (x := this) hx hb dX11_status_0 rfl (lv_at hl 0 rfl) ?_
  obtain ⟨v1, hv1, h⟩ := ob h
  refine m_getI hC hw (C := RX11) (T := TX11) (N := 11) hv1 ki_X11_status_X11 rfl (by decide) k_X11_status_52 (fun _ z => z) dX11_status_1 ?_
  replace h := Option.some.inj h
  subst h
  exact RET hw ⟨(Nat.zero_le _), (Nat.zero_le _)⟩ dX11_status_4
