def f_Jxa1e45_init_da8c8 (M : Mem) (this : Option Nat) : Option (Unit) := if this ≠ none then (some ()) else none
def rmJxa1e45_init_da8c8 : Room := { frames := 1, cells := 0, slots := 0, locals := 20 }
theorem k_Jxa1e45_init_da8c8_oi1 : Cond.methodLink RJxa1e45 1 objectInit ∈ wsJxa1e45_init_da8c8 := List.mem_of_getElem? (i := 1) rfl
theorem k_Jxa1e45_init_da8c8_oj : Cond.instanceMethod objectInit ∈ wsJxa1e45_init_da8c8 := List.mem_of_getElem? (i := 2) rfl
theorem k_Jxa1e45_init_da8c8_ok : Cond.code objectInit ⟨#[0xb1]⟩ 1 none ∈ wsJxa1e45_init_da8c8 := List.mem_of_getElem? (i := 3) rfl
set_option maxHeartbeats 4000000 in
set_option maxRecDepth 100000 in
theorem c_Jxa1e45_init_da8c8 {G : wG} {l : Launch} {M : Mem} {sz : Nat} {this : Option Nat} {r : Unit} (h : f_Jxa1e45_init_da8c8 M this = some r) : CtrV G l yJxa1e45_init_da8c8 wsJxa1e45_init_da8c8 rmJxa1e45_init_da8c8 [va_rf this] M sz M sz := by
  refine m_startV (own := RJxa1e45) (cc := cJxa1e45_init_da8c8) (maxL := 1) (lv0 := [(0, va_rf this)]) (by decide) rfl rfl (by simp [lg_sl, va_rf_cat, cat_i, cat_r]) (by simp [lv_args, va_rf_cat, cat_i, cat_r]) ?_
  intro p e s m args below meth c Q hC hname RET hsz hw ls hl
  have hx := hC.1
  have hb := hC.2.1
  unfold f_Jxa1e45_init_da8c8 at h
  refine m_aload_n (x := this) hx hb dJxa1e45_init_da8c8_0 rfl (lv_at hl 0 rfl) ?_
  obtain ⟨g1, h⟩ := itg h
  refine m_objInit (x := this) (isN_some g1) hC (hC.tab _ k_Jxa1e45_init_da8c8_oi1) (hC.tab _ k_Jxa1e45_init_da8c8_oj) (hC.tab _ k_Jxa1e45_init_da8c8_ok) hl.1 ((Nat.le_of_ble_eq_true rfl)) (Nat.le_of_ble_eq_true rfl) (Nat.le_of_ble_eq_true rfl) dJxa1e45_init_da8c8_1 ?_
  replace h := Option.some.inj h
  subst h
  exact RET hw ⟨(Nat.zero_le _), (Nat.zero_le _)⟩ dJxa1e45_init_da8c8_4

def f_Jxc12de_init_da8c8 (B : Nat) (M : Mem) (this : Option Nat) : Option (Mem) := if this ≠ none then ((f_Jxa1e45_init_da8c8 M this).bind fun r2 => (pF B M this 2 0 (.int (0 : Int32))).bind fun M3 => some (M3)) else none
def rmJxc12de_init_da8c8 : Room := { frames := 2, cells := 0, slots := 0, locals := 40 }
theorem k_Jxc12de_init_da8c8_ml1 : Cond.methodLink RJxc12de 1 yJxa1e45_init_da8c8 ∈ wsJxc12de_init_da8c8 := List.mem_of_getElem? (i := 2) rfl
theorem k_Jxc12de_init_da8c8_imJxa1e45_init_da8c8 : Cond.instanceMethod yJxa1e45_init_da8c8 ∈ wsJxc12de_init_da8c8 := List.mem_of_getElem? (i := 3) rfl
theorem k_Jxc12de_init_da8c8_inJxa1e45 : Cond.initialized RJxa1e45 ∈ wsJxc12de_init_da8c8 := List.mem_of_getElem? (i := 4) rfl
theorem k_Jxc12de_init_da8c8_7 : Cond.fieldLink RJxc12de 7 "java/util/AbstractList" "modCount" "I" ∈ wsJxc12de_init_da8c8 := List.mem_of_getElem? (i := 1) rfl
theorem ki_Jxc12de_init_da8c8_Jx4a65c : ∀ w ∈ u_ws RJx4a65c TJx4a65c 3, w ∈ wsJxc12de_init_da8c8 := sub_r [9, 10, 11] (by decide +kernel)
set_option maxHeartbeats 4000000 in
set_option maxRecDepth 100000 in
theorem c_Jxc12de_init_da8c8 {G : wG} {l : Launch} {M : Mem} {sz : Nat} {this : Option Nat} {r : Mem} (h : f_Jxc12de_init_da8c8 G.2.2.1 M this = some r) : CtrV G l yJxc12de_init_da8c8 wsJxc12de_init_da8c8 rmJxc12de_init_da8c8 [va_rf this] M sz r sz := by
  refine m_startV (own := RJxc12de) (cc := cJxc12de_init_da8c8) (maxL := 1) (lv0 := [(0, va_rf this)]) (by decide) rfl rfl (by simp [lg_sl, va_rf_cat, cat_i, cat_r]) (by simp [lv_args, va_rf_cat, cat_i, cat_r]) ?_
  intro p e s m args below meth c Q hC hname RET hsz hw ls hl
  have hx := hC.1
  have hb := hC.2.1
  unfold f_Jxc12de_init_da8c8 at h
  refine m_aload_n (x := this) hx hb dJxc12de_init_da8c8_0 rfl (lv_at hl 0 rfl) ?_
  obtain ⟨g1, h⟩ := itg h
  obtain ⟨r2, hr2, h⟩ := ob h
  refine m_contV hC hw (m_runI hC hw (x := this) (n := 0) (av := []) (rest := []) (c_Jxa1e45_init_da8c8 (G := G) (l := l) hr2) gJxc12de_init_da8c8_Jxa1e45_init_da8c8 k_Jxc12de_init_da8c8_ml1 k_Jxc12de_init_da8c8_imJxa1e45_init_da8c8 k_Jxc12de_init_da8c8_inJxa1e45 rfl rfl (by decide +kernel) ⟨(Nat.le_of_ble_eq_true rfl), (Nat.le_of_ble_eq_true rfl)⟩ (isN_some g1) rfl hl.1 rfl (Nat.le_of_ble_eq_true rfl) dJxc12de_init_da8c8_1 ⟨(Nat.zero_le _), (Nat.zero_le _)⟩) (fun H locs hw => ?_)
  refine m_aload_n (x := this) hx hb dJxc12de_init_da8c8_4 rfl (lv_at hl 0 rfl) ?_
  refine lv_iconst (v := (0 : Int32)) hx hb dJxc12de_init_da8c8_5 (by decide) ?_
  obtain ⟨M3, hM3, h⟩ := ob h
  refine m_put hC hw (C := RJx4a65c) (T := TJx4a65c) (N := 3) (x := this) hM3 ki_Jxc12de_init_da8c8_Jx4a65c tyJx4a65c tyJx4a65c_ok nmJx4a65c rfl (by decide) k_Jxc12de_init_da8c8_7 (fun _ z => z) rfl rfl rfl dJxc12de_init_da8c8_6 (fun H locs hw => ?_)
  replace h := Option.some.inj h
  subst h
  exact RET hw ⟨(Nat.zero_le _), (Nat.zero_le _)⟩ dJxc12de_init_da8c8_9

def f_Jx4a65c_init_da8c8 (B : Nat) (S : Nat → Nat) (M : Mem) (this : Option Nat) : Option (Mem) := if this ≠ none then ((f_Jxc12de_init_da8c8 B M this).bind fun r2 => (pF B r2 this 2 1 (va_rf (some (S 20)))).bind fun M3 => some (M3)) else none
def rmJx4a65c_init_da8c8 : Room := { frames := 3, cells := 0, slots := 0, locals := 60 }
theorem k_Jx4a65c_init_da8c8_ml1 : Cond.methodLink RJx4a65c 1 yJxc12de_init_da8c8 ∈ wsJx4a65c_init_da8c8 := List.mem_of_getElem? (i := 3) rfl
theorem k_Jx4a65c_init_da8c8_imJxc12de_init_da8c8 : Cond.instanceMethod yJxc12de_init_da8c8 ∈ wsJx4a65c_init_da8c8 := List.mem_of_getElem? (i := 4) rfl
theorem k_Jx4a65c_init_da8c8_inJxc12de : Cond.initialized RJxc12de ∈ wsJx4a65c_init_da8c8 := List.mem_of_getElem? (i := 5) rfl
theorem k_Jx4a65c_init_da8c8_39 : Cond.fieldLink RJx4a65c 39 "java/util/ArrayList" "DEFAULTCAPACITY_EMPTY_ELEMENTDATA" "[Ljava/lang/Object;" ∈ wsJx4a65c_init_da8c8 := List.mem_of_getElem? (i := 1) rfl
theorem k_Jx4a65c_init_da8c8_9 : Cond.fieldLink RJx4a65c 9 "java/util/ArrayList" "elementData" "[Ljava/lang/Object;" ∈ wsJx4a65c_init_da8c8 := List.mem_of_getElem? (i := 2) rfl
theorem ki_Jx4a65c_init_da8c8_Jx4a65c : ∀ w ∈ u_ws RJx4a65c TJx4a65c 3, w ∈ wsJx4a65c_init_da8c8 := sub_r [15, 16, 17] (by decide +kernel)
set_option maxHeartbeats 4000000 in
set_option maxRecDepth 100000 in
theorem c_Jx4a65c_init_da8c8 {G : wG} {l : Launch} {M : Mem} {sz : Nat} {this : Option Nat} {r : Mem} (h : f_Jx4a65c_init_da8c8 G.2.2.1 G.2.2.2 M this = some r) : CtrV G l yJx4a65c_init_da8c8 wsJx4a65c_init_da8c8 rmJx4a65c_init_da8c8 [va_rf this] M sz r sz := by
  refine m_startV (own := RJx4a65c) (cc := cJx4a65c_init_da8c8) (maxL := 1) (lv0 := [(0, va_rf this)]) (by decide) rfl rfl (by simp [lg_sl, va_rf_cat, cat_i, cat_r]) (by simp [lv_args, va_rf_cat, cat_i, cat_r]) ?_
  intro p e s m args below meth c Q hC hname RET hsz hw ls hl
  have hx := hC.1
  have hb := hC.2.1
  unfold f_Jx4a65c_init_da8c8 at h
  refine m_aload_n (x := this) hx hb dJx4a65c_init_da8c8_0 rfl (lv_at hl 0 rfl) ?_
  obtain ⟨g1, h⟩ := itg h
  obtain ⟨r2, hr2, h⟩ := ob h
  refine m_contV hC hw (m_runI hC hw (x := this) (n := 0) (av := []) (rest := []) (c_Jxc12de_init_da8c8 (G := G) (l := l) hr2) gJx4a65c_init_da8c8_Jxc12de_init_da8c8 k_Jx4a65c_init_da8c8_ml1 k_Jx4a65c_init_da8c8_imJxc12de_init_da8c8 k_Jx4a65c_init_da8c8_inJxc12de rfl rfl (by decide +kernel) ⟨(Nat.le_of_ble_eq_true rfl), (Nat.le_of_ble_eq_true rfl)⟩ (isN_some g1) rfl hl.1 rfl (Nat.le_of_ble_eq_true rfl) dJx4a65c_init_da8c8_1 ⟨(Nat.zero_le _), (Nat.zero_le _)⟩) (fun H locs hw => ?_)
  refine m_aload_n (x := this) hx hb dJx4a65c_init_da8c8_4 rfl (lv_at hl 0 rfl) ?_
  refine m_gets (v := va_rf (some (G.2.2.2 20))) hC hw (by simp [evZ, va_rf]) k_Jx4a65c_init_da8c8_39 (fun _ z => z) dJx4a65c_init_da8c8_5 ?_
  obtain ⟨M3, hM3, h⟩ := ob h
  refine m_put hC hw (C := RJx4a65c) (T := TJx4a65c) (N := 3) (x := this) hM3 ki_Jx4a65c_init_da8c8_Jx4a65c tyJx4a65c tyJx4a65c_ok nmJx4a65c rfl (by decide) k_Jx4a65c_init_da8c8_9 (fun _ z => z) rfl (nar_rf _ _ (by decide)) (fit_rf _ _ (by decide)) dJx4a65c_init_da8c8_8 (fun H locs hw => ?_)
  replace h := Option.some.inj h
  subst h
  exact RET hw ⟨(Nat.zero_le _), (Nat.zero_le _)⟩ dJx4a65c_init_da8c8_11

def f_J0_coder_7d493 (M : Mem) (this : Option Nat) : Option (Int32) := (gI M this 0 1).bind fun v1 => if (v1 : Int32).toInt8.toInt32 = v1 then (some (v1)) else none
def rmJ0_coder_7d493 : Room := { frames := 0, cells := 0, slots := 0, locals := 0 }
theorem k_J0_coder_7d493_38 : Cond.fieldLink RJ0 38 "java/lang/String" "COMPACT_STRINGS" "Z" ∈ wsJ0_coder_7d493 := List.mem_of_getElem? (i := 1) rfl
theorem k_J0_coder_7d493_15 : Cond.fieldLink RJ0 15 "java/lang/String" "coder" "B" ∈ wsJ0_coder_7d493 := List.mem_of_getElem? (i := 2) rfl
theorem ki_J0_coder_7d493_J0 : ∀ w ∈ u_ws RJ0 TJ0 4, w ∈ wsJ0_coder_7d493 := sub_r [3, 4, 5, 6] (by decide +kernel)
set_option maxHeartbeats 4000000 in
set_option maxRecDepth 100000 in
theorem c_J0_coder_7d493 {G : wG} {l : Launch} {M : Mem} {sz : Nat} {this : Option Nat} {r : Int32} (h : f_J0_coder_7d493 M this = some r) : CtrI G l yJ0_coder_7d493 wsJ0_coder_7d493 rmJ0_coder_7d493 [va_rf this] M sz r M sz := by
  refine m_startZ (own := RJ0) (cc := cJ0_coder_7d493) (maxL := 1) (lv0 := [(0, va_rf this)]) (by decide) rfl rfl (by simp [lg_sl, va_rf_cat, cat_i, cat_r]) (by simp [lv_args, va_rf_cat, cat_i, cat_r]) ?_
  intro p e s m args below meth c Q hC hname RET hsz hw ls hl
  have hx := hC.1
  have hb := hC.2.1
  unfold f_J0_coder_7d493 at h
  refine m_gets (v := .int 1) hC hw (by simp [evZ]) k_J0_coder_7d493_38 (fun _ z => z) dJ0_coder_7d493_0 ?_
  refine lv_if_eq (tgt := 13) hx hb dJ0_coder_7d493_3 (by decide) (fun c3 => ?_) (fun _ => ?_)
  · first | exact absurd c3 (by decide) | exact (c3 (by decide)).elim | exact absurd rfl c3 | cases c3
  · refine m_aload_n (x := this) hx hb dJ0_coder_7d493_6 rfl (lv_at hl 0 rfl) ?_
    obtain ⟨v1, hv1, h⟩ := ob h
    refine m_getI hC hw (C := RJ0) (T := TJ0) (N := 4) hv1 ki_J0_coder_7d493_J0 rfl (by decide) k_J0_coder_7d493_15 (fun _ z => z) dJ0_coder_7d493_7 ?_
    refine lv_goto (tgt := 14) hx hb dJ0_coder_7d493_10 (by decide) ?_
    obtain ⟨g2, h⟩ := itg h
    replace h := Option.some.inj h
    subst h
    exact RET (narB g2) hw ⟨(Nat.zero_le _), (Nat.zero_le _)⟩ dJ0_coder_7d493_14

def f_J0_length_8abf5 (M : Mem) (this : Option Nat) : Option (Int32) := (gR M this 0 0).bind fun v1 => (aL M v1).bind fun v2 => if isO M this 0 = true then ((f_J0_coder_7d493 M this).bind fun r4 => some (v2 >>> (r4 &&& 31))) else none
def rmJ0_length_8abf5 : Room := { frames := 1, cells := 0, slots := 0, locals := 20 }
theorem k_J0_length_8abf5_9 : Cond.fieldLink RJ0 9 "java/lang/String" "value" "[B" ∈ wsJ0_length_8abf5 := List.mem_of_getElem? (i := 1) rfl
theorem ki_J0_length_8abf5_J0 : ∀ w ∈ u_ws RJ0 TJ0 4, w ∈ wsJ0_length_8abf5 := sub_r [9, 10, 11, 12] (by decide +kernel)
set_option maxHeartbeats 4000000 in
set_option maxRecDepth 100000 in
theorem c_J0_length_8abf5 {G : wG} {l : Launch} {M : Mem} {sz : Nat} {this : Option Nat} {r : Int32} (h : f_J0_length_8abf5 M this = some r) : CtrI G l yJ0_length_8abf5 wsJ0_length_8abf5 rmJ0_length_8abf5 [va_rf this] M sz r M sz := by
  refine m_startI (own := RJ0) (cc := cJ0_length_8abf5) (maxL := 1) (lv0 := [(0, va_rf this)]) (by decide) rfl rfl (by simp [lg_sl, va_rf_cat, cat_i, cat_r]) (by simp [lv_args, va_rf_cat, cat_i, cat_r]) ?_
  intro p e s m args below meth c Q hC hname RET hsz hw ls hl
  have hx := hC.1
  have hb := hC.2.1
  unfold f_J0_length_8abf5 at h
  refine m_aload_n (x := this) hx hb dJ0_length_8abf5_0 rfl (lv_at hl 0 rfl) ?_
  obtain ⟨v1, hv1, h⟩ := ob h
  refine m_getR hC hw (C := RJ0) (T := TJ0) (N := 4) hv1 ki_J0_length_8abf5_J0 rfl (by decide) k_J0_length_8abf5_9 (fun _ z => z) dJ0_length_8abf5_1 ?_
  obtain ⟨v2, hv2, h⟩ := ob h
  refine m_alen (x := v1) hC hw hv2 dJ0_length_8abf5_4 ?_
  refine m_aload_n (x := this) hx hb dJ0_length_8abf5_5 rfl (lv_at hl 0 rfl) ?_
  obtain ⟨g3, h⟩ := itg h
  obtain ⟨r4, hr4, h⟩ := ob h
  refine m_contI hC hw (m_runV hC hw (x := this) (ci := 0) (N := 4) (C := RJ0) (T := TJ0) (n := 0) (av := []) (rest := [.int v2]) (c_J0_coder_7d493 (G := G) (l := l) hr4) gJ0_length_8abf5_J0_coder_7d493 rfl (by decide +kernel) ⟨(Nat.le_of_ble_eq_true rfl), (Nat.le_of_ble_eq_true rfl)⟩ g3 rfl rfl hl.1 rfl (Nat.le_of_ble_eq_true rfl) dJ0_length_8abf5_6 ⟨(Nat.zero_le _), (Nat.zero_le _)⟩) (fun H locs hw => ?_)
  refine lv_ishr hx hb dJ0_length_8abf5_9 ?_
  replace h := Option.some.inj h
  subst h
  exact RET hw ⟨(Nat.zero_le _), (Nat.zero_le _)⟩ dJ0_length_8abf5_10

def f_J0_isLatin1_aae02 (M : Mem) (this : Option Nat) : Option (Int32) := (gI M this 0 1).bind fun v1 => if v1 = 0 then (some (1 : Int32)) else (some (0 : Int32))
def rmJ0_isLatin1_aae02 : Room := { frames := 0, cells := 0, slots := 0, locals := 0 }
theorem k_J0_isLatin1_aae02_38 : Cond.fieldLink RJ0 38 "java/lang/String" "COMPACT_STRINGS" "Z" ∈ wsJ0_isLatin1_aae02 := List.mem_of_getElem? (i := 1) rfl
theorem k_J0_isLatin1_aae02_15 : Cond.fieldLink RJ0 15 "java/lang/String" "coder" "B" ∈ wsJ0_isLatin1_aae02 := List.mem_of_getElem? (i := 2) rfl
theorem ki_J0_isLatin1_aae02_J0 : ∀ w ∈ u_ws RJ0 TJ0 4, w ∈ wsJ0_isLatin1_aae02 := sub_r [3, 4, 5, 6] (by decide +kernel)
set_option maxHeartbeats 4000000 in
set_option maxRecDepth 100000 in
theorem c_J0_isLatin1_aae02 {G : wG} {l : Launch} {M : Mem} {sz : Nat} {this : Option Nat} {r : Int32} (h : f_J0_isLatin1_aae02 M this = some r) : CtrI G l yJ0_isLatin1_aae02 wsJ0_isLatin1_aae02 rmJ0_isLatin1_aae02 [va_rf this] M sz r M sz := by
  refine m_startZ (own := RJ0) (cc := cJ0_isLatin1_aae02) (maxL := 1) (lv0 := [(0, va_rf this)]) (by decide) rfl rfl (by simp [lg_sl, va_rf_cat, cat_i, cat_r]) (by simp [lv_args, va_rf_cat, cat_i, cat_r]) ?_
  intro p e s m args below meth c Q hC hname RET hsz hw ls hl
  have hx := hC.1
  have hb := hC.2.1
  unfold f_J0_isLatin1_aae02 at h
  refine m_gets (v := .int 1) hC hw (by simp [evZ]) k_J0_isLatin1_aae02_38 (fun _ z => z) dJ0_isLatin1_aae02_0 ?_
  refine lv_if_eq (tgt := 17) hx hb dJ0_isLatin1_aae02_3 (by decide) (fun c3 => ?_) (fun _ => ?_)
  · first | exact absurd c3 (by decide) | exact (c3 (by decide)).elim | exact absurd rfl c3 | cases c3
  · refine m_aload_n (x := this) hx hb dJ0_isLatin1_aae02_6 rfl (lv_at hl 0 rfl) ?_
    obtain ⟨v1, hv1, h⟩ := ob h
    refine m_getI hC hw (C := RJ0) (T := TJ0) (N := 4) hv1 ki_J0_isLatin1_aae02_J0 rfl (by decide) k_J0_isLatin1_aae02_15 (fun _ z => z) dJ0_isLatin1_aae02_7 ?_
    refine lv_if_ne (tgt := 17) hx hb dJ0_isLatin1_aae02_10 (by decide) (fun c2 => ?_) (fun c2 => ?_)
    · replace h := itf h c2
      refine lv_iconst (v := (0 : Int32)) hx hb dJ0_isLatin1_aae02_17 (by decide) ?_
      replace h := Option.some.inj h
      subst h
      exact RET (isZ.nar (Or.inl rfl)) hw ⟨(Nat.zero_le _), (Nat.zero_le _)⟩ dJ0_isLatin1_aae02_18
    · replace h := itt h c2
      refine lv_iconst (v := (1 : Int32)) hx hb dJ0_isLatin1_aae02_13 (by decide) ?_
      refine lv_goto (tgt := 18) hx hb dJ0_isLatin1_aae02_14 (by decide) ?_
      replace h := Option.some.inj h
      subst h
      exact RET (isZ.nar (Or.inr rfl)) hw ⟨(Nat.zero_le _), (Nat.zero_le _)⟩ dJ0_isLatin1_aae02_18

def f_J3_checkIndex_8e157 (M : Mem) (a1 : Int32) (a2 : Int32) (a3 : Option Nat) : Option (Int32) := if a1 < 0 then (none) else (if a1 < a2 then (some (a1)) else (none))
def rmJ3_checkIndex_8e157 : Room := { frames := 0, cells := 0, slots := 0, locals := 0 }
set_option maxHeartbeats 4000000 in
set_option maxRecDepth 100000 in
theorem c_J3_checkIndex_8e157 {G : wG} {l : Launch} {M : Mem} {sz : Nat} {a1 : Int32} {a2 : Int32} {a3 : Option Nat} {r : Int32} (h : f_J3_checkIndex_8e157 M a1 a2 a3 = some r) : CtrI G l yJ3_checkIndex_8e157 wsJ3_checkIndex_8e157 rmJ3_checkIndex_8e157 [.int a1, .int a2, va_rf a3] M sz r M sz := by
  refine m_startI (own := RJ3) (cc := cJ3_checkIndex_8e157) (maxL := 3) (lv0 := [(0, .int a1), (1, .int a2), (2, va_rf a3)]) (by decide) rfl rfl (by simp [lg_sl, va_rf_cat, cat_i, cat_r]) (by simp [lv_args, va_rf_cat, cat_i, cat_r]) ?_
  intro p e s m args below meth c Q hC hname RET hsz hw ls hl
  have hx := hC.1
  have hb := hC.2.1
  unfold f_J3_checkIndex_8e157 at h
  refine lv_iload_n hx hb dJ3_checkIndex_8e157_0 rfl (lv_at hl 0 rfl) ?_
  refine lv_if_lt (tgt := 9) hx hb dJ3_checkIndex_8e157_1 (by decide) (fun c1 => ?_) (fun c1 => ?_)
  · replace h := itt h c1
    cases h
  · replace h := itf h c1
    refine lv_iload_n hx hb dJ3_checkIndex_8e157_4 rfl (lv_at hl 0 rfl) ?_
    refine lv_iload_n hx hb dJ3_checkIndex_8e157_5 rfl (lv_at hl 1 rfl) ?_
    refine lv_icmp_lt (tgt := 16) hx hb dJ3_checkIndex_8e157_6 (by decide) (fun c2 => ?_) (fun c2 => ?_)
    · replace h := itt h c2
      refine lv_iload_n hx hb dJ3_checkIndex_8e157_16 rfl (lv_at hl 0 rfl) ?_
      replace h := Option.some.inj h
      subst h
      exact RET hw ⟨(Nat.zero_le _), (Nat.zero_le _)⟩ dJ3_checkIndex_8e157_17
    · replace h := itf h c2
      cases h

def f_J0_checkIndex_df160 (M : Mem) (a1 : Int32) (a2 : Int32) : Option (Unit) := (f_J3_checkIndex_8e157 M a1 a2 none).bind fun r2 => some ()
def rmJ0_checkIndex_df160 : Room := { frames := 1, cells := 0, slots := 0, locals := 22 }
theorem k_J0_checkIndex_df160_1053 : Cond.fieldLink RJ0 1053 "jdk/internal/util/Preconditions" "SIOOBE_FORMATTER" "Ljava/util/function/BiFunction;" ∈ wsJ0_checkIndex_df160 := List.mem_of_getElem? (i := 1) rfl
set_option maxHeartbeats 4000000 in
set_option maxRecDepth 100000 in
theorem c_J0_checkIndex_df160 {G : wG} {l : Launch} {M : Mem} {sz : Nat} {a1 : Int32} {a2 : Int32} {r : Unit} (h : f_J0_checkIndex_df160 M a1 a2 = some r) : CtrV G l yJ0_checkIndex_df160 wsJ0_checkIndex_df160 rmJ0_checkIndex_df160 [.int a1, .int a2] M sz M sz := by
  refine m_startV (own := RJ0) (cc := cJ0_checkIndex_df160) (maxL := 2) (lv0 := [(0, .int a1), (1, .int a2)]) (by decide) rfl rfl (by simp [lg_sl, va_rf_cat, cat_i, cat_r]) (by simp [lv_args, va_rf_cat, cat_i, cat_r]) ?_
  intro p e s m args below meth c Q hC hname RET hsz hw ls hl
  have hx := hC.1
  have hb := hC.2.1
  unfold f_J0_checkIndex_df160 at h
  refine lv_iload_n hx hb dJ0_checkIndex_df160_0 rfl (lv_at hl 0 rfl) ?_
  refine lv_iload_n hx hb dJ0_checkIndex_df160_1 rfl (lv_at hl 1 rfl) ?_
  refine m_getsQ hC hw k_J0_checkIndex_df160_1053 (fun _ z => z) dJ0_checkIndex_df160_2 (fun qs1 => ?_)
  obtain ⟨r2, hr2, h⟩ := ob h
  refine m_contI hC hw (m_runS hC hw (n := 3) (av := [.int a1, .int a2, va_rf qs1]) (rest := []) (c_J3_checkIndex_8e157 (G := G) (l := l) hr2) gJ0_checkIndex_df160_J3_checkIndex_8e157 rfl (by decide +kernel) ⟨(Nat.le_of_ble_eq_true rfl), (Nat.le_of_ble_eq_true rfl)⟩ rfl hl.1 rfl (Nat.le_of_ble_eq_true rfl) dJ0_checkIndex_df160_5 ⟨(Nat.zero_le _), (Nat.zero_le _)⟩) (fun H locs hw => ?_)
  refine lv_pop hx hb dJ0_checkIndex_df160_8 rfl ?_
  replace h := Option.some.inj h
  subst h
  exact RET hw ⟨(Nat.zero_le _), (Nat.zero_le _)⟩ dJ0_checkIndex_df160_9

def f_J1_charAt_3b067 (M : Mem) (a1 : Option Nat) (a2 : Int32) : Option (Int32) := (aL M a1).bind fun v1 => (f_J0_checkIndex_df160 M a2 v1).bind fun r2 => (aI M 1 a1 a2).bind fun v3 => some (((v3 &&& (255 : Int32))).toUInt32 % 65536).toInt32
def rmJ1_charAt_3b067 : Room := { frames := 2, cells := 0, slots := 0, locals := 43 }
set_option maxHeartbeats 4000000 in
set_option maxRecDepth 100000 in
theorem c_J1_charAt_3b067 {G : wG} {l : Launch} {M : Mem} {sz : Nat} {a1 : Option Nat} {a2 : Int32} {r : Int32} (h : f_J1_charAt_3b067 M a1 a2 = some r) : CtrI G l yJ1_charAt_3b067 wsJ1_charAt_3b067 rmJ1_charAt_3b067 [va_rf a1, .int a2] M sz r M sz := by
  refine m_startZ (own := RJ1) (cc := cJ1_charAt_3b067) (maxL := 2) (lv0 := [(0, va_rf a1), (1, .int a2)]) (by decide) rfl rfl (by simp [lg_sl, va_rf_cat, cat_i, cat_r]) (by simp [lv_args, va_rf_cat, cat_i, cat_r]) ?_
  intro p e s m args below meth c Q hC hname RET hsz hw ls hl
  have hx := hC.1
  have hb := hC.2.1
  unfold f_J1_charAt_3b067 at h
  refine lv_iload_n hx hb dJ1_charAt_3b067_0 rfl (lv_at hl 1 rfl) ?_
  refine m_aload_n (x := a1) hx hb dJ1_charAt_3b067_1 rfl (lv_at hl 0 rfl) ?_
  obtain ⟨v1, hv1, h⟩ := ob h
  refine m_alen (x := a1) hC hw hv1 dJ1_charAt_3b067_2 ?_
  obtain ⟨r2, hr2, h⟩ := ob h
  refine m_contV hC hw (m_runS hC hw (n := 2) (av := [.int a2, .int v1]) (rest := []) (c_J0_checkIndex_df160 (G := G) (l := l) hr2) gJ1_charAt_3b067_J0_checkIndex_df160 rfl (by decide +kernel) ⟨(Nat.le_of_ble_eq_true rfl), (Nat.le_of_ble_eq_true rfl)⟩ rfl hl.1 rfl (Nat.le_of_ble_eq_true rfl) dJ1_charAt_3b067_3 ⟨(Nat.zero_le _), (Nat.zero_le _)⟩) (fun H locs hw => ?_)
  refine m_aload_n (x := a1) hx hb dJ1_charAt_3b067_6 rfl (lv_at hl 0 rfl) ?_
  refine lv_iload_n hx hb dJ1_charAt_3b067_7 rfl (lv_at hl 1 rfl) ?_
  obtain ⟨v3, hv3, h⟩ := ob h
  refine m_bald (x := a1) hC hw hv3 dJ1_charAt_3b067_8 ?_
  refine lv_sipush (v := (255 : Int32)) hx hb dJ1_charAt_3b067_9 (by decide) ?_
  refine lv_iand hx hb dJ1_charAt_3b067_12 ?_
  refine lv_i2c hx hb dJ1_charAt_3b067_13 rfl ?_
  replace h := Option.some.inj h
  subst h
  exact RET (pk_nc _) hw ⟨(Nat.zero_le _), (Nat.zero_le _)⟩ dJ1_charAt_3b067_14

def f_J0_charAt_5068e (M : Mem) (this : Option Nat) (a1 : Int32) : Option (Int32) := if isO M this 0 = true then ((f_J0_isLatin1_aae02 M this).bind fun r2 => if r2 = 0 then ((gR M this 0 0).bind fun v4 => none) else ((gR M this 0 0).bind fun v5 => (f_J1_charAt_3b067 M v5 a1).bind fun r6 => if ((r6 : Int32).toUInt32 % 65536).toInt32 = r6 then (some (r6)) else none)) else none
def rmJ0_charAt_5068e : Room := { frames := 3, cells := 0, slots := 0, locals := 64 }
theorem k_J0_charAt_5068e_9 : Cond.fieldLink RJ0 9 "java/lang/String" "value" "[B" ∈ wsJ0_charAt_5068e := List.mem_of_getElem? (i := 1) rfl
theorem ki_J0_charAt_5068e_J0 : ∀ w ∈ u_ws RJ0 TJ0 4, w ∈ wsJ0_charAt_5068e := sub_r [38, 39, 40, 41] (by decide +kernel)
set_option maxHeartbeats 4000000 in
set_option maxRecDepth 100000 in
theorem c_J0_charAt_5068e {G : wG} {l : Launch} {M : Mem} {sz : Nat} {this : Option Nat} {a1 : Int32} {r : Int32} (h : f_J0_charAt_5068e M this a1 = some r) : CtrI G l yJ0_charAt_5068e wsJ0_charAt_5068e rmJ0_charAt_5068e [va_rf this, .int a1] M sz r M sz := by
  refine m_startZ (own := RJ0) (cc := cJ0_charAt_5068e) (maxL := 2) (lv0 := [(0, va_rf this), (1, .int a1)]) (by decide) rfl rfl (by simp [lg_sl, va_rf_cat, cat_i, cat_r]) (by simp [lv_args, va_rf_cat, cat_i, cat_r]) ?_
  intro p e s m args below meth c Q hC hname RET hsz hw ls hl
  have hx := hC.1
  have hb := hC.2.1
  unfold f_J0_charAt_5068e at h
  refine m_aload_n (x := this) hx hb dJ0_charAt_5068e_0 rfl (lv_at hl 0 rfl) ?_
  obtain ⟨g1, h⟩ := itg h
  obtain ⟨r2, hr2, h⟩ := ob h
  refine m_contI hC hw (m_runV hC hw (x := this) (ci := 0) (N := 4) (C := RJ0) (T := TJ0) (n := 0) (av := []) (rest := []) (c_J0_isLatin1_aae02 (G := G) (l := l) hr2) gJ0_charAt_5068e_J0_isLatin1_aae02 rfl (by decide +kernel) ⟨(Nat.le_of_ble_eq_true rfl), (Nat.le_of_ble_eq_true rfl)⟩ g1 rfl rfl hl.1 rfl (Nat.le_of_ble_eq_true rfl) dJ0_charAt_5068e_1 ⟨(Nat.zero_le _), (Nat.zero_le _)⟩) (fun H locs hw => ?_)
  refine lv_if_eq (tgt := 16) hx hb dJ0_charAt_5068e_4 (by decide) (fun c3 => ?_) (fun c3 => ?_)
  · replace h := itt h c3
    refine m_aload_n (x := this) hx hb dJ0_charAt_5068e_16 rfl (lv_at hl 0 rfl) ?_
    obtain ⟨v4, hv4, h⟩ := ob h
    refine m_getR hC hw (C := RJ0) (T := TJ0) (N := 4) hv4 ki_J0_charAt_5068e_J0 rfl (by decide) k_J0_charAt_5068e_9 (fun _ z => z) dJ0_charAt_5068e_17 ?_
    refine lv_iload_n hx hb dJ0_charAt_5068e_20 rfl (lv_at hl 1 rfl) ?_
    cases h
  · replace h := itf h c3
    refine m_aload_n (x := this) hx hb dJ0_charAt_5068e_7 rfl (lv_at hl 0 rfl) ?_
    obtain ⟨v5, hv5, h⟩ := ob h
    refine m_getR hC hw (C := RJ0) (T := TJ0) (N := 4) hv5 ki_J0_charAt_5068e_J0 rfl (by decide) k_J0_charAt_5068e_9 (fun _ z => z) dJ0_charAt_5068e_8 ?_
    refine lv_iload_n hx hb dJ0_charAt_5068e_11 rfl (lv_at hl 1 rfl) ?_
    obtain ⟨r6, hr6, h⟩ := ob h
    refine m_contI hC hw (m_runS hC hw (n := 2) (av := [va_rf v5, .int a1]) (rest := []) (c_J1_charAt_3b067 (G := G) (l := l) hr6) gJ0_charAt_5068e_J1_charAt_3b067 rfl (by decide +kernel) ⟨(Nat.le_of_ble_eq_true rfl), (Nat.le_of_ble_eq_true rfl)⟩ rfl hl.1 rfl (Nat.le_of_ble_eq_true rfl) dJ0_charAt_5068e_12 ⟨(Nat.zero_le _), (Nat.zero_le _)⟩) (fun H locs hw => ?_)
    obtain ⟨g7, h⟩ := itg h
    replace h := Option.some.inj h
    subst h
    exact RET (narC g7) hw ⟨(Nat.zero_le _), (Nat.zero_le _)⟩ dJ0_charAt_5068e_15

def f_Jx4a65c_size_8abf5 (M : Mem) (this : Option Nat) : Option (Int32) := (gI M this 2 2).bind fun v1 => some (v1)
def rmJx4a65c_size_8abf5 : Room := { frames := 0, cells := 0, slots := 0, locals := 0 }
theorem k_Jx4a65c_size_8abf5_48 : Cond.fieldLink RJx4a65c 48 "java/util/ArrayList" "size" "I" ∈ wsJx4a65c_size_8abf5 := List.mem_of_getElem? (i := 1) rfl
theorem ki_Jx4a65c_size_8abf5_Jx4a65c : ∀ w ∈ u_ws RJx4a65c TJx4a65c 3, w ∈ wsJx4a65c_size_8abf5 := sub_r [2, 3, 4] (by decide +kernel)
set_option maxHeartbeats 4000000 in
set_option maxRecDepth 100000 in
theorem c_Jx4a65c_size_8abf5 {G : wG} {l : Launch} {M : Mem} {sz : Nat} {this : Option Nat} {r : Int32} (h : f_Jx4a65c_size_8abf5 M this = some r) : CtrI G l yJx4a65c_size_8abf5 wsJx4a65c_size_8abf5 rmJx4a65c_size_8abf5 [va_rf this] M sz r M sz := by
  refine m_startI (own := RJx4a65c) (cc := cJx4a65c_size_8abf5) (maxL := 1) (lv0 := [(0, va_rf this)]) (by decide) rfl rfl (by simp [lg_sl, va_rf_cat, cat_i, cat_r]) (by simp [lv_args, va_rf_cat, cat_i, cat_r]) ?_
  intro p e s m args below meth c Q hC hname RET hsz hw ls hl
  have hx := hC.1
  have hb := hC.2.1
  unfold f_Jx4a65c_size_8abf5 at h
  refine m_aload_n (x := this) hx hb dJx4a65c_size_8abf5_0 rfl (lv_at hl 0 rfl) ?_
  obtain ⟨v1, hv1, h⟩ := ob h
  refine m_getI hC hw (C := RJx4a65c) (T := TJx4a65c) (N := 3) hv1 ki_Jx4a65c_size_8abf5_Jx4a65c rfl (by decide) k_Jx4a65c_size_8abf5_48 (fun _ z => z) dJx4a65c_size_8abf5_1 ?_
  replace h := Option.some.inj h
  subst h
  exact RET hw ⟨(Nat.zero_le _), (Nat.zero_le _)⟩ dJx4a65c_size_8abf5_4

def f_J7_fill_53178_L5 (B : Nat) (n : Nat) (x0 : Option Nat) (x1 : Int32) (x3 : Int32) : Nat → Mem → Int32 → Option (Mem)
  | 0, _, _ => none
  | k + 1, Mz, x2 => if x3 ≤ x2 then (some (Mz)) else ((sI B Mz 0 x0 x2 x1).bind fun M3 => f_J7_fill_53178_L5 B n x0 x1 x3 k M3 (x2 + (1 : Int32)))
def f_J7_fill_53178 (B : Nat) (n : Nat) (M : Mem) (a1 : Option Nat) (a2 : Int32) : Option (Mem) := (aL M a1).bind fun v1 => f_J7_fill_53178_L5 B n a1 a2 v1 n M (0 : Int32)
def rmJ7_fill_53178 : Room := { frames := 0, cells := 0, slots := 0, locals := 0 }
set_option maxHeartbeats 4000000 in
set_option maxRecDepth 100000 in
theorem c_J7_fill_53178 {G : wG} {l : Launch} {n : Nat} {M : Mem} {sz : Nat} {a1 : Option Nat} {a2 : Int32} {r : Mem} (h : f_J7_fill_53178 G.2.2.1 n M a1 a2 = some r) : CtrV G l yJ7_fill_53178 wsJ7_fill_53178 rmJ7_fill_53178 [va_rf a1, .int a2] M sz r sz := by
  refine m_startV (own := RJ7) (cc := cJ7_fill_53178) (maxL := 4) (lv0 := [(0, va_rf a1), (1, .int a2)]) (by decide) rfl rfl (by simp [lg_sl, va_rf_cat, cat_i, cat_r]) (by simp [lv_args, va_rf_cat, cat_i, cat_r]) ?_
  intro p e s m args below meth c Q hC hname RET hsz hw ls hl
  have hx := hC.1
  have hb := hC.2.1
  have L5 : ∀ (x0 : Option Nat) (x1 : Int32) (x3 : Int32) (k : Nat) (Mz : Mem) (x2 : Int32) (cells slots : Nat) (H : Heap) (locs : List Loc) (ls : Array Slot), f_J7_fill_53178_L5 G.2.2.1 n x0 x1 x3 k Mz x2 = some r → cells ≤ 0 → slots ≤ 0 → wD G s M Mz sz H locs → lv_has ls 4 [(0, va_rf x0), (1, .int x1), (2, .int x2), (3, .int x3)] → W p l e rmJ7_fill_53178 s m args below meth c H locs cells slots Q (F0 m 5 ls []) := by
    intro x0 x1 x3 k
    induction k with
    | zero =>
      intro Mz x2 cells slots H locs ls h
      exact absurd (show (none : Option (Mem)) = some r from h) (fun z => by cases z)
    | succ k ih =>
      intro Mz x2 cells slots H locs ls h hcl hsl hw hl
      rw [f_J7_fill_53178_L5] at h
      refine lv_iload_n hx hb dJ7_fill_53178_5 rfl (lv_at hl 2 rfl) ?_
      refine lv_iload_n hx hb dJ7_fill_53178_6 rfl (lv_at hl 3 rfl) ?_
      refine lv_icmp_ge (tgt := 20) hx hb dJ7_fill_53178_7 (by decide) (fun c2 => ?_) (fun c2 => ?_)
      · replace h := itt h c2
        replace h := Option.some.inj h
        subst h
        exact RET hw ⟨(show cells + 0 ≤ 0 from by omega), (show slots + 0 ≤ 0 from by omega)⟩ dJ7_fill_53178_20
      · replace h := itf h c2
        refine m_aload_n (x := x0) hx hb dJ7_fill_53178_10 rfl (lv_at hl 0 rfl) ?_
        refine lv_iload_n hx hb dJ7_fill_53178_11 rfl (lv_at hl 2 rfl) ?_
        refine lv_iload_n hx hb dJ7_fill_53178_12 rfl (lv_at hl 1 rfl) ?_
        obtain ⟨M3, hM3, h⟩ := ob h
        refine m_iast (x := x0) hC hw hM3 dJ7_fill_53178_13 (fun H locs hw => ?_)
        refine lv_iinc (v := (x2 + (1 : Int32))) (lv' := [(2, .int (x2 + (1 : Int32))), (0, va_rf x0), (1, .int x1), (3, .int x3)]) hx hb dJ7_fill_53178_14 hl (k := 2) rfl rfl (by decide) rfl (fun ls hl => ?_)
        refine lv_goto (tgt := 5) hx hb dJ7_fill_53178_17 (by decide) ?_
        exact ih _ _ _ _ _ _ _ h hcl hsl hw (lv_sub hl [1, 2, 0, 3] rfl)
  unfold f_J7_fill_53178 at h
  refine lv_iconst (v := (0 : Int32)) hx hb dJ7_fill_53178_0 (by decide) ?_
  refine lv_istore_n (i := 2) (lv' := [(2, .int (0 : Int32)), (0, va_rf a1), (1, .int a2)]) hx hb dJ7_fill_53178_1 rfl hl (by decide) rfl (fun ls hl => ?_)
  refine m_aload_n (x := a1) hx hb dJ7_fill_53178_2 rfl (lv_at hl 1 rfl) ?_
  obtain ⟨v1, hv1, h⟩ := ob h
  refine m_alen (x := a1) hC hw hv1 dJ7_fill_53178_3 ?_
  refine lv_istore_n (i := 3) (lv' := [(3, .int v1), (2, .int (0 : Int32)), (0, va_rf a1), (1, .int a2)]) hx hb dJ7_fill_53178_4 rfl hl (by decide) rfl (fun ls hl => ?_)
  exact L5 a1 a2 v1 _ _ _ _ _ _ _ _ h (Nat.zero_le _) (Nat.zero_le _) hw (lv_sub hl [2, 3, 1, 0] rfl)

def f_J5_init_d00df (B : Nat) (M : Mem) (sz : Nat) (this : Option Nat) (a1 : Int32) : Option (Mem × Nat) := if this ≠ none then (if ¬ a1 < 0 ∧ (a1 : Int32).toNatClampNeg ≤ 64 then ((some (va_up M sz (some (.inr (.inl (1, (a1 : Int32).toNatClampNeg, fun _ => 0)))))).bind fun M2 => (pF B M2 this 1 0 (va_rf (some sz))).bind fun M4 => (pF B M4 this 1 1 (.int (0 : Int32))).bind fun M5 => some (M5, (sz + 1))) else none) else none
def rmJ5_init_d00df : Room := { frames := 1, cells := 1, slots := 64, locals := 20 }
theorem k_J5_init_d00df_oi3 : Cond.methodLink RJ5 3 objectInit ∈ wsJ5_init_d00df := List.mem_of_getElem? (i := 1) rfl
theorem k_J5_init_d00df_oj : Cond.instanceMethod objectInit ∈ wsJ5_init_d00df := List.mem_of_getElem? (i := 2) rfl
theorem k_J5_init_d00df_ok : Cond.code objectInit ⟨#[0xb1]⟩ 1 none ∈ wsJ5_init_d00df := List.mem_of_getElem? (i := 3) rfl
theorem k_J5_init_d00df_18 : Cond.fieldLink RJ5 18 "java/lang/String" "COMPACT_STRINGS" "Z" ∈ wsJ5_init_d00df := List.mem_of_getElem? (i := 4) rfl
theorem k_J5_init_d00df_nabyte : Cond.arrayClass .byte ∈ wsJ5_init_d00df := List.mem_of_getElem? (i := 5) rfl
theorem k_J5_init_d00df_15 : Cond.fieldLink RJ5 15 "java/lang/AbstractStringBuilder" "value" "[B" ∈ wsJ5_init_d00df := List.mem_of_getElem? (i := 6) rfl
theorem ki_J5_init_d00df_J4 : ∀ w ∈ u_ws RJ4 TJ4 4, w ∈ wsJ5_init_d00df := sub_r [16, 17, 18, 19] (by decide +kernel)
theorem k_J5_init_d00df_22 : Cond.fieldLink RJ5 22 "java/lang/AbstractStringBuilder" "coder" "B" ∈ wsJ5_init_d00df := List.mem_of_getElem? (i := 7) rfl
set_option maxHeartbeats 4000000 in
set_option maxRecDepth 100000 in
theorem c_J5_init_d00df {G : wG} {l : Launch} {M : Mem} {sz : Nat} {this : Option Nat} {a1 : Int32} {r : Mem × Nat} (h : f_J5_init_d00df G.2.2.1 M sz this a1 = some r) : CtrV G l yJ5_init_d00df wsJ5_init_d00df rmJ5_init_d00df [va_rf this, .int a1] M sz r.1 r.2 := by
  refine m_startV (own := RJ5) (cc := cJ5_init_d00df) (maxL := 2) (lv0 := [(0, va_rf this), (1, .int a1)]) (by decide) rfl rfl (by simp [lg_sl, va_rf_cat, cat_i, cat_r]) (by simp [lv_args, va_rf_cat, cat_i, cat_r]) ?_
  intro p e s m args below meth c Q hC hname RET hsz hw ls hl
  have hx := hC.1
  have hb := hC.2.1
  unfold f_J5_init_d00df at h
  refine m_aload_n (x := this) hx hb dJ5_init_d00df_0 rfl (lv_at hl 0 rfl) ?_
  obtain ⟨g1, h⟩ := itg h
  refine m_objInit (x := this) (isN_some g1) hC (hC.tab _ k_J5_init_d00df_oi3) (hC.tab _ k_J5_init_d00df_oj) (hC.tab _ k_J5_init_d00df_ok) hl.1 ((Nat.le_of_ble_eq_true rfl)) (Nat.le_of_ble_eq_true rfl) (Nat.le_of_ble_eq_true rfl) dJ5_init_d00df_1 ?_
  refine m_gets (v := .int 1) hC hw (by simp [evZ]) k_J5_init_d00df_18 (fun _ z => z) dJ5_init_d00df_4 ?_
  refine lv_if_eq (tgt := 25) hx hb dJ5_init_d00df_7 (by decide) (fun c6 => ?_) (fun _ => ?_)
  · first | exact absurd c6 (by decide) | exact (c6 (by decide)).elim | exact absurd rfl c6 | cases c6
  · refine m_aload_n (x := this) hx hb dJ5_init_d00df_10 rfl (lv_at hl 0 rfl) ?_
    refine lv_iload_n hx hb dJ5_init_d00df_11 rfl (lv_at hl 1 rfl) ?_
    obtain ⟨g3, h⟩ := itg h
    obtain ⟨M2, hM2, h⟩ := ob h
    refine m_newI (atype := .byte) (t := 1) (n := a1) (cap := 64) hC hw rfl (fun _ _ => rfl) (by decide) k_J5_init_d00df_nabyte (nmA1 hC) g3.1 g3.2 (by decide) (Nat.le_of_ble_eq_true rfl) (Nat.le_of_ble_eq_true rfl) dJ5_init_d00df_12 (fun H hw => ?_)
    rw [Option.some.inj hM2] at hw
    obtain ⟨M4, hM4, h⟩ := ob h
    refine m_put hC hw (C := RJ4) (T := TJ4) (N := 4) (x := this) hM4 ki_J5_init_d00df_J4 tyJ4 tyJ4_ok nmJ4 rfl (by decide) k_J5_init_d00df_15 (fun _ z => z) rfl (nar_rf _ _ (by decide)) (fit_rf _ _ (by decide)) dJ5_init_d00df_14 (fun H locs hw => ?_)
    refine m_aload_n (x := this) hx hb dJ5_init_d00df_17 rfl (lv_at hl 0 rfl) ?_
    refine lv_iconst (v := (0 : Int32)) hx hb dJ5_init_d00df_18 (by decide) ?_
    obtain ⟨M5, hM5, h⟩ := ob h
    refine m_put hC hw (C := RJ4) (T := TJ4) (N := 4) (x := this) hM5 ki_J5_init_d00df_J4 tyJ4 tyJ4_ok nmJ4 rfl (by decide) k_J5_init_d00df_22 (fun _ z => z) rfl (by decide) (by decide) dJ5_init_d00df_19 (fun H locs hw => ?_)
    refine lv_goto (tgt := 38) hx hb dJ5_init_d00df_22 (by decide) ?_
    replace h := Option.some.inj h
    subst h
    exact RET hw ⟨(Nat.le_of_ble_eq_true rfl), (Nat.le_of_ble_eq_true rfl)⟩ dJ5_init_d00df_38

def f_J4_init_da8c8 (B : Nat) (M : Mem) (sz : Nat) (this : Option Nat) : Option (Mem × Nat) := if this ≠ none then ((f_J5_init_d00df B M sz this (16 : Int32)).bind fun r2 => some (r2.1, r2.2)) else none
def rmJ4_init_da8c8 : Room := { frames := 2, cells := 1, slots := 64, locals := 41 }
theorem k_J4_init_da8c8_ml1 : Cond.methodLink RJ4 1 yJ5_init_d00df ∈ wsJ4_init_da8c8 := List.mem_of_getElem? (i := 1) rfl
theorem k_J4_init_da8c8_imJ5_init_d00df : Cond.instanceMethod yJ5_init_d00df ∈ wsJ4_init_da8c8 := List.mem_of_getElem? (i := 2) rfl
theorem k_J4_init_da8c8_inJ5 : Cond.initialized RJ5 ∈ wsJ4_init_da8c8 := List.mem_of_getElem? (i := 3) rfl
set_option maxHeartbeats 4000000 in
set_option maxRecDepth 100000 in
theorem c_J4_init_da8c8 {G : wG} {l : Launch} {M : Mem} {sz : Nat} {this : Option Nat} {r : Mem × Nat} (h : f_J4_init_da8c8 G.2.2.1 M sz this = some r) : CtrV G l yJ4_init_da8c8 wsJ4_init_da8c8 rmJ4_init_da8c8 [va_rf this] M sz r.1 r.2 := by
  refine m_startV (own := RJ4) (cc := cJ4_init_da8c8) (maxL := 1) (lv0 := [(0, va_rf this)]) (by decide) rfl rfl (by simp [lg_sl, va_rf_cat, cat_i, cat_r]) (by simp [lv_args, va_rf_cat, cat_i, cat_r]) ?_
  intro p e s m args below meth c Q hC hname RET hsz hw ls hl
  have hx := hC.1
  have hb := hC.2.1
  unfold f_J4_init_da8c8 at h
  refine m_aload_n (x := this) hx hb dJ4_init_da8c8_0 rfl (lv_at hl 0 rfl) ?_
  refine lv_bipush (v := (16 : Int32)) hx hb dJ4_init_da8c8_1 (by decide) ?_
  obtain ⟨g1, h⟩ := itg h
  obtain ⟨r2, hr2, h⟩ := ob h
  refine m_contV hC hw (m_runI hC hw (x := this) (n := 1) (av := [.int (16 : Int32)]) (rest := []) (c_J5_init_d00df (G := G) (l := l) hr2) gJ4_init_da8c8_J5_init_d00df k_J4_init_da8c8_ml1 k_J4_init_da8c8_imJ5_init_d00df k_J4_init_da8c8_inJ5 rfl rfl (by decide +kernel) ⟨(Nat.le_of_ble_eq_true rfl), (Nat.le_of_ble_eq_true rfl)⟩ (isN_some g1) rfl hl.1 rfl (Nat.le_of_ble_eq_true rfl) dJ4_init_da8c8_3 ⟨(Nat.le_of_ble_eq_true rfl), (Nat.le_of_ble_eq_true rfl)⟩) (fun H locs hw => ?_)
  replace h := Option.some.inj h
  subst h
  exact RET hw ⟨(Nat.le_of_ble_eq_true rfl), (Nat.le_of_ble_eq_true rfl)⟩ dJ4_init_da8c8_6

def f_J8_hugeLength_7cf53 (M : Mem) (a1 : Int32) (a2 : Int32) : Option (Int32) := if 0 ≤ (a1 + a2) then (if (2147483639 : Int32) < (a1 + a2) then (some (a1 + a2)) else (some (2147483639 : Int32))) else (none)
def rmJ8_hugeLength_7cf53 : Room := { frames := 0, cells := 0, slots := 0, locals := 0 }
theorem k_J8_hugeLength_7cf53_200 : Cond.constant RJ8 200 (2147483639) ∈ wsJ8_hugeLength_7cf53 := List.mem_of_getElem? (i := 1) rfl
set_option maxHeartbeats 4000000 in
set_option maxRecDepth 100000 in
theorem c_J8_hugeLength_7cf53 {G : wG} {l : Launch} {M : Mem} {sz : Nat} {a1 : Int32} {a2 : Int32} {r : Int32} (h : f_J8_hugeLength_7cf53 M a1 a2 = some r) : CtrI G l yJ8_hugeLength_7cf53 wsJ8_hugeLength_7cf53 rmJ8_hugeLength_7cf53 [.int a1, .int a2] M sz r M sz := by
  refine m_startI (own := RJ8) (cc := cJ8_hugeLength_7cf53) (maxL := 3) (lv0 := [(0, .int a1), (1, .int a2)]) (by decide) rfl rfl (by simp [lg_sl, va_rf_cat, cat_i, cat_r]) (by simp [lv_args, va_rf_cat, cat_i, cat_r]) ?_
  intro p e s m args below meth c Q hC hname RET hsz hw ls hl
  have hx := hC.1
  have hb := hC.2.1
  unfold f_J8_hugeLength_7cf53 at h
  refine lv_iload_n hx hb dJ8_hugeLength_7cf53_0 rfl (lv_at hl 0 rfl) ?_
  refine lv_iload_n hx hb dJ8_hugeLength_7cf53_1 rfl (lv_at hl 1 rfl) ?_
  refine lv_iadd hx hb dJ8_hugeLength_7cf53_2 ?_
  refine lv_istore_n (i := 2) (lv' := [(2, .int (a1 + a2)), (0, .int a1), (1, .int a2)]) hx hb dJ8_hugeLength_7cf53_3 rfl hl (by decide) rfl (fun ls hl => ?_)
  refine lv_iload_n hx hb dJ8_hugeLength_7cf53_4 rfl (lv_at hl 0 rfl) ?_
  refine lv_if_ge (tgt := 49) hx hb dJ8_hugeLength_7cf53_5 (by decide) (fun c1 => ?_) (fun c1 => ?_)
  · replace h := itt h c1
    refine lv_iload_n hx hb dJ8_hugeLength_7cf53_49 rfl (lv_at hl 0 rfl) ?_
    refine lv_ldc (v := (2147483639 : Int32)) hx hb hC.2.2.2.1 (hC.tab _ k_J8_hugeLength_7cf53_200) dJ8_hugeLength_7cf53_50 ?_
    refine lv_icmp_gt (tgt := 58) hx hb dJ8_hugeLength_7cf53_52 (by decide) (fun c2 => ?_) (fun c2 => ?_)
    · replace h := itt h c2
      refine lv_iload_n hx hb dJ8_hugeLength_7cf53_58 rfl (lv_at hl 0 rfl) ?_
      replace h := Option.some.inj h
      subst h
      exact RET hw ⟨(Nat.zero_le _), (Nat.zero_le _)⟩ dJ8_hugeLength_7cf53_59
    · replace h := itf h c2
      refine lv_ldc (v := (2147483639 : Int32)) hx hb hC.2.2.2.1 (hC.tab _ k_J8_hugeLength_7cf53_200) dJ8_hugeLength_7cf53_55 ?_
      replace h := Option.some.inj h
      subst h
      exact RET hw ⟨(Nat.zero_le _), (Nat.zero_le _)⟩ dJ8_hugeLength_7cf53_57
  · replace h := itf h c1
    cases h

def f_J8_newLength_cabcc (M : Mem) (a1 : Int32) (a2 : Int32) (a3 : Int32) : Option (Int32) := if (a1 + (if a2 < a3 then a3 else a2)) ≤ (0 : Int32) then ((f_J8_hugeLength_7cf53 M a1 a2).bind fun r2 => some (r2)) else (if (2147483639 : Int32) < (a1 + (if a2 < a3 then a3 else a2)) then ((f_J8_hugeLength_7cf53 M a1 a2).bind fun r4 => some (r4)) else (some (a1 + (if a2 < a3 then a3 else a2))))
def rmJ8_newLength_cabcc : Room := { frames := 1, cells := 0, slots := 0, locals := 22 }
theorem k_J8_newLength_cabcc_max194_0 : Cond.methodLink RJ8 194 Lib.Math.max.name ∈ wsJ8_newLength_cabcc := List.mem_of_getElem? (i := 1) rfl
theorem k_J8_newLength_cabcc_max194_1 : Cond.static Lib.Math.max.name ∈ wsJ8_newLength_cabcc := List.mem_of_getElem? (i := 2) rfl
theorem k_J8_newLength_cabcc_max194_2 : Cond.initialized "java/lang/Math" ∈ wsJ8_newLength_cabcc := List.mem_of_getElem? (i := 3) rfl
theorem k_J8_newLength_cabcc_max194_3 : Cond.code Lib.Math.max.name Lib.Math.max.code 2 (some .int) ∈ wsJ8_newLength_cabcc := List.mem_of_getElem? (i := 4) rfl
theorem k_J8_newLength_cabcc_200 : Cond.constant RJ8 200 (2147483639) ∈ wsJ8_newLength_cabcc := List.mem_of_getElem? (i := 5) rfl
set_option maxHeartbeats 4000000 in
set_option maxRecDepth 100000 in
theorem c_J8_newLength_cabcc {G : wG} {l : Launch} {M : Mem} {sz : Nat} {a1 : Int32} {a2 : Int32} {a3 : Int32} {r : Int32} (h : f_J8_newLength_cabcc M a1 a2 a3 = some r) : CtrI G l yJ8_newLength_cabcc wsJ8_newLength_cabcc rmJ8_newLength_cabcc [.int a1, .int a2, .int a3] M sz r M sz := by
  refine m_startI (own := RJ8) (cc := cJ8_newLength_cabcc) (maxL := 4) (lv0 := [(0, .int a1), (1, .int a2), (2, .int a3)]) (by decide) rfl rfl (by simp [lg_sl, va_rf_cat, cat_i, cat_r]) (by simp [lv_args, va_rf_cat, cat_i, cat_r]) ?_
  intro p e s m args below meth c Q hC hname RET hsz hw ls hl
  have hx := hC.1
  have hb := hC.2.1
  unfold f_J8_newLength_cabcc at h
  refine lv_iload_n hx hb dJ8_newLength_cabcc_0 rfl (lv_at hl 0 rfl) ?_
  refine lv_iload_n hx hb dJ8_newLength_cabcc_1 rfl (lv_at hl 1 rfl) ?_
  refine lv_iload_n hx hb dJ8_newLength_cabcc_2 rfl (lv_at hl 2 rfl) ?_
  refine va_mmax hx hb (hC.2.2.1.trans hl.1.symm) hC.2.2.2.1 (hC.tab _ k_J8_newLength_cabcc_max194_0) (hC.tab _ k_J8_newLength_cabcc_max194_1) (hC.tab _ k_J8_newLength_cabcc_max194_2) (hC.tab _ k_J8_newLength_cabcc_max194_3) (Nat.le_of_ble_eq_true rfl) (cat_13 (Nat.le_of_ble_eq_true rfl) (Nat.le_of_ble_eq_true rfl)) (Nat.zero_le _) (Nat.zero_le _) dJ8_newLength_cabcc_3 ?_
  refine lv_iadd hx hb dJ8_newLength_cabcc_6 ?_
  refine lv_istore_n (i := 3) (lv' := [(3, .int (a1 + (if a2 < a3 then a3 else a2))), (0, .int a1), (1, .int a2), (2, .int a3)]) hx hb dJ8_newLength_cabcc_7 rfl hl (by decide) rfl (fun ls hl => ?_)
  refine lv_iconst (v := (0 : Int32)) hx hb dJ8_newLength_cabcc_8 (by decide) ?_
  refine lv_iload_n hx hb dJ8_newLength_cabcc_9 rfl (lv_at hl 0 rfl) ?_
  refine lv_icmp_ge (tgt := 21) hx hb dJ8_newLength_cabcc_10 (by decide) (fun c1 => ?_) (fun c1 => ?_)
  · replace h := itt h c1
    refine lv_iload_n hx hb dJ8_newLength_cabcc_21 rfl (lv_at hl 1 rfl) ?_
    refine lv_iload_n hx hb dJ8_newLength_cabcc_22 rfl (lv_at hl 2 rfl) ?_
    obtain ⟨r2, hr2, h⟩ := ob h
    refine m_contI hC hw (m_runS hC hw (n := 2) (av := [.int a1, .int a2]) (rest := []) (c_J8_hugeLength_7cf53 (G := G) (l := l) hr2) gJ8_newLength_cabcc_J8_hugeLength_7cf53 rfl (by decide +kernel) ⟨(Nat.le_of_ble_eq_true rfl), (Nat.le_of_ble_eq_true rfl)⟩ rfl hl.1 rfl (Nat.le_of_ble_eq_true rfl) dJ8_newLength_cabcc_23 ⟨(Nat.zero_le _), (Nat.zero_le _)⟩) (fun H locs hw => ?_)
    replace h := Option.some.inj h
    subst h
    exact RET hw ⟨(Nat.zero_le _), (Nat.zero_le _)⟩ dJ8_newLength_cabcc_26
  · replace h := itf h c1
    refine lv_iload_n hx hb dJ8_newLength_cabcc_13 rfl (lv_at hl 0 rfl) ?_
    refine lv_ldc (v := (2147483639 : Int32)) hx hb hC.2.2.2.1 (hC.tab _ k_J8_newLength_cabcc_200) dJ8_newLength_cabcc_14 ?_
    refine lv_icmp_gt (tgt := 21) hx hb dJ8_newLength_cabcc_16 (by decide) (fun c3 => ?_) (fun c3 => ?_)
    · replace h := itt h c3
      refine lv_iload_n hx hb dJ8_newLength_cabcc_21 rfl (lv_at hl 1 rfl) ?_
      refine lv_iload_n hx hb dJ8_newLength_cabcc_22 rfl (lv_at hl 2 rfl) ?_
      obtain ⟨r4, hr4, h⟩ := ob h
      refine m_contI hC hw (m_runS hC hw (n := 2) (av := [.int a1, .int a2]) (rest := []) (c_J8_hugeLength_7cf53 (G := G) (l := l) hr4) gJ8_newLength_cabcc_J8_hugeLength_7cf53 rfl (by decide +kernel) ⟨(Nat.le_of_ble_eq_true rfl), (Nat.le_of_ble_eq_true rfl)⟩ rfl hl.1 rfl (Nat.le_of_ble_eq_true rfl) dJ8_newLength_cabcc_23 ⟨(Nat.zero_le _), (Nat.zero_le _)⟩) (fun H locs hw => ?_)
      replace h := Option.some.inj h
      subst h
      exact RET hw ⟨(Nat.zero_le _), (Nat.zero_le _)⟩ dJ8_newLength_cabcc_26
    · replace h := itf h c3
      refine lv_iload_n hx hb dJ8_newLength_cabcc_19 rfl (lv_at hl 0 rfl) ?_
      replace h := Option.some.inj h
      subst h
      exact RET hw ⟨(Nat.zero_le _), (Nat.zero_le _)⟩ dJ8_newLength_cabcc_20

def f_J5_newCapacity_0f7a4 (M : Mem) (this : Option Nat) (a1 : Int32) : Option (Int32) := (gR M this 1 0).bind fun v1 => (aL M v1).bind fun v2 => (gI M this 1 1).bind fun v3 => (gI M this 1 1).bind fun v4 => (f_J8_newLength_cabcc M v2 ((a1 <<< (v3 &&& 31)) - v2) (v2 + ((2 : Int32) <<< (v4 &&& 31)))).bind fun r5 => if r5 = (2147483647 : Int32) then (none) else ((gI M this 1 1).bind fun v7 => some (r5 >>> (v7 &&& 31)))
def rmJ5_newCapacity_0f7a4 : Room := { frames := 2, cells := 0, slots := 0, locals := 45 }
theorem k_J5_newCapacity_0f7a4_15 : Cond.fieldLink RJ5 15 "java/lang/AbstractStringBuilder" "value" "[B" ∈ wsJ5_newCapacity_0f7a4 := List.mem_of_getElem? (i := 1) rfl
theorem ki_J5_newCapacity_0f7a4_J4 : ∀ w ∈ u_ws RJ4 TJ4 4, w ∈ wsJ5_newCapacity_0f7a4 := sub_r [16, 17, 18, 19] (by decide +kernel)
theorem k_J5_newCapacity_0f7a4_22 : Cond.fieldLink RJ5 22 "java/lang/AbstractStringBuilder" "coder" "B" ∈ wsJ5_newCapacity_0f7a4 := List.mem_of_getElem? (i := 2) rfl
theorem k_J5_newCapacity_0f7a4_39 : Cond.constant RJ5 39 (2147483647) ∈ wsJ5_newCapacity_0f7a4 := List.mem_of_getElem? (i := 3) rfl
set_option maxHeartbeats 4000000 in
set_option maxRecDepth 100000 in
theorem c_J5_newCapacity_0f7a4 {G : wG} {l : Launch} {M : Mem} {sz : Nat} {this : Option Nat} {a1 : Int32} {r : Int32} (h : f_J5_newCapacity_0f7a4 M this a1 = some r) : CtrI G l yJ5_newCapacity_0f7a4 wsJ5_newCapacity_0f7a4 rmJ5_newCapacity_0f7a4 [va_rf this, .int a1] M sz r M sz := by
  refine m_startI (own := RJ5) (cc := cJ5_newCapacity_0f7a4) (maxL := 6) (lv0 := [(0, va_rf this), (1, .int a1)]) (by decide) rfl rfl (by simp [lg_sl, va_rf_cat, cat_i, cat_r]) (by simp [lv_args, va_rf_cat, cat_i, cat_r]) ?_
  intro p e s m args below meth c Q hC hname RET hsz hw ls hl
  have hx := hC.1
  have hb := hC.2.1
  unfold f_J5_newCapacity_0f7a4 at h
  refine m_aload_n (x := this) hx hb dJ5_newCapacity_0f7a4_0 rfl (lv_at hl 0 rfl) ?_
  obtain ⟨v1, hv1, h⟩ := ob h
  refine m_getR hC hw (C := RJ4) (T := TJ4) (N := 4) hv1 ki_J5_newCapacity_0f7a4_J4 rfl (by decide) k_J5_newCapacity_0f7a4_15 (fun _ z => z) dJ5_newCapacity_0f7a4_1 ?_
  obtain ⟨v2, hv2, h⟩ := ob h
  refine m_alen (x := v1) hC hw hv2 dJ5_newCapacity_0f7a4_4 ?_
  refine lv_istore_n (i := 2) (lv' := [(2, .int v2), (0, va_rf this), (1, .int a1)]) hx hb dJ5_newCapacity_0f7a4_5 rfl hl (by decide) rfl (fun ls hl => ?_)
  refine lv_iload_n hx hb dJ5_newCapacity_0f7a4_6 rfl (lv_at hl 2 rfl) ?_
  refine m_aload_n (x := this) hx hb dJ5_newCapacity_0f7a4_7 rfl (lv_at hl 1 rfl) ?_
  obtain ⟨v3, hv3, h⟩ := ob h
  refine m_getI hC hw (C := RJ4) (T := TJ4) (N := 4) hv3 ki_J5_newCapacity_0f7a4_J4 rfl (by decide) k_J5_newCapacity_0f7a4_22 (fun _ z => z) dJ5_newCapacity_0f7a4_8 ?_
  refine lv_ishl hx hb dJ5_newCapacity_0f7a4_11 ?_
  refine lv_istore_n (i := 3) (lv' := [(3, .int (a1 <<< (v3 &&& 31))), (2, .int v2), (0, va_rf this), (1, .int a1)]) hx hb dJ5_newCapacity_0f7a4_12 rfl hl (by decide) rfl (fun ls hl => ?_)
  refine lv_iload_n hx hb dJ5_newCapacity_0f7a4_13 rfl (lv_at hl 0 rfl) ?_
  refine lv_iload_n hx hb dJ5_newCapacity_0f7a4_14 rfl (lv_at hl 1 rfl) ?_
  refine lv_isub hx hb dJ5_newCapacity_0f7a4_15 ?_
  refine lv_istore (lv' := [(4, .int ((a1 <<< (v3 &&& 31)) - v2)), (3, .int (a1 <<< (v3 &&& 31))), (2, .int v2), (0, va_rf this), (1, .int a1)]) hx hb dJ5_newCapacity_0f7a4_16 hl (by decide) rfl (fun ls hl => ?_)
  refine lv_iload_n hx hb dJ5_newCapacity_0f7a4_18 rfl (lv_at hl 2 rfl) ?_
  refine lv_iload hx hb dJ5_newCapacity_0f7a4_19 (lv_at hl 0 rfl) ?_
  refine lv_iload_n hx hb dJ5_newCapacity_0f7a4_21 rfl (lv_at hl 2 rfl) ?_
  refine lv_iconst (v := (2 : Int32)) hx hb dJ5_newCapacity_0f7a4_22 (by decide) ?_
  refine m_aload_n (x := this) hx hb dJ5_newCapacity_0f7a4_23 rfl (lv_at hl 3 rfl) ?_
  obtain ⟨v4, hv4, h⟩ := ob h
  refine m_getI hC hw (C := RJ4) (T := TJ4) (N := 4) hv4 ki_J5_newCapacity_0f7a4_J4 rfl (by decide) k_J5_newCapacity_0f7a4_22 (fun _ z => z) dJ5_newCapacity_0f7a4_24 ?_
  refine lv_ishl hx hb dJ5_newCapacity_0f7a4_27 ?_
  refine lv_iadd hx hb dJ5_newCapacity_0f7a4_28 ?_
  obtain ⟨r5, hr5, h⟩ := ob h
  refine m_contI hC hw (m_runS hC hw (n := 3) (av := [.int v2, .int ((a1 <<< (v3 &&& 31)) - v2), .int (v2 + ((2 : Int32) <<< (v4 &&& 31)))]) (rest := []) (c_J8_newLength_cabcc (G := G) (l := l) hr5) gJ5_newCapacity_0f7a4_J8_newLength_cabcc rfl (by decide +kernel) ⟨(Nat.le_of_ble_eq_true rfl), (Nat.le_of_ble_eq_true rfl)⟩ rfl hl.1 rfl (Nat.le_of_ble_eq_true rfl) dJ5_newCapacity_0f7a4_29 ⟨(Nat.zero_le _), (Nat.zero_le _)⟩) (fun H locs hw => ?_)
  refine lv_istore (lv' := [(5, .int r5), (4, .int ((a1 <<< (v3 &&& 31)) - v2)), (3, .int (a1 <<< (v3 &&& 31))), (2, .int v2), (0, va_rf this), (1, .int a1)]) hx hb dJ5_newCapacity_0f7a4_32 hl (by decide) rfl (fun ls hl => ?_)
  refine lv_iload hx hb dJ5_newCapacity_0f7a4_34 (lv_at hl 0 rfl) ?_
  refine lv_ldc (v := (2147483647 : Int32)) hx hb hC.2.2.2.1 (hC.tab _ k_J5_newCapacity_0f7a4_39) dJ5_newCapacity_0f7a4_36 ?_
  refine lv_icmp_ne (tgt := 51) hx hb dJ5_newCapacity_0f7a4_38 (by decide) (fun c6 => ?_) (fun c6 => ?_)
  · replace h := itf h c6
    refine lv_iload hx hb dJ5_newCapacity_0f7a4_51 (lv_at hl 0 rfl) ?_
    refine m_aload_n (x := this) hx hb dJ5_newCapacity_0f7a4_53 rfl (lv_at hl 4 rfl) ?_
    obtain ⟨v7, hv7, h⟩ := ob h
    refine m_getI hC hw (C := RJ4) (T := TJ4) (N := 4) hv7 ki_J5_newCapacity_0f7a4_J4 rfl (by decide) k_J5_newCapacity_0f7a4_22 (fun _ z => z) dJ5_newCapacity_0f7a4_54 ?_
    refine lv_ishr hx hb dJ5_newCapacity_0f7a4_57 ?_
    replace h := Option.some.inj h
    subst h
    exact RET hw ⟨(Nat.zero_le _), (Nat.zero_le _)⟩ dJ5_newCapacity_0f7a4_58
  · replace h := itt h c6
    cases h

def f_J7_copyOf_9075b (B : Nat) (M : Mem) (sz : Nat) (a1 : Option Nat) (a2 : Int32) : Option (Option Nat × Mem × Nat) := (aL M a1).bind fun v1 => if a2 = v1 then ((kB B M sz 300 a1).bind fun M7 => if isR1 B M7 (some sz) = true then (some ((some sz), M7, (sz + 1))) else none) else (if ¬ a2 < 0 ∧ (a2 : Int32).toNatClampNeg ≤ 300 then ((some (va_up M sz (some (.inr (.inl (1, (a2 : Int32).toNatClampNeg, fun _ => 0)))))).bind fun M3 => (aL M3 a1).bind fun v5 => (cB B M3 a1 (0 : Int32) (some sz) (0 : Int32) (if a2 < v5 then a2 else v5)).bind fun M6 => some ((some sz), M6, (sz + 1))) else none)
def rmJ7_copyOf_9075b : Room := { frames := 1, cells := 1, slots := 300, locals := 60 }
theorem k_J7_copyOf_9075b_nabyte : Cond.arrayClass .byte ∈ wsJ7_copyOf_9075b := List.mem_of_getElem? (i := 7) rfl
theorem k_J7_copyOf_9075b_min304_0 : Cond.methodLink RJ7 304 Lib.Math.min.name ∈ wsJ7_copyOf_9075b := List.mem_of_getElem? (i := 8) rfl
theorem k_J7_copyOf_9075b_min304_1 : Cond.static Lib.Math.min.name ∈ wsJ7_copyOf_9075b := List.mem_of_getElem? (i := 9) rfl
theorem k_J7_copyOf_9075b_min304_2 : Cond.initialized "java/lang/Math" ∈ wsJ7_copyOf_9075b := List.mem_of_getElem? (i := 10) rfl
theorem k_J7_copyOf_9075b_min304_3 : Cond.code Lib.Math.min.name Lib.Math.min.code 2 (some .int) ∈ wsJ7_copyOf_9075b := List.mem_of_getElem? (i := 11) rfl
theorem k_J7_copyOf_9075b_cp150_0 : Cond.methodLink RJ7 150 arraycopyName ∈ wsJ7_copyOf_9075b := List.mem_of_getElem? (i := 12) rfl
theorem k_J7_copyOf_9075b_cp150_1 : Cond.native arraycopyName ∈ wsJ7_copyOf_9075b := List.mem_of_getElem? (i := 13) rfl
theorem k_J7_copyOf_9075b_cp150_2 : Cond.static arraycopyName ∈ wsJ7_copyOf_9075b := List.mem_of_getElem? (i := 14) rfl
theorem k_J7_copyOf_9075b_cp150_3 : Cond.initialized "java/lang/System" ∈ wsJ7_copyOf_9075b := List.mem_of_getElem? (i := 15) rfl
theorem k_J7_copyOf_9075b_cl310_0 : Cond.methodLink RJ7 310 ⟨"[B", "clone", "()Ljava/lang/Object;"⟩ ∈ wsJ7_copyOf_9075b := List.mem_of_getElem? (i := 1) rfl
theorem k_J7_copyOf_9075b_cl310_1 : Cond.sameMethod "[B" "java/lang/Object" "clone" "()Ljava/lang/Object;" ∈ wsJ7_copyOf_9075b := List.mem_of_getElem? (i := 2) rfl
theorem k_J7_copyOf_9075b_cl310_2 : Cond.native ⟨"java/lang/Object", "clone", "()Ljava/lang/Object;"⟩ ∈ wsJ7_copyOf_9075b := List.mem_of_getElem? (i := 3) rfl
theorem k_J7_copyOf_9075b_cl310_3 : Cond.instanceMethod ⟨"java/lang/Object", "clone", "()Ljava/lang/Object;"⟩ ∈ wsJ7_copyOf_9075b := List.mem_of_getElem? (i := 4) rfl
theorem k_J7_copyOf_9075b_cl310_4 : Cond.selects "[B" ⟨"[B", "clone", "()Ljava/lang/Object;"⟩ ⟨"java/lang/Object", "clone", "()Ljava/lang/Object;"⟩ ∈ wsJ7_copyOf_9075b := List.mem_of_getElem? (i := 5) rfl
theorem k_J7_copyOf_9075b_cc311 : Cond.classLink RJ7 311 "[B" ∈ wsJ7_copyOf_9075b := List.mem_of_getElem? (i := 6) rfl
set_option maxHeartbeats 4000000 in
set_option maxRecDepth 100000 in
theorem c_J7_copyOf_9075b {G : wG} {l : Launch} {M : Mem} {sz : Nat} {a1 : Option Nat} {a2 : Int32} {r : Option Nat × Mem × Nat} (h : f_J7_copyOf_9075b G.2.2.1 M sz a1 a2 = some r) : CtrQ G l yJ7_copyOf_9075b wsJ7_copyOf_9075b rmJ7_copyOf_9075b [va_rf a1, .int a2] M sz r.1 r.2.1 r.2.2 := by
  refine m_startQ (own := RJ7) (cc := cJ7_copyOf_9075b) (maxL := 3) (lv0 := [(0, va_rf a1), (1, .int a2)]) (by decide) rfl rfl (by simp [lg_sl, va_rf_cat, cat_i, cat_r]) (by simp [lv_args, va_rf_cat, cat_i, cat_r]) (Or.inr ⟨_, rfl⟩) ?_
  intro p e s m args below meth c Q hC hname RET hsz hw ls hl
  have hx := hC.1
  have hb := hC.2.1
  unfold f_J7_copyOf_9075b at h
  refine lv_iload_n hx hb dJ7_copyOf_9075b_0 rfl (lv_at hl 1 rfl) ?_
  refine m_aload_n (x := a1) hx hb dJ7_copyOf_9075b_1 rfl (lv_at hl 0 rfl) ?_
  obtain ⟨v1, hv1, h⟩ := ob h
  refine m_alen (x := a1) hC hw hv1 dJ7_copyOf_9075b_2 ?_
  refine lv_icmp_ne (tgt := 14) hx hb dJ7_copyOf_9075b_3 (by decide) (fun c2 => ?_) (fun c2 => ?_)
  · replace h := itf h c2
    refine lv_iload_n hx hb dJ7_copyOf_9075b_14 rfl (lv_at hl 1 rfl) ?_
    obtain ⟨g4, h⟩ := itg h
    obtain ⟨M3, hM3, h⟩ := ob h
    refine m_newI (atype := .byte) (t := 1) (n := a2) (cap := 300) hC hw rfl (fun _ _ => rfl) (by decide) k_J7_copyOf_9075b_nabyte (nmA1 hC) g4.1 g4.2 (by decide) (Nat.le_of_ble_eq_true rfl) (Nat.le_of_ble_eq_true rfl) dJ7_copyOf_9075b_15 (fun H hw => ?_)
    rw [Option.some.inj hM3] at hw
    refine m_astore_n (x := (some sz)) (i := 2) (lv' := [(2, va_rf (some sz)), (0, va_rf a1), (1, .int a2)]) hx hb dJ7_copyOf_9075b_17 rfl hl (by decide) rfl (fun ls hl => ?_)
    refine m_aload_n (x := a1) hx hb dJ7_copyOf_9075b_18 rfl (lv_at hl 1 rfl) ?_
    refine lv_iconst (v := (0 : Int32)) hx hb dJ7_copyOf_9075b_19 (by decide) ?_
    refine m_aload_n (x := (some sz)) hx hb dJ7_copyOf_9075b_20 rfl (lv_at hl 0 rfl) ?_
    refine lv_iconst (v := (0 : Int32)) hx hb dJ7_copyOf_9075b_21 (by decide) ?_
    refine m_aload_n (x := a1) hx hb dJ7_copyOf_9075b_22 rfl (lv_at hl 1 rfl) ?_
    obtain ⟨v5, hv5, h⟩ := ob h
    refine m_alen (x := a1) hC hw hv5 dJ7_copyOf_9075b_23 ?_
    refine lv_iload_n hx hb dJ7_copyOf_9075b_24 rfl (lv_at hl 2 rfl) ?_
    refine va_mmin hx hb (hC.2.2.1.trans hl.1.symm) hC.2.2.2.1 (hC.tab _ k_J7_copyOf_9075b_min304_0) (hC.tab _ k_J7_copyOf_9075b_min304_1) (hC.tab _ k_J7_copyOf_9075b_min304_2) (hC.tab _ k_J7_copyOf_9075b_min304_3) (Nat.le_of_ble_eq_true rfl) (cat_13 (by simp [va_rf_cat, cat_i, cat_r, cat_l]) (Nat.le_of_ble_eq_true rfl)) (Nat.le_of_ble_eq_true rfl) (Nat.le_of_ble_eq_true rfl) dJ7_copyOf_9075b_25 ?_
    obtain ⟨M6, hM6, h⟩ := ob h
    refine m_copyB (x := a1) (y := (some sz)) hC hw hM6 k_J7_copyOf_9075b_cp150_0 k_J7_copyOf_9075b_cp150_1 k_J7_copyOf_9075b_cp150_2 k_J7_copyOf_9075b_cp150_3 hl.1 (Nat.le_of_ble_eq_true rfl) (Nat.le_of_ble_eq_true rfl) (Nat.le_of_ble_eq_true rfl) dJ7_copyOf_9075b_28 (fun H locs hw => ?_)
    refine m_aload_n (x := (some sz)) hx hb dJ7_copyOf_9075b_31 rfl (lv_at hl 0 rfl) ?_
    replace h := Option.some.inj h
    subst h
    exact RET hw ⟨(Nat.le_of_ble_eq_true rfl), (Nat.le_of_ble_eq_true rfl)⟩ dJ7_copyOf_9075b_32
  · replace h := itt h c2
    refine m_aload_n (x := a1) hx hb dJ7_copyOf_9075b_6 rfl (lv_at hl 0 rfl) ?_
    obtain ⟨M7, hM7, h⟩ := ob h
    refine m_cloneB (x := a1) (cap := 300) hC hw hM7 k_J7_copyOf_9075b_cl310_0 k_J7_copyOf_9075b_cl310_1 k_J7_copyOf_9075b_cl310_2 k_J7_copyOf_9075b_cl310_3 k_J7_copyOf_9075b_cl310_4 hl.1 (Nat.le_of_ble_eq_true rfl) (Nat.le_of_ble_eq_true rfl) (Nat.le_of_ble_eq_true rfl) (Nat.le_of_ble_eq_true rfl) (Nat.le_of_ble_eq_true rfl) dJ7_copyOf_9075b_7 (fun H hw => ?_)
    obtain ⟨g8, h⟩ := itg h
    refine m_castB (x := (some sz)) hC hw g8 k_J7_copyOf_9075b_cc311 dJ7_copyOf_9075b_10 ?_
    replace h := Option.some.inj h
    subst h
    exact RET hw ⟨(Nat.le_of_ble_eq_true rfl), (Nat.le_of_ble_eq_true rfl)⟩ dJ7_copyOf_9075b_13

def f_J5_ensureCapacityInternal_d00df (B : Nat) (M : Mem) (sz : Nat) (this : Option Nat) (a1 : Int32) : Option (Mem × Nat) := (gR M this 1 0).bind fun v1 => (aL M v1).bind fun v2 => (gI M this 1 1).bind fun v3 => if (a1 - (v2 >>> (v3 &&& 31))) ≤ 0 then (some (M, sz)) else ((gR M this 1 0).bind fun v5 => if isO M this 1 = true then ((f_J5_newCapacity_0f7a4 M this a1).bind fun r7 => (gI M this 1 1).bind fun v8 => (f_J7_copyOf_9075b B M sz v5 (r7 <<< (v8 &&& 31))).bind fun r9 => (pF B r9.2.1 this 1 0 (va_rf r9.1)).bind fun M10 => some (M10, r9.2.2)) else none)
def rmJ5_ensureCapacityInternal_d00df : Room := { frames := 3, cells := 1, slots := 300, locals := 82 }
theorem k_J5_ensureCapacityInternal_d00df_15 : Cond.fieldLink RJ5 15 "java/lang/AbstractStringBuilder" "value" "[B" ∈ wsJ5_ensureCapacityInternal_d00df := List.mem_of_getElem? (i := 1) rfl
theorem ki_J5_ensureCapacityInternal_d00df_J4 : ∀ w ∈ u_ws RJ4 TJ4 4, w ∈ wsJ5_ensureCapacityInternal_d00df := sub_r [40, 41, 42, 43] (by decide +kernel)
theorem k_J5_ensureCapacityInternal_d00df_22 : Cond.fieldLink RJ5 22 "java/lang/AbstractStringBuilder" "coder" "B" ∈ wsJ5_ensureCapacityInternal_d00df := List.mem_of_getElem? (i := 2) rfl
set_option maxHeartbeats 4000000 in
set_option maxRecDepth 100000 in
theorem c_J5_ensureCapacityInternal_d00df {G : wG} {l : Launch} {M : Mem} {sz : Nat} {this : Option Nat} {a1 : Int32} {r : Mem × Nat} (h : f_J5_ensureCapacityInternal_d00df G.2.2.1 M sz this a1 = some r) : CtrV G l yJ5_ensureCapacityInternal_d00df wsJ5_ensureCapacityInternal_d00df rmJ5_ensureCapacityInternal_d00df [va_rf this, .int a1] M sz r.1 r.2 := by
  refine m_startV (own := RJ5) (cc := cJ5_ensureCapacityInternal_d00df) (maxL := 3) (lv0 := [(0, va_rf this), (1, .int a1)]) (by decide) rfl rfl (by simp [lg_sl, va_rf_cat, cat_i, cat_r]) (by simp [lv_args, va_rf_cat, cat_i, cat_r]) ?_
  intro p e s m args below meth c Q hC hname RET hsz hw ls hl
  have hx := hC.1
  have hb := hC.2.1
  unfold f_J5_ensureCapacityInternal_d00df at h
  refine m_aload_n (x := this) hx hb dJ5_ensureCapacityInternal_d00df_0 rfl (lv_at hl 0 rfl) ?_
  obtain ⟨v1, hv1, h⟩ := ob h
  refine m_getR hC hw (C := RJ4) (T := TJ4) (N := 4) hv1 ki_J5_ensureCapacityInternal_d00df_J4 rfl (by decide) k_J5_ensureCapacityInternal_d00df_15 (fun _ z => z) dJ5_ensureCapacityInternal_d00df_1 ?_
  obtain ⟨v2, hv2, h⟩ := ob h
  refine m_alen (x := v1) hC hw hv2 dJ5_ensureCapacityInternal_d00df_4 ?_
  refine m_aload_n (x := this) hx hb dJ5_ensureCapacityInternal_d00df_5 rfl (lv_at hl 0 rfl) ?_
  obtain ⟨v3, hv3, h⟩ := ob h
  refine m_getI hC hw (C := RJ4) (T := TJ4) (N := 4) hv3 ki_J5_ensureCapacityInternal_d00df_J4 rfl (by decide) k_J5_ensureCapacityInternal_d00df_22 (fun _ z => z) dJ5_ensureCapacityInternal_d00df_6 ?_
  refine lv_ishr hx hb dJ5_ensureCapacityInternal_d00df_9 ?_
  refine lv_istore_n (i := 2) (lv' := [(2, .int (v2 >>> (v3 &&& 31))), (0, va_rf this), (1, .int a1)]) hx hb dJ5_ensureCapacityInternal_d00df_10 rfl hl (by decide) rfl (fun ls hl => ?_)
  refine lv_iload_n hx hb dJ5_ensureCapacityInternal_d00df_11 rfl (lv_at hl 2 rfl) ?_
  refine lv_iload_n hx hb dJ5_ensureCapacityInternal_d00df_12 rfl (lv_at hl 0 rfl) ?_
  refine lv_isub hx hb dJ5_ensureCapacityInternal_d00df_13 ?_
  refine lv_if_le (tgt := 38) hx hb dJ5_ensureCapacityInternal_d00df_14 (by decide) (fun c4 => ?_) (fun c4 => ?_)
  · replace h := itt h c4
    replace h := Option.some.inj h
    subst h
    exact RET hw ⟨(Nat.zero_le _), (Nat.zero_le _)⟩ dJ5_ensureCapacityInternal_d00df_38
  · replace h := itf h c4
    refine m_aload_n (x := this) hx hb dJ5_ensureCapacityInternal_d00df_17 rfl (lv_at hl 1 rfl) ?_
    refine m_aload_n (x := this) hx hb dJ5_ensureCapacityInternal_d00df_18 rfl (lv_at hl 1 rfl) ?_
    obtain ⟨v5, hv5, h⟩ := ob h
    refine m_getR hC hw (C := RJ4) (T := TJ4) (N := 4) hv5 ki_J5_ensureCapacityInternal_d00df_J4 rfl (by decide) k_J5_ensureCapacityInternal_d00df_15 (fun _ z => z) dJ5_ensureCapacityInternal_d00df_19 ?_
    refine m_aload_n (x := this) hx hb dJ5_ensureCapacityInternal_d00df_22 rfl (lv_at hl 1 rfl) ?_
    refine lv_iload_n hx hb dJ5_ensureCapacityInternal_d00df_23 rfl (lv_at hl 2 rfl) ?_
    obtain ⟨g6, h⟩ := itg h
    obtain ⟨r7, hr7, h⟩ := ob h
    refine m_contI hC hw (m_runU hC hw (x := this) (ci := 1) (N := 4) (C := RJ4) (T := TJ4) (n := 1) (av := [.int a1]) (rest := [va_rf v5, va_rf this]) (c_J5_newCapacity_0f7a4 (G := G) (l := l) hr7) gJ5_ensureCapacityInternal_d00df_J5_newCapacity_0f7a4_u104J4 rfl rfl (by decide +kernel) ⟨(Nat.le_of_ble_eq_true rfl), (Nat.le_of_ble_eq_true rfl)⟩ g6 rfl rfl hl.1 rfl (by simp [va_rf_cat, cat_i, cat_r, cat_l]) dJ5_ensureCapacityInternal_d00df_24 ⟨(Nat.zero_le _), (Nat.zero_le _)⟩) (fun H locs hw => ?_)
    refine m_aload_n (x := this) hx hb dJ5_ensureCapacityInternal_d00df_27 rfl (lv_at hl 1 rfl) ?_
    obtain ⟨v8, hv8, h⟩ := ob h
    refine m_getI hC hw (C := RJ4) (T := TJ4) (N := 4) hv8 ki_J5_ensureCapacityInternal_d00df_J4 rfl (by decide) k_J5_ensureCapacityInternal_d00df_22 (fun _ z => z) dJ5_ensureCapacityInternal_d00df_28 ?_
    refine lv_ishl hx hb dJ5_ensureCapacityInternal_d00df_31 ?_
    obtain ⟨r9, hr9, h⟩ := ob h
    refine m_contQ hC hw (m_runS hC hw (n := 2) (av := [va_rf v5, .int (r7 <<< (v8 &&& 31))]) (rest := [va_rf this]) (c_J7_copyOf_9075b (G := G) (l := l) hr9) gJ5_ensureCapacityInternal_d00df_J7_copyOf_9075b rfl (by decide +kernel) ⟨(Nat.le_of_ble_eq_true rfl), (Nat.le_of_ble_eq_true rfl)⟩ rfl hl.1 rfl (by simp [va_rf_cat, cat_i, cat_r, cat_l]) dJ5_ensureCapacityInternal_d00df_32 ⟨(Nat.le_of_ble_eq_true rfl), (Nat.le_of_ble_eq_true rfl)⟩) (fun H locs hw => ?_)
    obtain ⟨M10, hM10, h⟩ := ob h
    refine m_put hC hw (C := RJ4) (T := TJ4) (N := 4) (x := this) hM10 ki_J5_ensureCapacityInternal_d00df_J4 tyJ4 tyJ4_ok nmJ4 rfl (by decide) k_J5_ensureCapacityInternal_d00df_15 (fun _ z => z) rfl (nar_rf _ _ (by decide)) (fit_rf _ _ (by decide)) dJ5_ensureCapacityInternal_d00df_35 (fun H locs hw => ?_)
    replace h := Option.some.inj h
    subst h
    exact RET hw ⟨(Nat.le_of_ble_eq_true rfl), (Nat.le_of_ble_eq_true rfl)⟩ dJ5_ensureCapacityInternal_d00df_38

def f_J5_isLatin1_aae02 (M : Mem) (this : Option Nat) : Option (Int32) := (gI M this 1 1).bind fun v1 => if v1 = 0 then (some (1 : Int32)) else (some (0 : Int32))
def rmJ5_isLatin1_aae02 : Room := { frames := 0, cells := 0, slots := 0, locals := 0 }
theorem k_J5_isLatin1_aae02_18 : Cond.fieldLink RJ5 18 "java/lang/String" "COMPACT_STRINGS" "Z" ∈ wsJ5_isLatin1_aae02 := List.mem_of_getElem? (i := 1) rfl
theorem k_J5_isLatin1_aae02_22 : Cond.fieldLink RJ5 22 "java/lang/AbstractStringBuilder" "coder" "B" ∈ wsJ5_isLatin1_aae02 := List.mem_of_getElem? (i := 2) rfl
theorem ki_J5_isLatin1_aae02_J4 : ∀ w ∈ u_ws RJ4 TJ4 4, w ∈ wsJ5_isLatin1_aae02 := sub_r [3, 4, 5, 6] (by decide +kernel)
set_option maxHeartbeats 4000000 in
set_option maxRecDepth 100000 in
theorem c_J5_isLatin1_aae02 {G : wG} {l : Launch} {M : Mem} {sz : Nat} {this : Option Nat} {r : Int32} (h : f_J5_isLatin1_aae02 M this = some r) : CtrI G l yJ5_isLatin1_aae02 wsJ5_isLatin1_aae02 rmJ5_isLatin1_aae02 [va_rf this] M sz r M sz := by
  refine m_startZ (own := RJ5) (cc := cJ5_isLatin1_aae02) (maxL := 1) (lv0 := [(0, va_rf this)]) (by decide) rfl rfl (by simp [lg_sl, va_rf_cat, cat_i, cat_r]) (by simp [lv_args, va_rf_cat, cat_i, cat_r]) ?_
  intro p e s m args below meth c Q hC hname RET hsz hw ls hl
  have hx := hC.1
  have hb := hC.2.1
  unfold f_J5_isLatin1_aae02 at h
  refine m_gets (v := .int 1) hC hw (by simp [evZ]) k_J5_isLatin1_aae02_18 (fun _ z => z) dJ5_isLatin1_aae02_0 ?_
  refine lv_if_eq (tgt := 17) hx hb dJ5_isLatin1_aae02_3 (by decide) (fun c3 => ?_) (fun _ => ?_)
  · first | exact absurd c3 (by decide) | exact (c3 (by decide)).elim | exact absurd rfl c3 | cases c3
  · refine m_aload_n (x := this) hx hb dJ5_isLatin1_aae02_6 rfl (lv_at hl 0 rfl) ?_
    obtain ⟨v1, hv1, h⟩ := ob h
    refine m_getI hC hw (C := RJ4) (T := TJ4) (N := 4) hv1 ki_J5_isLatin1_aae02_J4 rfl (by decide) k_J5_isLatin1_aae02_22 (fun _ z => z) dJ5_isLatin1_aae02_7 ?_
    refine lv_if_ne (tgt := 17) hx hb dJ5_isLatin1_aae02_10 (by decide) (fun c2 => ?_) (fun c2 => ?_)
    · replace h := itf h c2
      refine lv_iconst (v := (0 : Int32)) hx hb dJ5_isLatin1_aae02_17 (by decide) ?_
      replace h := Option.some.inj h
      subst h
      exact RET (isZ.nar (Or.inl rfl)) hw ⟨(Nat.zero_le _), (Nat.zero_le _)⟩ dJ5_isLatin1_aae02_18
    · replace h := itt h c2
      refine lv_iconst (v := (1 : Int32)) hx hb dJ5_isLatin1_aae02_13 (by decide) ?_
      refine lv_goto (tgt := 18) hx hb dJ5_isLatin1_aae02_14 (by decide) ?_
      replace h := Option.some.inj h
      subst h
      exact RET (isZ.nar (Or.inr rfl)) hw ⟨(Nat.zero_le _), (Nat.zero_le _)⟩ dJ5_isLatin1_aae02_18

def f_J5_appendNull_278bc (B : Nat) (M : Mem) (sz : Nat) (this : Option Nat) : Option (Option Nat × Mem × Nat) := (gI M this 1 3).bind fun v1 => if isO M this 1 = true then ((f_J5_ensureCapacityInternal_d00df B M sz this (v1 + (4 : Int32))).bind fun r3 => (gI r3.1 this 1 3).bind fun v4 => (gR r3.1 this 1 0).bind fun v5 => if isO r3.1 this 1 = true then ((f_J5_isLatin1_aae02 r3.1 this).bind fun r7 => if r7 = 0 then (none) else ((sI B r3.1 1 v5 v4 (110 : Int32)).bind fun M9 => (sI B M9 1 v5 (v4 + (1 : Int32)) (117 : Int32)).bind fun M10 => (sI B M10 1 v5 ((v4 + (1 : Int32)) + (1 : Int32)) (108 : Int32)).bind fun M11 => (sI B M11 1 v5 (((v4 + (1 : Int32)) + (1 : Int32)) + (1 : Int32)) (108 : Int32)).bind fun M12 => (pF B M12 this 1 3 (.int ((((v4 + (1 : Int32)) + (1 : Int32)) + (1 : Int32)) + (1 : Int32)))).bind fun M13 => some (this, M13, r3.2))) else none) else none
def rmJ5_appendNull_278bc : Room := { frames := 4, cells := 1, slots := 300, locals := 104 }
theorem k_J5_appendNull_278bc_79 : Cond.fieldLink RJ5 79 "java/lang/AbstractStringBuilder" "count" "I" ∈ wsJ5_appendNull_278bc := List.mem_of_getElem? (i := 1) rfl
theorem ki_J5_appendNull_278bc_J4 : ∀ w ∈ u_ws RJ4 TJ4 4, w ∈ wsJ5_appendNull_278bc := sub_r [77, 78, 79, 80] (by decide +kernel)
theorem k_J5_appendNull_278bc_15 : Cond.fieldLink RJ5 15 "java/lang/AbstractStringBuilder" "value" "[B" ∈ wsJ5_appendNull_278bc := List.mem_of_getElem? (i := 2) rfl
set_option maxHeartbeats 4000000 in
set_option maxRecDepth 100000 in
theorem c_J5_appendNull_278bc {G : wG} {l : Launch} {M : Mem} {sz : Nat} {this : Option Nat} {r : Option Nat × Mem × Nat} (h : f_J5_appendNull_278bc G.2.2.1 M sz this = some r) : CtrQ G l yJ5_appendNull_278bc wsJ5_appendNull_278bc rmJ5_appendNull_278bc [va_rf this] M sz r.1 r.2.1 r.2.2 := by
  refine m_startQ (own := RJ5) (cc := cJ5_appendNull_278bc) (maxL := 3) (lv0 := [(0, va_rf this)]) (by decide) rfl rfl (by simp [lg_sl, va_rf_cat, cat_i, cat_r]) (by simp [lv_args, va_rf_cat, cat_i, cat_r]) (Or.inl ⟨_, rfl⟩) ?_
  intro p e s m args below meth c Q hC hname RET hsz hw ls hl
  have hx := hC.1
  have hb := hC.2.1
  unfold f_J5_appendNull_278bc at h
  refine m_aload_n (x := this) hx hb dJ5_appendNull_278bc_0 rfl (lv_at hl 0 rfl) ?_
  refine m_aload_n (x := this) hx hb dJ5_appendNull_278bc_1 rfl (lv_at hl 0 rfl) ?_
  obtain ⟨v1, hv1, h⟩ := ob h
  refine m_getI hC hw (C := RJ4) (T := TJ4) (N := 4) hv1 ki_J5_appendNull_278bc_J4 rfl (by decide) k_J5_appendNull_278bc_79 (fun _ z => z) dJ5_appendNull_278bc_2 ?_
  refine lv_iconst (v := (4 : Int32)) hx hb dJ5_appendNull_278bc_5 (by decide) ?_
  refine lv_iadd hx hb dJ5_appendNull_278bc_6 ?_
  obtain ⟨g2, h⟩ := itg h
  obtain ⟨r3, hr3, h⟩ := ob h
  refine m_contV hC hw (m_runU hC hw (x := this) (ci := 1) (N := 4) (C := RJ4) (T := TJ4) (n := 1) (av := [.int (v1 + (4 : Int32))]) (rest := []) (c_J5_ensureCapacityInternal_d00df (G := G) (l := l) hr3) gJ5_appendNull_278bc_J5_ensureCapacityInternal_d00df_u100J4 rfl rfl (by decide +kernel) ⟨(Nat.le_of_ble_eq_true rfl), (Nat.le_of_ble_eq_true rfl)⟩ g2 rfl rfl hl.1 rfl (Nat.le_of_ble_eq_true rfl) dJ5_appendNull_278bc_7 ⟨(Nat.le_of_ble_eq_true rfl), (Nat.le_of_ble_eq_true rfl)⟩) (fun H locs hw => ?_)
  refine m_aload_n (x := this) hx hb dJ5_appendNull_278bc_10 rfl (lv_at hl 0 rfl) ?_
  obtain ⟨v4, hv4, h⟩ := ob h
  refine m_getI hC hw (C := RJ4) (T := TJ4) (N := 4) hv4 ki_J5_appendNull_278bc_J4 rfl (by decide) k_J5_appendNull_278bc_79 (fun _ z => z) dJ5_appendNull_278bc_11 ?_
  refine lv_istore_n (i := 1) (lv' := [(1, .int v4), (0, va_rf this)]) hx hb dJ5_appendNull_278bc_14 rfl hl (by decide) (by simp [va_rf_cat, cat_i, cat_l]) (fun ls hl => ?_)
  refine m_aload_n (x := this) hx hb dJ5_appendNull_278bc_15 rfl (lv_at hl 1 rfl) ?_
  obtain ⟨v5, hv5, h⟩ := ob h
  refine m_getR hC hw (C := RJ4) (T := TJ4) (N := 4) hv5 ki_J5_appendNull_278bc_J4 rfl (by decide) k_J5_appendNull_278bc_15 (fun _ z => z) dJ5_appendNull_278bc_16 ?_
  refine m_astore_n (x := v5) (i := 2) (lv' := [(2, va_rf v5), (1, .int v4), (0, va_rf this)]) hx hb dJ5_appendNull_278bc_19 rfl hl (by decide) rfl (fun ls hl => ?_)
  refine m_aload_n (x := this) hx hb dJ5_appendNull_278bc_20 rfl (lv_at hl 2 rfl) ?_
  obtain ⟨g6, h⟩ := itg h
  obtain ⟨r7, hr7, h⟩ := ob h
  refine m_contI hC hw (m_runU hC hw (x := this) (ci := 1) (N := 4) (C := RJ4) (T := TJ4) (n := 0) (av := []) (rest := []) (c_J5_isLatin1_aae02 (G := G) (l := l) hr7) gJ5_appendNull_278bc_J5_isLatin1_aae02_u83J4 rfl rfl (by decide +kernel) ⟨(Nat.le_of_ble_eq_true rfl), (Nat.le_of_ble_eq_true rfl)⟩ g6 rfl rfl hl.1 rfl (Nat.le_of_ble_eq_true rfl) dJ5_appendNull_278bc_21 ⟨(Nat.le_of_ble_eq_true rfl), (Nat.le_of_ble_eq_true rfl)⟩) (fun H locs hw => ?_)
  refine lv_if_eq (tgt := 62) hx hb dJ5_appendNull_278bc_24 (by decide) (fun c8 => ?_) (fun c8 => ?_)
  · replace h := itt h c8
    refine m_aload_n (x := v5) hx hb dJ5_appendNull_278bc_62 rfl (lv_at hl 0 rfl) ?_
    refine lv_iload_n hx hb dJ5_appendNull_278bc_63 rfl (lv_at hl 1 rfl) ?_
    refine lv_bipush (v := (110 : Int32)) hx hb dJ5_appendNull_278bc_64 (by decide) ?_
    refine lv_bipush (v := (117 : Int32)) hx hb dJ5_appendNull_278bc_66 (by decide) ?_
    refine lv_bipush (v := (108 : Int32)) hx hb dJ5_appendNull_278bc_68 (by decide) ?_
    refine lv_bipush (v := (108 : Int32)) hx hb dJ5_appendNull_278bc_70 (by decide) ?_
    cases h
  · replace h := itf h c8
    refine m_aload_n (x := v5) hx hb dJ5_appendNull_278bc_27 rfl (lv_at hl 0 rfl) ?_
    refine lv_iload_n hx hb dJ5_appendNull_278bc_28 rfl (lv_at hl 1 rfl) ?_
    refine lv_iinc (v := (v4 + (1 : Int32))) (lv' := [(1, .int (v4 + (1 : Int32))), (2, va_rf v5), (0, va_rf this)]) hx hb dJ5_appendNull_278bc_29 hl (k := 1) rfl rfl (by decide) (by simp [va_rf_cat, cat_i, cat_l]) (fun ls hl => ?_)
    refine lv_bipush (v := (110 : Int32)) hx hb dJ5_appendNull_278bc_32 (by decide) ?_
    obtain ⟨M9, hM9, h⟩ := ob h
    refine m_bast (x := v5) hC hw hM9 (by decide) dJ5_appendNull_278bc_34 (fun H locs hw => ?_)
    refine m_aload_n (x := v5) hx hb dJ5_appendNull_278bc_35 rfl (lv_at hl 1 rfl) ?_
    refine lv_iload_n hx hb dJ5_appendNull_278bc_36 rfl (lv_at hl 0 rfl) ?_
    refine lv_iinc (v := ((v4 + (1 : Int32)) + (1 : Int32))) (lv' := [(1, .int ((v4 + (1 : Int32)) + (1 : Int32))), (2, va_rf v5), (0, va_rf this)]) hx hb dJ5_appendNull_278bc_37 hl (k := 0) rfl rfl (by decide) (by simp [va_rf_cat, cat_i, cat_l]) (fun ls hl => ?_)
    refine lv_bipush (v := (117 : Int32)) hx hb dJ5_appendNull_278bc_40 (by decide) ?_
    obtain ⟨M10, hM10, h⟩ := ob h
    refine m_bast (x := v5) hC hw hM10 (by decide) dJ5_appendNull_278bc_42 (fun H locs hw => ?_)
    refine m_aload_n (x := v5) hx hb dJ5_appendNull_278bc_43 rfl (lv_at hl 1 rfl) ?_
    refine lv_iload_n hx hb dJ5_appendNull_278bc_44 rfl (lv_at hl 0 rfl) ?_
    refine lv_iinc (v := (((v4 + (1 : Int32)) + (1 : Int32)) + (1 : Int32))) (lv' := [(1, .int (((v4 + (1 : Int32)) + (1 : Int32)) + (1 : Int32))), (2, va_rf v5), (0, va_rf this)]) hx hb dJ5_appendNull_278bc_45 hl (k := 0) rfl rfl (by decide) (by simp [va_rf_cat, cat_i, cat_l]) (fun ls hl => ?_)
    refine lv_bipush (v := (108 : Int32)) hx hb dJ5_appendNull_278bc_48 (by decide) ?_
    obtain ⟨M11, hM11, h⟩ := ob h
    refine m_bast (x := v5) hC hw hM11 (by decide) dJ5_appendNull_278bc_50 (fun H locs hw => ?_)
    refine m_aload_n (x := v5) hx hb dJ5_appendNull_278bc_51 rfl (lv_at hl 1 rfl) ?_
    refine lv_iload_n hx hb dJ5_appendNull_278bc_52 rfl (lv_at hl 0 rfl) ?_
    refine lv_iinc (v := ((((v4 + (1 : Int32)) + (1 : Int32)) + (1 : Int32)) + (1 : Int32))) (lv' := [(1, .int ((((v4 + (1 : Int32)) + (1 : Int32)) + (1 : Int32)) + (1 : Int32))), (2, va_rf v5), (0, va_rf this)]) hx hb dJ5_appendNull_278bc_53 hl (k := 0) rfl rfl (by decide) (by simp [va_rf_cat, cat_i, cat_l]) (fun ls hl => ?_)
    refine lv_bipush (v := (108 : Int32)) hx hb dJ5_appendNull_278bc_56 (by decide) ?_
    obtain ⟨M12, hM12, h⟩ := ob h
    refine m_bast (x := v5) hC hw hM12 (by decide) dJ5_appendNull_278bc_58 (fun H locs hw => ?_)
    refine lv_goto (tgt := 76) hx hb dJ5_appendNull_278bc_59 (by decide) ?_
    refine m_aload_n (x := this) hx hb dJ5_appendNull_278bc_76 rfl (lv_at hl 2 rfl) ?_
    refine lv_iload_n hx hb dJ5_appendNull_278bc_77 rfl (lv_at hl 0 rfl) ?_
    obtain ⟨M13, hM13, h⟩ := ob h
    refine m_put hC hw (C := RJ4) (T := TJ4) (N := 4) (x := this) hM13 ki_J5_appendNull_278bc_J4 tyJ4 tyJ4_ok nmJ4 rfl (by decide) k_J5_appendNull_278bc_79 (fun _ z => z) rfl rfl rfl dJ5_appendNull_278bc_78 (fun H locs hw => ?_)
    refine m_aload_n (x := this) hx hb dJ5_appendNull_278bc_81 rfl (lv_at hl 2 rfl) ?_
    replace h := Option.some.inj h
    subst h
    exact RET hw ⟨(Nat.le_of_ble_eq_true rfl), (Nat.le_of_ble_eq_true rfl)⟩ dJ5_appendNull_278bc_82

def f_J1_inflate_0e8fd (M : Mem) (a1 : Option Nat) (a2 : Int32) (a3 : Option Nat) (a4 : Int32) (a5 : Int32) : Option (Unit) := none
def rmJ1_inflate_0e8fd : Room := { frames := 0, cells := 0, slots := 0, locals := 0 }
set_option maxHeartbeats 4000000 in
set_option maxRecDepth 100000 in
theorem c_J1_inflate_0e8fd {G : wG} {l : Launch} {M : Mem} {sz : Nat} {a1 : Option Nat} {a2 : Int32} {a3 : Option Nat} {a4 : Int32} {a5 : Int32} {r : Unit} (h : f_J1_inflate_0e8fd M a1 a2 a3 a4 a5 = some r) : CtrV G l yJ1_inflate_0e8fd wsJ1_inflate_0e8fd rmJ1_inflate_0e8fd [va_rf a1, .int a2, va_rf a3, .int a4, .int a5] M sz M sz := by
  refine m_startV (own := RJ1) (cc := cJ1_inflate_0e8fd) (maxL := 5) (lv0 := [(0, va_rf a1), (1, .int a2), (2, va_rf a3), (3, .int a4), (4, .int a5)]) (by decide) rfl rfl (by simp [lg_sl, va_rf_cat, cat_i, cat_r]) (by simp [lv_args, va_rf_cat, cat_i, cat_r]) ?_
  intro p e s m args below meth c Q hC hname RET hsz hw ls hl
  have hx := hC.1
  have hb := hC.2.1
  unfold f_J1_inflate_0e8fd at h
  refine m_aload_n (x := a1) hx hb dJ1_inflate_0e8fd_0 rfl (lv_at hl 0 rfl) ?_
  refine lv_iload_n hx hb dJ1_inflate_0e8fd_1 rfl (lv_at hl 1 rfl) ?_
  refine m_aload_n (x := a3) hx hb dJ1_inflate_0e8fd_2 rfl (lv_at hl 2 rfl) ?_
  refine lv_iload_n hx hb dJ1_inflate_0e8fd_3 rfl (lv_at hl 3 rfl) ?_
  refine lv_iload hx hb dJ1_inflate_0e8fd_4 (lv_at hl 4 rfl) ?_
  cases h

def f_J5_inflate_da8c8 (M : Mem) (this : Option Nat) : Option (Mem) := if isO M this 1 = true then ((f_J5_isLatin1_aae02 M this).bind fun r2 => if r2 = 0 then (some (M)) else ((gR M this 1 0).bind fun v4 => (aL M v4).bind fun v5 => none)) else none
def rmJ5_inflate_da8c8 : Room := { frames := 1, cells := 0, slots := 0, locals := 20 }
theorem k_J5_inflate_da8c8_15 : Cond.fieldLink RJ5 15 "java/lang/AbstractStringBuilder" "value" "[B" ∈ wsJ5_inflate_da8c8 := List.mem_of_getElem? (i := 1) rfl
theorem ki_J5_inflate_da8c8_J4 : ∀ w ∈ u_ws RJ4 TJ4 4, w ∈ wsJ5_inflate_da8c8 := sub_r [48, 49, 50, 51] (by decide +kernel)
set_option maxHeartbeats 4000000 in
set_option maxRecDepth 100000 in
theorem c_J5_inflate_da8c8 {G : wG} {l : Launch} {M : Mem} {sz : Nat} {this : Option Nat} {r : Mem} (h : f_J5_inflate_da8c8 M this = some r) : CtrV G l yJ5_inflate_da8c8 wsJ5_inflate_da8c8 rmJ5_inflate_da8c8 [va_rf this] M sz r sz := by
  refine m_startV (own := RJ5) (cc := cJ5_inflate_da8c8) (maxL := 2) (lv0 := [(0, va_rf this)]) (by decide) rfl rfl (by simp [lg_sl, va_rf_cat, cat_i, cat_r]) (by simp [lv_args, va_rf_cat, cat_i, cat_r]) ?_
  intro p e s m args below meth c Q hC hname RET hsz hw ls hl
  have hx := hC.1
  have hb := hC.2.1
  unfold f_J5_inflate_da8c8 at h
  refine m_aload_n (x := this) hx hb dJ5_inflate_da8c8_0 rfl (lv_at hl 0 rfl) ?_
  obtain ⟨g1, h⟩ := itg h
  obtain ⟨r2, hr2, h⟩ := ob h
  refine m_contI hC hw (m_runU hC hw (x := this) (ci := 1) (N := 4) (C := RJ4) (T := TJ4) (n := 0) (av := []) (rest := []) (c_J5_isLatin1_aae02 (G := G) (l := l) hr2) gJ5_inflate_da8c8_J5_isLatin1_aae02_u83J4 rfl rfl (by decide +kernel) ⟨(Nat.le_of_ble_eq_true rfl), (Nat.le_of_ble_eq_true rfl)⟩ g1 rfl rfl hl.1 rfl (Nat.le_of_ble_eq_true rfl) dJ5_inflate_da8c8_1 ⟨(Nat.zero_le _), (Nat.zero_le _)⟩) (fun H locs hw => ?_)
  refine lv_if_ne (tgt := 8) hx hb dJ5_inflate_da8c8_4 (by decide) (fun c3 => ?_) (fun c3 => ?_)
  · replace h := itf h c3
    refine m_aload_n (x := this) hx hb dJ5_inflate_da8c8_8 rfl (lv_at hl 0 rfl) ?_
    obtain ⟨v4, hv4, h⟩ := ob h
    refine m_getR hC hw (C := RJ4) (T := TJ4) (N := 4) hv4 ki_J5_inflate_da8c8_J4 rfl (by decide) k_J5_inflate_da8c8_15 (fun _ z => z) dJ5_inflate_da8c8_9 ?_
    obtain ⟨v5, hv5, h⟩ := ob h
    refine m_alen (x := v4) hC hw hv5 dJ5_inflate_da8c8_12 ?_
    cases h
  · replace h := itt h c3
    replace h := Option.some.inj h
    subst h
    exact RET hw ⟨(Nat.zero_le _), (Nat.zero_le _)⟩ dJ5_inflate_da8c8_7

def f_J5_inflateIfNeededFor_a7421 (M : Mem) (this : Option Nat) (a1 : Option Nat) : Option (Mem) := (gI M this 1 1).bind fun v1 => if isO M a1 0 = true then ((f_J0_coder_7d493 M a1).bind fun r3 => if v1 = r3 then (some (M)) else (if isO M this 1 = true then ((f_J5_inflate_da8c8 M this).bind fun r6 => some (r6)) else none)) else none
def rmJ5_inflateIfNeededFor_a7421 : Room := { frames := 2, cells := 0, slots := 0, locals := 41 }
theorem k_J5_inflateIfNeededFor_a7421_18 : Cond.fieldLink RJ5 18 "java/lang/String" "COMPACT_STRINGS" "Z" ∈ wsJ5_inflateIfNeededFor_a7421 := List.mem_of_getElem? (i := 1) rfl
theorem k_J5_inflateIfNeededFor_a7421_22 : Cond.fieldLink RJ5 22 "java/lang/AbstractStringBuilder" "coder" "B" ∈ wsJ5_inflateIfNeededFor_a7421 := List.mem_of_getElem? (i := 2) rfl
theorem ki_J5_inflateIfNeededFor_a7421_J4 : ∀ w ∈ u_ws RJ4 TJ4 4, w ∈ wsJ5_inflateIfNeededFor_a7421 := sub_r [59, 60, 61, 62] (by decide +kernel)
set_option maxHeartbeats 4000000 in
set_option maxRecDepth 100000 in
theorem c_J5_inflateIfNeededFor_a7421 {G : wG} {l : Launch} {M : Mem} {sz : Nat} {this : Option Nat} {a1 : Option Nat} {r : Mem} (h : f_J5_inflateIfNeededFor_a7421 M this a1 = some r) : CtrV G l yJ5_inflateIfNeededFor_a7421 wsJ5_inflateIfNeededFor_a7421 rmJ5_inflateIfNeededFor_a7421 [va_rf this, va_rf a1] M sz r sz := by
  refine m_startV (own := RJ5) (cc := cJ5_inflateIfNeededFor_a7421) (maxL := 2) (lv0 := [(0, va_rf this), (1, va_rf a1)]) (by decide) rfl rfl (by simp [lg_sl, va_rf_cat, cat_i, cat_r]) (by simp [lv_args, va_rf_cat, cat_i, cat_r]) ?_
  intro p e s m args below meth c Q hC hname RET hsz hw ls hl
  have hx := hC.1
  have hb := hC.2.1
  unfold f_J5_inflateIfNeededFor_a7421 at h
  refine m_gets (v := .int 1) hC hw (by simp [evZ]) k_J5_inflateIfNeededFor_a7421_18 (fun _ z => z) dJ5_inflateIfNeededFor_a7421_0 ?_
  refine lv_if_eq (tgt := 21) hx hb dJ5_inflateIfNeededFor_a7421_3 (by decide) (fun c7 => ?_) (fun _ => ?_)
  · first | exact absurd c7 (by decide) | exact (c7 (by decide)).elim | exact absurd rfl c7 | cases c7
  · refine m_aload_n (x := this) hx hb dJ5_inflateIfNeededFor_a7421_6 rfl (lv_at hl 0 rfl) ?_
    obtain ⟨v1, hv1, h⟩ := ob h
    refine m_getI hC hw (C := RJ4) (T := TJ4) (N := 4) hv1 ki_J5_inflateIfNeededFor_a7421_J4 rfl (by decide) k_J5_inflateIfNeededFor_a7421_22 (fun _ z => z) dJ5_inflateIfNeededFor_a7421_7 ?_
    refine m_aload_n (x := a1) hx hb dJ5_inflateIfNeededFor_a7421_10 rfl (lv_at hl 1 rfl) ?_
    obtain ⟨g2, h⟩ := itg h
    obtain ⟨r3, hr3, h⟩ := ob h
    refine m_contI hC hw (m_runV hC hw (x := a1) (ci := 0) (N := 4) (C := RJ0) (T := TJ0) (n := 0) (av := []) (rest := [.int v1]) (c_J0_coder_7d493 (G := G) (l := l) hr3) gJ5_inflateIfNeededFor_a7421_J0_coder_7d493 rfl (by decide +kernel) ⟨(Nat.le_of_ble_eq_true rfl), (Nat.le_of_ble_eq_true rfl)⟩ g2 rfl rfl hl.1 rfl (Nat.le_of_ble_eq_true rfl) dJ5_inflateIfNeededFor_a7421_11 ⟨(Nat.zero_le _), (Nat.zero_le _)⟩) (fun H locs hw => ?_)
    refine lv_icmp_eq (tgt := 21) hx hb dJ5_inflateIfNeededFor_a7421_14 (by decide) (fun c4 => ?_) (fun c4 => ?_)
    · replace h := itt h c4
      replace h := Option.some.inj h
      subst h
      exact RET hw ⟨(Nat.zero_le _), (Nat.zero_le _)⟩ dJ5_inflateIfNeededFor_a7421_21
    · replace h := itf h c4
      refine m_aload_n (x := this) hx hb dJ5_inflateIfNeededFor_a7421_17 rfl (lv_at hl 0 rfl) ?_
      obtain ⟨g5, h⟩ := itg h
      obtain ⟨r6, hr6, h⟩ := ob h
      refine m_contV hC hw (m_runU hC hw (x := this) (ci := 1) (N := 4) (C := RJ4) (T := TJ4) (n := 0) (av := []) (rest := []) (c_J5_inflate_da8c8 (G := G) (l := l) hr6) gJ5_inflateIfNeededFor_a7421_J5_inflate_da8c8_u195J4 rfl rfl (by decide +kernel) ⟨(Nat.le_of_ble_eq_true rfl), (Nat.le_of_ble_eq_true rfl)⟩ g5 rfl rfl hl.1 rfl (Nat.le_of_ble_eq_true rfl) dJ5_inflateIfNeededFor_a7421_18 ⟨(Nat.zero_le _), (Nat.zero_le _)⟩) (fun H locs hw => ?_)
      replace h := Option.some.inj h
      subst h
      exact RET hw ⟨(Nat.zero_le _), (Nat.zero_le _)⟩ dJ5_inflateIfNeededFor_a7421_21

def f_J0_getBytes_840e7 (B : Nat) (M : Mem) (this : Option Nat) (a1 : Option Nat) (a2 : Int32) (a3 : Int32) : Option (Mem) := if isO M this 0 = true then ((f_J0_coder_7d493 M this).bind fun r2 => if r2 = a3 then ((gR M this 0 0).bind fun v8 => (gR M this 0 0).bind fun v9 => (aL M v9).bind fun v10 => (cB B M v8 (0 : Int32) a1 (a2 <<< (a3 &&& 31)) v10).bind fun M11 => some (M11)) else ((gR M this 0 0).bind fun v4 => (gR M this 0 0).bind fun v5 => (aL M v5).bind fun v6 => (f_J1_inflate_0e8fd M v4 (0 : Int32) a1 a2 v6).bind fun r7 => some (M))) else none
def rmJ0_getBytes_840e7 : Room := { frames := 1, cells := 0, slots := 0, locals := 60 }
theorem k_J0_getBytes_840e7_9 : Cond.fieldLink RJ0 9 "java/lang/String" "value" "[B" ∈ wsJ0_getBytes_840e7 := List.mem_of_getElem? (i := 1) rfl
theorem ki_J0_getBytes_840e7_J0 : ∀ w ∈ u_ws RJ0 TJ0 4, w ∈ wsJ0_getBytes_840e7 := sub_r [41, 42, 43, 44] (by decide +kernel)
theorem k_J0_getBytes_840e7_cp212_0 : Cond.methodLink RJ0 212 arraycopyName ∈ wsJ0_getBytes_840e7 := List.mem_of_getElem? (i := 2) rfl
theorem k_J0_getBytes_840e7_cp212_1 : Cond.native arraycopyName ∈ wsJ0_getBytes_840e7 := List.mem_of_getElem? (i := 3) rfl
theorem k_J0_getBytes_840e7_cp212_2 : Cond.static arraycopyName ∈ wsJ0_getBytes_840e7 := List.mem_of_getElem? (i := 4) rfl
theorem k_J0_getBytes_840e7_cp212_3 : Cond.initialized "java/lang/System" ∈ wsJ0_getBytes_840e7 := List.mem_of_getElem? (i := 5) rfl
set_option maxHeartbeats 4000000 in
set_option maxRecDepth 100000 in
theorem c_J0_getBytes_840e7 {G : wG} {l : Launch} {M : Mem} {sz : Nat} {this : Option Nat} {a1 : Option Nat} {a2 : Int32} {a3 : Int32} {r : Mem} (h : f_J0_getBytes_840e7 G.2.2.1 M this a1 a2 a3 = some r) : CtrV G l yJ0_getBytes_840e7 wsJ0_getBytes_840e7 rmJ0_getBytes_840e7 [va_rf this, va_rf a1, .int a2, .int a3] M sz r sz := by
  refine m_startV (own := RJ0) (cc := cJ0_getBytes_840e7) (maxL := 4) (lv0 := [(0, va_rf this), (1, va_rf a1), (2, .int a2), (3, .int a3)]) (by decide) rfl rfl (by simp [lg_sl, va_rf_cat, cat_i, cat_r]) (by simp [lv_args, va_rf_cat, cat_i, cat_r]) ?_
  intro p e s m args below meth c Q hC hname RET hsz hw ls hl
  have hx := hC.1
  have hb := hC.2.1
  unfold f_J0_getBytes_840e7 at h
  refine m_aload_n (x := this) hx hb dJ0_getBytes_840e7_0 rfl (lv_at hl 0 rfl) ?_
  obtain ⟨g1, h⟩ := itg h
  obtain ⟨r2, hr2, h⟩ := ob h
  refine m_contI hC hw (m_runV hC hw (x := this) (ci := 0) (N := 4) (C := RJ0) (T := TJ0) (n := 0) (av := []) (rest := []) (c_J0_coder_7d493 (G := G) (l := l) hr2) gJ0_getBytes_840e7_J0_coder_7d493 rfl (by decide +kernel) ⟨(Nat.le_of_ble_eq_true rfl), (Nat.le_of_ble_eq_true rfl)⟩ g1 rfl rfl hl.1 rfl (Nat.le_of_ble_eq_true rfl) dJ0_getBytes_840e7_1 ⟨(Nat.zero_le _), (Nat.zero_le _)⟩) (fun H locs hw => ?_)
  refine lv_iload_n hx hb dJ0_getBytes_840e7_4 rfl (lv_at hl 3 rfl) ?_
  refine lv_icmp_ne (tgt := 28) hx hb dJ0_getBytes_840e7_5 (by decide) (fun c3 => ?_) (fun c3 => ?_)
  · replace h := itf h c3
    refine m_aload_n (x := this) hx hb dJ0_getBytes_840e7_28 rfl (lv_at hl 0 rfl) ?_
    obtain ⟨v4, hv4, h⟩ := ob h
    refine m_getR hC hw (C := RJ0) (T := TJ0) (N := 4) hv4 ki_J0_getBytes_840e7_J0 rfl (by decide) k_J0_getBytes_840e7_9 (fun _ z => z) dJ0_getBytes_840e7_29 ?_
    refine lv_iconst (v := (0 : Int32)) hx hb dJ0_getBytes_840e7_32 (by decide) ?_
    refine m_aload_n (x := a1) hx hb dJ0_getBytes_840e7_33 rfl (lv_at hl 1 rfl) ?_
    refine lv_iload_n hx hb dJ0_getBytes_840e7_34 rfl (lv_at hl 2 rfl) ?_
    refine m_aload_n (x := this) hx hb dJ0_getBytes_840e7_35 rfl (lv_at hl 0 rfl) ?_
    obtain ⟨v5, hv5, h⟩ := ob h
    refine m_getR hC hw (C := RJ0) (T := TJ0) (N := 4) hv5 ki_J0_getBytes_840e7_J0 rfl (by decide) k_J0_getBytes_840e7_9 (fun _ z => z) dJ0_getBytes_840e7_36 ?_
    obtain ⟨v6, hv6, h⟩ := ob h
    refine m_alen (x := v5) hC hw hv6 dJ0_getBytes_840e7_39 ?_
    obtain ⟨r7, hr7, h⟩ := ob h
    refine m_contV hC hw (m_runS hC hw (n := 5) (av := [va_rf v4, .int (0 : Int32), va_rf a1, .int a2, .int v6]) (rest := []) (c_J1_inflate_0e8fd (G := G) (l := l) hr7) gJ0_getBytes_840e7_J1_inflate_0e8fd rfl (by decide +kernel) ⟨(Nat.le_of_ble_eq_true rfl), (Nat.le_of_ble_eq_true rfl)⟩ rfl hl.1 rfl (Nat.le_of_ble_eq_true rfl) dJ0_getBytes_840e7_40 ⟨(Nat.zero_le _), (Nat.zero_le _)⟩) (fun H locs hw => ?_)
    replace h := Option.some.inj h
    subst h
    exact RET hw ⟨(Nat.zero_le _), (Nat.zero_le _)⟩ dJ0_getBytes_840e7_43
  · replace h := itt h c3
    refine m_aload_n (x := this) hx hb dJ0_getBytes_840e7_8 rfl (lv_at hl 0 rfl) ?_
    obtain ⟨v8, hv8, h⟩ := ob h
    refine m_getR hC hw (C := RJ0) (T := TJ0) (N := 4) hv8 ki_J0_getBytes_840e7_J0 rfl (by decide) k_J0_getBytes_840e7_9 (fun _ z => z) dJ0_getBytes_840e7_9 ?_
    refine lv_iconst (v := (0 : Int32)) hx hb dJ0_getBytes_840e7_12 (by decide) ?_
    refine m_aload_n (x := a1) hx hb dJ0_getBytes_840e7_13 rfl (lv_at hl 1 rfl) ?_
    refine lv_iload_n hx hb dJ0_getBytes_840e7_14 rfl (lv_at hl 2 rfl) ?_
    refine lv_iload_n hx hb dJ0_getBytes_840e7_15 rfl (lv_at hl 3 rfl) ?_
    refine lv_ishl hx hb dJ0_getBytes_840e7_16 ?_
    refine m_aload_n (x := this) hx hb dJ0_getBytes_840e7_17 rfl (lv_at hl 0 rfl) ?_
    obtain ⟨v9, hv9, h⟩ := ob h
    refine m_getR hC hw (C := RJ0) (T := TJ0) (N := 4) hv9 ki_J0_getBytes_840e7_J0 rfl (by decide) k_J0_getBytes_840e7_9 (fun _ z => z) dJ0_getBytes_840e7_18 ?_
    obtain ⟨v10, hv10, h⟩ := ob h
    refine m_alen (x := v9) hC hw hv10 dJ0_getBytes_840e7_21 ?_
    obtain ⟨M11, hM11, h⟩ := ob h
    refine m_copyB (x := v8) (y := a1) hC hw hM11 k_J0_getBytes_840e7_cp212_0 k_J0_getBytes_840e7_cp212_1 k_J0_getBytes_840e7_cp212_2 k_J0_getBytes_840e7_cp212_3 hl.1 (Nat.le_of_ble_eq_true rfl) (Nat.le_of_ble_eq_true rfl) (Nat.le_of_ble_eq_true rfl) dJ0_getBytes_840e7_22 (fun H locs hw => ?_)
    refine lv_goto (tgt := 43) hx hb dJ0_getBytes_840e7_25 (by decide) ?_
    replace h := Option.some.inj h
    subst h
    exact RET hw ⟨(Nat.zero_le _), (Nat.zero_le _)⟩ dJ0_getBytes_840e7_43

def f_J5_putStringAt_47b60 (B : Nat) (M : Mem) (this : Option Nat) (a1 : Int32) (a2 : Option Nat) : Option (Mem) := if isO M this 1 = true then ((f_J5_inflateIfNeededFor_a7421 M this a2).bind fun r2 => (gR r2 this 1 0).bind fun v3 => (gI r2 this 1 1).bind fun v4 => if isO r2 a2 0 = true then ((f_J0_getBytes_840e7 B r2 a2 v3 a1 v4).bind fun r6 => some (r6)) else none) else none
def rmJ5_putStringAt_47b60 : Room := { frames := 3, cells := 0, slots := 0, locals := 83 }
theorem k_J5_putStringAt_47b60_15 : Cond.fieldLink RJ5 15 "java/lang/AbstractStringBuilder" "value" "[B" ∈ wsJ5_putStringAt_47b60 := List.mem_of_getElem? (i := 1) rfl
theorem ki_J5_putStringAt_47b60_J4 : ∀ w ∈ u_ws RJ4 TJ4 4, w ∈ wsJ5_putStringAt_47b60 := sub_r [75, 76, 77, 78] (by decide +kernel)
theorem k_J5_putStringAt_47b60_22 : Cond.fieldLink RJ5 22 "java/lang/AbstractStringBuilder" "coder" "B" ∈ wsJ5_putStringAt_47b60 := List.mem_of_getElem? (i := 2) rfl
set_option maxHeartbeats 4000000 in
set_option maxRecDepth 100000 in
theorem c_J5_putStringAt_47b60 {G : wG} {l : Launch} {M : Mem} {sz : Nat} {this : Option Nat} {a1 : Int32} {a2 : Option Nat} {r : Mem} (h : f_J5_putStringAt_47b60 G.2.2.1 M this a1 a2 = some r) : CtrV G l yJ5_putStringAt_47b60 wsJ5_putStringAt_47b60 rmJ5_putStringAt_47b60 [va_rf this, .int a1, va_rf a2] M sz r sz := by
  refine m_startV (own := RJ5) (cc := cJ5_putStringAt_47b60) (maxL := 3) (lv0 := [(0, va_rf this), (1, .int a1), (2, va_rf a2)]) (by decide) rfl rfl (by simp [lg_sl, va_rf_cat, cat_i, cat_r]) (by simp [lv_args, va_rf_cat, cat_i, cat_r]) ?_
  intro p e s m args below meth c Q hC hname RET hsz hw ls hl
  have hx := hC.1
  have hb := hC.2.1
  unfold f_J5_putStringAt_47b60 at h
  refine m_aload_n (x := this) hx hb dJ5_putStringAt_47b60_0 rfl (lv_at hl 0 rfl) ?_
  refine m_aload_n (x := a2) hx hb dJ5_putStringAt_47b60_1 rfl (lv_at hl 2 rfl) ?_
  obtain ⟨g1, h⟩ := itg h
  obtain ⟨r2, hr2, h⟩ := ob h
  refine m_contV hC hw (m_runU hC hw (x := this) (ci := 1) (N := 4) (C := RJ4) (T := TJ4) (n := 1) (av := [va_rf a2]) (rest := []) (c_J5_inflateIfNeededFor_a7421 (G := G) (l := l) hr2) gJ5_putStringAt_47b60_J5_inflateIfNeededFor_a7421_u397J4 rfl rfl (by decide +kernel) ⟨(Nat.le_of_ble_eq_true rfl), (Nat.le_of_ble_eq_true rfl)⟩ g1 rfl rfl hl.1 rfl (Nat.le_of_ble_eq_true rfl) dJ5_putStringAt_47b60_2 ⟨(Nat.zero_le _), (Nat.zero_le _)⟩) (fun H locs hw => ?_)
  refine m_aload_n (x := a2) hx hb dJ5_putStringAt_47b60_5 rfl (lv_at hl 2 rfl) ?_
  refine m_aload_n (x := this) hx hb dJ5_putStringAt_47b60_6 rfl (lv_at hl 0 rfl) ?_
  obtain ⟨v3, hv3, h⟩ := ob h
  refine m_getR hC hw (C := RJ4) (T := TJ4) (N := 4) hv3 ki_J5_putStringAt_47b60_J4 rfl (by decide) k_J5_putStringAt_47b60_15 (fun _ z => z) dJ5_putStringAt_47b60_7 ?_
  refine lv_iload_n hx hb dJ5_putStringAt_47b60_10 rfl (lv_at hl 1 rfl) ?_
  refine m_aload_n (x := this) hx hb dJ5_putStringAt_47b60_11 rfl (lv_at hl 0 rfl) ?_
  obtain ⟨v4, hv4, h⟩ := ob h
  refine m_getI hC hw (C := RJ4) (T := TJ4) (N := 4) hv4 ki_J5_putStringAt_47b60_J4 rfl (by decide) k_J5_putStringAt_47b60_22 (fun _ z => z) dJ5_putStringAt_47b60_12 ?_
  obtain ⟨g5, h⟩ := itg h
  obtain ⟨r6, hr6, h⟩ := ob h
  refine m_contV hC hw (m_runV hC hw (x := a2) (ci := 0) (N := 4) (C := RJ0) (T := TJ0) (n := 3) (av := [va_rf v3, .int a1, .int v4]) (rest := []) (c_J0_getBytes_840e7 (G := G) (l := l) hr6) gJ5_putStringAt_47b60_J0_getBytes_840e7 rfl (by decide +kernel) ⟨(Nat.le_of_ble_eq_true rfl), (Nat.le_of_ble_eq_true rfl)⟩ g5 rfl rfl hl.1 rfl (Nat.le_of_ble_eq_true rfl) dJ5_putStringAt_47b60_15 ⟨(Nat.zero_le _), (Nat.zero_le _)⟩) (fun H locs hw => ?_)
  replace h := Option.some.inj h
  subst h
  exact RET hw ⟨(Nat.zero_le _), (Nat.zero_le _)⟩ dJ5_putStringAt_47b60_18

def f_J5_append_cf1ce (B : Nat) (M : Mem) (sz : Nat) (this : Option Nat) (a1 : Option Nat) : Option (Option Nat × Mem × Nat) := if a1 = none then (if isO M this 1 = true then ((f_J5_appendNull_278bc B M sz this).bind fun r13 => some (r13.1, r13.2.1, r13.2.2)) else none) else (if isO M a1 0 = true then ((f_J0_length_8abf5 M a1).bind fun r3 => (gI M this 1 3).bind fun v4 => if isO M this 1 = true then ((f_J5_ensureCapacityInternal_d00df B M sz this (v4 + r3)).bind fun r6 => (gI r6.1 this 1 3).bind fun v7 => if isO r6.1 this 1 = true then ((f_J5_putStringAt_47b60 B r6.1 this v7 a1).bind fun r9 => (gI r9 this 1 3).bind fun v10 => (pF B r9 this 1 3 (.int (v10 + r3))).bind fun M11 => some (this, M11, r6.2)) else none) else none) else none)
def rmJ5_append_cf1ce : Room := { frames := 5, cells := 1, slots := 300, locals := 126 }
theorem k_J5_append_cf1ce_79 : Cond.fieldLink RJ5 79 "java/lang/AbstractStringBuilder" "count" "I" ∈ wsJ5_append_cf1ce := List.mem_of_getElem? (i := 1) rfl
theorem ki_J5_append_cf1ce_J4 : ∀ w ∈ u_ws RJ4 TJ4 4, w ∈ wsJ5_append_cf1ce := sub_r [138, 139, 140, 141] (by decide +kernel)
set_option maxHeartbeats 4000000 in
set_option maxRecDepth 100000 in
theorem c_J5_append_cf1ce {G : wG} {l : Launch} {M : Mem} {sz : Nat} {this : Option Nat} {a1 : Option Nat} {r : Option Nat × Mem × Nat} (h : f_J5_append_cf1ce G.2.2.1 M sz this a1 = some r) : CtrQ G l yJ5_append_cf1ce wsJ5_append_cf1ce rmJ5_append_cf1ce [va_rf this, va_rf a1] M sz r.1 r.2.1 r.2.2 := by
  refine m_startQ (own := RJ5) (cc := cJ5_append_cf1ce) (maxL := 3) (lv0 := [(0, va_rf this), (1, va_rf a1)]) (by decide) rfl rfl (by simp [lg_sl, va_rf_cat, cat_i, cat_r]) (by simp [lv_args, va_rf_cat, cat_i, cat_r]) (Or.inl ⟨_, rfl⟩) ?_
  intro p e s m args below meth c Q hC hname RET hsz hw ls hl
  have hx := hC.1
  have hb := hC.2.1
  unfold f_J5_append_cf1ce at h
  refine m_aload_n (x := a1) hx hb dJ5_append_cf1ce_0 rfl (lv_at hl 1 rfl) ?_
  refine m_ifnonnull (x := a1) (tgt := 9) hx hb dJ5_append_cf1ce_1 (by decide) (fun c1 => ?_) (fun c1 => ?_)
  · replace h := itf h c1
    refine m_aload_n (x := a1) hx hb dJ5_append_cf1ce_9 rfl (lv_at hl 1 rfl) ?_
    obtain ⟨g2, h⟩ := itg h
    obtain ⟨r3, hr3, h⟩ := ob h
    refine m_contI hC hw (m_runV hC hw (x := a1) (ci := 0) (N := 4) (C := RJ0) (T := TJ0) (n := 0) (av := []) (rest := []) (c_J0_length_8abf5 (G := G) (l := l) hr3) gJ5_append_cf1ce_J0_length_8abf5 rfl (by decide +kernel) ⟨(Nat.le_of_ble_eq_true rfl), (Nat.le_of_ble_eq_true rfl)⟩ g2 rfl rfl hl.1 rfl (Nat.le_of_ble_eq_true rfl) dJ5_append_cf1ce_10 ⟨(Nat.zero_le _), (Nat.zero_le _)⟩) (fun H locs hw => ?_)
    refine lv_istore_n (i := 2) (lv' := [(2, .int r3), (0, va_rf this), (1, va_rf a1)]) hx hb dJ5_append_cf1ce_13 rfl hl (by decide) (by simp [va_rf_cat, cat_i, cat_l]) (fun ls hl => ?_)
    refine m_aload_n (x := this) hx hb dJ5_append_cf1ce_14 rfl (lv_at hl 1 rfl) ?_
    refine m_aload_n (x := this) hx hb dJ5_append_cf1ce_15 rfl (lv_at hl 1 rfl) ?_
    obtain ⟨v4, hv4, h⟩ := ob h
    refine m_getI hC hw (C := RJ4) (T := TJ4) (N := 4) hv4 ki_J5_append_cf1ce_J4 rfl (by decide) k_J5_append_cf1ce_79 (fun _ z => z) dJ5_append_cf1ce_16 ?_
    refine lv_iload_n hx hb dJ5_append_cf1ce_19 rfl (lv_at hl 0 rfl) ?_
    refine lv_iadd hx hb dJ5_append_cf1ce_20 ?_
    obtain ⟨g5, h⟩ := itg h
    obtain ⟨r6, hr6, h⟩ := ob h
    refine m_contV hC hw (m_runU hC hw (x := this) (ci := 1) (N := 4) (C := RJ4) (T := TJ4) (n := 1) (av := [.int (v4 + r3)]) (rest := []) (c_J5_ensureCapacityInternal_d00df (G := G) (l := l) hr6) gJ5_append_cf1ce_J5_ensureCapacityInternal_d00df_u100J4 rfl rfl (by decide +kernel) ⟨(Nat.le_of_ble_eq_true rfl), (Nat.le_of_ble_eq_true rfl)⟩ g5 rfl rfl hl.1 rfl (Nat.le_of_ble_eq_true rfl) dJ5_append_cf1ce_21 ⟨(Nat.le_of_ble_eq_true rfl), (Nat.le_of_ble_eq_true rfl)⟩) (fun H locs hw => ?_)
    refine m_aload_n (x := this) hx hb dJ5_append_cf1ce_24 rfl (lv_at hl 1 rfl) ?_
    refine m_aload_n (x := this) hx hb dJ5_append_cf1ce_25 rfl (lv_at hl 1 rfl) ?_
    obtain ⟨v7, hv7, h⟩ := ob h
    refine m_getI hC hw (C := RJ4) (T := TJ4) (N := 4) hv7 ki_J5_append_cf1ce_J4 rfl (by decide) k_J5_append_cf1ce_79 (fun _ z => z) dJ5_append_cf1ce_26 ?_
    refine m_aload_n (x := a1) hx hb dJ5_append_cf1ce_29 rfl (lv_at hl 2 rfl) ?_
    obtain ⟨g8, h⟩ := itg h
    obtain ⟨r9, hr9, h⟩ := ob h
    refine m_contV hC hw (m_runU hC hw (x := this) (ci := 1) (N := 4) (C := RJ4) (T := TJ4) (n := 2) (av := [.int v7, va_rf a1]) (rest := []) (c_J5_putStringAt_47b60 (G := G) (l := l) hr9) gJ5_append_cf1ce_J5_putStringAt_47b60_u208J4 rfl rfl (by decide +kernel) ⟨(Nat.le_of_ble_eq_true rfl), (Nat.le_of_ble_eq_true rfl)⟩ g8 rfl rfl hl.1 rfl (Nat.le_of_ble_eq_true rfl) dJ5_append_cf1ce_30 ⟨(Nat.le_of_ble_eq_true rfl), (Nat.le_of_ble_eq_true rfl)⟩) (fun H locs hw => ?_)
    refine m_aload_n (x := this) hx hb dJ5_append_cf1ce_33 rfl (lv_at hl 1 rfl) ?_
    refine m_dup (x := this) hx hb dJ5_append_cf1ce_34 ?_
    obtain ⟨v10, hv10, h⟩ := ob h
    refine m_getI hC hw (C := RJ4) (T := TJ4) (N := 4) hv10 ki_J5_append_cf1ce_J4 rfl (by decide) k_J5_append_cf1ce_79 (fun _ z => z) dJ5_append_cf1ce_35 ?_
    refine lv_iload_n hx hb dJ5_append_cf1ce_38 rfl (lv_at hl 0 rfl) ?_
    refine lv_iadd hx hb dJ5_append_cf1ce_39 ?_
    obtain ⟨M11, hM11, h⟩ := ob h
    refine m_put hC hw (C := RJ4) (T := TJ4) (N := 4) (x := this) hM11 ki_J5_append_cf1ce_J4 tyJ4 tyJ4_ok nmJ4 rfl (by decide) k_J5_append_cf1ce_79 (fun _ z => z) rfl rfl rfl dJ5_append_cf1ce_40 (fun H locs hw => ?_)
    refine m_aload_n (x := this) hx hb dJ5_append_cf1ce_43 rfl (lv_at hl 1 rfl) ?_
    replace h := Option.some.inj h
    subst h
    exact RET hw ⟨(Nat.le_of_ble_eq_true rfl), (Nat.le_of_ble_eq_true rfl)⟩ dJ5_append_cf1ce_44
  · replace h := itt h c1
    refine m_aload_n (x := this) hx hb dJ5_append_cf1ce_4 rfl (lv_at hl 0 rfl) ?_
    obtain ⟨g12, h⟩ := itg h
    obtain ⟨r13, hr13, h⟩ := ob h
    refine m_contQ hC hw (m_runU hC hw (x := this) (ci := 1) (N := 4) (C := RJ4) (T := TJ4) (n := 0) (av := []) (rest := []) (c_J5_appendNull_278bc (G := G) (l := l) hr13) gJ5_append_cf1ce_J5_appendNull_278bc_u204J4 rfl rfl (by decide +kernel) ⟨(Nat.le_of_ble_eq_true rfl), (Nat.le_of_ble_eq_true rfl)⟩ g12 rfl rfl hl.1 rfl (Nat.le_of_ble_eq_true rfl) dJ5_append_cf1ce_5 ⟨(Nat.le_of_ble_eq_true rfl), (Nat.le_of_ble_eq_true rfl)⟩) (fun H locs hw => ?_)
    replace h := Option.some.inj h
    subst h
    exact RET hw ⟨(Nat.le_of_ble_eq_true rfl), (Nat.le_of_ble_eq_true rfl)⟩ dJ5_append_cf1ce_8

def f_J4_append_15ec4 (B : Nat) (M : Mem) (sz : Nat) (this : Option Nat) (a1 : Option Nat) : Option (Option Nat × Mem × Nat) := if this ≠ none then (if isO M this 1 = true then ((f_J5_append_cf1ce B M sz this a1).bind fun r2 => some (this, r2.2.1, r2.2.2)) else none) else none
def rmJ4_append_15ec4 : Room := { frames := 6, cells := 1, slots := 300, locals := 148 }
set_option maxHeartbeats 4000000 in
set_option maxRecDepth 100000 in
theorem c_J4_append_15ec4 {G : wG} {l : Launch} {M : Mem} {sz : Nat} {this : Option Nat} {a1 : Option Nat} {r : Option Nat × Mem × Nat} (h : f_J4_append_15ec4 G.2.2.1 M sz this a1 = some r) : CtrQ G l yJ4_append_15ec4 wsJ4_append_15ec4 rmJ4_append_15ec4 [va_rf this, va_rf a1] M sz r.1 r.2.1 r.2.2 := by
  refine m_startQ (own := RJ4) (cc := cJ4_append_15ec4) (maxL := 2) (lv0 := [(0, va_rf this), (1, va_rf a1)]) (by decide) rfl rfl (by simp [lg_sl, va_rf_cat, cat_i, cat_r]) (by simp [lv_args, va_rf_cat, cat_i, cat_r]) (Or.inl ⟨_, rfl⟩) ?_
  intro p e s m args below meth c Q hC hname RET hsz hw ls hl
  have hx := hC.1
  have hb := hC.2.1
  unfold f_J4_append_15ec4 at h
  refine m_aload_n (x := this) hx hb dJ4_append_15ec4_0 rfl (lv_at hl 0 rfl) ?_
  refine m_aload_n (x := a1) hx hb dJ4_append_15ec4_1 rfl (lv_at hl 1 rfl) ?_
  obtain ⟨g1, h⟩ := itg h
  obtain ⟨g3, h⟩ := itg h
  obtain ⟨r2, hr2, h⟩ := ob h
  refine m_contQ hC hw (m_runSU hC hw (x := this) (ci := 1) (N := 4) (C := RJ4) (T := TJ4) (n := 1) (av := [va_rf a1]) (rest := []) (c_J5_append_cf1ce (G := G) (l := l) hr2) gJ4_append_15ec4_J5_append_cf1ce_s29 rfl (by decide +kernel) ⟨(Nat.le_of_ble_eq_true rfl), (Nat.le_of_ble_eq_true rfl)⟩ g3 rfl rfl hl.1 rfl (Nat.le_of_ble_eq_true rfl) dJ4_append_15ec4_2 ⟨(Nat.le_of_ble_eq_true rfl), (Nat.le_of_ble_eq_true rfl)⟩) (fun H locs hw => ?_)
  refine lv_pop hx hb dJ4_append_15ec4_5 (va_rf_cat _) ?_
  refine m_aload_n (x := this) hx hb dJ4_append_15ec4_6 rfl (lv_at hl 0 rfl) ?_
  replace h := Option.some.inj h
  subst h
  exact RET hw ⟨(Nat.le_of_ble_eq_true rfl), (Nat.le_of_ble_eq_true rfl)⟩ dJ4_append_15ec4_7

def f_J1_canEncode_fc78d (M : Mem) (a1 : Int32) : Option (Int32) := if (255 : Int32) < a1 then (some (0 : Int32)) else (some (1 : Int32))
def rmJ1_canEncode_fc78d : Room := { frames := 0, cells := 0, slots := 0, locals := 0 }
set_option maxHeartbeats 4000000 in
set_option maxRecDepth 100000 in
theorem c_J1_canEncode_fc78d {G : wG} {l : Launch} {M : Mem} {sz : Nat} {a1 : Int32} {r : Int32} (h : f_J1_canEncode_fc78d M a1 = some r) : CtrI G l yJ1_canEncode_fc78d wsJ1_canEncode_fc78d rmJ1_canEncode_fc78d [.int a1] M sz r M sz := by
  refine m_startZ (own := RJ1) (cc := cJ1_canEncode_fc78d) (maxL := 1) (lv0 := [(0, .int a1)]) (by decide) rfl rfl (by simp [lg_sl, va_rf_cat, cat_i, cat_r]) (by simp [lv_args, va_rf_cat, cat_i, cat_r]) ?_
  intro p e s m args below meth c Q hC hname RET hsz hw ls hl
  have hx := hC.1
  have hb := hC.2.1
  unfold f_J1_canEncode_fc78d at h
  refine lv_iload_n hx hb dJ1_canEncode_fc78d_0 rfl (lv_at hl 0 rfl) ?_
  refine lv_sipush (v := (255 : Int32)) hx hb dJ1_canEncode_fc78d_1 (by decide) ?_
  refine lv_icmp_gt (tgt := 11) hx hb dJ1_canEncode_fc78d_4 (by decide) (fun c1 => ?_) (fun c1 => ?_)
  · replace h := itt h c1
    refine lv_iconst (v := (0 : Int32)) hx hb dJ1_canEncode_fc78d_11 (by decide) ?_
    replace h := Option.some.inj h
    subst h
    exact RET (isZ.nar (Or.inl rfl)) hw ⟨(Nat.zero_le _), (Nat.zero_le _)⟩ dJ1_canEncode_fc78d_12
  · replace h := itf h c1
    refine lv_iconst (v := (1 : Int32)) hx hb dJ1_canEncode_fc78d_7 (by decide) ?_
    refine lv_goto (tgt := 12) hx hb dJ1_canEncode_fc78d_8 (by decide) ?_
    replace h := Option.some.inj h
    subst h
    exact RET (isZ.nar (Or.inr rfl)) hw ⟨(Nat.zero_le _), (Nat.zero_le _)⟩ dJ1_canEncode_fc78d_12

def f_J5_append_3fe6f (B : Nat) (M : Mem) (sz : Nat) (this : Option Nat) (a1 : Int32) : Option (Option Nat × Mem × Nat) := (gI M this 1 3).bind fun v1 => if isO M this 1 = true then ((f_J5_ensureCapacityInternal_d00df B M sz this (v1 + (1 : Int32))).bind fun r3 => if isO r3.1 this 1 = true then ((f_J5_isLatin1_aae02 r3.1 this).bind fun r5 => if r5 = 0 then (if isO r3.1 this 1 = true then ((f_J5_isLatin1_aae02 r3.1 this).bind fun r8 => ((if r8 = 0 then (some (r3.1)) else (if isO r3.1 this 1 = true then ((f_J5_inflate_da8c8 r3.1 this).bind fun r12 => some (r12)) else none)) : Option (Mem)).bind fun o13 => (gR o13 this 1 0).bind fun v14 => (gI o13 this 1 3).bind fun v15 => (pF B o13 this 1 3 (.int (v15 + (1 : Int32)))).bind fun M16 => none) else none) else ((f_J1_canEncode_fc78d r3.1 a1).bind fun r17 => if r17 = 0 then (if isO r3.1 this 1 = true then ((f_J5_isLatin1_aae02 r3.1 this).bind fun r20 => ((if r20 = 0 then (some (r3.1)) else (if isO r3.1 this 1 = true then ((f_J5_inflate_da8c8 r3.1 this).bind fun r24 => some (r24)) else none)) : Option (Mem)).bind fun o25 => (gR o25 this 1 0).bind fun v26 => (gI o25 this 1 3).bind fun v27 => (pF B o25 this 1 3 (.int (v27 + (1 : Int32)))).bind fun M28 => none) else none) else ((gR r3.1 this 1 0).bind fun v29 => (gI r3.1 this 1 3).bind fun v30 => (pF B r3.1 this 1 3 (.int (v30 + (1 : Int32)))).bind fun M31 => (sI B M31 1 v29 v30 (a1).toInt8.toInt32).bind fun M32 => some (this, M32, r3.2)))) else none) else none
def rmJ5_append_3fe6f : Room := { frames := 4, cells := 1, slots := 300, locals := 104 }
theorem k_J5_append_3fe6f_79 : Cond.fieldLink RJ5 79 "java/lang/AbstractStringBuilder" "count" "I" ∈ wsJ5_append_3fe6f := List.mem_of_getElem? (i := 1) rfl
theorem ki_J5_append_3fe6f_J4 : ∀ w ∈ u_ws RJ4 TJ4 4, w ∈ wsJ5_append_3fe6f := sub_r [108, 109, 110, 111] (by decide +kernel)
theorem k_J5_append_3fe6f_15 : Cond.fieldLink RJ5 15 "java/lang/AbstractStringBuilder" "value" "[B" ∈ wsJ5_append_3fe6f := List.mem_of_getElem? (i := 2) rfl
set_option maxHeartbeats 4000000 in
set_option maxRecDepth 100000 in
theorem c_J5_append_3fe6f {G : wG} {l : Launch} {M : Mem} {sz : Nat} {this : Option Nat} {a1 : Int32} {r : Option Nat × Mem × Nat} (h : f_J5_append_3fe6f G.2.2.1 M sz this a1 = some r) : CtrQ G l yJ5_append_3fe6f wsJ5_append_3fe6f rmJ5_append_3fe6f [va_rf this, .int a1] M sz r.1 r.2.1 r.2.2 := by
  refine m_startQ (own := RJ5) (cc := cJ5_append_3fe6f) (maxL := 2) (lv0 := [(0, va_rf this), (1, .int a1)]) (by decide) rfl rfl (by simp [lg_sl, va_rf_cat, cat_i, cat_r]) (by simp [lv_args, va_rf_cat, cat_i, cat_r]) (Or.inl ⟨_, rfl⟩) ?_
  intro p e s m args below meth c Q hC hname RET hsz hw ls hl
  have hx := hC.1
  have hb := hC.2.1
  unfold f_J5_append_3fe6f at h
  refine m_aload_n (x := this) hx hb dJ5_append_3fe6f_0 rfl (lv_at hl 0 rfl) ?_
  refine m_aload_n (x := this) hx hb dJ5_append_3fe6f_1 rfl (lv_at hl 0 rfl) ?_
  obtain ⟨v1, hv1, h⟩ := ob h
  refine m_getI hC hw (C := RJ4) (T := TJ4) (N := 4) hv1 ki_J5_append_3fe6f_J4 rfl (by decide) k_J5_append_3fe6f_79 (fun _ z => z) dJ5_append_3fe6f_2 ?_
  refine lv_iconst (v := (1 : Int32)) hx hb dJ5_append_3fe6f_5 (by decide) ?_
  refine lv_iadd hx hb dJ5_append_3fe6f_6 ?_
  obtain ⟨g2, h⟩ := itg h
  obtain ⟨r3, hr3, h⟩ := ob h
  refine m_contV hC hw (m_runU hC hw (x := this) (ci := 1) (N := 4) (C := RJ4) (T := TJ4) (n := 1) (av := [.int (v1 + (1 : Int32))]) (rest := []) (c_J5_ensureCapacityInternal_d00df (G := G) (l := l) hr3) gJ5_append_3fe6f_J5_ensureCapacityInternal_d00df_u100J4 rfl rfl (by decide +kernel) ⟨(Nat.le_of_ble_eq_true rfl), (Nat.le_of_ble_eq_true rfl)⟩ g2 rfl rfl hl.1 rfl (Nat.le_of_ble_eq_true rfl) dJ5_append_3fe6f_7 ⟨(Nat.le_of_ble_eq_true rfl), (Nat.le_of_ble_eq_true rfl)⟩) (fun H locs hw => ?_)
  refine m_aload_n (x := this) hx hb dJ5_append_3fe6f_10 rfl (lv_at hl 0 rfl) ?_
  obtain ⟨g4, h⟩ := itg h
  obtain ⟨r5, hr5, h⟩ := ob h
  refine m_contI hC hw (m_runU hC hw (x := this) (ci := 1) (N := 4) (C := RJ4) (T := TJ4) (n := 0) (av := []) (rest := []) (c_J5_isLatin1_aae02 (G := G) (l := l) hr5) gJ5_append_3fe6f_J5_isLatin1_aae02_u83J4 rfl rfl (by decide +kernel) ⟨(Nat.le_of_ble_eq_true rfl), (Nat.le_of_ble_eq_true rfl)⟩ g4 rfl rfl hl.1 rfl (Nat.le_of_ble_eq_true rfl) dJ5_append_3fe6f_11 ⟨(Nat.le_of_ble_eq_true rfl), (Nat.le_of_ble_eq_true rfl)⟩) (fun H locs hw => ?_)
  refine lv_if_eq (tgt := 45) hx hb dJ5_append_3fe6f_14 (by decide) (fun c6 => ?_) (fun c6 => ?_)
  · replace h := itt h c6
    refine m_aload_n (x := this) hx hb dJ5_append_3fe6f_45 rfl (lv_at hl 0 rfl) ?_
    obtain ⟨g7, h⟩ := itg h
    obtain ⟨r8, hr8, h⟩ := ob h
    refine m_contI hC hw (m_runU hC hw (x := this) (ci := 1) (N := 4) (C := RJ4) (T := TJ4) (n := 0) (av := []) (rest := []) (c_J5_isLatin1_aae02 (G := G) (l := l) hr8) gJ5_append_3fe6f_J5_isLatin1_aae02_u83J4 rfl rfl (by decide +kernel) ⟨(Nat.le_of_ble_eq_true rfl), (Nat.le_of_ble_eq_true rfl)⟩ g7 rfl rfl hl.1 rfl (Nat.le_of_ble_eq_true rfl) dJ5_append_3fe6f_46 ⟨(Nat.le_of_ble_eq_true rfl), (Nat.le_of_ble_eq_true rfl)⟩) (fun H locs hw => ?_)
    obtain ⟨o13, ho13, h⟩ := ob h
    have J9 : ∀ (H : Heap) (locs : List Loc) (ls : Array Slot), wD G s M o13 r3.2 H locs → lv_has ls 2 [(0, va_rf this), (1, .int a1)] → W p l e rmJ5_append_3fe6f s m args below meth c H locs 1 300 Q (F0 m 56 ls []) := by
      intro H locs ls hw hl
      refine m_aload_n (x := this) hx hb dJ5_append_3fe6f_56 rfl (lv_at hl 0 rfl) ?_
      obtain ⟨v14, hv14, h⟩ := ob h
      refine m_getR hC hw (C := RJ4) (T := TJ4) (N := 4) hv14 ki_J5_append_3fe6f_J4 rfl (by decide) k_J5_append_3fe6f_15 (fun _ z => z) dJ5_append_3fe6f_57 ?_
      refine m_aload_n (x := this) hx hb dJ5_append_3fe6f_60 rfl (lv_at hl 0 rfl) ?_
      refine m_dup (x := this) hx hb dJ5_append_3fe6f_61 ?_
      obtain ⟨v15, hv15, h⟩ := ob h
      refine m_getI hC hw (C := RJ4) (T := TJ4) (N := 4) hv15 ki_J5_append_3fe6f_J4 rfl (by decide) k_J5_append_3fe6f_79 (fun _ z => z) dJ5_append_3fe6f_62 ?_
      refine lv_dup_x1 hx hb dJ5_append_3fe6f_65 rfl (va_rf_cat _) ?_
      refine lv_iconst (v := (1 : Int32)) hx hb dJ5_append_3fe6f_66 (by decide) ?_
      refine lv_iadd hx hb dJ5_append_3fe6f_67 ?_
      obtain ⟨M16, hM16, h⟩ := ob h
      refine m_put hC hw (C := RJ4) (T := TJ4) (N := 4) (x := this) hM16 ki_J5_append_3fe6f_J4 tyJ4 tyJ4_ok nmJ4 rfl (by decide) k_J5_append_3fe6f_79 (fun _ z => z) rfl rfl rfl dJ5_append_3fe6f_68 (fun H locs hw => ?_)
      refine lv_iload_n hx hb dJ5_append_3fe6f_71 rfl (lv_at hl 1 rfl) ?_
      cases h
    clear h
    replace h := ho13
    refine lv_if_eq (tgt := 56) hx hb dJ5_append_3fe6f_49 (by decide) (fun c10 => ?_) (fun c10 => ?_)
    · replace h := itt h c10
      replace h := Option.some.inj h
      subst h
      refine W.widen (k := 1) (n := 300) (Nat.le_of_ble_eq_true rfl) (Nat.le_of_ble_eq_true rfl) ?_
      exact J9 _ _ _ hw (lv_sub hl [0, 1] rfl)
    · replace h := itf h c10
      refine m_aload_n (x := this) hx hb dJ5_append_3fe6f_52 rfl (lv_at hl 0 rfl) ?_
      obtain ⟨g11, h⟩ := itg h
      obtain ⟨r12, hr12, h⟩ := ob h
      refine m_contV hC hw (m_runU hC hw (x := this) (ci := 1) (N := 4) (C := RJ4) (T := TJ4) (n := 0) (av := []) (rest := []) (c_J5_inflate_da8c8 (G := G) (l := l) hr12) gJ5_append_3fe6f_J5_inflate_da8c8_u195J4 rfl rfl (by decide +kernel) ⟨(Nat.le_of_ble_eq_true rfl), (Nat.le_of_ble_eq_true rfl)⟩ g11 rfl rfl hl.1 rfl (Nat.le_of_ble_eq_true rfl) dJ5_append_3fe6f_53 ⟨(Nat.le_of_ble_eq_true rfl), (Nat.le_of_ble_eq_true rfl)⟩) (fun H locs hw => ?_)
      replace h := Option.some.inj h
      subst h
      refine W.widen (k := 1) (n := 300) (Nat.le_of_ble_eq_true rfl) (Nat.le_of_ble_eq_true rfl) ?_
      exact J9 _ _ _ hw (lv_sub hl [0, 1] rfl)
  · replace h := itf h c6
    refine lv_iload_n hx hb dJ5_append_3fe6f_17 rfl (lv_at hl 1 rfl) ?_
    obtain ⟨r17, hr17, h⟩ := ob h
    refine m_contI hC hw (m_runS hC hw (n := 1) (av := [.int a1]) (rest := []) (c_J1_canEncode_fc78d (G := G) (l := l) hr17) gJ5_append_3fe6f_J1_canEncode_fc78d rfl (by decide +kernel) ⟨(Nat.le_of_ble_eq_true rfl), (Nat.le_of_ble_eq_true rfl)⟩ rfl hl.1 rfl (Nat.le_of_ble_eq_true rfl) dJ5_append_3fe6f_18 ⟨(Nat.le_of_ble_eq_true rfl), (Nat.le_of_ble_eq_true rfl)⟩) (fun H locs hw => ?_)
    refine lv_if_eq (tgt := 45) hx hb dJ5_append_3fe6f_21 (by decide) (fun c18 => ?_) (fun c18 => ?_)
    · replace h := itt h c18
      refine m_aload_n (x := this) hx hb dJ5_append_3fe6f_45 rfl (lv_at hl 0 rfl) ?_
      obtain ⟨g19, h⟩ := itg h
      obtain ⟨r20, hr20, h⟩ := ob h
      refine m_contI hC hw (m_runU hC hw (x := this) (ci := 1) (N := 4) (C := RJ4) (T := TJ4) (n := 0) (av := []) (rest := []) (c_J5_isLatin1_aae02 (G := G) (l := l) hr20) gJ5_append_3fe6f_J5_isLatin1_aae02_u83J4 rfl rfl (by decide +kernel) ⟨(Nat.le_of_ble_eq_true rfl), (Nat.le_of_ble_eq_true rfl)⟩ g19 rfl rfl hl.1 rfl (Nat.le_of_ble_eq_true rfl) dJ5_append_3fe6f_46 ⟨(Nat.le_of_ble_eq_true rfl), (Nat.le_of_ble_eq_true rfl)⟩) (fun H locs hw => ?_)
      obtain ⟨o25, ho25, h⟩ := ob h
      have J21 : ∀ (H : Heap) (locs : List Loc) (ls : Array Slot), wD G s M o25 r3.2 H locs → lv_has ls 2 [(0, va_rf this), (1, .int a1)] → W p l e rmJ5_append_3fe6f s m args below meth c H locs 1 300 Q (F0 m 56 ls []) := by
        intro H locs ls hw hl
        refine m_aload_n (x := this) hx hb dJ5_append_3fe6f_56 rfl (lv_at hl 0 rfl) ?_
        obtain ⟨v26, hv26, h⟩ := ob h
        refine m_getR hC hw (C := RJ4) (T := TJ4) (N := 4) hv26 ki_J5_append_3fe6f_J4 rfl (by decide) k_J5_append_3fe6f_15 (fun _ z => z) dJ5_append_3fe6f_57 ?_
        refine m_aload_n (x := this) hx hb dJ5_append_3fe6f_60 rfl (lv_at hl 0 rfl) ?_
        refine m_dup (x := this) hx hb dJ5_append_3fe6f_61 ?_
        obtain ⟨v27, hv27, h⟩ := ob h
        refine m_getI hC hw (C := RJ4) (T := TJ4) (N := 4) hv27 ki_J5_append_3fe6f_J4 rfl (by decide) k_J5_append_3fe6f_79 (fun _ z => z) dJ5_append_3fe6f_62 ?_
        refine lv_dup_x1 hx hb dJ5_append_3fe6f_65 rfl (va_rf_cat _) ?_
        refine lv_iconst (v := (1 : Int32)) hx hb dJ5_append_3fe6f_66 (by decide) ?_
        refine lv_iadd hx hb dJ5_append_3fe6f_67 ?_
        obtain ⟨M28, hM28, h⟩ := ob h
        refine m_put hC hw (C := RJ4) (T := TJ4) (N := 4) (x := this) hM28 ki_J5_append_3fe6f_J4 tyJ4 tyJ4_ok nmJ4 rfl (by decide) k_J5_append_3fe6f_79 (fun _ z => z) rfl rfl rfl dJ5_append_3fe6f_68 (fun H locs hw => ?_)
        refine lv_iload_n hx hb dJ5_append_3fe6f_71 rfl (lv_at hl 1 rfl) ?_
        cases h
      clear h
      replace h := ho25
      refine lv_if_eq (tgt := 56) hx hb dJ5_append_3fe6f_49 (by decide) (fun c22 => ?_) (fun c22 => ?_)
      · replace h := itt h c22
        replace h := Option.some.inj h
        subst h
        refine W.widen (k := 1) (n := 300) (Nat.le_of_ble_eq_true rfl) (Nat.le_of_ble_eq_true rfl) ?_
        exact J21 _ _ _ hw (lv_sub hl [0, 1] rfl)
      · replace h := itf h c22
        refine m_aload_n (x := this) hx hb dJ5_append_3fe6f_52 rfl (lv_at hl 0 rfl) ?_
        obtain ⟨g23, h⟩ := itg h
        obtain ⟨r24, hr24, h⟩ := ob h
        refine m_contV hC hw (m_runU hC hw (x := this) (ci := 1) (N := 4) (C := RJ4) (T := TJ4) (n := 0) (av := []) (rest := []) (c_J5_inflate_da8c8 (G := G) (l := l) hr24) gJ5_append_3fe6f_J5_inflate_da8c8_u195J4 rfl rfl (by decide +kernel) ⟨(Nat.le_of_ble_eq_true rfl), (Nat.le_of_ble_eq_true rfl)⟩ g23 rfl rfl hl.1 rfl (Nat.le_of_ble_eq_true rfl) dJ5_append_3fe6f_53 ⟨(Nat.le_of_ble_eq_true rfl), (Nat.le_of_ble_eq_true rfl)⟩) (fun H locs hw => ?_)
        replace h := Option.some.inj h
        subst h
        refine W.widen (k := 1) (n := 300) (Nat.le_of_ble_eq_true rfl) (Nat.le_of_ble_eq_true rfl) ?_
        exact J21 _ _ _ hw (lv_sub hl [0, 1] rfl)
    · replace h := itf h c18
      refine m_aload_n (x := this) hx hb dJ5_append_3fe6f_24 rfl (lv_at hl 0 rfl) ?_
      obtain ⟨v29, hv29, h⟩ := ob h
      refine m_getR hC hw (C := RJ4) (T := TJ4) (N := 4) hv29 ki_J5_append_3fe6f_J4 rfl (by decide) k_J5_append_3fe6f_15 (fun _ z => z) dJ5_append_3fe6f_25 ?_
      refine m_aload_n (x := this) hx hb dJ5_append_3fe6f_28 rfl (lv_at hl 0 rfl) ?_
      refine m_dup (x := this) hx hb dJ5_append_3fe6f_29 ?_
      obtain ⟨v30, hv30, h⟩ := ob h
      refine m_getI hC hw (C := RJ4) (T := TJ4) (N := 4) hv30 ki_J5_append_3fe6f_J4 rfl (by decide) k_J5_append_3fe6f_79 (fun _ z => z) dJ5_append_3fe6f_30 ?_
      refine lv_dup_x1 hx hb dJ5_append_3fe6f_33 rfl (va_rf_cat _) ?_
      refine lv_iconst (v := (1 : Int32)) hx hb dJ5_append_3fe6f_34 (by decide) ?_
      refine lv_iadd hx hb dJ5_append_3fe6f_35 ?_
      obtain ⟨M31, hM31, h⟩ := ob h
      refine m_put hC hw (C := RJ4) (T := TJ4) (N := 4) (x := this) hM31 ki_J5_append_3fe6f_J4 tyJ4 tyJ4_ok nmJ4 rfl (by decide) k_J5_append_3fe6f_79 (fun _ z => z) rfl rfl rfl dJ5_append_3fe6f_36 (fun H locs hw => ?_)
      refine lv_iload_n hx hb dJ5_append_3fe6f_39 rfl (lv_at hl 1 rfl) ?_
      refine lv_i2b hx hb dJ5_append_3fe6f_40 rfl ?_
      obtain ⟨M32, hM32, h⟩ := ob h
      refine m_bast (x := v29) hC hw hM32 (pk_nb _) dJ5_append_3fe6f_41 (fun H locs hw => ?_)
      refine lv_goto (tgt := 75) hx hb dJ5_append_3fe6f_42 (by decide) ?_
      refine m_aload_n (x := this) hx hb dJ5_append_3fe6f_75 rfl (lv_at hl 0 rfl) ?_
      replace h := Option.some.inj h
      subst h
      exact RET hw ⟨(Nat.le_of_ble_eq_true rfl), (Nat.le_of_ble_eq_true rfl)⟩ dJ5_append_3fe6f_76

def f_J4_append_cf468 (B : Nat) (M : Mem) (sz : Nat) (this : Option Nat) (a1 : Int32) : Option (Option Nat × Mem × Nat) := if this ≠ none then (if isO M this 1 = true then ((f_J5_append_3fe6f B M sz this a1).bind fun r2 => some (this, r2.2.1, r2.2.2)) else none) else none
def rmJ4_append_cf468 : Room := { frames := 5, cells := 1, slots := 300, locals := 125 }
set_option maxHeartbeats 4000000 in
set_option maxRecDepth 100000 in
theorem c_J4_append_cf468 {G : wG} {l : Launch} {M : Mem} {sz : Nat} {this : Option Nat} {a1 : Int32} {r : Option Nat × Mem × Nat} (h : f_J4_append_cf468 G.2.2.1 M sz this a1 = some r) : CtrQ G l yJ4_append_cf468 wsJ4_append_cf468 rmJ4_append_cf468 [va_rf this, .int a1] M sz r.1 r.2.1 r.2.2 := by
  refine m_startQ (own := RJ4) (cc := cJ4_append_cf468) (maxL := 2) (lv0 := [(0, va_rf this), (1, .int a1)]) (by decide) rfl rfl (by simp [lg_sl, va_rf_cat, cat_i, cat_r]) (by simp [lv_args, va_rf_cat, cat_i, cat_r]) (Or.inl ⟨_, rfl⟩) ?_
  intro p e s m args below meth c Q hC hname RET hsz hw ls hl
  have hx := hC.1
  have hb := hC.2.1
  unfold f_J4_append_cf468 at h
  refine m_aload_n (x := this) hx hb dJ4_append_cf468_0 rfl (lv_at hl 0 rfl) ?_
  refine lv_iload_n hx hb dJ4_append_cf468_1 rfl (lv_at hl 1 rfl) ?_
  obtain ⟨g1, h⟩ := itg h
  obtain ⟨g3, h⟩ := itg h
  obtain ⟨r2, hr2, h⟩ := ob h
  refine m_contQ hC hw (m_runSU hC hw (x := this) (ci := 1) (N := 4) (C := RJ4) (T := TJ4) (n := 1) (av := [.int a1]) (rest := []) (c_J5_append_3fe6f (G := G) (l := l) hr2) gJ4_append_cf468_J5_append_3fe6f_s50 rfl (by decide +kernel) ⟨(Nat.le_of_ble_eq_true rfl), (Nat.le_of_ble_eq_true rfl)⟩ g3 rfl rfl hl.1 rfl (Nat.le_of_ble_eq_true rfl) dJ4_append_cf468_2 ⟨(Nat.le_of_ble_eq_true rfl), (Nat.le_of_ble_eq_true rfl)⟩) (fun H locs hw => ?_)
  refine lv_pop hx hb dJ4_append_cf468_5 (va_rf_cat _) ?_
  refine m_aload_n (x := this) hx hb dJ4_append_cf468_6 rfl (lv_at hl 0 rfl) ?_
  replace h := Option.some.inj h
  subst h
  exact RET hw ⟨(Nat.le_of_ble_eq_true rfl), (Nat.le_of_ble_eq_true rfl)⟩ dJ4_append_cf468_7

def f_J6_stringSize_0f7a4_L16 (n : Nat) (M : Mem) (x0 : Int32) (x1 : Int32) : Nat → Int32 → Int32 → Option (Int32)
  | 0, _, _ => none
  | k + 1, x2, x3 => if (10 : Int32) ≤ x3 then (some (((10 : Int32) + x1))) else (if x0 ≤ x2 then (f_J6_stringSize_0f7a4_L16 n M x0 x1 k ((10 : Int32) * x2) (x3 + (1 : Int32))) else (some ((x3 + x1))))
def f_J6_stringSize_0f7a4 (n : Nat) (M : Mem) (a1 : Int32) : Option (Int32) := ((if a1 < 0 then (some (a1, (1 : Int32))) else (some ((-a1), (0 : Int32)))) : Option (Int32 × Int32)).bind fun o3 => f_J6_stringSize_0f7a4_L16 n M o3.1 o3.2 n (-10 : Int32) (1 : Int32)
def rmJ6_stringSize_0f7a4 : Room := { frames := 0, cells := 0, slots := 0, locals := 0 }
set_option maxHeartbeats 4000000 in
set_option maxRecDepth 100000 in
theorem c_J6_stringSize_0f7a4 {G : wG} {l : Launch} {n : Nat} {M : Mem} {sz : Nat} {a1 : Int32} {r : Int32} (h : f_J6_stringSize_0f7a4 n M a1 = some r) : CtrI G l yJ6_stringSize_0f7a4 wsJ6_stringSize_0f7a4 rmJ6_stringSize_0f7a4 [.int a1] M sz r M sz := by
  refine m_startI (own := RJ6) (cc := cJ6_stringSize_0f7a4) (maxL := 4) (lv0 := [(0, .int a1)]) (by decide) rfl rfl (by simp [lg_sl, va_rf_cat, cat_i, cat_r]) (by simp [lv_args, va_rf_cat, cat_i, cat_r]) ?_
  intro p e s m args below meth c Q hC hname RET hsz hw ls hl
  have hx := hC.1
  have hb := hC.2.1
  have L16 : ∀ (x0 : Int32) (x1 : Int32) (k : Nat) (x2 : Int32) (x3 : Int32) (cells slots : Nat) (H : Heap) (locs : List Loc) (ls : Array Slot), f_J6_stringSize_0f7a4_L16 n M x0 x1 k x2 x3 = some r → cells ≤ 0 → slots ≤ 0 → wD G s M M sz H locs → lv_has ls 4 [(0, .int x0), (1, .int x1), (2, .int x2), (3, .int x3)] → W p l e rmJ6_stringSize_0f7a4 s m args below meth c H locs cells slots Q (F0 m 16 ls []) := by
    intro x0 x1 k
    induction k with
    | zero =>
      intro x2 x3 cells slots H locs ls h
      exact absurd (show (none : Option (Int32)) = some r from h) (fun z => by cases z)
    | succ k ih =>
      intro x2 x3 cells slots H locs ls h hcl hsl hw hl
      rw [f_J6_stringSize_0f7a4_L16] at h
      refine lv_iload_n hx hb dJ6_stringSize_0f7a4_16 rfl (lv_at hl 3 rfl) ?_
      refine lv_bipush (v := (10 : Int32)) hx hb dJ6_stringSize_0f7a4_17 (by decide) ?_
      refine lv_icmp_ge (tgt := 42) hx hb dJ6_stringSize_0f7a4_19 (by decide) (fun c4 => ?_) (fun c4 => ?_)
      · replace h := itt h c4
        refine lv_bipush (v := (10 : Int32)) hx hb dJ6_stringSize_0f7a4_42 (by decide) ?_
        refine lv_iload_n hx hb dJ6_stringSize_0f7a4_44 rfl (lv_at hl 1 rfl) ?_
        refine lv_iadd hx hb dJ6_stringSize_0f7a4_45 ?_
        replace h := Option.some.inj h
        subst h
        exact RET hw ⟨(show cells + 0 ≤ 0 from by omega), (show slots + 0 ≤ 0 from by omega)⟩ dJ6_stringSize_0f7a4_46
      · replace h := itf h c4
        refine lv_iload_n hx hb dJ6_stringSize_0f7a4_22 rfl (lv_at hl 0 rfl) ?_
        refine lv_iload_n hx hb dJ6_stringSize_0f7a4_23 rfl (lv_at hl 2 rfl) ?_
        refine lv_icmp_le (tgt := 31) hx hb dJ6_stringSize_0f7a4_24 (by decide) (fun c5 => ?_) (fun c5 => ?_)
        · replace h := itt h c5
          refine lv_bipush (v := (10 : Int32)) hx hb dJ6_stringSize_0f7a4_31 (by decide) ?_
          refine lv_iload_n hx hb dJ6_stringSize_0f7a4_33 rfl (lv_at hl 2 rfl) ?_
          refine lv_imul hx hb dJ6_stringSize_0f7a4_34 ?_
          refine lv_istore_n (i := 2) (lv' := [(2, .int ((10 : Int32) * x2)), (0, .int x0), (1, .int x1), (3, .int x3)]) hx hb dJ6_stringSize_0f7a4_35 rfl hl (by decide) rfl (fun ls hl => ?_)
          refine lv_iinc (v := (x3 + (1 : Int32))) (lv' := [(3, .int (x3 + (1 : Int32))), (2, .int ((10 : Int32) * x2)), (0, .int x0), (1, .int x1)]) hx hb dJ6_stringSize_0f7a4_36 hl (k := 3) rfl rfl (by decide) rfl (fun ls hl => ?_)
          refine lv_goto (tgt := 16) hx hb dJ6_stringSize_0f7a4_39 (by decide) ?_
          exact ih _ _ _ _ _ _ _ h hcl hsl hw (lv_sub hl [2, 3, 1, 0] rfl)
        · replace h := itf h c5
          refine lv_iload_n hx hb dJ6_stringSize_0f7a4_27 rfl (lv_at hl 3 rfl) ?_
          refine lv_iload_n hx hb dJ6_stringSize_0f7a4_28 rfl (lv_at hl 1 rfl) ?_
          refine lv_iadd hx hb dJ6_stringSize_0f7a4_29 ?_
          replace h := Option.some.inj h
          subst h
          exact RET hw ⟨(show cells + 0 ≤ 0 from by omega), (show slots + 0 ≤ 0 from by omega)⟩ dJ6_stringSize_0f7a4_30
  unfold f_J6_stringSize_0f7a4 at h
  refine lv_iconst (v := (1 : Int32)) hx hb dJ6_stringSize_0f7a4_0 (by decide) ?_
  refine lv_istore_n (i := 1) (lv' := [(1, .int (1 : Int32)), (0, .int a1)]) hx hb dJ6_stringSize_0f7a4_1 rfl hl (by decide) rfl (fun ls hl => ?_)
  refine lv_iload_n hx hb dJ6_stringSize_0f7a4_2 rfl (lv_at hl 1 rfl) ?_
  obtain ⟨o3, ho3, h⟩ := ob h
  have J1 : ∀ (H : Heap) (locs : List Loc) (ls : Array Slot), wD G s M M sz H locs → lv_has ls 4 [(0, .int o3.1), (1, .int o3.2)] → W p l e rmJ6_stringSize_0f7a4 s m args below meth c H locs 0 0 Q (F0 m 11 ls []) := by
    intro H locs ls hw hl
    refine lv_bipush (v := (-10 : Int32)) hx hb dJ6_stringSize_0f7a4_11 (by decide) ?_
    refine lv_istore_n (i := 2) (lv' := [(2, .int (-10 : Int32)), (0, .int o3.1), (1, .int o3.2)]) hx hb dJ6_stringSize_0f7a4_13 rfl hl (by decide) rfl (fun ls hl => ?_)
    refine lv_iconst (v := (1 : Int32)) hx hb dJ6_stringSize_0f7a4_14 (by decide) ?_
    refine lv_istore_n (i := 3) (lv' := [(3, .int (1 : Int32)), (2, .int (-10 : Int32)), (0, .int o3.1), (1, .int o3.2)]) hx hb dJ6_stringSize_0f7a4_15 rfl hl (by decide) rfl (fun ls hl => ?_)
    exact L16 o3.1 o3.2 _ _ _ _ _ _ _ _ h (Nat.zero_le _) (Nat.zero_le _) hw (lv_sub hl [2, 3, 1, 0] rfl)
  clear h
  replace h := ho3
  refine lv_if_lt (tgt := 11) hx hb dJ6_stringSize_0f7a4_3 (by decide) (fun c2 => ?_) (fun c2 => ?_)
  · replace h := itt h c2
    replace h := Option.some.inj h
    subst h
    exact J1 _ _ _ hw (lv_sub hl [1, 0] rfl)
  · replace h := itf h c2
    refine lv_iconst (v := (0 : Int32)) hx hb dJ6_stringSize_0f7a4_6 (by decide) ?_
    refine lv_istore_n (i := 1) (lv' := [(1, .int (0 : Int32)), (0, .int a1)]) hx hb dJ6_stringSize_0f7a4_7 rfl hl (by decide) rfl (fun ls hl => ?_)
    refine lv_iload_n hx hb dJ6_stringSize_0f7a4_8 rfl (lv_at hl 1 rfl) ?_
    refine lv_ineg hx hb dJ6_stringSize_0f7a4_9 ?_
    refine lv_istore_n (i := 0) (lv' := [(0, .int (-a1)), (1, .int (0 : Int32))]) hx hb dJ6_stringSize_0f7a4_10 rfl hl (by decide) rfl (fun ls hl => ?_)
    replace h := Option.some.inj h
    subst h
    exact J1 _ _ _ hw (lv_sub hl [0, 1] rfl)

def f_J6_getChars_ba4f3_L22 (B : Nat) (S : Nat → Nat) (n : Nat) (x2 : Option Nat) (x6 : Int32) : Nat → Mem → Int32 → Int32 → Option (Int32 × Int32 × Mem)
  | 0, _, _, _ => none
  | k + 1, Mz, x0, x5 => if (-100 : Int32) < x0 then (some ((x0, x5, Mz))) else ((aI Mz 1 (some (S 21)) (((x0 / (100 : Int32)) * (100 : Int32)) - x0)).bind fun v8 => if (v8 : Int32).toInt8.toInt32 = v8 then ((sI B Mz 1 x2 (x5 + (-1 : Int32)) v8).bind fun M9 => (aI M9 1 (some (S 22)) (((x0 / (100 : Int32)) * (100 : Int32)) - x0)).bind fun v11 => if (v11 : Int32).toInt8.toInt32 = v11 then ((sI B M9 1 x2 ((x5 + (-1 : Int32)) + (-1 : Int32)) v11).bind fun M12 => f_J6_getChars_ba4f3_L22 B S n x2 x6 k M12 (x0 / (100 : Int32)) ((x5 + (-1 : Int32)) + (-1 : Int32))) else none) else none)
def f_J6_getChars_ba4f3 (B : Nat) (S : Nat → Nat) (n : Nat) (M : Mem) (a1 : Int32) (a2 : Int32) (a3 : Option Nat) : Option (Int32 × Mem) := ((if 0 ≤ a1 then (some ((0 : Int32))) else (some ((1 : Int32)))) : Option (Int32)).bind fun o3 => ((if o3 = 0 then (some ((-a1))) else (some (a1))) : Option (Int32)).bind fun o6 => (f_J6_getChars_ba4f3_L22 B S n a3 o3 n M o6 a2).bind fun o14 => (aI o14.2.2 1 (some (S 21)) (-o14.1)).bind fun v15 => if (v15 : Int32).toInt8.toInt32 = v15 then ((sI B o14.2.2 1 a3 (o14.2.1 + (-1 : Int32)) v15).bind fun M16 => if (-9 : Int32) ≤ o14.1 then (if o3 = 0 then (some ((o14.2.1 + (-1 : Int32)), M16)) else ((sI B M16 1 a3 ((o14.2.1 + (-1 : Int32)) + (-1 : Int32)) (45 : Int32)).bind fun M20 => some (((o14.2.1 + (-1 : Int32)) + (-1 : Int32)), M20))) else ((aI M16 1 (some (S 22)) (-o14.1)).bind fun v21 => if (v21 : Int32).toInt8.toInt32 = v21 then ((sI B M16 1 a3 ((o14.2.1 + (-1 : Int32)) + (-1 : Int32)) v21).bind fun M22 => if o3 = 0 then (some (((o14.2.1 + (-1 : Int32)) + (-1 : Int32)), M22)) else ((sI B M22 1 a3 (((o14.2.1 + (-1 : Int32)) + (-1 : Int32)) + (-1 : Int32)) (45 : Int32)).bind fun M25 => some ((((o14.2.1 + (-1 : Int32)) + (-1 : Int32)) + (-1 : Int32)), M25))) else none)) else none
def rmJ6_getChars_ba4f3 : Room := { frames := 0, cells := 0, slots := 0, locals := 0 }
theorem k_J6_getChars_ba4f3_83 : Cond.fieldLink RJ6 83 "java/lang/Integer" "DigitOnes" "[B" ∈ wsJ6_getChars_ba4f3 := List.mem_of_getElem? (i := 1) rfl
theorem k_J6_getChars_ba4f3_87 : Cond.fieldLink RJ6 87 "java/lang/Integer" "DigitTens" "[B" ∈ wsJ6_getChars_ba4f3 := List.mem_of_getElem? (i := 2) rfl
set_option maxHeartbeats 4000000 in
set_option maxRecDepth 100000 in
theorem c_J6_getChars_ba4f3 {G : wG} {l : Launch} {n : Nat} {M : Mem} {sz : Nat} {a1 : Int32} {a2 : Int32} {a3 : Option Nat} {r : Int32 × Mem} (h : f_J6_getChars_ba4f3 G.2.2.1 G.2.2.2 n M a1 a2 a3 = some r) : CtrI G l yJ6_getChars_ba4f3 wsJ6_getChars_ba4f3 rmJ6_getChars_ba4f3 [.int a1, .int a2, va_rf a3] M sz r.1 r.2 sz := by
  refine m_startI (own := RJ6) (cc := cJ6_getChars_ba4f3) (maxL := 7) (lv0 := [(0, .int a1), (1, .int a2), (2, va_rf a3)]) (by decide) rfl rfl (by simp [lg_sl, va_rf_cat, cat_i, cat_r]) (by simp [lv_args, va_rf_cat, cat_i, cat_r]) ?_
  intro p e s m args below meth c Q hC hname RET hsz hw ls hl
  have hx := hC.1
  have hb := hC.2.1
  have L22 : ∀ (x2 : Option Nat) (x6 : Int32) (k : Nat) (Mz : Mem) (x0 : Int32) (x5 : Int32) (cells slots : Nat) (H : Heap) (locs : List Loc) (ls : Array Slot) (o : Int32 × Int32 × Mem), f_J6_getChars_ba4f3_L22 G.2.2.1 G.2.2.2 n x2 x6 k Mz x0 x5 = some o → cells ≤ 0 → slots ≤ 0 → wD G s M Mz sz H locs → lv_has ls 7 [(0, .int x0), (2, va_rf x2), (5, .int x5), (6, .int x6)] → (∀ (H : Heap) (locs : List Loc) (ls : Array Slot), wD G s M o.2.2 sz H locs → lv_has ls 7 [(0, .int o.1), (2, va_rf x2), (5, .int o.2.1), (6, .int x6)] → W p l e rmJ6_getChars_ba4f3 s m args below meth c H locs cells slots Q (F0 m 72 ls [])) → W p l e rmJ6_getChars_ba4f3 s m args below meth c H locs cells slots Q (F0 m 22 ls []) := by
    intro x2 x6 k
    induction k with
    | zero =>
      intro Mz x0 x5 cells slots H locs ls o h
      exact absurd (show (none : Option (Int32 × Int32 × Mem)) = some o from h) (fun z => by cases z)
    | succ k ih =>
      intro Mz x0 x5 cells slots H locs ls o h hcl hsl hw hl hk
      rw [f_J6_getChars_ba4f3_L22] at h
      refine lv_iload_n hx hb dJ6_getChars_ba4f3_22 rfl (lv_at hl 0 rfl) ?_
      refine lv_bipush (v := (-100 : Int32)) hx hb dJ6_getChars_ba4f3_23 (by decide) ?_
      refine lv_icmp_gt (tgt := 72) hx hb dJ6_getChars_ba4f3_25 (by decide) (fun c7 => ?_) (fun c7 => ?_)
      · replace h := itt h c7
        replace h := Option.some.inj h
        subst h
        exact hk _ _ _  hw (lv_sub hl [0, 1, 2, 3] rfl)
      · replace h := itf h c7
        refine lv_iload_n hx hb dJ6_getChars_ba4f3_28 rfl (lv_at hl 0 rfl) ?_
        refine lv_bipush (v := (100 : Int32)) hx hb dJ6_getChars_ba4f3_29 (by decide) ?_
        refine lv_idiv hx hb dJ6_getChars_ba4f3_31 (by decide) ?_
        refine lv_istore_n (i := 3) (lv' := [(3, .int (x0 / (100 : Int32))), (0, .int x0), (2, va_rf x2), (5, .int x5), (6, .int x6)]) hx hb dJ6_getChars_ba4f3_32 rfl hl (by decide) (by simp [va_rf_cat, cat_i, cat_l]) (fun ls hl => ?_)
        refine lv_iload_n hx hb dJ6_getChars_ba4f3_33 rfl (lv_at hl 0 rfl) ?_
        refine lv_bipush (v := (100 : Int32)) hx hb dJ6_getChars_ba4f3_34 (by decide) ?_
        refine lv_imul hx hb dJ6_getChars_ba4f3_36 ?_
        refine lv_iload_n hx hb dJ6_getChars_ba4f3_37 rfl (lv_at hl 1 rfl) ?_
        refine lv_isub hx hb dJ6_getChars_ba4f3_38 ?_
        refine lv_istore (lv' := [(4, .int (((x0 / (100 : Int32)) * (100 : Int32)) - x0)), (3, .int (x0 / (100 : Int32))), (0, .int x0), (2, va_rf x2), (5, .int x5), (6, .int x6)]) hx hb dJ6_getChars_ba4f3_39 hl (by decide) rfl (fun ls hl => ?_)
        refine lv_iload_n hx hb dJ6_getChars_ba4f3_41 rfl (lv_at hl 1 rfl) ?_
        refine lv_istore_n (i := 0) (lv' := [(0, .int (x0 / (100 : Int32))), (4, .int (((x0 / (100 : Int32)) * (100 : Int32)) - x0)), (3, .int (x0 / (100 : Int32))), (2, va_rf x2), (5, .int x5), (6, .int x6)]) hx hb dJ6_getChars_ba4f3_42 rfl hl (by decide) rfl (fun ls hl => ?_)
        refine m_aload_n (x := x2) hx hb dJ6_getChars_ba4f3_43 rfl (lv_at hl 3 rfl) ?_
        refine lv_iinc (v := (x5 + (-1 : Int32))) (lv' := [(5, .int (x5 + (-1 : Int32))), (0, .int (x0 / (100 : Int32))), (4, .int (((x0 / (100 : Int32)) * (100 : Int32)) - x0)), (3, .int (x0 / (100 : Int32))), (2, va_rf x2), (6, .int x6)]) hx hb dJ6_getChars_ba4f3_44 hl (k := 4) rfl rfl (by decide) rfl (fun ls hl => ?_)
        refine lv_iload hx hb dJ6_getChars_ba4f3_47 (lv_at hl 0 rfl) ?_
        refine m_gets (v := va_rf (some (G.2.2.2 21))) hC hw (by simp [evZ, va_rf]) k_J6_getChars_ba4f3_83 (fun _ z => z) dJ6_getChars_ba4f3_49 ?_
        refine lv_iload hx hb dJ6_getChars_ba4f3_52 (lv_at hl 2 rfl) ?_
        obtain ⟨v8, hv8, h⟩ := ob h
        refine m_bald (x := (some (G.2.2.2 21))) hC hw hv8 dJ6_getChars_ba4f3_54 ?_
        obtain ⟨g10, h⟩ := itg h
        obtain ⟨M9, hM9, h⟩ := ob h
        refine m_bast (x := x2) hC hw hM9 (narB g10) dJ6_getChars_ba4f3_55 (fun H locs hw => ?_)
        refine m_aload_n (x := x2) hx hb dJ6_getChars_ba4f3_56 rfl (lv_at hl 4 rfl) ?_
        refine lv_iinc (v := ((x5 + (-1 : Int32)) + (-1 : Int32))) (lv' := [(5, .int ((x5 + (-1 : Int32)) + (-1 : Int32))), (0, .int (x0 / (100 : Int32))), (4, .int (((x0 / (100 : Int32)) * (100 : Int32)) - x0)), (3, .int (x0 / (100 : Int32))), (2, va_rf x2), (6, .int x6)]) hx hb dJ6_getChars_ba4f3_57 hl (k := 0) rfl rfl (by decide) rfl (fun ls hl => ?_)
        refine lv_iload hx hb dJ6_getChars_ba4f3_60 (lv_at hl 0 rfl) ?_
        refine m_gets (v := va_rf (some (G.2.2.2 22))) hC hw (by simp [evZ, va_rf]) k_J6_getChars_ba4f3_87 (fun _ z => z) dJ6_getChars_ba4f3_62 ?_
        refine lv_iload hx hb dJ6_getChars_ba4f3_65 (lv_at hl 2 rfl) ?_
        obtain ⟨v11, hv11, h⟩ := ob h
        refine m_bald (x := (some (G.2.2.2 22))) hC hw hv11 dJ6_getChars_ba4f3_67 ?_
        obtain ⟨g13, h⟩ := itg h
        obtain ⟨M12, hM12, h⟩ := ob h
        refine m_bast (x := x2) hC hw hM12 (narB g13) dJ6_getChars_ba4f3_68 (fun H locs hw => ?_)
        refine lv_goto (tgt := 22) hx hb dJ6_getChars_ba4f3_69 (by decide) ?_
        exact ih _ _ _ _ _ _ _ _ _ h hcl hsl hw (lv_sub hl [1, 4, 0, 5] rfl) hk
  unfold f_J6_getChars_ba4f3 at h
  refine lv_iload_n hx hb dJ6_getChars_ba4f3_0 rfl (lv_at hl 1 rfl) ?_
  refine lv_istore (lv' := [(5, .int a2), (0, .int a1), (1, .int a2), (2, va_rf a3)]) hx hb dJ6_getChars_ba4f3_1 hl (by decide) rfl (fun ls hl => ?_)
  refine lv_iload_n hx hb dJ6_getChars_ba4f3_3 rfl (lv_at hl 1 rfl) ?_
  obtain ⟨o3, ho3, h⟩ := ob h
  have J1 : ∀ (H : Heap) (locs : List Loc) (ls : Array Slot), wD G s M M sz H locs → lv_has ls 7 [(0, .int a1), (2, va_rf a3), (5, .int a2)] → W p l e rmJ6_getChars_ba4f3 s m args below meth c H locs 0 0 Q (F0 m 12 ls [.int o3]) := by
    intro H locs ls hw hl
    refine lv_istore (lv' := [(6, .int o3), (0, .int a1), (2, va_rf a3), (5, .int a2)]) hx hb dJ6_getChars_ba4f3_12 hl (by decide) rfl (fun ls hl => ?_)
    refine lv_iload hx hb dJ6_getChars_ba4f3_14 (lv_at hl 0 rfl) ?_
    obtain ⟨o6, ho6, h⟩ := ob h
    have J4 : ∀ (H : Heap) (locs : List Loc) (ls : Array Slot), wD G s M M sz H locs → lv_has ls 7 [(0, .int o6), (2, va_rf a3), (5, .int a2), (6, .int o3)] → W p l e rmJ6_getChars_ba4f3 s m args below meth c H locs 0 0 Q (F0 m 22 ls []) := by
      intro H locs ls hw hl
      obtain ⟨o14, ho14, h⟩ := ob h
      refine L22 a3 o3 _ _ _ _ _ _ _ _ _ _ ho14 (Nat.zero_le _) (Nat.zero_le _) hw (lv_sub hl [0, 1, 2, 3] rfl) (fun H locs ls hw hl => ?_)
      refine m_aload_n (x := a3) hx hb dJ6_getChars_ba4f3_72 rfl (lv_at hl 1 rfl) ?_
      refine lv_iinc (v := (o14.2.1 + (-1 : Int32))) (lv' := [(5, .int (o14.2.1 + (-1 : Int32))), (0, .int o14.1), (2, va_rf a3), (6, .int o3)]) hx hb dJ6_getChars_ba4f3_73 hl (k := 2) rfl rfl (by decide) rfl (fun ls hl => ?_)
      refine lv_iload hx hb dJ6_getChars_ba4f3_76 (lv_at hl 0 rfl) ?_
      refine m_gets (v := va_rf (some (G.2.2.2 21))) hC hw (by simp [evZ, va_rf]) k_J6_getChars_ba4f3_83 (fun _ z => z) dJ6_getChars_ba4f3_78 ?_
      refine lv_iload_n hx hb dJ6_getChars_ba4f3_81 rfl (lv_at hl 1 rfl) ?_
      refine lv_ineg hx hb dJ6_getChars_ba4f3_82 ?_
      obtain ⟨v15, hv15, h⟩ := ob h
      refine m_bald (x := (some (G.2.2.2 21))) hC hw hv15 dJ6_getChars_ba4f3_83 ?_
      obtain ⟨g17, h⟩ := itg h
      obtain ⟨M16, hM16, h⟩ := ob h
      refine m_bast (x := a3) hC hw hM16 (narB g17) dJ6_getChars_ba4f3_84 (fun H locs hw => ?_)
      refine lv_iload_n hx hb dJ6_getChars_ba4f3_85 rfl (lv_at hl 1 rfl) ?_
      refine lv_bipush (v := (-9 : Int32)) hx hb dJ6_getChars_ba4f3_86 (by decide) ?_
      refine lv_icmp_ge (tgt := 104) hx hb dJ6_getChars_ba4f3_88 (by decide) (fun c18 => ?_) (fun c18 => ?_)
      · replace h := itt h c18
        refine lv_iload hx hb dJ6_getChars_ba4f3_104 (lv_at hl 3 rfl) ?_
        refine lv_if_eq (tgt := 118) hx hb dJ6_getChars_ba4f3_106 (by decide) (fun c19 => ?_) (fun c19 => ?_)
        · replace h := itt h c19
          refine lv_iload hx hb dJ6_getChars_ba4f3_118 (lv_at hl 0 rfl) ?_
          replace h := Option.some.inj h
          subst h
          exact RET hw ⟨(Nat.zero_le _), (Nat.zero_le _)⟩ dJ6_getChars_ba4f3_120
        · replace h := itf h c19
          refine m_aload_n (x := a3) hx hb dJ6_getChars_ba4f3_109 rfl (lv_at hl 2 rfl) ?_
          refine lv_iinc (v := ((o14.2.1 + (-1 : Int32)) + (-1 : Int32))) (lv' := [(5, .int ((o14.2.1 + (-1 : Int32)) + (-1 : Int32))), (0, .int o14.1), (2, va_rf a3), (6, .int o3)]) hx hb dJ6_getChars_ba4f3_110 hl (k := 0) rfl rfl (by decide) rfl (fun ls hl => ?_)
          refine lv_iload hx hb dJ6_getChars_ba4f3_113 (lv_at hl 0 rfl) ?_
          refine lv_bipush (v := (45 : Int32)) hx hb dJ6_getChars_ba4f3_115 (by decide) ?_
          obtain ⟨M20, hM20, h⟩ := ob h
          refine m_bast (x := a3) hC hw hM20 (by decide) dJ6_getChars_ba4f3_117 (fun H locs hw => ?_)
          refine lv_iload hx hb dJ6_getChars_ba4f3_118 (lv_at hl 0 rfl) ?_
          replace h := Option.some.inj h
          subst h
          exact RET hw ⟨(Nat.zero_le _), (Nat.zero_le _)⟩ dJ6_getChars_ba4f3_120
      · replace h := itf h c18
        refine m_aload_n (x := a3) hx hb dJ6_getChars_ba4f3_91 rfl (lv_at hl 2 rfl) ?_
        refine lv_iinc (v := ((o14.2.1 + (-1 : Int32)) + (-1 : Int32))) (lv' := [(5, .int ((o14.2.1 + (-1 : Int32)) + (-1 : Int32))), (0, .int o14.1), (2, va_rf a3), (6, .int o3)]) hx hb dJ6_getChars_ba4f3_92 hl (k := 0) rfl rfl (by decide) rfl (fun ls hl => ?_)
        refine lv_iload hx hb dJ6_getChars_ba4f3_95 (lv_at hl 0 rfl) ?_
        refine m_gets (v := va_rf (some (G.2.2.2 22))) hC hw (by simp [evZ, va_rf]) k_J6_getChars_ba4f3_87 (fun _ z => z) dJ6_getChars_ba4f3_97 ?_
        refine lv_iload_n hx hb dJ6_getChars_ba4f3_100 rfl (lv_at hl 1 rfl) ?_
        refine lv_ineg hx hb dJ6_getChars_ba4f3_101 ?_
        obtain ⟨v21, hv21, h⟩ := ob h
        refine m_bald (x := (some (G.2.2.2 22))) hC hw hv21 dJ6_getChars_ba4f3_102 ?_
        obtain ⟨g23, h⟩ := itg h
        obtain ⟨M22, hM22, h⟩ := ob h
        refine m_bast (x := a3) hC hw hM22 (narB g23) dJ6_getChars_ba4f3_103 (fun H locs hw => ?_)
        refine lv_iload hx hb dJ6_getChars_ba4f3_104 (lv_at hl 3 rfl) ?_
        refine lv_if_eq (tgt := 118) hx hb dJ6_getChars_ba4f3_106 (by decide) (fun c24 => ?_) (fun c24 => ?_)
        · replace h := itt h c24
          refine lv_iload hx hb dJ6_getChars_ba4f3_118 (lv_at hl 0 rfl) ?_
          replace h := Option.some.inj h
          subst h
          exact RET hw ⟨(Nat.zero_le _), (Nat.zero_le _)⟩ dJ6_getChars_ba4f3_120
        · replace h := itf h c24
          refine m_aload_n (x := a3) hx hb dJ6_getChars_ba4f3_109 rfl (lv_at hl 2 rfl) ?_
          refine lv_iinc (v := (((o14.2.1 + (-1 : Int32)) + (-1 : Int32)) + (-1 : Int32))) (lv' := [(5, .int (((o14.2.1 + (-1 : Int32)) + (-1 : Int32)) + (-1 : Int32))), (0, .int o14.1), (2, va_rf a3), (6, .int o3)]) hx hb dJ6_getChars_ba4f3_110 hl (k := 0) rfl rfl (by decide) rfl (fun ls hl => ?_)
          refine lv_iload hx hb dJ6_getChars_ba4f3_113 (lv_at hl 0 rfl) ?_
          refine lv_bipush (v := (45 : Int32)) hx hb dJ6_getChars_ba4f3_115 (by decide) ?_
          obtain ⟨M25, hM25, h⟩ := ob h
          refine m_bast (x := a3) hC hw hM25 (by decide) dJ6_getChars_ba4f3_117 (fun H locs hw => ?_)
          refine lv_iload hx hb dJ6_getChars_ba4f3_118 (lv_at hl 0 rfl) ?_
          replace h := Option.some.inj h
          subst h
          exact RET hw ⟨(Nat.zero_le _), (Nat.zero_le _)⟩ dJ6_getChars_ba4f3_120
    clear h
    replace h := ho6
    refine lv_if_ne (tgt := 22) hx hb dJ6_getChars_ba4f3_16 (by decide) (fun c5 => ?_) (fun c5 => ?_)
    · replace h := itf h c5
      replace h := Option.some.inj h
      subst h
      exact J4 _ _ _ hw (lv_sub hl [1, 2, 3, 0] rfl)
    · replace h := itt h c5
      refine lv_iload_n hx hb dJ6_getChars_ba4f3_19 rfl (lv_at hl 1 rfl) ?_
      refine lv_ineg hx hb dJ6_getChars_ba4f3_20 ?_
      refine lv_istore_n (i := 0) (lv' := [(0, .int (-a1)), (6, .int o3), (2, va_rf a3), (5, .int a2)]) hx hb dJ6_getChars_ba4f3_21 rfl hl (by decide) rfl (fun ls hl => ?_)
      replace h := Option.some.inj h
      subst h
      exact J4 _ _ _ hw (lv_sub hl [0, 2, 3, 1] rfl)
  clear h
  replace h := ho3
  refine lv_if_ge (tgt := 11) hx hb dJ6_getChars_ba4f3_4 (by decide) (fun c2 => ?_) (fun c2 => ?_)
  · replace h := itt h c2
    refine lv_iconst (v := (0 : Int32)) hx hb dJ6_getChars_ba4f3_11 (by decide) ?_
    replace h := Option.some.inj h
    subst h
    exact J1 _ _ _ hw (lv_sub hl [1, 3, 0] rfl)
  · replace h := itf h c2
    refine lv_iconst (v := (1 : Int32)) hx hb dJ6_getChars_ba4f3_7 (by decide) ?_
    refine lv_goto (tgt := 12) hx hb dJ6_getChars_ba4f3_8 (by decide) ?_
    replace h := Option.some.inj h
    subst h
    exact J1 _ _ _ hw (lv_sub hl [1, 3, 0] rfl)

def f_J5_append_c97b9 (B : Nat) (S : Nat → Nat) (n : Nat) (M : Mem) (sz : Nat) (this : Option Nat) (a1 : Int32) : Option (Option Nat × Mem × Nat) := (gI M this 1 3).bind fun v1 => (f_J6_stringSize_0f7a4 n M a1).bind fun r2 => if isO M this 1 = true then ((f_J5_ensureCapacityInternal_d00df B M sz this (v1 + r2)).bind fun r4 => if isO r4.1 this 1 = true then ((f_J5_isLatin1_aae02 r4.1 this).bind fun r6 => if r6 = 0 then ((gR r4.1 this 1 0).bind fun v8 => none) else ((gR r4.1 this 1 0).bind fun v9 => (f_J6_getChars_ba4f3 B S n r4.1 a1 (v1 + r2) v9).bind fun r10 => (pF B r10.2 this 1 3 (.int (v1 + r2))).bind fun M11 => some (this, M11, r4.2))) else none) else none
def rmJ5_append_c97b9 : Room := { frames := 4, cells := 1, slots := 300, locals := 104 }
theorem k_J5_append_c97b9_79 : Cond.fieldLink RJ5 79 "java/lang/AbstractStringBuilder" "count" "I" ∈ wsJ5_append_c97b9 := List.mem_of_getElem? (i := 1) rfl
theorem ki_J5_append_c97b9_J4 : ∀ w ∈ u_ws RJ4 TJ4 4, w ∈ wsJ5_append_c97b9 := sub_r [91, 92, 93, 94] (by decide +kernel)
theorem k_J5_append_c97b9_15 : Cond.fieldLink RJ5 15 "java/lang/AbstractStringBuilder" "value" "[B" ∈ wsJ5_append_c97b9 := List.mem_of_getElem? (i := 2) rfl
set_option maxHeartbeats 4000000 in
set_option maxRecDepth 100000 in
theorem c_J5_append_c97b9 {G : wG} {l : Launch} {n : Nat} {M : Mem} {sz : Nat} {this : Option Nat} {a1 : Int32} {r : Option Nat × Mem × Nat} (h : f_J5_append_c97b9 G.2.2.1 G.2.2.2 n M sz this a1 = some r) : CtrQ G l yJ5_append_c97b9 wsJ5_append_c97b9 rmJ5_append_c97b9 [va_rf this, .int a1] M sz r.1 r.2.1 r.2.2 := by
  refine m_startQ (own := RJ5) (cc := cJ5_append_c97b9) (maxL := 4) (lv0 := [(0, va_rf this), (1, .int a1)]) (by decide) rfl rfl (by simp [lg_sl, va_rf_cat, cat_i, cat_r]) (by simp [lv_args, va_rf_cat, cat_i, cat_r]) (Or.inl ⟨_, rfl⟩) ?_
  intro p e s m args below meth c Q hC hname RET hsz hw ls hl
  have hx := hC.1
  have hb := hC.2.1
  unfold f_J5_append_c97b9 at h
  refine m_aload_n (x := this) hx hb dJ5_append_c97b9_0 rfl (lv_at hl 0 rfl) ?_
  obtain ⟨v1, hv1, h⟩ := ob h
  refine m_getI hC hw (C := RJ4) (T := TJ4) (N := 4) hv1 ki_J5_append_c97b9_J4 rfl (by decide) k_J5_append_c97b9_79 (fun _ z => z) dJ5_append_c97b9_1 ?_
  refine lv_istore_n (i := 2) (lv' := [(2, .int v1), (0, va_rf this), (1, .int a1)]) hx hb dJ5_append_c97b9_4 rfl hl (by decide) rfl (fun ls hl => ?_)
  refine lv_iload_n hx hb dJ5_append_c97b9_5 rfl (lv_at hl 0 rfl) ?_
  refine lv_iload_n hx hb dJ5_append_c97b9_6 rfl (lv_at hl 2 rfl) ?_
  obtain ⟨r2, hr2, h⟩ := ob h
  refine m_contI hC hw (m_runS hC hw (n := 1) (av := [.int a1]) (rest := [.int v1]) (c_J6_stringSize_0f7a4 (G := G) (l := l) hr2) gJ5_append_c97b9_J6_stringSize_0f7a4 rfl (by decide +kernel) ⟨(Nat.le_of_ble_eq_true rfl), (Nat.le_of_ble_eq_true rfl)⟩ rfl hl.1 rfl (Nat.le_of_ble_eq_true rfl) dJ5_append_c97b9_7 ⟨(Nat.zero_le _), (Nat.zero_le _)⟩) (fun H locs hw => ?_)
  refine lv_iadd hx hb dJ5_append_c97b9_10 ?_
  refine lv_istore_n (i := 3) (lv' := [(3, .int (v1 + r2)), (2, .int v1), (0, va_rf this), (1, .int a1)]) hx hb dJ5_append_c97b9_11 rfl hl (by decide) rfl (fun ls hl => ?_)
  refine m_aload_n (x := this) hx hb dJ5_append_c97b9_12 rfl (lv_at hl 2 rfl) ?_
  refine lv_iload_n hx hb dJ5_append_c97b9_13 rfl (lv_at hl 0 rfl) ?_
  obtain ⟨g3, h⟩ := itg h
  obtain ⟨r4, hr4, h⟩ := ob h
  refine m_contV hC hw (m_runU hC hw (x := this) (ci := 1) (N := 4) (C := RJ4) (T := TJ4) (n := 1) (av := [.int (v1 + r2)]) (rest := []) (c_J5_ensureCapacityInternal_d00df (G := G) (l := l) hr4) gJ5_append_c97b9_J5_ensureCapacityInternal_d00df_u100J4 rfl rfl (by decide +kernel) ⟨(Nat.le_of_ble_eq_true rfl), (Nat.le_of_ble_eq_true rfl)⟩ g3 rfl rfl hl.1 rfl (Nat.le_of_ble_eq_true rfl) dJ5_append_c97b9_14 ⟨(Nat.le_of_ble_eq_true rfl), (Nat.le_of_ble_eq_true rfl)⟩) (fun H locs hw => ?_)
  refine m_aload_n (x := this) hx hb dJ5_append_c97b9_17 rfl (lv_at hl 2 rfl) ?_
  obtain ⟨g5, h⟩ := itg h
  obtain ⟨r6, hr6, h⟩ := ob h
  refine m_contI hC hw (m_runU hC hw (x := this) (ci := 1) (N := 4) (C := RJ4) (T := TJ4) (n := 0) (av := []) (rest := []) (c_J5_isLatin1_aae02 (G := G) (l := l) hr6) gJ5_append_c97b9_J5_isLatin1_aae02_u83J4 rfl rfl (by decide +kernel) ⟨(Nat.le_of_ble_eq_true rfl), (Nat.le_of_ble_eq_true rfl)⟩ g5 rfl rfl hl.1 rfl (Nat.le_of_ble_eq_true rfl) dJ5_append_c97b9_18 ⟨(Nat.le_of_ble_eq_true rfl), (Nat.le_of_ble_eq_true rfl)⟩) (fun H locs hw => ?_)
  refine lv_if_eq (tgt := 37) hx hb dJ5_append_c97b9_21 (by decide) (fun c7 => ?_) (fun c7 => ?_)
  · replace h := itt h c7
    refine lv_iload_n hx hb dJ5_append_c97b9_37 rfl (lv_at hl 3 rfl) ?_
    refine lv_iload_n hx hb dJ5_append_c97b9_38 rfl (lv_at hl 1 rfl) ?_
    refine lv_iload_n hx hb dJ5_append_c97b9_39 rfl (lv_at hl 0 rfl) ?_
    refine m_aload_n (x := this) hx hb dJ5_append_c97b9_40 rfl (lv_at hl 2 rfl) ?_
    obtain ⟨v8, hv8, h⟩ := ob h
    refine m_getR hC hw (C := RJ4) (T := TJ4) (N := 4) hv8 ki_J5_append_c97b9_J4 rfl (by decide) k_J5_append_c97b9_15 (fun _ z => z) dJ5_append_c97b9_41 ?_
    cases h
  · replace h := itf h c7
    refine lv_iload_n hx hb dJ5_append_c97b9_24 rfl (lv_at hl 3 rfl) ?_
    refine lv_iload_n hx hb dJ5_append_c97b9_25 rfl (lv_at hl 0 rfl) ?_
    refine m_aload_n (x := this) hx hb dJ5_append_c97b9_26 rfl (lv_at hl 2 rfl) ?_
    obtain ⟨v9, hv9, h⟩ := ob h
    refine m_getR hC hw (C := RJ4) (T := TJ4) (N := 4) hv9 ki_J5_append_c97b9_J4 rfl (by decide) k_J5_append_c97b9_15 (fun _ z => z) dJ5_append_c97b9_27 ?_
    obtain ⟨r10, hr10, h⟩ := ob h
    refine m_contI hC hw (m_runS hC hw (n := 3) (av := [.int a1, .int (v1 + r2), va_rf v9]) (rest := []) (c_J6_getChars_ba4f3 (G := G) (l := l) hr10) gJ5_append_c97b9_J6_getChars_ba4f3 rfl (by decide +kernel) ⟨(Nat.le_of_ble_eq_true rfl), (Nat.le_of_ble_eq_true rfl)⟩ rfl hl.1 rfl (Nat.le_of_ble_eq_true rfl) dJ5_append_c97b9_30 ⟨(Nat.le_of_ble_eq_true rfl), (Nat.le_of_ble_eq_true rfl)⟩) (fun H locs hw => ?_)
    refine lv_pop hx hb dJ5_append_c97b9_33 rfl ?_
    refine lv_goto (tgt := 48) hx hb dJ5_append_c97b9_34 (by decide) ?_
    refine m_aload_n (x := this) hx hb dJ5_append_c97b9_48 rfl (lv_at hl 2 rfl) ?_
    refine lv_iload_n hx hb dJ5_append_c97b9_49 rfl (lv_at hl 0 rfl) ?_
    obtain ⟨M11, hM11, h⟩ := ob h
    refine m_put hC hw (C := RJ4) (T := TJ4) (N := 4) (x := this) hM11 ki_J5_append_c97b9_J4 tyJ4 tyJ4_ok nmJ4 rfl (by decide) k_J5_append_c97b9_79 (fun _ z => z) rfl rfl rfl dJ5_append_c97b9_50 (fun H locs hw => ?_)
    refine m_aload_n (x := this) hx hb dJ5_append_c97b9_53 rfl (lv_at hl 2 rfl) ?_
    replace h := Option.some.inj h
    subst h
    exact RET hw ⟨(Nat.le_of_ble_eq_true rfl), (Nat.le_of_ble_eq_true rfl)⟩ dJ5_append_c97b9_54

def f_J4_append_bf812 (B : Nat) (S : Nat → Nat) (n : Nat) (M : Mem) (sz : Nat) (this : Option Nat) (a1 : Int32) : Option (Option Nat × Mem × Nat) := if this ≠ none then (if isO M this 1 = true then ((f_J5_append_c97b9 B S n M sz this a1).bind fun r2 => some (this, r2.2.1, r2.2.2)) else none) else none
def rmJ4_append_bf812 : Room := { frames := 5, cells := 1, slots := 300, locals := 127 }
set_option maxHeartbeats 4000000 in
set_option maxRecDepth 100000 in
theorem c_J4_append_bf812 {G : wG} {l : Launch} {n : Nat} {M : Mem} {sz : Nat} {this : Option Nat} {a1 : Int32} {r : Option Nat × Mem × Nat} (h : f_J4_append_bf812 G.2.2.1 G.2.2.2 n M sz this a1 = some r) : CtrQ G l yJ4_append_bf812 wsJ4_append_bf812 rmJ4_append_bf812 [va_rf this, .int a1] M sz r.1 r.2.1 r.2.2 := by
  refine m_startQ (own := RJ4) (cc := cJ4_append_bf812) (maxL := 2) (lv0 := [(0, va_rf this), (1, .int a1)]) (by decide) rfl rfl (by simp [lg_sl, va_rf_cat, cat_i, cat_r]) (by simp [lv_args, va_rf_cat, cat_i, cat_r]) (Or.inl ⟨_, rfl⟩) ?_
  intro p e s m args below meth c Q hC hname RET hsz hw ls hl
  have hx := hC.1
  have hb := hC.2.1
  unfold f_J4_append_bf812 at h
  refine m_aload_n (x := this) hx hb dJ4_append_bf812_0 rfl (lv_at hl 0 rfl) ?_
  refine lv_iload_n hx hb dJ4_append_bf812_1 rfl (lv_at hl 1 rfl) ?_
  obtain ⟨g1, h⟩ := itg h
  obtain ⟨g3, h⟩ := itg h
  obtain ⟨r2, hr2, h⟩ := ob h
  refine m_contQ hC hw (m_runSU hC hw (x := this) (ci := 1) (N := 4) (C := RJ4) (T := TJ4) (n := 1) (av := [.int a1]) (rest := []) (c_J5_append_c97b9 (G := G) (l := l) hr2) gJ4_append_bf812_J5_append_c97b9_s53 rfl (by decide +kernel) ⟨(Nat.le_of_ble_eq_true rfl), (Nat.le_of_ble_eq_true rfl)⟩ g3 rfl rfl hl.1 rfl (Nat.le_of_ble_eq_true rfl) dJ4_append_bf812_2 ⟨(Nat.le_of_ble_eq_true rfl), (Nat.le_of_ble_eq_true rfl)⟩) (fun H locs hw => ?_)
  refine lv_pop hx hb dJ4_append_bf812_5 (va_rf_cat _) ?_
  refine m_aload_n (x := this) hx hb dJ4_append_bf812_6 rfl (lv_at hl 0 rfl) ?_
  replace h := Option.some.inj h
  subst h
  exact RET hw ⟨(Nat.le_of_ble_eq_true rfl), (Nat.le_of_ble_eq_true rfl)⟩ dJ4_append_bf812_7

def f_J5_getValue_6d5f1 (M : Mem) (this : Option Nat) : Option (Option Nat) := (gR M this 1 0).bind fun v1 => some (v1)
def rmJ5_getValue_6d5f1 : Room := { frames := 0, cells := 0, slots := 0, locals := 0 }
theorem k_J5_getValue_6d5f1_15 : Cond.fieldLink RJ5 15 "java/lang/AbstractStringBuilder" "value" "[B" ∈ wsJ5_getValue_6d5f1 := List.mem_of_getElem? (i := 1) rfl
theorem ki_J5_getValue_6d5f1_J4 : ∀ w ∈ u_ws RJ4 TJ4 4, w ∈ wsJ5_getValue_6d5f1 := sub_r [2, 3, 4, 5] (by decide +kernel)
set_option maxHeartbeats 4000000 in
set_option maxRecDepth 100000 in
theorem c_J5_getValue_6d5f1 {G : wG} {l : Launch} {M : Mem} {sz : Nat} {this : Option Nat} {r : Option Nat} (h : f_J5_getValue_6d5f1 M this = some r) : CtrQ G l yJ5_getValue_6d5f1 wsJ5_getValue_6d5f1 rmJ5_getValue_6d5f1 [va_rf this] M sz r M sz := by
  refine m_startQ (own := RJ5) (cc := cJ5_getValue_6d5f1) (maxL := 1) (lv0 := [(0, va_rf this)]) (by decide) rfl rfl (by simp [lg_sl, va_rf_cat, cat_i, cat_r]) (by simp [lv_args, va_rf_cat, cat_i, cat_r]) (Or.inr ⟨_, rfl⟩) ?_
  intro p e s m args below meth c Q hC hname RET hsz hw ls hl
  have hx := hC.1
  have hb := hC.2.1
  unfold f_J5_getValue_6d5f1 at h
  refine m_aload_n (x := this) hx hb dJ5_getValue_6d5f1_0 rfl (lv_at hl 0 rfl) ?_
  obtain ⟨v1, hv1, h⟩ := ob h
  refine m_getR hC hw (C := RJ4) (T := TJ4) (N := 4) hv1 ki_J5_getValue_6d5f1_J4 rfl (by decide) k_J5_getValue_6d5f1_15 (fun _ z => z) dJ5_getValue_6d5f1_1 ?_
  replace h := Option.some.inj h
  subst h
  exact RET hw ⟨(Nat.zero_le _), (Nat.zero_le _)⟩ dJ5_getValue_6d5f1_4

def f_J5_length_8abf5 (M : Mem) (this : Option Nat) : Option (Int32) := (gI M this 1 3).bind fun v1 => some (v1)
def rmJ5_length_8abf5 : Room := { frames := 0, cells := 0, slots := 0, locals := 0 }
theorem k_J5_length_8abf5_79 : Cond.fieldLink RJ5 79 "java/lang/AbstractStringBuilder" "count" "I" ∈ wsJ5_length_8abf5 := List.mem_of_getElem? (i := 1) rfl
theorem ki_J5_length_8abf5_J4 : ∀ w ∈ u_ws RJ4 TJ4 4, w ∈ wsJ5_length_8abf5 := sub_r [2, 3, 4, 5] (by decide +kernel)
set_option maxHeartbeats 4000000 in
set_option maxRecDepth 100000 in
theorem c_J5_length_8abf5 {G : wG} {l : Launch} {M : Mem} {sz : Nat} {this : Option Nat} {r : Int32} (h : f_J5_length_8abf5 M this = some r) : CtrI G l yJ5_length_8abf5 wsJ5_length_8abf5 rmJ5_length_8abf5 [va_rf this] M sz r M sz := by
  refine m_startI (own := RJ5) (cc := cJ5_length_8abf5) (maxL := 1) (lv0 := [(0, va_rf this)]) (by decide) rfl rfl (by simp [lg_sl, va_rf_cat, cat_i, cat_r]) (by simp [lv_args, va_rf_cat, cat_i, cat_r]) ?_
  intro p e s m args below meth c Q hC hname RET hsz hw ls hl
  have hx := hC.1
  have hb := hC.2.1
  unfold f_J5_length_8abf5 at h
  refine m_aload_n (x := this) hx hb dJ5_length_8abf5_0 rfl (lv_at hl 0 rfl) ?_
  obtain ⟨v1, hv1, h⟩ := ob h
  refine m_getI hC hw (C := RJ4) (T := TJ4) (N := 4) hv1 ki_J5_length_8abf5_J4 rfl (by decide) k_J5_length_8abf5_79 (fun _ z => z) dJ5_length_8abf5_1 ?_
  replace h := Option.some.inj h
  subst h
  exact RET hw ⟨(Nat.zero_le _), (Nat.zero_le _)⟩ dJ5_length_8abf5_4

def f_J4_length_8abf5 (M : Mem) (this : Option Nat) : Option (Int32) := if this ≠ none then (if isO M this 1 = true then ((f_J5_length_8abf5 M this).bind fun r2 => some (r2)) else none) else none
def rmJ4_length_8abf5 : Room := { frames := 1, cells := 0, slots := 0, locals := 20 }
set_option maxHeartbeats 4000000 in
set_option maxRecDepth 100000 in
theorem c_J4_length_8abf5 {G : wG} {l : Launch} {M : Mem} {sz : Nat} {this : Option Nat} {r : Int32} (h : f_J4_length_8abf5 M this = some r) : CtrI G l yJ4_length_8abf5 wsJ4_length_8abf5 rmJ4_length_8abf5 [va_rf this] M sz r M sz := by
  refine m_startI (own := RJ4) (cc := cJ4_length_8abf5) (maxL := 1) (lv0 := [(0, va_rf this)]) (by decide) rfl rfl (by simp [lg_sl, va_rf_cat, cat_i, cat_r]) (by simp [lv_args, va_rf_cat, cat_i, cat_r]) ?_
  intro p e s m args below meth c Q hC hname RET hsz hw ls hl
  have hx := hC.1
  have hb := hC.2.1
  unfold f_J4_length_8abf5 at h
  refine m_aload_n (x := this) hx hb dJ4_length_8abf5_0 rfl (lv_at hl 0 rfl) ?_
  obtain ⟨g1, h⟩ := itg h
  obtain ⟨g3, h⟩ := itg h
  obtain ⟨r2, hr2, h⟩ := ob h
  refine m_contI hC hw (m_runSU hC hw (x := this) (ci := 1) (N := 4) (C := RJ4) (T := TJ4) (n := 0) (av := []) (rest := []) (c_J5_length_8abf5 (G := G) (l := l) hr2) gJ4_length_8abf5_J5_length_8abf5_s343 rfl (by decide +kernel) ⟨(Nat.le_of_ble_eq_true rfl), (Nat.le_of_ble_eq_true rfl)⟩ g3 rfl rfl hl.1 rfl (Nat.le_of_ble_eq_true rfl) dJ4_length_8abf5_1 ⟨(Nat.zero_le _), (Nat.zero_le _)⟩) (fun H locs hw => ?_)
  replace h := Option.some.inj h
  subst h
  exact RET hw ⟨(Nat.zero_le _), (Nat.zero_le _)⟩ dJ4_length_8abf5_4

def f_J7_checkLength_df160 (M : Mem) (a1 : Int32) (a2 : Int32) : Option (Unit) := if a1 ≤ a2 then (some ()) else (none)
def rmJ7_checkLength_df160 : Room := { frames := 0, cells := 0, slots := 0, locals := 0 }
set_option maxHeartbeats 4000000 in
set_option maxRecDepth 100000 in
theorem c_J7_checkLength_df160 {G : wG} {l : Launch} {M : Mem} {sz : Nat} {a1 : Int32} {a2 : Int32} {r : Unit} (h : f_J7_checkLength_df160 M a1 a2 = some r) : CtrV G l yJ7_checkLength_df160 wsJ7_checkLength_df160 rmJ7_checkLength_df160 [.int a1, .int a2] M sz M sz := by
  refine m_startV (own := RJ7) (cc := cJ7_checkLength_df160) (maxL := 2) (lv0 := [(0, .int a1), (1, .int a2)]) (by decide) rfl rfl (by simp [lg_sl, va_rf_cat, cat_i, cat_r]) (by simp [lv_args, va_rf_cat, cat_i, cat_r]) ?_
  intro p e s m args below meth c Q hC hname RET hsz hw ls hl
  have hx := hC.1
  have hb := hC.2.1
  unfold f_J7_checkLength_df160 at h
  refine lv_iload_n hx hb dJ7_checkLength_df160_0 rfl (lv_at hl 1 rfl) ?_
  refine lv_iload_n hx hb dJ7_checkLength_df160_1 rfl (lv_at hl 0 rfl) ?_
  refine lv_icmp_ge (tgt := 37) hx hb dJ7_checkLength_df160_2 (by decide) (fun c1 => ?_) (fun c1 => ?_)
  · replace h := itt h c1
    replace h := Option.some.inj h
    subst h
    exact RET hw ⟨(Nat.zero_le _), (Nat.zero_le _)⟩ dJ7_checkLength_df160_37
  · replace h := itf h c1
    cases h

def f_J7_copyOfRangeByte_39247 (B : Nat) (M : Mem) (sz : Nat) (a1 : Option Nat) (a2 : Int32) (a3 : Int32) : Option (Option Nat × Mem × Nat) := (f_J7_checkLength_df160 M a2 a3).bind fun r1 => if ¬ (a3 - a2) < 0 ∧ ((a3 - a2) : Int32).toNatClampNeg ≤ 300 then ((some (va_up M sz (some (.inr (.inl (1, ((a3 - a2) : Int32).toNatClampNeg, fun _ => 0)))))).bind fun M2 => (aL M2 a1).bind fun v4 => (cB B M2 a1 a2 (some sz) (0 : Int32) (if (a3 - a2) < (v4 - a2) then (a3 - a2) else (v4 - a2))).bind fun M5 => some ((some sz), M5, (sz + 1))) else none
def rmJ7_copyOfRangeByte_39247 : Room := { frames := 1, cells := 1, slots := 300, locals := 60 }
theorem k_J7_copyOfRangeByte_39247_nabyte : Cond.arrayClass .byte ∈ wsJ7_copyOfRangeByte_39247 := List.mem_of_getElem? (i := 1) rfl
theorem k_J7_copyOfRangeByte_39247_min304_0 : Cond.methodLink RJ7 304 Lib.Math.min.name ∈ wsJ7_copyOfRangeByte_39247 := List.mem_of_getElem? (i := 2) rfl
theorem k_J7_copyOfRangeByte_39247_min304_1 : Cond.static Lib.Math.min.name ∈ wsJ7_copyOfRangeByte_39247 := List.mem_of_getElem? (i := 3) rfl
theorem k_J7_copyOfRangeByte_39247_min304_2 : Cond.initialized "java/lang/Math" ∈ wsJ7_copyOfRangeByte_39247 := List.mem_of_getElem? (i := 4) rfl
theorem k_J7_copyOfRangeByte_39247_min304_3 : Cond.code Lib.Math.min.name Lib.Math.min.code 2 (some .int) ∈ wsJ7_copyOfRangeByte_39247 := List.mem_of_getElem? (i := 5) rfl
theorem k_J7_copyOfRangeByte_39247_cp150_0 : Cond.methodLink RJ7 150 arraycopyName ∈ wsJ7_copyOfRangeByte_39247 := List.mem_of_getElem? (i := 6) rfl
theorem k_J7_copyOfRangeByte_39247_cp150_1 : Cond.native arraycopyName ∈ wsJ7_copyOfRangeByte_39247 := List.mem_of_getElem? (i := 7) rfl
theorem k_J7_copyOfRangeByte_39247_cp150_2 : Cond.static arraycopyName ∈ wsJ7_copyOfRangeByte_39247 := List.mem_of_getElem? (i := 8) rfl
theorem k_J7_copyOfRangeByte_39247_cp150_3 : Cond.initialized "java/lang/System" ∈ wsJ7_copyOfRangeByte_39247 := List.mem_of_getElem? (i := 9) rfl
set_option maxHeartbeats 4000000 in
set_option maxRecDepth 100000 in
theorem c_J7_copyOfRangeByte_39247 {G : wG} {l : Launch} {M : Mem} {sz : Nat} {a1 : Option Nat} {a2 : Int32} {a3 : Int32} {r : Option Nat × Mem × Nat} (h : f_J7_copyOfRangeByte_39247 G.2.2.1 M sz a1 a2 a3 = some r) : CtrQ G l yJ7_copyOfRangeByte_39247 wsJ7_copyOfRangeByte_39247 rmJ7_copyOfRangeByte_39247 [va_rf a1, .int a2, .int a3] M sz r.1 r.2.1 r.2.2 := by
  refine m_startQ (own := RJ7) (cc := cJ7_copyOfRangeByte_39247) (maxL := 5) (lv0 := [(0, va_rf a1), (1, .int a2), (2, .int a3)]) (by decide) rfl rfl (by simp [lg_sl, va_rf_cat, cat_i, cat_r]) (by simp [lv_args, va_rf_cat, cat_i, cat_r]) (Or.inr ⟨_, rfl⟩) ?_
  intro p e s m args below meth c Q hC hname RET hsz hw ls hl
  have hx := hC.1
  have hb := hC.2.1
  unfold f_J7_copyOfRangeByte_39247 at h
  refine lv_iload_n hx hb dJ7_copyOfRangeByte_39247_0 rfl (lv_at hl 1 rfl) ?_
  refine lv_iload_n hx hb dJ7_copyOfRangeByte_39247_1 rfl (lv_at hl 2 rfl) ?_
  obtain ⟨r1, hr1, h⟩ := ob h
  refine m_contV hC hw (m_runS hC hw (n := 2) (av := [.int a2, .int a3]) (rest := []) (c_J7_checkLength_df160 (G := G) (l := l) hr1) gJ7_copyOfRangeByte_39247_J7_checkLength_df160 rfl (by decide +kernel) ⟨(Nat.le_of_ble_eq_true rfl), (Nat.le_of_ble_eq_true rfl)⟩ rfl hl.1 rfl (Nat.le_of_ble_eq_true rfl) dJ7_copyOfRangeByte_39247_2 ⟨(Nat.zero_le _), (Nat.zero_le _)⟩) (fun H locs hw => ?_)
  refine lv_iload_n hx hb dJ7_copyOfRangeByte_39247_5 rfl (lv_at hl 2 rfl) ?_
  refine lv_iload_n hx hb dJ7_copyOfRangeByte_39247_6 rfl (lv_at hl 1 rfl) ?_
  refine lv_isub hx hb dJ7_copyOfRangeByte_39247_7 ?_
  refine lv_istore_n (i := 3) (lv' := [(3, .int (a3 - a2)), (0, va_rf a1), (1, .int a2), (2, .int a3)]) hx hb dJ7_copyOfRangeByte_39247_8 rfl hl (by decide) rfl (fun ls hl => ?_)
  refine lv_iload_n hx hb dJ7_copyOfRangeByte_39247_9 rfl (lv_at hl 0 rfl) ?_
  obtain ⟨g3, h⟩ := itg h
  obtain ⟨M2, hM2, h⟩ := ob h
  refine m_newI (atype := .byte) (t := 1) (n := (a3 - a2)) (cap := 300) hC hw rfl (fun _ _ => rfl) (by decide) k_J7_copyOfRangeByte_39247_nabyte (nmA1 hC) g3.1 g3.2 (by decide) (Nat.le_of_ble_eq_true rfl) (Nat.le_of_ble_eq_true rfl) dJ7_copyOfRangeByte_39247_10 (fun H hw => ?_)
  rw [Option.some.inj hM2] at hw
  refine m_astore (x := (some sz)) (lv' := [(4, va_rf (some sz)), (3, .int (a3 - a2)), (0, va_rf a1), (1, .int a2), (2, .int a3)]) hx hb dJ7_copyOfRangeByte_39247_12 hl (by decide) rfl (fun ls hl => ?_)
  refine m_aload_n (x := a1) hx hb dJ7_copyOfRangeByte_39247_14 rfl (lv_at hl 2 rfl) ?_
  refine lv_iload_n hx hb dJ7_copyOfRangeByte_39247_15 rfl (lv_at hl 3 rfl) ?_
  refine m_aload (x := (some sz)) hx hb dJ7_copyOfRangeByte_39247_16 (lv_at hl 0 rfl) ?_
  refine lv_iconst (v := (0 : Int32)) hx hb dJ7_copyOfRangeByte_39247_18 (by decide) ?_
  refine m_aload_n (x := a1) hx hb dJ7_copyOfRangeByte_39247_19 rfl (lv_at hl 2 rfl) ?_
  obtain ⟨v4, hv4, h⟩ := ob h
  refine m_alen (x := a1) hC hw hv4 dJ7_copyOfRangeByte_39247_20 ?_
  refine lv_iload_n hx hb dJ7_copyOfRangeByte_39247_21 rfl (lv_at hl 3 rfl) ?_
  refine lv_isub hx hb dJ7_copyOfRangeByte_39247_22 ?_
  refine lv_iload_n hx hb dJ7_copyOfRangeByte_39247_23 rfl (lv_at hl 1 rfl) ?_
  refine va_mmin hx hb (hC.2.2.1.trans hl.1.symm) hC.2.2.2.1 (hC.tab _ k_J7_copyOfRangeByte_39247_min304_0) (hC.tab _ k_J7_copyOfRangeByte_39247_min304_1) (hC.tab _ k_J7_copyOfRangeByte_39247_min304_2) (hC.tab _ k_J7_copyOfRangeByte_39247_min304_3) (Nat.le_of_ble_eq_true rfl) (cat_13 (by simp [va_rf_cat, cat_i, cat_r, cat_l]) (Nat.le_of_ble_eq_true rfl)) (Nat.le_of_ble_eq_true rfl) (Nat.le_of_ble_eq_true rfl) dJ7_copyOfRangeByte_39247_24 ?_
  obtain ⟨M5, hM5, h⟩ := ob h
  refine m_copyB (x := a1) (y := (some sz)) hC hw hM5 k_J7_copyOfRangeByte_39247_cp150_0 k_J7_copyOfRangeByte_39247_cp150_1 k_J7_copyOfRangeByte_39247_cp150_2 k_J7_copyOfRangeByte_39247_cp150_3 hl.1 (Nat.le_of_ble_eq_true rfl) (Nat.le_of_ble_eq_true rfl) (Nat.le_of_ble_eq_true rfl) dJ7_copyOfRangeByte_39247_27 (fun H locs hw => ?_)
  refine m_aload (x := (some sz)) hx hb dJ7_copyOfRangeByte_39247_30 (lv_at hl 0 rfl) ?_
  replace h := Option.some.inj h
  subst h
  exact RET hw ⟨(Nat.le_of_ble_eq_true rfl), (Nat.le_of_ble_eq_true rfl)⟩ dJ7_copyOfRangeByte_39247_32

def f_J7_copyOfRange_39247 (B : Nat) (M : Mem) (sz : Nat) (a1 : Option Nat) (a2 : Int32) (a3 : Int32) : Option (Option Nat × Mem × Nat) := if a2 = 0 then ((aL M a1).bind fun v3 => if a3 = v3 then ((kB B M sz 300 a1).bind fun M5 => if isR1 B M5 (some sz) = true then (some ((some sz), M5, (sz + 1))) else none) else ((f_J7_copyOfRangeByte_39247 B M sz a1 a2 a3).bind fun r7 => some (r7.1, r7.2.1, r7.2.2))) else ((f_J7_copyOfRangeByte_39247 B M sz a1 a2 a3).bind fun r2 => some (r2.1, r2.2.1, r2.2.2))
def rmJ7_copyOfRange_39247 : Room := { frames := 2, cells := 1, slots := 300, locals := 84 }
theorem k_J7_copyOfRange_39247_cl310_0 : Cond.methodLink RJ7 310 ⟨"[B", "clone", "()Ljava/lang/Object;"⟩ ∈ wsJ7_copyOfRange_39247 := List.mem_of_getElem? (i := 1) rfl
theorem k_J7_copyOfRange_39247_cl310_1 : Cond.sameMethod "[B" "java/lang/Object" "clone" "()Ljava/lang/Object;" ∈ wsJ7_copyOfRange_39247 := List.mem_of_getElem? (i := 2) rfl
theorem k_J7_copyOfRange_39247_cl310_2 : Cond.native ⟨"java/lang/Object", "clone", "()Ljava/lang/Object;"⟩ ∈ wsJ7_copyOfRange_39247 := List.mem_of_getElem? (i := 3) rfl
theorem k_J7_copyOfRange_39247_cl310_3 : Cond.instanceMethod ⟨"java/lang/Object", "clone", "()Ljava/lang/Object;"⟩ ∈ wsJ7_copyOfRange_39247 := List.mem_of_getElem? (i := 4) rfl
theorem k_J7_copyOfRange_39247_cl310_4 : Cond.selects "[B" ⟨"[B", "clone", "()Ljava/lang/Object;"⟩ ⟨"java/lang/Object", "clone", "()Ljava/lang/Object;"⟩ ∈ wsJ7_copyOfRange_39247 := List.mem_of_getElem? (i := 5) rfl
theorem k_J7_copyOfRange_39247_cc311 : Cond.classLink RJ7 311 "[B" ∈ wsJ7_copyOfRange_39247 := List.mem_of_getElem? (i := 6) rfl
set_option maxHeartbeats 4000000 in
set_option maxRecDepth 100000 in
theorem c_J7_copyOfRange_39247 {G : wG} {l : Launch} {M : Mem} {sz : Nat} {a1 : Option Nat} {a2 : Int32} {a3 : Int32} {r : Option Nat × Mem × Nat} (h : f_J7_copyOfRange_39247 G.2.2.1 M sz a1 a2 a3 = some r) : CtrQ G l yJ7_copyOfRange_39247 wsJ7_copyOfRange_39247 rmJ7_copyOfRange_39247 [va_rf a1, .int a2, .int a3] M sz r.1 r.2.1 r.2.2 := by
  refine m_startQ (own := RJ7) (cc := cJ7_copyOfRange_39247) (maxL := 3) (lv0 := [(0, va_rf a1), (1, .int a2), (2, .int a3)]) (by decide) rfl rfl (by simp [lg_sl, va_rf_cat, cat_i, cat_r]) (by simp [lv_args, va_rf_cat, cat_i, cat_r]) (Or.inr ⟨_, rfl⟩) ?_
  intro p e s m args below meth c Q hC hname RET hsz hw ls hl
  have hx := hC.1
  have hb := hC.2.1
  unfold f_J7_copyOfRange_39247 at h
  refine lv_iload_n hx hb dJ7_copyOfRange_39247_0 rfl (lv_at hl 1 rfl) ?_
  refine lv_if_ne (tgt := 10) hx hb dJ7_copyOfRange_39247_1 (by decide) (fun c1 => ?_) (fun c1 => ?_)
  · replace h := itf h c1
    refine m_aload_n (x := a1) hx hb dJ7_copyOfRange_39247_10 rfl (lv_at hl 0 rfl) ?_
    refine lv_iload_n hx hb dJ7_copyOfRange_39247_11 rfl (lv_at hl 1 rfl) ?_
    refine lv_iload_n hx hb dJ7_copyOfRange_39247_12 rfl (lv_at hl 2 rfl) ?_
    obtain ⟨r2, hr2, h⟩ := ob h
    refine m_contQ hC hw (m_runS hC hw (n := 3) (av := [va_rf a1, .int a2, .int a3]) (rest := []) (c_J7_copyOfRangeByte_39247 (G := G) (l := l) hr2) gJ7_copyOfRange_39247_J7_copyOfRangeByte_39247 rfl (by decide +kernel) ⟨(Nat.le_of_ble_eq_true rfl), (Nat.le_of_ble_eq_true rfl)⟩ rfl hl.1 rfl (Nat.le_of_ble_eq_true rfl) dJ7_copyOfRange_39247_13 ⟨(Nat.le_of_ble_eq_true rfl), (Nat.le_of_ble_eq_true rfl)⟩) (fun H locs hw => ?_)
    replace h := Option.some.inj h
    subst h
    exact RET hw ⟨(Nat.le_of_ble_eq_true rfl), (Nat.le_of_ble_eq_true rfl)⟩ dJ7_copyOfRange_39247_16
  · replace h := itt h c1
    refine lv_iload_n hx hb dJ7_copyOfRange_39247_4 rfl (lv_at hl 2 rfl) ?_
    refine m_aload_n (x := a1) hx hb dJ7_copyOfRange_39247_5 rfl (lv_at hl 0 rfl) ?_
    obtain ⟨v3, hv3, h⟩ := ob h
    refine m_alen (x := a1) hC hw hv3 dJ7_copyOfRange_39247_6 ?_
    refine lv_icmp_eq (tgt := 17) hx hb dJ7_copyOfRange_39247_7 (by decide) (fun c4 => ?_) (fun c4 => ?_)
    · replace h := itt h c4
      refine m_aload_n (x := a1) hx hb dJ7_copyOfRange_39247_17 rfl (lv_at hl 0 rfl) ?_
      obtain ⟨M5, hM5, h⟩ := ob h
      refine m_cloneB (x := a1) (cap := 300) hC hw hM5 k_J7_copyOfRange_39247_cl310_0 k_J7_copyOfRange_39247_cl310_1 k_J7_copyOfRange_39247_cl310_2 k_J7_copyOfRange_39247_cl310_3 k_J7_copyOfRange_39247_cl310_4 hl.1 (Nat.le_of_ble_eq_true rfl) (Nat.le_of_ble_eq_true rfl) (Nat.le_of_ble_eq_true rfl) (Nat.le_of_ble_eq_true rfl) (Nat.le_of_ble_eq_true rfl) dJ7_copyOfRange_39247_18 (fun H hw => ?_)
      obtain ⟨g6, h⟩ := itg h
      refine m_castB (x := (some sz)) hC hw g6 k_J7_copyOfRange_39247_cc311 dJ7_copyOfRange_39247_21 ?_
      replace h := Option.some.inj h
      subst h
      exact RET hw ⟨(Nat.le_of_ble_eq_true rfl), (Nat.le_of_ble_eq_true rfl)⟩ dJ7_copyOfRange_39247_24
    · replace h := itf h c4
      refine m_aload_n (x := a1) hx hb dJ7_copyOfRange_39247_10 rfl (lv_at hl 0 rfl) ?_
      refine lv_iload_n hx hb dJ7_copyOfRange_39247_11 rfl (lv_at hl 1 rfl) ?_
      refine lv_iload_n hx hb dJ7_copyOfRange_39247_12 rfl (lv_at hl 2 rfl) ?_
      obtain ⟨r7, hr7, h⟩ := ob h
      refine m_contQ hC hw (m_runS hC hw (n := 3) (av := [va_rf a1, .int a2, .int a3]) (rest := []) (c_J7_copyOfRangeByte_39247 (G := G) (l := l) hr7) gJ7_copyOfRange_39247_J7_copyOfRangeByte_39247 rfl (by decide +kernel) ⟨(Nat.le_of_ble_eq_true rfl), (Nat.le_of_ble_eq_true rfl)⟩ rfl hl.1 rfl (Nat.le_of_ble_eq_true rfl) dJ7_copyOfRange_39247_13 ⟨(Nat.le_of_ble_eq_true rfl), (Nat.le_of_ble_eq_true rfl)⟩) (fun H locs hw => ?_)
      replace h := Option.some.inj h
      subst h
      exact RET hw ⟨(Nat.le_of_ble_eq_true rfl), (Nat.le_of_ble_eq_true rfl)⟩ dJ7_copyOfRange_39247_16

def f_J0_init_db425 (B : Nat) (M : Mem) (sz : Nat) (this : Option Nat) (a1 : Option Nat) (a2 : Option Nat) : Option (Mem × Nat) := if this ≠ none then (if isO M a1 1 = true then ((f_J5_getValue_6d5f1 M a1).bind fun r3 => if isO M a1 1 = true then ((f_J4_length_8abf5 M a1).bind fun r5 => if isO M a1 1 = true then ((f_J5_isLatin1_aae02 M a1).bind fun r7 => if r7 = 0 then ((gI M a1 1 2).bind fun v9 => if v9 = 0 then ((pF B M this 0 1 (.int (1 : Int32))).bind fun M11 => (f_J7_copyOfRange_39247 B M11 sz r3 (0 : Int32) (r5 <<< ((1 : Int32) &&& 31))).bind fun r12 => (pF B r12.2.1 this 0 0 (va_rf r12.1)).bind fun M13 => some (M13, r12.2.2)) else (none)) else ((pF B M this 0 1 (.int (0 : Int32))).bind fun M15 => (f_J7_copyOfRange_39247 B M15 sz r3 (0 : Int32) r5).bind fun r16 => (pF B r16.2.1 this 0 0 (va_rf r16.1)).bind fun M17 => some (M17, r16.2.2))) else none) else none) else none) else none
def rmJ0_init_db425 : Room := { frames := 3, cells := 1, slots := 300, locals := 106 }
theorem k_J0_init_db425_oi1 : Cond.methodLink RJ0 1 objectInit ∈ wsJ0_init_db425 := List.mem_of_getElem? (i := 1) rfl
theorem k_J0_init_db425_oj : Cond.instanceMethod objectInit ∈ wsJ0_init_db425 := List.mem_of_getElem? (i := 2) rfl
theorem k_J0_init_db425_ok : Cond.code objectInit ⟨#[0xb1]⟩ 1 none ∈ wsJ0_init_db425 := List.mem_of_getElem? (i := 3) rfl
theorem k_J0_init_db425_oc549 : Cond.code yJ5_length_8abf5 cJ5_length_8abf5 1 (some .int) ∈ wsJ0_init_db425 := List.mem_of_getElem? (i := 25) rfl
theorem k_J0_init_db425_38 : Cond.fieldLink RJ0 38 "java/lang/String" "COMPACT_STRINGS" "Z" ∈ wsJ0_init_db425 := List.mem_of_getElem? (i := 6) rfl
theorem k_J0_init_db425_1048 : Cond.fieldLink RJ0 1048 "java/lang/AbstractStringBuilder" "maybeLatin1" "Z" ∈ wsJ0_init_db425 := List.mem_of_getElem? (i := 7) rfl
theorem ki_J0_init_db425_J4 : ∀ w ∈ u_ws RJ4 TJ4 4, w ∈ wsJ0_init_db425 := sub_r [99, 100, 101, 102] (by decide +kernel)
theorem k_J0_init_db425_15 : Cond.fieldLink RJ0 15 "java/lang/String" "coder" "B" ∈ wsJ0_init_db425 := List.mem_of_getElem? (i := 4) rfl
theorem ki_J0_init_db425_J0 : ∀ w ∈ u_ws RJ0 TJ0 4, w ∈ wsJ0_init_db425 := sub_r [95, 96, 97, 98] (by decide +kernel)
theorem k_J0_init_db425_9 : Cond.fieldLink RJ0 9 "java/lang/String" "value" "[B" ∈ wsJ0_init_db425 := List.mem_of_getElem? (i := 5) rfl
set_option maxHeartbeats 4000000 in
set_option maxRecDepth 100000 in
theorem c_J0_init_db425 {G : wG} {l : Launch} {M : Mem} {sz : Nat} {this : Option Nat} {a1 : Option Nat} {a2 : Option Nat} {r : Mem × Nat} (h : f_J0_init_db425 G.2.2.1 M sz this a1 a2 = some r) : CtrV G l yJ0_init_db425 wsJ0_init_db425 rmJ0_init_db425 [va_rf this, va_rf a1, va_rf a2] M sz r.1 r.2 := by
  refine m_startV (own := RJ0) (cc := cJ0_init_db425) (maxL := 5) (lv0 := [(0, va_rf this), (1, va_rf a1), (2, va_rf a2)]) (by decide) rfl rfl (by simp [lg_sl, va_rf_cat, cat_i, cat_r]) (by simp [lv_args, va_rf_cat, cat_i, cat_r]) ?_
  intro p e s m args below meth c Q hC hname RET hsz hw ls hl
  have hx := hC.1
  have hb := hC.2.1
  unfold f_J0_init_db425 at h
  refine m_aload_n (x := this) hx hb dJ0_init_db425_0 rfl (lv_at hl 0 rfl) ?_
  obtain ⟨g1, h⟩ := itg h
  refine m_objInit (x := this) (isN_some g1) hC (hC.tab _ k_J0_init_db425_oi1) (hC.tab _ k_J0_init_db425_oj) (hC.tab _ k_J0_init_db425_ok) hl.1 ((Nat.le_of_ble_eq_true rfl)) (Nat.le_of_ble_eq_true rfl) (Nat.le_of_ble_eq_true rfl) dJ0_init_db425_1 ?_
  refine m_aload_n (x := a1) hx hb dJ0_init_db425_4 rfl (lv_at hl 1 rfl) ?_
  obtain ⟨g2, h⟩ := itg h
  obtain ⟨r3, hr3, h⟩ := ob h
  refine m_contQ hC hw (m_runU hC hw (x := a1) (ci := 1) (N := 4) (C := RJ4) (T := TJ4) (n := 0) (av := []) (rest := []) (c_J5_getValue_6d5f1 (G := G) (l := l) hr3) gJ0_init_db425_J5_getValue_6d5f1_u552J4 rfl rfl (by decide +kernel) ⟨(Nat.le_of_ble_eq_true rfl), (Nat.le_of_ble_eq_true rfl)⟩ g2 rfl rfl hl.1 rfl (Nat.le_of_ble_eq_true rfl) dJ0_init_db425_5 ⟨(Nat.zero_le _), (Nat.zero_le _)⟩) (fun H locs hw => ?_)
  refine m_astore_n (x := r3) (i := 3) (lv' := [(3, va_rf r3), (0, va_rf this), (1, va_rf a1), (2, va_rf a2)]) hx hb dJ0_init_db425_8 rfl hl (by decide) (by simp [va_rf_cat, cat_i, cat_l]) (fun ls hl => ?_)
  refine m_aload_n (x := a1) hx hb dJ0_init_db425_9 rfl (lv_at hl 2 rfl) ?_
  obtain ⟨g4, h⟩ := itg h
  obtain ⟨r5, hr5, h⟩ := ob h
  refine m_contI hC hw (m_runO hC hw (x := a1) (ci := 1) (N := 4) (C := RJ4) (T := TJ4) (n := 0) (av := []) (rest := []) (c_J4_length_8abf5 (G := G) (l := l) hr5) gJ0_init_db425_J4_length_8abf5_u549J4 rfl k_J0_init_db425_oc549 (by decide +kernel) ⟨(Nat.le_of_ble_eq_true rfl), (Nat.le_of_ble_eq_true rfl)⟩ g4 rfl rfl hl.1 rfl (Nat.le_of_ble_eq_true rfl) dJ0_init_db425_10 ⟨(Nat.zero_le _), (Nat.zero_le _)⟩) (fun H locs hw => ?_)
  refine lv_istore (lv' := [(4, .int r5), (3, va_rf r3), (0, va_rf this), (1, va_rf a1), (2, va_rf a2)]) hx hb dJ0_init_db425_13 hl (by decide) (by simp [va_rf_cat, cat_i, cat_l]) (fun ls hl => ?_)
  refine m_aload_n (x := a1) hx hb dJ0_init_db425_15 rfl (lv_at hl 3 rfl) ?_
  obtain ⟨g6, h⟩ := itg h
  obtain ⟨r7, hr7, h⟩ := ob h
  refine m_contI hC hw (m_runU hC hw (x := a1) (ci := 1) (N := 4) (C := RJ4) (T := TJ4) (n := 0) (av := []) (rest := []) (c_J5_isLatin1_aae02 (G := G) (l := l) hr7) gJ0_init_db425_J5_isLatin1_aae02_u1047J4 rfl rfl (by decide +kernel) ⟨(Nat.le_of_ble_eq_true rfl), (Nat.le_of_ble_eq_true rfl)⟩ g6 rfl rfl hl.1 rfl (Nat.le_of_ble_eq_true rfl) dJ0_init_db425_16 ⟨(Nat.zero_le _), (Nat.zero_le _)⟩) (fun H locs hw => ?_)
  refine lv_if_eq (tgt := 41) hx hb dJ0_init_db425_19 (by decide) (fun c8 => ?_) (fun c8 => ?_)
  · replace h := itt h c8
    refine m_gets (v := .int 1) hC hw (by simp [evZ]) k_J0_init_db425_38 (fun _ z => z) dJ0_init_db425_41 ?_
    refine lv_if_eq (tgt := 79) hx hb dJ0_init_db425_44 (by decide) (fun c14 => ?_) (fun _ => ?_)
    · first | exact absurd c14 (by decide) | exact (c14 (by decide)).elim | exact absurd rfl c14 | cases c14
    · refine m_aload_n (x := a1) hx hb dJ0_init_db425_47 rfl (lv_at hl 3 rfl) ?_
      obtain ⟨v9, hv9, h⟩ := ob h
      refine m_getI hC hw (C := RJ4) (T := TJ4) (N := 4) hv9 ki_J0_init_db425_J4 rfl (by decide) k_J0_init_db425_1048 (fun _ z => z) dJ0_init_db425_48 ?_
      refine lv_if_eq (tgt := 79) hx hb dJ0_init_db425_51 (by decide) (fun c10 => ?_) (fun c10 => ?_)
      · replace h := itt h c10
        refine m_aload_n (x := this) hx hb dJ0_init_db425_79 rfl (lv_at hl 2 rfl) ?_
        refine lv_iconst (v := (1 : Int32)) hx hb dJ0_init_db425_80 (by decide) ?_
        obtain ⟨M11, hM11, h⟩ := ob h
        refine m_putF hC hw (C := RJ0) (T := TJ0) (N := 4) (x := this) hM11 ki_J0_init_db425_J0 tyJ0 tyJ0_ok nmJ0 rfl (by decide) k_J0_init_db425_15 (fun _ z => z) rfl hname rfl (by decide) (by decide) dJ0_init_db425_81 (fun H locs hw => ?_)
        refine m_aload_n (x := this) hx hb dJ0_init_db425_84 rfl (lv_at hl 2 rfl) ?_
        refine m_aload_n (x := r3) hx hb dJ0_init_db425_85 rfl (lv_at hl 1 rfl) ?_
        refine lv_iconst (v := (0 : Int32)) hx hb dJ0_init_db425_86 (by decide) ?_
        refine lv_iload hx hb dJ0_init_db425_87 (lv_at hl 0 rfl) ?_
        refine lv_iconst (v := (1 : Int32)) hx hb dJ0_init_db425_89 (by decide) ?_
        refine lv_ishl hx hb dJ0_init_db425_90 ?_
        obtain ⟨r12, hr12, h⟩ := ob h
        refine m_contQ hC hw (m_runS hC hw (n := 3) (av := [va_rf r3, .int (0 : Int32), .int (r5 <<< ((1 : Int32) &&& 31))]) (rest := [va_rf this]) (c_J7_copyOfRange_39247 (G := G) (l := l) hr12) gJ0_init_db425_J7_copyOfRange_39247 rfl (by decide +kernel) ⟨(Nat.le_of_ble_eq_true rfl), (Nat.le_of_ble_eq_true rfl)⟩ rfl hl.1 rfl (by simp [va_rf_cat, cat_i, cat_r, cat_l]) dJ0_init_db425_91 ⟨(Nat.le_of_ble_eq_true rfl), (Nat.le_of_ble_eq_true rfl)⟩) (fun H locs hw => ?_)
        obtain ⟨M13, hM13, h⟩ := ob h
        refine m_putF hC hw (C := RJ0) (T := TJ0) (N := 4) (x := this) hM13 ki_J0_init_db425_J0 tyJ0 tyJ0_ok nmJ0 rfl (by decide) k_J0_init_db425_9 (fun _ z => z) rfl hname rfl (nar_rf _ _ (by decide)) (fit_rf _ _ (by decide)) dJ0_init_db425_94 (fun H locs hw => ?_)
        replace h := Option.some.inj h
        subst h
        exact RET hw ⟨(Nat.le_of_ble_eq_true rfl), (Nat.le_of_ble_eq_true rfl)⟩ dJ0_init_db425_97
      · replace h := itf h c10
        refine m_aload_n (x := this) hx hb dJ0_init_db425_54 rfl (lv_at hl 2 rfl) ?_
        refine m_aload_n (x := r3) hx hb dJ0_init_db425_55 rfl (lv_at hl 1 rfl) ?_
        refine lv_iconst (v := (0 : Int32)) hx hb dJ0_init_db425_56 (by decide) ?_
        refine lv_iload hx hb dJ0_init_db425_57 (lv_at hl 0 rfl) ?_
        cases h
  · replace h := itf h c8
    refine m_aload_n (x := this) hx hb dJ0_init_db425_22 rfl (lv_at hl 2 rfl) ?_
    refine lv_iconst (v := (0 : Int32)) hx hb dJ0_init_db425_23 (by decide) ?_
    obtain ⟨M15, hM15, h⟩ := ob h
    refine m_putF hC hw (C := RJ0) (T := TJ0) (N := 4) (x := this) hM15 ki_J0_init_db425_J0 tyJ0 tyJ0_ok nmJ0 rfl (by decide) k_J0_init_db425_15 (fun _ z => z) rfl hname rfl (by decide) (by decide) dJ0_init_db425_24 (fun H locs hw => ?_)
    refine m_aload_n (x := this) hx hb dJ0_init_db425_27 rfl (lv_at hl 2 rfl) ?_
    refine m_aload_n (x := r3) hx hb dJ0_init_db425_28 rfl (lv_at hl 1 rfl) ?_
    refine lv_iconst (v := (0 : Int32)) hx hb dJ0_init_db425_29 (by decide) ?_
    refine lv_iload hx hb dJ0_init_db425_30 (lv_at hl 0 rfl) ?_
    obtain ⟨r16, hr16, h⟩ := ob h
    refine m_contQ hC hw (m_runS hC hw (n := 3) (av := [va_rf r3, .int (0 : Int32), .int r5]) (rest := [va_rf this]) (c_J7_copyOfRange_39247 (G := G) (l := l) hr16) gJ0_init_db425_J7_copyOfRange_39247 rfl (by decide +kernel) ⟨(Nat.le_of_ble_eq_true rfl), (Nat.le_of_ble_eq_true rfl)⟩ rfl hl.1 rfl (by simp [va_rf_cat, cat_i, cat_r, cat_l]) dJ0_init_db425_32 ⟨(Nat.le_of_ble_eq_true rfl), (Nat.le_of_ble_eq_true rfl)⟩) (fun H locs hw => ?_)
    obtain ⟨M17, hM17, h⟩ := ob h
    refine m_putF hC hw (C := RJ0) (T := TJ0) (N := 4) (x := this) hM17 ki_J0_init_db425_J0 tyJ0 tyJ0_ok nmJ0 rfl (by decide) k_J0_init_db425_9 (fun _ z => z) rfl hname rfl (nar_rf _ _ (by decide)) (fit_rf _ _ (by decide)) dJ0_init_db425_35 (fun H locs hw => ?_)
    refine lv_goto (tgt := 97) hx hb dJ0_init_db425_38 (by decide) ?_
    replace h := Option.some.inj h
    subst h
    exact RET hw ⟨(Nat.le_of_ble_eq_true rfl), (Nat.le_of_ble_eq_true rfl)⟩ dJ0_init_db425_97

def f_J0_init_81219 (B : Nat) (M : Mem) (sz : Nat) (this : Option Nat) (a1 : Option Nat) : Option (Mem × Nat) := if this ≠ none then ((f_J0_init_db425 B M sz this a1 none).bind fun r2 => some (r2.1, r2.2)) else none
def rmJ0_init_81219 : Room := { frames := 4, cells := 1, slots := 300, locals := 130 }
theorem k_J0_init_81219_ml489 : Cond.methodLink RJ0 489 yJ0_init_db425 ∈ wsJ0_init_81219 := List.mem_of_getElem? (i := 1) rfl
theorem k_J0_init_81219_imJ0_init_db425 : Cond.instanceMethod yJ0_init_db425 ∈ wsJ0_init_81219 := List.mem_of_getElem? (i := 2) rfl
theorem k_J0_init_81219_inJ0 : Cond.initialized RJ0 ∈ wsJ0_init_81219 := List.mem_of_getElem? (i := 3) rfl
set_option maxHeartbeats 4000000 in
set_option maxRecDepth 100000 in
theorem c_J0_init_81219 {G : wG} {l : Launch} {M : Mem} {sz : Nat} {this : Option Nat} {a1 : Option Nat} {r : Mem × Nat} (h : f_J0_init_81219 G.2.2.1 M sz this a1 = some r) : CtrV G l yJ0_init_81219 wsJ0_init_81219 rmJ0_init_81219 [va_rf this, va_rf a1] M sz r.1 r.2 := by
  refine m_startV (own := RJ0) (cc := cJ0_init_81219) (maxL := 2) (lv0 := [(0, va_rf this), (1, va_rf a1)]) (by decide) rfl rfl (by simp [lg_sl, va_rf_cat, cat_i, cat_r]) (by simp [lv_args, va_rf_cat, cat_i, cat_r]) ?_
  intro p e s m args below meth c Q hC hname RET hsz hw ls hl
  have hx := hC.1
  have hb := hC.2.1
  unfold f_J0_init_81219 at h
  refine m_aload_n (x := this) hx hb dJ0_init_81219_0 rfl (lv_at hl 0 rfl) ?_
  refine m_aload_n (x := a1) hx hb dJ0_init_81219_1 rfl (lv_at hl 1 rfl) ?_
  refine lv_null hx hb dJ0_init_81219_2 ?_
  obtain ⟨g1, h⟩ := itg h
  obtain ⟨r2, hr2, h⟩ := ob h
  refine m_contV hC hw (m_runI hC hw (x := this) (n := 2) (av := [va_rf a1, va_rf none]) (rest := []) (c_J0_init_db425 (G := G) (l := l) hr2) gJ0_init_81219_J0_init_db425 k_J0_init_81219_ml489 k_J0_init_81219_imJ0_init_db425 k_J0_init_81219_inJ0 rfl rfl (by decide +kernel) ⟨(Nat.le_of_ble_eq_true rfl), (Nat.le_of_ble_eq_true rfl)⟩ (isN_some g1) rfl hl.1 rfl (Nat.le_of_ble_eq_true rfl) dJ0_init_81219_3 ⟨(Nat.le_of_ble_eq_true rfl), (Nat.le_of_ble_eq_true rfl)⟩) (fun H locs hw => ?_)
  replace h := Option.some.inj h
  subst h
  exact RET hw ⟨(Nat.le_of_ble_eq_true rfl), (Nat.le_of_ble_eq_true rfl)⟩ dJ0_init_81219_6

def f_J4_toString_0e30d (B : Nat) (M : Mem) (sz : Nat) (this : Option Nat) : Option (Option Nat × Mem × Nat) := (some (va_up M sz (some (.inl (0, [.null, .int 0, .int 0, .int 0]))))).bind fun M1 => (f_J0_init_81219 B M1 (sz + 1) (some sz) this).bind fun r2 => some ((some sz), r2.1, r2.2)
def rmJ4_toString_0e30d : Room := { frames := 5, cells := 2, slots := 304, locals := 151 }
theorem k_J4_toString_0e30d_n18 : Cond.classLink RJ4 18 RJ0 ∈ wsJ4_toString_0e30d := List.mem_of_getElem? (i := 1) rfl
theorem k_J4_toString_0e30d_ni18 : Cond.instantiable RJ0 4 ∈ wsJ4_toString_0e30d := List.mem_of_getElem? (i := 2) rfl
theorem k_J4_toString_0e30d_nj18 : Cond.initialized RJ0 ∈ wsJ4_toString_0e30d := List.mem_of_getElem? (i := 3) rfl
theorem ki_J4_toString_0e30d_J0 : ∀ w ∈ u_ws RJ0 TJ0 4, w ∈ wsJ4_toString_0e30d := sub_r [103, 104, 105, 106] (by decide +kernel)
theorem k_J4_toString_0e30d_ml137 : Cond.methodLink RJ4 137 yJ0_init_81219 ∈ wsJ4_toString_0e30d := List.mem_of_getElem? (i := 4) rfl
theorem k_J4_toString_0e30d_imJ0_init_81219 : Cond.instanceMethod yJ0_init_81219 ∈ wsJ4_toString_0e30d := List.mem_of_getElem? (i := 5) rfl
theorem k_J4_toString_0e30d_inJ0 : Cond.initialized RJ0 ∈ wsJ4_toString_0e30d := List.mem_of_getElem? (i := 3) rfl
set_option maxHeartbeats 4000000 in
set_option maxRecDepth 100000 in
theorem c_J4_toString_0e30d {G : wG} {l : Launch} {M : Mem} {sz : Nat} {this : Option Nat} {r : Option Nat × Mem × Nat} (h : f_J4_toString_0e30d G.2.2.1 M sz this = some r) : CtrQ G l yJ4_toString_0e30d wsJ4_toString_0e30d rmJ4_toString_0e30d [va_rf this] M sz r.1 r.2.1 r.2.2 := by
  refine m_startQ (own := RJ4) (cc := cJ4_toString_0e30d) (maxL := 1) (lv0 := [(0, va_rf this)]) (by decide) rfl rfl (by simp [lg_sl, va_rf_cat, cat_i, cat_r]) (by simp [lv_args, va_rf_cat, cat_i, cat_r]) (Or.inl ⟨_, rfl⟩) ?_
  intro p e s m args below meth c Q hC hname RET hsz hw ls hl
  have hx := hC.1
  have hb := hC.2.1
  unfold f_J4_toString_0e30d at h
  obtain ⟨M1, hM1, h⟩ := ob h
  refine m_new hC hw (C := RJ0) (T := TJ0) (N := 4) (ci := 0) (fs := [.null, .int 0, .int 0, .int 0]) ki_J4_toString_0e30d_J0 tyJ0 tyJ0_ok k_J4_toString_0e30d_n18 k_J4_toString_0e30d_ni18 k_J4_toString_0e30d_nj18 rfl (fun j hj => by match j, hj with | 0, _ => rfl | 1, _ => rfl | 2, _ => rfl | 3, _ => rfl) (Nat.le_of_ble_eq_true rfl) (Nat.le_of_ble_eq_true rfl) dJ4_toString_0e30d_0 (fun H hw => ?_)
  rw [Option.some.inj hM1] at hw
  refine m_dup (x := (some sz)) hx hb dJ4_toString_0e30d_3 ?_
  refine m_aload_n (x := this) hx hb dJ4_toString_0e30d_4 rfl (lv_at hl 0 rfl) ?_
  obtain ⟨r2, hr2, h⟩ := ob h
  refine m_contV hC hw (m_runI hC hw (x := (some sz)) (n := 1) (av := [va_rf this]) (rest := [va_rf (some sz)]) (c_J0_init_81219 (G := G) (l := l) hr2) gJ4_toString_0e30d_J0_init_81219 k_J4_toString_0e30d_ml137 k_J4_toString_0e30d_imJ0_init_81219 k_J4_toString_0e30d_inJ0 rfl rfl (by decide +kernel) ⟨(Nat.le_of_ble_eq_true rfl), (Nat.le_of_ble_eq_true rfl)⟩ rfl rfl hl.1 rfl (by simp [va_rf_cat, cat_i, cat_r, cat_l]) dJ4_toString_0e30d_5 ⟨(Nat.le_of_ble_eq_true rfl), (Nat.le_of_ble_eq_true rfl)⟩) (fun H locs hw => ?_)
  replace h := Option.some.inj h
  subst h
  exact RET hw ⟨(Nat.le_of_ble_eq_true rfl), (Nat.le_of_ble_eq_true rfl)⟩ dJ4_toString_0e30d_8

def f_J7_copyOf_6403c (B : Nat) (S : Nat → Nat) (M : Mem) (sz : Nat) (a1 : Option Nat) (a2 : Int32) (a3 : Option Nat) : Option (Option Nat × Mem × Nat) := ((if a3 = (some (S 23)) then (if ¬ a2 < 0 ∧ (a2 : Int32).toNatClampNeg ≤ 80 then ((some (va_up M sz (some (.inr (.inr (3, (a2 : Int32).toNatClampNeg, fun _ => none)))))).bind fun M3 => some ((some sz), M3, (sz + 1))) else none) else (none)) : Option (Option Nat × Mem × Nat)).bind fun o5 => (aL o5.2.1 a1).bind fun v6 => (cR B o5.2.1 a1 (0 : Int32) o5.1 (0 : Int32) (if a2 < v6 then a2 else v6)).bind fun M7 => some (o5.1, M7, o5.2.2)
def rmJ7_copyOf_6403c : Room := { frames := 1, cells := 1, slots := 80, locals := 60 }
theorem k_J7_copyOf_6403c_cm110 : Cond.classLink RJ7 110 "[Ljava/lang/Object;" ∈ wsJ7_copyOf_6403c := List.mem_of_getElem? (i := 1) rfl
theorem k_J7_copyOf_6403c_an2 : Cond.classLink RJ7 2 "java/lang/Object" ∈ wsJ7_copyOf_6403c := List.mem_of_getElem? (i := 2) rfl
theorem k_J7_copyOf_6403c_min304_0 : Cond.methodLink RJ7 304 Lib.Math.min.name ∈ wsJ7_copyOf_6403c := List.mem_of_getElem? (i := 3) rfl
theorem k_J7_copyOf_6403c_min304_1 : Cond.static Lib.Math.min.name ∈ wsJ7_copyOf_6403c := List.mem_of_getElem? (i := 4) rfl
theorem k_J7_copyOf_6403c_min304_2 : Cond.initialized "java/lang/Math" ∈ wsJ7_copyOf_6403c := List.mem_of_getElem? (i := 5) rfl
theorem k_J7_copyOf_6403c_min304_3 : Cond.code Lib.Math.min.name Lib.Math.min.code 2 (some .int) ∈ wsJ7_copyOf_6403c := List.mem_of_getElem? (i := 6) rfl
theorem k_J7_copyOf_6403c_cp150_0 : Cond.methodLink RJ7 150 arraycopyName ∈ wsJ7_copyOf_6403c := List.mem_of_getElem? (i := 7) rfl
theorem k_J7_copyOf_6403c_cp150_1 : Cond.native arraycopyName ∈ wsJ7_copyOf_6403c := List.mem_of_getElem? (i := 8) rfl
theorem k_J7_copyOf_6403c_cp150_2 : Cond.static arraycopyName ∈ wsJ7_copyOf_6403c := List.mem_of_getElem? (i := 9) rfl
theorem k_J7_copyOf_6403c_cp150_3 : Cond.initialized "java/lang/System" ∈ wsJ7_copyOf_6403c := List.mem_of_getElem? (i := 10) rfl
set_option maxHeartbeats 4000000 in
set_option maxRecDepth 100000 in
theorem c_J7_copyOf_6403c {G : wG} {l : Launch} {M : Mem} {sz : Nat} {a1 : Option Nat} {a2 : Int32} {a3 : Option Nat} {r : Option Nat × Mem × Nat} (h : f_J7_copyOf_6403c G.2.2.1 G.2.2.2 M sz a1 a2 a3 = some r) : CtrQ G l yJ7_copyOf_6403c wsJ7_copyOf_6403c rmJ7_copyOf_6403c [va_rf a1, .int a2, va_rf a3] M sz r.1 r.2.1 r.2.2 := by
  refine m_startQ (own := RJ7) (cc := cJ7_copyOf_6403c) (maxL := 4) (lv0 := [(0, va_rf a1), (1, .int a2), (2, va_rf a3)]) (by decide) rfl rfl (by simp [lg_sl, va_rf_cat, cat_i, cat_r]) (by simp [lv_args, va_rf_cat, cat_i, cat_r]) (Or.inr ⟨_, rfl⟩) ?_
  intro p e s m args below meth c Q hC hname RET hsz hw ls hl
  have hx := hC.1
  have hb := hC.2.1
  unfold f_J7_copyOf_6403c at h
  refine m_aload_n (x := a3) hx hb dJ7_copyOf_6403c_0 rfl (lv_at hl 2 rfl) ?_
  refine m_ldcM hC k_J7_copyOf_6403c_cm110 dJ7_copyOf_6403c_1 ?_
  obtain ⟨o5, ho5, h⟩ := ob h
  have J1 : ∀ (H : Heap) (locs : List Loc) (ls : Array Slot), wD G s M o5.2.1 o5.2.2 H locs → lv_has ls 4 [(0, va_rf a1), (1, .int a2)] → W p l e rmJ7_copyOf_6403c s m args below meth c H locs 1 80 Q (F0 m 24 ls [va_rf o5.1]) := by
    intro H locs ls hw hl
    refine m_astore_n (x := o5.1) (i := 3) (lv' := [(3, va_rf o5.1), (0, va_rf a1), (1, .int a2)]) hx hb dJ7_copyOf_6403c_24 rfl hl (by decide) rfl (fun ls hl => ?_)
    refine m_aload_n (x := a1) hx hb dJ7_copyOf_6403c_25 rfl (lv_at hl 1 rfl) ?_
    refine lv_iconst (v := (0 : Int32)) hx hb dJ7_copyOf_6403c_26 (by decide) ?_
    refine m_aload_n (x := o5.1) hx hb dJ7_copyOf_6403c_27 rfl (lv_at hl 0 rfl) ?_
    refine lv_iconst (v := (0 : Int32)) hx hb dJ7_copyOf_6403c_28 (by decide) ?_
    refine m_aload_n (x := a1) hx hb dJ7_copyOf_6403c_29 rfl (lv_at hl 1 rfl) ?_
    obtain ⟨v6, hv6, h⟩ := ob h
    refine m_alen (x := a1) hC hw hv6 dJ7_copyOf_6403c_30 ?_
    refine lv_iload_n hx hb dJ7_copyOf_6403c_31 rfl (lv_at hl 2 rfl) ?_
    refine va_mmin hx hb (hC.2.2.1.trans hl.1.symm) hC.2.2.2.1 (hC.tab _ k_J7_copyOf_6403c_min304_0) (hC.tab _ k_J7_copyOf_6403c_min304_1) (hC.tab _ k_J7_copyOf_6403c_min304_2) (hC.tab _ k_J7_copyOf_6403c_min304_3) (Nat.le_of_ble_eq_true rfl) (cat_13 (by simp [va_rf_cat, cat_i, cat_r, cat_l]) (Nat.le_of_ble_eq_true rfl)) (Nat.le_of_ble_eq_true rfl) (Nat.le_of_ble_eq_true rfl) dJ7_copyOf_6403c_32 ?_
    obtain ⟨M7, hM7, h⟩ := ob h
    refine m_copyR (x := a1) (y := o5.1) hC hw hM7 k_J7_copyOf_6403c_cp150_0 k_J7_copyOf_6403c_cp150_1 k_J7_copyOf_6403c_cp150_2 k_J7_copyOf_6403c_cp150_3 hl.1 (Nat.le_of_ble_eq_true rfl) (Nat.le_of_ble_eq_true rfl) (Nat.le_of_ble_eq_true rfl) dJ7_copyOf_6403c_35 (fun H locs hw => ?_)
    refine m_aload_n (x := o5.1) hx hb dJ7_copyOf_6403c_38 rfl (lv_at hl 0 rfl) ?_
    replace h := Option.some.inj h
    subst h
    exact RET hw ⟨(Nat.le_of_ble_eq_true rfl), (Nat.le_of_ble_eq_true rfl)⟩ dJ7_copyOf_6403c_39
  clear h
  replace h := ho5
  refine lv_acmp_ne (rx := a3) (ry := (some (G.2.2.2 23))) (tgt := 13) hx hb dJ7_copyOf_6403c_3 (by decide) (fun c2 => ?_) (fun c2 => ?_)
  · replace h := itf h c2
    cases h
  · replace h := itt h c2
    refine lv_iload_n hx hb dJ7_copyOf_6403c_6 rfl (lv_at hl 1 rfl) ?_
    obtain ⟨g4, h⟩ := itg h
    obtain ⟨M3, hM3, h⟩ := ob h
    refine m_anew (n := a2) (cap := 80) hC hw k_J7_copyOf_6403c_an2 g4.1 g4.2 (by decide) (Nat.le_of_ble_eq_true rfl) (Nat.le_of_ble_eq_true rfl) dJ7_copyOf_6403c_7 (fun H hw => ?_)
    rw [Option.some.inj hM3] at hw
    refine lv_goto (tgt := 24) hx hb dJ7_copyOf_6403c_10 (by decide) ?_
    replace h := Option.some.inj h
    subst h
    refine W.widen (k := 1) (n := 80) (Nat.le_of_ble_eq_true rfl) (Nat.le_of_ble_eq_true rfl) ?_
    exact J1 _ _ _ hw (lv_sub hl [0, 1] rfl)

def f_J7_copyOf_1904c (B : Nat) (S : Nat → Nat) (M : Mem) (sz : Nat) (a1 : Option Nat) (a2 : Int32) : Option (Option Nat × Mem × Nat) := if isR3 M a1 = true then ((f_J7_copyOf_6403c B S M sz a1 a2 (some (S 23))).bind fun r2 => some (r2.1, r2.2.1, r2.2.2)) else none
def rmJ7_copyOf_1904c : Room := { frames := 2, cells := 1, slots := 80, locals := 83 }
theorem k_J7_copyOf_1904c_gc86_0 : Cond.methodLink RJ7 86 ⟨"java/lang/Object", "getClass", "()Ljava/lang/Class;"⟩ ∈ wsJ7_copyOf_1904c := List.mem_of_getElem? (i := 1) rfl
theorem k_J7_copyOf_1904c_gc86_1 : Cond.selects "[Ljava/lang/Object;" ⟨"java/lang/Object", "getClass", "()Ljava/lang/Class;"⟩ ⟨"java/lang/Object", "getClass", "()Ljava/lang/Class;"⟩ ∈ wsJ7_copyOf_1904c := List.mem_of_getElem? (i := 2) rfl
theorem k_J7_copyOf_1904c_gc86_2 : Cond.instanceMethod ⟨"java/lang/Object", "getClass", "()Ljava/lang/Class;"⟩ ∈ wsJ7_copyOf_1904c := List.mem_of_getElem? (i := 3) rfl
theorem k_J7_copyOf_1904c_gc86_3 : Cond.native ⟨"java/lang/Object", "getClass", "()Ljava/lang/Class;"⟩ ∈ wsJ7_copyOf_1904c := List.mem_of_getElem? (i := 4) rfl
set_option maxHeartbeats 4000000 in
set_option maxRecDepth 100000 in
theorem c_J7_copyOf_1904c {G : wG} {l : Launch} {M : Mem} {sz : Nat} {a1 : Option Nat} {a2 : Int32} {r : Option Nat × Mem × Nat} (h : f_J7_copyOf_1904c G.2.2.1 G.2.2.2 M sz a1 a2 = some r) : CtrQ G l yJ7_copyOf_1904c wsJ7_copyOf_1904c rmJ7_copyOf_1904c [va_rf a1, .int a2] M sz r.1 r.2.1 r.2.2 := by
  refine m_startQ (own := RJ7) (cc := cJ7_copyOf_1904c) (maxL := 2) (lv0 := [(0, va_rf a1), (1, .int a2)]) (by decide) rfl rfl (by simp [lg_sl, va_rf_cat, cat_i, cat_r]) (by simp [lv_args, va_rf_cat, cat_i, cat_r]) (Or.inr ⟨_, rfl⟩) ?_
  intro p e s m args below meth c Q hC hname RET hsz hw ls hl
  have hx := hC.1
  have hb := hC.2.1
  unfold f_J7_copyOf_1904c at h
  refine m_aload_n (x := a1) hx hb dJ7_copyOf_1904c_0 rfl (lv_at hl 0 rfl) ?_
  refine lv_iload_n hx hb dJ7_copyOf_1904c_1 rfl (lv_at hl 1 rfl) ?_
  refine m_aload_n (x := a1) hx hb dJ7_copyOf_1904c_2 rfl (lv_at hl 0 rfl) ?_
  obtain ⟨g1, h⟩ := itg h
  obtain ⟨ga, gn, gf, gx, gm⟩ := isR3.spec g1
  refine m_getC (x := a1) hC hw gx gm k_J7_copyOf_1904c_gc86_0 k_J7_copyOf_1904c_gc86_1 k_J7_copyOf_1904c_gc86_2 k_J7_copyOf_1904c_gc86_3 hl.1 (Nat.le_of_ble_eq_true rfl) (by simp [va_rf_cat, cat_i, cat_r, cat_l]) (Nat.le_of_ble_eq_true rfl) dJ7_copyOf_1904c_3 ?_
  obtain ⟨r2, hr2, h⟩ := ob h
  refine m_contQ hC hw (m_runS hC hw (n := 3) (av := [va_rf a1, .int a2, va_rf (some (G.2.2.2 23))]) (rest := []) (c_J7_copyOf_6403c (G := G) (l := l) hr2) gJ7_copyOf_1904c_J7_copyOf_6403c rfl (by decide +kernel) ⟨(Nat.le_of_ble_eq_true rfl), (Nat.le_of_ble_eq_true rfl)⟩ rfl hl.1 rfl (Nat.le_of_ble_eq_true rfl) dJ7_copyOf_1904c_6 ⟨(Nat.le_of_ble_eq_true rfl), (Nat.le_of_ble_eq_true rfl)⟩) (fun H locs hw => ?_)
  replace h := Option.some.inj h
  subst h
  exact RET hw ⟨(Nat.le_of_ble_eq_true rfl), (Nat.le_of_ble_eq_true rfl)⟩ dJ7_copyOf_1904c_9

def f_Jx4a65c_grow_92f84 (B : Nat) (S : Nat → Nat) (M : Mem) (sz : Nat) (this : Option Nat) (a1 : Int32) : Option (Option Nat × Mem × Nat) := (gR M this 2 1).bind fun v1 => (aL M v1).bind fun v2 => if 0 < v2 then ((f_J8_newLength_cabcc M v2 (a1 - v2) (v2 >>> ((1 : Int32) &&& 31))).bind fun r4 => (gR M this 2 1).bind fun v5 => (f_J7_copyOf_1904c B S M sz v5 r4).bind fun r6 => (pF B r6.2.1 this 2 1 (va_rf r6.1)).bind fun M7 => some (r6.1, M7, r6.2.2)) else ((gR M this 2 1).bind fun v8 => if v8 = (some (S 20)) then (if ¬ (if (10 : Int32) < a1 then a1 else (10 : Int32)) < 0 ∧ ((if (10 : Int32) < a1 then a1 else (10 : Int32)) : Int32).toNatClampNeg ≤ 80 then ((some (va_up M sz (some (.inr (.inr (3, ((if (10 : Int32) < a1 then a1 else (10 : Int32)) : Int32).toNatClampNeg, fun _ => none)))))).bind fun M10 => (pF B M10 this 2 1 (va_rf (some sz))).bind fun M12 => some ((some sz), M12, (sz + 1))) else none) else ((f_J8_newLength_cabcc M v2 (a1 - v2) (v2 >>> ((1 : Int32) &&& 31))).bind fun r13 => (gR M this 2 1).bind fun v14 => (f_J7_copyOf_1904c B S M sz v14 r13).bind fun r15 => (pF B r15.2.1 this 2 1 (va_rf r15.1)).bind fun M16 => some (r15.1, M16, r15.2.2)))
def rmJx4a65c_grow_92f84 : Room := { frames := 3, cells := 1, slots := 80, locals := 104 }
theorem k_Jx4a65c_grow_92f84_9 : Cond.fieldLink RJx4a65c 9 "java/util/ArrayList" "elementData" "[Ljava/lang/Object;" ∈ wsJx4a65c_grow_92f84 := List.mem_of_getElem? (i := 1) rfl
theorem ki_Jx4a65c_grow_92f84_Jx4a65c : ∀ w ∈ u_ws RJx4a65c TJx4a65c 3, w ∈ wsJx4a65c_grow_92f84 := sub_r [37, 38, 39] (by decide +kernel)
theorem k_Jx4a65c_grow_92f84_39 : Cond.fieldLink RJx4a65c 39 "java/util/ArrayList" "DEFAULTCAPACITY_EMPTY_ELEMENTDATA" "[Ljava/lang/Object;" ∈ wsJx4a65c_grow_92f84 := List.mem_of_getElem? (i := 2) rfl
theorem k_Jx4a65c_grow_92f84_max79_0 : Cond.methodLink RJx4a65c 79 Lib.Math.max.name ∈ wsJx4a65c_grow_92f84 := List.mem_of_getElem? (i := 3) rfl
theorem k_Jx4a65c_grow_92f84_max79_1 : Cond.static Lib.Math.max.name ∈ wsJx4a65c_grow_92f84 := List.mem_of_getElem? (i := 4) rfl
theorem k_Jx4a65c_grow_92f84_max79_2 : Cond.initialized "java/lang/Math" ∈ wsJx4a65c_grow_92f84 := List.mem_of_getElem? (i := 5) rfl
theorem k_Jx4a65c_grow_92f84_max79_3 : Cond.code Lib.Math.max.name Lib.Math.max.code 2 (some .int) ∈ wsJx4a65c_grow_92f84 := List.mem_of_getElem? (i := 6) rfl
theorem k_Jx4a65c_grow_92f84_an7 : Cond.classLink RJx4a65c 7 "java/lang/Object" ∈ wsJx4a65c_grow_92f84 := List.mem_of_getElem? (i := 7) rfl
set_option maxHeartbeats 4000000 in
set_option maxRecDepth 100000 in
theorem c_Jx4a65c_grow_92f84 {G : wG} {l : Launch} {M : Mem} {sz : Nat} {this : Option Nat} {a1 : Int32} {r : Option Nat × Mem × Nat} (h : f_Jx4a65c_grow_92f84 G.2.2.1 G.2.2.2 M sz this a1 = some r) : CtrQ G l yJx4a65c_grow_92f84 wsJx4a65c_grow_92f84 rmJx4a65c_grow_92f84 [va_rf this, .int a1] M sz r.1 r.2.1 r.2.2 := by
  refine m_startQ (own := RJx4a65c) (cc := cJx4a65c_grow_92f84) (maxL := 4) (lv0 := [(0, va_rf this), (1, .int a1)]) (by decide) rfl rfl (by simp [lg_sl, va_rf_cat, cat_i, cat_r]) (by simp [lv_args, va_rf_cat, cat_i, cat_r]) (Or.inr ⟨_, rfl⟩) ?_
  intro p e s m args below meth c Q hC hname RET hsz hw ls hl
  have hx := hC.1
  have hb := hC.2.1
  unfold f_Jx4a65c_grow_92f84 at h
  refine m_aload_n (x := this) hx hb dJx4a65c_grow_92f84_0 rfl (lv_at hl 0 rfl) ?_
  obtain ⟨v1, hv1, h⟩ := ob h
  refine m_getR hC hw (C := RJx4a65c) (T := TJx4a65c) (N := 3) hv1 ki_Jx4a65c_grow_92f84_Jx4a65c rfl (by decide) k_Jx4a65c_grow_92f84_9 (fun _ z => z) dJx4a65c_grow_92f84_1 ?_
  obtain ⟨v2, hv2, h⟩ := ob h
  refine m_alen (x := v1) hC hw hv2 dJx4a65c_grow_92f84_4 ?_
  refine lv_istore_n (i := 2) (lv' := [(2, .int v2), (0, va_rf this), (1, .int a1)]) hx hb dJx4a65c_grow_92f84_5 rfl hl (by decide) rfl (fun ls hl => ?_)
  refine lv_iload_n hx hb dJx4a65c_grow_92f84_6 rfl (lv_at hl 0 rfl) ?_
  refine lv_if_gt (tgt := 20) hx hb dJx4a65c_grow_92f84_7 (by decide) (fun c3 => ?_) (fun c3 => ?_)
  · replace h := itt h c3
    refine lv_iload_n hx hb dJx4a65c_grow_92f84_20 rfl (lv_at hl 0 rfl) ?_
    refine lv_iload_n hx hb dJx4a65c_grow_92f84_21 rfl (lv_at hl 2 rfl) ?_
    refine lv_iload_n hx hb dJx4a65c_grow_92f84_22 rfl (lv_at hl 0 rfl) ?_
    refine lv_isub hx hb dJx4a65c_grow_92f84_23 ?_
    refine lv_iload_n hx hb dJx4a65c_grow_92f84_24 rfl (lv_at hl 0 rfl) ?_
    refine lv_iconst (v := (1 : Int32)) hx hb dJx4a65c_grow_92f84_25 (by decide) ?_
    refine lv_ishr hx hb dJx4a65c_grow_92f84_26 ?_
    obtain ⟨r4, hr4, h⟩ := ob h
    refine m_contI hC hw (m_runS hC hw (n := 3) (av := [.int v2, .int (a1 - v2), .int (v2 >>> ((1 : Int32) &&& 31))]) (rest := []) (c_J8_newLength_cabcc (G := G) (l := l) hr4) gJx4a65c_grow_92f84_J8_newLength_cabcc rfl (by decide +kernel) ⟨(Nat.le_of_ble_eq_true rfl), (Nat.le_of_ble_eq_true rfl)⟩ rfl hl.1 rfl (Nat.le_of_ble_eq_true rfl) dJx4a65c_grow_92f84_27 ⟨(Nat.zero_le _), (Nat.zero_le _)⟩) (fun H locs hw => ?_)
    refine lv_istore_n (i := 3) (lv' := [(3, .int r4), (2, .int v2), (0, va_rf this), (1, .int a1)]) hx hb dJx4a65c_grow_92f84_30 rfl hl (by decide) rfl (fun ls hl => ?_)
    refine m_aload_n (x := this) hx hb dJx4a65c_grow_92f84_31 rfl (lv_at hl 2 rfl) ?_
    refine m_aload_n (x := this) hx hb dJx4a65c_grow_92f84_32 rfl (lv_at hl 2 rfl) ?_
    obtain ⟨v5, hv5, h⟩ := ob h
    refine m_getR hC hw (C := RJx4a65c) (T := TJx4a65c) (N := 3) hv5 ki_Jx4a65c_grow_92f84_Jx4a65c rfl (by decide) k_Jx4a65c_grow_92f84_9 (fun _ z => z) dJx4a65c_grow_92f84_33 ?_
    refine lv_iload_n hx hb dJx4a65c_grow_92f84_36 rfl (lv_at hl 0 rfl) ?_
    obtain ⟨r6, hr6, h⟩ := ob h
    refine m_contQ hC hw (m_runS hC hw (n := 2) (av := [va_rf v5, .int r4]) (rest := [va_rf this]) (c_J7_copyOf_1904c (G := G) (l := l) hr6) gJx4a65c_grow_92f84_J7_copyOf_1904c rfl (by decide +kernel) ⟨(Nat.le_of_ble_eq_true rfl), (Nat.le_of_ble_eq_true rfl)⟩ rfl hl.1 rfl (by simp [va_rf_cat, cat_i, cat_r, cat_l]) dJx4a65c_grow_92f84_37 ⟨(Nat.le_of_ble_eq_true rfl), (Nat.le_of_ble_eq_true rfl)⟩) (fun H locs hw => ?_)
    refine lv_dup_x1 hx hb dJx4a65c_grow_92f84_40 (va_rf_cat _) (va_rf_cat _) ?_
    obtain ⟨M7, hM7, h⟩ := ob h
    refine m_put hC hw (C := RJx4a65c) (T := TJx4a65c) (N := 3) (x := this) hM7 ki_Jx4a65c_grow_92f84_Jx4a65c tyJx4a65c tyJx4a65c_ok nmJx4a65c rfl (by decide) k_Jx4a65c_grow_92f84_9 (fun _ z => z) rfl (nar_rf _ _ (by decide)) (fit_rf _ _ (by decide)) dJx4a65c_grow_92f84_41 (fun H locs hw => ?_)
    replace h := Option.some.inj h
    subst h
    exact RET hw ⟨(Nat.le_of_ble_eq_true rfl), (Nat.le_of_ble_eq_true rfl)⟩ dJx4a65c_grow_92f84_44
  · replace h := itf h c3
    refine m_aload_n (x := this) hx hb dJx4a65c_grow_92f84_10 rfl (lv_at hl 1 rfl) ?_
    obtain ⟨v8, hv8, h⟩ := ob h
    refine m_getR hC hw (C := RJx4a65c) (T := TJx4a65c) (N := 3) hv8 ki_Jx4a65c_grow_92f84_Jx4a65c rfl (by decide) k_Jx4a65c_grow_92f84_9 (fun _ z => z) dJx4a65c_grow_92f84_11 ?_
    refine m_gets (v := va_rf (some (G.2.2.2 20))) hC hw (by simp [evZ, va_rf]) k_Jx4a65c_grow_92f84_39 (fun _ z => z) dJx4a65c_grow_92f84_14 ?_
    refine lv_acmp_eq (rx := v8) (ry := (some (G.2.2.2 20))) (tgt := 45) hx hb dJx4a65c_grow_92f84_17 (by decide) (fun c9 => ?_) (fun c9 => ?_)
    · replace h := itt h c9
      refine m_aload_n (x := this) hx hb dJx4a65c_grow_92f84_45 rfl (lv_at hl 1 rfl) ?_
      refine lv_bipush (v := (10 : Int32)) hx hb dJx4a65c_grow_92f84_46 (by decide) ?_
      refine lv_iload_n hx hb dJx4a65c_grow_92f84_48 rfl (lv_at hl 2 rfl) ?_
      refine va_mmax hx hb (hC.2.2.1.trans hl.1.symm) hC.2.2.2.1 (hC.tab _ k_Jx4a65c_grow_92f84_max79_0) (hC.tab _ k_Jx4a65c_grow_92f84_max79_1) (hC.tab _ k_Jx4a65c_grow_92f84_max79_2) (hC.tab _ k_Jx4a65c_grow_92f84_max79_3) (Nat.le_of_ble_eq_true rfl) (cat_13 (by simp [va_rf_cat, cat_i, cat_r, cat_l]) (Nat.le_of_ble_eq_true rfl)) (Nat.zero_le _) (Nat.zero_le _) dJx4a65c_grow_92f84_49 ?_
      obtain ⟨g11, h⟩ := itg h
      obtain ⟨M10, hM10, h⟩ := ob h
      refine m_anew (n := (if (10 : Int32) < a1 then a1 else (10 : Int32))) (cap := 80) hC hw k_Jx4a65c_grow_92f84_an7 g11.1 g11.2 (by decide) (Nat.le_of_ble_eq_true rfl) (Nat.le_of_ble_eq_true rfl) dJx4a65c_grow_92f84_52 (fun H hw => ?_)
      rw [Option.some.inj hM10] at hw
      refine lv_dup_x1 hx hb dJx4a65c_grow_92f84_55 (va_rf_cat _) (va_rf_cat _) ?_
      obtain ⟨M12, hM12, h⟩ := ob h
      refine m_put hC hw (C := RJx4a65c) (T := TJx4a65c) (N := 3) (x := this) hM12 ki_Jx4a65c_grow_92f84_Jx4a65c tyJx4a65c tyJx4a65c_ok nmJx4a65c rfl (by decide) k_Jx4a65c_grow_92f84_9 (fun _ z => z) rfl (nar_rf _ _ (by decide)) (fit_rf _ _ (by decide)) dJx4a65c_grow_92f84_56 (fun H locs hw => ?_)
      replace h := Option.some.inj h
      subst h
      exact RET hw ⟨(Nat.le_of_ble_eq_true rfl), (Nat.le_of_ble_eq_true rfl)⟩ dJx4a65c_grow_92f84_59
    · replace h := itf h c9
      refine lv_iload_n hx hb dJx4a65c_grow_92f84_20 rfl (lv_at hl 0 rfl) ?_
      refine lv_iload_n hx hb dJx4a65c_grow_92f84_21 rfl (lv_at hl 2 rfl) ?_
      refine lv_iload_n hx hb dJx4a65c_grow_92f84_22 rfl (lv_at hl 0 rfl) ?_
      refine lv_isub hx hb dJx4a65c_grow_92f84_23 ?_
      refine lv_iload_n hx hb dJx4a65c_grow_92f84_24 rfl (lv_at hl 0 rfl) ?_
      refine lv_iconst (v := (1 : Int32)) hx hb dJx4a65c_grow_92f84_25 (by decide) ?_
      refine lv_ishr hx hb dJx4a65c_grow_92f84_26 ?_
      obtain ⟨r13, hr13, h⟩ := ob h
      refine m_contI hC hw (m_runS hC hw (n := 3) (av := [.int v2, .int (a1 - v2), .int (v2 >>> ((1 : Int32) &&& 31))]) (rest := []) (c_J8_newLength_cabcc (G := G) (l := l) hr13) gJx4a65c_grow_92f84_J8_newLength_cabcc rfl (by decide +kernel) ⟨(Nat.le_of_ble_eq_true rfl), (Nat.le_of_ble_eq_true rfl)⟩ rfl hl.1 rfl (Nat.le_of_ble_eq_true rfl) dJx4a65c_grow_92f84_27 ⟨(Nat.zero_le _), (Nat.zero_le _)⟩) (fun H locs hw => ?_)
      refine lv_istore_n (i := 3) (lv' := [(3, .int r13), (2, .int v2), (0, va_rf this), (1, .int a1)]) hx hb dJx4a65c_grow_92f84_30 rfl hl (by decide) rfl (fun ls hl => ?_)
      refine m_aload_n (x := this) hx hb dJx4a65c_grow_92f84_31 rfl (lv_at hl 2 rfl) ?_
      refine m_aload_n (x := this) hx hb dJx4a65c_grow_92f84_32 rfl (lv_at hl 2 rfl) ?_
      obtain ⟨v14, hv14, h⟩ := ob h
      refine m_getR hC hw (C := RJx4a65c) (T := TJx4a65c) (N := 3) hv14 ki_Jx4a65c_grow_92f84_Jx4a65c rfl (by decide) k_Jx4a65c_grow_92f84_9 (fun _ z => z) dJx4a65c_grow_92f84_33 ?_
      refine lv_iload_n hx hb dJx4a65c_grow_92f84_36 rfl (lv_at hl 0 rfl) ?_
      obtain ⟨r15, hr15, h⟩ := ob h
      refine m_contQ hC hw (m_runS hC hw (n := 2) (av := [va_rf v14, .int r13]) (rest := [va_rf this]) (c_J7_copyOf_1904c (G := G) (l := l) hr15) gJx4a65c_grow_92f84_J7_copyOf_1904c rfl (by decide +kernel) ⟨(Nat.le_of_ble_eq_true rfl), (Nat.le_of_ble_eq_true rfl)⟩ rfl hl.1 rfl (by simp [va_rf_cat, cat_i, cat_r, cat_l]) dJx4a65c_grow_92f84_37 ⟨(Nat.le_of_ble_eq_true rfl), (Nat.le_of_ble_eq_true rfl)⟩) (fun H locs hw => ?_)
      refine lv_dup_x1 hx hb dJx4a65c_grow_92f84_40 (va_rf_cat _) (va_rf_cat _) ?_
      obtain ⟨M16, hM16, h⟩ := ob h
      refine m_put hC hw (C := RJx4a65c) (T := TJx4a65c) (N := 3) (x := this) hM16 ki_Jx4a65c_grow_92f84_Jx4a65c tyJx4a65c tyJx4a65c_ok nmJx4a65c rfl (by decide) k_Jx4a65c_grow_92f84_9 (fun _ z => z) rfl (nar_rf _ _ (by decide)) (fit_rf _ _ (by decide)) dJx4a65c_grow_92f84_41 (fun H locs hw => ?_)
      replace h := Option.some.inj h
      subst h
      exact RET hw ⟨(Nat.le_of_ble_eq_true rfl), (Nat.le_of_ble_eq_true rfl)⟩ dJx4a65c_grow_92f84_44

def f_Jx4a65c_grow_d5877 (B : Nat) (S : Nat → Nat) (M : Mem) (sz : Nat) (this : Option Nat) : Option (Option Nat × Mem × Nat) := (gI M this 2 2).bind fun v1 => if isO M this 2 = true then ((f_Jx4a65c_grow_92f84 B S M sz this (v1 + (1 : Int32))).bind fun r3 => some (r3.1, r3.2.1, r3.2.2)) else none
def rmJx4a65c_grow_d5877 : Room := { frames := 4, cells := 1, slots := 80, locals := 127 }
theorem k_Jx4a65c_grow_d5877_48 : Cond.fieldLink RJx4a65c 48 "java/util/ArrayList" "size" "I" ∈ wsJx4a65c_grow_d5877 := List.mem_of_getElem? (i := 1) rfl
theorem ki_Jx4a65c_grow_d5877_Jx4a65c : ∀ w ∈ u_ws RJx4a65c TJx4a65c 3, w ∈ wsJx4a65c_grow_d5877 := sub_r [43, 44, 45] (by decide +kernel)
set_option maxHeartbeats 4000000 in
set_option maxRecDepth 100000 in
theorem c_Jx4a65c_grow_d5877 {G : wG} {l : Launch} {M : Mem} {sz : Nat} {this : Option Nat} {r : Option Nat × Mem × Nat} (h : f_Jx4a65c_grow_d5877 G.2.2.1 G.2.2.2 M sz this = some r) : CtrQ G l yJx4a65c_grow_d5877 wsJx4a65c_grow_d5877 rmJx4a65c_grow_d5877 [va_rf this] M sz r.1 r.2.1 r.2.2 := by
  refine m_startQ (own := RJx4a65c) (cc := cJx4a65c_grow_d5877) (maxL := 1) (lv0 := [(0, va_rf this)]) (by decide) rfl rfl (by simp [lg_sl, va_rf_cat, cat_i, cat_r]) (by simp [lv_args, va_rf_cat, cat_i, cat_r]) (Or.inr ⟨_, rfl⟩) ?_
  intro p e s m args below meth c Q hC hname RET hsz hw ls hl
  have hx := hC.1
  have hb := hC.2.1
  unfold f_Jx4a65c_grow_d5877 at h
  refine m_aload_n (x := this) hx hb dJx4a65c_grow_d5877_0 rfl (lv_at hl 0 rfl) ?_
  refine m_aload_n (x := this) hx hb dJx4a65c_grow_d5877_1 rfl (lv_at hl 0 rfl) ?_
  obtain ⟨v1, hv1, h⟩ := ob h
  refine m_getI hC hw (C := RJx4a65c) (T := TJx4a65c) (N := 3) hv1 ki_Jx4a65c_grow_d5877_Jx4a65c rfl (by decide) k_Jx4a65c_grow_d5877_48 (fun _ z => z) dJx4a65c_grow_d5877_2 ?_
  refine lv_iconst (v := (1 : Int32)) hx hb dJx4a65c_grow_d5877_5 (by decide) ?_
  refine lv_iadd hx hb dJx4a65c_grow_d5877_6 ?_
  obtain ⟨g2, h⟩ := itg h
  obtain ⟨r3, hr3, h⟩ := ob h
  refine m_contQ hC hw (m_runV hC hw (x := this) (ci := 2) (N := 3) (C := RJx4a65c) (T := TJx4a65c) (n := 1) (av := [.int (v1 + (1 : Int32))]) (rest := []) (c_Jx4a65c_grow_92f84 (G := G) (l := l) hr3) gJx4a65c_grow_d5877_Jx4a65c_grow_92f84 rfl (by decide +kernel) ⟨(Nat.le_of_ble_eq_true rfl), (Nat.le_of_ble_eq_true rfl)⟩ g2 rfl rfl hl.1 rfl (Nat.le_of_ble_eq_true rfl) dJx4a65c_grow_d5877_7 ⟨(Nat.le_of_ble_eq_true rfl), (Nat.le_of_ble_eq_true rfl)⟩) (fun H locs hw => ?_)
  replace h := Option.some.inj h
  subst h
  exact RET hw ⟨(Nat.le_of_ble_eq_true rfl), (Nat.le_of_ble_eq_true rfl)⟩ dJx4a65c_grow_d5877_10

def f_Jx4a65c_add_72be8 (B : Nat) (S : Nat → Nat) (M : Mem) (sz : Nat) (this : Option Nat) (a1 : Option Nat) (a2 : Option Nat) (a3 : Int32) : Option (Mem × Nat) := (aL M a2).bind fun v1 => ((if a3 = v1 then (if isO M this 2 = true then ((f_Jx4a65c_grow_d5877 B S M sz this).bind fun r5 => some (r5.1, r5.2.1, r5.2.2)) else none) else (some (a2, M, sz))) : Option (Option Nat × Mem × Nat)).bind fun o6 => if isE o6.2.1 a1 = true then ((sR B o6.2.1 o6.1 a3 a1).bind fun M7 => (pF B M7 this 2 2 (.int (a3 + (1 : Int32)))).bind fun M9 => some (M9, o6.2.2)) else none
def rmJx4a65c_add_72be8 : Room := { frames := 5, cells := 1, slots := 80, locals := 147 }
theorem k_Jx4a65c_add_72be8_48 : Cond.fieldLink RJx4a65c 48 "java/util/ArrayList" "size" "I" ∈ wsJx4a65c_add_72be8 := List.mem_of_getElem? (i := 1) rfl
theorem ki_Jx4a65c_add_72be8_Jx4a65c : ∀ w ∈ u_ws RJx4a65c TJx4a65c 3, w ∈ wsJx4a65c_add_72be8 := sub_r [47, 48, 49] (by decide +kernel)
set_option maxHeartbeats 4000000 in
set_option maxRecDepth 100000 in
theorem c_Jx4a65c_add_72be8 {G : wG} {l : Launch} {M : Mem} {sz : Nat} {this : Option Nat} {a1 : Option Nat} {a2 : Option Nat} {a3 : Int32} {r : Mem × Nat} (h : f_Jx4a65c_add_72be8 G.2.2.1 G.2.2.2 M sz this a1 a2 a3 = some r) : CtrV G l yJx4a65c_add_72be8 wsJx4a65c_add_72be8 rmJx4a65c_add_72be8 [va_rf this, va_rf a1, va_rf a2, .int a3] M sz r.1 r.2 := by
  refine m_startV (own := RJx4a65c) (cc := cJx4a65c_add_72be8) (maxL := 4) (lv0 := [(0, va_rf this), (1, va_rf a1), (2, va_rf a2), (3, .int a3)]) (by decide) rfl rfl (by simp [lg_sl, va_rf_cat, cat_i, cat_r]) (by simp [lv_args, va_rf_cat, cat_i, cat_r]) ?_
  intro p e s m args below meth c Q hC hname RET hsz hw ls hl
  have hx := hC.1
  have hb := hC.2.1
  unfold f_Jx4a65c_add_72be8 at h
  refine lv_iload_n hx hb dJx4a65c_add_72be8_0 rfl (lv_at hl 3 rfl) ?_
  refine m_aload_n (x := a2) hx hb dJx4a65c_add_72be8_1 rfl (lv_at hl 2 rfl) ?_
  obtain ⟨v1, hv1, h⟩ := ob h
  refine m_alen (x := a2) hC hw hv1 dJx4a65c_add_72be8_2 ?_
  obtain ⟨o6, ho6, h⟩ := ob h
  have J2 : ∀ (H : Heap) (locs : List Loc) (ls : Array Slot), wD G s M o6.2.1 o6.2.2 H locs → lv_has ls 4 [(0, va_rf this), (1, va_rf a1), (2, va_rf o6.1), (3, .int a3)] → W p l e rmJx4a65c_add_72be8 s m args below meth c H locs 1 80 Q (F0 m 11 ls []) := by
    intro H locs ls hw hl
    refine m_aload_n (x := o6.1) hx hb dJx4a65c_add_72be8_11 rfl (lv_at hl 2 rfl) ?_
    refine lv_iload_n hx hb dJx4a65c_add_72be8_12 rfl (lv_at hl 3 rfl) ?_
    refine m_aload_n (x := a1) hx hb dJx4a65c_add_72be8_13 rfl (lv_at hl 1 rfl) ?_
    obtain ⟨g8, h⟩ := itg h
    obtain ⟨M7, hM7, h⟩ := ob h
    refine m_aast (x := o6.1) hC hw g8 hM7 dJx4a65c_add_72be8_14 (fun H locs hw => ?_)
    refine m_aload_n (x := this) hx hb dJx4a65c_add_72be8_15 rfl (lv_at hl 0 rfl) ?_
    refine lv_iload_n hx hb dJx4a65c_add_72be8_16 rfl (lv_at hl 3 rfl) ?_
    refine lv_iconst (v := (1 : Int32)) hx hb dJx4a65c_add_72be8_17 (by decide) ?_
    refine lv_iadd hx hb dJx4a65c_add_72be8_18 ?_
    obtain ⟨M9, hM9, h⟩ := ob h
    refine m_put hC hw (C := RJx4a65c) (T := TJx4a65c) (N := 3) (x := this) hM9 ki_Jx4a65c_add_72be8_Jx4a65c tyJx4a65c tyJx4a65c_ok nmJx4a65c rfl (by decide) k_Jx4a65c_add_72be8_48 (fun _ z => z) rfl rfl rfl dJx4a65c_add_72be8_19 (fun H locs hw => ?_)
    replace h := Option.some.inj h
    subst h
    exact RET hw ⟨(Nat.le_of_ble_eq_true rfl), (Nat.le_of_ble_eq_true rfl)⟩ dJx4a65c_add_72be8_22
  clear h
  replace h := ho6
  refine lv_icmp_ne (tgt := 11) hx hb dJx4a65c_add_72be8_3 (by decide) (fun c3 => ?_) (fun c3 => ?_)
  · replace h := itf h c3
    replace h := Option.some.inj h
    subst h
    refine W.widen (k := 1) (n := 80) (Nat.le_of_ble_eq_true rfl) (Nat.le_of_ble_eq_true rfl) ?_
    exact J2 _ _ _ hw (lv_sub hl [0, 1, 2, 3] rfl)
  · replace h := itt h c3
    refine m_aload_n (x := this) hx hb dJx4a65c_add_72be8_6 rfl (lv_at hl 0 rfl) ?_
    obtain ⟨g4, h⟩ := itg h
    obtain ⟨r5, hr5, h⟩ := ob h
    refine m_contQ hC hw (m_runV hC hw (x := this) (ci := 2) (N := 3) (C := RJx4a65c) (T := TJx4a65c) (n := 0) (av := []) (rest := []) (c_Jx4a65c_grow_d5877 (G := G) (l := l) hr5) gJx4a65c_add_72be8_Jx4a65c_grow_d5877 rfl (by decide +kernel) ⟨(Nat.le_of_ble_eq_true rfl), (Nat.le_of_ble_eq_true rfl)⟩ g4 rfl rfl hl.1 rfl (Nat.le_of_ble_eq_true rfl) dJx4a65c_add_72be8_7 ⟨(Nat.le_of_ble_eq_true rfl), (Nat.le_of_ble_eq_true rfl)⟩) (fun H locs hw => ?_)
    refine m_astore_n (x := r5.1) (i := 2) (lv' := [(2, va_rf r5.1), (0, va_rf this), (1, va_rf a1), (3, .int a3)]) hx hb dJx4a65c_add_72be8_10 rfl hl (by decide) (by simp [va_rf_cat, cat_i, cat_l]) (fun ls hl => ?_)
    replace h := Option.some.inj h
    subst h
    refine W.widen (k := 1) (n := 80) (Nat.le_of_ble_eq_true rfl) (Nat.le_of_ble_eq_true rfl) ?_
    exact J2 _ _ _ hw (lv_sub hl [1, 2, 0, 3] rfl)

def f_Jx4a65c_add_9ea2d (B : Nat) (S : Nat → Nat) (M : Mem) (sz : Nat) (this : Option Nat) (a1 : Option Nat) : Option (Int32 × Mem × Nat) := (gI M this 2 0).bind fun v1 => (pF B M this 2 0 (.int (v1 + (1 : Int32)))).bind fun M2 => (gR M2 this 2 1).bind fun v3 => (gI M2 this 2 2).bind fun v4 => if isO M2 this 2 = true then ((f_Jx4a65c_add_72be8 B S M2 sz this a1 v3 v4).bind fun r6 => some ((1 : Int32), r6.1, r6.2)) else none
def rmJx4a65c_add_9ea2d : Room := { frames := 6, cells := 1, slots := 80, locals := 170 }
theorem k_Jx4a65c_add_9ea2d_63 : Cond.fieldLink RJx4a65c 63 "java/util/ArrayList" "modCount" "I" ∈ wsJx4a65c_add_9ea2d := List.mem_of_getElem? (i := 1) rfl
theorem ki_Jx4a65c_add_9ea2d_Jx4a65c : ∀ w ∈ u_ws RJx4a65c TJx4a65c 3, w ∈ wsJx4a65c_add_9ea2d := sub_r [53, 54, 55] (by decide +kernel)
theorem k_Jx4a65c_add_9ea2d_sfmodCount : Cond.sameField "java/util/ArrayList" "java/util/AbstractList" "modCount" "I" ∈ wsJx4a65c_add_9ea2d := List.mem_of_getElem? (i := 2) rfl
theorem k_Jx4a65c_add_9ea2d_9 : Cond.fieldLink RJx4a65c 9 "java/util/ArrayList" "elementData" "[Ljava/lang/Object;" ∈ wsJx4a65c_add_9ea2d := List.mem_of_getElem? (i := 3) rfl
theorem k_Jx4a65c_add_9ea2d_48 : Cond.fieldLink RJx4a65c 48 "java/util/ArrayList" "size" "I" ∈ wsJx4a65c_add_9ea2d := List.mem_of_getElem? (i := 4) rfl
set_option maxHeartbeats 4000000 in
set_option maxRecDepth 100000 in
theorem c_Jx4a65c_add_9ea2d {G : wG} {l : Launch} {M : Mem} {sz : Nat} {this : Option Nat} {a1 : Option Nat} {r : Int32 × Mem × Nat} (h : f_Jx4a65c_add_9ea2d G.2.2.1 G.2.2.2 M sz this a1 = some r) : CtrI G l yJx4a65c_add_9ea2d wsJx4a65c_add_9ea2d rmJx4a65c_add_9ea2d [va_rf this, va_rf a1] M sz r.1 r.2.1 r.2.2 := by
  refine m_startZ (own := RJx4a65c) (cc := cJx4a65c_add_9ea2d) (maxL := 2) (lv0 := [(0, va_rf this), (1, va_rf a1)]) (by decide) rfl rfl (by simp [lg_sl, va_rf_cat, cat_i, cat_r]) (by simp [lv_args, va_rf_cat, cat_i, cat_r]) ?_
  intro p e s m args below meth c Q hC hname RET hsz hw ls hl
  have hx := hC.1
  have hb := hC.2.1
  unfold f_Jx4a65c_add_9ea2d at h
  refine m_aload_n (x := this) hx hb dJx4a65c_add_9ea2d_0 rfl (lv_at hl 0 rfl) ?_
  refine m_dup (x := this) hx hb dJx4a65c_add_9ea2d_1 ?_
  obtain ⟨v1, hv1, h⟩ := ob h
  refine m_getI hC hw (C := RJx4a65c) (T := TJx4a65c) (N := 3) hv1 ki_Jx4a65c_add_9ea2d_Jx4a65c rfl (by decide) k_Jx4a65c_add_9ea2d_63 (fun x9 h9 => u_same (hC.tab _ k_Jx4a65c_add_9ea2d_sfmodCount) x9 h9) dJx4a65c_add_9ea2d_2 ?_
  refine lv_iconst (v := (1 : Int32)) hx hb dJx4a65c_add_9ea2d_5 (by decide) ?_
  refine lv_iadd hx hb dJx4a65c_add_9ea2d_6 ?_
  obtain ⟨M2, hM2, h⟩ := ob h
  refine m_put hC hw (C := RJx4a65c) (T := TJx4a65c) (N := 3) (x := this) hM2 ki_Jx4a65c_add_9ea2d_Jx4a65c tyJx4a65c tyJx4a65c_ok nmJx4a65c rfl (by decide) k_Jx4a65c_add_9ea2d_63 (fun x9 h9 => u_same (hC.tab _ k_Jx4a65c_add_9ea2d_sfmodCount) x9 h9) rfl rfl rfl dJx4a65c_add_9ea2d_7 (fun H locs hw => ?_)
  refine m_aload_n (x := this) hx hb dJx4a65c_add_9ea2d_10 rfl (lv_at hl 0 rfl) ?_
  refine m_aload_n (x := a1) hx hb dJx4a65c_add_9ea2d_11 rfl (lv_at hl 1 rfl) ?_
  refine m_aload_n (x := this) hx hb dJx4a65c_add_9ea2d_12 rfl (lv_at hl 0 rfl) ?_
  obtain ⟨v3, hv3, h⟩ := ob h
  refine m_getR hC hw (C := RJx4a65c) (T := TJx4a65c) (N := 3) hv3 ki_Jx4a65c_add_9ea2d_Jx4a65c rfl (by decide) k_Jx4a65c_add_9ea2d_9 (fun _ z => z) dJx4a65c_add_9ea2d_13 ?_
  refine m_aload_n (x := this) hx hb dJx4a65c_add_9ea2d_16 rfl (lv_at hl 0 rfl) ?_
  obtain ⟨v4, hv4, h⟩ := ob h
  refine m_getI hC hw (C := RJx4a65c) (T := TJx4a65c) (N := 3) hv4 ki_Jx4a65c_add_9ea2d_Jx4a65c rfl (by decide) k_Jx4a65c_add_9ea2d_48 (fun _ z => z) dJx4a65c_add_9ea2d_17 ?_
  obtain ⟨g5, h⟩ := itg h
  obtain ⟨r6, hr6, h⟩ := ob h
  refine m_contV hC hw (m_runV hC hw (x := this) (ci := 2) (N := 3) (C := RJx4a65c) (T := TJx4a65c) (n := 3) (av := [va_rf a1, va_rf v3, .int v4]) (rest := []) (c_Jx4a65c_add_72be8 (G := G) (l := l) hr6) gJx4a65c_add_9ea2d_Jx4a65c_add_72be8 rfl (by decide +kernel) ⟨(Nat.le_of_ble_eq_true rfl), (Nat.le_of_ble_eq_true rfl)⟩ g5 rfl rfl hl.1 rfl (Nat.le_of_ble_eq_true rfl) dJx4a65c_add_9ea2d_20 ⟨(Nat.le_of_ble_eq_true rfl), (Nat.le_of_ble_eq_true rfl)⟩) (fun H locs hw => ?_)
  refine lv_iconst (v := (1 : Int32)) hx hb dJx4a65c_add_9ea2d_23 (by decide) ?_
  replace h := Option.some.inj h
  subst h
  exact RET (isZ.nar (Or.inr rfl)) hw ⟨(Nat.le_of_ble_eq_true rfl), (Nat.le_of_ble_eq_true rfl)⟩ dJx4a65c_add_9ea2d_24

def f_J15_checkIndex_7cf53 (M : Mem) (a1 : Int32) (a2 : Int32) : Option (Int32) := (f_J3_checkIndex_8e157 M a1 a2 none).bind fun r1 => some (r1)
def rmJ15_checkIndex_7cf53 : Room := { frames := 1, cells := 0, slots := 0, locals := 22 }
set_option maxHeartbeats 4000000 in
set_option maxRecDepth 100000 in
theorem c_J15_checkIndex_7cf53 {G : wG} {l : Launch} {M : Mem} {sz : Nat} {a1 : Int32} {a2 : Int32} {r : Int32} (h : f_J15_checkIndex_7cf53 M a1 a2 = some r) : CtrI G l yJ15_checkIndex_7cf53 wsJ15_checkIndex_7cf53 rmJ15_checkIndex_7cf53 [.int a1, .int a2] M sz r M sz := by
  refine m_startI (own := RJ15) (cc := cJ15_checkIndex_7cf53) (maxL := 2) (lv0 := [(0, .int a1), (1, .int a2)]) (by decide) rfl rfl (by simp [lg_sl, va_rf_cat, cat_i, cat_r]) (by simp [lv_args, va_rf_cat, cat_i, cat_r]) ?_
  intro p e s m args below meth c Q hC hname RET hsz hw ls hl
  have hx := hC.1
  have hb := hC.2.1
  unfold f_J15_checkIndex_7cf53 at h
  refine lv_iload_n hx hb dJ15_checkIndex_7cf53_0 rfl (lv_at hl 0 rfl) ?_
  refine lv_iload_n hx hb dJ15_checkIndex_7cf53_1 rfl (lv_at hl 1 rfl) ?_
  refine lv_null hx hb dJ15_checkIndex_7cf53_2 ?_
  obtain ⟨r1, hr1, h⟩ := ob h
  refine m_contI hC hw (m_runS hC hw (n := 3) (av := [.int a1, .int a2, va_rf none]) (rest := []) (c_J3_checkIndex_8e157 (G := G) (l := l) hr1) gJ15_checkIndex_7cf53_J3_checkIndex_8e157 rfl (by decide +kernel) ⟨(Nat.le_of_ble_eq_true rfl), (Nat.le_of_ble_eq_true rfl)⟩ rfl hl.1 rfl (Nat.le_of_ble_eq_true rfl) dJ15_checkIndex_7cf53_3 ⟨(Nat.zero_le _), (Nat.zero_le _)⟩) (fun H locs hw => ?_)
  replace h := Option.some.inj h
  subst h
  exact RET hw ⟨(Nat.zero_le _), (Nat.zero_le _)⟩ dJ15_checkIndex_7cf53_6

def f_Jx4a65c_elementData_915e3 (M : Mem) (this : Option Nat) (a1 : Int32) : Option (Option Nat) := (gR M this 2 1).bind fun v1 => (aR M v1 a1).bind fun v2 => some (v2)
def rmJx4a65c_elementData_915e3 : Room := { frames := 0, cells := 0, slots := 0, locals := 0 }
theorem k_Jx4a65c_elementData_915e3_9 : Cond.fieldLink RJx4a65c 9 "java/util/ArrayList" "elementData" "[Ljava/lang/Object;" ∈ wsJx4a65c_elementData_915e3 := List.mem_of_getElem? (i := 1) rfl
theorem ki_Jx4a65c_elementData_915e3_Jx4a65c : ∀ w ∈ u_ws RJx4a65c TJx4a65c 3, w ∈ wsJx4a65c_elementData_915e3 := sub_r [2, 3, 4] (by decide +kernel)
set_option maxHeartbeats 4000000 in
set_option maxRecDepth 100000 in
theorem c_Jx4a65c_elementData_915e3 {G : wG} {l : Launch} {M : Mem} {sz : Nat} {this : Option Nat} {a1 : Int32} {r : Option Nat} (h : f_Jx4a65c_elementData_915e3 M this a1 = some r) : CtrQ G l yJx4a65c_elementData_915e3 wsJx4a65c_elementData_915e3 rmJx4a65c_elementData_915e3 [va_rf this, .int a1] M sz r M sz := by
  refine m_startQ (own := RJx4a65c) (cc := cJx4a65c_elementData_915e3) (maxL := 2) (lv0 := [(0, va_rf this), (1, .int a1)]) (by decide) rfl rfl (by simp [lg_sl, va_rf_cat, cat_i, cat_r]) (by simp [lv_args, va_rf_cat, cat_i, cat_r]) (Or.inl ⟨_, rfl⟩) ?_
  intro p e s m args below meth c Q hC hname RET hsz hw ls hl
  have hx := hC.1
  have hb := hC.2.1
  unfold f_Jx4a65c_elementData_915e3 at h
  refine m_aload_n (x := this) hx hb dJx4a65c_elementData_915e3_0 rfl (lv_at hl 0 rfl) ?_
  obtain ⟨v1, hv1, h⟩ := ob h
  refine m_getR hC hw (C := RJx4a65c) (T := TJx4a65c) (N := 3) hv1 ki_Jx4a65c_elementData_915e3_Jx4a65c rfl (by decide) k_Jx4a65c_elementData_915e3_9 (fun _ z => z) dJx4a65c_elementData_915e3_1 ?_
  refine lv_iload_n hx hb dJx4a65c_elementData_915e3_4 rfl (lv_at hl 1 rfl) ?_
  obtain ⟨v2, hv2, h⟩ := ob h
  refine m_aald (x := v1) hC hw hv2 dJx4a65c_elementData_915e3_5 ?_
  replace h := Option.some.inj h
  subst h
  exact RET hw ⟨(Nat.zero_le _), (Nat.zero_le _)⟩ dJx4a65c_elementData_915e3_6

def f_Jx4a65c_get_915e3 (M : Mem) (this : Option Nat) (a1 : Int32) : Option (Option Nat) := (gI M this 2 2).bind fun v1 => (f_J15_checkIndex_7cf53 M a1 v1).bind fun r2 => if isO M this 2 = true then ((f_Jx4a65c_elementData_915e3 M this a1).bind fun r4 => some (r4)) else none
def rmJx4a65c_get_915e3 : Room := { frames := 2, cells := 0, slots := 0, locals := 43 }
theorem k_Jx4a65c_get_915e3_48 : Cond.fieldLink RJx4a65c 48 "java/util/ArrayList" "size" "I" ∈ wsJx4a65c_get_915e3 := List.mem_of_getElem? (i := 1) rfl
theorem ki_Jx4a65c_get_915e3_Jx4a65c : ∀ w ∈ u_ws RJx4a65c TJx4a65c 3, w ∈ wsJx4a65c_get_915e3 := sub_r [16, 17, 18] (by decide +kernel)
set_option maxHeartbeats 4000000 in
set_option maxRecDepth 100000 in
theorem c_Jx4a65c_get_915e3 {G : wG} {l : Launch} {M : Mem} {sz : Nat} {this : Option Nat} {a1 : Int32} {r : Option Nat} (h : f_Jx4a65c_get_915e3 M this a1 = some r) : CtrQ G l yJx4a65c_get_915e3 wsJx4a65c_get_915e3 rmJx4a65c_get_915e3 [va_rf this, .int a1] M sz r M sz := by
  refine m_startQ (own := RJx4a65c) (cc := cJx4a65c_get_915e3) (maxL := 2) (lv0 := [(0, va_rf this), (1, .int a1)]) (by decide) rfl rfl (by simp [lg_sl, va_rf_cat, cat_i, cat_r]) (by simp [lv_args, va_rf_cat, cat_i, cat_r]) (Or.inl ⟨_, rfl⟩) ?_
  intro p e s m args below meth c Q hC hname RET hsz hw ls hl
  have hx := hC.1
  have hb := hC.2.1
  unfold f_Jx4a65c_get_915e3 at h
  refine lv_iload_n hx hb dJx4a65c_get_915e3_0 rfl (lv_at hl 1 rfl) ?_
  refine m_aload_n (x := this) hx hb dJx4a65c_get_915e3_1 rfl (lv_at hl 0 rfl) ?_
  obtain ⟨v1, hv1, h⟩ := ob h
  refine m_getI hC hw (C := RJx4a65c) (T := TJx4a65c) (N := 3) hv1 ki_Jx4a65c_get_915e3_Jx4a65c rfl (by decide) k_Jx4a65c_get_915e3_48 (fun _ z => z) dJx4a65c_get_915e3_2 ?_
  obtain ⟨r2, hr2, h⟩ := ob h
  refine m_contI hC hw (m_runS hC hw (n := 2) (av := [.int a1, .int v1]) (rest := []) (c_J15_checkIndex_7cf53 (G := G) (l := l) hr2) gJx4a65c_get_915e3_J15_checkIndex_7cf53 rfl (by decide +kernel) ⟨(Nat.le_of_ble_eq_true rfl), (Nat.le_of_ble_eq_true rfl)⟩ rfl hl.1 rfl (Nat.le_of_ble_eq_true rfl) dJx4a65c_get_915e3_5 ⟨(Nat.zero_le _), (Nat.zero_le _)⟩) (fun H locs hw => ?_)
  refine lv_pop hx hb dJx4a65c_get_915e3_8 rfl ?_
  refine m_aload_n (x := this) hx hb dJx4a65c_get_915e3_9 rfl (lv_at hl 0 rfl) ?_
  refine lv_iload_n hx hb dJx4a65c_get_915e3_10 rfl (lv_at hl 1 rfl) ?_
  obtain ⟨g3, h⟩ := itg h
  obtain ⟨r4, hr4, h⟩ := ob h
  refine m_contQ hC hw (m_runV hC hw (x := this) (ci := 2) (N := 3) (C := RJx4a65c) (T := TJx4a65c) (n := 1) (av := [.int a1]) (rest := []) (c_Jx4a65c_elementData_915e3 (G := G) (l := l) hr4) gJx4a65c_get_915e3_Jx4a65c_elementData_915e3 rfl (by decide +kernel) ⟨(Nat.le_of_ble_eq_true rfl), (Nat.le_of_ble_eq_true rfl)⟩ g3 rfl rfl hl.1 rfl (Nat.le_of_ble_eq_true rfl) dJx4a65c_get_915e3_11 ⟨(Nat.zero_le _), (Nat.zero_le _)⟩) (fun H locs hw => ?_)
  replace h := Option.some.inj h
  subst h
  exact RET hw ⟨(Nat.zero_le _), (Nat.zero_le _)⟩ dJx4a65c_get_915e3_14

def f_Jx4a65c_rangeCheckForAdd_d00df (M : Mem) (this : Option Nat) (a1 : Int32) : Option (Unit) := (gI M this 2 2).bind fun v1 => if v1 < a1 then (none) else (if 0 ≤ a1 then (some ()) else (none))
def rmJx4a65c_rangeCheckForAdd_d00df : Room := { frames := 0, cells := 0, slots := 0, locals := 0 }
theorem k_Jx4a65c_rangeCheckForAdd_d00df_48 : Cond.fieldLink RJx4a65c 48 "java/util/ArrayList" "size" "I" ∈ wsJx4a65c_rangeCheckForAdd_d00df := List.mem_of_getElem? (i := 1) rfl
theorem ki_Jx4a65c_rangeCheckForAdd_d00df_Jx4a65c : ∀ w ∈ u_ws RJx4a65c TJx4a65c 3, w ∈ wsJx4a65c_rangeCheckForAdd_d00df := sub_r [2, 3, 4] (by decide +kernel)
set_option maxHeartbeats 4000000 in
set_option maxRecDepth 100000 in
theorem c_Jx4a65c_rangeCheckForAdd_d00df {G : wG} {l : Launch} {M : Mem} {sz : Nat} {this : Option Nat} {a1 : Int32} {r : Unit} (h : f_Jx4a65c_rangeCheckForAdd_d00df M this a1 = some r) : CtrV G l yJx4a65c_rangeCheckForAdd_d00df wsJx4a65c_rangeCheckForAdd_d00df rmJx4a65c_rangeCheckForAdd_d00df [va_rf this, .int a1] M sz M sz := by
  refine m_startV (own := RJx4a65c) (cc := cJx4a65c_rangeCheckForAdd_d00df) (maxL := 2) (lv0 := [(0, va_rf this), (1, .int a1)]) (by decide) rfl rfl (by simp [lg_sl, va_rf_cat, cat_i, cat_r]) (by simp [lv_args, va_rf_cat, cat_i, cat_r]) ?_
  intro p e s m args below meth c Q hC hname RET hsz hw ls hl
  have hx := hC.1
  have hb := hC.2.1
  unfold f_Jx4a65c_rangeCheckForAdd_d00df at h
  refine lv_iload_n hx hb dJx4a65c_rangeCheckForAdd_d00df_0 rfl (lv_at hl 1 rfl) ?_
  refine m_aload_n (x := this) hx hb dJx4a65c_rangeCheckForAdd_d00df_1 rfl (lv_at hl 0 rfl) ?_
  obtain ⟨v1, hv1, h⟩ := ob h
  refine m_getI hC hw (C := RJx4a65c) (T := TJx4a65c) (N := 3) hv1 ki_Jx4a65c_rangeCheckForAdd_d00df_Jx4a65c rfl (by decide) k_Jx4a65c_rangeCheckForAdd_d00df_48 (fun _ z => z) dJx4a65c_rangeCheckForAdd_d00df_2 ?_
  refine lv_icmp_gt (tgt := 12) hx hb dJx4a65c_rangeCheckForAdd_d00df_5 (by decide) (fun c2 => ?_) (fun c2 => ?_)
  · replace h := itt h c2
    cases h
  · replace h := itf h c2
    refine lv_iload_n hx hb dJx4a65c_rangeCheckForAdd_d00df_8 rfl (lv_at hl 1 rfl) ?_
    refine lv_if_ge (tgt := 25) hx hb dJx4a65c_rangeCheckForAdd_d00df_9 (by decide) (fun c3 => ?_) (fun c3 => ?_)
    · replace h := itt h c3
      replace h := Option.some.inj h
      subst h
      exact RET hw ⟨(Nat.zero_le _), (Nat.zero_le _)⟩ dJx4a65c_rangeCheckForAdd_d00df_25
    · replace h := itf h c3
      cases h

def f_Jx4a65c_add_7a177 (B : Nat) (S : Nat → Nat) (M : Mem) (sz : Nat) (this : Option Nat) (a1 : Int32) (a2 : Option Nat) : Option (Mem × Nat) := if isO M this 2 = true then ((f_Jx4a65c_rangeCheckForAdd_d00df M this a1).bind fun r2 => (gI M this 2 0).bind fun v3 => (pF B M this 2 0 (.int (v3 + (1 : Int32)))).bind fun M4 => (gI M4 this 2 2).bind fun v5 => (gR M4 this 2 1).bind fun v6 => (aL M4 v6).bind fun v7 => ((if v5 = v7 then (if isO M4 this 2 = true then ((f_Jx4a65c_grow_d5877 B S M4 sz this).bind fun r11 => some (r11.1, r11.2.1, r11.2.2)) else none) else (some (v6, M4, sz))) : Option (Option Nat × Mem × Nat)).bind fun o12 => (cR B o12.2.1 o12.1 a1 o12.1 (a1 + (1 : Int32)) (v5 - a1)).bind fun M13 => if isE M13 a2 = true then ((sR B M13 o12.1 a1 a2).bind fun M14 => (pF B M14 this 2 2 (.int (v5 + (1 : Int32)))).bind fun M16 => some (M16, o12.2.2)) else none) else none
def rmJx4a65c_add_7a177 : Room := { frames := 5, cells := 1, slots := 80, locals := 147 }
theorem k_Jx4a65c_add_7a177_63 : Cond.fieldLink RJx4a65c 63 "java/util/ArrayList" "modCount" "I" ∈ wsJx4a65c_add_7a177 := List.mem_of_getElem? (i := 1) rfl
theorem ki_Jx4a65c_add_7a177_Jx4a65c : ∀ w ∈ u_ws RJx4a65c TJx4a65c 3, w ∈ wsJx4a65c_add_7a177 := sub_r [54, 55, 56] (by decide +kernel)
theorem k_Jx4a65c_add_7a177_sfmodCount : Cond.sameField "java/util/ArrayList" "java/util/AbstractList" "modCount" "I" ∈ wsJx4a65c_add_7a177 := List.mem_of_getElem? (i := 2) rfl
theorem k_Jx4a65c_add_7a177_48 : Cond.fieldLink RJx4a65c 48 "java/util/ArrayList" "size" "I" ∈ wsJx4a65c_add_7a177 := List.mem_of_getElem? (i := 3) rfl
theorem k_Jx4a65c_add_7a177_9 : Cond.fieldLink RJx4a65c 9 "java/util/ArrayList" "elementData" "[Ljava/lang/Object;" ∈ wsJx4a65c_add_7a177 := List.mem_of_getElem? (i := 4) rfl
theorem k_Jx4a65c_add_7a177_cp112_0 : Cond.methodLink RJx4a65c 112 arraycopyName ∈ wsJx4a65c_add_7a177 := List.mem_of_getElem? (i := 5) rfl
theorem k_Jx4a65c_add_7a177_cp112_1 : Cond.native arraycopyName ∈ wsJx4a65c_add_7a177 := List.mem_of_getElem? (i := 6) rfl
theorem k_Jx4a65c_add_7a177_cp112_2 : Cond.static arraycopyName ∈ wsJx4a65c_add_7a177 := List.mem_of_getElem? (i := 7) rfl
theorem k_Jx4a65c_add_7a177_cp112_3 : Cond.initialized "java/lang/System" ∈ wsJx4a65c_add_7a177 := List.mem_of_getElem? (i := 8) rfl
set_option maxHeartbeats 4000000 in
set_option maxRecDepth 100000 in
theorem c_Jx4a65c_add_7a177 {G : wG} {l : Launch} {M : Mem} {sz : Nat} {this : Option Nat} {a1 : Int32} {a2 : Option Nat} {r : Mem × Nat} (h : f_Jx4a65c_add_7a177 G.2.2.1 G.2.2.2 M sz this a1 a2 = some r) : CtrV G l yJx4a65c_add_7a177 wsJx4a65c_add_7a177 rmJx4a65c_add_7a177 [va_rf this, .int a1, va_rf a2] M sz r.1 r.2 := by
  refine m_startV (own := RJx4a65c) (cc := cJx4a65c_add_7a177) (maxL := 5) (lv0 := [(0, va_rf this), (1, .int a1), (2, va_rf a2)]) (by decide) rfl rfl (by simp [lg_sl, va_rf_cat, cat_i, cat_r]) (by simp [lv_args, va_rf_cat, cat_i, cat_r]) ?_
  intro p e s m args below meth c Q hC hname RET hsz hw ls hl
  have hx := hC.1
  have hb := hC.2.1
  unfold f_Jx4a65c_add_7a177 at h
  refine m_aload_n (x := this) hx hb dJx4a65c_add_7a177_0 rfl (lv_at hl 0 rfl) ?_
  refine lv_iload_n hx hb dJx4a65c_add_7a177_1 rfl (lv_at hl 1 rfl) ?_
  obtain ⟨g1, h⟩ := itg h
  obtain ⟨r2, hr2, h⟩ := ob h
  refine m_contV hC hw (m_runV hC hw (x := this) (ci := 2) (N := 3) (C := RJx4a65c) (T := TJx4a65c) (n := 1) (av := [.int a1]) (rest := []) (c_Jx4a65c_rangeCheckForAdd_d00df (G := G) (l := l) hr2) gJx4a65c_add_7a177_Jx4a65c_rangeCheckForAdd_d00df rfl (by decide +kernel) ⟨(Nat.le_of_ble_eq_true rfl), (Nat.le_of_ble_eq_true rfl)⟩ g1 rfl rfl hl.1 rfl (Nat.le_of_ble_eq_true rfl) dJx4a65c_add_7a177_2 ⟨(Nat.zero_le _), (Nat.zero_le _)⟩) (fun H locs hw => ?_)
  refine m_aload_n (x := this) hx hb dJx4a65c_add_7a177_5 rfl (lv_at hl 0 rfl) ?_
  refine m_dup (x := this) hx hb dJx4a65c_add_7a177_6 ?_
  obtain ⟨v3, hv3, h⟩ := ob h
  refine m_getI hC hw (C := RJx4a65c) (T := TJx4a65c) (N := 3) hv3 ki_Jx4a65c_add_7a177_Jx4a65c rfl (by decide) k_Jx4a65c_add_7a177_63 (fun x9 h9 => u_same (hC.tab _ k_Jx4a65c_add_7a177_sfmodCount) x9 h9) dJx4a65c_add_7a177_7 ?_
  refine lv_iconst (v := (1 : Int32)) hx hb dJx4a65c_add_7a177_10 (by decide) ?_
  refine lv_iadd hx hb dJx4a65c_add_7a177_11 ?_
  obtain ⟨M4, hM4, h⟩ := ob h
  refine m_put hC hw (C := RJx4a65c) (T := TJx4a65c) (N := 3) (x := this) hM4 ki_Jx4a65c_add_7a177_Jx4a65c tyJx4a65c tyJx4a65c_ok nmJx4a65c rfl (by decide) k_Jx4a65c_add_7a177_63 (fun x9 h9 => u_same (hC.tab _ k_Jx4a65c_add_7a177_sfmodCount) x9 h9) rfl rfl rfl dJx4a65c_add_7a177_12 (fun H locs hw => ?_)
  refine m_aload_n (x := this) hx hb dJx4a65c_add_7a177_15 rfl (lv_at hl 0 rfl) ?_
  obtain ⟨v5, hv5, h⟩ := ob h
  refine m_getI hC hw (C := RJx4a65c) (T := TJx4a65c) (N := 3) hv5 ki_Jx4a65c_add_7a177_Jx4a65c rfl (by decide) k_Jx4a65c_add_7a177_48 (fun _ z => z) dJx4a65c_add_7a177_16 ?_
  refine lv_dup hx hb dJx4a65c_add_7a177_19 rfl ?_
  refine lv_istore_n (i := 3) (lv' := [(3, .int v5), (0, va_rf this), (1, .int a1), (2, va_rf a2)]) hx hb dJx4a65c_add_7a177_20 rfl hl (by decide) (by simp [va_rf_cat, cat_i, cat_l]) (fun ls hl => ?_)
  refine m_aload_n (x := this) hx hb dJx4a65c_add_7a177_21 rfl (lv_at hl 1 rfl) ?_
  obtain ⟨v6, hv6, h⟩ := ob h
  refine m_getR hC hw (C := RJx4a65c) (T := TJx4a65c) (N := 3) hv6 ki_Jx4a65c_add_7a177_Jx4a65c rfl (by decide) k_Jx4a65c_add_7a177_9 (fun _ z => z) dJx4a65c_add_7a177_22 ?_
  refine m_dup (x := v6) hx hb dJx4a65c_add_7a177_25 ?_
  refine m_astore (x := v6) (lv' := [(4, va_rf v6), (3, .int v5), (0, va_rf this), (1, .int a1), (2, va_rf a2)]) hx hb dJx4a65c_add_7a177_26 hl (by decide) rfl (fun ls hl => ?_)
  obtain ⟨v7, hv7, h⟩ := ob h
  refine m_alen (x := v6) hC hw hv7 dJx4a65c_add_7a177_28 ?_
  obtain ⟨o12, ho12, h⟩ := ob h
  have J8 : ∀ (H : Heap) (locs : List Loc) (ls : Array Slot), wD G s M o12.2.1 o12.2.2 H locs → lv_has ls 5 [(0, va_rf this), (1, .int a1), (2, va_rf a2), (3, .int v5), (4, va_rf o12.1)] → W p l e rmJx4a65c_add_7a177 s m args below meth c H locs 1 80 Q (F0 m 38 ls []) := by
    intro H locs ls hw hl
    refine m_aload (x := o12.1) hx hb dJx4a65c_add_7a177_38 (lv_at hl 4 rfl) ?_
    refine lv_iload_n hx hb dJx4a65c_add_7a177_40 rfl (lv_at hl 1 rfl) ?_
    refine m_aload (x := o12.1) hx hb dJx4a65c_add_7a177_41 (lv_at hl 4 rfl) ?_
    refine lv_iload_n hx hb dJx4a65c_add_7a177_43 rfl (lv_at hl 1 rfl) ?_
    refine lv_iconst (v := (1 : Int32)) hx hb dJx4a65c_add_7a177_44 (by decide) ?_
    refine lv_iadd hx hb dJx4a65c_add_7a177_45 ?_
    refine lv_iload_n hx hb dJx4a65c_add_7a177_46 rfl (lv_at hl 3 rfl) ?_
    refine lv_iload_n hx hb dJx4a65c_add_7a177_47 rfl (lv_at hl 1 rfl) ?_
    refine lv_isub hx hb dJx4a65c_add_7a177_48 ?_
    obtain ⟨M13, hM13, h⟩ := ob h
    refine m_copyR (x := o12.1) (y := o12.1) hC hw hM13 k_Jx4a65c_add_7a177_cp112_0 k_Jx4a65c_add_7a177_cp112_1 k_Jx4a65c_add_7a177_cp112_2 k_Jx4a65c_add_7a177_cp112_3 hl.1 (Nat.le_of_ble_eq_true rfl) (Nat.le_of_ble_eq_true rfl) (Nat.le_of_ble_eq_true rfl) dJx4a65c_add_7a177_49 (fun H locs hw => ?_)
    refine m_aload (x := o12.1) hx hb dJx4a65c_add_7a177_52 (lv_at hl 4 rfl) ?_
    refine lv_iload_n hx hb dJx4a65c_add_7a177_54 rfl (lv_at hl 1 rfl) ?_
    refine m_aload_n (x := a2) hx hb dJx4a65c_add_7a177_55 rfl (lv_at hl 2 rfl) ?_
    obtain ⟨g15, h⟩ := itg h
    obtain ⟨M14, hM14, h⟩ := ob h
    refine m_aast (x := o12.1) hC hw g15 hM14 dJx4a65c_add_7a177_56 (fun H locs hw => ?_)
    refine m_aload_n (x := this) hx hb dJx4a65c_add_7a177_57 rfl (lv_at hl 0 rfl) ?_
    refine lv_iload_n hx hb dJx4a65c_add_7a177_58 rfl (lv_at hl 3 rfl) ?_
    refine lv_iconst (v := (1 : Int32)) hx hb dJx4a65c_add_7a177_59 (by decide) ?_
    refine lv_iadd hx hb dJx4a65c_add_7a177_60 ?_
    obtain ⟨M16, hM16, h⟩ := ob h
    refine m_put hC hw (C := RJx4a65c) (T := TJx4a65c) (N := 3) (x := this) hM16 ki_Jx4a65c_add_7a177_Jx4a65c tyJx4a65c tyJx4a65c_ok nmJx4a65c rfl (by decide) k_Jx4a65c_add_7a177_48 (fun _ z => z) rfl rfl rfl dJx4a65c_add_7a177_61 (fun H locs hw => ?_)
    replace h := Option.some.inj h
    subst h
    exact RET hw ⟨(Nat.le_of_ble_eq_true rfl), (Nat.le_of_ble_eq_true rfl)⟩ dJx4a65c_add_7a177_64
  clear h
  replace h := ho12
  refine lv_icmp_ne (tgt := 38) hx hb dJx4a65c_add_7a177_29 (by decide) (fun c9 => ?_) (fun c9 => ?_)
  · replace h := itf h c9
    replace h := Option.some.inj h
    subst h
    refine W.widen (k := 1) (n := 80) (Nat.le_of_ble_eq_true rfl) (Nat.le_of_ble_eq_true rfl) ?_
    exact J8 _ _ _ hw (lv_sub hl [2, 3, 4, 1, 0] rfl)
  · replace h := itt h c9
    refine m_aload_n (x := this) hx hb dJx4a65c_add_7a177_32 rfl (lv_at hl 2 rfl) ?_
    obtain ⟨g10, h⟩ := itg h
    obtain ⟨r11, hr11, h⟩ := ob h
    refine m_contQ hC hw (m_runV hC hw (x := this) (ci := 2) (N := 3) (C := RJx4a65c) (T := TJx4a65c) (n := 0) (av := []) (rest := []) (c_Jx4a65c_grow_d5877 (G := G) (l := l) hr11) gJx4a65c_add_7a177_Jx4a65c_grow_d5877 rfl (by decide +kernel) ⟨(Nat.le_of_ble_eq_true rfl), (Nat.le_of_ble_eq_true rfl)⟩ g10 rfl rfl hl.1 rfl (Nat.le_of_ble_eq_true rfl) dJx4a65c_add_7a177_33 ⟨(Nat.le_of_ble_eq_true rfl), (Nat.le_of_ble_eq_true rfl)⟩) (fun H locs hw => ?_)
    refine m_astore (x := r11.1) (lv' := [(4, va_rf r11.1), (3, .int v5), (0, va_rf this), (1, .int a1), (2, va_rf a2)]) hx hb dJx4a65c_add_7a177_36 hl (by decide) rfl (fun ls hl => ?_)
    replace h := Option.some.inj h
    subst h
    refine W.widen (k := 1) (n := 80) (Nat.le_of_ble_eq_true rfl) (Nat.le_of_ble_eq_true rfl) ?_
    exact J8 _ _ _ hw (lv_sub hl [2, 3, 4, 1, 0] rfl)
