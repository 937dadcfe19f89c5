def X1_forgetOldest  (M : mm) : Option (Unit × mm) :=
  gd (cpok 1 0 39 40 40) <|
  lt_ (sA M 62 (va_cpy (M.1 62) (M.1 62) (1 : Int32).toNatClampNeg (0 : Int32).toNatClampNeg (39 : Int32).toNatClampNeg)) fun M2 =>
  gd (cpok 1 0 39 40 40) <|
  lt_ (sA M2 63 (va_cpy (M2.1 63) (M2.1 63) (1 : Int32).toNatClampNeg (0 : Int32).toNatClampNeg (39 : Int32).toNatClampNeg)) fun M4 =>
  gd (cpok 1 0 39 40 40) <|
  lt_ (sA M4 64 (va_cpy (M4.1 64) (M4.1 64) (1 : Int32).toNatClampNeg (0 : Int32).toNatClampNeg (39 : Int32).toNatClampNeg)) fun M6 =>
  gd (cpok 1 0 39 40 40) <|
  lt_ (sA M6 65 (va_cpy (M6.1 65) (M6.1 65) (1 : Int32).toNatClampNeg (0 : Int32).toNatClampNeg (39 : Int32).toNatClampNeg)) fun M8 =>
  lt_ (sA M8 61 (upd (M8.1 61) 0 ((M8.1 61 0) - 1))) fun M9 =>
  some ((), M9)
set_option maxRecDepth 100000 in
set_option maxHeartbeats 4000000 in
theorem X1_forgetOldest_ok  {M : mm} {r : Unit × mm} (h : X1_forgetOldest  M = some r) : CM yX1_forgetOldest cX1_forgetOldest 1 (none) 1 [.ref 61] (cells M) none (cells r.2) := by
  refine cm_of (ls := [some (.ref 61)]) mfX1_forgetOldest rfl (Nat.le_of_ble_eq_true rfl) (fun g hg hr => ?_)
  unfold X1_forgetOldest at h
  refine e_aload_n hg dX1_forgetOldest_0 rfl ?_
  refine m_getR (q := 62) hg ciX1 2 lk_379 dX1_forgetOldest_1 io_61 (Nat.le_of_ble_eq_true rfl) rfl rf_61_2 ?_
  refine e_iconst (v := 1) hg dX1_forgetOldest_4 (by decide) ?_
  refine e_aload_n hg dX1_forgetOldest_5 rfl ?_
  refine m_getR (q := 62) hg ciX1 2 lk_379 dX1_forgetOldest_6 io_61 (Nat.le_of_ble_eq_true rfl) rfl rf_61_2 ?_
  refine e_iconst (v := 0) hg dX1_forgetOldest_9 (by decide) ?_
  refine e_bipush (v := 39) hg dX1_forgetOldest_10 (by decide) ?_
  obtain ⟨hc1, h⟩ := o_gd h
  obtain ⟨M2, hM2, h⟩ := o_lt h
  refine m_cpyI hg sh_62 sh_62 hc1 (Nat.le_of_ble_eq_true rfl) (by omega) lk_565 dX1_forgetOldest_12 ?_
  rw [← hM2]
  refine e_aload_n hg dX1_forgetOldest_15 rfl ?_
  refine m_getR (q := 63) hg ciX1 3 lk_380 dX1_forgetOldest_16 io_61 (Nat.le_of_ble_eq_true rfl) rfl rf_61_3 ?_
  refine e_iconst (v := 1) hg dX1_forgetOldest_19 (by decide) ?_
  refine e_aload_n hg dX1_forgetOldest_20 rfl ?_
  refine m_getR (q := 63) hg ciX1 3 lk_380 dX1_forgetOldest_21 io_61 (Nat.le_of_ble_eq_true rfl) rfl rf_61_3 ?_
  refine e_iconst (v := 0) hg dX1_forgetOldest_24 (by decide) ?_
  refine e_bipush (v := 39) hg dX1_forgetOldest_25 (by decide) ?_
  obtain ⟨hc3, h⟩ := o_gd h
  obtain ⟨M4, hM4, h⟩ := o_lt h
  refine m_cpyI hg sh_63 sh_63 hc3 (Nat.le_of_ble_eq_true rfl) (by omega) lk_565 dX1_forgetOldest_27 ?_
  rw [← hM4]
  refine e_aload_n hg dX1_forgetOldest_30 rfl ?_
  refine m_getR (q := 64) hg ciX1 4 lk_381 dX1_forgetOldest_31 io_61 (Nat.le_of_ble_eq_true rfl) rfl rf_61_4 ?_
  refine e_iconst (v := 1) hg dX1_forgetOldest_34 (by decide) ?_
  refine e_aload_n hg dX1_forgetOldest_35 rfl ?_
  refine m_getR (q := 64) hg ciX1 4 lk_381 dX1_forgetOldest_36 io_61 (Nat.le_of_ble_eq_true rfl) rfl rf_61_4 ?_
  refine e_iconst (v := 0) hg dX1_forgetOldest_39 (by decide) ?_
  refine e_bipush (v := 39) hg dX1_forgetOldest_40 (by decide) ?_
  obtain ⟨hc5, h⟩ := o_gd h
  obtain ⟨M6, hM6, h⟩ := o_lt h
  refine m_cpyI hg sh_64 sh_64 hc5 (Nat.le_of_ble_eq_true rfl) (by omega) lk_565 dX1_forgetOldest_42 ?_
  rw [← hM6]
  refine e_aload_n hg dX1_forgetOldest_45 rfl ?_
  refine m_getR (q := 65) hg ciX1 5 lk_382 dX1_forgetOldest_46 io_61 (Nat.le_of_ble_eq_true rfl) rfl rf_61_5 ?_
  refine e_iconst (v := 1) hg dX1_forgetOldest_49 (by decide) ?_
  refine e_aload_n hg dX1_forgetOldest_50 rfl ?_
  refine m_getR (q := 65) hg ciX1 5 lk_382 dX1_forgetOldest_51 io_61 (Nat.le_of_ble_eq_true rfl) rfl rf_61_5 ?_
  refine e_iconst (v := 0) hg dX1_forgetOldest_54 (by decide) ?_
  refine e_bipush (v := 39) hg dX1_forgetOldest_55 (by decide) ?_
  obtain ⟨hc7, h⟩ := o_gd h
  obtain ⟨M8, hM8, h⟩ := o_lt h
  refine m_cpyI hg sh_65 sh_65 hc7 (Nat.le_of_ble_eq_true rfl) (by omega) lk_565 dX1_forgetOldest_57 ?_
  rw [← hM8]
  refine e_aload_n hg dX1_forgetOldest_60 rfl ?_
  refine e_dup hg dX1_forgetOldest_61 rfl ?_
  refine m_getI hg ciX1 0 lk_376 dX1_forgetOldest_62 io_61 (Nat.le_of_ble_eq_true rfl) rfl ?_
  refine e_iconst (v := 1) hg dX1_forgetOldest_65 (by decide) ?_
  refine e_isub hg dX1_forgetOldest_66 ?_
  obtain ⟨M9, hM9, h⟩ := o_lt h
  refine m_putI hg ciX1 0 lk_376 dX1_forgetOldest_67 io_61 (Nat.le_of_ble_eq_true rfl) rfl rfl rfl rfl ?_
  rw [← hM9]
  exact m_vret hg hr dX1_forgetOldest_70 h

def X1_note_b13 (a1 : Int32) (a2 : Int32) (a3 : Int32) (a4 : Int32) (M : mm) : Option (Unit × mm) :=
  gd (inb (M.1 61 0) 40) <|
  lt_ (sA M 62 (upd (M.1 62) (M.1 61 0).toNatClampNeg a1)) fun M6 =>
  gd (inb (M6.1 61 0) 40) <|
  lt_ (sA M6 63 (upd (M6.1 63) (M6.1 61 0).toNatClampNeg a2)) fun M8 =>
  gd (inb (M8.1 61 0) 40) <|
  lt_ (sA M8 64 (upd (M8.1 64) (M8.1 61 0).toNatClampNeg a3)) fun M10 =>
  gd (inb (M10.1 61 0) 40) <|
  lt_ (sA M10 65 (upd (M10.1 65) (M10.1 61 0).toNatClampNeg a4)) fun M12 =>
  lt_ (sA M12 61 (upd (M12.1 61) 0 ((M12.1 61 0) + 1))) fun M13 =>
  lt_ (sA M13 61 (upd (M13.1 61) 1 (M13.1 61 0))) fun M14 =>
  some ((), M14)
set_option maxRecDepth 100000 in
set_option maxHeartbeats 4000000 in
theorem X1_note_b13_ok {g : gx} (hg : EC g cX1_note RX1 2) {a1 : Int32} {a2 : Int32} {a3 : Int32} {a4 : Int32} {r : Unit × mm} (hr : RT g (none) (0, 0) none (cells r.2)) {M : mm} (h : X1_note_b13 a1 a2 a3 a4 M = some r) : E g (0, 0) 13 [some (.ref 61), some (.int a1), some (.int a2), some (.int a3), some (.int a4)] [] (cells M) := by
  unfold X1_note_b13 at h
  refine e_aload_n hg dX1_note_13 rfl ?_
  refine m_getR (q := 62) hg ciX1 2 lk_379 dX1_note_14 io_61 (Nat.le_of_ble_eq_true rfl) rfl rf_61_2 ?_
  refine e_aload_n hg dX1_note_17 rfl ?_
  refine m_getI hg ciX1 0 lk_376 dX1_note_18 io_61 (Nat.le_of_ble_eq_true rfl) rfl ?_
  refine e_iload_n hg dX1_note_21 rfl ?_
  obtain ⟨hi5, h⟩ := o_gd h
  obtain ⟨M6, hM6, h⟩ := o_lt h
  refine m_iast hg sh_62 hi5 dX1_note_22 ?_
  rw [← hM6]
  refine e_aload_n hg dX1_note_23 rfl ?_
  refine m_getR (q := 63) hg ciX1 3 lk_380 dX1_note_24 io_61 (Nat.le_of_ble_eq_true rfl) rfl rf_61_3 ?_
  refine e_aload_n hg dX1_note_27 rfl ?_
  refine m_getI hg ciX1 0 lk_376 dX1_note_28 io_61 (Nat.le_of_ble_eq_true rfl) rfl ?_
  refine e_iload_n hg dX1_note_31 rfl ?_
  obtain ⟨hi7, h⟩ := o_gd h
  obtain ⟨M8, hM8, h⟩ := o_lt h
  refine m_iast hg sh_63 hi7 dX1_note_32 ?_
  rw [← hM8]
  refine e_aload_n hg dX1_note_33 rfl ?_
  refine m_getR (q := 64) hg ciX1 4 lk_381 dX1_note_34 io_61 (Nat.le_of_ble_eq_true rfl) rfl rf_61_4 ?_
  refine e_aload_n hg dX1_note_37 rfl ?_
  refine m_getI hg ciX1 0 lk_376 dX1_note_38 io_61 (Nat.le_of_ble_eq_true rfl) rfl ?_
  refine e_iload_n hg dX1_note_41 rfl ?_
  obtain ⟨hi9, h⟩ := o_gd h
  obtain ⟨M10, hM10, h⟩ := o_lt h
  refine m_iast hg sh_64 hi9 dX1_note_42 ?_
  rw [← hM10]
  refine e_aload_n hg dX1_note_43 rfl ?_
  refine m_getR (q := 65) hg ciX1 5 lk_382 dX1_note_44 io_61 (Nat.le_of_ble_eq_true rfl) rfl rf_61_5 ?_
  refine e_aload_n hg dX1_note_47 rfl ?_
  refine m_getI hg ciX1 0 lk_376 dX1_note_48 io_61 (Nat.le_of_ble_eq_true rfl) rfl ?_
  refine e_iload hg dX1_note_51 rfl ?_
  obtain ⟨hi11, h⟩ := o_gd h
  obtain ⟨M12, hM12, h⟩ := o_lt h
  refine m_iast hg sh_65 hi11 dX1_note_53 ?_
  rw [← hM12]
  refine e_aload_n hg dX1_note_54 rfl ?_
  refine e_dup hg dX1_note_55 rfl ?_
  refine m_getI hg ciX1 0 lk_376 dX1_note_56 io_61 (Nat.le_of_ble_eq_true rfl) rfl ?_
  refine e_iconst (v := 1) hg dX1_note_59 (by decide) ?_
  refine e_iadd hg dX1_note_60 ?_
  obtain ⟨M13, hM13, h⟩ := o_lt h
  refine m_putI hg ciX1 0 lk_376 dX1_note_61 io_61 (Nat.le_of_ble_eq_true rfl) rfl rfl rfl rfl ?_
  rw [← hM13]
  refine e_aload_n hg dX1_note_64 rfl ?_
  refine e_aload_n hg dX1_note_65 rfl ?_
  refine m_getI hg ciX1 0 lk_376 dX1_note_66 io_61 (Nat.le_of_ble_eq_true rfl) rfl ?_
  obtain ⟨M14, hM14, h⟩ := o_lt h
  refine m_putI hg ciX1 1 lk_378 dX1_note_69 io_61 (Nat.le_of_ble_eq_true rfl) rfl rfl rfl rfl ?_
  rw [← hM14]
  exact m_vret hg hr dX1_note_72 h

def X1_note (a1 : Int32) (a2 : Int32) (a3 : Int32) (a4 : Int32) (M : mm) : Option (Unit × mm) :=
  if (M.1 61 0) = 40 then
    bd (X1_forgetOldest M) fun u2 M3 =>
    X1_note_b13 a1 a2 a3 a4 M3
  else
    X1_note_b13 a1 a2 a3 a4 M
set_option maxRecDepth 100000 in
set_option maxHeartbeats 4000000 in
theorem X1_note_ok {a1 : Int32} {a2 : Int32} {a3 : Int32} {a4 : Int32} {M : mm} {r : Unit × mm} (h : X1_note a1 a2 a3 a4 M = some r) : CM yX1_note cX1_note 5 (none) 2 [.ref 61, .int a1, .int a2, .int a3, .int a4] (cells M) none (cells r.2) := by
  refine cm_of (ls := [some (.ref 61), some (.int a1), some (.int a2), some (.int a3), some (.int a4)]) mfX1_note rfl (Nat.le_of_ble_eq_true rfl) (fun g hg hr => ?_)
  unfold X1_note at h
  refine e_aload_n hg dX1_note_0 rfl ?_
  refine m_getI hg ciX1 0 lk_376 dX1_note_1 io_61 (Nat.le_of_ble_eq_true rfl) rfl ?_
  refine e_bipush (v := 40) hg dX1_note_4 (by decide) ?_
  refine e_icmpne hg 13 dX1_note_6 (by decide) (fun c1 => ?_) (fun c1 => ?_)
  · have h := o_pos c1 h
    refine e_aload_n hg dX1_note_9 rfl ?_
    obtain ⟨u2, M3, hc4, h⟩ := o_bd h
    refine m_callVV (rest := []) (M' := M3) (ci := 1) hg mfX1_forgetOldest mvX1_forgetOldest (X1_forgetOldest_ok (r := (u2, M3)) hc4) lk_561 dX1_note_10 io_61 rfl rfl rfl (by omega) (Nat.le_of_ble_eq_true rfl) ?_
    exact X1_note_b13_ok hg hr  h
  · have h := o_neg c1 h
    exact X1_note_b13_ok hg hr  h

def X1_undone  (M : mm) : Option (Int32 × mm) :=
  some (((M.1 61 1) - (M.1 61 0)), M)
set_option maxRecDepth 100000 in
set_option maxHeartbeats 4000000 in
theorem X1_undone_ok  {M : mm} {r : Int32 × mm} (h : X1_undone  M = some r) : CM yX1_undone cX1_undone 1 (some .int) 0 [.ref 61] (cells M) (some (.int r.1)) (cells r.2) := by
  refine cm_of (ls := [some (.ref 61)]) mfX1_undone rfl (Nat.le_of_ble_eq_true rfl) (fun g hg hr => ?_)
  unfold X1_undone at h
  refine e_aload_n hg dX1_undone_0 rfl ?_
  refine m_getI hg ciX1 1 lk_378 dX1_undone_1 io_61 (Nat.le_of_ble_eq_true rfl) rfl ?_
  refine e_aload_n hg dX1_undone_4 rfl ?_
  refine m_getI hg ciX1 0 lk_376 dX1_undone_5 io_61 (Nat.le_of_ble_eq_true rfl) rfl ?_
  refine e_isub hg dX1_undone_8 ?_
  exact m_iret hg hr dX1_undone_9 h

def X3_rowOf (a1 : Int32) (M : mm) : Option (Nat × mm) :=
  if a1 = 0 then
    some (2, M)
  else
  if a1 = 1 then
    some (3, M)
  else
  if a1 = 2 then
    some (4, M)
  else
  if a1 = 3 then
    some (6, M)
  else
  if a1 = 4 then
    some (7, M)
  else
  some (8, M)
set_option maxRecDepth 100000 in
set_option maxHeartbeats 4000000 in
theorem X3_rowOf_ok {a1 : Int32} {M : mm} {r : Nat × mm} (h : X3_rowOf a1 M = some r) : CM yX3_rowOf cX3_rowOf 2 (some (.array .int)) 0 [.ref 1, .int a1] (cells M) (some (.ref r.1)) (cells r.2) := by
  refine cm_of (ls := [some (.ref 1), some (.int a1)]) mfX3_rowOf rfl (Nat.le_of_ble_eq_true rfl) (fun g hg hr => ?_)
  unfold X3_rowOf at h
  refine e_iload_n hg dX3_rowOf_0 rfl ?_
  by_cases c1 : a1 = 0
  · have h := o_pos c1 h
    refine e_tabIn (v := 0) hg 36 dX3_rowOf_1 c1 (by decide) (by decide) rfl (by decide) ?_
    refine e_aload_n hg dX3_rowOf_36 rfl ?_
    refine m_getR (q := 2) hg ciX3 5 lk_109 dX3_rowOf_37 io_1 (Nat.le_of_ble_eq_true rfl) rfl rf_1_5 ?_
    exact m_aretR hg (Or.inr ⟨_, rfl⟩) hr dX3_rowOf_40 h
  have h := o_neg c1 h
  by_cases c2 : a1 = 1
  · have h := o_pos c2 h
    refine e_tabIn (v := 1) hg 41 dX3_rowOf_1 c2 (by decide) (by decide) rfl (by decide) ?_
    refine e_aload_n hg dX3_rowOf_41 rfl ?_
    refine m_getR (q := 3) hg ciX3 6 lk_113 dX3_rowOf_42 io_1 (Nat.le_of_ble_eq_true rfl) rfl rf_1_6 ?_
    exact m_aretR hg (Or.inr ⟨_, rfl⟩) hr dX3_rowOf_45 h
  have h := o_neg c2 h
  by_cases c3 : a1 = 2
  · have h := o_pos c3 h
    refine e_tabIn (v := 2) hg 46 dX3_rowOf_1 c3 (by decide) (by decide) rfl (by decide) ?_
    refine e_aload_n hg dX3_rowOf_46 rfl ?_
    refine m_getR (q := 4) hg ciX3 7 lk_117 dX3_rowOf_47 io_1 (Nat.le_of_ble_eq_true rfl) rfl rf_1_7 ?_
    exact m_aretR hg (Or.inr ⟨_, rfl⟩) hr dX3_rowOf_50 h
  have h := o_neg c3 h
  by_cases c4 : a1 = 3
  · have h := o_pos c4 h
    refine e_tabIn (v := 3) hg 51 dX3_rowOf_1 c4 (by decide) (by decide) rfl (by decide) ?_
    refine e_aload_n hg dX3_rowOf_51 rfl ?_
    refine m_getR (q := 6) hg ciX3 9 lk_124 dX3_rowOf_52 io_1 (Nat.le_of_ble_eq_true rfl) rfl rf_1_9 ?_
    exact m_aretR hg (Or.inr ⟨_, rfl⟩) hr dX3_rowOf_55 h
  have h := o_neg c4 h
  by_cases c5 : a1 = 4
  · have h := o_pos c5 h
    refine e_tabIn (v := 4) hg 56 dX3_rowOf_1 c5 (by decide) (by decide) rfl (by decide) ?_
    refine e_aload_n hg dX3_rowOf_56 rfl ?_
    refine m_getR (q := 7) hg ciX3 10 lk_128 dX3_rowOf_57 io_1 (Nat.le_of_ble_eq_true rfl) rfl rf_1_10 ?_
    exact m_aretR hg (Or.inr ⟨_, rfl⟩) hr dX3_rowOf_60 h
  have h := o_neg c5 h
  refine e_tabOut hg 61 dX3_rowOf_1 (by have e_c1 := ne_toIntL (n := 0) (by decide) c1; have e_c2 := ne_toIntL (n := 1) (by decide) c2; have e_c3 := ne_toIntL (n := 2) (by decide) c3; have e_c4 := ne_toIntL (n := 3) (by decide) c4; have e_c5 := ne_toIntL (n := 4) (by decide) c5; omega) (by decide) ?_
  refine e_aload_n hg dX3_rowOf_61 rfl ?_
  refine m_getR (q := 8) hg ciX3 11 lk_132 dX3_rowOf_62 io_1 (Nat.le_of_ble_eq_true rfl) rfl rf_1_11 ?_
  exact m_aretR hg (Or.inr ⟨_, rfl⟩) hr dX3_rowOf_65 h

def X3_tell (a1 : Int32) (a2 : Int32) (a3 : Int32) (M : mm) : Option (Int32 × mm) :=
  bd (X3_rowOf a2 M) fun v1 M2 =>
  gd (isA 0 v1) <|
  gd (inb a1 (alN v1)) <|
  gd (isA 0 v1) <|
  gd (inb a1 (alN v1)) <|
  lt_ (sA M2 v1 (upd (M2.1 v1) a1.toNatClampNeg a3)) fun M8 =>
  if (M2.1 v1 a1.toNatClampNeg) = a3 then
    some ((M2.1 v1 a1.toNatClampNeg), M8)
  else
    lt_ (sA M8 1 (upd (M8.1 1) 4 ((M8.1 1 4) + 1))) fun M10 =>
    some ((M2.1 v1 a1.toNatClampNeg), M10)
set_option maxRecDepth 100000 in
set_option maxHeartbeats 4000000 in
theorem X3_tell_ok {a1 : Int32} {a2 : Int32} {a3 : Int32} {M : mm} {r : Int32 × mm} (h : X3_tell a1 a2 a3 M = some r) : CM yX3_tell cX3_tell 6 (some .int) 1 [.ref 1, .int a1, .int a2, .int a3] (cells M) (some (.int r.1)) (cells r.2) := by
  refine cm_of (ls := [some (.ref 1), some (.int a1), some (.int a2), some (.int a3), none, none]) mfX3_tell rfl (Nat.le_of_ble_eq_true rfl) (fun g hg hr => ?_)
  unfold X3_tell at h
  refine e_aload_n hg dX3_tell_0 rfl ?_
  refine e_iload_n hg dX3_tell_1 rfl ?_
  obtain ⟨v1, M2, hc3, h⟩ := o_bd h
  refine m_callVR (rest := []) (v := v1) (M' := M2) (ci := 3) hg mfX3_rowOf mvX3_rowOf (X3_rowOf_ok (r := (v1, M2)) hc3) lk_553 dX3_tell_2 io_1 rfl rfl rfl (by omega) (Nat.le_of_ble_eq_true rfl) ?_
  refine e_astore (ls' := [some (.ref 1), some (.int a1), some (.int a2), some (.int a3), some (.ref v1), none]) hg dX3_tell_5 rfl ?_
  refine e_aload hg dX3_tell_7 rfl ?_
  refine e_iload_n hg dX3_tell_9 rfl ?_
  obtain ⟨hA4, h⟩ := o_gd h
  obtain ⟨hi5, h⟩ := o_gd h
  refine m_iald hg (isA_spec hA4) hi5 dX3_tell_10 ?_
  refine e_istore (ls' := [some (.ref 1), some (.int a1), some (.int a2), some (.int a3), some (.ref v1), some (.int (M2.1 v1 a1.toNatClampNeg))]) hg dX3_tell_11 rfl ?_
  refine e_aload hg dX3_tell_13 rfl ?_
  refine e_iload_n hg dX3_tell_15 rfl ?_
  refine e_iload_n hg dX3_tell_16 rfl ?_
  obtain ⟨hA6, h⟩ := o_gd h
  obtain ⟨hi7, h⟩ := o_gd h
  obtain ⟨M8, hM8, h⟩ := o_lt h
  refine m_iast hg (isA_spec hA6) hi7 dX3_tell_17 ?_
  rw [← hM8]
  refine e_iload hg dX3_tell_18 rfl ?_
  refine e_iload_n hg dX3_tell_20 rfl ?_
  refine e_icmpeq hg 34 dX3_tell_21 (by decide) (fun c9 => ?_) (fun c9 => ?_)
  · have h := o_pos c9 h
    refine e_iload hg dX3_tell_34 rfl ?_
    exact m_iret hg hr dX3_tell_36 h
  · have h := o_neg c9 h
    refine e_aload_n hg dX3_tell_24 rfl ?_
    refine e_dup hg dX3_tell_25 rfl ?_
    refine m_getI hg ciX3 4 lk_106 dX3_tell_26 io_1 (Nat.le_of_ble_eq_true rfl) rfl ?_
    refine e_iconst (v := 1) hg dX3_tell_29 (by decide) ?_
    refine e_iadd hg dX3_tell_30 ?_
    obtain ⟨M10, hM10, h⟩ := o_lt h
    refine m_putI hg ciX3 4 lk_106 dX3_tell_31 io_1 (Nat.le_of_ble_eq_true rfl) rfl rfl rfl rfl ?_
    rw [← hM10]
    refine e_iload hg dX3_tell_34 rfl ?_
    exact m_iret hg hr dX3_tell_36 h

def X1_takeBack  (M : mm) : Option (Int32 × mm) :=
  if 0 < (M.1 61 0) then
    lt_ (sA M 61 (upd (M.1 61) 0 ((M.1 61 0) - 1))) fun M2 =>
    gd (inb (M2.1 61 0) 40) <|
    gd (inb (M2.1 61 0) 40) <|
    gd (inb (M2.1 61 0) 40) <|
    bd (X3_tell (M2.1 62 (M2.1 61 0).toNatClampNeg) (M2.1 63 (M2.1 61 0).toNatClampNeg) (M2.1 64 (M2.1 61 0).toNatClampNeg) M2) fun v6 M7 =>
    some (1, M7)
  else
    some (0, M)
set_option maxRecDepth 100000 in
set_option maxHeartbeats 4000000 in
theorem X1_takeBack_ok  {M : mm} {r : Int32 × mm} (h : X1_takeBack  M = some r) : CM yX1_takeBack cX1_takeBack 2 (some .boolean) 2 [.ref 61, .ref 1] (cells M) (some (.int r.1)) (cells r.2) := by
  refine cm_of (ls := [some (.ref 61), some (.ref 1)]) mfX1_takeBack rfl (Nat.le_of_ble_eq_true rfl) (fun g hg hr => ?_)
  unfold X1_takeBack at h
  refine e_aload_n hg dX1_takeBack_0 rfl ?_
  refine m_getI hg ciX1 0 lk_376 dX1_takeBack_1 io_61 (Nat.le_of_ble_eq_true rfl) rfl ?_
  refine e_ifgt hg 9 dX1_takeBack_4 (by decide) (fun c1 => ?_) (fun c1 => ?_)
  · have h := o_pos c1 h
    refine e_aload_n hg dX1_takeBack_9 rfl ?_
    refine e_dup hg dX1_takeBack_10 rfl ?_
    refine m_getI hg ciX1 0 lk_376 dX1_takeBack_11 io_61 (Nat.le_of_ble_eq_true rfl) rfl ?_
    refine e_iconst (v := 1) hg dX1_takeBack_14 (by decide) ?_
    refine e_isub hg dX1_takeBack_15 ?_
    obtain ⟨M2, hM2, h⟩ := o_lt h
    refine m_putI hg ciX1 0 lk_376 dX1_takeBack_16 io_61 (Nat.le_of_ble_eq_true rfl) rfl rfl rfl rfl ?_
    rw [← hM2]
    refine e_aload_n hg dX1_takeBack_19 rfl ?_
    refine e_aload_n hg dX1_takeBack_20 rfl ?_
    refine m_getR (q := 62) hg ciX1 2 lk_379 dX1_takeBack_21 io_61 (Nat.le_of_ble_eq_true rfl) rfl rf_61_2 ?_
    refine e_aload_n hg dX1_takeBack_24 rfl ?_
    refine m_getI hg ciX1 0 lk_376 dX1_takeBack_25 io_61 (Nat.le_of_ble_eq_true rfl) rfl ?_
    obtain ⟨hi3, h⟩ := o_gd h
    refine m_iald hg sh_62 hi3 dX1_takeBack_28 ?_
    refine e_aload_n hg dX1_takeBack_29 rfl ?_
    refine m_getR (q := 63) hg ciX1 3 lk_380 dX1_takeBack_30 io_61 (Nat.le_of_ble_eq_true rfl) rfl rf_61_3 ?_
    refine e_aload_n hg dX1_takeBack_33 rfl ?_
    refine m_getI hg ciX1 0 lk_376 dX1_takeBack_34 io_61 (Nat.le_of_ble_eq_true rfl) rfl ?_
    obtain ⟨hi4, h⟩ := o_gd h
    refine m_iald hg sh_63 hi4 dX1_takeBack_37 ?_
    refine e_aload_n hg dX1_takeBack_38 rfl ?_
    refine m_getR (q := 64) hg ciX1 4 lk_381 dX1_takeBack_39 io_61 (Nat.le_of_ble_eq_true rfl) rfl rf_61_4 ?_
    refine e_aload_n hg dX1_takeBack_42 rfl ?_
    refine m_getI hg ciX1 0 lk_376 dX1_takeBack_43 io_61 (Nat.le_of_ble_eq_true rfl) rfl ?_
    obtain ⟨hi5, h⟩ := o_gd h
    refine m_iald hg sh_64 hi5 dX1_takeBack_46 ?_
    obtain ⟨v6, M7, hc8, h⟩ := o_bd h
    refine m_callVI (rest := []) (v := v6) (M' := M7) (ci := 3) hg mfX3_tell mvX3_tell (X3_tell_ok (r := (v6, M7)) hc8) lk_866 dX1_takeBack_47 io_1 rfl rfl rfl (by omega) (Nat.le_of_ble_eq_true rfl) ?_
    refine e_pop hg dX1_takeBack_50 rfl ?_
    refine e_iconst (v := 1) hg dX1_takeBack_51 (by decide) ?_
    exact m_zret hg hr rfl dX1_takeBack_52 h
  · have h := o_neg c1 h
    refine e_iconst (v := 0) hg dX1_takeBack_7 (by decide) ?_
    exact m_zret hg hr rfl dX1_takeBack_8 h

def X1_doAgain  (M : mm) : Option (Int32 × mm) :=
  bd (X1_undone M) fun v1 M2 =>
  if 0 < v1 then
    gd (inb (M2.1 61 0) 40) <|
    gd (inb (M2.1 61 0) 40) <|
    gd (inb (M2.1 61 0) 40) <|
    bd (X3_tell (M2.1 62 (M2.1 61 0).toNatClampNeg) (M2.1 63 (M2.1 61 0).toNatClampNeg) (M2.1 65 (M2.1 61 0).toNatClampNeg) M2) fun v8 M9 =>
    lt_ (sA M9 61 (upd (M9.1 61) 0 ((M9.1 61 0) + 1))) fun M11 =>
    some (1, M11)
  else
    some (0, M2)
set_option maxRecDepth 100000 in
set_option maxHeartbeats 4000000 in
theorem X1_doAgain_ok  {M : mm} {r : Int32 × mm} (h : X1_doAgain  M = some r) : CM yX1_doAgain cX1_doAgain 2 (some .boolean) 2 [.ref 61, .ref 1] (cells M) (some (.int r.1)) (cells r.2) := by
  refine cm_of (ls := [some (.ref 61), some (.ref 1)]) mfX1_doAgain rfl (Nat.le_of_ble_eq_true rfl) (fun g hg hr => ?_)
  unfold X1_doAgain at h
  refine e_aload_n hg dX1_doAgain_0 rfl ?_
  obtain ⟨v1, M2, hc3, h⟩ := o_bd h
  refine m_callVI (rest := []) (v := v1) (M' := M2) (ci := 1) hg mfX1_undone mvX1_undone (X1_undone_ok (r := (v1, M2)) hc3) lk_875 dX1_doAgain_1 io_61 rfl rfl rfl (by omega) (Nat.le_of_ble_eq_true rfl) ?_
  refine e_ifgt hg 9 dX1_doAgain_4 (by decide) (fun c4 => ?_) (fun c4 => ?_)
  · have h := o_pos c4 h
    refine e_aload_n hg dX1_doAgain_9 rfl ?_
    refine e_aload_n hg dX1_doAgain_10 rfl ?_
    refine m_getR (q := 62) hg ciX1 2 lk_379 dX1_doAgain_11 io_61 (Nat.le_of_ble_eq_true rfl) rfl rf_61_2 ?_
    refine e_aload_n hg dX1_doAgain_14 rfl ?_
    refine m_getI hg ciX1 0 lk_376 dX1_doAgain_15 io_61 (Nat.le_of_ble_eq_true rfl) rfl ?_
    obtain ⟨hi5, h⟩ := o_gd h
    refine m_iald hg sh_62 hi5 dX1_doAgain_18 ?_
    refine e_aload_n hg dX1_doAgain_19 rfl ?_
    refine m_getR (q := 63) hg ciX1 3 lk_380 dX1_doAgain_20 io_61 (Nat.le_of_ble_eq_true rfl) rfl rf_61_3 ?_
    refine e_aload_n hg dX1_doAgain_23 rfl ?_
    refine m_getI hg ciX1 0 lk_376 dX1_doAgain_24 io_61 (Nat.le_of_ble_eq_true rfl) rfl ?_
    obtain ⟨hi6, h⟩ := o_gd h
    refine m_iald hg sh_63 hi6 dX1_doAgain_27 ?_
    refine e_aload_n hg dX1_doAgain_28 rfl ?_
    refine m_getR (q := 65) hg ciX1 5 lk_382 dX1_doAgain_29 io_61 (Nat.le_of_ble_eq_true rfl) rfl rf_61_5 ?_
    refine e_aload_n hg dX1_doAgain_32 rfl ?_
    refine m_getI hg ciX1 0 lk_376 dX1_doAgain_33 io_61 (Nat.le_of_ble_eq_true rfl) rfl ?_
    obtain ⟨hi7, h⟩ := o_gd h
    refine m_iald hg sh_65 hi7 dX1_doAgain_36 ?_
    obtain ⟨v8, M9, hc10, h⟩ := o_bd h
    refine m_callVI (rest := []) (v := v8) (M' := M9) (ci := 3) hg mfX3_tell mvX3_tell (X3_tell_ok (r := (v8, M9)) hc10) lk_866 dX1_doAgain_37 io_1 rfl rfl rfl (by omega) (Nat.le_of_ble_eq_true rfl) ?_
    refine e_pop hg dX1_doAgain_40 rfl ?_
    refine e_aload_n hg dX1_doAgain_41 rfl ?_
    refine e_dup hg dX1_doAgain_42 rfl ?_
    refine m_getI hg ciX1 0 lk_376 dX1_doAgain_43 io_61 (Nat.le_of_ble_eq_true rfl) rfl ?_
    refine e_iconst (v := 1) hg dX1_doAgain_46 (by decide) ?_
    refine e_iadd hg dX1_doAgain_47 ?_
    obtain ⟨M11, hM11, h⟩ := o_lt h
    refine m_putI hg ciX1 0 lk_376 dX1_doAgain_48 io_61 (Nat.le_of_ble_eq_true rfl) rfl rfl rfl rfl ?_
    rw [← hM11]
    refine e_iconst (v := 1) hg dX1_doAgain_51 (by decide) ?_
    exact m_zret hg hr rfl dX1_doAgain_52 h
  · have h := o_neg c4 h
    refine e_iconst (v := 0) hg dX1_doAgain_7 (by decide) ?_
    exact m_zret hg hr rfl dX1_doAgain_8 h

def X3_isForgotten (a1 : Int32) (M : mm) : Option (Int32 × mm) :=
  if 0 < (M.1 1 2) then
    if a1 < (M.1 1 2) then
      some (0, M)
    else
      some (1, M)
  else
    some (0, M)
set_option maxRecDepth 100000 in
set_option maxHeartbeats 4000000 in
theorem X3_isForgotten_ok {a1 : Int32} {M : mm} {r : Int32 × mm} (h : X3_isForgotten a1 M = some r) : CM yX3_isForgotten cX3_isForgotten 2 (some .boolean) 0 [.ref 1, .int a1] (cells M) (some (.int r.1)) (cells r.2) := by
  refine cm_of (ls := [some (.ref 1), some (.int a1)]) mfX3_isForgotten rfl (Nat.le_of_ble_eq_true rfl) (fun g hg hr => ?_)
  unfold X3_isForgotten at h
  refine e_aload_n hg dX3_isForgotten_0 rfl ?_
  refine m_getI hg ciX3 2 lk_102 dX3_isForgotten_1 io_1 (Nat.le_of_ble_eq_true rfl) rfl ?_
  refine e_ifle hg 19 dX3_isForgotten_4 (by decide) (fun c1 => ?_) (fun c1 => ?_)
  · have h := o_pos c1 h
    refine e_iload_n hg dX3_isForgotten_7 rfl ?_
    refine e_aload_n hg dX3_isForgotten_8 rfl ?_
    refine m_getI hg ciX3 2 lk_102 dX3_isForgotten_9 io_1 (Nat.le_of_ble_eq_true rfl) rfl ?_
    refine e_icmplt hg 19 dX3_isForgotten_12 (by decide) (fun c2 => ?_) (fun c2 => ?_)
    · have h := o_pos c2 h
      refine e_iconst (v := 0) hg dX3_isForgotten_19 (by decide) ?_
      exact m_zret hg hr rfl dX3_isForgotten_20 h
    · have h := o_neg c2 h
      refine e_iconst (v := 1) hg dX3_isForgotten_15 (by decide) ?_
      refine e_goto hg 20 dX3_isForgotten_16 (by decide) ?_
      exact m_zret hg hr rfl dX3_isForgotten_20 h
  · have h := o_neg c1 h
    refine e_iconst (v := 0) hg dX3_isForgotten_19 (by decide) ?_
    exact m_zret hg hr rfl dX3_isForgotten_20 h

def X9_pays (w : Nat) (a1 : Int32) (a2 : Int32) (M : mm) : Option (Unit × mm) :=
  gd (isO 9 w) <|
  gd (inb a1 5) <|
  gd (inb a1 5) <|
  lt_ (sA M (w + 7) (upd (M.1 (w + 7)) a1.toNatClampNeg ((M.1 (w + 7) a1.toNatClampNeg) - a2))) fun M3 =>
  gd (inb a1 5) <|
  gd (inb a1 5) <|
  lt_ (sA M3 (w + 8) (upd (M3.1 (w + 8)) a1.toNatClampNeg ((M3.1 (w + 8) a1.toNatClampNeg) + a2))) fun M6 =>
  some ((), M6)
set_option maxRecDepth 100000 in
set_option maxHeartbeats 4000000 in
theorem X9_pays_ok {w : Nat} {a1 : Int32} {a2 : Int32} {M : mm} {r : Unit × mm} (h : X9_pays w a1 a2 M = some r) : CM yX9_pays cX9_pays 3 (none) 0 [.ref w, .int a1, .int a2] (cells M) none (cells r.2) := by
  refine cm_of (ls := [some (.ref w), some (.int a1), some (.int a2)]) mfX9_pays rfl (Nat.le_of_ble_eq_true rfl) (fun g hg hr => ?_)
  unfold X9_pays at h
  obtain ⟨ho, h⟩ := o_gd h
  refine e_aload_n hg dX9_pays_0 rfl ?_
  refine m_getR (q := (w + 7)) hg ciX9 8 lk_335 dX9_pays_1 ho (Nat.le_of_ble_eq_true rfl) rfl (rfF9_8 ho) ?_
  refine e_iload_n hg dX9_pays_4 rfl ?_
  refine e_dup2 hg dX9_pays_5 rfl rfl ?_
  obtain ⟨hi1, h⟩ := o_gd h
  refine m_iald hg (shF9_7 ho) hi1 dX9_pays_6 ?_
  refine e_iload_n hg dX9_pays_7 rfl ?_
  refine e_isub hg dX9_pays_8 ?_
  obtain ⟨hi2, h⟩ := o_gd h
  obtain ⟨M3, hM3, h⟩ := o_lt h
  refine m_iast hg (shF9_7 ho) hi2 dX9_pays_9 ?_
  rw [← hM3]
  refine e_aload_n hg dX9_pays_10 rfl ?_
  refine m_getR (q := (w + 8)) hg ciX9 9 lk_338 dX9_pays_11 ho (Nat.le_of_ble_eq_true rfl) rfl (rfF9_9 ho) ?_
  refine e_iload_n hg dX9_pays_14 rfl ?_
  refine e_dup2 hg dX9_pays_15 rfl rfl ?_
  obtain ⟨hi4, h⟩ := o_gd h
  refine m_iald hg (shF9_8 ho) hi4 dX9_pays_16 ?_
  refine e_iload_n hg dX9_pays_17 rfl ?_
  refine e_iadd hg dX9_pays_18 ?_
  obtain ⟨hi5, h⟩ := o_gd h
  obtain ⟨M6, hM6, h⟩ := o_lt h
  refine m_iast hg (shF9_8 ho) hi5 dX9_pays_19 ?_
  rw [← hM6]
  exact m_vret hg hr dX9_pays_20 h

def X3_hasThing (a1 : Int32) (M : mm) : Option (Int32 × mm) :=
  if a1 < 0 then
    some (0, M)
  else
    if a1 < (M.1 1 1) then
      some (1, M)
    else
      some (0, M)
set_option maxRecDepth 100000 in
set_option maxHeartbeats 4000000 in
theorem X3_hasThing_ok {a1 : Int32} {M : mm} {r : Int32 × mm} (h : X3_hasThing a1 M = some r) : CM yX3_hasThing cX3_hasThing 2 (some .boolean) 0 [.ref 1, .int a1] (cells M) (some (.int r.1)) (cells r.2) := by
  refine cm_of (ls := [some (.ref 1), some (.int a1)]) mfX3_hasThing rfl (Nat.le_of_ble_eq_true rfl) (fun g hg hr => ?_)
  unfold X3_hasThing at h
  refine e_iload_n hg dX3_hasThing_0 rfl ?_
  refine e_iflt hg 16 dX3_hasThing_1 (by decide) (fun c1 => ?_) (fun c1 => ?_)
  · have h := o_pos c1 h
    refine e_iconst (v := 0) hg dX3_hasThing_16 (by decide) ?_
    exact m_zret hg hr rfl dX3_hasThing_17 h
  · have h := o_neg c1 h
    refine e_iload_n hg dX3_hasThing_4 rfl ?_
    refine e_aload_n hg dX3_hasThing_5 rfl ?_
    refine m_getI hg ciX3 1 lk_98 dX3_hasThing_6 io_1 (Nat.le_of_ble_eq_true rfl) rfl ?_
    refine e_icmpge hg 16 dX3_hasThing_9 (by decide) (fun c2 => ?_) (fun c2 => ?_)
    · have h := o_pos c2 h
      refine e_iconst (v := 1) hg dX3_hasThing_12 (by decide) ?_
      refine e_goto hg 17 dX3_hasThing_13 (by decide) ?_
      exact m_zret hg hr rfl dX3_hasThing_17 h
    · have h := o_neg c2 h
      refine e_iconst (v := 0) hg dX3_hasThing_16 (by decide) ?_
      exact m_zret hg hr rfl dX3_hasThing_17 h

def X9_makeWhole (w : Nat) (a1 : Int32) (M : mm) : Option (Unit × mm) :=
  gd (isO 9 w) <|
  gd (inb a1 6) <|
  lt_ (sA M (w + 1) (upd (M.1 (w + 1)) a1.toNatClampNeg 3)) fun M2 =>
  gd (inb a1 6) <|
  lt_ (sA M2 (w + 2) (upd (M2.1 (w + 2)) a1.toNatClampNeg (-2))) fun M4 =>
  gd (inb a1 6) <|
  lt_ (sA M4 (w + 3) (upd (M4.1 (w + 3)) a1.toNatClampNeg (-2))) fun M6 =>
  gd (inb a1 6) <|
  lt_ (sA M6 (w + 4) (upd (M6.1 (w + 4)) a1.toNatClampNeg 0)) fun M8 =>
  some ((), M8)
set_option maxRecDepth 100000 in
set_option maxHeartbeats 4000000 in
theorem X9_makeWhole_ok {w : Nat} {a1 : Int32} {M : mm} {r : Unit × mm} (h : X9_makeWhole w a1 M = some r) : CM yX9_makeWhole cX9_makeWhole 2 (none) 0 [.ref w, .int a1] (cells M) none (cells r.2) := by
  refine cm_of (ls := [some (.ref w), some (.int a1)]) mfX9_makeWhole rfl (Nat.le_of_ble_eq_true rfl) (fun g hg hr => ?_)
  unfold X9_makeWhole at h
  obtain ⟨ho, h⟩ := o_gd h
  refine e_aload_n hg dX9_makeWhole_0 rfl ?_
  refine m_getR (q := (w + 1)) hg ciX9 2 lk_317 dX9_makeWhole_1 ho (Nat.le_of_ble_eq_true rfl) rfl (rfF9_2 ho) ?_
  refine e_iload_n hg dX9_makeWhole_4 rfl ?_
  refine e_iconst (v := 3) hg dX9_makeWhole_5 (by decide) ?_
  obtain ⟨hi1, h⟩ := o_gd h
  obtain ⟨M2, hM2, h⟩ := o_lt h
  refine m_iast hg (shF9_1 ho) hi1 dX9_makeWhole_6 ?_
  rw [← hM2]
  refine e_aload_n hg dX9_makeWhole_7 rfl ?_
  refine m_getR (q := (w + 2)) hg ciX9 3 lk_321 dX9_makeWhole_8 ho (Nat.le_of_ble_eq_true rfl) rfl (rfF9_3 ho) ?_
  refine e_iload_n hg dX9_makeWhole_11 rfl ?_
  refine e_bipush (v := -2) hg dX9_makeWhole_12 (by decide) ?_
  obtain ⟨hi3, h⟩ := o_gd h
  obtain ⟨M4, hM4, h⟩ := o_lt h
  refine m_iast hg (shF9_2 ho) hi3 dX9_makeWhole_14 ?_
  rw [← hM4]
  refine e_aload_n hg dX9_makeWhole_15 rfl ?_
  refine m_getR (q := (w + 3)) hg ciX9 4 lk_325 dX9_makeWhole_16 ho (Nat.le_of_ble_eq_true rfl) rfl (rfF9_4 ho) ?_
  refine e_iload_n hg dX9_makeWhole_19 rfl ?_
  refine e_bipush (v := -2) hg dX9_makeWhole_20 (by decide) ?_
  obtain ⟨hi5, h⟩ := o_gd h
  obtain ⟨M6, hM6, h⟩ := o_lt h
  refine m_iast hg (shF9_3 ho) hi5 dX9_makeWhole_22 ?_
  rw [← hM6]
  refine e_aload_n hg dX9_makeWhole_23 rfl ?_
  refine m_getR (q := (w + 4)) hg ciX9 5 lk_328 dX9_makeWhole_24 ho (Nat.le_of_ble_eq_true rfl) rfl (rfF9_5 ho) ?_
  refine e_iload_n hg dX9_makeWhole_27 rfl ?_
  refine e_iconst (v := 0) hg dX9_makeWhole_28 (by decide) ?_
  obtain ⟨hi7, h⟩ := o_gd h
  obtain ⟨M8, hM8, h⟩ := o_lt h
  refine m_iast hg (shF9_4 ho) hi7 dX9_makeWhole_29 ?_
  rw [← hM8]
  exact m_vret hg hr dX9_makeWhole_30 h

def J7_fill_d0a16_L6 (a0 : Nat) (a1 : Int64) : Nat → Int32 → Int32 → mm → Option (Unit × mm)
  | 0, _, _, _ => none
  | n_ + 1, x3, x4, M =>
    if x3 < x4 then
      gd (isA 1 a0) <|
      gd (inb x3 (alN a0)) <|
      lt_ (sL M a0 (vp_updL (M.2.1 a0) x3.toNatClampNeg a1)) fun M5 =>
      (J7_fill_d0a16_L6 a0 a1 n_) (x3 + 1) x4 M5
    else
      some ((), M)
set_option maxRecDepth 100000 in
set_option maxHeartbeats 4000000 in
theorem J7_fill_d0a16_L6_ok {g : gx} (hg : EC g cJ7_fill_d0a16 RJ7 0) {a0 : Nat} {a1 : Int64} {r : Unit × mm} (hr : RT g (none) (0, 0) none (cells r.2)) : ∀ (n_ : Nat) (x3 : Int32) (x4 : Int32) (M : mm), J7_fill_d0a16_L6 a0 a1 n_ x3 x4 M = some r → E g (0, 0) 6 [some (.ref a0), some (.long a1), none, some (.int x3), some (.int x4)] [] (cells M) := by
  intro n_
  induction n_ with
  | zero => intro x3 x4 M h; exact o_no h
  | succ n_ ih =>
    intro x3 x4 M h
    rw [J7_fill_d0a16_L6] at h
    refine e_iload_n hg dJ7_fill_d0a16_6 rfl ?_
    refine e_iload hg dJ7_fill_d0a16_7 rfl ?_
    refine e_icmpge hg 22 dJ7_fill_d0a16_9 (by decide) (fun c2 => ?_) (fun c2 => ?_)
    · have h := o_pos c2 h
      refine e_aload_n hg dJ7_fill_d0a16_12 rfl ?_
      refine e_iload_n hg dJ7_fill_d0a16_13 rfl ?_
      refine e_lload_n hg dJ7_fill_d0a16_14 rfl ?_
      obtain ⟨hA3, h⟩ := o_gd h
      obtain ⟨hi4, h⟩ := o_gd h
      obtain ⟨M5, hM5, h⟩ := o_lt h
      refine m_last hg (isA_spec hA3) hi4 dJ7_fill_d0a16_15 ?_
      rw [← hM5]
      refine e_iinc (v := (x3 + 1)) (ls' := [some (.ref a0), some (.long a1), none, some (.int (x3 + 1)), some (.int x4)]) hg dJ7_fill_d0a16_16 rfl rfl rfl ?_
      refine e_goto hg 6 dJ7_fill_d0a16_19 (by decide) ?_
      exact ih _ _ _ h
    · have h := o_neg c2 h
      exact m_vret hg hr dJ7_fill_d0a16_22 h

def J7_fill_d0a16 (a0 : Nat) (a1 : Int64) (M : mm) : Option (Unit × mm) :=
  gd (isA 1 a0) <|
  J7_fill_d0a16_L6 a0 a1 10000 0 (Int32.ofNat (alN a0)) M
set_option maxRecDepth 100000 in
set_option maxHeartbeats 4000000 in
theorem J7_fill_d0a16_ok {a0 : Nat} {a1 : Int64} {M : mm} {r : Unit × mm} (h : J7_fill_d0a16 a0 a1 M = some r) : CM yJ7_fill_d0a16 cJ7_fill_d0a16 5 (none) 0 [.ref a0, .long a1] (cells M) none (cells r.2) := by
  refine cm_of (ls := [some (.ref a0), some (.long a1), none, none, none]) mfJ7_fill_d0a16 rfl (Nat.le_of_ble_eq_true rfl) (fun g hg hr => ?_)
  unfold J7_fill_d0a16 at h
  refine e_iconst (v := 0) hg dJ7_fill_d0a16_0 (by decide) ?_
  refine e_istore_n (ls' := [some (.ref a0), some (.long a1), none, some (.int 0), none]) hg dJ7_fill_d0a16_1 rfl ?_
  refine e_aload_n hg dJ7_fill_d0a16_2 rfl ?_
  obtain ⟨hA1, h⟩ := o_gd h
  refine m_alen (v := (Int32.ofNat (alN a0))) hg (isA_spec hA1) (by decide) rfl dJ7_fill_d0a16_3 ?_
  refine e_istore (ls' := [some (.ref a0), some (.long a1), none, some (.int 0), some (.int (Int32.ofNat (alN a0)))]) hg dJ7_fill_d0a16_4 rfl ?_
  exact J7_fill_d0a16_L6_ok hg hr  10000 _ _ _ h

def X9_driveNail_b43 (w : Nat) (a1 : Int32) (a2 : Int32) (x3 : Int32) (M : mm) : Option (Unit × mm) :=
  gd (inb a1 6) <|
  gd (inb (x3 + (M.1 (w + 5) a1.toNatClampNeg)) 48) <|
  lt_ (sA M (w + 6) (upd (M.1 (w + 6)) (x3 + (M.1 (w + 5) a1.toNatClampNeg)).toNatClampNeg a2)) fun M10 =>
  gd (inb a1 6) <|
  gd (inb a1 6) <|
  lt_ (sA M10 (w + 5) (upd (M10.1 (w + 5)) a1.toNatClampNeg ((M10.1 (w + 5) a1.toNatClampNeg) + 1))) fun M13 =>
  some ((), M13)
set_option maxRecDepth 100000 in
set_option maxHeartbeats 4000000 in
theorem X9_driveNail_b43_ok {g : gx} (hg : EC g cX9_driveNail RX9 1) {w : Nat} {a1 : Int32} {a2 : Int32} (ho : isO 9 w = true) {r : Unit × mm} (hr : RT g (none) (0, 0) none (cells r.2)) {x3 : Int32} {M : mm} (h : X9_driveNail_b43 w a1 a2 x3 M = some r) : E g (0, 0) 43 [some (.ref w), some (.int a1), some (.int a2), some (.int x3)] [] (cells M) := by
  unfold X9_driveNail_b43 at h
  refine e_aload_n hg dX9_driveNail_43 rfl ?_
  refine m_getR (q := (w + 6)) hg ciX9 7 lk_334 dX9_driveNail_44 ho (Nat.le_of_ble_eq_true rfl) rfl (rfF9_7 ho) ?_
  refine e_iload_n hg dX9_driveNail_47 rfl ?_
  refine e_aload_n hg dX9_driveNail_48 rfl ?_
  refine m_getR (q := (w + 5)) hg ciX9 6 lk_332 dX9_driveNail_49 ho (Nat.le_of_ble_eq_true rfl) rfl (rfF9_6 ho) ?_
  refine e_iload_n hg dX9_driveNail_52 rfl ?_
  obtain ⟨hi8, h⟩ := o_gd h
  refine m_iald hg (shF9_5 ho) hi8 dX9_driveNail_53 ?_
  refine e_iadd hg dX9_driveNail_54 ?_
  refine e_iload_n hg dX9_driveNail_55 rfl ?_
  obtain ⟨hi9, h⟩ := o_gd h
  obtain ⟨M10, hM10, h⟩ := o_lt h
  refine m_iast hg (shF9_6 ho) hi9 dX9_driveNail_56 ?_
  rw [← hM10]
  refine e_aload_n hg dX9_driveNail_57 rfl ?_
  refine m_getR (q := (w + 5)) hg ciX9 6 lk_332 dX9_driveNail_58 ho (Nat.le_of_ble_eq_true rfl) rfl (rfF9_6 ho) ?_
  refine e_iload_n hg dX9_driveNail_61 rfl ?_
  refine e_dup2 hg dX9_driveNail_62 rfl rfl ?_
  obtain ⟨hi11, h⟩ := o_gd h
  refine m_iald hg (shF9_5 ho) hi11 dX9_driveNail_63 ?_
  refine e_iconst (v := 1) hg dX9_driveNail_64 (by decide) ?_
  refine e_iadd hg dX9_driveNail_65 ?_
  obtain ⟨hi12, h⟩ := o_gd h
  obtain ⟨M13, hM13, h⟩ := o_lt h
  refine m_iast hg (shF9_5 ho) hi12 dX9_driveNail_66 ?_
  rw [← hM13]
  exact m_vret hg hr dX9_driveNail_67 h

def X9_driveNail (w : Nat) (a1 : Int32) (a2 : Int32) (M : mm) : Option (Unit × mm) :=
  gd (isO 9 w) <|
  gd (inb a1 6) <|
  if (M.1 (w + 5) a1.toNatClampNeg) = 8 then
    gd (cpok ((a1 * 8) + 1) (a1 * 8) 7 48 48) <|
    lt_ (sA M (w + 6) (va_cpy (M.1 (w + 6)) (M.1 (w + 6)) ((a1 * 8) + 1).toNatClampNeg (a1 * 8).toNatClampNeg (7 : Int32).toNatClampNeg)) fun M4 =>
    gd (inb a1 6) <|
    gd (inb a1 6) <|
    lt_ (sA M4 (w + 5) (upd (M4.1 (w + 5)) a1.toNatClampNeg ((M4.1 (w + 5) a1.toNatClampNeg) - 1))) fun M7 =>
    X9_driveNail_b43 w a1 a2 (a1 * 8) M7
  else
    X9_driveNail_b43 w a1 a2 (a1 * 8) M
set_option maxRecDepth 100000 in
set_option maxHeartbeats 4000000 in
theorem X9_driveNail_ok {w : Nat} {a1 : Int32} {a2 : Int32} {M : mm} {r : Unit × mm} (h : X9_driveNail w a1 a2 M = some r) : CM yX9_driveNail cX9_driveNail 4 (none) 1 [.ref w, .int a1, .int a2] (cells M) none (cells r.2) := by
  refine cm_of (ls := [some (.ref w), some (.int a1), some (.int a2), none]) mfX9_driveNail rfl (Nat.le_of_ble_eq_true rfl) (fun g hg hr => ?_)
  unfold X9_driveNail at h
  obtain ⟨ho, h⟩ := o_gd h
  refine e_iload_n hg dX9_driveNail_0 rfl ?_
  refine e_bipush (v := 8) hg dX9_driveNail_1 (by decide) ?_
  refine e_imul hg dX9_driveNail_3 ?_
  refine e_istore_n (ls' := [some (.ref w), some (.int a1), some (.int a2), some (.int (a1 * 8))]) hg dX9_driveNail_4 rfl ?_
  refine e_aload_n hg dX9_driveNail_5 rfl ?_
  refine m_getR (q := (w + 5)) hg ciX9 6 lk_332 dX9_driveNail_6 ho (Nat.le_of_ble_eq_true rfl) rfl (rfF9_6 ho) ?_
  refine e_iload_n hg dX9_driveNail_9 rfl ?_
  obtain ⟨hi1, h⟩ := o_gd h
  refine m_iald hg (shF9_5 ho) hi1 dX9_driveNail_10 ?_
  refine e_bipush (v := 8) hg dX9_driveNail_11 (by decide) ?_
  refine e_icmpne hg 43 dX9_driveNail_13 (by decide) (fun c2 => ?_) (fun c2 => ?_)
  · have h := o_pos c2 h
    refine e_aload_n hg dX9_driveNail_16 rfl ?_
    refine m_getR (q := (w + 6)) hg ciX9 7 lk_334 dX9_driveNail_17 ho (Nat.le_of_ble_eq_true rfl) rfl (rfF9_7 ho) ?_
    refine e_iload_n hg dX9_driveNail_20 rfl ?_
    refine e_iconst (v := 1) hg dX9_driveNail_21 (by decide) ?_
    refine e_iadd hg dX9_driveNail_22 ?_
    refine e_aload_n hg dX9_driveNail_23 rfl ?_
    refine m_getR (q := (w + 6)) hg ciX9 7 lk_334 dX9_driveNail_24 ho (Nat.le_of_ble_eq_true rfl) rfl (rfF9_7 ho) ?_
    refine e_iload_n hg dX9_driveNail_27 rfl ?_
    refine e_bipush (v := 7) hg dX9_driveNail_28 (by decide) ?_
    obtain ⟨hc3, h⟩ := o_gd h
    obtain ⟨M4, hM4, h⟩ := o_lt h
    refine m_cpyI hg (shF9_6 ho) (shF9_6 ho) hc3 (Nat.le_of_ble_eq_true rfl) (by omega) lk_668 dX9_driveNail_30 ?_
    rw [← hM4]
    refine e_aload_n hg dX9_driveNail_33 rfl ?_
    refine m_getR (q := (w + 5)) hg ciX9 6 lk_332 dX9_driveNail_34 ho (Nat.le_of_ble_eq_true rfl) rfl (rfF9_6 ho) ?_
    refine e_iload_n hg dX9_driveNail_37 rfl ?_
    refine e_dup2 hg dX9_driveNail_38 rfl rfl ?_
    obtain ⟨hi5, h⟩ := o_gd h
    refine m_iald hg (shF9_5 ho) hi5 dX9_driveNail_39 ?_
    refine e_iconst (v := 1) hg dX9_driveNail_40 (by decide) ?_
    refine e_isub hg dX9_driveNail_41 ?_
    obtain ⟨hi6, h⟩ := o_gd h
    obtain ⟨M7, hM7, h⟩ := o_lt h
    refine m_iast hg (shF9_5 ho) hi6 dX9_driveNail_42 ?_
    rw [← hM7]
    exact X9_driveNail_b43_ok hg ho hr  h
  · have h := o_neg c2 h
    exact X9_driveNail_b43_ok hg ho hr  h

def X9_mendedBy (w : Nat) (a1 : Int32) (a2 : Int32) (a3 : Int32) (a4 : Int32) (M : mm) : Option (Unit × mm) :=
  gd (isO 9 w) <|
  gd (inb a1 6) <|
  gd (inb a1 6) <|
  lt_ (sA M (w + 1) (upd (M.1 (w + 1)) a1.toNatClampNeg (if (M.1 (w + 1) a1.toNatClampNeg) < a3 then a3 else (M.1 (w + 1) a1.toNatClampNeg)))) fun M3 =>
  gd (inb a1 6) <|
  gd (inb a1 6) <|
  lt_ (sA M3 (w + 3) (upd (M3.1 (w + 3)) a1.toNatClampNeg (M3.1 (w + 2) a1.toNatClampNeg))) fun M6 =>
  gd (inb a1 6) <|
  lt_ (sA M6 (w + 2) (upd (M6.1 (w + 2)) a1.toNatClampNeg a2)) fun M8 =>
  gd (inb a1 6) <|
  lt_ (sA M8 (w + 4) (upd (M8.1 (w + 4)) a1.toNatClampNeg 0)) fun M10 =>
  gd (inb a2 5) <|
  gd (inb a2 5) <|
  lt_ (sA M10 (w + 7) (upd (M10.1 (w + 7)) a2.toNatClampNeg ((M10.1 (w + 7) a2.toNatClampNeg) - a4))) fun M13 =>
  gd (inb a2 5) <|
  gd (inb a2 5) <|
  lt_ (sA M13 (w + 9) (upd (M13.1 (w + 9)) a2.toNatClampNeg ((M13.1 (w + 9) a2.toNatClampNeg) + a4))) fun M16 =>
  bd (X9_driveNail w a1 a2 M16) fun u17 M18 =>
  some ((), M18)
set_option maxRecDepth 100000 in
set_option maxHeartbeats 4000000 in
theorem X9_mendedBy_ok {w : Nat} {a1 : Int32} {a2 : Int32} {a3 : Int32} {a4 : Int32} {M : mm} {r : Unit × mm} (h : X9_mendedBy w a1 a2 a3 a4 M = some r) : CM yX9_mendedBy cX9_mendedBy 5 (none) 2 [.ref w, .int a1, .int a2, .int a3, .int a4] (cells M) none (cells r.2) := by
  refine cm_of (ls := [some (.ref w), some (.int a1), some (.int a2), some (.int a3), some (.int a4)]) mfX9_mendedBy rfl (Nat.le_of_ble_eq_true rfl) (fun g hg hr => ?_)
  unfold X9_mendedBy at h
  obtain ⟨ho, h⟩ := o_gd h
  refine e_aload_n hg dX9_mendedBy_0 rfl ?_
  refine m_getR (q := (w + 1)) hg ciX9 2 lk_317 dX9_mendedBy_1 ho (Nat.le_of_ble_eq_true rfl) rfl (rfF9_2 ho) ?_
  refine e_iload_n hg dX9_mendedBy_4 rfl ?_
  refine e_aload_n hg dX9_mendedBy_5 rfl ?_
  refine m_getR (q := (w + 1)) hg ciX9 2 lk_317 dX9_mendedBy_6 ho (Nat.le_of_ble_eq_true rfl) rfl (rfF9_2 ho) ?_
  refine e_iload_n hg dX9_mendedBy_9 rfl ?_
  obtain ⟨hi1, h⟩ := o_gd h
  refine m_iald hg (shF9_1 ho) hi1 dX9_mendedBy_10 ?_
  refine e_iload_n hg dX9_mendedBy_11 rfl ?_
  refine e_mmax hg lk_663 (Nat.le_of_ble_eq_true rfl) (by omega) (cs0 g) dX9_mendedBy_12 ?_
  obtain ⟨hi2, h⟩ := o_gd h
  obtain ⟨M3, hM3, h⟩ := o_lt h
  refine m_iast hg (shF9_1 ho) hi2 dX9_mendedBy_15 ?_
  rw [← hM3]
  refine e_aload_n hg dX9_mendedBy_16 rfl ?_
  refine m_getR (q := (w + 3)) hg ciX9 4 lk_325 dX9_mendedBy_17 ho (Nat.le_of_ble_eq_true rfl) rfl (rfF9_4 ho) ?_
  refine e_iload_n hg dX9_mendedBy_20 rfl ?_
  refine e_aload_n hg dX9_mendedBy_21 rfl ?_
  refine m_getR (q := (w + 2)) hg ciX9 3 lk_321 dX9_mendedBy_22 ho (Nat.le_of_ble_eq_true rfl) rfl (rfF9_3 ho) ?_
  refine e_iload_n hg dX9_mendedBy_25 rfl ?_
  obtain ⟨hi4, h⟩ := o_gd h
  refine m_iald hg (shF9_2 ho) hi4 dX9_mendedBy_26 ?_
  obtain ⟨hi5, h⟩ := o_gd h
  obtain ⟨M6, hM6, h⟩ := o_lt h
  refine m_iast hg (shF9_3 ho) hi5 dX9_mendedBy_27 ?_
  rw [← hM6]
  refine e_aload_n hg dX9_mendedBy_28 rfl ?_
  refine m_getR (q := (w + 2)) hg ciX9 3 lk_321 dX9_mendedBy_29 ho (Nat.le_of_ble_eq_true rfl) rfl (rfF9_3 ho) ?_
  refine e_iload_n hg dX9_mendedBy_32 rfl ?_
  refine e_iload_n hg dX9_mendedBy_33 rfl ?_
  obtain ⟨hi7, h⟩ := o_gd h
  obtain ⟨M8, hM8, h⟩ := o_lt h
  refine m_iast hg (shF9_2 ho) hi7 dX9_mendedBy_34 ?_
  rw [← hM8]
  refine e_aload_n hg dX9_mendedBy_35 rfl ?_
  refine m_getR (q := (w + 4)) hg ciX9 5 lk_328 dX9_mendedBy_36 ho (Nat.le_of_ble_eq_true rfl) rfl (rfF9_5 ho) ?_
  refine e_iload_n hg dX9_mendedBy_39 rfl ?_
  refine e_iconst (v := 0) hg dX9_mendedBy_40 (by decide) ?_
  obtain ⟨hi9, h⟩ := o_gd h
  obtain ⟨M10, hM10, h⟩ := o_lt h
  refine m_iast hg (shF9_4 ho) hi9 dX9_mendedBy_41 ?_
  rw [← hM10]
  refine e_aload_n hg dX9_mendedBy_42 rfl ?_
  refine m_getR (q := (w + 7)) hg ciX9 8 lk_335 dX9_mendedBy_43 ho (Nat.le_of_ble_eq_true rfl) rfl (rfF9_8 ho) ?_
  refine e_iload_n hg dX9_mendedBy_46 rfl ?_
  refine e_dup2 hg dX9_mendedBy_47 rfl rfl ?_
  obtain ⟨hi11, h⟩ := o_gd h
  refine m_iald hg (shF9_7 ho) hi11 dX9_mendedBy_48 ?_
  refine e_iload hg dX9_mendedBy_49 rfl ?_
  refine e_isub hg dX9_mendedBy_51 ?_
  obtain ⟨hi12, h⟩ := o_gd h
  obtain ⟨M13, hM13, h⟩ := o_lt h
  refine m_iast hg (shF9_7 ho) hi12 dX9_mendedBy_52 ?_
  rw [← hM13]
  refine e_aload_n hg dX9_mendedBy_53 rfl ?_
  refine m_getR (q := (w + 9)) hg ciX9 10 lk_340 dX9_mendedBy_54 ho (Nat.le_of_ble_eq_true rfl) rfl (rfF9_10 ho) ?_
  refine e_iload_n hg dX9_mendedBy_57 rfl ?_
  refine e_dup2 hg dX9_mendedBy_58 rfl rfl ?_
  obtain ⟨hi14, h⟩ := o_gd h
  refine m_iald hg (shF9_9 ho) hi14 dX9_mendedBy_59 ?_
  refine e_iload hg dX9_mendedBy_60 rfl ?_
  refine e_iadd hg dX9_mendedBy_62 ?_
  obtain ⟨hi15, h⟩ := o_gd h
  obtain ⟨M16, hM16, h⟩ := o_lt h
  refine m_iast hg (shF9_9 ho) hi15 dX9_mendedBy_63 ?_
  rw [← hM16]
  refine e_aload_n hg dX9_mendedBy_64 rfl ?_
  refine e_iload_n hg dX9_mendedBy_65 rfl ?_
  refine e_iload_n hg dX9_mendedBy_66 rfl ?_
  obtain ⟨u17, M18, hc19, h⟩ := o_bd h
  refine m_callVV (rest := []) (M' := M18) (ci := 9) hg mfX9_driveNail mvX9_driveNail (X9_driveNail_ok (r := (u17, M18)) hc19) lk_664 dX9_mendedBy_67 ho rfl rfl rfl (by omega) (Nat.le_of_ble_eq_true rfl) ?_
  exact m_vret hg hr dX9_mendedBy_70 h

def X3_hasPerson (a1 : Int32) (M : mm) : Option (Int32 × mm) :=
  if a1 < 0 then
    some (0, M)
  else
    if a1 < (M.1 1 0) then
      some (1, M)
    else
      some (0, M)
set_option maxRecDepth 100000 in
set_option maxHeartbeats 4000000 in
theorem X3_hasPerson_ok {a1 : Int32} {M : mm} {r : Int32 × mm} (h : X3_hasPerson a1 M = some r) : CM yX3_hasPerson cX3_hasPerson 2 (some .boolean) 0 [.ref 1, .int a1] (cells M) (some (.int r.1)) (cells r.2) := by
  refine cm_of (ls := [some (.ref 1), some (.int a1)]) mfX3_hasPerson rfl (Nat.le_of_ble_eq_true rfl) (fun g hg hr => ?_)
  unfold X3_hasPerson at h
  refine e_iload_n hg dX3_hasPerson_0 rfl ?_
  refine e_iflt hg 16 dX3_hasPerson_1 (by decide) (fun c1 => ?_) (fun c1 => ?_)
  · have h := o_pos c1 h
    refine e_iconst (v := 0) hg dX3_hasPerson_16 (by decide) ?_
    exact m_zret hg hr rfl dX3_hasPerson_17 h
  · have h := o_neg c1 h
    refine e_iload_n hg dX3_hasPerson_4 rfl ?_
    refine e_aload_n hg dX3_hasPerson_5 rfl ?_
    refine m_getI hg ciX3 0 lk_96 dX3_hasPerson_6 io_1 (Nat.le_of_ble_eq_true rfl) rfl ?_
    refine e_icmpge hg 16 dX3_hasPerson_9 (by decide) (fun c2 => ?_) (fun c2 => ?_)
    · have h := o_pos c2 h
      refine e_iconst (v := 1) hg dX3_hasPerson_12 (by decide) ?_
      refine e_goto hg 17 dX3_hasPerson_13 (by decide) ?_
      exact m_zret hg hr rfl dX3_hasPerson_17 h
    · have h := o_neg c2 h
      refine e_iconst (v := 0) hg dX3_hasPerson_16 (by decide) ?_
      exact m_zret hg hr rfl dX3_hasPerson_17 h

def X3_addPerson (a1 : Int32) (a2 : Int32) (M : mm) : Option (Int32 × mm) :=
  gd (inb (M.1 1 0) 5) <|
  lt_ (sA M 2 (upd (M.1 2) (M.1 1 0).toNatClampNeg a1)) fun M2 =>
  gd (inb (M2.1 1 0) 5) <|
  lt_ (sA M2 3 (upd (M2.1 3) (M2.1 1 0).toNatClampNeg a2)) fun M4 =>
  lt_ (sA M4 1 (upd (M4.1 1) 0 ((M4.1 1 0) + 1))) fun M5 =>
  some ((M4.1 1 0), M5)
set_option maxRecDepth 100000 in
set_option maxHeartbeats 4000000 in
theorem X3_addPerson_ok {a1 : Int32} {a2 : Int32} {M : mm} {r : Int32 × mm} (h : X3_addPerson a1 a2 M = some r) : CM yX3_addPerson cX3_addPerson 3 (some .int) 0 [.ref 1, .int a1, .int a2] (cells M) (some (.int r.1)) (cells r.2) := by
  refine cm_of (ls := [some (.ref 1), some (.int a1), some (.int a2)]) mfX3_addPerson rfl (Nat.le_of_ble_eq_true rfl) (fun g hg hr => ?_)
  unfold X3_addPerson at h
  refine e_aload_n hg dX3_addPerson_0 rfl ?_
  refine m_getR (q := 2) hg ciX3 5 lk_109 dX3_addPerson_1 io_1 (Nat.le_of_ble_eq_true rfl) rfl rf_1_5 ?_
  refine e_aload_n hg dX3_addPerson_4 rfl ?_
  refine m_getI hg ciX3 0 lk_96 dX3_addPerson_5 io_1 (Nat.le_of_ble_eq_true rfl) rfl ?_
  refine e_iload_n hg dX3_addPerson_8 rfl ?_
  obtain ⟨hi1, h⟩ := o_gd h
  obtain ⟨M2, hM2, h⟩ := o_lt h
  refine m_iast hg sh_2 hi1 dX3_addPerson_9 ?_
  rw [← hM2]
  refine e_aload_n hg dX3_addPerson_10 rfl ?_
  refine m_getR (q := 3) hg ciX3 6 lk_113 dX3_addPerson_11 io_1 (Nat.le_of_ble_eq_true rfl) rfl rf_1_6 ?_
  refine e_aload_n hg dX3_addPerson_14 rfl ?_
  refine m_getI hg ciX3 0 lk_96 dX3_addPerson_15 io_1 (Nat.le_of_ble_eq_true rfl) rfl ?_
  refine e_iload_n hg dX3_addPerson_18 rfl ?_
  obtain ⟨hi3, h⟩ := o_gd h
  obtain ⟨M4, hM4, h⟩ := o_lt h
  refine m_iast hg sh_3 hi3 dX3_addPerson_19 ?_
  rw [← hM4]
  refine e_aload_n hg dX3_addPerson_20 rfl ?_
  refine e_dup hg dX3_addPerson_21 rfl ?_
  refine m_getI hg ciX3 0 lk_96 dX3_addPerson_22 io_1 (Nat.le_of_ble_eq_true rfl) rfl ?_
  refine e_dup_x1 hg dX3_addPerson_25 rfl rfl ?_
  refine e_iconst (v := 1) hg dX3_addPerson_26 (by decide) ?_
  refine e_iadd hg dX3_addPerson_27 ?_
  obtain ⟨M5, hM5, h⟩ := o_lt h
  refine m_putI hg ciX3 0 lk_96 dX3_addPerson_28 io_1 (Nat.le_of_ble_eq_true rfl) rfl rfl rfl rfl ?_
  rw [← hM5]
  exact m_iret hg hr dX3_addPerson_31 h

def X3_addThing (a1 : Int32) (a2 : Int32) (a3 : Int32) (M : mm) : Option (Int32 × mm) :=
  gd (inb (M.1 1 1) 6) <|
  lt_ (sA M 5 (upd (M.1 5) (M.1 1 1).toNatClampNeg a1)) fun M2 =>
  gd (inb (M2.1 1 1) 6) <|
  lt_ (sA M2 6 (upd (M2.1 6) (M2.1 1 1).toNatClampNeg a2)) fun M4 =>
  gd (inb (M4.1 1 1) 6) <|
  lt_ (sA M4 7 (upd (M4.1 7) (M4.1 1 1).toNatClampNeg a3)) fun M6 =>
  gd (inb (M6.1 1 1) 6) <|
  lt_ (sA M6 8 (upd (M6.1 8) (M6.1 1 1).toNatClampNeg (M6.1 1 1))) fun M8 =>
  lt_ (sA M8 1 (upd (M8.1 1) 1 ((M8.1 1 1) + 1))) fun M9 =>
  some ((M8.1 1 1), M9)
set_option maxRecDepth 100000 in
set_option maxHeartbeats 4000000 in
theorem X3_addThing_ok {a1 : Int32} {a2 : Int32} {a3 : Int32} {M : mm} {r : Int32 × mm} (h : X3_addThing a1 a2 a3 M = some r) : CM yX3_addThing cX3_addThing 4 (some .int) 0 [.ref 1, .int a1, .int a2, .int a3] (cells M) (some (.int r.1)) (cells r.2) := by
  refine cm_of (ls := [some (.ref 1), some (.int a1), some (.int a2), some (.int a3)]) mfX3_addThing rfl (Nat.le_of_ble_eq_true rfl) (fun g hg hr => ?_)
  unfold X3_addThing at h
  refine e_aload_n hg dX3_addThing_0 rfl ?_
  refine m_getR (q := 5) hg ciX3 8 lk_120 dX3_addThing_1 io_1 (Nat.le_of_ble_eq_true rfl) rfl rf_1_8 ?_
  refine e_aload_n hg dX3_addThing_4 rfl ?_
  refine m_getI hg ciX3 1 lk_98 dX3_addThing_5 io_1 (Nat.le_of_ble_eq_true rfl) rfl ?_
  refine e_iload_n hg dX3_addThing_8 rfl ?_
  obtain ⟨hi1, h⟩ := o_gd h
  obtain ⟨M2, hM2, h⟩ := o_lt h
  refine m_iast hg sh_5 hi1 dX3_addThing_9 ?_
  rw [← hM2]
  refine e_aload_n hg dX3_addThing_10 rfl ?_
  refine m_getR (q := 6) hg ciX3 9 lk_124 dX3_addThing_11 io_1 (Nat.le_of_ble_eq_true rfl) rfl rf_1_9 ?_
  refine e_aload_n hg dX3_addThing_14 rfl ?_
  refine m_getI hg ciX3 1 lk_98 dX3_addThing_15 io_1 (Nat.le_of_ble_eq_true rfl) rfl ?_
  refine e_iload_n hg dX3_addThing_18 rfl ?_
  obtain ⟨hi3, h⟩ := o_gd h
  obtain ⟨M4, hM4, h⟩ := o_lt h
  refine m_iast hg sh_6 hi3 dX3_addThing_19 ?_
  rw [← hM4]
  refine e_aload_n hg dX3_addThing_20 rfl ?_
  refine m_getR (q := 7) hg ciX3 10 lk_128 dX3_addThing_21 io_1 (Nat.le_of_ble_eq_true rfl) rfl rf_1_10 ?_
  refine e_aload_n hg dX3_addThing_24 rfl ?_
  refine m_getI hg ciX3 1 lk_98 dX3_addThing_25 io_1 (Nat.le_of_ble_eq_true rfl) rfl ?_
  refine e_iload_n hg dX3_addThing_28 rfl ?_
  obtain ⟨hi5, h⟩ := o_gd h
  obtain ⟨M6, hM6, h⟩ := o_lt h
  refine m_iast hg sh_7 hi5 dX3_addThing_29 ?_
  rw [← hM6]
  refine e_aload_n hg dX3_addThing_30 rfl ?_
  refine m_getR (q := 8) hg ciX3 11 lk_132 dX3_addThing_31 io_1 (Nat.le_of_ble_eq_true rfl) rfl rf_1_11 ?_
  refine e_aload_n hg dX3_addThing_34 rfl ?_
  refine m_getI hg ciX3 1 lk_98 dX3_addThing_35 io_1 (Nat.le_of_ble_eq_true rfl) rfl ?_
  refine e_aload_n hg dX3_addThing_38 rfl ?_
  refine m_getI hg ciX3 1 lk_98 dX3_addThing_39 io_1 (Nat.le_of_ble_eq_true rfl) rfl ?_
  obtain ⟨hi7, h⟩ := o_gd h
  obtain ⟨M8, hM8, h⟩ := o_lt h
  refine m_iast hg sh_8 hi7 dX3_addThing_42 ?_
  rw [← hM8]
  refine e_aload_n hg dX3_addThing_43 rfl ?_
  refine e_dup hg dX3_addThing_44 rfl ?_
  refine m_getI hg ciX3 1 lk_98 dX3_addThing_45 io_1 (Nat.le_of_ble_eq_true rfl) rfl ?_
  refine e_dup_x1 hg dX3_addThing_48 rfl rfl ?_
  refine e_iconst (v := 1) hg dX3_addThing_49 (by decide) ?_
  refine e_iadd hg dX3_addThing_50 ?_
  obtain ⟨M9, hM9, h⟩ := o_lt h
  refine m_putI hg ciX3 1 lk_98 dX3_addThing_51 io_1 (Nat.le_of_ble_eq_true rfl) rfl rfl rfl rfl ?_
  rw [← hM9]
  exact m_iret hg hr dX3_addThing_54 h

def X3_mayTell (a1 : Int32) (a2 : Int32) (a3 : Int32) (M : mm) : Option (Int32 × mm) :=
  if a2 = 0 then
    bd (X3_hasPerson a1 M) fun v2 M3 =>
    if v2 = 0 then
      some (0, M3)
    else
      if a3 < 1 then
        some (0, M3)
      else
        if 3 < a3 then
          some (0, M3)
        else
          some (1, M3)
  else
  if a2 = 1 then
    bd (X3_hasPerson a1 M) fun v9 M10 =>
    if v9 = 0 then
      some (0, M10)
    else
      if a3 < 0 then
        some (0, M10)
      else
        if 99 < a3 then
          some (0, M10)
        else
          some (1, M10)
  else
  if a2 = 2 then
    bd (X3_hasPerson a1 M) fun v16 M17 =>
    if v16 = 0 then
      some (0, M17)
    else
      if a3 < 0 then
        some (0, M17)
      else
        if 4 < a3 then
          some (0, M17)
        else
          some (1, M17)
  else
  if a2 = 3 then
    bd (X3_hasThing a1 M) fun v23 M24 =>
    if v23 = 0 then
      some (0, M24)
    else
      if a3 < 0 then
        some (0, M24)
      else
        if 99 < a3 then
          some (0, M24)
        else
          some (1, M24)
  else
  if a2 = 4 then
    bd (X3_hasThing a1 M) fun v30 M31 =>
    if v30 = 0 then
      some (0, M31)
    else
      if a3 < 0 then
        some (0, M31)
      else
        if 99 < a3 then
          some (0, M31)
        else
          some (1, M31)
  else
  if a2 = 5 then
    bd (X3_hasThing a1 M) fun v37 M38 =>
    if v37 = 0 then
      some (0, M38)
    else
      if a3 < 0 then
        some (0, M38)
      else
        if a3 < 6 then
          some (1, M38)
        else
          some (0, M38)
  else
  some (0, M)
set_option maxRecDepth 100000 in
set_option maxHeartbeats 4000000 in
theorem X3_mayTell_ok {a1 : Int32} {a2 : Int32} {a3 : Int32} {M : mm} {r : Int32 × mm} (h : X3_mayTell a1 a2 a3 M = some r) : CM yX3_mayTell cX3_mayTell 4 (some .boolean) 1 [.ref 1, .int a1, .int a2, .int a3] (cells M) (some (.int r.1)) (cells r.2) := by
  refine cm_of (ls := [some (.ref 1), some (.int a1), some (.int a2), some (.int a3)]) mfX3_mayTell rfl (Nat.le_of_ble_eq_true rfl) (fun g hg hr => ?_)
  unfold X3_mayTell at h
  refine e_iload_n hg dX3_mayTell_0 rfl ?_
  by_cases c1 : a2 = 0
  · have h := o_pos c1 h
    refine e_tabIn (v := 0) hg 40 dX3_mayTell_1 c1 (by decide) (by decide) rfl (by decide) ?_
    refine e_aload_n hg dX3_mayTell_40 rfl ?_
    refine e_iload_n hg dX3_mayTell_41 rfl ?_
    obtain ⟨v2, M3, hc4, h⟩ := o_bd h
    refine m_callVI (rest := []) (v := v2) (M' := M3) (ci := 3) hg mfX3_hasPerson mvX3_hasPerson (X3_hasPerson_ok (r := (v2, M3)) hc4) lk_544 dX3_mayTell_42 io_1 rfl rfl rfl (by omega) (Nat.le_of_ble_eq_true rfl) ?_
    refine e_ifeq hg 62 dX3_mayTell_45 (by decide) (fun c5 => ?_) (fun c5 => ?_)
    · have h := o_pos c5 h
      refine e_iconst (v := 0) hg dX3_mayTell_62 (by decide) ?_
      exact m_zret hg hr rfl dX3_mayTell_63 h
    · have h := o_neg c5 h
      refine e_iload_n hg dX3_mayTell_48 rfl ?_
      refine e_iconst (v := 1) hg dX3_mayTell_49 (by decide) ?_
      refine e_icmplt hg 62 dX3_mayTell_50 (by decide) (fun c6 => ?_) (fun c6 => ?_)
      · have h := o_pos c6 h
        refine e_iconst (v := 0) hg dX3_mayTell_62 (by decide) ?_
        exact m_zret hg hr rfl dX3_mayTell_63 h
      · have h := o_neg c6 h
        refine e_iload_n hg dX3_mayTell_53 rfl ?_
        refine e_iconst (v := 3) hg dX3_mayTell_54 (by decide) ?_
        refine e_icmpgt hg 62 dX3_mayTell_55 (by decide) (fun c7 => ?_) (fun c7 => ?_)
        · have h := o_pos c7 h
          refine e_iconst (v := 0) hg dX3_mayTell_62 (by decide) ?_
          exact m_zret hg hr rfl dX3_mayTell_63 h
        · have h := o_neg c7 h
          refine e_iconst (v := 1) hg dX3_mayTell_58 (by decide) ?_
          refine e_goto hg 63 dX3_mayTell_59 (by decide) ?_
          exact m_zret hg hr rfl dX3_mayTell_63 h
  have h := o_neg c1 h
  by_cases c8 : a2 = 1
  · have h := o_pos c8 h
    refine e_tabIn (v := 1) hg 64 dX3_mayTell_1 c8 (by decide) (by decide) rfl (by decide) ?_
    refine e_aload_n hg dX3_mayTell_64 rfl ?_
    refine e_iload_n hg dX3_mayTell_65 rfl ?_
    obtain ⟨v9, M10, hc11, h⟩ := o_bd h
    refine m_callVI (rest := []) (v := v9) (M' := M10) (ci := 3) hg mfX3_hasPerson mvX3_hasPerson (X3_hasPerson_ok (r := (v9, M10)) hc11) lk_544 dX3_mayTell_66 io_1 rfl rfl rfl (by omega) (Nat.le_of_ble_eq_true rfl) ?_
    refine e_ifeq hg 86 dX3_mayTell_69 (by decide) (fun c12 => ?_) (fun c12 => ?_)
    · have h := o_pos c12 h
      refine e_iconst (v := 0) hg dX3_mayTell_86 (by decide) ?_
      exact m_zret hg hr rfl dX3_mayTell_87 h
    · have h := o_neg c12 h
      refine e_iload_n hg dX3_mayTell_72 rfl ?_
      refine e_iflt hg 86 dX3_mayTell_73 (by decide) (fun c13 => ?_) (fun c13 => ?_)
      · have h := o_pos c13 h
        refine e_iconst (v := 0) hg dX3_mayTell_86 (by decide) ?_
        exact m_zret hg hr rfl dX3_mayTell_87 h
      · have h := o_neg c13 h
        refine e_iload_n hg dX3_mayTell_76 rfl ?_
        refine e_bipush (v := 99) hg dX3_mayTell_77 (by decide) ?_
        refine e_icmpgt hg 86 dX3_mayTell_79 (by decide) (fun c14 => ?_) (fun c14 => ?_)
        · have h := o_pos c14 h
          refine e_iconst (v := 0) hg dX3_mayTell_86 (by decide) ?_
          exact m_zret hg hr rfl dX3_mayTell_87 h
        · have h := o_neg c14 h
          refine e_iconst (v := 1) hg dX3_mayTell_82 (by decide) ?_
          refine e_goto hg 87 dX3_mayTell_83 (by decide) ?_
          exact m_zret hg hr rfl dX3_mayTell_87 h
  have h := o_neg c8 h
  by_cases c15 : a2 = 2
  · have h := o_pos c15 h
    refine e_tabIn (v := 2) hg 88 dX3_mayTell_1 c15 (by decide) (by decide) rfl (by decide) ?_
    refine e_aload_n hg dX3_mayTell_88 rfl ?_
    refine e_iload_n hg dX3_mayTell_89 rfl ?_
    obtain ⟨v16, M17, hc18, h⟩ := o_bd h
    refine m_callVI (rest := []) (v := v16) (M' := M17) (ci := 3) hg mfX3_hasPerson mvX3_hasPerson (X3_hasPerson_ok (r := (v16, M17)) hc18) lk_544 dX3_mayTell_90 io_1 rfl rfl rfl (by omega) (Nat.le_of_ble_eq_true rfl) ?_
    refine e_ifeq hg 109 dX3_mayTell_93 (by decide) (fun c19 => ?_) (fun c19 => ?_)
    · have h := o_pos c19 h
      refine e_iconst (v := 0) hg dX3_mayTell_109 (by decide) ?_
      exact m_zret hg hr rfl dX3_mayTell_110 h
    · have h := o_neg c19 h
      refine e_iload_n hg dX3_mayTell_96 rfl ?_
      refine e_iflt hg 109 dX3_mayTell_97 (by decide) (fun c20 => ?_) (fun c20 => ?_)
      · have h := o_pos c20 h
        refine e_iconst (v := 0) hg dX3_mayTell_109 (by decide) ?_
        exact m_zret hg hr rfl dX3_mayTell_110 h
      · have h := o_neg c20 h
        refine e_iload_n hg dX3_mayTell_100 rfl ?_
        refine e_iconst (v := 4) hg dX3_mayTell_101 (by decide) ?_
        refine e_icmpgt hg 109 dX3_mayTell_102 (by decide) (fun c21 => ?_) (fun c21 => ?_)
        · have h := o_pos c21 h
          refine e_iconst (v := 0) hg dX3_mayTell_109 (by decide) ?_
          exact m_zret hg hr rfl dX3_mayTell_110 h
        · have h := o_neg c21 h
          refine e_iconst (v := 1) hg dX3_mayTell_105 (by decide) ?_
          refine e_goto hg 110 dX3_mayTell_106 (by decide) ?_
          exact m_zret hg hr rfl dX3_mayTell_110 h
  have h := o_neg c15 h
  by_cases c22 : a2 = 3
  · have h := o_pos c22 h
    refine e_tabIn (v := 3) hg 111 dX3_mayTell_1 c22 (by decide) (by decide) rfl (by decide) ?_
    refine e_aload_n hg dX3_mayTell_111 rfl ?_
    refine e_iload_n hg dX3_mayTell_112 rfl ?_
    obtain ⟨v23, M24, hc25, h⟩ := o_bd h
    refine m_callVI (rest := []) (v := v23) (M' := M24) (ci := 3) hg mfX3_hasThing mvX3_hasThing (X3_hasThing_ok (r := (v23, M24)) hc25) lk_545 dX3_mayTell_113 io_1 rfl rfl rfl (by omega) (Nat.le_of_ble_eq_true rfl) ?_
    refine e_ifeq hg 133 dX3_mayTell_116 (by decide) (fun c26 => ?_) (fun c26 => ?_)
    · have h := o_pos c26 h
      refine e_iconst (v := 0) hg dX3_mayTell_133 (by decide) ?_
      exact m_zret hg hr rfl dX3_mayTell_134 h
    · have h := o_neg c26 h
      refine e_iload_n hg dX3_mayTell_119 rfl ?_
      refine e_iflt hg 133 dX3_mayTell_120 (by decide) (fun c27 => ?_) (fun c27 => ?_)
      · have h := o_pos c27 h
        refine e_iconst (v := 0) hg dX3_mayTell_133 (by decide) ?_
        exact m_zret hg hr rfl dX3_mayTell_134 h
      · have h := o_neg c27 h
        refine e_iload_n hg dX3_mayTell_123 rfl ?_
        refine e_bipush (v := 99) hg dX3_mayTell_124 (by decide) ?_
        refine e_icmpgt hg 133 dX3_mayTell_126 (by decide) (fun c28 => ?_) (fun c28 => ?_)
        · have h := o_pos c28 h
          refine e_iconst (v := 0) hg dX3_mayTell_133 (by decide) ?_
          exact m_zret hg hr rfl dX3_mayTell_134 h
        · have h := o_neg c28 h
          refine e_iconst (v := 1) hg dX3_mayTell_129 (by decide) ?_
          refine e_goto hg 134 dX3_mayTell_130 (by decide) ?_
          exact m_zret hg hr rfl dX3_mayTell_134 h
  have h := o_neg c22 h
  by_cases c29 : a2 = 4
  · have h := o_pos c29 h
    refine e_tabIn (v := 4) hg 111 dX3_mayTell_1 c29 (by decide) (by decide) rfl (by decide) ?_
    refine e_aload_n hg dX3_mayTell_111 rfl ?_
    refine e_iload_n hg dX3_mayTell_112 rfl ?_
    obtain ⟨v30, M31, hc32, h⟩ := o_bd h
    refine m_callVI (rest := []) (v := v30) (M' := M31) (ci := 3) hg mfX3_hasThing mvX3_hasThing (X3_hasThing_ok (r := (v30, M31)) hc32) lk_545 dX3_mayTell_113 io_1 rfl rfl rfl (by omega) (Nat.le_of_ble_eq_true rfl) ?_
    refine e_ifeq hg 133 dX3_mayTell_116 (by decide) (fun c33 => ?_) (fun c33 => ?_)
    · have h := o_pos c33 h
      refine e_iconst (v := 0) hg dX3_mayTell_133 (by decide) ?_
      exact m_zret hg hr rfl dX3_mayTell_134 h
    · have h := o_neg c33 h
      refine e_iload_n hg dX3_mayTell_119 rfl ?_
      refine e_iflt hg 133 dX3_mayTell_120 (by decide) (fun c34 => ?_) (fun c34 => ?_)
      · have h := o_pos c34 h
        refine e_iconst (v := 0) hg dX3_mayTell_133 (by decide) ?_
        exact m_zret hg hr rfl dX3_mayTell_134 h
      · have h := o_neg c34 h
        refine e_iload_n hg dX3_mayTell_123 rfl ?_
        refine e_bipush (v := 99) hg dX3_mayTell_124 (by decide) ?_
        refine e_icmpgt hg 133 dX3_mayTell_126 (by decide) (fun c35 => ?_) (fun c35 => ?_)
        · have h := o_pos c35 h
          refine e_iconst (v := 0) hg dX3_mayTell_133 (by decide) ?_
          exact m_zret hg hr rfl dX3_mayTell_134 h
        · have h := o_neg c35 h
          refine e_iconst (v := 1) hg dX3_mayTell_129 (by decide) ?_
          refine e_goto hg 134 dX3_mayTell_130 (by decide) ?_
          exact m_zret hg hr rfl dX3_mayTell_134 h
  have h := o_neg c29 h
  by_cases c36 : a2 = 5
  · have h := o_pos c36 h
    refine e_tabIn (v := 5) hg 135 dX3_mayTell_1 c36 (by decide) (by decide) rfl (by decide) ?_
    refine e_aload_n hg dX3_mayTell_135 rfl ?_
    refine e_iload_n hg dX3_mayTell_136 rfl ?_
    obtain ⟨v37, M38, hc39, h⟩ := o_bd h
    refine m_callVI (rest := []) (v := v37) (M' := M38) (ci := 3) hg mfX3_hasThing mvX3_hasThing (X3_hasThing_ok (r := (v37, M38)) hc39) lk_545 dX3_mayTell_137 io_1 rfl rfl rfl (by omega) (Nat.le_of_ble_eq_true rfl) ?_
    refine e_ifeq hg 157 dX3_mayTell_140 (by decide) (fun c40 => ?_) (fun c40 => ?_)
    · have h := o_pos c40 h
      refine e_iconst (v := 0) hg dX3_mayTell_157 (by decide) ?_
      exact m_zret hg hr rfl dX3_mayTell_158 h
    · have h := o_neg c40 h
      refine e_iload_n hg dX3_mayTell_143 rfl ?_
      refine e_iflt hg 157 dX3_mayTell_144 (by decide) (fun c41 => ?_) (fun c41 => ?_)
      · have h := o_pos c41 h
        refine e_iconst (v := 0) hg dX3_mayTell_157 (by decide) ?_
        exact m_zret hg hr rfl dX3_mayTell_158 h
      · have h := o_neg c41 h
        refine e_iload_n hg dX3_mayTell_147 rfl ?_
        refine e_bipush (v := 6) hg dX3_mayTell_148 (by decide) ?_
        refine e_icmpge hg 157 dX3_mayTell_150 (by decide) (fun c42 => ?_) (fun c42 => ?_)
        · have h := o_pos c42 h
          refine e_iconst (v := 1) hg dX3_mayTell_153 (by decide) ?_
          refine e_goto hg 158 dX3_mayTell_154 (by decide) ?_
          exact m_zret hg hr rfl dX3_mayTell_158 h
        · have h := o_neg c42 h
          refine e_iconst (v := 0) hg dX3_mayTell_157 (by decide) ?_
          exact m_zret hg hr rfl dX3_mayTell_158 h
  have h := o_neg c36 h
  refine e_tabOut hg 159 dX3_mayTell_1 (by have e_c1 := ne_toIntL (n := 0) (by decide) c1; have e_c8 := ne_toIntL (n := 1) (by decide) c8; have e_c15 := ne_toIntL (n := 2) (by decide) c15; have e_c22 := ne_toIntL (n := 3) (by decide) c22; have e_c29 := ne_toIntL (n := 4) (by decide) c29; have e_c36 := ne_toIntL (n := 5) (by decide) c36; omega) (by decide) ?_
  refine e_iconst (v := 0) hg dX3_mayTell_159 (by decide) ?_
  exact m_zret hg hr rfl dX3_mayTell_160 h

def X3_anyBest_L2 : Nat → Int32 → mm → Option (Int32 × mm)
  | 0, _, _ => none
  | n_ + 1, x1, M =>
    if x1 < (M.1 1 1) then
      gd (inb x1 6) <|
      gd (inb (M.1 5 x1.toNatClampNeg) 5) <|
      if (M.1 4 (M.1 5 x1.toNatClampNeg).toNatClampNeg) = 4 then
        some (1, M)
      else
        (X3_anyBest_L2 n_) (x1 + 1) M
    else
      some (0, M)
set_option maxRecDepth 100000 in
set_option maxHeartbeats 4000000 in
theorem X3_anyBest_L2_ok {g : gx} (hg : EC g cX3_anyBest RX3 0) {r : Int32 × mm} (hr : RT g (some .boolean) (0, 0) (some (.int r.1)) (cells r.2)) : ∀ (n_ : Nat) (x1 : Int32) (M : mm), X3_anyBest_L2 n_ x1 M = some r → E g (0, 0) 2 [some (.ref 1), some (.int x1)] [] (cells M) := by
  intro n_
  induction n_ with
  | zero => intro x1 M h; exact o_no h
  | succ n_ ih =>
    intro x1 M h
    rw [X3_anyBest_L2] at h
    refine e_iload_n hg dX3_anyBest_2 rfl ?_
    refine e_aload_n hg dX3_anyBest_3 rfl ?_
    refine m_getI hg ciX3 1 lk_98 dX3_anyBest_4 io_1 (Nat.le_of_ble_eq_true rfl) rfl ?_
    refine e_icmpge hg 33 dX3_anyBest_7 (by decide) (fun c1 => ?_) (fun c1 => ?_)
    · have h := o_pos c1 h
      refine e_aload_n hg dX3_anyBest_10 rfl ?_
      refine m_getR (q := 4) hg ciX3 7 lk_117 dX3_anyBest_11 io_1 (Nat.le_of_ble_eq_true rfl) rfl rf_1_7 ?_
      refine e_aload_n hg dX3_anyBest_14 rfl ?_
      refine m_getR (q := 5) hg ciX3 8 lk_120 dX3_anyBest_15 io_1 (Nat.le_of_ble_eq_true rfl) rfl rf_1_8 ?_
      refine e_iload_n hg dX3_anyBest_18 rfl ?_
      obtain ⟨hi2, h⟩ := o_gd h
      refine m_iald hg sh_5 hi2 dX3_anyBest_19 ?_
      obtain ⟨hi3, h⟩ := o_gd h
      refine m_iald hg sh_4 hi3 dX3_anyBest_20 ?_
      refine e_iconst (v := 4) hg dX3_anyBest_21 (by decide) ?_
      refine e_icmpne hg 27 dX3_anyBest_22 (by decide) (fun c4 => ?_) (fun c4 => ?_)
      · have h := o_pos c4 h
        refine e_iconst (v := 1) hg dX3_anyBest_25 (by decide) ?_
        exact m_zret hg hr rfl dX3_anyBest_26 h
      · have h := o_neg c4 h
        refine e_iinc (v := (x1 + 1)) (ls' := [some (.ref 1), some (.int (x1 + 1))]) hg dX3_anyBest_27 rfl rfl rfl ?_
        refine e_goto hg 2 dX3_anyBest_30 (by decide) ?_
        exact ih _ _ h
    · have h := o_neg c1 h
      refine e_iconst (v := 0) hg dX3_anyBest_33 (by decide) ?_
      exact m_zret hg hr rfl dX3_anyBest_34 h

def X3_anyBest  (M : mm) : Option (Int32 × mm) :=
  X3_anyBest_L2 10000 0 M
set_option maxRecDepth 100000 in
set_option maxHeartbeats 4000000 in
theorem X3_anyBest_ok  {M : mm} {r : Int32 × mm} (h : X3_anyBest  M = some r) : CM yX3_anyBest cX3_anyBest 2 (some .boolean) 0 [.ref 1] (cells M) (some (.int r.1)) (cells r.2) := by
  refine cm_of (ls := [some (.ref 1), none]) mfX3_anyBest rfl (Nat.le_of_ble_eq_true rfl) (fun g hg hr => ?_)
  unfold X3_anyBest at h
  refine e_iconst (v := 0) hg dX3_anyBest_0 (by decide) ?_
  refine e_istore_n (ls' := [some (.ref 1), some (.int 0)]) hg dX3_anyBest_1 rfl ?_
  exact X3_anyBest_L2_ok hg hr  10000 _ _ h

def X7_add (w : Nat) (a1 : Int32) (a2 : Int32) (M : mm) : Option (Unit × mm) :=
  gd (isO 7 w) <|
  if (M.1 w 0) < 242 then
    gd (inb (M.1 w 0) 242) <|
    lt_ (sA M (w + 1) (upd (M.1 (w + 1)) (M.1 w 0).toNatClampNeg a1)) fun M3 =>
    gd (inb (M3.1 w 0) 242) <|
    lt_ (sA M3 (w + 2) (upd (M3.1 (w + 2)) (M3.1 w 0).toNatClampNeg a2)) fun M5 =>
    lt_ (sA M5 w (upd (M5.1 w) 0 ((M5.1 w 0) + 1))) fun M6 =>
    some ((), M6)
  else
    some ((), M)
set_option maxRecDepth 100000 in
set_option maxHeartbeats 4000000 in
theorem X7_add_ok {w : Nat} {a1 : Int32} {a2 : Int32} {M : mm} {r : Unit × mm} (h : X7_add w a1 a2 M = some r) : CM yX7_add cX7_add 3 (none) 0 [.ref w, .int a1, .int a2] (cells M) none (cells r.2) := by
  refine cm_of (ls := [some (.ref w), some (.int a1), some (.int a2)]) mfX7_add rfl (Nat.le_of_ble_eq_true rfl) (fun g hg hr => ?_)
  unfold X7_add at h
  obtain ⟨ho, h⟩ := o_gd h
  refine e_aload_n hg dX7_add_0 rfl ?_
  refine m_getI hg ciX7 0 lk_179 dX7_add_1 ho (Nat.le_of_ble_eq_true rfl) rfl ?_
  refine e_sipush (v := 242) hg dX7_add_4 (by decide) ?_
  refine e_icmplt hg 11 dX7_add_7 (by decide) (fun c1 => ?_) (fun c1 => ?_)
  · have h := o_pos c1 h
    refine e_aload_n hg dX7_add_11 rfl ?_
    refine m_getR (q := (w + 1)) hg ciX7 1 lk_182 dX7_add_12 ho (Nat.le_of_ble_eq_true rfl) rfl (rfF7_1 ho) ?_
    refine e_aload_n hg dX7_add_15 rfl ?_
    refine m_getI hg ciX7 0 lk_179 dX7_add_16 ho (Nat.le_of_ble_eq_true rfl) rfl ?_
    refine e_iload_n hg dX7_add_19 rfl ?_
    obtain ⟨hi2, h⟩ := o_gd h
    obtain ⟨M3, hM3, h⟩ := o_lt h
    refine m_iast hg (shF7_1 ho) hi2 dX7_add_20 ?_
    rw [← hM3]
    refine e_aload_n hg dX7_add_21 rfl ?_
    refine m_getR (q := (w + 2)) hg ciX7 2 lk_184 dX7_add_22 ho (Nat.le_of_ble_eq_true rfl) rfl (rfF7_2 ho) ?_
    refine e_aload_n hg dX7_add_25 rfl ?_
    refine m_getI hg ciX7 0 lk_179 dX7_add_26 ho (Nat.le_of_ble_eq_true rfl) rfl ?_
    refine e_iload_n hg dX7_add_29 rfl ?_
    obtain ⟨hi4, h⟩ := o_gd h
    obtain ⟨M5, hM5, h⟩ := o_lt h
    refine m_iast hg (shF7_2 ho) hi4 dX7_add_30 ?_
    rw [← hM5]
    refine e_aload_n hg dX7_add_31 rfl ?_
    refine e_dup hg dX7_add_32 rfl ?_
    refine m_getI hg ciX7 0 lk_179 dX7_add_33 ho (Nat.le_of_ble_eq_true rfl) rfl ?_
    refine e_iconst (v := 1) hg dX7_add_36 (by decide) ?_
    refine e_iadd hg dX7_add_37 ?_
    obtain ⟨M6, hM6, h⟩ := o_lt h
    refine m_putI hg ciX7 0 lk_179 dX7_add_38 ho (Nat.le_of_ble_eq_true rfl) rfl rfl rfl rfl ?_
    rw [← hM6]
    exact m_vret hg hr dX7_add_41 h
  · have h := o_neg c1 h
    exact m_vret hg hr dX7_add_10 h

def X6_holdNothing (w : Nat) (M : mm) : Option (Unit × mm) :=
  gd (isO 6 w) <|
  lt_ (sA M w (upd (M.1 w) 0 0)) fun M1 =>
  some ((), M1)
set_option maxRecDepth 100000 in
set_option maxHeartbeats 4000000 in
theorem X6_holdNothing_ok {w : Nat} {M : mm} {r : Unit × mm} (h : X6_holdNothing w M = some r) : CM yX6_holdNothing cX6_holdNothing 1 (none) 0 [.ref w] (cells M) none (cells r.2) := by
  refine cm_of (ls := [some (.ref w)]) mfX6_holdNothing rfl (Nat.le_of_ble_eq_true rfl) (fun g hg hr => ?_)
  unfold X6_holdNothing at h
  obtain ⟨ho, h⟩ := o_gd h
  refine e_aload_n hg dX6_holdNothing_0 rfl ?_
  refine e_iconst (v := 0) hg dX6_holdNothing_1 (by decide) ?_
  obtain ⟨M1, hM1, h⟩ := o_lt h
  refine m_putI hg ciX6 0 lk_431 dX6_holdNothing_2 ho (Nat.le_of_ble_eq_true rfl) rfl rfl rfl rfl ?_
  rw [← hM1]
  exact m_vret hg hr dX6_holdNothing_5 h

def X6_holdPerson (w : Nat) (a1 : Int32) (M : mm) : Option (Unit × mm) :=
  gd (isO 6 w) <|
  lt_ (sA M w (upd (M.1 w) 0 1)) fun M1 =>
  lt_ (sA M1 w (upd (M1.1 w) 1 a1)) fun M2 =>
  some ((), M2)
set_option maxRecDepth 100000 in
set_option maxHeartbeats 4000000 in
theorem X6_holdPerson_ok {w : Nat} {a1 : Int32} {M : mm} {r : Unit × mm} (h : X6_holdPerson w a1 M = some r) : CM yX6_holdPerson cX6_holdPerson 2 (none) 0 [.ref w, .int a1] (cells M) none (cells r.2) := by
  refine cm_of (ls := [some (.ref w), some (.int a1)]) mfX6_holdPerson rfl (Nat.le_of_ble_eq_true rfl) (fun g hg hr => ?_)
  unfold X6_holdPerson at h
  obtain ⟨ho, h⟩ := o_gd h
  refine e_aload_n hg dX6_holdPerson_0 rfl ?_
  refine e_iconst (v := 1) hg dX6_holdPerson_1 (by decide) ?_
  obtain ⟨M1, hM1, h⟩ := o_lt h
  refine m_putI hg ciX6 0 lk_431 dX6_holdPerson_2 ho (Nat.le_of_ble_eq_true rfl) rfl rfl rfl rfl ?_
  rw [← hM1]
  refine e_aload_n hg dX6_holdPerson_5 rfl ?_
  refine e_iload_n hg dX6_holdPerson_6 rfl ?_
  obtain ⟨M2, hM2, h⟩ := o_lt h
  refine m_putI hg ciX6 1 lk_433 dX6_holdPerson_7 ho (Nat.le_of_ble_eq_true rfl) rfl rfl rfl rfl ?_
  rw [← hM2]
  exact m_vret hg hr dX6_holdPerson_10 h

def X6_holdRow (w : Nat) (a1 : Int32) (a2 : Int32) (M : mm) : Option (Unit × mm) :=
  gd (isO 6 w) <|
  lt_ (sA M w (upd (M.1 w) 0 2)) fun M1 =>
  lt_ (sA M1 w (upd (M1.1 w) 2 a1)) fun M2 =>
  lt_ (sA M2 w (upd (M2.1 w) 3 a2)) fun M3 =>
  bd (J7_fill_d0a16 (w + 1) 0 M3) fun u4 M5 =>
  some ((), M5)
set_option maxRecDepth 100000 in
set_option maxHeartbeats 4000000 in
theorem X6_holdRow_ok {w : Nat} {a1 : Int32} {a2 : Int32} {M : mm} {r : Unit × mm} (h : X6_holdRow w a1 a2 M = some r) : CM yX6_holdRow cX6_holdRow 3 (none) 1 [.ref w, .int a1, .int a2] (cells M) none (cells r.2) := by
  refine cm_of (ls := [some (.ref w), some (.int a1), some (.int a2)]) mfX6_holdRow rfl (Nat.le_of_ble_eq_true rfl) (fun g hg hr => ?_)
  unfold X6_holdRow at h
  obtain ⟨ho, h⟩ := o_gd h
  refine e_aload_n hg dX6_holdRow_0 rfl ?_
  refine e_iconst (v := 2) hg dX6_holdRow_1 (by decide) ?_
  obtain ⟨M1, hM1, h⟩ := o_lt h
  refine m_putI hg ciX6 0 lk_431 dX6_holdRow_2 ho (Nat.le_of_ble_eq_true rfl) rfl rfl rfl rfl ?_
  rw [← hM1]
  refine e_aload_n hg dX6_holdRow_5 rfl ?_
  refine e_iload_n hg dX6_holdRow_6 rfl ?_
  obtain ⟨M2, hM2, h⟩ := o_lt h
  refine m_putI hg ciX6 2 lk_435 dX6_holdRow_7 ho (Nat.le_of_ble_eq_true rfl) rfl rfl rfl rfl ?_
  rw [← hM2]
  refine e_aload_n hg dX6_holdRow_10 rfl ?_
  refine e_iload_n hg dX6_holdRow_11 rfl ?_
  obtain ⟨M3, hM3, h⟩ := o_lt h
  refine m_putI hg ciX6 3 lk_437 dX6_holdRow_12 ho (Nat.le_of_ble_eq_true rfl) rfl rfl rfl rfl ?_
  rw [← hM3]
  refine e_aload_n hg dX6_holdRow_15 rfl ?_
  refine m_getR (q := (w + 1)) hg ciX6 4 lk_439 dX6_holdRow_16 ho (Nat.le_of_ble_eq_true rfl) rfl (rfF6_4 ho) ?_
  refine e_lconst (v := 0) hg dX6_holdRow_19 (by decide) ?_
  obtain ⟨u4, M5, hc6, h⟩ := o_bd h
  refine m_callSV (rest := []) (M' := M5) hg mfJ7_fill_d0a16 mvJ7_fill_d0a16 (J7_fill_d0a16_ok (r := (u4, M5)) hc6) lk_937 dX6_holdRow_20 rfl rfl (by omega) (Nat.le_of_ble_eq_true rfl) ?_
  exact m_vret hg hr dX6_holdRow_23 h

def X6_isRowOf (w : Nat) (a1 : Int32) (M : mm) : Option (Int32 × mm) :=
  gd (isO 6 w) <|
  if (M.1 w 0) = 2 then
    if (M.1 w 2) = a1 then
      some (1, M)
    else
      some (0, M)
  else
    some (0, M)
set_option maxRecDepth 100000 in
set_option maxHeartbeats 4000000 in
theorem X6_isRowOf_ok {w : Nat} {a1 : Int32} {M : mm} {r : Int32 × mm} (h : X6_isRowOf w a1 M = some r) : CM yX6_isRowOf cX6_isRowOf 2 (some .boolean) 0 [.ref w, .int a1] (cells M) (some (.int r.1)) (cells r.2) := by
  refine cm_of (ls := [some (.ref w), some (.int a1)]) mfX6_isRowOf rfl (Nat.le_of_ble_eq_true rfl) (fun g hg hr => ?_)
  unfold X6_isRowOf at h
  obtain ⟨ho, h⟩ := o_gd h
  refine e_aload_n hg dX6_isRowOf_0 rfl ?_
  refine m_getI hg ciX6 0 lk_431 dX6_isRowOf_1 ho (Nat.le_of_ble_eq_true rfl) rfl ?_
  refine e_iconst (v := 2) hg dX6_isRowOf_4 (by decide) ?_
  refine e_icmpne hg 20 dX6_isRowOf_5 (by decide) (fun c1 => ?_) (fun c1 => ?_)
  · have h := o_pos c1 h
    refine e_aload_n hg dX6_isRowOf_8 rfl ?_
    refine m_getI hg ciX6 2 lk_435 dX6_isRowOf_9 ho (Nat.le_of_ble_eq_true rfl) rfl ?_
    refine e_iload_n hg dX6_isRowOf_12 rfl ?_
    refine e_icmpne hg 20 dX6_isRowOf_13 (by decide) (fun c2 => ?_) (fun c2 => ?_)
    · have h := o_pos c2 h
      refine e_iconst (v := 1) hg dX6_isRowOf_16 (by decide) ?_
      refine e_goto hg 21 dX6_isRowOf_17 (by decide) ?_
      exact m_zret hg hr rfl dX6_isRowOf_21 h
    · have h := o_neg c2 h
      refine e_iconst (v := 0) hg dX6_isRowOf_20 (by decide) ?_
      exact m_zret hg hr rfl dX6_isRowOf_21 h
  · have h := o_neg c1 h
    refine e_iconst (v := 0) hg dX6_isRowOf_20 (by decide) ?_
    exact m_zret hg hr rfl dX6_isRowOf_21 h

def X6_hasPlaces (w : Nat) (a1 : Int32) (a2 : Int32) (M : mm) : Option (Int32 × mm) :=
  gd (isO 6 w) <|
  if a2 < 0 then
    some (0, M)
  else
    if (M.1 w 3) < a2 then
      some (0, M)
    else
      if a1 < 0 then
        some (0, M)
      else
        if ((M.1 w 3) - a2) < a1 then
          some (0, M)
        else
          some (1, M)
set_option maxRecDepth 100000 in
set_option maxHeartbeats 4000000 in
theorem X6_hasPlaces_ok {w : Nat} {a1 : Int32} {a2 : Int32} {M : mm} {r : Int32 × mm} (h : X6_hasPlaces w a1 a2 M = some r) : CM yX6_hasPlaces cX6_hasPlaces 3 (some .boolean) 0 [.ref w, .int a1, .int a2] (cells M) (some (.int r.1)) (cells r.2) := by
  refine cm_of (ls := [some (.ref w), some (.int a1), some (.int a2)]) mfX6_hasPlaces rfl (Nat.le_of_ble_eq_true rfl) (fun g hg hr => ?_)
  unfold X6_hasPlaces at h
  obtain ⟨ho, h⟩ := o_gd h
  refine e_iload_n hg dX6_hasPlaces_0 rfl ?_
  refine e_iflt hg 30 dX6_hasPlaces_1 (by decide) (fun c1 => ?_) (fun c1 => ?_)
  · have h := o_pos c1 h
    refine e_iconst (v := 0) hg dX6_hasPlaces_30 (by decide) ?_
    exact m_zret hg hr rfl dX6_hasPlaces_31 h
  · have h := o_neg c1 h
    refine e_iload_n hg dX6_hasPlaces_4 rfl ?_
    refine e_aload_n hg dX6_hasPlaces_5 rfl ?_
    refine m_getI hg ciX6 3 lk_437 dX6_hasPlaces_6 ho (Nat.le_of_ble_eq_true rfl) rfl ?_
    refine e_icmpgt hg 30 dX6_hasPlaces_9 (by decide) (fun c2 => ?_) (fun c2 => ?_)
    · have h := o_pos c2 h
      refine e_iconst (v := 0) hg dX6_hasPlaces_30 (by decide) ?_
      exact m_zret hg hr rfl dX6_hasPlaces_31 h
    · have h := o_neg c2 h
      refine e_iload_n hg dX6_hasPlaces_12 rfl ?_
      refine e_iflt hg 30 dX6_hasPlaces_13 (by decide) (fun c3 => ?_) (fun c3 => ?_)
      · have h := o_pos c3 h
        refine e_iconst (v := 0) hg dX6_hasPlaces_30 (by decide) ?_
        exact m_zret hg hr rfl dX6_hasPlaces_31 h
      · have h := o_neg c3 h
        refine e_iload_n hg dX6_hasPlaces_16 rfl ?_
        refine e_aload_n hg dX6_hasPlaces_17 rfl ?_
        refine m_getI hg ciX6 3 lk_437 dX6_hasPlaces_18 ho (Nat.le_of_ble_eq_true rfl) rfl ?_
        refine e_iload_n hg dX6_hasPlaces_21 rfl ?_
        refine e_isub hg dX6_hasPlaces_22 ?_
        refine e_icmpgt hg 30 dX6_hasPlaces_23 (by decide) (fun c4 => ?_) (fun c4 => ?_)
        · have h := o_pos c4 h
          refine e_iconst (v := 0) hg dX6_hasPlaces_30 (by decide) ?_
          exact m_zret hg hr rfl dX6_hasPlaces_31 h
        · have h := o_neg c4 h
          refine e_iconst (v := 1) hg dX6_hasPlaces_26 (by decide) ?_
          refine e_goto hg 31 dX6_hasPlaces_27 (by decide) ?_
          exact m_zret hg hr rfl dX6_hasPlaces_31 h

def X6_refusal (w : Nat) (a1 : Int32) (M : mm) : Option (Int32 × mm) :=
  gd (isO 6 w) <|
  if (M.1 w 0) = 0 then
    some ((-11), M)
  else
    if (M.1 w 0) = 2 then
      if a1 < 0 then
        some ((-13), M)
      else
        if a1 < (M.1 w 3) then
          some (0, M)
        else
          some ((-13), M)
    else
      some ((-12), M)
set_option maxRecDepth 100000 in
set_option maxHeartbeats 4000000 in
theorem X6_refusal_ok {w : Nat} {a1 : Int32} {M : mm} {r : Int32 × mm} (h : X6_refusal w a1 M = some r) : CM yX6_refusal cX6_refusal 2 (some .int) 0 [.ref w, .int a1] (cells M) (some (.int r.1)) (cells r.2) := by
  refine cm_of (ls := [some (.ref w), some (.int a1)]) mfX6_refusal rfl (Nat.le_of_ble_eq_true rfl) (fun g hg hr => ?_)
  unfold X6_refusal at h
  obtain ⟨ho, h⟩ := o_gd h
  refine e_aload_n hg dX6_refusal_0 rfl ?_
  refine m_getI hg ciX6 0 lk_431 dX6_refusal_1 ho (Nat.le_of_ble_eq_true rfl) rfl ?_
  refine e_ifne hg 10 dX6_refusal_4 (by decide) (fun c1 => ?_) (fun c1 => ?_)
  · have h := o_pos c1 h
    refine e_bipush (v := -11) hg dX6_refusal_7 (by decide) ?_
    exact m_iret hg hr dX6_refusal_9 h
  · have h := o_neg c1 h
    refine e_aload_n hg dX6_refusal_10 rfl ?_
    refine m_getI hg ciX6 0 lk_431 dX6_refusal_11 ho (Nat.le_of_ble_eq_true rfl) rfl ?_
    refine e_iconst (v := 2) hg dX6_refusal_14 (by decide) ?_
    refine e_icmpeq hg 21 dX6_refusal_15 (by decide) (fun c2 => ?_) (fun c2 => ?_)
    · have h := o_pos c2 h
      refine e_iload_n hg dX6_refusal_21 rfl ?_
      refine e_iflt hg 37 dX6_refusal_22 (by decide) (fun c3 => ?_) (fun c3 => ?_)
      · have h := o_pos c3 h
        refine e_bipush (v := -13) hg dX6_refusal_37 (by decide) ?_
        exact m_iret hg hr dX6_refusal_39 h
      · have h := o_neg c3 h
        refine e_iload_n hg dX6_refusal_25 rfl ?_
        refine e_aload_n hg dX6_refusal_26 rfl ?_
        refine m_getI hg ciX6 3 lk_437 dX6_refusal_27 ho (Nat.le_of_ble_eq_true rfl) rfl ?_
        refine e_icmpge hg 37 dX6_refusal_30 (by decide) (fun c4 => ?_) (fun c4 => ?_)
        · have h := o_pos c4 h
          refine e_iconst (v := 0) hg dX6_refusal_33 (by decide) ?_
          refine e_goto hg 39 dX6_refusal_34 (by decide) ?_
          exact m_iret hg hr dX6_refusal_39 h
        · have h := o_neg c4 h
          refine e_bipush (v := -13) hg dX6_refusal_37 (by decide) ?_
          exact m_iret hg hr dX6_refusal_39 h
    · have h := o_neg c2 h
      refine e_bipush (v := -12) hg dX6_refusal_18 (by decide) ?_
      exact m_iret hg hr dX6_refusal_20 h

def X6_keptOf (w : Nat) (a1 : Int64) (M : mm) : Option (Int64 × mm) :=
  gd (isO 6 w) <|
  if (M.1 w 2) = 0 then
    some (((a1.toInt32).toInt8.toInt32).toInt64, M)
  else
  if (M.1 w 2) = 1 then
    some (((a1.toInt32).toInt16.toInt32).toInt64, M)
  else
  if (M.1 w 2) = 2 then
    some ((a1.toInt32).toInt64, M)
  else
  if (M.1 w 2) = 3 then
    some (a1, M)
  else
  if (lg_cmp a1 0) = 0 then
    some (0, M)
  else
    some (1, M)
set_option maxRecDepth 100000 in
set_option maxHeartbeats 4000000 in
theorem X6_keptOf_ok {w : Nat} {a1 : Int64} {M : mm} {r : Int64 × mm} (h : X6_keptOf w a1 M = some r) : CM yX6_keptOf cX6_keptOf 3 (some .long) 0 [.ref w, .long a1] (cells M) (some (.long r.1)) (cells r.2) := by
  refine cm_of (ls := [some (.ref w), some (.long a1), none]) mfX6_keptOf rfl (Nat.le_of_ble_eq_true rfl) (fun g hg hr => ?_)
  unfold X6_keptOf at h
  obtain ⟨ho, h⟩ := o_gd h
  refine e_aload_n hg dX6_keptOf_0 rfl ?_
  refine m_getI hg ciX6 2 lk_435 dX6_keptOf_1 ho (Nat.le_of_ble_eq_true rfl) rfl ?_
  by_cases c1 : (M.1 w 2) = 0
  · have h := o_pos c1 h
    refine e_tabIn (v := 0) hg 36 dX6_keptOf_4 c1 (by decide) (by decide) rfl (by decide) ?_
    refine e_lload_n hg dX6_keptOf_36 rfl ?_
    refine e_l2i hg dX6_keptOf_37 ?_
    refine e_i2b hg dX6_keptOf_38 ?_
    refine e_i2l hg dX6_keptOf_39 ?_
    exact m_lret hg hr dX6_keptOf_40 h
  have h := o_neg c1 h
  by_cases c2 : (M.1 w 2) = 1
  · have h := o_pos c2 h
    refine e_tabIn (v := 1) hg 41 dX6_keptOf_4 c2 (by decide) (by decide) rfl (by decide) ?_
    refine e_lload_n hg dX6_keptOf_41 rfl ?_
    refine e_l2i hg dX6_keptOf_42 ?_
    refine e_i2s hg dX6_keptOf_43 ?_
    refine e_i2l hg dX6_keptOf_44 ?_
    exact m_lret hg hr dX6_keptOf_45 h
  have h := o_neg c2 h
  by_cases c3 : (M.1 w 2) = 2
  · have h := o_pos c3 h
    refine e_tabIn (v := 2) hg 46 dX6_keptOf_4 c3 (by decide) (by decide) rfl (by decide) ?_
    refine e_lload_n hg dX6_keptOf_46 rfl ?_
    refine e_l2i hg dX6_keptOf_47 ?_
    refine e_i2l hg dX6_keptOf_48 ?_
    exact m_lret hg hr dX6_keptOf_49 h
  have h := o_neg c3 h
  by_cases c4 : (M.1 w 2) = 3
  · have h := o_pos c4 h
    refine e_tabIn (v := 3) hg 50 dX6_keptOf_4 c4 (by decide) (by decide) rfl (by decide) ?_
    refine e_lload_n hg dX6_keptOf_50 rfl ?_
    exact m_lret hg hr dX6_keptOf_51 h
  have h := o_neg c4 h
  refine e_tabOut hg 52 dX6_keptOf_4 (by have e_c1 := ne_toIntL (n := 0) (by decide) c1; have e_c2 := ne_toIntL (n := 1) (by decide) c2; have e_c3 := ne_toIntL (n := 2) (by decide) c3; have e_c4 := ne_toIntL (n := 3) (by decide) c4; omega) (by decide) ?_
  refine e_lload_n hg dX6_keptOf_52 rfl ?_
  refine e_lconst (v := 0) hg dX6_keptOf_53 (by decide) ?_
  refine e_lcmp hg dX6_keptOf_54 ?_
  refine e_ifeq hg 62 dX6_keptOf_55 (by decide) (fun c5 => ?_) (fun c5 => ?_)
  · have h := o_pos c5 h
    refine e_lconst (v := 0) hg dX6_keptOf_62 (by decide) ?_
    exact m_lret hg hr dX6_keptOf_63 h
  · have h := o_neg c5 h
    refine e_lconst (v := 1) hg dX6_keptOf_58 (by decide) ?_
    refine e_goto hg 63 dX6_keptOf_59 (by decide) ?_
    exact m_lret hg hr dX6_keptOf_63 h

def X7_become (w : Nat) (a1 : Nat) (M : mm) : Option (Unit × mm) :=
  gd (isO 7 w) <|
  gd (isO 7 a1) <|
  lt_ (sA M w (upd (M.1 w) 0 (M.1 a1 0))) fun M1 =>
  gd (cpok 0 0 (M1.1 w 0) 242 242) <|
  lt_ (sA M1 (w + 1) (va_cpy (M1.1 (a1 + 1)) (M1.1 (w + 1)) (0 : Int32).toNatClampNeg (0 : Int32).toNatClampNeg (M1.1 w 0).toNatClampNeg)) fun M3 =>
  gd (cpok 0 0 (M3.1 w 0) 242 242) <|
  lt_ (sA M3 (w + 2) (va_cpy (M3.1 (a1 + 2)) (M3.1 (w + 2)) (0 : Int32).toNatClampNeg (0 : Int32).toNatClampNeg (M3.1 w 0).toNatClampNeg)) fun M5 =>
  some ((), M5)
set_option maxRecDepth 100000 in
set_option maxHeartbeats 4000000 in
theorem X7_become_ok {w : Nat} {a1 : Nat} {M : mm} {r : Unit × mm} (h : X7_become w a1 M = some r) : CM yX7_become cX7_become 2 (none) 1 [.ref w, .ref a1] (cells M) none (cells r.2) := by
  refine cm_of (ls := [some (.ref w), some (.ref a1)]) mfX7_become rfl (Nat.le_of_ble_eq_true rfl) (fun g hg hr => ?_)
  unfold X7_become at h
  obtain ⟨ho, h⟩ := o_gd h
  obtain ⟨ho1, h⟩ := o_gd h
  refine e_aload_n hg dX7_become_0 rfl ?_
  refine e_aload_n hg dX7_become_1 rfl ?_
  refine m_getI hg ciX7 0 lk_179 dX7_become_2 ho1 (Nat.le_of_ble_eq_true rfl) rfl ?_
  obtain ⟨M1, hM1, h⟩ := o_lt h
  refine m_putI hg ciX7 0 lk_179 dX7_become_5 ho (Nat.le_of_ble_eq_true rfl) rfl rfl rfl rfl ?_
  rw [← hM1]
  refine e_aload_n hg dX7_become_8 rfl ?_
  refine m_getR (q := (a1 + 1)) hg ciX7 1 lk_182 dX7_become_9 ho1 (Nat.le_of_ble_eq_true rfl) rfl (rfF7_1 ho1) ?_
  refine e_iconst (v := 0) hg dX7_become_12 (by decide) ?_
  refine e_aload_n hg dX7_become_13 rfl ?_
  refine m_getR (q := (w + 1)) hg ciX7 1 lk_182 dX7_become_14 ho (Nat.le_of_ble_eq_true rfl) rfl (rfF7_1 ho) ?_
  refine e_iconst (v := 0) hg dX7_become_17 (by decide) ?_
  refine e_aload_n hg dX7_become_18 rfl ?_
  refine m_getI hg ciX7 0 lk_179 dX7_become_19 ho (Nat.le_of_ble_eq_true rfl) rfl ?_
  obtain ⟨hc2, h⟩ := o_gd h
  obtain ⟨M3, hM3, h⟩ := o_lt h
  refine m_cpyI hg (shF7_1 ho1) (shF7_1 ho) hc2 (Nat.le_of_ble_eq_true rfl) (by omega) lk_651 dX7_become_22 ?_
  rw [← hM3]
  refine e_aload_n hg dX7_become_25 rfl ?_
  refine m_getR (q := (a1 + 2)) hg ciX7 2 lk_184 dX7_become_26 ho1 (Nat.le_of_ble_eq_true rfl) rfl (rfF7_2 ho1) ?_
  refine e_iconst (v := 0) hg dX7_become_29 (by decide) ?_
  refine e_aload_n hg dX7_become_30 rfl ?_
  refine m_getR (q := (w + 2)) hg ciX7 2 lk_184 dX7_become_31 ho (Nat.le_of_ble_eq_true rfl) rfl (rfF7_2 ho) ?_
  refine e_iconst (v := 0) hg dX7_become_34 (by decide) ?_
  refine e_aload_n hg dX7_become_35 rfl ?_
  refine m_getI hg ciX7 0 lk_179 dX7_become_36 ho (Nat.le_of_ble_eq_true rfl) rfl ?_
  obtain ⟨hc4, h⟩ := o_gd h
  obtain ⟨M5, hM5, h⟩ := o_lt h
  refine m_cpyI hg (shF7_2 ho1) (shF7_2 ho) hc4 (Nat.le_of_ble_eq_true rfl) (by omega) lk_651 dX7_become_39 ?_
  rw [← hM5]
  exact m_vret hg hr dX7_become_42 h

def J7_fill_031fb_L5 (a0 : Nat) (a1 : Int32) : Nat → Int32 → Int32 → mm → Option (Unit × mm)
  | 0, _, _, _ => none
  | n_ + 1, x2, x3, M =>
    if x2 < x3 then
      gd (isA 2 a0) <|
      gd (inb x2 (alN a0)) <|
      lt_ (sA M a0 (upd (M.1 a0) x2.toNatClampNeg (vp_nar .byte a1))) fun M5 =>
      (J7_fill_031fb_L5 a0 a1 n_) (x2 + 1) x3 M5
    else
      some ((), M)
set_option maxRecDepth 100000 in
set_option maxHeartbeats 4000000 in
theorem J7_fill_031fb_L5_ok {g : gx} (hg : EC g cJ7_fill_031fb RJ7 0) {a0 : Nat} {a1 : Int32} {r : Unit × mm} (hr : RT g (none) (0, 0) none (cells r.2)) : ∀ (n_ : Nat) (x2 : Int32) (x3 : Int32) (M : mm), J7_fill_031fb_L5 a0 a1 n_ x2 x3 M = some r → E g (0, 0) 5 [some (.ref a0), some (.int a1), some (.int x2), some (.int x3)] [] (cells M) := by
  intro n_
  induction n_ with
  | zero => intro x2 x3 M h; exact o_no h
  | succ n_ ih =>
    intro x2 x3 M h
    rw [J7_fill_031fb_L5] at h
    refine e_iload_n hg dJ7_fill_031fb_5 rfl ?_
    refine e_iload_n hg dJ7_fill_031fb_6 rfl ?_
    refine e_icmpge hg 20 dJ7_fill_031fb_7 (by decide) (fun c2 => ?_) (fun c2 => ?_)
    · have h := o_pos c2 h
      refine e_aload_n hg dJ7_fill_031fb_10 rfl ?_
      refine e_iload_n hg dJ7_fill_031fb_11 rfl ?_
      refine e_iload_n hg dJ7_fill_031fb_12 rfl ?_
      obtain ⟨hA3, h⟩ := o_gd h
      obtain ⟨hi4, h⟩ := o_gd h
      obtain ⟨M5, hM5, h⟩ := o_lt h
      refine m_bast hg (isA_spec hA3) hi4 dJ7_fill_031fb_13 ?_
      rw [← hM5]
      refine e_iinc (v := (x2 + 1)) (ls' := [some (.ref a0), some (.int a1), some (.int (x2 + 1)), some (.int x3)]) hg dJ7_fill_031fb_14 rfl rfl rfl ?_
      refine e_goto hg 5 dJ7_fill_031fb_17 (by decide) ?_
      exact ih _ _ _ h
    · have h := o_neg c2 h
      exact m_vret hg hr dJ7_fill_031fb_20 h

def J7_fill_031fb (a0 : Nat) (a1 : Int32) (M : mm) : Option (Unit × mm) :=
  gd (isA 2 a0) <|
  J7_fill_031fb_L5 a0 a1 10000 0 (Int32.ofNat (alN a0)) M
set_option maxRecDepth 100000 in
set_option maxHeartbeats 4000000 in
theorem J7_fill_031fb_ok {a0 : Nat} {a1 : Int32} {M : mm} {r : Unit × mm} (h : J7_fill_031fb a0 a1 M = some r) : CM yJ7_fill_031fb cJ7_fill_031fb 4 (none) 0 [.ref a0, .int a1] (cells M) none (cells r.2) := by
  refine cm_of (ls := [some (.ref a0), some (.int a1), none, none]) mfJ7_fill_031fb rfl (Nat.le_of_ble_eq_true rfl) (fun g hg hr => ?_)
  unfold J7_fill_031fb at h
  refine e_iconst (v := 0) hg dJ7_fill_031fb_0 (by decide) ?_
  refine e_istore_n (ls' := [some (.ref a0), some (.int a1), some (.int 0), none]) hg dJ7_fill_031fb_1 rfl ?_
  refine e_aload_n hg dJ7_fill_031fb_2 rfl ?_
  obtain ⟨hA1, h⟩ := o_gd h
  refine m_alen (v := (Int32.ofNat (alN a0))) hg (isA_spec hA1) (by decide) rfl dJ7_fill_031fb_3 ?_
  refine e_istore_n (ls' := [some (.ref a0), some (.int a1), some (.int 0), some (.int (Int32.ofNat (alN a0)))]) hg dJ7_fill_031fb_4 rfl ?_
  exact J7_fill_031fb_L5_ok hg hr  10000 _ _ _ h

def X9_become (w : Nat) (a1 : Nat) (a2 : Int32) (a3 : Int32) (M : mm) : Option (Unit × mm) :=
  gd (isO 9 w) <|
  gd (isO 9 a1) <|
  lt_ (sA M w (upd (M.1 w) 0 (M.1 a1 0))) fun M1 =>
  lt_ (sA M1 w (upd (M1.1 w) 1 (M1.1 a1 1))) fun M2 =>
  gd (cpok 0 0 a3 6 6) <|
  lt_ (sA M2 (w + 1) (va_cpy (M2.1 (a1 + 1)) (M2.1 (w + 1)) (0 : Int32).toNatClampNeg (0 : Int32).toNatClampNeg a3.toNatClampNeg)) fun M4 =>
  gd (cpok 0 0 a3 6 6) <|
  lt_ (sA M4 (w + 2) (va_cpy (M4.1 (a1 + 2)) (M4.1 (w + 2)) (0 : Int32).toNatClampNeg (0 : Int32).toNatClampNeg a3.toNatClampNeg)) fun M6 =>
  gd (cpok 0 0 a3 6 6) <|
  lt_ (sA M6 (w + 3) (va_cpy (M6.1 (a1 + 3)) (M6.1 (w + 3)) (0 : Int32).toNatClampNeg (0 : Int32).toNatClampNeg a3.toNatClampNeg)) fun M8 =>
  gd (cpok 0 0 a3 6 6) <|
  lt_ (sA M8 (w + 4) (va_cpy (M8.1 (a1 + 4)) (M8.1 (w + 4)) (0 : Int32).toNatClampNeg (0 : Int32).toNatClampNeg a3.toNatClampNeg)) fun M10 =>
  gd (cpok 0 0 a3 6 6) <|
  lt_ (sA M10 (w + 5) (va_cpy (M10.1 (a1 + 5)) (M10.1 (w + 5)) (0 : Int32).toNatClampNeg (0 : Int32).toNatClampNeg a3.toNatClampNeg)) fun M12 =>
  gd (cpok 0 0 (a3 * 8) 48 48) <|
  lt_ (sA M12 (w + 6) (va_cpy (M12.1 (a1 + 6)) (M12.1 (w + 6)) (0 : Int32).toNatClampNeg (0 : Int32).toNatClampNeg (a3 * 8).toNatClampNeg)) fun M14 =>
  gd (cpok 0 0 a2 5 5) <|
  lt_ (sA M14 (w + 7) (va_cpy (M14.1 (a1 + 7)) (M14.1 (w + 7)) (0 : Int32).toNatClampNeg (0 : Int32).toNatClampNeg a2.toNatClampNeg)) fun M16 =>
  gd (cpok 0 0 a2 5 5) <|
  lt_ (sA M16 (w + 8) (va_cpy (M16.1 (a1 + 8)) (M16.1 (w + 8)) (0 : Int32).toNatClampNeg (0 : Int32).toNatClampNeg a2.toNatClampNeg)) fun M18 =>
  gd (cpok 0 0 a2 5 5) <|
  lt_ (sA M18 (w + 9) (va_cpy (M18.1 (a1 + 9)) (M18.1 (w + 9)) (0 : Int32).toNatClampNeg (0 : Int32).toNatClampNeg a2.toNatClampNeg)) fun M20 =>
  some ((), M20)
set_option maxRecDepth 100000 in
set_option maxHeartbeats 4000000 in
theorem X9_become_ok {w : Nat} {a1 : Nat} {a2 : Int32} {a3 : Int32} {M : mm} {r : Unit × mm} (h : X9_become w a1 a2 a3 M = some r) : CM yX9_become cX9_become 4 (none) 1 [.ref w, .ref a1, .int a2, .int a3] (cells M) none (cells r.2) := by
  refine cm_of (ls := [some (.ref w), some (.ref a1), some (.int a2), some (.int a3)]) mfX9_become rfl (Nat.le_of_ble_eq_true rfl) (fun g hg hr => ?_)
  unfold X9_become at h
  obtain ⟨ho, h⟩ := o_gd h
  obtain ⟨ho1, h⟩ := o_gd h
  refine e_aload_n hg dX9_become_0 rfl ?_
  refine e_aload_n hg dX9_become_1 rfl ?_
  refine m_getI hg ciX9 0 lk_311 dX9_become_2 ho1 (Nat.le_of_ble_eq_true rfl) rfl ?_
  obtain ⟨M1, hM1, h⟩ := o_lt h
  refine m_putI hg ciX9 0 lk_311 dX9_become_5 ho (Nat.le_of_ble_eq_true rfl) rfl rfl rfl rfl ?_
  rw [← hM1]
  refine e_aload_n hg dX9_become_8 rfl ?_
  refine e_aload_n hg dX9_become_9 rfl ?_
  refine m_getI hg ciX9 1 lk_314 dX9_become_10 ho1 (Nat.le_of_ble_eq_true rfl) rfl ?_
  obtain ⟨M2, hM2, h⟩ := o_lt h
  refine m_putI hg ciX9 1 lk_314 dX9_become_13 ho (Nat.le_of_ble_eq_true rfl) rfl rfl rfl rfl ?_
  rw [← hM2]
  refine e_aload_n hg dX9_become_16 rfl ?_
  refine m_getR (q := (a1 + 1)) hg ciX9 2 lk_317 dX9_become_17 ho1 (Nat.le_of_ble_eq_true rfl) rfl (rfF9_2 ho1) ?_
  refine e_iconst (v := 0) hg dX9_become_20 (by decide) ?_
  refine e_aload_n hg dX9_become_21 rfl ?_
  refine m_getR (q := (w + 1)) hg ciX9 2 lk_317 dX9_become_22 ho (Nat.le_of_ble_eq_true rfl) rfl (rfF9_2 ho) ?_
  refine e_iconst (v := 0) hg dX9_become_25 (by decide) ?_
  refine e_iload_n hg dX9_become_26 rfl ?_
  obtain ⟨hc3, h⟩ := o_gd h
  obtain ⟨M4, hM4, h⟩ := o_lt h
  refine m_cpyI hg (shF9_1 ho1) (shF9_1 ho) hc3 (Nat.le_of_ble_eq_true rfl) (by omega) lk_668 dX9_become_27 ?_
  rw [← hM4]
  refine e_aload_n hg dX9_become_30 rfl ?_
  refine m_getR (q := (a1 + 2)) hg ciX9 3 lk_321 dX9_become_31 ho1 (Nat.le_of_ble_eq_true rfl) rfl (rfF9_3 ho1) ?_
  refine e_iconst (v := 0) hg dX9_become_34 (by decide) ?_
  refine e_aload_n hg dX9_become_35 rfl ?_
  refine m_getR (q := (w + 2)) hg ciX9 3 lk_321 dX9_become_36 ho (Nat.le_of_ble_eq_true rfl) rfl (rfF9_3 ho) ?_
  refine e_iconst (v := 0) hg dX9_become_39 (by decide) ?_
  refine e_iload_n hg dX9_become_40 rfl ?_
  obtain ⟨hc5, h⟩ := o_gd h
  obtain ⟨M6, hM6, h⟩ := o_lt h
  refine m_cpyI hg (shF9_2 ho1) (shF9_2 ho) hc5 (Nat.le_of_ble_eq_true rfl) (by omega) lk_668 dX9_become_41 ?_
  rw [← hM6]
  refine e_aload_n hg dX9_become_44 rfl ?_
  refine m_getR (q := (a1 + 3)) hg ciX9 4 lk_325 dX9_become_45 ho1 (Nat.le_of_ble_eq_true rfl) rfl (rfF9_4 ho1) ?_
  refine e_iconst (v := 0) hg dX9_become_48 (by decide) ?_
  refine e_aload_n hg dX9_become_49 rfl ?_
  refine m_getR (q := (w + 3)) hg ciX9 4 lk_325 dX9_become_50 ho (Nat.le_of_ble_eq_true rfl) rfl (rfF9_4 ho) ?_
  refine e_iconst (v := 0) hg dX9_become_53 (by decide) ?_
  refine e_iload_n hg dX9_become_54 rfl ?_
  obtain ⟨hc7, h⟩ := o_gd h
  obtain ⟨M8, hM8, h⟩ := o_lt h
  refine m_cpyI hg (shF9_3 ho1) (shF9_3 ho) hc7 (Nat.le_of_ble_eq_true rfl) (by omega) lk_668 dX9_become_55 ?_
  rw [← hM8]
  refine e_aload_n hg dX9_become_58 rfl ?_
  refine m_getR (q := (a1 + 4)) hg ciX9 5 lk_328 dX9_become_59 ho1 (Nat.le_of_ble_eq_true rfl) rfl (rfF9_5 ho1) ?_
  refine e_iconst (v := 0) hg dX9_become_62 (by decide) ?_
  refine e_aload_n hg dX9_become_63 rfl ?_
  refine m_getR (q := (w + 4)) hg ciX9 5 lk_328 dX9_become_64 ho (Nat.le_of_ble_eq_true rfl) rfl (rfF9_5 ho) ?_
  refine e_iconst (v := 0) hg dX9_become_67 (by decide) ?_
  refine e_iload_n hg dX9_become_68 rfl ?_
  obtain ⟨hc9, h⟩ := o_gd h
  obtain ⟨M10, hM10, h⟩ := o_lt h
  refine m_cpyI hg (shF9_4 ho1) (shF9_4 ho) hc9 (Nat.le_of_ble_eq_true rfl) (by omega) lk_668 dX9_become_69 ?_
  rw [← hM10]
  refine e_aload_n hg dX9_become_72 rfl ?_
  refine m_getR (q := (a1 + 5)) hg ciX9 6 lk_332 dX9_become_73 ho1 (Nat.le_of_ble_eq_true rfl) rfl (rfF9_6 ho1) ?_
  refine e_iconst (v := 0) hg dX9_become_76 (by decide) ?_
  refine e_aload_n hg dX9_become_77 rfl ?_
  refine m_getR (q := (w + 5)) hg ciX9 6 lk_332 dX9_become_78 ho (Nat.le_of_ble_eq_true rfl) rfl (rfF9_6 ho) ?_
  refine e_iconst (v := 0) hg dX9_become_81 (by decide) ?_
  refine e_iload_n hg dX9_become_82 rfl ?_
  obtain ⟨hc11, h⟩ := o_gd h
  obtain ⟨M12, hM12, h⟩ := o_lt h
  refine m_cpyI hg (shF9_5 ho1) (shF9_5 ho) hc11 (Nat.le_of_ble_eq_true rfl) (by omega) lk_668 dX9_become_83 ?_
  rw [← hM12]
  refine e_aload_n hg dX9_become_86 rfl ?_
  refine m_getR (q := (a1 + 6)) hg ciX9 7 lk_334 dX9_become_87 ho1 (Nat.le_of_ble_eq_true rfl) rfl (rfF9_7 ho1) ?_
  refine e_iconst (v := 0) hg dX9_become_90 (by decide) ?_
  refine e_aload_n hg dX9_become_91 rfl ?_
  refine m_getR (q := (w + 6)) hg ciX9 7 lk_334 dX9_become_92 ho (Nat.le_of_ble_eq_true rfl) rfl (rfF9_7 ho) ?_
  refine e_iconst (v := 0) hg dX9_become_95 (by decide) ?_
  refine e_iload_n hg dX9_become_96 rfl ?_
  refine e_bipush (v := 8) hg dX9_become_97 (by decide) ?_
  refine e_imul hg dX9_become_99 ?_
  obtain ⟨hc13, h⟩ := o_gd h
  obtain ⟨M14, hM14, h⟩ := o_lt h
  refine m_cpyI hg (shF9_6 ho1) (shF9_6 ho) hc13 (Nat.le_of_ble_eq_true rfl) (by omega) lk_668 dX9_become_100 ?_
  rw [← hM14]
  refine e_aload_n hg dX9_become_103 rfl ?_
  refine m_getR (q := (a1 + 7)) hg ciX9 8 lk_335 dX9_become_104 ho1 (Nat.le_of_ble_eq_true rfl) rfl (rfF9_8 ho1) ?_
  refine e_iconst (v := 0) hg dX9_become_107 (by decide) ?_
  refine e_aload_n hg dX9_become_108 rfl ?_
  refine m_getR (q := (w + 7)) hg ciX9 8 lk_335 dX9_become_109 ho (Nat.le_of_ble_eq_true rfl) rfl (rfF9_8 ho) ?_
  refine e_iconst (v := 0) hg dX9_become_112 (by decide) ?_
  refine e_iload_n hg dX9_become_113 rfl ?_
  obtain ⟨hc15, h⟩ := o_gd h
  obtain ⟨M16, hM16, h⟩ := o_lt h
  refine m_cpyI hg (shF9_7 ho1) (shF9_7 ho) hc15 (Nat.le_of_ble_eq_true rfl) (by omega) lk_668 dX9_become_114 ?_
  rw [← hM16]
  refine e_aload_n hg dX9_become_117 rfl ?_
  refine m_getR (q := (a1 + 8)) hg ciX9 9 lk_338 dX9_become_118 ho1 (Nat.le_of_ble_eq_true rfl) rfl (rfF9_9 ho1) ?_
  refine e_iconst (v := 0) hg dX9_become_121 (by decide) ?_
  refine e_aload_n hg dX9_become_122 rfl ?_
  refine m_getR (q := (w + 8)) hg ciX9 9 lk_338 dX9_become_123 ho (Nat.le_of_ble_eq_true rfl) rfl (rfF9_9 ho) ?_
  refine e_iconst (v := 0) hg dX9_become_126 (by decide) ?_
  refine e_iload_n hg dX9_become_127 rfl ?_
  obtain ⟨hc17, h⟩ := o_gd h
  obtain ⟨M18, hM18, h⟩ := o_lt h
  refine m_cpyI hg (shF9_8 ho1) (shF9_8 ho) hc17 (Nat.le_of_ble_eq_true rfl) (by omega) lk_668 dX9_become_128 ?_
  rw [← hM18]
  refine e_aload_n hg dX9_become_131 rfl ?_
  refine m_getR (q := (a1 + 9)) hg ciX9 10 lk_340 dX9_become_132 ho1 (Nat.le_of_ble_eq_true rfl) rfl (rfF9_10 ho1) ?_
  refine e_iconst (v := 0) hg dX9_become_135 (by decide) ?_
  refine e_aload_n hg dX9_become_136 rfl ?_
  refine m_getR (q := (w + 9)) hg ciX9 10 lk_340 dX9_become_137 ho (Nat.le_of_ble_eq_true rfl) rfl (rfF9_10 ho) ?_
  refine e_iconst (v := 0) hg dX9_become_140 (by decide) ?_
  refine e_iload_n hg dX9_become_141 rfl ?_
  obtain ⟨hc19, h⟩ := o_gd h
  obtain ⟨M20, hM20, h⟩ := o_lt h
  refine m_cpyI hg (shF9_9 ho1) (shF9_9 ho) hc19 (Nat.le_of_ble_eq_true rfl) (by omega) lk_668 dX9_become_142 ?_
  rw [← hM20]
  exact m_vret hg hr dX9_become_145 h

def X9_nail (w : Nat) (a1 : Int32) (a2 : Int32) (M : mm) : Option (Int32 × mm) :=
  gd (isO 9 w) <|
  gd (inb ((a1 * 8) + a2) 48) <|
  some ((M.1 (w + 6) ((a1 * 8) + a2).toNatClampNeg), M)
set_option maxRecDepth 100000 in
set_option maxHeartbeats 4000000 in
theorem X9_nail_ok {w : Nat} {a1 : Int32} {a2 : Int32} {M : mm} {r : Int32 × mm} (h : X9_nail w a1 a2 M = some r) : CM yX9_nail cX9_nail 3 (some .int) 0 [.ref w, .int a1, .int a2] (cells M) (some (.int r.1)) (cells r.2) := by
  refine cm_of (ls := [some (.ref w), some (.int a1), some (.int a2)]) mfX9_nail rfl (Nat.le_of_ble_eq_true rfl) (fun g hg hr => ?_)
  unfold X9_nail at h
  obtain ⟨ho, h⟩ := o_gd h
  refine e_aload_n hg dX9_nail_0 rfl ?_
  refine m_getR (q := (w + 6)) hg ciX9 7 lk_334 dX9_nail_1 ho (Nat.le_of_ble_eq_true rfl) rfl (rfF9_7 ho) ?_
  refine e_iload_n hg dX9_nail_4 rfl ?_
  refine e_bipush (v := 8) hg dX9_nail_5 (by decide) ?_
  refine e_imul hg dX9_nail_7 ?_
  refine e_iload_n hg dX9_nail_8 rfl ?_
  refine e_iadd hg dX9_nail_9 ?_
  obtain ⟨hi1, h⟩ := o_gd h
  refine m_iald hg (shF9_6 ho) hi1 dX9_nail_10 ?_
  exact m_iret hg hr dX9_nail_11 h

def X9_oftenOver_b44 (w : Nat) (a1 : Int32) (a2 : Int32) (a3 : Int32) (R6 : Int32 → Int32 → mm → Option (Int32 × mm)) (x4 : Int32) (x5 : Int32) (M : mm) : Option (Int32 × mm) :=
  R6 x4 (x5 + 1) M
set_option maxRecDepth 100000 in
set_option maxHeartbeats 4000000 in
theorem X9_oftenOver_b44_ok {g : gx} (hg : EC g cX9_oftenOver RX9 1) {w : Nat} {a1 : Int32} {a2 : Int32} {a3 : Int32} (ho : isO 9 w = true) {r : Int32 × mm} (hr : RT g (some .int) (0, 0) (some (.int r.1)) (cells r.2)) {R6 : Int32 → Int32 → mm → Option (Int32 × mm)} (hR6 : ∀ (x4 : Int32) (x5 : Int32) (M : mm), R6 x4 x5 M = some r → E g (0, 0) 6 [some (.ref w), some (.int a1), some (.int a2), some (.int a3), some (.int x4), some (.int x5)] [] (cells M)) {x4 : Int32} {x5 : Int32} {M : mm} (h : X9_oftenOver_b44 w a1 a2 a3 R6 x4 x5 M = some r) : E g (0, 0) 44 [some (.ref w), some (.int a1), some (.int a2), some (.int a3), some (.int x4), some (.int x5)] [] (cells M) := by
  unfold X9_oftenOver_b44 at h
  refine e_iinc (v := (x5 + 1)) (ls' := [some (.ref w), some (.int a1), some (.int a2), some (.int a3), some (.int x4), some (.int (x5 + 1))]) hg dX9_oftenOver_44 rfl rfl rfl ?_
  refine e_goto hg 6 dX9_oftenOver_47 (by decide) ?_
  exact hR6 _ _ _ h

def X9_oftenOver_L6 (w : Nat) (a1 : Int32) (a2 : Int32) (a3 : Int32) : Nat → Int32 → Int32 → mm → Option (Int32 × mm)
  | 0, _, _, _ => none
  | n_ + 1, x4, x5, M =>
    gd (inb a1 6) <|
    if x5 < (M.1 (w + 5) a1.toNatClampNeg) then
      bd (X9_nail w a1 x5 M) fun v3 M4 =>
      if v3 = a2 then
        bd (X9_nail w a1 (x5 - 1) M4) fun v7 M8 =>
        X9_oftenOver_b44 w a1 a2 a3 (X9_oftenOver_L6 w a1 a2 a3 n_) (if v7 = a3 then (x4 + 1) else x4) x5 M8
      else
        X9_oftenOver_b44 w a1 a2 a3 (X9_oftenOver_L6 w a1 a2 a3 n_) x4 x5 M4
    else
      some (x4, M)
set_option maxRecDepth 100000 in
set_option maxHeartbeats 4000000 in
theorem X9_oftenOver_L6_ok {g : gx} (hg : EC g cX9_oftenOver RX9 1) {w : Nat} {a1 : Int32} {a2 : Int32} {a3 : Int32} (ho : isO 9 w = true) {r : Int32 × mm} (hr : RT g (some .int) (0, 0) (some (.int r.1)) (cells r.2)) : ∀ (n_ : Nat) (x4 : Int32) (x5 : Int32) (M : mm), X9_oftenOver_L6 w a1 a2 a3 n_ x4 x5 M = some r → E g (0, 0) 6 [some (.ref w), some (.int a1), some (.int a2), some (.int a3), some (.int x4), some (.int x5)] [] (cells M) := by
  intro n_
  induction n_ with
  | zero => intro x4 x5 M h; exact o_no h
  | succ n_ ih =>
    intro x4 x5 M h
    rw [X9_oftenOver_L6] at h
    refine e_iload hg dX9_oftenOver_6 rfl ?_
    refine e_aload_n hg dX9_oftenOver_8 rfl ?_
    refine m_getR (q := (w + 5)) hg ciX9 6 lk_332 dX9_oftenOver_9 ho (Nat.le_of_ble_eq_true rfl) rfl (rfF9_6 ho) ?_
    refine e_iload_n hg dX9_oftenOver_12 rfl ?_
    obtain ⟨hi1, h⟩ := o_gd h
    refine m_iald hg (shF9_5 ho) hi1 dX9_oftenOver_13 ?_
    refine e_icmpge hg 50 dX9_oftenOver_14 (by decide) (fun c2 => ?_) (fun c2 => ?_)
    · have h := o_pos c2 h
      refine e_aload_n hg dX9_oftenOver_17 rfl ?_
      refine e_iload_n hg dX9_oftenOver_18 rfl ?_
      refine e_iload hg dX9_oftenOver_19 rfl ?_
      obtain ⟨v3, M4, hc5, h⟩ := o_bd h
      refine m_callVI (rest := []) (v := v3) (M' := M4) (ci := 9) hg mfX9_nail mvX9_nail (X9_nail_ok (r := (v3, M4)) hc5) lk_776 dX9_oftenOver_21 ho rfl rfl rfl (by omega) (Nat.le_of_ble_eq_true rfl) ?_
      refine e_iload_n hg dX9_oftenOver_24 rfl ?_
      refine e_icmpne hg 44 dX9_oftenOver_25 (by decide) (fun c6 => ?_) (fun c6 => ?_)
      · have h := o_pos c6 h
        refine e_aload_n hg dX9_oftenOver_28 rfl ?_
        refine e_iload_n hg dX9_oftenOver_29 rfl ?_
        refine e_iload hg dX9_oftenOver_30 rfl ?_
        refine e_iconst (v := 1) hg dX9_oftenOver_32 (by decide) ?_
        refine e_isub hg dX9_oftenOver_33 ?_
        obtain ⟨v7, M8, hc9, h⟩ := o_bd h
        refine m_callVI (rest := []) (v := v7) (M' := M8) (ci := 9) hg mfX9_nail mvX9_nail (X9_nail_ok (r := (v7, M8)) hc9) lk_776 dX9_oftenOver_34 ho rfl rfl rfl (by omega) (Nat.le_of_ble_eq_true rfl) ?_
        refine e_iload_n hg dX9_oftenOver_37 rfl ?_
        refine e_icmpne hg 44 dX9_oftenOver_38 (by decide) (fun c10 => ?_) (fun c10 => ?_)
        · simp only [if_pos c10] at h
          refine e_iinc (v := (x4 + 1)) (ls' := [some (.ref w), some (.int a1), some (.int a2), some (.int a3), some (.int (x4 + 1)), some (.int x5)]) hg dX9_oftenOver_41 rfl rfl rfl ?_
          exact X9_oftenOver_b44_ok hg ho hr ih h
        · simp only [if_neg c10] at h
          exact X9_oftenOver_b44_ok hg ho hr ih h
      · have h := o_neg c6 h
        exact X9_oftenOver_b44_ok hg ho hr ih h
    · have h := o_neg c2 h
      refine e_iload hg dX9_oftenOver_50 rfl ?_
      exact m_iret hg hr dX9_oftenOver_52 h

def X9_oftenOver (w : Nat) (a1 : Int32) (a2 : Int32) (a3 : Int32) (M : mm) : Option (Int32 × mm) :=
  gd (isO 9 w) <|
  X9_oftenOver_L6 w a1 a2 a3 10000 0 1 M
set_option maxRecDepth 100000 in
set_option maxHeartbeats 4000000 in
theorem X9_oftenOver_ok {w : Nat} {a1 : Int32} {a2 : Int32} {a3 : Int32} {M : mm} {r : Int32 × mm} (h : X9_oftenOver w a1 a2 a3 M = some r) : CM yX9_oftenOver cX9_oftenOver 6 (some .int) 1 [.ref w, .int a1, .int a2, .int a3] (cells M) (some (.int r.1)) (cells r.2) := by
  refine cm_of (ls := [some (.ref w), some (.int a1), some (.int a2), some (.int a3), none, none]) mfX9_oftenOver rfl (Nat.le_of_ble_eq_true rfl) (fun g hg hr => ?_)
  unfold X9_oftenOver at h
  obtain ⟨ho, h⟩ := o_gd h
  refine e_iconst (v := 0) hg dX9_oftenOver_0 (by decide) ?_
  refine e_istore (ls' := [some (.ref w), some (.int a1), some (.int a2), some (.int a3), some (.int 0), none]) hg dX9_oftenOver_1 rfl ?_
  refine e_iconst (v := 1) hg dX9_oftenOver_3 (by decide) ?_
  refine e_istore (ls' := [some (.ref w), some (.int a1), some (.int a2), some (.int a3), some (.int 0), some (.int 1)]) hg dX9_oftenOver_4 rfl ?_
  exact X9_oftenOver_L6_ok hg ho hr  10000 _ _ _ h

