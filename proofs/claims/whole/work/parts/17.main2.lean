def X10_image  (M : mm) : Option (Int32 × mm) :=
  bd (X9_become 50 28 (M.1 1 0) (M.1 1 1) M) fun u1 M2 =>
  lt_ (sA M2 0 (upd (M2.1 0) 11 (M2.1 1 0))) fun M4 =>
  lt_ (sA M4 0 (upd (M4.1 0) 12 (M4.1 1 1))) fun M5 =>
  some ((M5.1 0 12), M5)
set_option maxRecDepth 100000 in
set_option maxHeartbeats 4000000 in
theorem X10_image_ok  {M : mm} {r : Int32 × mm} (h : X10_image  M = some r) : CM yX10_image cX10_image 1 (some .int) 2 [.ref 0] (cells M) (some (.int r.1)) (cells r.2) := by
  refine cm_of (ls := [some (.ref 0)]) mfX10_image rfl (Nat.le_of_ble_eq_true rfl) (fun g hg hr => ?_)
  unfold X10_image at h
  refine e_aload_n hg dX10_image_0 rfl ?_
  refine m_getR (q := 50) hg ciX10 6 lk_458 dX10_image_1 io_0 (Nat.le_of_ble_eq_true rfl) rfl rf_0_6 ?_
  refine e_aload_n hg dX10_image_4 rfl ?_
  refine m_getR (q := 28) hg ciX10 4 lk_456 dX10_image_5 io_0 (Nat.le_of_ble_eq_true rfl) rfl rf_0_4 ?_
  refine e_aload_n hg dX10_image_8 rfl ?_
  refine m_getR (q := 1) hg ciX10 0 lk_452 dX10_image_9 io_0 (Nat.le_of_ble_eq_true rfl) rfl rf_0_0 ?_
  refine m_getI hg ciX3 0 lk_97 dX10_image_12 io_1 (Nat.le_of_ble_eq_true rfl) rfl ?_
  refine e_aload_n hg dX10_image_15 rfl ?_
  refine m_getR (q := 1) hg ciX10 0 lk_452 dX10_image_16 io_0 (Nat.le_of_ble_eq_true rfl) rfl rf_0_0 ?_
  refine m_getI hg ciX3 1 lk_100 dX10_image_19 io_1 (Nat.le_of_ble_eq_true rfl) rfl ?_
  obtain ⟨u1, M2, hc3, h⟩ := o_bd h
  refine m_callVV (rest := []) (M' := M2) (ci := 9) hg mfX9_become mvX9_become (X9_become_ok (r := (u1, M2)) hc3) lk_842 dX10_image_22 io_50 rfl rfl rfl (by omega) (Nat.le_of_ble_eq_true rfl) ?_
  refine e_aload_n hg dX10_image_25 rfl ?_
  refine e_aload_n hg dX10_image_26 rfl ?_
  refine m_getR (q := 1) hg ciX10 0 lk_452 dX10_image_27 io_0 (Nat.le_of_ble_eq_true rfl) rfl rf_0_0 ?_
  refine m_getI hg ciX3 0 lk_97 dX10_image_30 io_1 (Nat.le_of_ble_eq_true rfl) rfl ?_
  obtain ⟨M4, hM4, h⟩ := o_lt h
  refine m_putI hg ciX10 11 lk_463 dX10_image_33 io_0 (Nat.le_of_ble_eq_true rfl) rfl rfl rfl rfl ?_
  rw [← hM4]
  refine e_aload_n hg dX10_image_36 rfl ?_
  refine e_aload_n hg dX10_image_37 rfl ?_
  refine m_getR (q := 1) hg ciX10 0 lk_452 dX10_image_38 io_0 (Nat.le_of_ble_eq_true rfl) rfl rf_0_0 ?_
  refine m_getI hg ciX3 1 lk_100 dX10_image_41 io_1 (Nat.le_of_ble_eq_true rfl) rfl ?_
  obtain ⟨M5, hM5, h⟩ := o_lt h
  refine m_putI hg ciX10 12 lk_464 dX10_image_44 io_0 (Nat.le_of_ble_eq_true rfl) rfl rfl rfl rfl ?_
  rw [← hM5]
  refine e_aload_n hg dX10_image_47 rfl ?_
  refine m_getI hg ciX10 12 lk_464 dX10_image_48 io_0 (Nat.le_of_ble_eq_true rfl) rfl ?_
  exact m_iret hg hr dX10_image_51 h

def X10_back  (M : mm) : Option (Int32 × mm) :=
  if (M.1 0 12) < 0 then
    some ((-5), M)
  else
    bd (X9_become 28 50 (M.1 0 11) (M.1 0 12) M) fun u2 M3 =>
    some ((M3.1 0 12), M3)
set_option maxRecDepth 100000 in
set_option maxHeartbeats 4000000 in
theorem X10_back_ok  {M : mm} {r : Int32 × mm} (h : X10_back  M = some r) : CM yX10_back cX10_back 1 (some .int) 2 [.ref 0] (cells M) (some (.int r.1)) (cells r.2) := by
  refine cm_of (ls := [some (.ref 0)]) mfX10_back rfl (Nat.le_of_ble_eq_true rfl) (fun g hg hr => ?_)
  unfold X10_back at h
  refine e_aload_n hg dX10_back_0 rfl ?_
  refine m_getI hg ciX10 12 lk_464 dX10_back_1 io_0 (Nat.le_of_ble_eq_true rfl) rfl ?_
  refine e_ifge hg 10 dX10_back_4 (by decide) (fun c1 => ?_) (fun c1 => ?_)
  · have h := o_pos c1 h
    refine e_bipush (v := -5) hg dX10_back_7 (by decide) ?_
    exact m_iret hg hr dX10_back_9 h
  · have h := o_neg c1 h
    refine e_aload_n hg dX10_back_10 rfl ?_
    refine m_getR (q := 28) hg ciX10 4 lk_456 dX10_back_11 io_0 (Nat.le_of_ble_eq_true rfl) rfl rf_0_4 ?_
    refine e_aload_n hg dX10_back_14 rfl ?_
    refine m_getR (q := 50) hg ciX10 6 lk_458 dX10_back_15 io_0 (Nat.le_of_ble_eq_true rfl) rfl rf_0_6 ?_
    refine e_aload_n hg dX10_back_18 rfl ?_
    refine m_getI hg ciX10 11 lk_463 dX10_back_19 io_0 (Nat.le_of_ble_eq_true rfl) rfl ?_
    refine e_aload_n hg dX10_back_22 rfl ?_
    refine m_getI hg ciX10 12 lk_464 dX10_back_23 io_0 (Nat.le_of_ble_eq_true rfl) rfl ?_
    obtain ⟨u2, M3, hc4, h⟩ := o_bd h
    refine m_callVV (rest := []) (M' := M3) (ci := 9) hg mfX9_become mvX9_become (X9_become_ok (r := (u2, M3)) hc4) lk_842 dX10_back_26 io_28 rfl rfl rfl (by omega) (Nat.le_of_ble_eq_true rfl) ?_
    refine e_aload_n hg dX10_back_29 rfl ?_
    refine m_getI hg ciX10 12 lk_464 dX10_back_30 io_0 (Nat.le_of_ble_eq_true rfl) rfl ?_
    exact m_iret hg hr dX10_back_33 h

def X10_undo  (M : mm) : Option (Int32 × mm) :=
  bd (X1_takeBack M) fun v1 M2 =>
  if v1 = 0 then
    some ((-5), M2)
  else
    some ((M2.1 61 0), M2)
set_option maxRecDepth 100000 in
set_option maxHeartbeats 4000000 in
theorem X10_undo_ok  {M : mm} {r : Int32 × mm} (h : X10_undo  M = some r) : CM yX10_undo cX10_undo 1 (some .int) 3 [.ref 0] (cells M) (some (.int r.1)) (cells r.2) := by
  refine cm_of (ls := [some (.ref 0)]) mfX10_undo rfl (Nat.le_of_ble_eq_true rfl) (fun g hg hr => ?_)
  unfold X10_undo at h
  refine e_aload_n hg dX10_undo_0 rfl ?_
  refine m_getR (q := 61) hg ciX10 7 lk_459 dX10_undo_1 io_0 (Nat.le_of_ble_eq_true rfl) rfl rf_0_7 ?_
  refine e_aload_n hg dX10_undo_4 rfl ?_
  refine m_getR (q := 1) hg ciX10 0 lk_452 dX10_undo_5 io_0 (Nat.le_of_ble_eq_true rfl) rfl rf_0_0 ?_
  obtain ⟨v1, M2, hc3, h⟩ := o_bd h
  refine m_callVI (rest := []) (v := v1) (M' := M2) (ci := 1) hg mfX1_takeBack mvX1_takeBack (X1_takeBack_ok (r := (v1, M2)) hc3) lk_862 dX10_undo_8 io_61 rfl rfl rfl (by omega) (Nat.le_of_ble_eq_true rfl) ?_
  refine e_ifeq hg 24 dX10_undo_11 (by decide) (fun c4 => ?_) (fun c4 => ?_)
  · have h := o_pos c4 h
    refine e_bipush (v := -5) hg dX10_undo_24 (by decide) ?_
    exact m_iret hg hr dX10_undo_26 h
  · have h := o_neg c4 h
    refine e_aload_n hg dX10_undo_14 rfl ?_
    refine m_getR (q := 61) hg ciX10 7 lk_459 dX10_undo_15 io_0 (Nat.le_of_ble_eq_true rfl) rfl rf_0_7 ?_
    refine m_getI hg ciX1 0 lk_377 dX10_undo_18 io_61 (Nat.le_of_ble_eq_true rfl) rfl ?_
    refine e_goto hg 26 dX10_undo_21 (by decide) ?_
    exact m_iret hg hr dX10_undo_26 h

def X10_redo  (M : mm) : Option (Int32 × mm) :=
  bd (X1_doAgain M) fun v1 M2 =>
  if v1 = 0 then
    some ((-5), M2)
  else
    bd (X1_undone M2) fun v5 M6 =>
    some (v5, M6)
set_option maxRecDepth 100000 in
set_option maxHeartbeats 4000000 in
theorem X10_redo_ok  {M : mm} {r : Int32 × mm} (h : X10_redo  M = some r) : CM yX10_redo cX10_redo 1 (some .int) 3 [.ref 0] (cells M) (some (.int r.1)) (cells r.2) := by
  refine cm_of (ls := [some (.ref 0)]) mfX10_redo rfl (Nat.le_of_ble_eq_true rfl) (fun g hg hr => ?_)
  unfold X10_redo at h
  refine e_aload_n hg dX10_redo_0 rfl ?_
  refine m_getR (q := 61) hg ciX10 7 lk_459 dX10_redo_1 io_0 (Nat.le_of_ble_eq_true rfl) rfl rf_0_7 ?_
  refine e_aload_n hg dX10_redo_4 rfl ?_
  refine m_getR (q := 1) hg ciX10 0 lk_452 dX10_redo_5 io_0 (Nat.le_of_ble_eq_true rfl) rfl rf_0_0 ?_
  obtain ⟨v1, M2, hc3, h⟩ := o_bd h
  refine m_callVI (rest := []) (v := v1) (M' := M2) (ci := 1) hg mfX1_doAgain mvX1_doAgain (X1_doAgain_ok (r := (v1, M2)) hc3) lk_871 dX10_redo_8 io_61 rfl rfl rfl (by omega) (Nat.le_of_ble_eq_true rfl) ?_
  refine e_ifeq hg 24 dX10_redo_11 (by decide) (fun c4 => ?_) (fun c4 => ?_)
  · have h := o_pos c4 h
    refine e_bipush (v := -5) hg dX10_redo_24 (by decide) ?_
    exact m_iret hg hr dX10_redo_26 h
  · have h := o_neg c4 h
    refine e_aload_n hg dX10_redo_14 rfl ?_
    refine m_getR (q := 61) hg ciX10 7 lk_459 dX10_redo_15 io_0 (Nat.le_of_ble_eq_true rfl) rfl rf_0_7 ?_
    obtain ⟨v5, M6, hc7, h⟩ := o_bd h
    refine m_callVI (rest := []) (v := v5) (M' := M6) (ci := 1) hg mfX1_undone mvX1_undone (X1_undone_ok (r := (v5, M6)) hc7) lk_879 dX10_redo_18 io_61 rfl rfl rfl (by omega) (Nat.le_of_ble_eq_true rfl) ?_
    refine e_goto hg 26 dX10_redo_21 (by decide) ?_
    exact m_iret hg hr dX10_redo_26 h

def X10_body (a1 : Int32) (M : mm) : Option (Int32 × mm) :=
  if a1 < 0 then
    some ((-1), M)
  else
    if a1 < 8 then
      if (M.1 66 0) < 50 then
        bd (X0_add a1 M) fun v4 M5 =>
        some (v4, M5)
      else
        some ((-3), M)
    else
      some ((-1), M)
set_option maxRecDepth 100000 in
set_option maxHeartbeats 4000000 in
theorem X10_body_ok {a1 : Int32} {M : mm} {r : Int32 × mm} (h : X10_body a1 M = some r) : CM yX10_body cX10_body 2 (some .int) 1 [.ref 0, .int a1] (cells M) (some (.int r.1)) (cells r.2) := by
  refine cm_of (ls := [some (.ref 0), some (.int a1)]) mfX10_body rfl (Nat.le_of_ble_eq_true rfl) (fun g hg hr => ?_)
  unfold X10_body at h
  refine e_iload_n hg dX10_body_0 rfl ?_
  refine e_iflt hg 10 dX10_body_1 (by decide) (fun c1 => ?_) (fun c1 => ?_)
  · have h := o_pos c1 h
    refine e_iconst (v := -1) hg dX10_body_10 (by decide) ?_
    exact m_iret hg hr dX10_body_11 h
  · have h := o_neg c1 h
    refine e_iload_n hg dX10_body_4 rfl ?_
    refine e_bipush (v := 8) hg dX10_body_5 (by decide) ?_
    refine e_icmplt hg 12 dX10_body_7 (by decide) (fun c2 => ?_) (fun c2 => ?_)
    · have h := o_pos c2 h
      refine e_aload_n hg dX10_body_12 rfl ?_
      refine m_getR (q := 66) hg ciX10 8 lk_460 dX10_body_13 io_0 (Nat.le_of_ble_eq_true rfl) rfl rf_0_8 ?_
      refine m_getI hg ciX0 0 lk_403 dX10_body_16 io_66 (Nat.le_of_ble_eq_true rfl) rfl ?_
      refine e_bipush (v := 50) hg dX10_body_19 (by decide) ?_
      refine e_icmplt hg 29 dX10_body_21 (by decide) (fun c3 => ?_) (fun c3 => ?_)
      · have h := o_pos c3 h
        refine e_aload_n hg dX10_body_29 rfl ?_
        refine m_getR (q := 66) hg ciX10 8 lk_460 dX10_body_30 io_0 (Nat.le_of_ble_eq_true rfl) rfl rf_0_8 ?_
        refine e_iload_n hg dX10_body_33 rfl ?_
        obtain ⟨v4, M5, hc6, h⟩ := o_bd h
        refine m_callVI (rest := []) (v := v4) (M' := M5) (ci := 0) hg mfX0_add mvX0_add (X0_add_ok (r := (v4, M5)) hc6) lk_884 dX10_body_34 io_66 rfl rfl rfl (by omega) (Nat.le_of_ble_eq_true rfl) ?_
        exact m_iret hg hr dX10_body_37 h
      · have h := o_neg c3 h
        refine e_bipush (v := -3) hg dX10_body_24 (by decide) ?_
        refine e_goto hg 37 dX10_body_26 (by decide) ?_
        exact m_iret hg hr dX10_body_37 h
    · have h := o_neg c2 h
      refine e_iconst (v := -1) hg dX10_body_10 (by decide) ?_
      exact m_iret hg hr dX10_body_11 h

def X10_act (a1 : Int32) (a2 : Int32) (a3 : Int32) (M : mm) : Option (Int32 × mm) :=
  bd (X0_perform a1 a2 a3 M) fun v1 M2 =>
  some (v1, M2)
set_option maxRecDepth 100000 in
set_option maxHeartbeats 4000000 in
theorem X10_act_ok {a1 : Int32} {a2 : Int32} {a3 : Int32} {M : mm} {r : Int32 × mm} (h : X10_act a1 a2 a3 M = some r) : CM yX10_act cX10_act 4 (some .int) 63 [.ref 0, .int a1, .int a2, .int a3] (cells M) (some (.int r.1)) (cells r.2) := by
  refine cm_of (ls := [some (.ref 0), some (.int a1), some (.int a2), some (.int a3)]) mfX10_act rfl (Nat.le_of_ble_eq_true rfl) (fun g hg hr => ?_)
  unfold X10_act at h
  refine e_aload_n hg dX10_act_0 rfl ?_
  refine m_getR (q := 66) hg ciX10 8 lk_460 dX10_act_1 io_0 (Nat.le_of_ble_eq_true rfl) rfl rf_0_8 ?_
  refine e_iload_n hg dX10_act_4 rfl ?_
  refine e_iload_n hg dX10_act_5 rfl ?_
  refine e_iload_n hg dX10_act_6 rfl ?_
  obtain ⟨v1, M2, hc3, h⟩ := o_bd h
  refine m_callVI (rest := []) (v := v1) (M' := M2) (ci := 0) hg mfX0_perform mvX0_perform (X0_perform_ok (r := (v1, M2)) hc3) lk_892 dX10_act_7 io_66 rfl rfl rfl (by omega) (Nat.le_of_ble_eq_true rfl) ?_
  exact m_iret hg hr dX10_act_10 h

def X10_trace (a1 : Int32) (M : mm) : Option (Int32 × mm) :=
  if a1 < 0 then
    some ((-1), M)
  else
    bd (X0_keptOfTrace M) fun v2 M3 =>
    if a1 < v2 then
      gd (inb a1 24) <|
      some ((M3.1 67 a1.toNatClampNeg), M3)
    else
      some ((-1), M3)
set_option maxRecDepth 100000 in
set_option maxHeartbeats 4000000 in
theorem X10_trace_ok {a1 : Int32} {M : mm} {r : Int32 × mm} (h : X10_trace a1 M = some r) : CM yX10_trace cX10_trace 2 (some .int) 2 [.ref 0, .int a1] (cells M) (some (.int r.1)) (cells r.2) := by
  refine cm_of (ls := [some (.ref 0), some (.int a1)]) mfX10_trace rfl (Nat.le_of_ble_eq_true rfl) (fun g hg hr => ?_)
  unfold X10_trace at h
  refine e_iload_n hg dX10_trace_0 rfl ?_
  refine e_iflt hg 27 dX10_trace_1 (by decide) (fun c1 => ?_) (fun c1 => ?_)
  · have h := o_pos c1 h
    refine e_iconst (v := -1) hg dX10_trace_27 (by decide) ?_
    exact m_iret hg hr dX10_trace_28 h
  · have h := o_neg c1 h
    refine e_iload_n hg dX10_trace_4 rfl ?_
    refine e_aload_n hg dX10_trace_5 rfl ?_
    refine m_getR (q := 66) hg ciX10 8 lk_460 dX10_trace_6 io_0 (Nat.le_of_ble_eq_true rfl) rfl rf_0_8 ?_
    obtain ⟨v2, M3, hc4, h⟩ := o_bd h
    refine m_callVI (rest := [.int a1]) (v := v2) (M' := M3) (ci := 0) hg mfX0_keptOfTrace mvX0_keptOfTrace (X0_keptOfTrace_ok (r := (v2, M3)) hc4) lk_912 dX10_trace_9 io_66 rfl rfl rfl (by omega) (Nat.le_of_ble_eq_true rfl) ?_
    refine e_icmpge hg 27 dX10_trace_12 (by decide) (fun c5 => ?_) (fun c5 => ?_)
    · have h := o_pos c5 h
      refine e_aload_n hg dX10_trace_15 rfl ?_
      refine m_getR (q := 66) hg ciX10 8 lk_460 dX10_trace_16 io_0 (Nat.le_of_ble_eq_true rfl) rfl rf_0_8 ?_
      refine m_getR (q := 67) hg ciX0 2 lk_407 dX10_trace_19 io_66 (Nat.le_of_ble_eq_true rfl) rfl rf_66_2 ?_
      refine e_iload_n hg dX10_trace_22 rfl ?_
      obtain ⟨hi6, h⟩ := o_gd h
      refine m_iald hg sh_67 hi6 dX10_trace_23 ?_
      refine e_goto hg 28 dX10_trace_24 (by decide) ?_
      exact m_iret hg hr dX10_trace_28 h
    · have h := o_neg c5 h
      refine e_iconst (v := -1) hg dX10_trace_27 (by decide) ?_
      exact m_iret hg hr dX10_trace_28 h

def X10_keep (a1 : Int32) (a2 : Int32) (M : mm) : Option (Int32 × mm) :=
  bd (X10_shelfAt a1 M) fun v1 M2 =>
  opt v1 (
    some ((-1), M2)) fun k4 =>
  if a2 < (-1) then
    some ((-1), M2)
  else
    if a2 < (M2.1 66 0) then
      if a2 < 0 then
        gd (isO 6 k4) <|
        bd (X6_holdNothing k4 M2) fun u9 M10 =>
        some (1, M10)
      else
        gd (isO 6 k4) <|
        bd (X6_holdPerson k4 a2 M2) fun u13 M14 =>
        some (1, M14)
    else
      some ((-1), M2)
set_option maxRecDepth 100000 in
set_option maxHeartbeats 4000000 in
theorem X10_keep_ok {a1 : Int32} {a2 : Int32} {M : mm} {r : Int32 × mm} (h : X10_keep a1 a2 M = some r) : CM yX10_keep cX10_keep 4 (some .int) 1 [.ref 0, .int a1, .int a2] (cells M) (some (.int r.1)) (cells r.2) := by
  refine cm_of (ls := [some (.ref 0), some (.int a1), some (.int a2), none]) mfX10_keep rfl (Nat.le_of_ble_eq_true rfl) (fun g hg hr => ?_)
  unfold X10_keep at h
  refine e_aload_n hg dX10_keep_0 rfl ?_
  refine e_iload_n hg dX10_keep_1 rfl ?_
  obtain ⟨v1, M2, hc3, h⟩ := o_bd h
  refine m_callVO (rest := []) (v := v1) (M' := M2) (ci := 10) hg mfX10_shelfAt mvX10_shelfAt (X10_shelfAt_ok (r := (v1, M2)) hc3) lk_524 dX10_keep_2 io_0 rfl rfl rfl (by omega) (Nat.le_of_ble_eq_true rfl) ?_
  refine e_astore_nV (ls' := [some (.ref 0), some (.int a1), some (.int a2), some (vo v1)]) hg dX10_keep_5 rfl ?_
  refine e_aload_nV hg dX10_keep_6 rfl ?_
  rcases v1 with _ | k4
  · have h := o_opt0 h
    refine e_ifnull0 hg 26 dX10_keep_7 (by decide) ?_
    refine e_iconst (v := -1) hg dX10_keep_26 (by decide) ?_
    exact m_iret hg hr dX10_keep_27 h
  · have h := o_opt1 h
    refine e_ifnull hg dX10_keep_7 ?_
    refine e_iload_n hg dX10_keep_10 rfl ?_
    refine e_iconst (v := -1) hg dX10_keep_11 (by decide) ?_
    refine e_icmplt hg 26 dX10_keep_12 (by decide) (fun c5 => ?_) (fun c5 => ?_)
    · have h := o_pos c5 h
      refine e_iconst (v := -1) hg dX10_keep_26 (by decide) ?_
      exact m_iret hg hr dX10_keep_27 h
    · have h := o_neg c5 h
      refine e_iload_n hg dX10_keep_15 rfl ?_
      refine e_aload_n hg dX10_keep_16 rfl ?_
      refine m_getR (q := 66) hg ciX10 8 lk_460 dX10_keep_17 io_0 (Nat.le_of_ble_eq_true rfl) rfl rf_0_8 ?_
      refine m_getI hg ciX0 0 lk_403 dX10_keep_20 io_66 (Nat.le_of_ble_eq_true rfl) rfl ?_
      refine e_icmplt hg 28 dX10_keep_23 (by decide) (fun c6 => ?_) (fun c6 => ?_)
      · have h := o_pos c6 h
        refine e_iload_n hg dX10_keep_28 rfl ?_
        refine e_ifge hg 39 dX10_keep_29 (by decide) (fun c7 => ?_) (fun c7 => ?_)
        · have h := o_pos c7 h
          refine e_aload_n hg dX10_keep_32 rfl ?_
          obtain ⟨ho8, h⟩ := o_gd h
          obtain ⟨u9, M10, hc11, h⟩ := o_bd h
          refine m_callVV (rest := []) (M' := M10) (ci := 6) hg mfX6_holdNothing mvX6_holdNothing (X6_holdNothing_ok (r := (u9, M10)) hc11) lk_921 dX10_keep_33 ho8 rfl rfl rfl (by omega) (Nat.le_of_ble_eq_true rfl) ?_
          refine e_goto hg 44 dX10_keep_36 (by decide) ?_
          refine e_iconst (v := 1) hg dX10_keep_44 (by decide) ?_
          exact m_iret hg hr dX10_keep_45 h
        · have h := o_neg c7 h
          refine e_aload_n hg dX10_keep_39 rfl ?_
          refine e_iload_n hg dX10_keep_40 rfl ?_
          obtain ⟨ho12, h⟩ := o_gd h
          obtain ⟨u13, M14, hc15, h⟩ := o_bd h
          refine m_callVV (rest := []) (M' := M14) (ci := 6) hg mfX6_holdPerson mvX6_holdPerson (X6_holdPerson_ok (r := (u13, M14)) hc15) lk_925 dX10_keep_41 ho12 rfl rfl rfl (by omega) (Nat.le_of_ble_eq_true rfl) ?_
          refine e_iconst (v := 1) hg dX10_keep_44 (by decide) ?_
          exact m_iret hg hr dX10_keep_45 h
      · have h := o_neg c6 h
        refine e_iconst (v := -1) hg dX10_keep_26 (by decide) ?_
        exact m_iret hg hr dX10_keep_27 h

def X10_row (a1 : Int32) (a2 : Int32) (a3 : Int32) (M : mm) : Option (Int32 × mm) :=
  bd (X10_shelfAt a1 M) fun v1 M2 =>
  opt v1 (
    some ((-1), M2)) fun k4 =>
  if a2 < 0 then
    some ((-1), M2)
  else
    if a2 < 5 then
      if 60 < a3 then
        some ((-1), M2)
      else
        if a3 < 0 then
          some ((-14), M2)
        else
          gd (isO 6 k4) <|
          bd (X6_holdRow k4 a2 a3 M2) fun u10 M11 =>
          some (1, M11)
    else
      some ((-1), M2)
set_option maxRecDepth 100000 in
set_option maxHeartbeats 4000000 in
theorem X10_row_ok {a1 : Int32} {a2 : Int32} {a3 : Int32} {M : mm} {r : Int32 × mm} (h : X10_row a1 a2 a3 M = some r) : CM yX10_row cX10_row 5 (some .int) 2 [.ref 0, .int a1, .int a2, .int a3] (cells M) (some (.int r.1)) (cells r.2) := by
  refine cm_of (ls := [some (.ref 0), some (.int a1), some (.int a2), some (.int a3), none]) mfX10_row rfl (Nat.le_of_ble_eq_true rfl) (fun g hg hr => ?_)
  unfold X10_row at h
  refine e_aload_n hg dX10_row_0 rfl ?_
  refine e_iload_n hg dX10_row_1 rfl ?_
  obtain ⟨v1, M2, hc3, h⟩ := o_bd h
  refine m_callVO (rest := []) (v := v1) (M' := M2) (ci := 10) hg mfX10_shelfAt mvX10_shelfAt (X10_shelfAt_ok (r := (v1, M2)) hc3) lk_524 dX10_row_2 io_0 rfl rfl rfl (by omega) (Nat.le_of_ble_eq_true rfl) ?_
  refine e_astoreV (ls' := [some (.ref 0), some (.int a1), some (.int a2), some (.int a3), some (vo v1)]) hg dX10_row_5 rfl ?_
  refine e_aloadV hg dX10_row_7 rfl ?_
  rcases v1 with _ | k4
  · have h := o_opt0 h
    refine e_ifnull0 hg 27 dX10_row_9 (by decide) ?_
    refine e_iconst (v := -1) hg dX10_row_27 (by decide) ?_
    exact m_iret hg hr dX10_row_28 h
  · have h := o_opt1 h
    refine e_ifnull hg dX10_row_9 ?_
    refine e_iload_n hg dX10_row_12 rfl ?_
    refine e_iflt hg 27 dX10_row_13 (by decide) (fun c5 => ?_) (fun c5 => ?_)
    · have h := o_pos c5 h
      refine e_iconst (v := -1) hg dX10_row_27 (by decide) ?_
      exact m_iret hg hr dX10_row_28 h
    · have h := o_neg c5 h
      refine e_iload_n hg dX10_row_16 rfl ?_
      refine e_iconst (v := 5) hg dX10_row_17 (by decide) ?_
      refine e_icmpge hg 27 dX10_row_18 (by decide) (fun c6 => ?_) (fun c6 => ?_)
      · have h := o_pos c6 h
        refine e_iload_n hg dX10_row_21 rfl ?_
        refine e_bipush (v := 60) hg dX10_row_22 (by decide) ?_
        refine e_icmple hg 29 dX10_row_24 (by decide) (fun c7 => ?_) (fun c7 => ?_)
        · have h := o_pos c7 h
          refine e_iconst (v := -1) hg dX10_row_27 (by decide) ?_
          exact m_iret hg hr dX10_row_28 h
        · have h := o_neg c7 h
          refine e_iload_n hg dX10_row_29 rfl ?_
          refine e_ifge hg 36 dX10_row_30 (by decide) (fun c8 => ?_) (fun c8 => ?_)
          · have h := o_pos c8 h
            refine e_bipush (v := -14) hg dX10_row_33 (by decide) ?_
            exact m_iret hg hr dX10_row_35 h
          · have h := o_neg c8 h
            refine e_aload hg dX10_row_36 rfl ?_
            refine e_iload_n hg dX10_row_38 rfl ?_
            refine e_iload_n hg dX10_row_39 rfl ?_
            obtain ⟨ho9, h⟩ := o_gd h
            obtain ⟨u10, M11, hc12, h⟩ := o_bd h
            refine m_callVV (rest := []) (M' := M11) (ci := 6) hg mfX6_holdRow mvX6_holdRow (X6_holdRow_ok (r := (u10, M11)) hc12) lk_933 dX10_row_40 ho9 rfl rfl rfl (by omega) (Nat.le_of_ble_eq_true rfl) ?_
            refine e_iconst (v := 1) hg dX10_row_43 (by decide) ?_
            exact m_iret hg hr dX10_row_44 h
      · have h := o_neg c6 h
        refine e_iconst (v := -1) hg dX10_row_27 (by decide) ?_
        exact m_iret hg hr dX10_row_28 h

def X10_put (a1 : Int32) (a2 : Int32) (a3 : Int64) (M : mm) : Option (Int32 × mm) :=
  bd (X10_shelfAt a1 M) fun v1 M2 =>
  opt v1 (
    some ((-1), M2)) fun k4 =>
  gd (isO 6 k4) <|
  bd (X6_refusal k4 a2 M2) fun v6 M7 =>
  if v6 = 0 then
    bd (X6_keptOf k4 a3 M7) fun v10 M11 =>
    gd (inb a2 60) <|
    lt_ (sL M11 (k4 + 1) (vp_updL (M11.2.1 (k4 + 1)) a2.toNatClampNeg v10)) fun M14 =>
    some (1, M14)
  else
    some (v6, M7)
set_option maxRecDepth 100000 in
set_option maxHeartbeats 4000000 in
theorem X10_put_ok {a1 : Int32} {a2 : Int32} {a3 : Int64} {M : mm} {r : Int32 × mm} (h : X10_put a1 a2 a3 M = some r) : CM yX10_put cX10_put 7 (some .int) 1 [.ref 0, .int a1, .int a2, .long a3] (cells M) (some (.int r.1)) (cells r.2) := by
  refine cm_of (ls := [some (.ref 0), some (.int a1), some (.int a2), some (.long a3), none, none, none]) mfX10_put rfl (Nat.le_of_ble_eq_true rfl) (fun g hg hr => ?_)
  unfold X10_put at h
  refine e_aload_n hg dX10_put_0 rfl ?_
  refine e_iload_n hg dX10_put_1 rfl ?_
  obtain ⟨v1, M2, hc3, h⟩ := o_bd h
  refine m_callVO (rest := []) (v := v1) (M' := M2) (ci := 10) hg mfX10_shelfAt mvX10_shelfAt (X10_shelfAt_ok (r := (v1, M2)) hc3) lk_524 dX10_put_2 io_0 rfl rfl rfl (by omega) (Nat.le_of_ble_eq_true rfl) ?_
  refine e_astoreV (ls' := [some (.ref 0), some (.int a1), some (.int a2), some (.long a3), none, some (vo v1), none]) hg dX10_put_5 rfl ?_
  refine e_aloadV hg dX10_put_7 rfl ?_
  rcases v1 with _ | k4
  · have h := o_opt0 h
    refine e_ifnonnull0 hg dX10_put_9 ?_
    refine e_iconst (v := -1) hg dX10_put_12 (by decide) ?_
    exact m_iret hg hr dX10_put_13 h
  · have h := o_opt1 h
    refine e_ifnonnull hg 14 dX10_put_9 (by decide) ?_
    refine e_aload hg dX10_put_14 rfl ?_
    refine e_iload_n hg dX10_put_16 rfl ?_
    obtain ⟨ho5, h⟩ := o_gd h
    obtain ⟨v6, M7, hc8, h⟩ := o_bd h
    refine m_callVI (rest := []) (v := v6) (M' := M7) (ci := 6) hg mfX6_refusal mvX6_refusal (X6_refusal_ok (r := (v6, M7)) hc8) lk_942 dX10_put_17 ho5 rfl rfl rfl (by omega) (Nat.le_of_ble_eq_true rfl) ?_
    refine e_istore (ls' := [some (.ref 0), some (.int a1), some (.int a2), some (.long a3), none, some (.ref k4), some (.int v6)]) hg dX10_put_20 rfl ?_
    refine e_iload hg dX10_put_22 rfl ?_
    refine e_ifeq hg 30 dX10_put_24 (by decide) (fun c9 => ?_) (fun c9 => ?_)
    · have h := o_pos c9 h
      refine e_aload hg dX10_put_30 rfl ?_
      refine m_getR (q := (k4 + 1)) hg ciX6 4 lk_440 dX10_put_32 ho5 (Nat.le_of_ble_eq_true rfl) rfl (rfF6_4 ho5) ?_
      refine e_iload_n hg dX10_put_35 rfl ?_
      refine e_aload hg dX10_put_36 rfl ?_
      refine e_lload_n hg dX10_put_38 rfl ?_
      obtain ⟨v10, M11, hc12, h⟩ := o_bd h
      refine m_callVJ (rest := [.int a2, .ref (k4 + 1)]) (v := v10) (M' := M11) (ci := 6) hg mfX6_keptOf mvX6_keptOf (X6_keptOf_ok (r := (v10, M11)) hc12) lk_946 dX10_put_39 ho5 rfl rfl rfl (by omega) (Nat.le_of_ble_eq_true rfl) ?_
      obtain ⟨hi13, h⟩ := o_gd h
      obtain ⟨M14, hM14, h⟩ := o_lt h
      refine m_last hg (shF6_1 ho5) hi13 dX10_put_42 ?_
      rw [← hM14]
      refine e_iconst (v := 1) hg dX10_put_43 (by decide) ?_
      exact m_iret hg hr dX10_put_44 h
    · have h := o_neg c9 h
      refine e_iload hg dX10_put_27 rfl ?_
      exact m_iret hg hr dX10_put_29 h

def X10_element_b18 (a1 : Int32) (a2 : Int32) (M : mm) : Option (Int64 × mm) :=
  some ((-9223372036854775808), M)
set_option maxRecDepth 100000 in
set_option maxHeartbeats 4000000 in
theorem X10_element_b18_ok {g : gx} (hg : EC g cX10_element RX10 1) {a1 : Int32} {a2 : Int32} {r : Int64 × mm} (hr : RT g (some .long) (0, 0) (some (.long r.1)) (cells r.2)) {o3 : Option Value} {M : mm} (h : X10_element_b18 a1 a2 M = some r) : E g (0, 0) 18 [some (.ref 0), some (.int a1), some (.int a2), o3] [] (cells M) := by
  unfold X10_element_b18 at h
  refine e_ldc2 hg dX10_element_18 lk_788 ?_
  refine e_goto hg 30 dX10_element_21 (by decide) ?_
  exact m_lret hg hr dX10_element_30 h

def X10_element (a1 : Int32) (a2 : Int32) (M : mm) : Option (Int64 × mm) :=
  bd (X10_shelfAt a1 M) fun v1 M2 =>
  opt v1 (
    X10_element_b18 a1 a2 M2) fun k4 =>
  gd (isO 6 k4) <|
  bd (X6_refusal k4 a2 M2) fun v6 M7 =>
  if v6 = 0 then
    gd (inb a2 60) <|
    some ((M7.2.1 (k4 + 1) a2.toNatClampNeg), M7)
  else
    X10_element_b18 a1 a2 M7
set_option maxRecDepth 100000 in
set_option maxHeartbeats 4000000 in
theorem X10_element_ok {a1 : Int32} {a2 : Int32} {M : mm} {r : Int64 × mm} (h : X10_element a1 a2 M = some r) : CM yX10_element cX10_element 4 (some .long) 1 [.ref 0, .int a1, .int a2] (cells M) (some (.long r.1)) (cells r.2) := by
  refine cm_of (ls := [some (.ref 0), some (.int a1), some (.int a2), none]) mfX10_element rfl (Nat.le_of_ble_eq_true rfl) (fun g hg hr => ?_)
  unfold X10_element at h
  refine e_aload_n hg dX10_element_0 rfl ?_
  refine e_iload_n hg dX10_element_1 rfl ?_
  obtain ⟨v1, M2, hc3, h⟩ := o_bd h
  refine m_callVO (rest := []) (v := v1) (M' := M2) (ci := 10) hg mfX10_shelfAt mvX10_shelfAt (X10_shelfAt_ok (r := (v1, M2)) hc3) lk_524 dX10_element_2 io_0 rfl rfl rfl (by omega) (Nat.le_of_ble_eq_true rfl) ?_
  refine e_astore_nV (ls' := [some (.ref 0), some (.int a1), some (.int a2), some (vo v1)]) hg dX10_element_5 rfl ?_
  refine e_aload_nV hg dX10_element_6 rfl ?_
  rcases v1 with _ | k4
  · have h := o_opt0 h
    refine e_ifnull0 hg 18 dX10_element_7 (by decide) ?_
    exact X10_element_b18_ok hg hr  h
  · have h := o_opt1 h
    refine e_ifnull hg dX10_element_7 ?_
    refine e_aload_n hg dX10_element_10 rfl ?_
    refine e_iload_n hg dX10_element_11 rfl ?_
    obtain ⟨ho5, h⟩ := o_gd h
    obtain ⟨v6, M7, hc8, h⟩ := o_bd h
    refine m_callVI (rest := []) (v := v6) (M' := M7) (ci := 6) hg mfX6_refusal mvX6_refusal (X6_refusal_ok (r := (v6, M7)) hc8) lk_942 dX10_element_12 ho5 rfl rfl rfl (by omega) (Nat.le_of_ble_eq_true rfl) ?_
    refine e_ifeq hg 24 dX10_element_15 (by decide) (fun c9 => ?_) (fun c9 => ?_)
    · have h := o_pos c9 h
      refine e_aload_n hg dX10_element_24 rfl ?_
      refine m_getR (q := (k4 + 1)) hg ciX6 4 lk_440 dX10_element_25 ho5 (Nat.le_of_ble_eq_true rfl) rfl (rfF6_4 ho5) ?_
      refine e_iload_n hg dX10_element_28 rfl ?_
      obtain ⟨hi10, h⟩ := o_gd h
      refine m_lald hg (shF6_1 ho5) hi10 dX10_element_29 ?_
      exact m_lret hg hr dX10_element_30 h
    · have h := o_neg c9 h
      exact X10_element_b18_ok hg hr  h

def X10_shift (a1 : Int32) (a2 : Int32) (a3 : Int32) (a4 : Int32) (a5 : Int32) (M : mm) : Option (Int32 × mm) :=
  bd (X10_shelfAt a1 M) fun v1 M2 =>
  bd (X10_shelfAt a3 M2) fun v4 M5 =>
  opt v1 (
    some ((-1), M5)) fun k7 =>
  opt v4 (
    some ((-1), M5)) fun k8 =>
  gd (isO 6 k7) <|
  if (M5.1 k7 0) = 0 then
    some ((-11), M5)
  else
    gd (isO 6 k8) <|
    if (M5.1 k8 0) = 0 then
      some ((-11), M5)
    else
      if (M5.1 k7 0) = 2 then
        bd (X6_isRowOf k8 (M5.1 k7 2) M5) fun v14 M15 =>
        if v14 = 0 then
          some ((-12), M15)
        else
          bd (X6_hasPlaces k7 a2 a5 M15) fun v18 M19 =>
          if v18 = 0 then
            some ((-13), M19)
          else
            bd (X6_hasPlaces k8 a4 a5 M19) fun v22 M23 =>
            if v22 = 0 then
              some ((-13), M23)
            else
              gd (cpok a2 a4 a5 60 60) <|
              lt_ (sL M23 (k8 + 1) (va_cpy (M23.2.1 (k7 + 1)) (M23.2.1 (k8 + 1)) a2.toNatClampNeg a4.toNatClampNeg a5.toNatClampNeg)) fun M27 =>
              some (a5, M27)
      else
        some ((-12), M5)
set_option maxRecDepth 100000 in
set_option maxHeartbeats 4000000 in
theorem X10_shift_ok {a1 : Int32} {a2 : Int32} {a3 : Int32} {a4 : Int32} {a5 : Int32} {M : mm} {r : Int32 × mm} (h : X10_shift a1 a2 a3 a4 a5 M = some r) : CM yX10_shift cX10_shift 8 (some .int) 1 [.ref 0, .int a1, .int a2, .int a3, .int a4, .int a5] (cells M) (some (.int r.1)) (cells r.2) := by
  refine cm_of (ls := [some (.ref 0), some (.int a1), some (.int a2), some (.int a3), some (.int a4), some (.int a5), none, none]) mfX10_shift rfl (Nat.le_of_ble_eq_true rfl) (fun g hg hr => ?_)
  unfold X10_shift at h
  refine e_aload_n hg dX10_shift_0 rfl ?_
  refine e_iload_n hg dX10_shift_1 rfl ?_
  obtain ⟨v1, M2, hc3, h⟩ := o_bd h
  refine m_callVO (rest := []) (v := v1) (M' := M2) (ci := 10) hg mfX10_shelfAt mvX10_shelfAt (X10_shelfAt_ok (r := (v1, M2)) hc3) lk_524 dX10_shift_2 io_0 rfl rfl rfl (by omega) (Nat.le_of_ble_eq_true rfl) ?_
  refine e_astoreV (ls' := [some (.ref 0), some (.int a1), some (.int a2), some (.int a3), some (.int a4), some (.int a5), some (vo v1), none]) hg dX10_shift_5 rfl ?_
  refine e_aload_n hg dX10_shift_7 rfl ?_
  refine e_iload_n hg dX10_shift_8 rfl ?_
  obtain ⟨v4, M5, hc6, h⟩ := o_bd h
  refine m_callVO (rest := []) (v := v4) (M' := M5) (ci := 10) hg mfX10_shelfAt mvX10_shelfAt (X10_shelfAt_ok (r := (v4, M5)) hc6) lk_524 dX10_shift_9 io_0 rfl rfl rfl (by omega) (Nat.le_of_ble_eq_true rfl) ?_
  refine e_astoreV (ls' := [some (.ref 0), some (.int a1), some (.int a2), some (.int a3), some (.int a4), some (.int a5), some (vo v1), some (vo v4)]) hg dX10_shift_12 (by cases v1 <;> rfl) ?_
  refine e_aloadV hg dX10_shift_14 rfl ?_
  rcases v1 with _ | k7
  · have h := o_opt0 h
    refine e_ifnull0 hg 24 dX10_shift_16 (by decide) ?_
    refine e_iconst (v := -1) hg dX10_shift_24 (by decide) ?_
    exact m_iret hg hr dX10_shift_25 h
  · have h := o_opt1 h
    refine e_ifnull hg dX10_shift_16 ?_
    refine e_aloadV hg dX10_shift_19 rfl ?_
    rcases v4 with _ | k8
    · have h := o_opt0 h
      refine e_ifnonnull0 hg dX10_shift_21 ?_
      refine e_iconst (v := -1) hg dX10_shift_24 (by decide) ?_
      exact m_iret hg hr dX10_shift_25 h
    · have h := o_opt1 h
      refine e_ifnonnull hg 26 dX10_shift_21 (by decide) ?_
      refine e_aload hg dX10_shift_26 rfl ?_
      obtain ⟨ho9, h⟩ := o_gd h
      refine m_getI hg ciX6 0 lk_432 dX10_shift_28 ho9 (Nat.le_of_ble_eq_true rfl) rfl ?_
      refine e_ifeq hg 42 dX10_shift_31 (by decide) (fun c10 => ?_) (fun c10 => ?_)
      · have h := o_pos c10 h
        refine e_bipush (v := -11) hg dX10_shift_42 (by decide) ?_
        exact m_iret hg hr dX10_shift_44 h
      · have h := o_neg c10 h
        refine e_aload hg dX10_shift_34 rfl ?_
        obtain ⟨ho11, h⟩ := o_gd h
        refine m_getI hg ciX6 0 lk_432 dX10_shift_36 ho11 (Nat.le_of_ble_eq_true rfl) rfl ?_
        refine e_ifne hg 45 dX10_shift_39 (by decide) (fun c12 => ?_) (fun c12 => ?_)
        · have h := o_pos c12 h
          refine e_bipush (v := -11) hg dX10_shift_42 (by decide) ?_
          exact m_iret hg hr dX10_shift_44 h
        · have h := o_neg c12 h
          refine e_aload hg dX10_shift_45 rfl ?_
          refine m_getI hg ciX6 0 lk_432 dX10_shift_47 ho9 (Nat.le_of_ble_eq_true rfl) rfl ?_
          refine e_iconst (v := 2) hg dX10_shift_50 (by decide) ?_
          refine e_icmpne hg 67 dX10_shift_51 (by decide) (fun c13 => ?_) (fun c13 => ?_)
          · have h := o_pos c13 h
            refine e_aload hg dX10_shift_54 rfl ?_
            refine e_aload hg dX10_shift_56 rfl ?_
            refine m_getI hg ciX6 2 lk_436 dX10_shift_58 ho9 (Nat.le_of_ble_eq_true rfl) rfl ?_
            obtain ⟨v14, M15, hc16, h⟩ := o_bd h
            refine m_callVI (rest := []) (v := v14) (M' := M15) (ci := 6) hg mfX6_isRowOf mvX6_isRowOf (X6_isRowOf_ok (r := (v14, M15)) hc16) lk_528 dX10_shift_61 ho11 rfl rfl rfl (by omega) (Nat.le_of_ble_eq_true rfl) ?_
            refine e_ifne hg 70 dX10_shift_64 (by decide) (fun c17 => ?_) (fun c17 => ?_)
            · have h := o_pos c17 h
              refine e_bipush (v := -12) hg dX10_shift_67 (by decide) ?_
              exact m_iret hg hr dX10_shift_69 h
            · have h := o_neg c17 h
              refine e_aload hg dX10_shift_70 rfl ?_
              refine e_iload_n hg dX10_shift_72 rfl ?_
              refine e_iload hg dX10_shift_73 rfl ?_
              obtain ⟨v18, M19, hc20, h⟩ := o_bd h
              refine m_callVI (rest := []) (v := v18) (M' := M19) (ci := 6) hg mfX6_hasPlaces mvX6_hasPlaces (X6_hasPlaces_ok (r := (v18, M19)) hc20) lk_958 dX10_shift_75 ho9 rfl rfl rfl (by omega) (Nat.le_of_ble_eq_true rfl) ?_
              refine e_ifeq hg 93 dX10_shift_78 (by decide) (fun c21 => ?_) (fun c21 => ?_)
              · have h := o_pos c21 h
                refine e_bipush (v := -13) hg dX10_shift_93 (by decide) ?_
                exact m_iret hg hr dX10_shift_95 h
              · have h := o_neg c21 h
                refine e_aload hg dX10_shift_81 rfl ?_
                refine e_iload hg dX10_shift_83 rfl ?_
                refine e_iload hg dX10_shift_85 rfl ?_
                obtain ⟨v22, M23, hc24, h⟩ := o_bd h
                refine m_callVI (rest := []) (v := v22) (M' := M23) (ci := 6) hg mfX6_hasPlaces mvX6_hasPlaces (X6_hasPlaces_ok (r := (v22, M23)) hc24) lk_958 dX10_shift_87 ho11 rfl rfl rfl (by omega) (Nat.le_of_ble_eq_true rfl) ?_
                refine e_ifne hg 96 dX10_shift_90 (by decide) (fun c25 => ?_) (fun c25 => ?_)
                · have h := o_pos c25 h
                  refine e_bipush (v := -13) hg dX10_shift_93 (by decide) ?_
                  exact m_iret hg hr dX10_shift_95 h
                · have h := o_neg c25 h
                  refine e_aload hg dX10_shift_96 rfl ?_
                  refine m_getR (q := (k7 + 1)) hg ciX6 4 lk_440 dX10_shift_98 ho9 (Nat.le_of_ble_eq_true rfl) rfl (rfF6_4 ho9) ?_
                  refine e_iload_n hg dX10_shift_101 rfl ?_
                  refine e_aload hg dX10_shift_102 rfl ?_
                  refine m_getR (q := (k8 + 1)) hg ciX6 4 lk_440 dX10_shift_104 ho11 (Nat.le_of_ble_eq_true rfl) rfl (rfF6_4 ho11) ?_
                  refine e_iload hg dX10_shift_107 rfl ?_
                  refine e_iload hg dX10_shift_109 rfl ?_
                  obtain ⟨hc26, h⟩ := o_gd h
                  obtain ⟨M27, hM27, h⟩ := o_lt h
                  refine m_cpyL hg (shF6_1 ho9) (shF6_1 ho11) hc26 (Nat.le_of_ble_eq_true rfl) (by omega) lk_962 dX10_shift_111 ?_
                  rw [← hM27]
                  refine e_iload hg dX10_shift_114 rfl ?_
                  exact m_iret hg hr dX10_shift_116 h
          · have h := o_neg c13 h
            refine e_bipush (v := -12) hg dX10_shift_67 (by decide) ?_
            exact m_iret hg hr dX10_shift_69 h

def X10_taken (a1 : Int32) (a2 : Int32) (M : mm) : Option (Int32 × mm) :=
  bd (X10_shelfAt a1 M) fun v1 M2 =>
  opt v1 (
    some ((-1), M2)) fun k4 =>
  if a2 < 0 then
    some ((-1), M2)
  else
    if a2 < 8 then
      gd (isO 6 k4) <|
      if (M2.1 k4 0) = 0 then
        some ((-11), M2)
      else
        if (M2.1 k4 0) = 1 then
          bd (X0_isOfKind (M2.1 k4 1) a2 M2) fun v10 M11 =>
          if v10 = 0 then
            some ((-12), M11)
          else
            bd (X0_kindOf (M11.1 k4 1) M11) fun v14 M15 =>
            some (v14, M15)
        else
          some ((-12), M2)
    else
      some ((-1), M2)
set_option maxRecDepth 100000 in
set_option maxHeartbeats 4000000 in
theorem X10_taken_ok {a1 : Int32} {a2 : Int32} {M : mm} {r : Int32 × mm} (h : X10_taken a1 a2 M = some r) : CM yX10_taken cX10_taken 4 (some .int) 2 [.ref 0, .int a1, .int a2] (cells M) (some (.int r.1)) (cells r.2) := by
  refine cm_of (ls := [some (.ref 0), some (.int a1), some (.int a2), none]) mfX10_taken rfl (Nat.le_of_ble_eq_true rfl) (fun g hg hr => ?_)
  unfold X10_taken at h
  refine e_aload_n hg dX10_taken_0 rfl ?_
  refine e_iload_n hg dX10_taken_1 rfl ?_
  obtain ⟨v1, M2, hc3, h⟩ := o_bd h
  refine m_callVO (rest := []) (v := v1) (M' := M2) (ci := 10) hg mfX10_shelfAt mvX10_shelfAt (X10_shelfAt_ok (r := (v1, M2)) hc3) lk_524 dX10_taken_2 io_0 rfl rfl rfl (by omega) (Nat.le_of_ble_eq_true rfl) ?_
  refine e_astore_nV (ls' := [some (.ref 0), some (.int a1), some (.int a2), some (vo v1)]) hg dX10_taken_5 rfl ?_
  refine e_aload_nV hg dX10_taken_6 rfl ?_
  rcases v1 with _ | k4
  · have h := o_opt0 h
    refine e_ifnull0 hg 20 dX10_taken_7 (by decide) ?_
    refine e_iconst (v := -1) hg dX10_taken_20 (by decide) ?_
    exact m_iret hg hr dX10_taken_21 h
  · have h := o_opt1 h
    refine e_ifnull hg dX10_taken_7 ?_
    refine e_iload_n hg dX10_taken_10 rfl ?_
    refine e_iflt hg 20 dX10_taken_11 (by decide) (fun c5 => ?_) (fun c5 => ?_)
    · have h := o_pos c5 h
      refine e_iconst (v := -1) hg dX10_taken_20 (by decide) ?_
      exact m_iret hg hr dX10_taken_21 h
    · have h := o_neg c5 h
      refine e_iload_n hg dX10_taken_14 rfl ?_
      refine e_bipush (v := 8) hg dX10_taken_15 (by decide) ?_
      refine e_icmplt hg 22 dX10_taken_17 (by decide) (fun c6 => ?_) (fun c6 => ?_)
      · have h := o_pos c6 h
        refine e_aload_n hg dX10_taken_22 rfl ?_
        obtain ⟨ho7, h⟩ := o_gd h
        refine m_getI hg ciX6 0 lk_432 dX10_taken_23 ho7 (Nat.le_of_ble_eq_true rfl) rfl ?_
        refine e_ifne hg 32 dX10_taken_26 (by decide) (fun c8 => ?_) (fun c8 => ?_)
        · have h := o_pos c8 h
          refine e_bipush (v := -11) hg dX10_taken_29 (by decide) ?_
          exact m_iret hg hr dX10_taken_31 h
        · have h := o_neg c8 h
          refine e_aload_n hg dX10_taken_32 rfl ?_
          refine m_getI hg ciX6 0 lk_432 dX10_taken_33 ho7 (Nat.le_of_ble_eq_true rfl) rfl ?_
          refine e_iconst (v := 1) hg dX10_taken_36 (by decide) ?_
          refine e_icmpne hg 55 dX10_taken_37 (by decide) (fun c9 => ?_) (fun c9 => ?_)
          · have h := o_pos c9 h
            refine e_aload_n hg dX10_taken_40 rfl ?_
            refine m_getR (q := 66) hg ciX10 8 lk_460 dX10_taken_41 io_0 (Nat.le_of_ble_eq_true rfl) rfl rf_0_8 ?_
            refine e_aload_n hg dX10_taken_44 rfl ?_
            refine m_getI hg ciX6 1 lk_434 dX10_taken_45 ho7 (Nat.le_of_ble_eq_true rfl) rfl ?_
            refine e_iload_n hg dX10_taken_48 rfl ?_
            obtain ⟨v10, M11, hc12, h⟩ := o_bd h
            refine m_callVI (rest := []) (v := v10) (M' := M11) (ci := 0) hg mfX0_isOfKind mvX0_isOfKind (X0_isOfKind_ok (r := (v10, M11)) hc12) lk_967 dX10_taken_49 io_66 rfl rfl rfl (by omega) (Nat.le_of_ble_eq_true rfl) ?_
            refine e_ifne hg 58 dX10_taken_52 (by decide) (fun c13 => ?_) (fun c13 => ?_)
            · have h := o_pos c13 h
              refine e_bipush (v := -12) hg dX10_taken_55 (by decide) ?_
              exact m_iret hg hr dX10_taken_57 h
            · have h := o_neg c13 h
              refine e_aload_n hg dX10_taken_58 rfl ?_
              refine m_getR (q := 66) hg ciX10 8 lk_460 dX10_taken_59 io_0 (Nat.le_of_ble_eq_true rfl) rfl rf_0_8 ?_
              refine e_aload_n hg dX10_taken_62 rfl ?_
              refine m_getI hg ciX6 1 lk_434 dX10_taken_63 ho7 (Nat.le_of_ble_eq_true rfl) rfl ?_
              obtain ⟨v14, M15, hc16, h⟩ := o_bd h
              refine m_callVI (rest := []) (v := v14) (M' := M15) (ci := 0) hg mfX0_kindOf mvX0_kindOf (X0_kindOf_ok (r := (v14, M15)) hc16) lk_975 dX10_taken_66 io_66 rfl rfl rfl (by omega) (Nat.le_of_ble_eq_true rfl) ?_
              exact m_iret hg hr dX10_taken_69 h
          · have h := o_neg c9 h
            refine e_bipush (v := -12) hg dX10_taken_55 (by decide) ?_
            exact m_iret hg hr dX10_taken_57 h
      · have h := o_neg c6 h
        refine e_iconst (v := -1) hg dX10_taken_20 (by decide) ?_
        exact m_iret hg hr dX10_taken_21 h

def X10_count (a1 : Int32) (M : mm) : Option (Int32 × mm) :=
  if a1 = 0 then
    some ((M.1 1 0), M)
  else
  if a1 = 1 then
    some ((M.1 1 1), M)
  else
  if a1 = 2 then
    some ((M.1 28 0), M)
  else
  if a1 = 3 then
    some ((M.1 28 1), M)
  else
  if a1 = 4 then
    some ((M.1 9 0), M)
  else
  if a1 = 5 then
    some ((M.1 61 0), M)
  else
  if a1 = 6 then
    some ((M.1 66 0), M)
  else
  if a1 = 7 then
    some ((M.1 66 1), M)
  else
  some ((-1), M)
set_option maxRecDepth 100000 in
set_option maxHeartbeats 4000000 in
theorem X10_count_ok {a1 : Int32} {M : mm} {r : Int32 × mm} (h : X10_count a1 M = some r) : CM yX10_count cX10_count 2 (some .int) 0 [.ref 0, .int a1] (cells M) (some (.int r.1)) (cells r.2) := by
  refine cm_of (ls := [some (.ref 0), some (.int a1)]) mfX10_count rfl (Nat.le_of_ble_eq_true rfl) (fun g hg hr => ?_)
  unfold X10_count at h
  refine e_iload_n hg dX10_count_0 rfl ?_
  by_cases c1 : a1 = 0
  · have h := o_pos c1 h
    refine e_tabIn (v := 0) hg 48 dX10_count_1 c1 (by decide) (by decide) rfl (by decide) ?_
    refine e_aload_n hg dX10_count_48 rfl ?_
    refine m_getR (q := 1) hg ciX10 0 lk_452 dX10_count_49 io_0 (Nat.le_of_ble_eq_true rfl) rfl rf_0_0 ?_
    refine m_getI hg ciX3 0 lk_97 dX10_count_52 io_1 (Nat.le_of_ble_eq_true rfl) rfl ?_
    exact m_iret hg hr dX10_count_55 h
  have h := o_neg c1 h
  by_cases c2 : a1 = 1
  · have h := o_pos c2 h
    refine e_tabIn (v := 1) hg 56 dX10_count_1 c2 (by decide) (by decide) rfl (by decide) ?_
    refine e_aload_n hg dX10_count_56 rfl ?_
    refine m_getR (q := 1) hg ciX10 0 lk_452 dX10_count_57 io_0 (Nat.le_of_ble_eq_true rfl) rfl rf_0_0 ?_
    refine m_getI hg ciX3 1 lk_100 dX10_count_60 io_1 (Nat.le_of_ble_eq_true rfl) rfl ?_
    exact m_iret hg hr dX10_count_63 h
  have h := o_neg c2 h
  by_cases c3 : a1 = 2
  · have h := o_pos c3 h
    refine e_tabIn (v := 2) hg 64 dX10_count_1 c3 (by decide) (by decide) rfl (by decide) ?_
    refine e_aload_n hg dX10_count_64 rfl ?_
    refine m_getR (q := 28) hg ciX10 4 lk_456 dX10_count_65 io_0 (Nat.le_of_ble_eq_true rfl) rfl rf_0_4 ?_
    refine m_getI hg ciX9 0 lk_313 dX10_count_68 io_28 (Nat.le_of_ble_eq_true rfl) rfl ?_
    exact m_iret hg hr dX10_count_71 h
  have h := o_neg c3 h
  by_cases c4 : a1 = 3
  · have h := o_pos c4 h
    refine e_tabIn (v := 3) hg 72 dX10_count_1 c4 (by decide) (by decide) rfl (by decide) ?_
    refine e_aload_n hg dX10_count_72 rfl ?_
    refine m_getR (q := 28) hg ciX10 4 lk_456 dX10_count_73 io_0 (Nat.le_of_ble_eq_true rfl) rfl rf_0_4 ?_
    refine m_getI hg ciX9 1 lk_316 dX10_count_76 io_28 (Nat.le_of_ble_eq_true rfl) rfl ?_
    exact m_iret hg hr dX10_count_79 h
  have h := o_neg c4 h
  by_cases c5 : a1 = 4
  · have h := o_pos c5 h
    refine e_tabIn (v := 4) hg 80 dX10_count_1 c5 (by decide) (by decide) rfl (by decide) ?_
    refine e_aload_n hg dX10_count_80 rfl ?_
    refine m_getR (q := 9) hg ciX10 1 lk_453 dX10_count_81 io_0 (Nat.le_of_ble_eq_true rfl) rfl rf_0_1 ?_
    refine m_getI hg ciX8 0 lk_210 dX10_count_84 io_9 (Nat.le_of_ble_eq_true rfl) rfl ?_
    exact m_iret hg hr dX10_count_87 h
  have h := o_neg c5 h
  by_cases c6 : a1 = 5
  · have h := o_pos c6 h
    refine e_tabIn (v := 5) hg 88 dX10_count_1 c6 (by decide) (by decide) rfl (by decide) ?_
    refine e_aload_n hg dX10_count_88 rfl ?_
    refine m_getR (q := 61) hg ciX10 7 lk_459 dX10_count_89 io_0 (Nat.le_of_ble_eq_true rfl) rfl rf_0_7 ?_
    refine m_getI hg ciX1 0 lk_377 dX10_count_92 io_61 (Nat.le_of_ble_eq_true rfl) rfl ?_
    exact m_iret hg hr dX10_count_95 h
  have h := o_neg c6 h
  by_cases c7 : a1 = 6
  · have h := o_pos c7 h
    refine e_tabIn (v := 6) hg 96 dX10_count_1 c7 (by decide) (by decide) rfl (by decide) ?_
    refine e_aload_n hg dX10_count_96 rfl ?_
    refine m_getR (q := 66) hg ciX10 8 lk_460 dX10_count_97 io_0 (Nat.le_of_ble_eq_true rfl) rfl rf_0_8 ?_
    refine m_getI hg ciX0 0 lk_403 dX10_count_100 io_66 (Nat.le_of_ble_eq_true rfl) rfl ?_
    exact m_iret hg hr dX10_count_103 h
  have h := o_neg c7 h
  by_cases c8 : a1 = 7
  · have h := o_pos c8 h
    refine e_tabIn (v := 7) hg 104 dX10_count_1 c8 (by decide) (by decide) rfl (by decide) ?_
    refine e_aload_n hg dX10_count_104 rfl ?_
    refine m_getR (q := 66) hg ciX10 8 lk_460 dX10_count_105 io_0 (Nat.le_of_ble_eq_true rfl) rfl rf_0_8 ?_
    refine m_getI hg ciX0 1 lk_405 dX10_count_108 io_66 (Nat.le_of_ble_eq_true rfl) rfl ?_
    exact m_iret hg hr dX10_count_111 h
  have h := o_neg c8 h
  refine e_tabOut hg 112 dX10_count_1 (by have e_c1 := ne_toIntL (n := 0) (by decide) c1; have e_c2 := ne_toIntL (n := 1) (by decide) c2; have e_c3 := ne_toIntL (n := 2) (by decide) c3; have e_c4 := ne_toIntL (n := 3) (by decide) c4; have e_c5 := ne_toIntL (n := 4) (by decide) c5; have e_c6 := ne_toIntL (n := 5) (by decide) c6; have e_c7 := ne_toIntL (n := 6) (by decide) c7; have e_c8 := ne_toIntL (n := 7) (by decide) c8; omega) (by decide) ?_
  refine e_iconst (v := -1) hg dX10_count_112 (by decide) ?_
  exact m_iret hg hr dX10_count_113 h

