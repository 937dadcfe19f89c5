def X2_sow (a1 : Int32) (M : mm) : Option (Unit × mm) :=
  lt_ (sA M 27 (upd (M.1 27) 3 a1)) fun M1 =>
  some ((), M1)
set_option maxRecDepth 100000 in
set_option maxHeartbeats 4000000 in
theorem X2_sow_ok {a1 : Int32} {M : mm} {r : Unit × mm} (h : X2_sow a1 M = some r) : CM yX2_sow cX2_sow 2 (none) 0 [.ref 27, .int a1] (cells M) none (cells r.2) := by
  refine cm_of (ls := [some (.ref 27), some (.int a1)]) mfX2_sow rfl (Nat.le_of_ble_eq_true rfl) (fun g hg hr => ?_)
  unfold X2_sow at h
  refine e_aload_n hg dX2_sow_0 rfl ?_
  refine e_iload_n hg dX2_sow_1 rfl ?_
  obtain ⟨M1, hM1, h⟩ := o_lt h
  refine m_putI hg ciX2 3 lk_295 dX2_sow_2 io_27 (Nat.le_of_ble_eq_true rfl) rfl rfl rfl rfl ?_
  rw [← hM1]
  exact m_vret hg hr dX2_sow_5 h

def X2_bills_b48 (a1 : Nat) (a2 : Int32) (x5 : Int32) (M : mm) : Option (Unit × mm) :=
  gd (inb a2 6) <|
  gd (inb a2 6) <|
  lt_ (sA M (a1 + 10) (upd (M.1 (a1 + 10)) a2.toNatClampNeg (M.1 5 a2.toNatClampNeg))) fun M7 =>
  gd (inb a2 6) <|
  bd (X9_pays a1 (M7.1 5 a2.toNatClampNeg) x5 M7) fun u9 M10 =>
  some ((), M10)
set_option maxRecDepth 100000 in
set_option maxHeartbeats 4000000 in
theorem X2_bills_b48_ok {g : gx} (hg : EC g cX2_bills RX2 1) {a1 : Nat} {a2 : Int32} (ho1 : isO 9 a1 = true) {r : Unit × mm} (hr : RT g (none) (0, 0) none (cells r.2)) {x5 : Int32} {o3 : Option Value} {o4 : Option Value} {o6 : Option Value} {M : mm} (h : X2_bills_b48 a1 a2 x5 M = some r) : E g (0, 0) 48 [some (.ref 27), some (.ref a1), some (.int a2), o3, o4, some (.int x5), o6] [] (cells M) := by
  unfold X2_bills_b48 at h
  refine e_aload_n hg dX2_bills_48 rfl ?_
  refine m_getR (q := (a1 + 10)) hg ciX9 11 lk_343 dX2_bills_49 ho1 (Nat.le_of_ble_eq_true rfl) rfl (rfF9_11 ho1) ?_
  refine e_iload_n hg dX2_bills_52 rfl ?_
  refine e_aload_n hg dX2_bills_53 rfl ?_
  refine m_getR (q := 1) hg ciX2 0 lk_292 dX2_bills_54 io_27 (Nat.le_of_ble_eq_true rfl) rfl rf_27_0 ?_
  refine m_getR (q := 5) hg ciX3 8 lk_121 dX2_bills_57 io_1 (Nat.le_of_ble_eq_true rfl) rfl rf_1_8 ?_
  refine e_iload_n hg dX2_bills_60 rfl ?_
  obtain ⟨hi5, h⟩ := o_gd h
  refine m_iald hg sh_5 hi5 dX2_bills_61 ?_
  obtain ⟨hi6, h⟩ := o_gd h
  obtain ⟨M7, hM7, h⟩ := o_lt h
  refine m_iast hg (shF9_10 ho1) hi6 dX2_bills_62 ?_
  rw [← hM7]
  refine e_aload_n hg dX2_bills_63 rfl ?_
  refine e_aload_n hg dX2_bills_64 rfl ?_
  refine m_getR (q := 1) hg ciX2 0 lk_292 dX2_bills_65 io_27 (Nat.le_of_ble_eq_true rfl) rfl rf_27_0 ?_
  refine m_getR (q := 5) hg ciX3 8 lk_121 dX2_bills_68 io_1 (Nat.le_of_ble_eq_true rfl) rfl rf_1_8 ?_
  refine e_iload_n hg dX2_bills_71 rfl ?_
  obtain ⟨hi8, h⟩ := o_gd h
  refine m_iald hg sh_5 hi8 dX2_bills_72 ?_
  refine e_iload hg dX2_bills_73 rfl ?_
  obtain ⟨u9, M10, hc11, h⟩ := o_bd h
  refine m_callVV (rest := []) (M' := M10) (ci := 9) hg mfX9_pays mvX9_pays (X9_pays_ok (r := (u9, M10)) hc11) lk_745 dX2_bills_75 ho1 rfl rfl rfl (by omega) (Nat.le_of_ble_eq_true rfl) ?_
  exact m_vret hg hr dX2_bills_78 h

def X2_bills_b120 (a1 : Nat) (a2 : Int32) (x3 : Int32) (x5 : Int32) (x6 : Int32) (M : mm) : Option (Unit × mm) :=
  bd (X9_pays a1 x3 (x5 - x6) M) fun u23 M24 =>
  gd (inb a2 6) <|
  lt_ (sA M24 (a1 + 10) (upd (M24.1 (a1 + 10)) a2.toNatClampNeg x3)) fun M27 =>
  some ((), M27)
set_option maxRecDepth 100000 in
set_option maxHeartbeats 4000000 in
theorem X2_bills_b120_ok {g : gx} (hg : EC g cX2_bills RX2 1) {a1 : Nat} {a2 : Int32} (ho1 : isO 9 a1 = true) {r : Unit × mm} (hr : RT g (none) (0, 0) none (cells r.2)) {x3 : Int32} {x5 : Int32} {x6 : Int32} {o4 : Option Value} {M : mm} (h : X2_bills_b120 a1 a2 x3 x5 x6 M = some r) : E g (0, 0) 120 [some (.ref 27), some (.ref a1), some (.int a2), some (.int x3), o4, some (.int x5), some (.int x6)] [] (cells M) := by
  unfold X2_bills_b120 at h
  refine e_aload_n hg dX2_bills_120 rfl ?_
  refine e_iload_n hg dX2_bills_121 rfl ?_
  refine e_iload hg dX2_bills_122 rfl ?_
  refine e_iload hg dX2_bills_124 rfl ?_
  refine e_isub hg dX2_bills_126 ?_
  obtain ⟨u23, M24, hc25, h⟩ := o_bd h
  refine m_callVV (rest := []) (M' := M24) (ci := 9) hg mfX9_pays mvX9_pays (X9_pays_ok (r := (u23, M24)) hc25) lk_745 dX2_bills_127 ho1 rfl rfl rfl (by omega) (Nat.le_of_ble_eq_true rfl) ?_
  refine e_aload_n hg dX2_bills_130 rfl ?_
  refine m_getR (q := (a1 + 10)) hg ciX9 11 lk_343 dX2_bills_131 ho1 (Nat.le_of_ble_eq_true rfl) rfl (rfF9_11 ho1) ?_
  refine e_iload_n hg dX2_bills_134 rfl ?_
  refine e_iload_n hg dX2_bills_135 rfl ?_
  obtain ⟨hi26, h⟩ := o_gd h
  obtain ⟨M27, hM27, h⟩ := o_lt h
  refine m_iast hg (shF9_10 ho1) hi26 dX2_bills_136 ?_
  rw [← hM27]
  exact m_vret hg hr dX2_bills_137 h

def X2_bills_b105 (a1 : Nat) (a2 : Int32) (x3 : Int32) (x4 : Int32) (x5 : Int32) (s0 : Int32) (M : mm) : Option (Unit × mm) :=
  if 0 < s0 then
    bd (X9_pays a1 x4 s0 M) fun u20 M21 =>
    X2_bills_b120 a1 a2 x3 x5 s0 M21
  else
    X2_bills_b120 a1 a2 x3 x5 s0 M
set_option maxRecDepth 100000 in
set_option maxHeartbeats 4000000 in
theorem X2_bills_b105_ok {g : gx} (hg : EC g cX2_bills RX2 1) {a1 : Nat} {a2 : Int32} (ho1 : isO 9 a1 = true) {r : Unit × mm} (hr : RT g (none) (0, 0) none (cells r.2)) {x3 : Int32} {x4 : Int32} {x5 : Int32} {s0 : Int32} {o6 : Option Value} {M : mm} (h : X2_bills_b105 a1 a2 x3 x4 x5 s0 M = some r) : E g (0, 0) 105 [some (.ref 27), some (.ref a1), some (.int a2), some (.int x3), some (.int x4), some (.int x5), o6] [.int s0] (cells M) := by
  unfold X2_bills_b105 at h
  refine e_istore (ls' := [some (.ref 27), some (.ref a1), some (.int a2), some (.int x3), some (.int x4), some (.int x5), some (.int s0)]) hg dX2_bills_105 rfl ?_
  refine e_iload hg dX2_bills_107 rfl ?_
  refine e_ifle hg 120 dX2_bills_109 (by decide) (fun c19 => ?_) (fun c19 => ?_)
  · have h := o_pos c19 h
    refine e_aload_n hg dX2_bills_112 rfl ?_
    refine e_iload hg dX2_bills_113 rfl ?_
    refine e_iload hg dX2_bills_115 rfl ?_
    obtain ⟨u20, M21, hc22, h⟩ := o_bd h
    refine m_callVV (rest := []) (M' := M21) (ci := 9) hg mfX9_pays mvX9_pays (X9_pays_ok (r := (u20, M21)) hc22) lk_745 dX2_bills_117 ho1 rfl rfl rfl (by omega) (Nat.le_of_ble_eq_true rfl) ?_
    exact X2_bills_b120_ok hg ho1 hr  h
  · have h := o_neg c19 h
    exact X2_bills_b120_ok hg ho1 hr  h

def X2_bills_b104 (a1 : Nat) (a2 : Int32) (x3 : Int32) (x4 : Int32) (x5 : Int32) (M : mm) : Option (Unit × mm) :=
  X2_bills_b105 a1 a2 x3 x4 x5 0 M
set_option maxRecDepth 100000 in
set_option maxHeartbeats 4000000 in
theorem X2_bills_b104_ok {g : gx} (hg : EC g cX2_bills RX2 1) {a1 : Nat} {a2 : Int32} (ho1 : isO 9 a1 = true) {r : Unit × mm} (hr : RT g (none) (0, 0) none (cells r.2)) {x3 : Int32} {x4 : Int32} {x5 : Int32} {o6 : Option Value} {M : mm} (h : X2_bills_b104 a1 a2 x3 x4 x5 M = some r) : E g (0, 0) 104 [some (.ref 27), some (.ref a1), some (.int a2), some (.int x3), some (.int x4), some (.int x5), o6] [] (cells M) := by
  unfold X2_bills_b104 at h
  refine e_iconst (v := 0) hg dX2_bills_104 (by decide) ?_
  exact X2_bills_b105_ok hg ho1 hr  h

def X2_bills (a1 : Nat) (a2 : Int32) (M : mm) : Option (Unit × mm) :=
  gd (isO 9 a1) <|
  gd (inb a2 6) <|
  gd (inb a2 6) <|
  gd (inb a2 6) <|
  if (M.1 (a1 + 2) a2.toNatClampNeg) = (-2) then
    X2_bills_b48 a1 a2 (M.1 7 a2.toNatClampNeg) M
  else
    gd (inb a2 6) <|
    bd (X3_isForgotten (M.1 (a1 + 4) a2.toNatClampNeg) M) fun v13 M14 =>
    if v13 = 0 then
      if (M14.1 1 3) = 1 then
        if (M.1 (a1 + 3) a2.toNatClampNeg) = (-2) then
          X2_bills_b104 a1 a2 (M.1 (a1 + 2) a2.toNatClampNeg) (M.1 (a1 + 3) a2.toNatClampNeg) (M.1 7 a2.toNatClampNeg) M14
        else
          X2_bills_b105 a1 a2 (M.1 (a1 + 2) a2.toNatClampNeg) (M.1 (a1 + 3) a2.toNatClampNeg) (M.1 7 a2.toNatClampNeg) ((M.1 7 a2.toNatClampNeg) / 2) M14
      else
        X2_bills_b104 a1 a2 (M.1 (a1 + 2) a2.toNatClampNeg) (M.1 (a1 + 3) a2.toNatClampNeg) (M.1 7 a2.toNatClampNeg) M14
    else
      X2_bills_b48 a1 a2 (M.1 7 a2.toNatClampNeg) M14
set_option maxRecDepth 100000 in
set_option maxHeartbeats 4000000 in
theorem X2_bills_ok {a1 : Nat} {a2 : Int32} {M : mm} {r : Unit × mm} (h : X2_bills a1 a2 M = some r) : CM yX2_bills cX2_bills 7 (none) 1 [.ref 27, .ref a1, .int a2] (cells M) none (cells r.2) := by
  refine cm_of (ls := [some (.ref 27), some (.ref a1), some (.int a2), none, none, none, none]) mfX2_bills rfl (Nat.le_of_ble_eq_true rfl) (fun g hg hr => ?_)
  unfold X2_bills at h
  obtain ⟨ho1, h⟩ := o_gd h
  refine e_aload_n hg dX2_bills_0 rfl ?_
  refine m_getR (q := (a1 + 2)) hg ciX9 3 lk_322 dX2_bills_1 ho1 (Nat.le_of_ble_eq_true rfl) rfl (rfF9_3 ho1) ?_
  refine e_iload_n hg dX2_bills_4 rfl ?_
  obtain ⟨hi1, h⟩ := o_gd h
  refine m_iald hg (shF9_2 ho1) hi1 dX2_bills_5 ?_
  refine e_istore_n (ls' := [some (.ref 27), some (.ref a1), some (.int a2), some (.int (M.1 (a1 + 2) a2.toNatClampNeg)), none, none, none]) hg dX2_bills_6 rfl ?_
  refine e_aload_n hg dX2_bills_7 rfl ?_
  refine m_getR (q := (a1 + 3)) hg ciX9 4 lk_326 dX2_bills_8 ho1 (Nat.le_of_ble_eq_true rfl) rfl (rfF9_4 ho1) ?_
  refine e_iload_n hg dX2_bills_11 rfl ?_
  obtain ⟨hi2, h⟩ := o_gd h
  refine m_iald hg (shF9_3 ho1) hi2 dX2_bills_12 ?_
  refine e_istore (ls' := [some (.ref 27), some (.ref a1), some (.int a2), some (.int (M.1 (a1 + 2) a2.toNatClampNeg)), some (.int (M.1 (a1 + 3) a2.toNatClampNeg)), none, none]) hg dX2_bills_13 rfl ?_
  refine e_aload_n hg dX2_bills_15 rfl ?_
  refine m_getR (q := 1) hg ciX2 0 lk_292 dX2_bills_16 io_27 (Nat.le_of_ble_eq_true rfl) rfl rf_27_0 ?_
  refine m_getR (q := 7) hg ciX3 10 lk_129 dX2_bills_19 io_1 (Nat.le_of_ble_eq_true rfl) rfl rf_1_10 ?_
  refine e_iload_n hg dX2_bills_22 rfl ?_
  obtain ⟨hi3, h⟩ := o_gd h
  refine m_iald hg sh_7 hi3 dX2_bills_23 ?_
  refine e_istore (ls' := [some (.ref 27), some (.ref a1), some (.int a2), some (.int (M.1 (a1 + 2) a2.toNatClampNeg)), some (.int (M.1 (a1 + 3) a2.toNatClampNeg)), some (.int (M.1 7 a2.toNatClampNeg)), none]) hg dX2_bills_24 rfl ?_
  refine e_iload_n hg dX2_bills_26 rfl ?_
  refine e_bipush (v := -2) hg dX2_bills_27 (by decide) ?_
  refine e_icmpeq hg 48 dX2_bills_29 (by decide) (fun c4 => ?_) (fun c4 => ?_)
  · have h := o_pos c4 h
    exact X2_bills_b48_ok hg ho1 hr  h
  · have h := o_neg c4 h
    refine e_aload_n hg dX2_bills_32 rfl ?_
    refine m_getR (q := 1) hg ciX2 0 lk_292 dX2_bills_33 io_27 (Nat.le_of_ble_eq_true rfl) rfl rf_27_0 ?_
    refine e_aload_n hg dX2_bills_36 rfl ?_
    refine m_getR (q := (a1 + 4)) hg ciX9 5 lk_329 dX2_bills_37 ho1 (Nat.le_of_ble_eq_true rfl) rfl (rfF9_5 ho1) ?_
    refine e_iload_n hg dX2_bills_40 rfl ?_
    obtain ⟨hi12, h⟩ := o_gd h
    refine m_iald hg (shF9_4 ho1) hi12 dX2_bills_41 ?_
    obtain ⟨v13, M14, hc15, h⟩ := o_bd h
    refine m_callVI (rest := []) (v := v13) (M' := M14) (ci := 3) hg mfX3_isForgotten mvX3_isForgotten (X3_isForgotten_ok (r := (v13, M14)) hc15) lk_744 dX2_bills_42 io_1 rfl rfl rfl (by omega) (Nat.le_of_ble_eq_true rfl) ?_
    refine e_ifeq hg 79 dX2_bills_45 (by decide) (fun c16 => ?_) (fun c16 => ?_)
    · have h := o_pos c16 h
      refine e_aload_n hg dX2_bills_79 rfl ?_
      refine m_getR (q := 1) hg ciX2 0 lk_292 dX2_bills_80 io_27 (Nat.le_of_ble_eq_true rfl) rfl rf_27_0 ?_
      refine m_getI hg ciX3 3 lk_104 dX2_bills_83 io_1 (Nat.le_of_ble_eq_true rfl) rfl ?_
      refine e_iconst (v := 1) hg dX2_bills_86 (by decide) ?_
      refine e_icmpne hg 104 dX2_bills_87 (by decide) (fun c17 => ?_) (fun c17 => ?_)
      · have h := o_pos c17 h
        refine e_iload hg dX2_bills_90 rfl ?_
        refine e_bipush (v := -2) hg dX2_bills_92 (by decide) ?_
        refine e_icmpeq hg 104 dX2_bills_94 (by decide) (fun c18 => ?_) (fun c18 => ?_)
        · have h := o_pos c18 h
          exact X2_bills_b104_ok hg ho1 hr  h
        · have h := o_neg c18 h
          refine e_iload hg dX2_bills_97 rfl ?_
          refine e_iconst (v := 2) hg dX2_bills_99 (by decide) ?_
          refine e_idiv hg dX2_bills_100 (by decide) ?_
          refine e_goto hg 105 dX2_bills_101 (by decide) ?_
          exact X2_bills_b105_ok hg ho1 hr  h
      · have h := o_neg c17 h
        exact X2_bills_b104_ok hg ho1 hr  h
    · have h := o_neg c16 h
      exact X2_bills_b48_ok hg ho1 hr  h

def X2_breaks_b46 (a1 : Nat) (a2 : Int32) (M : mm) : Option (Unit × mm) :=
  bd (X2_bills a1 a2 M) fun u3 M4 =>
  bd (X9_makeWhole a1 a2 M4) fun u6 M7 =>
  some ((), M7)
set_option maxRecDepth 100000 in
set_option maxHeartbeats 4000000 in
theorem X2_breaks_b46_ok {g : gx} (hg : EC g cX2_breaks RX2 2) {a1 : Nat} {a2 : Int32} (ho1 : isO 9 a1 = true) {r : Unit × mm} (hr : RT g (none) (0, 0) none (cells r.2)) {o3 : Option Value} {M : mm} (h : X2_breaks_b46 a1 a2 M = some r) : E g (0, 0) 46 [some (.ref 27), some (.ref a1), some (.int a2), o3] [] (cells M) := by
  unfold X2_breaks_b46 at h
  refine e_aload_n hg dX2_breaks_46 rfl ?_
  refine e_aload_n hg dX2_breaks_47 rfl ?_
  refine e_iload_n hg dX2_breaks_48 rfl ?_
  obtain ⟨u3, M4, hc5, h⟩ := o_bd h
  refine m_callVV (rest := []) (M' := M4) (ci := 2) hg mfX2_bills mvX2_bills (X2_bills_ok (r := (u3, M4)) hc5) lk_740 dX2_breaks_49 io_27 rfl rfl rfl (by omega) (Nat.le_of_ble_eq_true rfl) ?_
  refine e_aload_n hg dX2_breaks_52 rfl ?_
  refine e_iload_n hg dX2_breaks_53 rfl ?_
  obtain ⟨u6, M7, hc8, h⟩ := o_bd h
  refine m_callVV (rest := []) (M' := M7) (ci := 9) hg mfX9_makeWhole mvX9_makeWhole (X9_makeWhole_ok (r := (u6, M7)) hc8) lk_749 dX2_breaks_54 ho1 rfl rfl rfl (by omega) (Nat.le_of_ble_eq_true rfl) ?_
  exact m_vret hg hr dX2_breaks_57 h

def X2_breaks (a1 : Nat) (a2 : Int32) (M : mm) : Option (Unit × mm) :=
  gd (isO 9 a1) <|
  gd (inb a2 6) <|
  if (M.1 8 a2.toNatClampNeg) = a2 then
    X2_breaks_b46 a1 a2 M
  else
    bd (X3_hasThing (M.1 8 a2.toNatClampNeg) M) fun v9 M10 =>
    if v9 = 0 then
      X2_breaks_b46 a1 a2 M10
    else
      gd (inb (M.1 8 a2.toNatClampNeg) 6) <|
      if 1 < (M10.1 (a1 + 1) (M.1 8 a2.toNatClampNeg).toNatClampNeg) then
        gd (inb (M.1 8 a2.toNatClampNeg) 6) <|
        gd (inb (M.1 8 a2.toNatClampNeg) 6) <|
        lt_ (sA M10 (a1 + 1) (upd (M10.1 (a1 + 1)) (M.1 8 a2.toNatClampNeg).toNatClampNeg ((M10.1 (a1 + 1) (M.1 8 a2.toNatClampNeg).toNatClampNeg) - 1))) fun M17 =>
        X2_breaks_b46 a1 a2 M17
      else
        X2_breaks_b46 a1 a2 M10
set_option maxRecDepth 100000 in
set_option maxHeartbeats 4000000 in
theorem X2_breaks_ok {a1 : Nat} {a2 : Int32} {M : mm} {r : Unit × mm} (h : X2_breaks a1 a2 M = some r) : CM yX2_breaks cX2_breaks 4 (none) 2 [.ref 27, .ref a1, .int a2] (cells M) none (cells r.2) := by
  refine cm_of (ls := [some (.ref 27), some (.ref a1), some (.int a2), none]) mfX2_breaks rfl (Nat.le_of_ble_eq_true rfl) (fun g hg hr => ?_)
  unfold X2_breaks at h
  obtain ⟨ho1, h⟩ := o_gd h
  refine e_aload_n hg dX2_breaks_0 rfl ?_
  refine m_getR (q := 1) hg ciX2 0 lk_292 dX2_breaks_1 io_27 (Nat.le_of_ble_eq_true rfl) rfl rf_27_0 ?_
  refine m_getR (q := 8) hg ciX3 11 lk_133 dX2_breaks_4 io_1 (Nat.le_of_ble_eq_true rfl) rfl rf_1_11 ?_
  refine e_iload_n hg dX2_breaks_7 rfl ?_
  obtain ⟨hi1, h⟩ := o_gd h
  refine m_iald hg sh_8 hi1 dX2_breaks_8 ?_
  refine e_istore_n (ls' := [some (.ref 27), some (.ref a1), some (.int a2), some (.int (M.1 8 a2.toNatClampNeg))]) hg dX2_breaks_9 rfl ?_
  refine e_iload_n hg dX2_breaks_10 rfl ?_
  refine e_iload_n hg dX2_breaks_11 rfl ?_
  refine e_icmpeq hg 46 dX2_breaks_12 (by decide) (fun c2 => ?_) (fun c2 => ?_)
  · have h := o_pos c2 h
    exact X2_breaks_b46_ok hg ho1 hr  h
  · have h := o_neg c2 h
    refine e_aload_n hg dX2_breaks_15 rfl ?_
    refine m_getR (q := 1) hg ciX2 0 lk_292 dX2_breaks_16 io_27 (Nat.le_of_ble_eq_true rfl) rfl rf_27_0 ?_
    refine e_iload_n hg dX2_breaks_19 rfl ?_
    obtain ⟨v9, M10, hc11, h⟩ := o_bd h
    refine m_callVI (rest := []) (v := v9) (M' := M10) (ci := 3) hg mfX3_hasThing mvX3_hasThing (X3_hasThing_ok (r := (v9, M10)) hc11) lk_739 dX2_breaks_20 io_1 rfl rfl rfl (by omega) (Nat.le_of_ble_eq_true rfl) ?_
    refine e_ifeq hg 46 dX2_breaks_23 (by decide) (fun c12 => ?_) (fun c12 => ?_)
    · have h := o_pos c12 h
      exact X2_breaks_b46_ok hg ho1 hr  h
    · have h := o_neg c12 h
      refine e_aload_n hg dX2_breaks_26 rfl ?_
      refine m_getR (q := (a1 + 1)) hg ciX9 2 lk_318 dX2_breaks_27 ho1 (Nat.le_of_ble_eq_true rfl) rfl (rfF9_2 ho1) ?_
      refine e_iload_n hg dX2_breaks_30 rfl ?_
      obtain ⟨hi13, h⟩ := o_gd h
      refine m_iald hg (shF9_1 ho1) hi13 dX2_breaks_31 ?_
      refine e_iconst (v := 1) hg dX2_breaks_32 (by decide) ?_
      refine e_icmple hg 46 dX2_breaks_33 (by decide) (fun c14 => ?_) (fun c14 => ?_)
      · have h := o_pos c14 h
        refine e_aload_n hg dX2_breaks_36 rfl ?_
        refine m_getR (q := (a1 + 1)) hg ciX9 2 lk_318 dX2_breaks_37 ho1 (Nat.le_of_ble_eq_true rfl) rfl (rfF9_2 ho1) ?_
        refine e_iload_n hg dX2_breaks_40 rfl ?_
        refine e_dup2 hg dX2_breaks_41 rfl rfl ?_
        obtain ⟨hi15, h⟩ := o_gd h
        refine m_iald hg (shF9_1 ho1) hi15 dX2_breaks_42 ?_
        refine e_iconst (v := 1) hg dX2_breaks_43 (by decide) ?_
        refine e_isub hg dX2_breaks_44 ?_
        obtain ⟨hi16, h⟩ := o_gd h
        obtain ⟨M17, hM17, h⟩ := o_lt h
        refine m_iast hg (shF9_1 ho1) hi16 dX2_breaks_45 ?_
        rw [← hM17]
        exact X2_breaks_b46_ok hg ho1 hr  h
      · have h := o_neg c14 h
        exact X2_breaks_b46_ok hg ho1 hr  h

def X2_year_b99 (a1 : Nat) (R2 : Int32 → mm → Option (Int32 × mm)) (K105 : mm → Option (Int32 × mm)) (x2 : Int32) (M : mm) : Option (Int32 × mm) :=
  R2 (x2 + 1) M
set_option maxRecDepth 100000 in
set_option maxHeartbeats 4000000 in
theorem X2_year_b99_ok {g : gx} (hg : EC g cX2_year RX2 6) {a1 : Nat} (ho1 : isO 9 a1 = true) {r : Int32 × mm} (hr : RT g (some .int) (0, 0) (some (.int r.1)) (cells r.2)) {R2 : Int32 → mm → Option (Int32 × mm)} (hR2 : ∀ (x2 : Int32) (o3 : Option Value) (o4 : Option Value) (o5 : Option Value) (M : mm), R2 x2 M = some r → E g (0, 0) 2 [some (.ref 27), some (.ref a1), some (.int x2), o3, o4, o5] [] (cells M)) {K105 : mm → Option (Int32 × mm)} (hK105 : ∀ (o2 : Option Value) (o3 : Option Value) (o4 : Option Value) (o5 : Option Value) (M : mm), K105 M = some r → E g (0, 0) 105 [some (.ref 27), some (.ref a1), o2, o3, o4, o5] [] (cells M)) {x2 : Int32} {o3 : Option Value} {o4 : Option Value} {o5 : Option Value} {M : mm} (h : X2_year_b99 a1 R2 K105 x2 M = some r) : E g (0, 0) 99 [some (.ref 27), some (.ref a1), some (.int x2), o3, o4, o5] [] (cells M) := by
  unfold X2_year_b99 at h
  refine e_iinc (v := (x2 + 1)) (ls' := [some (.ref 27), some (.ref a1), some (.int (x2 + 1)), o3, o4, o5]) hg dX2_year_99 rfl rfl rfl ?_
  refine e_goto hg 2 dX2_year_102 (by decide) ?_
  exact hR2 _ _ _ _ _ h

def X2_year_b68 (a1 : Nat) (R2 : Int32 → mm → Option (Int32 × mm)) (K105 : mm → Option (Int32 × mm)) (x2 : Int32) (x3 : Int32) (s0 : Int32) (M : mm) : Option (Int32 × mm) :=
  if s0 = 0 then
    X2_year_b99 a1 R2 K105 x2 M
  else
    gd (inb x3 5) <|
    gd (inb x3 5) <|
    bd (X9_mendedBy a1 x2 x3 (M.1 2 x3.toNatClampNeg) (M.1 3 x3.toNatClampNeg) M) fun u11 M12 =>
    X2_year_b99 a1 R2 K105 x2 M12
set_option maxRecDepth 100000 in
set_option maxHeartbeats 4000000 in
theorem X2_year_b68_ok {g : gx} (hg : EC g cX2_year RX2 6) {a1 : Nat} (ho1 : isO 9 a1 = true) {r : Int32 × mm} (hr : RT g (some .int) (0, 0) (some (.int r.1)) (cells r.2)) {R2 : Int32 → mm → Option (Int32 × mm)} (hR2 : ∀ (x2 : Int32) (o3 : Option Value) (o4 : Option Value) (o5 : Option Value) (M : mm), R2 x2 M = some r → E g (0, 0) 2 [some (.ref 27), some (.ref a1), some (.int x2), o3, o4, o5] [] (cells M)) {K105 : mm → Option (Int32 × mm)} (hK105 : ∀ (o2 : Option Value) (o3 : Option Value) (o4 : Option Value) (o5 : Option Value) (M : mm), K105 M = some r → E g (0, 0) 105 [some (.ref 27), some (.ref a1), o2, o3, o4, o5] [] (cells M)) {x2 : Int32} {x3 : Int32} {s0 : Int32} {o4 : Option Value} {o5 : Option Value} {M : mm} (h : X2_year_b68 a1 R2 K105 x2 x3 s0 M = some r) : E g (0, 0) 68 [some (.ref 27), some (.ref a1), some (.int x2), some (.int x3), o4, o5] [.int s0] (cells M) := by
  unfold X2_year_b68 at h
  refine e_drop (ls2 := [some (.ref 27), some (.ref a1), some (.int x2), some (.int x3), none, o5]) 4 rfl ?_
  refine e_istore (ls' := [some (.ref 27), some (.ref a1), some (.int x2), some (.int x3), none, some (.int s0)]) hg dX2_year_68 rfl ?_
  refine e_iload hg dX2_year_70 rfl ?_
  refine e_ifeq hg 99 dX2_year_72 (by decide) (fun c8 => ?_) (fun c8 => ?_)
  · have h := o_pos c8 h
    exact X2_year_b99_ok hg ho1 hr hR2 hK105 h
  · have h := o_neg c8 h
    refine e_aload_n hg dX2_year_75 rfl ?_
    refine e_iload_n hg dX2_year_76 rfl ?_
    refine e_iload_n hg dX2_year_77 rfl ?_
    refine e_aload_n hg dX2_year_78 rfl ?_
    refine m_getR (q := 1) hg ciX2 0 lk_292 dX2_year_79 io_27 (Nat.le_of_ble_eq_true rfl) rfl rf_27_0 ?_
    refine m_getR (q := 2) hg ciX3 5 lk_110 dX2_year_82 io_1 (Nat.le_of_ble_eq_true rfl) rfl rf_1_5 ?_
    refine e_iload_n hg dX2_year_85 rfl ?_
    obtain ⟨hi9, h⟩ := o_gd h
    refine m_iald hg sh_2 hi9 dX2_year_86 ?_
    refine e_aload_n hg dX2_year_87 rfl ?_
    refine m_getR (q := 1) hg ciX2 0 lk_292 dX2_year_88 io_27 (Nat.le_of_ble_eq_true rfl) rfl rf_27_0 ?_
    refine m_getR (q := 3) hg ciX3 6 lk_115 dX2_year_91 io_1 (Nat.le_of_ble_eq_true rfl) rfl rf_1_6 ?_
    refine e_iload_n hg dX2_year_94 rfl ?_
    obtain ⟨hi10, h⟩ := o_gd h
    refine m_iald hg sh_3 hi10 dX2_year_95 ?_
    obtain ⟨u11, M12, hc13, h⟩ := o_bd h
    refine m_callVV (rest := []) (M' := M12) (ci := 9) hg mfX9_mendedBy mvX9_mendedBy (X9_mendedBy_ok (r := (u11, M12)) hc13) lk_732 dX2_year_96 ho1 rfl rfl rfl (by omega) (Nat.le_of_ble_eq_true rfl) ?_
    exact X2_year_b99_ok hg ho1 hr hR2 hK105 h

def X2_year_L2 (a1 : Nat) (K105 : mm → Option (Int32 × mm)) : Nat → Int32 → mm → Option (Int32 × mm)
  | 0, _, _ => none
  | n_ + 1, x2, M =>
    if x2 < (M.1 1 1) then
      gd (inb x2 6) <|
      gd (inb (M.1 5 x2.toNatClampNeg) 5) <|
      if (M.1 4 (M.1 5 x2.toNatClampNeg).toNatClampNeg) = 4 then
        bd (X4_mendsInDeed a1 x2 M) fun v5 M6 =>
        X2_year_b68 a1 (X2_year_L2 a1 K105 n_) K105 x2 (M.1 5 x2.toNatClampNeg) v5 M6
      else
        gd (inb x2 6) <|
        X2_year_b68 a1 (X2_year_L2 a1 K105 n_) K105 x2 (M.1 5 x2.toNatClampNeg) (if (M.1 4 (M.1 5 x2.toNatClampNeg).toNatClampNeg) < (M.1 (a1 + 1) x2.toNatClampNeg) then 0 else 1) M
    else
      K105 M
set_option maxRecDepth 100000 in
set_option maxHeartbeats 4000000 in
theorem X2_year_L2_ok {g : gx} (hg : EC g cX2_year RX2 6) {a1 : Nat} (ho1 : isO 9 a1 = true) {r : Int32 × mm} (hr : RT g (some .int) (0, 0) (some (.int r.1)) (cells r.2)) {K105 : mm → Option (Int32 × mm)} (hK105 : ∀ (o2 : Option Value) (o3 : Option Value) (o4 : Option Value) (o5 : Option Value) (M : mm), K105 M = some r → E g (0, 0) 105 [some (.ref 27), some (.ref a1), o2, o3, o4, o5] [] (cells M)) : ∀ (n_ : Nat) (x2 : Int32) (o3 : Option Value) (o4 : Option Value) (o5 : Option Value) (M : mm), X2_year_L2 a1 K105 n_ x2 M = some r → E g (0, 0) 2 [some (.ref 27), some (.ref a1), some (.int x2), o3, o4, o5] [] (cells M) := by
  intro n_
  induction n_ with
  | zero => intro x2 o3 o4 o5 M h; exact o_no h
  | succ n_ ih =>
    intro x2 o3 o4 o5 M h
    rw [X2_year_L2] at h
    refine e_iload_n hg dX2_year_2 rfl ?_
    refine e_aload_n hg dX2_year_3 rfl ?_
    refine m_getR (q := 1) hg ciX2 0 lk_292 dX2_year_4 io_27 (Nat.le_of_ble_eq_true rfl) rfl rf_27_0 ?_
    refine m_getI hg ciX3 1 lk_99 dX2_year_7 io_1 (Nat.le_of_ble_eq_true rfl) rfl ?_
    refine e_icmpge hg 105 dX2_year_10 (by decide) (fun c1 => ?_) (fun c1 => ?_)
    · have h := o_pos c1 h
      refine e_aload_n hg dX2_year_13 rfl ?_
      refine m_getR (q := 1) hg ciX2 0 lk_292 dX2_year_14 io_27 (Nat.le_of_ble_eq_true rfl) rfl rf_27_0 ?_
      refine m_getR (q := 5) hg ciX3 8 lk_121 dX2_year_17 io_1 (Nat.le_of_ble_eq_true rfl) rfl rf_1_8 ?_
      refine e_iload_n hg dX2_year_20 rfl ?_
      obtain ⟨hi2, h⟩ := o_gd h
      refine m_iald hg sh_5 hi2 dX2_year_21 ?_
      refine e_istore_n (ls' := [some (.ref 27), some (.ref a1), some (.int x2), some (.int (M.1 5 x2.toNatClampNeg)), o4, o5]) hg dX2_year_22 rfl ?_
      refine e_aload_n hg dX2_year_23 rfl ?_
      refine m_getR (q := 1) hg ciX2 0 lk_292 dX2_year_24 io_27 (Nat.le_of_ble_eq_true rfl) rfl rf_27_0 ?_
      refine m_getR (q := 4) hg ciX3 7 lk_118 dX2_year_27 io_1 (Nat.le_of_ble_eq_true rfl) rfl rf_1_7 ?_
      refine e_iload_n hg dX2_year_30 rfl ?_
      obtain ⟨hi3, h⟩ := o_gd h
      refine m_iald hg sh_4 hi3 dX2_year_31 ?_
      refine e_istore (ls' := [some (.ref 27), some (.ref a1), some (.int x2), some (.int (M.1 5 x2.toNatClampNeg)), some (.int (M.1 4 (M.1 5 x2.toNatClampNeg).toNatClampNeg)), o5]) hg dX2_year_32 rfl ?_
      refine e_iload hg dX2_year_34 rfl ?_
      refine e_iconst (v := 4) hg dX2_year_36 (by decide) ?_
      refine e_icmpne hg 52 dX2_year_37 (by decide) (fun c4 => ?_) (fun c4 => ?_)
      · have h := o_pos c4 h
        refine e_aload_n hg dX2_year_40 rfl ?_
        refine m_getR (q := 21) hg ciX2 2 lk_294 dX2_year_41 io_27 (Nat.le_of_ble_eq_true rfl) rfl rf_27_2 ?_
        refine e_aload_n hg dX2_year_44 rfl ?_
        refine e_iload_n hg dX2_year_45 rfl ?_
        obtain ⟨v5, M6, hc7, h⟩ := o_bd h
        refine m_callVI (rest := []) (v := v5) (M' := M6) (ci := 4) hg mfX4_mendsInDeed mvX4_mendsInDeed (X4_mendsInDeed_ok (r := (v5, M6)) hc7) lk_681 dX2_year_46 io_21 rfl rfl rfl (by omega) (Nat.le_of_ble_eq_true rfl) ?_
        refine e_goto hg 68 dX2_year_49 (by decide) ?_
        exact X2_year_b68_ok hg ho1 hr ih hK105 h
      · have h := o_neg c4 h
        refine e_aload_n hg dX2_year_52 rfl ?_
        refine m_getR (q := (a1 + 1)) hg ciX9 2 lk_318 dX2_year_53 ho1 (Nat.le_of_ble_eq_true rfl) rfl (rfF9_2 ho1) ?_
        refine e_iload_n hg dX2_year_56 rfl ?_
        obtain ⟨hi14, h⟩ := o_gd h
        refine m_iald hg (shF9_1 ho1) hi14 dX2_year_57 ?_
        refine e_iload hg dX2_year_58 rfl ?_
        refine e_icmpgt hg 67 dX2_year_60 (by decide) (fun c15 => ?_) (fun c15 => ?_)
        · simp only [if_pos c15] at h
          refine e_iconst (v := 0) hg dX2_year_67 (by decide) ?_
          exact X2_year_b68_ok hg ho1 hr ih hK105 h
        · simp only [if_neg c15] at h
          refine e_iconst (v := 1) hg dX2_year_63 (by decide) ?_
          refine e_goto hg 68 dX2_year_64 (by decide) ?_
          exact X2_year_b68_ok hg ho1 hr ih hK105 h
    · have h := o_neg c1 h
      exact hK105 _ _ _ _ _ h

def X2_year_b192 (a1 : Nat) (R107 : Int32 → mm → Option (Int32 × mm)) (K198 : mm → Option (Int32 × mm)) (x2 : Int32) (M : mm) : Option (Int32 × mm) :=
  R107 (x2 + 1) M
set_option maxRecDepth 100000 in
set_option maxHeartbeats 4000000 in
theorem X2_year_b192_ok {g : gx} (hg : EC g cX2_year RX2 6) {a1 : Nat} (ho1 : isO 9 a1 = true) {r : Int32 × mm} (hr : RT g (some .int) (0, 0) (some (.int r.1)) (cells r.2)) {R107 : Int32 → mm → Option (Int32 × mm)} (hR107 : ∀ (x2 : Int32) (o3 : Option Value) (o4 : Option Value) (o5 : Option Value) (M : mm), R107 x2 M = some r → E g (0, 0) 107 [some (.ref 27), some (.ref a1), some (.int x2), o3, o4, o5] [] (cells M)) {K198 : mm → Option (Int32 × mm)} (hK198 : ∀ (o2 : Option Value) (o3 : Option Value) (o4 : Option Value) (o5 : Option Value) (M : mm), K198 M = some r → E g (0, 0) 198 [some (.ref 27), some (.ref a1), o2, o3, o4, o5] [] (cells M)) {x2 : Int32} {o3 : Option Value} {o4 : Option Value} {o5 : Option Value} {M : mm} (h : X2_year_b192 a1 R107 K198 x2 M = some r) : E g (0, 0) 192 [some (.ref 27), some (.ref a1), some (.int x2), o3, o4, o5] [] (cells M) := by
  unfold X2_year_b192 at h
  refine e_iinc (v := (x2 + 1)) (ls' := [some (.ref 27), some (.ref a1), some (.int (x2 + 1)), o3, o4, o5]) hg dX2_year_192 rfl rfl rfl ?_
  refine e_goto hg 107 dX2_year_195 (by decide) ?_
  exact hR107 _ _ _ _ _ h

def X2_year_b176 (a1 : Nat) (R107 : Int32 → mm → Option (Int32 × mm)) (K198 : mm → Option (Int32 × mm)) (x2 : Int32) (s0 : Int32) (s2 : Int32) (s3 : Int32) (s4 : Int32) (s5 : Int32) (M : mm) : Option (Int32 × mm) :=
  bd (X8_number s2 s3 s4 s5 M) fun v22 M23 =>
  if s0 < v22 then
    gd (inb x2 6) <|
    gd (inb x2 6) <|
    lt_ (sA M23 (a1 + 1) (upd (M23.1 (a1 + 1)) x2.toNatClampNeg ((M23.1 (a1 + 1) x2.toNatClampNeg) - 1))) fun M28 =>
    X2_year_b192 a1 R107 K198 x2 M28
  else
    X2_year_b192 a1 R107 K198 x2 M23
set_option maxRecDepth 100000 in
set_option maxHeartbeats 4000000 in
theorem X2_year_b176_ok {g : gx} (hg : EC g cX2_year RX2 6) {a1 : Nat} (ho1 : isO 9 a1 = true) {r : Int32 × mm} (hr : RT g (some .int) (0, 0) (some (.int r.1)) (cells r.2)) {R107 : Int32 → mm → Option (Int32 × mm)} (hR107 : ∀ (x2 : Int32) (o3 : Option Value) (o4 : Option Value) (o5 : Option Value) (M : mm), R107 x2 M = some r → E g (0, 0) 107 [some (.ref 27), some (.ref a1), some (.int x2), o3, o4, o5] [] (cells M)) {K198 : mm → Option (Int32 × mm)} (hK198 : ∀ (o2 : Option Value) (o3 : Option Value) (o4 : Option Value) (o5 : Option Value) (M : mm), K198 M = some r → E g (0, 0) 198 [some (.ref 27), some (.ref a1), o2, o3, o4, o5] [] (cells M)) {x2 : Int32} {s0 : Int32} {s2 : Int32} {s3 : Int32} {s4 : Int32} {s5 : Int32} {o3 : Option Value} {o4 : Option Value} {o5 : Option Value} {M : mm} (h : X2_year_b176 a1 R107 K198 x2 s0 s2 s3 s4 s5 M = some r) : E g (0, 0) 176 [some (.ref 27), some (.ref a1), some (.int x2), o3, o4, o5] [.int s5, .int s4, .int s3, .int s2, .ref 9, .int s0] (cells M) := by
  unfold X2_year_b176 at h
  obtain ⟨v22, M23, hc24, h⟩ := o_bd h
  refine m_callVI (rest := [.int s0]) (v := v22) (M' := M23) (ci := 8) hg mfX8_number mvX8_number (X8_number_ok (r := (v22, M23)) hc24) lk_734 dX2_year_176 io_9 rfl rfl rfl (by omega) (Nat.le_of_ble_eq_true rfl) ?_
  refine e_icmpge hg 192 dX2_year_179 (by decide) (fun c25 => ?_) (fun c25 => ?_)
  · have h := o_pos c25 h
    refine e_aload_n hg dX2_year_182 rfl ?_
    refine m_getR (q := (a1 + 1)) hg ciX9 2 lk_318 dX2_year_183 ho1 (Nat.le_of_ble_eq_true rfl) rfl (rfF9_2 ho1) ?_
    refine e_iload_n hg dX2_year_186 rfl ?_
    refine e_dup2 hg dX2_year_187 rfl rfl ?_
    obtain ⟨hi26, h⟩ := o_gd h
    refine m_iald hg (shF9_1 ho1) hi26 dX2_year_188 ?_
    refine e_iconst (v := 1) hg dX2_year_189 (by decide) ?_
    refine e_isub hg dX2_year_190 ?_
    obtain ⟨hi27, h⟩ := o_gd h
    obtain ⟨M28, hM28, h⟩ := o_lt h
    refine m_iast hg (shF9_1 ho1) hi27 dX2_year_191 ?_
    rw [← hM28]
    exact X2_year_b192_ok hg ho1 hr hR107 hK198 h
  · have h := o_neg c25 h
    exact X2_year_b192_ok hg ho1 hr hR107 hK198 h

def X2_year_L107 (a1 : Nat) (K198 : mm → Option (Int32 × mm)) : Nat → Int32 → mm → Option (Int32 × mm)
  | 0, _, _ => none
  | n_ + 1, x2, M =>
    if x2 < (M.1 1 1) then
      lt_ (sA M 27 (upd (M.1 27) 3 (((M.1 27 3) * 1103515245) + 12345))) fun M17 =>
      gd (inb x2 6) <|
      gd (inb x2 6) <|
      gd (inb x2 6) <|
      X2_year_b176 a1 (X2_year_L107 a1 K198 n_) K198 x2 (((M17.1 27 3).toUInt32 >>> ((8 : Int32).toUInt32 &&& Int32.toUInt32 31)).toInt32 - ((M17.1 27 3).toUInt32 >>> ((8 : Int32).toUInt32 &&& Int32.toUInt32 31)).toInt32 / 12 * 12) x2 (M17.1 (a1 + 1) x2.toNatClampNeg) (M17.1 (a1 + 4) x2.toNatClampNeg) (if (M17.1 (a1 + 2) x2.toNatClampNeg) = (-2) then 0 else 1) M17
    else
      K198 M
set_option maxRecDepth 100000 in
set_option maxHeartbeats 4000000 in
theorem X2_year_L107_ok {g : gx} (hg : EC g cX2_year RX2 6) {a1 : Nat} (ho1 : isO 9 a1 = true) {r : Int32 × mm} (hr : RT g (some .int) (0, 0) (some (.int r.1)) (cells r.2)) {K198 : mm → Option (Int32 × mm)} (hK198 : ∀ (o2 : Option Value) (o3 : Option Value) (o4 : Option Value) (o5 : Option Value) (M : mm), K198 M = some r → E g (0, 0) 198 [some (.ref 27), some (.ref a1), o2, o3, o4, o5] [] (cells M)) : ∀ (n_ : Nat) (x2 : Int32) (o3 : Option Value) (o4 : Option Value) (o5 : Option Value) (M : mm), X2_year_L107 a1 K198 n_ x2 M = some r → E g (0, 0) 107 [some (.ref 27), some (.ref a1), some (.int x2), o3, o4, o5] [] (cells M) := by
  intro n_
  induction n_ with
  | zero => intro x2 o3 o4 o5 M h; exact o_no h
  | succ n_ ih =>
    intro x2 o3 o4 o5 M h
    rw [X2_year_L107] at h
    refine e_iload_n hg dX2_year_107 rfl ?_
    refine e_aload_n hg dX2_year_108 rfl ?_
    refine m_getR (q := 1) hg ciX2 0 lk_292 dX2_year_109 io_27 (Nat.le_of_ble_eq_true rfl) rfl rf_27_0 ?_
    refine m_getI hg ciX3 1 lk_99 dX2_year_112 io_1 (Nat.le_of_ble_eq_true rfl) rfl ?_
    refine e_icmpge hg 198 dX2_year_115 (by decide) (fun c16 => ?_) (fun c16 => ?_)
    · have h := o_pos c16 h
      refine e_aload_n hg dX2_year_118 rfl ?_
      refine e_aload_n hg dX2_year_119 rfl ?_
      refine m_getI hg ciX2 3 lk_295 dX2_year_120 io_27 (Nat.le_of_ble_eq_true rfl) rfl ?_
      refine e_ldc hg dX2_year_123 lk_733 ?_
      refine e_imul hg dX2_year_125 ?_
      refine e_sipush (v := 12345) hg dX2_year_126 (by decide) ?_
      refine e_iadd hg dX2_year_129 ?_
      obtain ⟨M17, hM17, h⟩ := o_lt h
      refine m_putI hg ciX2 3 lk_295 dX2_year_130 io_27 (Nat.le_of_ble_eq_true rfl) rfl rfl rfl rfl ?_
      rw [← hM17]
      refine e_aload_n hg dX2_year_133 rfl ?_
      refine m_getI hg ciX2 3 lk_295 dX2_year_134 io_27 (Nat.le_of_ble_eq_true rfl) rfl ?_
      refine e_bipush (v := 8) hg dX2_year_137 (by decide) ?_
      refine e_iushr hg dX2_year_139 ?_
      refine e_bipush (v := 12) hg dX2_year_140 (by decide) ?_
      refine e_irem hg dX2_year_142 (by decide) ?_
      refine e_aload_n hg dX2_year_143 rfl ?_
      refine m_getR (q := 9) hg ciX2 1 lk_293 dX2_year_144 io_27 (Nat.le_of_ble_eq_true rfl) rfl rf_27_1 ?_
      refine e_iload_n hg dX2_year_147 rfl ?_
      refine e_aload_n hg dX2_year_148 rfl ?_
      refine m_getR (q := (a1 + 1)) hg ciX9 2 lk_318 dX2_year_149 ho1 (Nat.le_of_ble_eq_true rfl) rfl (rfF9_2 ho1) ?_
      refine e_iload_n hg dX2_year_152 rfl ?_
      obtain ⟨hi18, h⟩ := o_gd h
      refine m_iald hg (shF9_1 ho1) hi18 dX2_year_153 ?_
      refine e_aload_n hg dX2_year_154 rfl ?_
      refine m_getR (q := (a1 + 4)) hg ciX9 5 lk_329 dX2_year_155 ho1 (Nat.le_of_ble_eq_true rfl) rfl (rfF9_5 ho1) ?_
      refine e_iload_n hg dX2_year_158 rfl ?_
      obtain ⟨hi19, h⟩ := o_gd h
      refine m_iald hg (shF9_4 ho1) hi19 dX2_year_159 ?_
      refine e_aload_n hg dX2_year_160 rfl ?_
      refine m_getR (q := (a1 + 2)) hg ciX9 3 lk_322 dX2_year_161 ho1 (Nat.le_of_ble_eq_true rfl) rfl (rfF9_3 ho1) ?_
      refine e_iload_n hg dX2_year_164 rfl ?_
      obtain ⟨hi20, h⟩ := o_gd h
      refine m_iald hg (shF9_2 ho1) hi20 dX2_year_165 ?_
      refine e_bipush (v := -2) hg dX2_year_166 (by decide) ?_
      refine e_icmpeq hg 175 dX2_year_168 (by decide) (fun c21 => ?_) (fun c21 => ?_)
      · simp only [if_pos c21] at h
        refine e_iconst (v := 0) hg dX2_year_175 (by decide) ?_
        exact X2_year_b176_ok hg ho1 hr ih hK198 h
      · simp only [if_neg c21] at h
        refine e_iconst (v := 1) hg dX2_year_171 (by decide) ?_
        refine e_goto hg 176 dX2_year_172 (by decide) ?_
        exact X2_year_b176_ok hg ho1 hr ih hK198 h
    · have h := o_neg c16 h
      exact hK198 _ _ _ _ _ h

def X2_year_b287 (a1 : Nat) (R202 : Int32 → Int32 → mm → Option (Int32 × mm)) (K293 : Int32 → mm → Option (Int32 × mm)) (x2 : Int32) (x3 : Int32) (M : mm) : Option (Int32 × mm) :=
  R202 x2 (x3 + 1) M
set_option maxRecDepth 100000 in
set_option maxHeartbeats 4000000 in
theorem X2_year_b287_ok {g : gx} (hg : EC g cX2_year RX2 6) {a1 : Nat} (ho1 : isO 9 a1 = true) {r : Int32 × mm} (hr : RT g (some .int) (0, 0) (some (.int r.1)) (cells r.2)) {R202 : Int32 → Int32 → mm → Option (Int32 × mm)} (hR202 : ∀ (x2 : Int32) (x3 : Int32) (o4 : Option Value) (o5 : Option Value) (M : mm), R202 x2 x3 M = some r → E g (0, 0) 202 [some (.ref 27), some (.ref a1), some (.int x2), some (.int x3), o4, o5] [] (cells M)) {K293 : Int32 → mm → Option (Int32 × mm)} (hK293 : ∀ (x2 : Int32) (o3 : Option Value) (o4 : Option Value) (o5 : Option Value) (M : mm), K293 x2 M = some r → E g (0, 0) 293 [some (.ref 27), some (.ref a1), some (.int x2), o3, o4, o5] [] (cells M)) {x2 : Int32} {x3 : Int32} {o4 : Option Value} {o5 : Option Value} {M : mm} (h : X2_year_b287 a1 R202 K293 x2 x3 M = some r) : E g (0, 0) 287 [some (.ref 27), some (.ref a1), some (.int x2), some (.int x3), o4, o5] [] (cells M) := by
  unfold X2_year_b287 at h
  refine e_iinc (v := (x3 + 1)) (ls' := [some (.ref 27), some (.ref a1), some (.int x2), some (.int (x3 + 1)), o4, o5]) hg dX2_year_287 rfl rfl rfl ?_
  refine e_goto hg 202 dX2_year_290 (by decide) ?_
  exact hR202 _ _ _ _ _ h

def X2_year_L202 (a1 : Nat) (K293 : Int32 → mm → Option (Int32 × mm)) : Nat → Int32 → Int32 → mm → Option (Int32 × mm)
  | 0, _, _, _ => none
  | n_ + 1, x2, x3, M =>
    if x3 < (M.1 1 1) then
      gd (inb x3 6) <|
      if 0 < (M.1 (a1 + 1) x3.toNatClampNeg) then
        gd (inb x3 6) <|
        gd (inb (M.1 5 x3.toNatClampNeg) 5) <|
        gd (inb x3 6) <|
        gd (inb (M.1 5 x3.toNatClampNeg) 5) <|
        lt_ (sA M (a1 + 7) (upd (M.1 (a1 + 7)) (M.1 5 x3.toNatClampNeg).toNatClampNeg ((M.1 (a1 + 7) (M.1 5 x3.toNatClampNeg).toNatClampNeg) + (M.1 6 x3.toNatClampNeg)))) fun M36 =>
        gd (inb x3 6) <|
        gd (inb x3 6) <|
        lt_ (sA M36 (a1 + 4) (upd (M36.1 (a1 + 4)) x3.toNatClampNeg (if 99 < ((M36.1 (a1 + 4) x3.toNatClampNeg) + 1) then 99 else ((M36.1 (a1 + 4) x3.toNatClampNeg) + 1)))) fun M39 =>
        gd (inb x3 6) <|
        lt_ (sA M39 (a1 + 10) (upd (M39.1 (a1 + 10)) x3.toNatClampNeg (-2))) fun M41 =>
        X2_year_b287 a1 (X2_year_L202 a1 K293 n_) K293 x2 x3 M41
      else
        bd (X2_breaks a1 x3 M) fun u42 M43 =>
        X2_year_b287 a1 (X2_year_L202 a1 K293 n_) K293 (x2 + 1) x3 M43
    else
      K293 x2 M
set_option maxRecDepth 100000 in
set_option maxHeartbeats 4000000 in
theorem X2_year_L202_ok {g : gx} (hg : EC g cX2_year RX2 6) {a1 : Nat} (ho1 : isO 9 a1 = true) {r : Int32 × mm} (hr : RT g (some .int) (0, 0) (some (.int r.1)) (cells r.2)) {K293 : Int32 → mm → Option (Int32 × mm)} (hK293 : ∀ (x2 : Int32) (o3 : Option Value) (o4 : Option Value) (o5 : Option Value) (M : mm), K293 x2 M = some r → E g (0, 0) 293 [some (.ref 27), some (.ref a1), some (.int x2), o3, o4, o5] [] (cells M)) : ∀ (n_ : Nat) (x2 : Int32) (x3 : Int32) (o4 : Option Value) (o5 : Option Value) (M : mm), X2_year_L202 a1 K293 n_ x2 x3 M = some r → E g (0, 0) 202 [some (.ref 27), some (.ref a1), some (.int x2), some (.int x3), o4, o5] [] (cells M) := by
  intro n_
  induction n_ with
  | zero => intro x2 x3 o4 o5 M h; exact o_no h
  | succ n_ ih =>
    intro x2 x3 o4 o5 M h
    rw [X2_year_L202] at h
    refine e_iload_n hg dX2_year_202 rfl ?_
    refine e_aload_n hg dX2_year_203 rfl ?_
    refine m_getR (q := 1) hg ciX2 0 lk_292 dX2_year_204 io_27 (Nat.le_of_ble_eq_true rfl) rfl rf_27_0 ?_
    refine m_getI hg ciX3 1 lk_99 dX2_year_207 io_1 (Nat.le_of_ble_eq_true rfl) rfl ?_
    refine e_icmpge hg 293 dX2_year_210 (by decide) (fun c29 => ?_) (fun c29 => ?_)
    · have h := o_pos c29 h
      refine e_aload_n hg dX2_year_213 rfl ?_
      refine m_getR (q := (a1 + 1)) hg ciX9 2 lk_318 dX2_year_214 ho1 (Nat.le_of_ble_eq_true rfl) rfl (rfF9_2 ho1) ?_
      refine e_iload_n hg dX2_year_217 rfl ?_
      obtain ⟨hi30, h⟩ := o_gd h
      refine m_iald hg (shF9_1 ho1) hi30 dX2_year_218 ?_
      refine e_ifgt hg 234 dX2_year_219 (by decide) (fun c31 => ?_) (fun c31 => ?_)
      · have h := o_pos c31 h
        refine e_aload_n hg dX2_year_234 rfl ?_
        refine m_getR (q := (a1 + 7)) hg ciX9 8 lk_336 dX2_year_235 ho1 (Nat.le_of_ble_eq_true rfl) rfl (rfF9_8 ho1) ?_
        refine e_aload_n hg dX2_year_238 rfl ?_
        refine m_getR (q := 1) hg ciX2 0 lk_292 dX2_year_239 io_27 (Nat.le_of_ble_eq_true rfl) rfl rf_27_0 ?_
        refine m_getR (q := 5) hg ciX3 8 lk_121 dX2_year_242 io_1 (Nat.le_of_ble_eq_true rfl) rfl rf_1_8 ?_
        refine e_iload_n hg dX2_year_245 rfl ?_
        obtain ⟨hi32, h⟩ := o_gd h
        refine m_iald hg sh_5 hi32 dX2_year_246 ?_
        refine e_dup2 hg dX2_year_247 rfl rfl ?_
        obtain ⟨hi33, h⟩ := o_gd h
        refine m_iald hg (shF9_7 ho1) hi33 dX2_year_248 ?_
        refine e_aload_n hg dX2_year_249 rfl ?_
        refine m_getR (q := 1) hg ciX2 0 lk_292 dX2_year_250 io_27 (Nat.le_of_ble_eq_true rfl) rfl rf_27_0 ?_
        refine m_getR (q := 6) hg ciX3 9 lk_125 dX2_year_253 io_1 (Nat.le_of_ble_eq_true rfl) rfl rf_1_9 ?_
        refine e_iload_n hg dX2_year_256 rfl ?_
        obtain ⟨hi34, h⟩ := o_gd h
        refine m_iald hg sh_6 hi34 dX2_year_257 ?_
        refine e_iadd hg dX2_year_258 ?_
        obtain ⟨hi35, h⟩ := o_gd h
        obtain ⟨M36, hM36, h⟩ := o_lt h
        refine m_iast hg (shF9_7 ho1) hi35 dX2_year_259 ?_
        rw [← hM36]
        refine e_aload_n hg dX2_year_260 rfl ?_
        refine m_getR (q := (a1 + 4)) hg ciX9 5 lk_329 dX2_year_261 ho1 (Nat.le_of_ble_eq_true rfl) rfl (rfF9_5 ho1) ?_
        refine e_iload_n hg dX2_year_264 rfl ?_
        refine e_aload_n hg dX2_year_265 rfl ?_
        refine m_getR (q := (a1 + 4)) hg ciX9 5 lk_329 dX2_year_266 ho1 (Nat.le_of_ble_eq_true rfl) rfl (rfF9_5 ho1) ?_
        refine e_iload_n hg dX2_year_269 rfl ?_
        obtain ⟨hi37, h⟩ := o_gd h
        refine m_iald hg (shF9_4 ho1) hi37 dX2_year_270 ?_
        refine e_iconst (v := 1) hg dX2_year_271 (by decide) ?_
        refine e_iadd hg dX2_year_272 ?_
        refine e_bipush (v := 99) hg dX2_year_273 (by decide) ?_
        refine e_mmin hg lk_750 (Nat.le_of_ble_eq_true rfl) (by omega) (cs0 g) dX2_year_275 ?_
        obtain ⟨hi38, h⟩ := o_gd h
        obtain ⟨M39, hM39, h⟩ := o_lt h
        refine m_iast hg (shF9_4 ho1) hi38 dX2_year_278 ?_
        rw [← hM39]
        refine e_aload_n hg dX2_year_279 rfl ?_
        refine m_getR (q := (a1 + 10)) hg ciX9 11 lk_343 dX2_year_280 ho1 (Nat.le_of_ble_eq_true rfl) rfl (rfF9_11 ho1) ?_
        refine e_iload_n hg dX2_year_283 rfl ?_
        refine e_bipush (v := -2) hg dX2_year_284 (by decide) ?_
        obtain ⟨hi40, h⟩ := o_gd h
        obtain ⟨M41, hM41, h⟩ := o_lt h
        refine m_iast hg (shF9_10 ho1) hi40 dX2_year_286 ?_
        rw [← hM41]
        exact X2_year_b287_ok hg ho1 hr ih hK293 h
      · have h := o_neg c31 h
        refine e_aload_n hg dX2_year_222 rfl ?_
        refine e_aload_n hg dX2_year_223 rfl ?_
        refine e_iload_n hg dX2_year_224 rfl ?_
        obtain ⟨u42, M43, hc44, h⟩ := o_bd h
        refine m_callVV (rest := []) (M' := M43) (ci := 2) hg mfX2_breaks mvX2_breaks (X2_breaks_ok (r := (u42, M43)) hc44) lk_735 dX2_year_225 io_27 rfl rfl rfl (by omega) (Nat.le_of_ble_eq_true rfl) ?_
        refine e_iinc (v := (x2 + 1)) (ls' := [some (.ref 27), some (.ref a1), some (.int (x2 + 1)), some (.int x3), o4, o5]) hg dX2_year_228 rfl rfl rfl ?_
        refine e_goto hg 287 dX2_year_231 (by decide) ?_
        exact X2_year_b287_ok hg ho1 hr ih hK293 h
    · have h := o_neg c29 h
      exact hK293 _ _ _ _ _ h

def X2_year (a1 : Nat) (M : mm) : Option (Int32 × mm) :=
  gd (isO 9 a1) <|
  X2_year_L2 a1 (fun M =>
      X2_year_L107 a1 (fun M =>
          X2_year_L202 a1 (fun x2 M =>
              lt_ (sA M a1 (upd (M.1 a1) 0 ((M.1 a1 0) + ((M.1 1 1) - x2)))) fun M45 =>
              lt_ (sA M45 a1 (upd (M45.1 a1) 1 ((M45.1 a1 1) + x2))) fun M46 =>
              some (x2, M46)) 10000 0 0 M) 10000 0 M) 10000 0 M
set_option maxRecDepth 100000 in
set_option maxHeartbeats 4000000 in
theorem X2_year_ok {a1 : Nat} {M : mm} {r : Int32 × mm} (h : X2_year a1 M = some r) : CM yX2_year cX2_year 6 (some .int) 6 [.ref 27, .ref a1] (cells M) (some (.int r.1)) (cells r.2) := by
  refine cm_of (ls := [some (.ref 27), some (.ref a1), none, none, none, none]) mfX2_year rfl (Nat.le_of_ble_eq_true rfl) (fun g hg hr => ?_)
  unfold X2_year at h
  obtain ⟨ho1, h⟩ := o_gd h
  refine e_iconst (v := 0) hg dX2_year_0 (by decide) ?_
  refine e_istore_n (ls' := [some (.ref 27), some (.ref a1), some (.int 0), none, none, none]) hg dX2_year_1 rfl ?_
  refine X2_year_L2_ok hg ho1 hr (fun o2 o3 o4 o5 M h => ?_) 10000 _ _ _ _ _ h
  refine e_iconst (v := 0) hg dX2_year_105 (by decide) ?_
  refine e_istore_n (ls' := [some (.ref 27), some (.ref a1), some (.int 0), o3, o4, o5]) hg dX2_year_106 rfl ?_
  refine X2_year_L107_ok hg ho1 hr (fun o2 o3 o4 o5 M h => ?_) 10000 _ _ _ _ _ h
  refine e_iconst (v := 0) hg dX2_year_198 (by decide) ?_
  refine e_istore_n (ls' := [some (.ref 27), some (.ref a1), some (.int 0), o3, o4, o5]) hg dX2_year_199 rfl ?_
  refine e_iconst (v := 0) hg dX2_year_200 (by decide) ?_
  refine e_istore_n (ls' := [some (.ref 27), some (.ref a1), some (.int 0), some (.int 0), o4, o5]) hg dX2_year_201 rfl ?_
  refine X2_year_L202_ok hg ho1 hr (fun x2 o3 o4 o5 M h => ?_) 10000 _ _ _ _ _ h
  refine e_aload_n hg dX2_year_293 rfl ?_
  refine e_dup hg dX2_year_294 rfl ?_
  refine m_getI hg ciX9 0 lk_312 dX2_year_295 ho1 (Nat.le_of_ble_eq_true rfl) rfl ?_
  refine e_aload_n hg dX2_year_298 rfl ?_
  refine m_getR (q := 1) hg ciX2 0 lk_292 dX2_year_299 io_27 (Nat.le_of_ble_eq_true rfl) rfl rf_27_0 ?_
  refine m_getI hg ciX3 1 lk_99 dX2_year_302 io_1 (Nat.le_of_ble_eq_true rfl) rfl ?_
  refine e_iload_n hg dX2_year_305 rfl ?_
  refine e_isub hg dX2_year_306 ?_
  refine e_iadd hg dX2_year_307 ?_
  obtain ⟨M45, hM45, h⟩ := o_lt h
  refine m_putI hg ciX9 0 lk_312 dX2_year_308 ho1 (Nat.le_of_ble_eq_true rfl) rfl rfl rfl rfl ?_
  rw [← hM45]
  refine e_aload_n hg dX2_year_311 rfl ?_
  refine e_dup hg dX2_year_312 rfl ?_
  refine m_getI hg ciX9 1 lk_315 dX2_year_313 ho1 (Nat.le_of_ble_eq_true rfl) rfl ?_
  refine e_iload_n hg dX2_year_316 rfl ?_
  refine e_iadd hg dX2_year_317 ?_
  obtain ⟨M46, hM46, h⟩ := o_lt h
  refine m_putI hg ciX9 1 lk_315 dX2_year_318 ho1 (Nat.le_of_ble_eq_true rfl) rfl rfl rfl rfl ?_
  rw [← hM46]
  refine e_iload_n hg dX2_year_321 rfl ?_
  exact m_iret hg hr dX2_year_322 h

