def X10_layer (a1 : Int32) (a2 : Int32) (M : mm) : Option (Int32 × mm) :=
  bd (X3_hasThing a1 M) fun v1 M2 =>
  if v1 = 0 then
    some ((-1), M2)
  else
    if a2 < 0 then
      some ((-1), M2)
    else
      gd (inb a1 6) <|
      if a2 < (M2.1 (28 + 5) a1.toNatClampNeg) then
        bd (X9_nail 28 a1 a2 M2) fun v8 M9 =>
        some (v8, M9)
      else
        some ((-1), M2)
set_option maxRecDepth 100000 in
set_option maxHeartbeats 4000000 in
theorem X10_layer_ok {a1 : Int32} {a2 : Int32} {M : mm} {r : Int32 × mm} (h : X10_layer a1 a2 M = some r) : CM yX10_layer cX10_layer 3 (some .int) 1 [.ref 0, .int a1, .int a2] (cells M) (some (.int r.1)) (cells r.2) := by
  refine cm_of (ls := [some (.ref 0), some (.int a1), some (.int a2)]) mfX10_layer rfl (Nat.le_of_ble_eq_true rfl) (fun g hg hr => ?_)
  unfold X10_layer at h
  refine e_aload_n hg dX10_layer_0 rfl ?_
  refine m_getR (q := 1) hg ciX10 0 lk_452 dX10_layer_1 io_0 (Nat.le_of_ble_eq_true rfl) rfl rf_0_0 ?_
  refine e_iload_n hg dX10_layer_4 rfl ?_
  obtain ⟨v1, M2, hc3, h⟩ := o_bd h
  refine m_callVI (rest := []) (v := v1) (M' := M2) (ci := 3) hg mfX3_hasThing mvX3_hasThing (X3_hasThing_ok (r := (v1, M2)) hc3) lk_577 dX10_layer_5 io_1 rfl rfl rfl (by omega) (Nat.le_of_ble_eq_true rfl) ?_
  refine e_ifeq hg 28 dX10_layer_8 (by decide) (fun c4 => ?_) (fun c4 => ?_)
  · have h := o_pos c4 h
    refine e_iconst (v := -1) hg dX10_layer_28 (by decide) ?_
    exact m_iret hg hr dX10_layer_29 h
  · have h := o_neg c4 h
    refine e_iload_n hg dX10_layer_11 rfl ?_
    refine e_iflt hg 28 dX10_layer_12 (by decide) (fun c5 => ?_) (fun c5 => ?_)
    · have h := o_pos c5 h
      refine e_iconst (v := -1) hg dX10_layer_28 (by decide) ?_
      exact m_iret hg hr dX10_layer_29 h
    · have h := o_neg c5 h
      refine e_iload_n hg dX10_layer_15 rfl ?_
      refine e_aload_n hg dX10_layer_16 rfl ?_
      refine m_getR (q := 28) hg ciX10 4 lk_456 dX10_layer_17 io_0 (Nat.le_of_ble_eq_true rfl) rfl rf_0_4 ?_
      refine m_getR (q := (28 + 5)) hg ciX9 6 lk_333 dX10_layer_20 io_28 (Nat.le_of_ble_eq_true rfl) rfl (rfF9_6 io_28) ?_
      refine e_iload_n hg dX10_layer_23 rfl ?_
      obtain ⟨hi6, h⟩ := o_gd h
      refine m_iald hg (shF9_5 io_28) hi6 dX10_layer_24 ?_
      refine e_icmplt hg 30 dX10_layer_25 (by decide) (fun c7 => ?_) (fun c7 => ?_)
      · have h := o_pos c7 h
        refine e_aload_n hg dX10_layer_30 rfl ?_
        refine m_getR (q := 28) hg ciX10 4 lk_456 dX10_layer_31 io_0 (Nat.le_of_ble_eq_true rfl) rfl rf_0_4 ?_
        refine e_iload_n hg dX10_layer_34 rfl ?_
        refine e_iload_n hg dX10_layer_35 rfl ?_
        obtain ⟨v8, M9, hc10, h⟩ := o_bd h
        refine m_callVI (rest := []) (v := v8) (M' := M9) (ci := 9) hg mfX9_nail mvX9_nail (X9_nail_ok (r := (v8, M9)) hc10) lk_759 dX10_layer_36 io_28 rfl rfl rfl (by omega) (Nat.le_of_ble_eq_true rfl) ?_
        exact m_iret hg hr dX10_layer_39 h
      · have h := o_neg c7 h
        refine e_iconst (v := -1) hg dX10_layer_28 (by decide) ?_
        exact m_iret hg hr dX10_layer_29 h

def X10_told_L69 (a1 : Int32) (a2 : Int32) (K107 : Nat → Int32 → Int32 → mm → Option (Int32 × mm)) : Nat → Nat → Int32 → Int32 → Int32 → mm → Option (Int32 × mm)
  | 0, _, _, _, _, _ => none
  | n_ + 1, x3, x4, x5, x6, M =>
    if x6 < x5 then
      gd (isO 6 x3) <|
      gd (inb x6 60) <|
      bd (X9_nail 28 a2 x6 M) fun v20 M21 =>
      if (lg_cmp (M.2.1 (x3 + 1) x6.toNatClampNeg) (v20.toInt64)) = 0 then
        (X10_told_L69 a1 a2 K107 n_) x3 x4 x5 (x6 + 1) M21
      else
        some (x6, M21)
    else
      K107 x3 x4 x5 M
set_option maxRecDepth 100000 in
set_option maxHeartbeats 4000000 in
theorem X10_told_L69_ok {g : gx} (hg : EC g cX10_told RX10 1) {a1 : Int32} {a2 : Int32} {r : Int32 × mm} (hr : RT g (some .int) (0, 0) (some (.int r.1)) (cells r.2)) {K107 : Nat → Int32 → Int32 → mm → Option (Int32 × mm)} (hK107 : ∀ (x3 : Nat) (x4 : Int32) (x5 : Int32) (o6 : Option Value) (M : mm), K107 x3 x4 x5 M = some r → E g (0, 0) 107 [some (.ref 0), some (.int a1), some (.int a2), some (.ref x3), some (.int x4), some (.int x5), o6] [] (cells M)) : ∀ (n_ : Nat) (x3 : Nat) (x4 : Int32) (x5 : Int32) (x6 : Int32) (M : mm), X10_told_L69 a1 a2 K107 n_ x3 x4 x5 x6 M = some r → E g (0, 0) 69 [some (.ref 0), some (.int a1), some (.int a2), some (.ref x3), some (.int x4), some (.int x5), some (.int x6)] [] (cells M) := by
  intro n_
  induction n_ with
  | zero => intro x3 x4 x5 x6 M h; exact o_no h
  | succ n_ ih =>
    intro x3 x4 x5 x6 M h
    rw [X10_told_L69] at h
    refine e_iload hg dX10_told_69 rfl ?_
    refine e_iload hg dX10_told_71 rfl ?_
    refine e_icmpge hg 107 dX10_told_73 (by decide) (fun c17 => ?_) (fun c17 => ?_)
    · have h := o_pos c17 h
      refine e_aload_n hg dX10_told_76 rfl ?_
      obtain ⟨ho18, h⟩ := o_gd h
      refine m_getR (q := (x3 + 1)) hg ciX6 4 lk_440 dX10_told_77 ho18 (Nat.le_of_ble_eq_true rfl) rfl (rfF6_4 ho18) ?_
      refine e_iload hg dX10_told_80 rfl ?_
      obtain ⟨hi19, h⟩ := o_gd h
      refine m_lald hg (shF6_1 ho18) hi19 dX10_told_82 ?_
      refine e_aload_n hg dX10_told_83 rfl ?_
      refine m_getR (q := 28) hg ciX10 4 lk_456 dX10_told_84 io_0 (Nat.le_of_ble_eq_true rfl) rfl rf_0_4 ?_
      refine e_iload_n hg dX10_told_87 rfl ?_
      refine e_iload hg dX10_told_88 rfl ?_
      obtain ⟨v20, M21, hc22, h⟩ := o_bd h
      refine m_callVI (rest := [.long (M.2.1 (x3 + 1) x6.toNatClampNeg)]) (v := v20) (M' := M21) (ci := 9) hg mfX9_nail mvX9_nail (X9_nail_ok (r := (v20, M21)) hc22) lk_759 dX10_told_90 io_28 rfl rfl rfl (by omega) (Nat.le_of_ble_eq_true rfl) ?_
      refine e_i2l hg dX10_told_93 ?_
      refine e_lcmp hg dX10_told_94 ?_
      refine e_ifeq hg 101 dX10_told_95 (by decide) (fun c23 => ?_) (fun c23 => ?_)
      · have h := o_pos c23 h
        refine e_iinc (v := (x6 + 1)) (ls' := [some (.ref 0), some (.int a1), some (.int a2), some (.ref x3), some (.int x4), some (.int x5), some (.int (x6 + 1))]) hg dX10_told_101 rfl rfl rfl ?_
        refine e_goto hg 69 dX10_told_104 (by decide) ?_
        exact ih _ _ _ _ _ h
      · have h := o_neg c23 h
        refine e_iload hg dX10_told_98 rfl ?_
        exact m_iret hg hr dX10_told_100 h
    · have h := o_neg c17 h
      exact hK107 _ _ _ _ _ h

def X10_told (a1 : Int32) (a2 : Int32) (M : mm) : Option (Int32 × mm) :=
  bd (X10_shelfAt a1 M) fun v1 M2 =>
  opt v1 (
    some ((-1), M2)) fun k4 =>
  bd (X3_hasThing a2 M2) fun v5 M6 =>
  if v5 = 0 then
    some ((-1), M6)
  else
    gd (isO 6 k4) <|
    if (M6.1 k4 0) = 0 then
      some ((-11), M6)
    else
      bd (X6_isRowOf k4 0 M6) fun v11 M12 =>
      if v11 = 0 then
        some ((-12), M12)
      else
        gd (inb a2 6) <|
        lt_ ((if (M12.1 k4 3) < (M12.1 (28 + 5) a2.toNatClampNeg) then (M12.1 k4 3) else (M12.1 (28 + 5) a2.toNatClampNeg))) fun z16 =>
        X10_told_L69 a1 a2 (fun x3 x4 x5 M =>
            gd (isO 6 x3) <|
            if x4 = (M.1 x3 3) then
              some ((-2), M)
            else
              some (x5, M)) 10000 k4 (M12.1 (28 + 5) a2.toNatClampNeg) z16 0 M12
set_option maxRecDepth 100000 in
set_option maxHeartbeats 4000000 in
theorem X10_told_ok {a1 : Int32} {a2 : Int32} {M : mm} {r : Int32 × mm} (h : X10_told a1 a2 M = some r) : CM yX10_told cX10_told 7 (some .int) 1 [.ref 0, .int a1, .int a2] (cells M) (some (.int r.1)) (cells r.2) := by
  refine cm_of (ls := [some (.ref 0), some (.int a1), some (.int a2), none, none, none, none]) mfX10_told rfl (Nat.le_of_ble_eq_true rfl) (fun g hg hr => ?_)
  unfold X10_told at h
  refine e_aload_n hg dX10_told_0 rfl ?_
  refine e_iload_n hg dX10_told_1 rfl ?_
  obtain ⟨v1, M2, hc3, h⟩ := o_bd h
  refine m_callVO (rest := []) (v := v1) (M' := M2) (ci := 10) hg mfX10_shelfAt mvX10_shelfAt (X10_shelfAt_ok (r := (v1, M2)) hc3) lk_524 dX10_told_2 io_0 rfl rfl rfl (by omega) (Nat.le_of_ble_eq_true rfl) ?_
  refine e_astore_nV (ls' := [some (.ref 0), some (.int a1), some (.int a2), some (vo v1), none, none, none]) hg dX10_told_5 rfl ?_
  refine e_aload_nV hg dX10_told_6 rfl ?_
  rcases v1 with _ | k4
  · have h := o_opt0 h
    refine e_ifnull0 hg 21 dX10_told_7 (by decide) ?_
    refine e_iconst (v := -1) hg dX10_told_21 (by decide) ?_
    exact m_iret hg hr dX10_told_22 h
  · have h := o_opt1 h
    refine e_ifnull hg dX10_told_7 ?_
    refine e_aload_n hg dX10_told_10 rfl ?_
    refine m_getR (q := 1) hg ciX10 0 lk_452 dX10_told_11 io_0 (Nat.le_of_ble_eq_true rfl) rfl rf_0_0 ?_
    refine e_iload_n hg dX10_told_14 rfl ?_
    obtain ⟨v5, M6, hc7, h⟩ := o_bd h
    refine m_callVI (rest := []) (v := v5) (M' := M6) (ci := 3) hg mfX3_hasThing mvX3_hasThing (X3_hasThing_ok (r := (v5, M6)) hc7) lk_577 dX10_told_15 io_1 rfl rfl rfl (by omega) (Nat.le_of_ble_eq_true rfl) ?_
    refine e_ifne hg 23 dX10_told_18 (by decide) (fun c8 => ?_) (fun c8 => ?_)
    · have h := o_pos c8 h
      refine e_iconst (v := -1) hg dX10_told_21 (by decide) ?_
      exact m_iret hg hr dX10_told_22 h
    · have h := o_neg c8 h
      refine e_aload_n hg dX10_told_23 rfl ?_
      obtain ⟨ho9, h⟩ := o_gd h
      refine m_getI hg ciX6 0 lk_432 dX10_told_24 ho9 (Nat.le_of_ble_eq_true rfl) rfl ?_
      refine e_ifne hg 33 dX10_told_27 (by decide) (fun c10 => ?_) (fun c10 => ?_)
      · have h := o_pos c10 h
        refine e_bipush (v := -11) hg dX10_told_30 (by decide) ?_
        exact m_iret hg hr dX10_told_32 h
      · have h := o_neg c10 h
        refine e_aload_n hg dX10_told_33 rfl ?_
        refine e_iconst (v := 0) hg dX10_told_34 (by decide) ?_
        obtain ⟨v11, M12, hc13, h⟩ := o_bd h
        refine m_callVI (rest := []) (v := v11) (M' := M12) (ci := 6) hg mfX6_isRowOf mvX6_isRowOf (X6_isRowOf_ok (r := (v11, M12)) hc13) lk_528 dX10_told_35 ho9 rfl rfl rfl (by omega) (Nat.le_of_ble_eq_true rfl) ?_
        refine e_ifne hg 44 dX10_told_38 (by decide) (fun c14 => ?_) (fun c14 => ?_)
        · have h := o_pos c14 h
          refine e_bipush (v := -12) hg dX10_told_41 (by decide) ?_
          exact m_iret hg hr dX10_told_43 h
        · have h := o_neg c14 h
          refine e_aload_n hg dX10_told_44 rfl ?_
          refine m_getR (q := 28) hg ciX10 4 lk_456 dX10_told_45 io_0 (Nat.le_of_ble_eq_true rfl) rfl rf_0_4 ?_
          refine m_getR (q := (28 + 5)) hg ciX9 6 lk_333 dX10_told_48 io_28 (Nat.le_of_ble_eq_true rfl) rfl (rfF9_6 io_28) ?_
          refine e_iload_n hg dX10_told_51 rfl ?_
          obtain ⟨hi15, h⟩ := o_gd h
          refine m_iald hg (shF9_5 io_28) hi15 dX10_told_52 ?_
          refine e_istore (ls' := [some (.ref 0), some (.int a1), some (.int a2), some (.ref k4), some (.int (M12.1 (28 + 5) a2.toNatClampNeg)), none, none]) hg dX10_told_53 rfl ?_
          refine e_iload hg dX10_told_55 rfl ?_
          refine e_aload_n hg dX10_told_57 rfl ?_
          refine m_getI hg ciX6 3 lk_438 dX10_told_58 ho9 (Nat.le_of_ble_eq_true rfl) rfl ?_
          refine e_mmin hg lk_767 (Nat.le_of_ble_eq_true rfl) (by omega) (cs0 g) dX10_told_61 ?_
          obtain ⟨z16, hz16, h⟩ := o_lt h
          refine e_istore (ls' := [some (.ref 0), some (.int a1), some (.int a2), some (.ref k4), some (.int (M12.1 (28 + 5) a2.toNatClampNeg)), some (.int (if (M12.1 k4 3) < (M12.1 (28 + 5) a2.toNatClampNeg) then (M12.1 k4 3) else (M12.1 (28 + 5) a2.toNatClampNeg))), none]) hg dX10_told_64 rfl ?_
          rw [← hz16]
          refine e_iconst (v := 0) hg dX10_told_66 (by decide) ?_
          refine e_istore (ls' := [some (.ref 0), some (.int a1), some (.int a2), some (.ref k4), some (.int (M12.1 (28 + 5) a2.toNatClampNeg)), some (.int z16), some (.int 0)]) hg dX10_told_67 rfl ?_
          refine X10_told_L69_ok hg hr (fun x3 x4 x5 o6 M h => ?_) 10000 _ _ _ _ _ h
          refine e_iload hg dX10_told_107 rfl ?_
          refine e_aload_n hg dX10_told_109 rfl ?_
          obtain ⟨ho24, h⟩ := o_gd h
          refine m_getI hg ciX6 3 lk_438 dX10_told_110 ho24 (Nat.le_of_ble_eq_true rfl) rfl ?_
          refine e_icmpne hg 121 dX10_told_113 (by decide) (fun c25 => ?_) (fun c25 => ?_)
          · have h := o_pos c25 h
            refine e_bipush (v := -2) hg dX10_told_116 (by decide) ?_
            refine e_goto hg 123 dX10_told_118 (by decide) ?_
            exact m_iret hg hr dX10_told_123 h
          · have h := o_neg c25 h
            refine e_iload hg dX10_told_121 rfl ?_
            exact m_iret hg hr dX10_told_123 h

def X10_over_L49 (a1 : Int32) : Nat → Int32 → Int32 → mm → Option (Int32 × mm)
  | 0, _, _, _ => none
  | n_ + 1, x2, x3, M =>
    if x3 < (M.1 1 1) then
      bd (X9_oftenOver 28 x3 (a1 / 10) (a1 - a1 / 10 * 10) M) fun v12 M13 =>
      (X10_over_L49 a1 n_) (x2 + v12) (x3 + 1) M13
    else
      some (x2, M)
set_option maxRecDepth 100000 in
set_option maxHeartbeats 4000000 in
theorem X10_over_L49_ok {g : gx} (hg : EC g cX10_over RX10 2) {a1 : Int32} {r : Int32 × mm} (hr : RT g (some .int) (0, 0) (some (.int r.1)) (cells r.2)) : ∀ (n_ : Nat) (x2 : Int32) (x3 : Int32) (M : mm), X10_over_L49 a1 n_ x2 x3 M = some r → E g (0, 0) 49 [some (.ref 0), some (.int a1), some (.int x2), some (.int x3)] [] (cells M) := by
  intro n_
  induction n_ with
  | zero => intro x2 x3 M h; exact o_no h
  | succ n_ ih =>
    intro x2 x3 M h
    rw [X10_over_L49] at h
    refine e_iload_n hg dX10_over_49 rfl ?_
    refine e_aload_n hg dX10_over_50 rfl ?_
    refine m_getR (q := 1) hg ciX10 0 lk_452 dX10_over_51 io_0 (Nat.le_of_ble_eq_true rfl) rfl rf_0_0 ?_
    refine m_getI hg ciX3 1 lk_100 dX10_over_54 io_1 (Nat.le_of_ble_eq_true rfl) rfl ?_
    refine e_icmpge hg 85 dX10_over_57 (by decide) (fun c11 => ?_) (fun c11 => ?_)
    · have h := o_pos c11 h
      refine e_iload_n hg dX10_over_60 rfl ?_
      refine e_aload_n hg dX10_over_61 rfl ?_
      refine m_getR (q := 28) hg ciX10 4 lk_456 dX10_over_62 io_0 (Nat.le_of_ble_eq_true rfl) rfl rf_0_4 ?_
      refine e_iload_n hg dX10_over_65 rfl ?_
      refine e_iload_n hg dX10_over_66 rfl ?_
      refine e_bipush (v := 10) hg dX10_over_67 (by decide) ?_
      refine e_idiv hg dX10_over_69 (by decide) ?_
      refine e_iload_n hg dX10_over_70 rfl ?_
      refine e_bipush (v := 10) hg dX10_over_71 (by decide) ?_
      refine e_irem hg dX10_over_73 (by decide) ?_
      obtain ⟨v12, M13, hc14, h⟩ := o_bd h
      refine m_callVI (rest := [.int x2]) (v := v12) (M' := M13) (ci := 9) hg mfX9_oftenOver mvX9_oftenOver (X9_oftenOver_ok (r := (v12, M13)) hc14) lk_772 dX10_over_74 io_28 rfl rfl rfl (by omega) (Nat.le_of_ble_eq_true rfl) ?_
      refine e_iadd hg dX10_over_77 ?_
      refine e_istore_n (ls' := [some (.ref 0), some (.int a1), some (.int (x2 + v12)), some (.int x3)]) hg dX10_over_78 rfl ?_
      refine e_iinc (v := (x3 + 1)) (ls' := [some (.ref 0), some (.int a1), some (.int (x2 + v12)), some (.int (x3 + 1))]) hg dX10_over_79 rfl rfl rfl ?_
      refine e_goto hg 49 dX10_over_82 (by decide) ?_
      exact ih _ _ _ h
    · have h := o_neg c11 h
      refine e_iload_n hg dX10_over_85 rfl ?_
      exact m_iret hg hr dX10_over_86 h

def X10_over (a1 : Int32) (M : mm) : Option (Int32 × mm) :=
  if a1 < 0 then
    some ((-1), M)
  else
    bd (X3_hasPerson (a1 / 10) M) fun v2 M3 =>
    if v2 = 0 then
      some ((-1), M3)
    else
      bd (X3_hasPerson (a1 - a1 / 10 * 10) M3) fun v6 M7 =>
      if v6 = 0 then
        some ((-1), M7)
      else
        if (a1 / 10) = (a1 - a1 / 10 * 10) then
          some ((-1), M7)
        else
          X10_over_L49 a1 10000 0 0 M7
set_option maxRecDepth 100000 in
set_option maxHeartbeats 4000000 in
theorem X10_over_ok {a1 : Int32} {M : mm} {r : Int32 × mm} (h : X10_over a1 M = some r) : CM yX10_over cX10_over 4 (some .int) 2 [.ref 0, .int a1] (cells M) (some (.int r.1)) (cells r.2) := by
  refine cm_of (ls := [some (.ref 0), some (.int a1), none, none]) mfX10_over rfl (Nat.le_of_ble_eq_true rfl) (fun g hg hr => ?_)
  unfold X10_over at h
  refine e_iload_n hg dX10_over_0 rfl ?_
  refine e_iflt hg 43 dX10_over_1 (by decide) (fun c1 => ?_) (fun c1 => ?_)
  · have h := o_pos c1 h
    refine e_iconst (v := -1) hg dX10_over_43 (by decide) ?_
    exact m_iret hg hr dX10_over_44 h
  · have h := o_neg c1 h
    refine e_aload_n hg dX10_over_4 rfl ?_
    refine m_getR (q := 1) hg ciX10 0 lk_452 dX10_over_5 io_0 (Nat.le_of_ble_eq_true rfl) rfl rf_0_0 ?_
    refine e_iload_n hg dX10_over_8 rfl ?_
    refine e_bipush (v := 10) hg dX10_over_9 (by decide) ?_
    refine e_idiv hg dX10_over_11 (by decide) ?_
    obtain ⟨v2, M3, hc4, h⟩ := o_bd h
    refine m_callVI (rest := []) (v := v2) (M' := M3) (ci := 3) hg mfX3_hasPerson mvX3_hasPerson (X3_hasPerson_ok (r := (v2, M3)) hc4) lk_508 dX10_over_12 io_1 rfl rfl rfl (by omega) (Nat.le_of_ble_eq_true rfl) ?_
    refine e_ifeq hg 43 dX10_over_15 (by decide) (fun c5 => ?_) (fun c5 => ?_)
    · have h := o_pos c5 h
      refine e_iconst (v := -1) hg dX10_over_43 (by decide) ?_
      exact m_iret hg hr dX10_over_44 h
    · have h := o_neg c5 h
      refine e_aload_n hg dX10_over_18 rfl ?_
      refine m_getR (q := 1) hg ciX10 0 lk_452 dX10_over_19 io_0 (Nat.le_of_ble_eq_true rfl) rfl rf_0_0 ?_
      refine e_iload_n hg dX10_over_22 rfl ?_
      refine e_bipush (v := 10) hg dX10_over_23 (by decide) ?_
      refine e_irem hg dX10_over_25 (by decide) ?_
      obtain ⟨v6, M7, hc8, h⟩ := o_bd h
      refine m_callVI (rest := []) (v := v6) (M' := M7) (ci := 3) hg mfX3_hasPerson mvX3_hasPerson (X3_hasPerson_ok (r := (v6, M7)) hc8) lk_508 dX10_over_26 io_1 rfl rfl rfl (by omega) (Nat.le_of_ble_eq_true rfl) ?_
      refine e_ifeq hg 43 dX10_over_29 (by decide) (fun c9 => ?_) (fun c9 => ?_)
      · have h := o_pos c9 h
        refine e_iconst (v := -1) hg dX10_over_43 (by decide) ?_
        exact m_iret hg hr dX10_over_44 h
      · have h := o_neg c9 h
        refine e_iload_n hg dX10_over_32 rfl ?_
        refine e_bipush (v := 10) hg dX10_over_33 (by decide) ?_
        refine e_idiv hg dX10_over_35 (by decide) ?_
        refine e_iload_n hg dX10_over_36 rfl ?_
        refine e_bipush (v := 10) hg dX10_over_37 (by decide) ?_
        refine e_irem hg dX10_over_39 (by decide) ?_
        refine e_icmpne hg 45 dX10_over_40 (by decide) (fun c10 => ?_) (fun c10 => ?_)
        · have h := o_pos c10 h
          refine e_iconst (v := -1) hg dX10_over_43 (by decide) ?_
          exact m_iret hg hr dX10_over_44 h
        · have h := o_neg c10 h
          refine e_iconst (v := 0) hg dX10_over_45 (by decide) ?_
          refine e_istore_n (ls' := [some (.ref 0), some (.int a1), some (.int 0), none]) hg dX10_over_46 rfl ?_
          refine e_iconst (v := 0) hg dX10_over_47 (by decide) ?_
          refine e_istore_n (ls' := [some (.ref 0), some (.int a1), some (.int 0), some (.int 0)]) hg dX10_over_48 rfl ?_
          exact X10_over_L49_ok hg hr  10000 _ _ _ h

def X10_isThought (a1 : Int32) (M : mm) : Option (Int32 × mm) :=
  if a1 < 0 then
    some (0, M)
  else
    if 6 < (a1 - a1 / 10 * 10) then
      some (0, M)
    else
      bd (X3_hasThing (a1 / 10) M) fun v3 M4 =>
      if v3 = 0 then
        some (0, M4)
      else
        some (1, M4)
set_option maxRecDepth 100000 in
set_option maxHeartbeats 4000000 in
theorem X10_isThought_ok {a1 : Int32} {M : mm} {r : Int32 × mm} (h : X10_isThought a1 M = some r) : CM yX10_isThought cX10_isThought 2 (some .boolean) 1 [.ref 0, .int a1] (cells M) (some (.int r.1)) (cells r.2) := by
  refine cm_of (ls := [some (.ref 0), some (.int a1)]) mfX10_isThought rfl (Nat.le_of_ble_eq_true rfl) (fun g hg hr => ?_)
  unfold X10_isThought at h
  refine e_iload_n hg dX10_isThought_0 rfl ?_
  refine e_iflt hg 31 dX10_isThought_1 (by decide) (fun c1 => ?_) (fun c1 => ?_)
  · have h := o_pos c1 h
    refine e_iconst (v := 0) hg dX10_isThought_31 (by decide) ?_
    exact m_zret hg hr rfl dX10_isThought_32 h
  · have h := o_neg c1 h
    refine e_iload_n hg dX10_isThought_4 rfl ?_
    refine e_bipush (v := 10) hg dX10_isThought_5 (by decide) ?_
    refine e_irem hg dX10_isThought_7 (by decide) ?_
    refine e_bipush (v := 6) hg dX10_isThought_8 (by decide) ?_
    refine e_icmpgt hg 31 dX10_isThought_10 (by decide) (fun c2 => ?_) (fun c2 => ?_)
    · have h := o_pos c2 h
      refine e_iconst (v := 0) hg dX10_isThought_31 (by decide) ?_
      exact m_zret hg hr rfl dX10_isThought_32 h
    · have h := o_neg c2 h
      refine e_aload_n hg dX10_isThought_13 rfl ?_
      refine m_getR (q := 1) hg ciX10 0 lk_452 dX10_isThought_14 io_0 (Nat.le_of_ble_eq_true rfl) rfl rf_0_0 ?_
      refine e_iload_n hg dX10_isThought_17 rfl ?_
      refine e_bipush (v := 10) hg dX10_isThought_18 (by decide) ?_
      refine e_idiv hg dX10_isThought_20 (by decide) ?_
      obtain ⟨v3, M4, hc5, h⟩ := o_bd h
      refine m_callVI (rest := []) (v := v3) (M' := M4) (ci := 3) hg mfX3_hasThing mvX3_hasThing (X3_hasThing_ok (r := (v3, M4)) hc5) lk_577 dX10_isThought_21 io_1 rfl rfl rfl (by omega) (Nat.le_of_ble_eq_true rfl) ?_
      refine e_ifeq hg 31 dX10_isThought_24 (by decide) (fun c6 => ?_) (fun c6 => ?_)
      · have h := o_pos c6 h
        refine e_iconst (v := 0) hg dX10_isThought_31 (by decide) ?_
        exact m_zret hg hr rfl dX10_isThought_32 h
      · have h := o_neg c6 h
        refine e_iconst (v := 1) hg dX10_isThought_27 (by decide) ?_
        refine e_goto hg 32 dX10_isThought_28 (by decide) ?_
        exact m_zret hg hr rfl dX10_isThought_32 h

def X10_isZeroOrOne_b9 (a0 : Int32) (M : mm) : Option (Int32 × mm) :=
  some (1, M)
set_option maxRecDepth 100000 in
set_option maxHeartbeats 4000000 in
theorem X10_isZeroOrOne_b9_ok {g : gx} (hg : EC g cX10_isZeroOrOne RX10 0) {a0 : Int32} {r : Int32 × mm} (hr : RT g (some .boolean) (0, 0) (some (.int r.1)) (cells r.2)) {M : mm} (h : X10_isZeroOrOne_b9 a0 M = some r) : E g (0, 0) 9 [some (.int a0)] [] (cells M) := by
  unfold X10_isZeroOrOne_b9 at h
  refine e_iconst (v := 1) hg dX10_isZeroOrOne_9 (by decide) ?_
  refine e_goto hg 14 dX10_isZeroOrOne_10 (by decide) ?_
  exact m_zret hg hr rfl dX10_isZeroOrOne_14 h

def X10_isZeroOrOne (a0 : Int32) (M : mm) : Option (Int32 × mm) :=
  if a0 = 0 then
    X10_isZeroOrOne_b9 a0 M
  else
    if a0 = 1 then
      X10_isZeroOrOne_b9 a0 M
    else
      some (0, M)
set_option maxRecDepth 100000 in
set_option maxHeartbeats 4000000 in
theorem X10_isZeroOrOne_ok {a0 : Int32} {M : mm} {r : Int32 × mm} (h : X10_isZeroOrOne a0 M = some r) : CM yX10_isZeroOrOne cX10_isZeroOrOne 1 (some .boolean) 0 [.int a0] (cells M) (some (.int r.1)) (cells r.2) := by
  refine cm_of (ls := [some (.int a0)]) mfX10_isZeroOrOne rfl (Nat.le_of_ble_eq_true rfl) (fun g hg hr => ?_)
  unfold X10_isZeroOrOne at h
  refine e_iload_n hg dX10_isZeroOrOne_0 rfl ?_
  refine e_ifeq hg 9 dX10_isZeroOrOne_1 (by decide) (fun c1 => ?_) (fun c1 => ?_)
  · have h := o_pos c1 h
    exact X10_isZeroOrOne_b9_ok hg hr  h
  · have h := o_neg c1 h
    refine e_iload_n hg dX10_isZeroOrOne_4 rfl ?_
    refine e_iconst (v := 1) hg dX10_isZeroOrOne_5 (by decide) ?_
    refine e_icmpne hg 13 dX10_isZeroOrOne_6 (by decide) (fun c2 => ?_) (fun c2 => ?_)
    · have h := o_pos c2 h
      exact X10_isZeroOrOne_b9_ok hg hr  h
    · have h := o_neg c2 h
      refine e_iconst (v := 0) hg dX10_isZeroOrOne_13 (by decide) ?_
      exact m_zret hg hr rfl dX10_isZeroOrOne_14 h

def X10_fraction_L6 (a0 : Int64) (a2 : Int32) (a3 : Int32) (K26 : Int64 → mm → Option (Int64 × mm)) : Nat → Int64 → Int32 → mm → Option (Int64 × mm)
  | 0, _, _, _ => none
  | n_ + 1, x4, x6, M =>
    if x6 < a2 then
      (X10_fraction_L6 a0 a2 a3 K26 n_) (x4 * 12) (x6 + 1) M
    else
      K26 x4 M
set_option maxRecDepth 100000 in
set_option maxHeartbeats 4000000 in
theorem X10_fraction_L6_ok {g : gx} (hg : EC g cX10_fraction RX10 1) {a0 : Int64} {a2 : Int32} {a3 : Int32} {r : Int64 × mm} (hr : RT g (some .long) (0, 0) (some (.long r.1)) (cells r.2)) {K26 : Int64 → mm → Option (Int64 × mm)} (hK26 : ∀ (x4 : Int64) (o6 : Option Value) (o7 : Option Value) (o8 : Option Value) (o9 : Option Value) (o10 : Option Value) (o11 : Option Value) (o12 : Option Value) (M : mm), K26 x4 M = some r → E g (0, 0) 26 [some (.long a0), none, some (.int a2), some (.int a3), some (.long x4), none, o6, o7, o8, o9, o10, o11, o12] [] (cells M)) : ∀ (n_ : Nat) (x4 : Int64) (x6 : Int32) (o7 : Option Value) (o8 : Option Value) (o9 : Option Value) (o10 : Option Value) (o11 : Option Value) (o12 : Option Value) (M : mm), X10_fraction_L6 a0 a2 a3 K26 n_ x4 x6 M = some r → E g (0, 0) 6 [some (.long a0), none, some (.int a2), some (.int a3), some (.long x4), none, some (.int x6), o7, o8, o9, o10, o11, o12] [] (cells M) := by
  intro n_
  induction n_ with
  | zero => intro x4 x6 o7 o8 o9 o10 o11 o12 M h; exact o_no h
  | succ n_ ih =>
    intro x4 x6 o7 o8 o9 o10 o11 o12 M h
    rw [X10_fraction_L6] at h
    refine e_iload hg dX10_fraction_6 rfl ?_
    refine e_iload_n hg dX10_fraction_8 rfl ?_
    refine e_icmpge hg 26 dX10_fraction_9 (by decide) (fun c1 => ?_) (fun c1 => ?_)
    · have h := o_pos c1 h
      refine e_lload hg dX10_fraction_12 rfl ?_
      refine e_ldc2 hg dX10_fraction_14 lk_796 ?_
      refine e_lmul hg dX10_fraction_17 ?_
      refine e_lstore (ls' := [some (.long a0), none, some (.int a2), some (.int a3), some (.long (x4 * 12)), none, some (.int x6), o7, o8, o9, o10, o11, o12]) hg dX10_fraction_18 rfl ?_
      refine e_iinc (v := (x6 + 1)) (ls' := [some (.long a0), none, some (.int a2), some (.int a3), some (.long (x4 * 12)), none, some (.int (x6 + 1)), o7, o8, o9, o10, o11, o12]) hg dX10_fraction_20 rfl rfl rfl ?_
      refine e_goto hg 6 dX10_fraction_23 (by decide) ?_
      exact ih _ _ _ _ _ _ _ _ _ h
    · have h := o_neg c1 h
      exact hK26 _ _ _ _ _ _ _ _ _ h

def X10_fraction_L39 (a0 : Int64) (a2 : Int32) (a3 : Int32) (K74 : Int64 → Int64 → mm → Option (Int64 × mm)) : Nat → Int64 → Int64 → Int64 → Int32 → mm → Option (Int64 × mm)
  | 0, _, _, _, _, _ => none
  | n_ + 1, x4, x6, x8, x10, M =>
    if x10 < 100 then
      if (lg_cmp x8 0) = 0 then
        K74 x4 x6 M
      else
        gd (decide (¬ x8 = 0)) <|
        (X10_fraction_L39 a0 a2 a3 K74 n_) x4 x8 (x6 - x6 / x8 * x8) (x10 + 1) M
    else
      K74 x4 x6 M
set_option maxRecDepth 100000 in
set_option maxHeartbeats 4000000 in
theorem X10_fraction_L39_ok {g : gx} (hg : EC g cX10_fraction RX10 1) {a0 : Int64} {a2 : Int32} {a3 : Int32} {r : Int64 × mm} (hr : RT g (some .long) (0, 0) (some (.long r.1)) (cells r.2)) {K74 : Int64 → Int64 → mm → Option (Int64 × mm)} (hK74 : ∀ (x4 : Int64) (x6 : Int64) (o8 : Option Value) (o9 : Option Value) (o10 : Option Value) (o11 : Option Value) (o12 : Option Value) (M : mm), K74 x4 x6 M = some r → E g (0, 0) 74 [some (.long a0), none, some (.int a2), some (.int a3), some (.long x4), none, some (.long x6), none, o8, o9, o10, o11, o12] [] (cells M)) : ∀ (n_ : Nat) (x4 : Int64) (x6 : Int64) (x8 : Int64) (x10 : Int32) (o11 : Option Value) (o12 : Option Value) (M : mm), X10_fraction_L39 a0 a2 a3 K74 n_ x4 x6 x8 x10 M = some r → E g (0, 0) 39 [some (.long a0), none, some (.int a2), some (.int a3), some (.long x4), none, some (.long x6), none, some (.long x8), none, some (.int x10), o11, o12] [] (cells M) := by
  intro n_
  induction n_ with
  | zero => intro x4 x6 x8 x10 o11 o12 M h; exact o_no h
  | succ n_ ih =>
    intro x4 x6 x8 x10 o11 o12 M h
    rw [X10_fraction_L39] at h
    refine e_iload hg dX10_fraction_39 rfl ?_
    refine e_bipush (v := 100) hg dX10_fraction_41 (by decide) ?_
    refine e_icmpge hg 74 dX10_fraction_43 (by decide) (fun c2 => ?_) (fun c2 => ?_)
    · have h := o_pos c2 h
      refine e_lload hg dX10_fraction_46 rfl ?_
      refine e_lconst (v := 0) hg dX10_fraction_48 (by decide) ?_
      refine e_lcmp hg dX10_fraction_49 ?_
      refine e_ifeq hg 74 dX10_fraction_50 (by decide) (fun c3 => ?_) (fun c3 => ?_)
      · have h := o_pos c3 h
        exact hK74 _ _ _ _ _ _ _ _ h
      · have h := o_neg c3 h
        refine e_lload hg dX10_fraction_53 rfl ?_
        refine e_lload hg dX10_fraction_55 rfl ?_
        obtain ⟨hz4, h⟩ := o_gd h
        refine e_lrem hg dX10_fraction_57 (of_decide_eq_true hz4) ?_
        refine e_lstore (ls' := [some (.long a0), none, some (.int a2), some (.int a3), some (.long x4), none, some (.long x6), none, some (.long x8), none, some (.int x10), some (.long (x6 - x6 / x8 * x8)), none]) hg dX10_fraction_58 rfl ?_
        refine e_lload hg dX10_fraction_60 rfl ?_
        refine e_lstore (ls' := [some (.long a0), none, some (.int a2), some (.int a3), some (.long x4), none, some (.long x8), none, some (.long x8), none, some (.int x10), some (.long (x6 - x6 / x8 * x8)), none]) hg dX10_fraction_62 rfl ?_
        refine e_lload hg dX10_fraction_64 rfl ?_
        refine e_lstore (ls' := [some (.long a0), none, some (.int a2), some (.int a3), some (.long x4), none, some (.long x8), none, some (.long (x6 - x6 / x8 * x8)), none, some (.int x10), some (.long (x6 - x6 / x8 * x8)), none]) hg dX10_fraction_66 rfl ?_
        refine e_iinc (v := (x10 + 1)) (ls' := [some (.long a0), none, some (.int a2), some (.int a3), some (.long x4), none, some (.long x8), none, some (.long (x6 - x6 / x8 * x8)), none, some (.int (x10 + 1)), some (.long (x6 - x6 / x8 * x8)), none]) hg dX10_fraction_68 rfl rfl rfl ?_
        refine e_goto hg 39 dX10_fraction_71 (by decide) ?_
        exact ih _ _ _ _ _ _ _ h
    · have h := o_neg c2 h
      exact hK74 _ _ _ _ _ _ _ _ h

def X10_fraction_b74 (a0 : Int64) (a2 : Int32) (a3 : Int32) (x4 : Int64) (x6 : Int64) (M : mm) : Option (Int64 × mm) :=
  if (lg_cmp x6 0) = 0 then
    if a3 = 0 then
      some (a0, M)
    else
      some (x4, M)
  else
    if a3 = 0 then
      gd (decide (¬ x6 = 0)) <|
      some ((a0 / x6), M)
    else
      gd (decide (¬ x6 = 0)) <|
      some ((x4 / x6), M)
set_option maxRecDepth 100000 in
set_option maxHeartbeats 4000000 in
theorem X10_fraction_b74_ok {g : gx} (hg : EC g cX10_fraction RX10 1) {a0 : Int64} {a2 : Int32} {a3 : Int32} {r : Int64 × mm} (hr : RT g (some .long) (0, 0) (some (.long r.1)) (cells r.2)) {x4 : Int64} {x6 : Int64} {o8 : Option Value} {o9 : Option Value} {o10 : Option Value} {o11 : Option Value} {o12 : Option Value} {M : mm} (h : X10_fraction_b74 a0 a2 a3 x4 x6 M = some r) : E g (0, 0) 74 [some (.long a0), none, some (.int a2), some (.int a3), some (.long x4), none, some (.long x6), none, o8, o9, o10, o11, o12] [] (cells M) := by
  unfold X10_fraction_b74 at h
  refine e_lload hg dX10_fraction_74 rfl ?_
  refine e_lconst (v := 0) hg dX10_fraction_76 (by decide) ?_
  refine e_lcmp hg dX10_fraction_77 ?_
  refine e_ifne hg 92 dX10_fraction_78 (by decide) (fun c5 => ?_) (fun c5 => ?_)
  · have h := o_pos c5 h
    refine e_iload_n hg dX10_fraction_81 rfl ?_
    refine e_ifne hg 89 dX10_fraction_82 (by decide) (fun c6 => ?_) (fun c6 => ?_)
    · have h := o_pos c6 h
      refine e_lload_n hg dX10_fraction_85 rfl ?_
      refine e_goto hg 91 dX10_fraction_86 (by decide) ?_
      exact m_lret hg hr dX10_fraction_91 h
    · have h := o_neg c6 h
      refine e_lload hg dX10_fraction_89 rfl ?_
      exact m_lret hg hr dX10_fraction_91 h
  · have h := o_neg c5 h
    refine e_iload_n hg dX10_fraction_92 rfl ?_
    refine e_ifne hg 100 dX10_fraction_93 (by decide) (fun c7 => ?_) (fun c7 => ?_)
    · have h := o_pos c7 h
      refine e_lload_n hg dX10_fraction_96 rfl ?_
      refine e_goto hg 102 dX10_fraction_97 (by decide) ?_
      refine e_lload hg dX10_fraction_102 rfl ?_
      obtain ⟨hz8, h⟩ := o_gd h
      refine e_ldiv hg dX10_fraction_104 (of_decide_eq_true hz8) ?_
      exact m_lret hg hr dX10_fraction_105 h
    · have h := o_neg c7 h
      refine e_lload hg dX10_fraction_100 rfl ?_
      refine e_lload hg dX10_fraction_102 rfl ?_
      obtain ⟨hz9, h⟩ := o_gd h
      refine e_ldiv hg dX10_fraction_104 (of_decide_eq_true hz9) ?_
      exact m_lret hg hr dX10_fraction_105 h

def X10_fraction (a0 : Int64) (a2 : Int32) (a3 : Int32) (M : mm) : Option (Int64 × mm) :=
  X10_fraction_L6 a0 a2 a3 (fun x4 M =>
      X10_fraction_L39 a0 a2 a3 (fun x4 x6 M =>
          X10_fraction_b74 a0 a2 a3 x4 x6 M) 10000 x4 x4 (if 0 < a0 then a0 else -a0) 0 M) 10000 1 0 M
set_option maxRecDepth 100000 in
set_option maxHeartbeats 4000000 in
theorem X10_fraction_ok {a0 : Int64} {a2 : Int32} {a3 : Int32} {M : mm} {r : Int64 × mm} (h : X10_fraction a0 a2 a3 M = some r) : CM yX10_fraction cX10_fraction 13 (some .long) 1 [.long a0, .int a2, .int a3] (cells M) (some (.long r.1)) (cells r.2) := by
  refine cm_of (ls := [some (.long a0), none, some (.int a2), some (.int a3), none, none, none, none, none, none, none, none, none]) mfX10_fraction rfl (Nat.le_of_ble_eq_true rfl) (fun g hg hr => ?_)
  unfold X10_fraction at h
  refine e_lconst (v := 1) hg dX10_fraction_0 (by decide) ?_
  refine e_lstore (ls' := [some (.long a0), none, some (.int a2), some (.int a3), some (.long 1), none, none, none, none, none, none, none, none]) hg dX10_fraction_1 rfl ?_
  refine e_iconst (v := 0) hg dX10_fraction_3 (by decide) ?_
  refine e_istore (ls' := [some (.long a0), none, some (.int a2), some (.int a3), some (.long 1), none, some (.int 0), none, none, none, none, none, none]) hg dX10_fraction_4 rfl ?_
  refine X10_fraction_L6_ok hg hr (fun x4 o6 o7 o8 o9 o10 o11 o12 M h => ?_) 10000 _ _ _ _ _ _ _ _ _ h
  refine e_lload hg dX10_fraction_26 rfl ?_
  refine e_lstore (ls' := [some (.long a0), none, some (.int a2), some (.int a3), some (.long x4), none, some (.long x4), none, o8, o9, o10, o11, o12]) hg dX10_fraction_28 rfl ?_
  refine e_lload_n hg dX10_fraction_30 rfl ?_
  refine e_mabs hg lk_797 (Nat.le_of_ble_eq_true rfl) (by omega) (cs0 g) dX10_fraction_31 ?_
  refine e_lstore (ls' := [some (.long a0), none, some (.int a2), some (.int a3), some (.long x4), none, some (.long x4), none, some (.long (if 0 < a0 then a0 else -a0)), none, o10, o11, o12]) hg dX10_fraction_34 rfl ?_
  refine e_iconst (v := 0) hg dX10_fraction_36 (by decide) ?_
  refine e_istore (ls' := [some (.long a0), none, some (.int a2), some (.int a3), some (.long x4), none, some (.long x4), none, some (.long (if 0 < a0 then a0 else -a0)), none, some (.int 0), o11, o12]) hg dX10_fraction_37 rfl ?_
  refine X10_fraction_L39_ok hg hr (fun x4 x6 o8 o9 o10 o11 o12 M h => ?_) 10000 _ _ _ _ _ _ _ h
  exact X10_fraction_b74_ok hg hr  h

def X10_worth_b118 (a1 : Int32) (a2 : Int32) (a3 : Int32) (x4 : Int32) (s1 : Int32) (s2 : Int32) (M : mm) : Option (Int64 × mm) :=
  bd (X4_think s1 s2 M) fun u25 M26 =>
  gd (inb x4 6) <|
  bd (X4_worthAt (M26.1 (28 + 1) x4.toNatClampNeg) M26) fun v29 M30 =>
  bd (X10_fraction v29 (a1 - a1 / 10 * 10) a3 M30) fun v32 M33 =>
  some (v32, M33)
set_option maxRecDepth 100000 in
set_option maxHeartbeats 4000000 in
theorem X10_worth_b118_ok {g : gx} (hg : EC g cX10_worth RX10 5) {a1 : Int32} {a2 : Int32} {a3 : Int32} {r : Int64 × mm} (hr : RT g (some .long) (0, 0) (some (.long r.1)) (cells r.2)) {x4 : Int32} {s1 : Int32} {s2 : Int32} {o5 : Option Value} {M : mm} (h : X10_worth_b118 a1 a2 a3 x4 s1 s2 M = some r) : E g (0, 0) 118 [some (.ref 0), some (.int a1), some (.int a2), some (.int a3), some (.int x4), o5] [.int s2, .int s1, .ref 21] (cells M) := by
  unfold X10_worth_b118 at h
  obtain ⟨u25, M26, hc27, h⟩ := o_bd h
  refine m_callVV (rest := []) (M' := M26) (ci := 4) hg mfX4_think mvX4_think (X4_think_ok (r := (u25, M26)) hc27) lk_791 dX10_worth_118 io_21 rfl rfl rfl (by omega) (Nat.le_of_ble_eq_true rfl) ?_
  refine e_aload_n hg dX10_worth_121 rfl ?_
  refine m_getR (q := 21) hg ciX10 2 lk_454 dX10_worth_122 io_0 (Nat.le_of_ble_eq_true rfl) rfl rf_0_2 ?_
  refine e_aload_n hg dX10_worth_125 rfl ?_
  refine m_getR (q := 28) hg ciX10 4 lk_456 dX10_worth_126 io_0 (Nat.le_of_ble_eq_true rfl) rfl rf_0_4 ?_
  refine m_getR (q := (28 + 1)) hg ciX9 2 lk_319 dX10_worth_129 io_28 (Nat.le_of_ble_eq_true rfl) rfl (rfF9_2 io_28) ?_
  refine e_iload hg dX10_worth_132 rfl ?_
  obtain ⟨hi28, h⟩ := o_gd h
  refine m_iald hg (shF9_1 io_28) hi28 dX10_worth_134 ?_
  obtain ⟨v29, M30, hc31, h⟩ := o_bd h
  refine m_callVJ (rest := []) (v := v29) (M' := M30) (ci := 4) hg mfX4_worthAt mvX4_worthAt (X4_worthAt_ok (r := (v29, M30)) hc31) lk_792 dX10_worth_135 io_21 rfl rfl rfl (by omega) (Nat.le_of_ble_eq_true rfl) ?_
  refine e_iload_n hg dX10_worth_138 rfl ?_
  refine e_bipush (v := 10) hg dX10_worth_139 (by decide) ?_
  refine e_irem hg dX10_worth_141 (by decide) ?_
  refine e_iload_n hg dX10_worth_142 rfl ?_
  obtain ⟨v32, M33, hc34, h⟩ := o_bd h
  refine m_callSJ (rest := []) (v := v32) (M' := M33) hg mfX10_fraction mvX10_fraction (X10_fraction_ok (r := (v32, M33)) hc34) lk_793 dX10_worth_143 rfl rfl (by omega) (Nat.le_of_ble_eq_true rfl) ?_
  exact m_lret hg hr dX10_worth_146 h

def X10_worth (a1 : Int32) (a2 : Int32) (a3 : Int32) (M : mm) : Option (Int64 × mm) :=
  bd (X10_isThought a1 M) fun v1 M2 =>
  if v1 = 0 then
    some ((-9223372036854775808), M2)
  else
    bd (X10_isZeroOrOne a2 M2) fun v5 M6 =>
    if v5 = 0 then
      some ((-9223372036854775808), M6)
    else
      bd (X10_isZeroOrOne a3 M6) fun v9 M10 =>
      if v9 = 0 then
        some ((-9223372036854775808), M10)
      else
        gd (inb (a1 / 10) 6) <|
        gd (inb (M10.1 5 (a1 / 10).toNatClampNeg) 5) <|
        bd (X4_consider (a1 / 10) (M10.1 5 (a1 / 10).toNatClampNeg) (M10.1 2 (M10.1 5 (a1 / 10).toNatClampNeg).toNatClampNeg) M10) fun u15 M16 =>
        gd (inb (a1 / 10) 6) <|
        gd (inb (a1 / 10) 6) <|
        bd (X4_start (M16.1 (28 + 2) (a1 / 10).toNatClampNeg) (M16.1 (28 + 4) (a1 / 10).toNatClampNeg) M16) fun u20 M21 =>
        if a2 = 0 then
          gd (inb (M10.1 5 (a1 / 10).toNatClampNeg) 5) <|
          X10_worth_b118 a1 a2 a3 (a1 / 10) (a1 - a1 / 10 * 10) (M21.1 4 (M10.1 5 (a1 / 10).toNatClampNeg).toNatClampNeg) M21
        else
          X10_worth_b118 a1 a2 a3 (a1 / 10) (a1 - a1 / 10 * 10) 4 M21
set_option maxRecDepth 100000 in
set_option maxHeartbeats 4000000 in
theorem X10_worth_ok {a1 : Int32} {a2 : Int32} {a3 : Int32} {M : mm} {r : Int64 × mm} (h : X10_worth a1 a2 a3 M = some r) : CM yX10_worth cX10_worth 6 (some .long) 5 [.ref 0, .int a1, .int a2, .int a3] (cells M) (some (.long r.1)) (cells r.2) := by
  refine cm_of (ls := [some (.ref 0), some (.int a1), some (.int a2), some (.int a3), none, none]) mfX10_worth rfl (Nat.le_of_ble_eq_true rfl) (fun g hg hr => ?_)
  unfold X10_worth at h
  refine e_aload_n hg dX10_worth_0 rfl ?_
  refine e_iload_n hg dX10_worth_1 rfl ?_
  obtain ⟨v1, M2, hc3, h⟩ := o_bd h
  refine m_callVI (rest := []) (v := v1) (M' := M2) (ci := 10) hg mfX10_isThought mvX10_isThought (X10_isThought_ok (r := (v1, M2)) hc3) lk_781 dX10_worth_2 io_0 rfl rfl rfl (by omega) (Nat.le_of_ble_eq_true rfl) ?_
  refine e_ifeq hg 22 dX10_worth_5 (by decide) (fun c4 => ?_) (fun c4 => ?_)
  · have h := o_pos c4 h
    refine e_ldc2 hg dX10_worth_22 lk_788 ?_
    exact m_lret hg hr dX10_worth_25 h
  · have h := o_neg c4 h
    refine e_iload_n hg dX10_worth_8 rfl ?_
    obtain ⟨v5, M6, hc7, h⟩ := o_bd h
    refine m_callSI (rest := []) (v := v5) (M' := M6) hg mfX10_isZeroOrOne mvX10_isZeroOrOne (X10_isZeroOrOne_ok (r := (v5, M6)) hc7) lk_785 dX10_worth_9 rfl rfl (by omega) (Nat.le_of_ble_eq_true rfl) ?_
    refine e_ifeq hg 22 dX10_worth_12 (by decide) (fun c8 => ?_) (fun c8 => ?_)
    · have h := o_pos c8 h
      refine e_ldc2 hg dX10_worth_22 lk_788 ?_
      exact m_lret hg hr dX10_worth_25 h
    · have h := o_neg c8 h
      refine e_iload_n hg dX10_worth_15 rfl ?_
      obtain ⟨v9, M10, hc11, h⟩ := o_bd h
      refine m_callSI (rest := []) (v := v9) (M' := M10) hg mfX10_isZeroOrOne mvX10_isZeroOrOne (X10_isZeroOrOne_ok (r := (v9, M10)) hc11) lk_785 dX10_worth_16 rfl rfl (by omega) (Nat.le_of_ble_eq_true rfl) ?_
      refine e_ifne hg 26 dX10_worth_19 (by decide) (fun c12 => ?_) (fun c12 => ?_)
      · have h := o_pos c12 h
        refine e_ldc2 hg dX10_worth_22 lk_788 ?_
        exact m_lret hg hr dX10_worth_25 h
      · have h := o_neg c12 h
        refine e_iload_n hg dX10_worth_26 rfl ?_
        refine e_bipush (v := 10) hg dX10_worth_27 (by decide) ?_
        refine e_idiv hg dX10_worth_29 (by decide) ?_
        refine e_istore (ls' := [some (.ref 0), some (.int a1), some (.int a2), some (.int a3), some (.int (a1 / 10)), none]) hg dX10_worth_30 rfl ?_
        refine e_aload_n hg dX10_worth_32 rfl ?_
        refine m_getR (q := 1) hg ciX10 0 lk_452 dX10_worth_33 io_0 (Nat.le_of_ble_eq_true rfl) rfl rf_0_0 ?_
        refine m_getR (q := 5) hg ciX3 8 lk_122 dX10_worth_36 io_1 (Nat.le_of_ble_eq_true rfl) rfl rf_1_8 ?_
        refine e_iload hg dX10_worth_39 rfl ?_
        obtain ⟨hi13, h⟩ := o_gd h
        refine m_iald hg sh_5 hi13 dX10_worth_41 ?_
        refine e_istore (ls' := [some (.ref 0), some (.int a1), some (.int a2), some (.int a3), some (.int (a1 / 10)), some (.int (M10.1 5 (a1 / 10).toNatClampNeg))]) hg dX10_worth_42 rfl ?_
        refine e_aload_n hg dX10_worth_44 rfl ?_
        refine m_getR (q := 21) hg ciX10 2 lk_454 dX10_worth_45 io_0 (Nat.le_of_ble_eq_true rfl) rfl rf_0_2 ?_
        refine e_iload hg dX10_worth_48 rfl ?_
        refine e_iload hg dX10_worth_50 rfl ?_
        refine e_aload_n hg dX10_worth_52 rfl ?_
        refine m_getR (q := 1) hg ciX10 0 lk_452 dX10_worth_53 io_0 (Nat.le_of_ble_eq_true rfl) rfl rf_0_0 ?_
        refine m_getR (q := 2) hg ciX3 5 lk_111 dX10_worth_56 io_1 (Nat.le_of_ble_eq_true rfl) rfl rf_1_5 ?_
        refine e_iload hg dX10_worth_59 rfl ?_
        obtain ⟨hi14, h⟩ := o_gd h
        refine m_iald hg sh_2 hi14 dX10_worth_61 ?_
        obtain ⟨u15, M16, hc17, h⟩ := o_bd h
        refine m_callVV (rest := []) (M' := M16) (ci := 4) hg mfX4_consider mvX4_consider (X4_consider_ok (r := (u15, M16)) hc17) lk_789 dX10_worth_62 io_21 rfl rfl rfl (by omega) (Nat.le_of_ble_eq_true rfl) ?_
        refine e_aload_n hg dX10_worth_65 rfl ?_
        refine m_getR (q := 21) hg ciX10 2 lk_454 dX10_worth_66 io_0 (Nat.le_of_ble_eq_true rfl) rfl rf_0_2 ?_
        refine e_aload_n hg dX10_worth_69 rfl ?_
        refine m_getR (q := 28) hg ciX10 4 lk_456 dX10_worth_70 io_0 (Nat.le_of_ble_eq_true rfl) rfl rf_0_4 ?_
        refine m_getR (q := (28 + 2)) hg ciX9 3 lk_323 dX10_worth_73 io_28 (Nat.le_of_ble_eq_true rfl) rfl (rfF9_3 io_28) ?_
        refine e_iload hg dX10_worth_76 rfl ?_
        obtain ⟨hi18, h⟩ := o_gd h
        refine m_iald hg (shF9_2 io_28) hi18 dX10_worth_78 ?_
        refine e_aload_n hg dX10_worth_79 rfl ?_
        refine m_getR (q := 28) hg ciX10 4 lk_456 dX10_worth_80 io_0 (Nat.le_of_ble_eq_true rfl) rfl rf_0_4 ?_
        refine m_getR (q := (28 + 4)) hg ciX9 5 lk_330 dX10_worth_83 io_28 (Nat.le_of_ble_eq_true rfl) rfl (rfF9_5 io_28) ?_
        refine e_iload hg dX10_worth_86 rfl ?_
        obtain ⟨hi19, h⟩ := o_gd h
        refine m_iald hg (shF9_4 io_28) hi19 dX10_worth_88 ?_
        obtain ⟨u20, M21, hc22, h⟩ := o_bd h
        refine m_callVV (rest := []) (M' := M21) (ci := 4) hg mfX4_start mvX4_start (X4_start_ok (r := (u20, M21)) hc22) lk_790 dX10_worth_89 io_21 rfl rfl rfl (by omega) (Nat.le_of_ble_eq_true rfl) ?_
        refine e_aload_n hg dX10_worth_92 rfl ?_
        refine m_getR (q := 21) hg ciX10 2 lk_454 dX10_worth_93 io_0 (Nat.le_of_ble_eq_true rfl) rfl rf_0_2 ?_
        refine e_iload_n hg dX10_worth_96 rfl ?_
        refine e_bipush (v := 10) hg dX10_worth_97 (by decide) ?_
        refine e_irem hg dX10_worth_99 (by decide) ?_
        refine e_iload_n hg dX10_worth_100 rfl ?_
        refine e_ifne hg 117 dX10_worth_101 (by decide) (fun c23 => ?_) (fun c23 => ?_)
        · have h := o_pos c23 h
          refine e_aload_n hg dX10_worth_104 rfl ?_
          refine m_getR (q := 1) hg ciX10 0 lk_452 dX10_worth_105 io_0 (Nat.le_of_ble_eq_true rfl) rfl rf_0_0 ?_
          refine m_getR (q := 4) hg ciX3 7 lk_119 dX10_worth_108 io_1 (Nat.le_of_ble_eq_true rfl) rfl rf_1_7 ?_
          refine e_iload hg dX10_worth_111 rfl ?_
          obtain ⟨hi24, h⟩ := o_gd h
          refine m_iald hg sh_4 hi24 dX10_worth_113 ?_
          refine e_goto hg 118 dX10_worth_114 (by decide) ?_
          exact X10_worth_b118_ok hg hr  h
        · have h := o_neg c23 h
          refine e_iconst (v := 4) hg dX10_worth_117 (by decide) ?_
          exact X10_worth_b118_ok hg hr  h

def X10_leastSkill_L2 (a1 : Int32) (a2 : Int32) : Nat → Int32 → mm → Option (Int32 × mm)
  | 0, _, _ => none
  | n_ + 1, x3, M =>
    if 3 < x3 then
      some ((-2), M)
    else
      gd (inb a1 6) <|
      bd (X4_consider a1 (M.1 5 a1.toNatClampNeg) x3 M) fun u3 M4 =>
      gd (inb a1 6) <|
      gd (inb a1 6) <|
      bd (X4_start (M4.1 (28 + 2) a1.toNatClampNeg) (M4.1 (28 + 4) a1.toNatClampNeg) M4) fun u8 M9 =>
      bd (X4_think a2 4 M9) fun u11 M12 =>
      gd (inb a1 6) <|
      bd (X4_mendsAt (M12.1 (28 + 1) a1.toNatClampNeg) M12) fun v15 M16 =>
      if v15 = 0 then
        (X10_leastSkill_L2 a1 a2 n_) (x3 + 1) M16
      else
        some (x3, M16)
set_option maxRecDepth 100000 in
set_option maxHeartbeats 4000000 in
theorem X10_leastSkill_L2_ok {g : gx} (hg : EC g cX10_leastSkill RX10 5) {a1 : Int32} {a2 : Int32} {r : Int32 × mm} (hr : RT g (some .int) (0, 0) (some (.int r.1)) (cells r.2)) : ∀ (n_ : Nat) (x3 : Int32) (M : mm), X10_leastSkill_L2 a1 a2 n_ x3 M = some r → E g (0, 0) 2 [some (.ref 0), some (.int a1), some (.int a2), some (.int x3)] [] (cells M) := by
  intro n_
  induction n_ with
  | zero => intro x3 M h; exact o_no h
  | succ n_ ih =>
    intro x3 M h
    rw [X10_leastSkill_L2] at h
    refine e_iload_n hg dX10_leastSkill_2 rfl ?_
    refine e_iconst (v := 3) hg dX10_leastSkill_3 (by decide) ?_
    refine e_icmpgt hg 86 dX10_leastSkill_4 (by decide) (fun c1 => ?_) (fun c1 => ?_)
    · have h := o_pos c1 h
      refine e_bipush (v := -2) hg dX10_leastSkill_86 (by decide) ?_
      exact m_iret hg hr dX10_leastSkill_88 h
    · have h := o_neg c1 h
      refine e_aload_n hg dX10_leastSkill_7 rfl ?_
      refine m_getR (q := 21) hg ciX10 2 lk_454 dX10_leastSkill_8 io_0 (Nat.le_of_ble_eq_true rfl) rfl rf_0_2 ?_
      refine e_iload_n hg dX10_leastSkill_11 rfl ?_
      refine e_aload_n hg dX10_leastSkill_12 rfl ?_
      refine m_getR (q := 1) hg ciX10 0 lk_452 dX10_leastSkill_13 io_0 (Nat.le_of_ble_eq_true rfl) rfl rf_0_0 ?_
      refine m_getR (q := 5) hg ciX3 8 lk_122 dX10_leastSkill_16 io_1 (Nat.le_of_ble_eq_true rfl) rfl rf_1_8 ?_
      refine e_iload_n hg dX10_leastSkill_19 rfl ?_
      obtain ⟨hi2, h⟩ := o_gd h
      refine m_iald hg sh_5 hi2 dX10_leastSkill_20 ?_
      refine e_iload_n hg dX10_leastSkill_21 rfl ?_
      obtain ⟨u3, M4, hc5, h⟩ := o_bd h
      refine m_callVV (rest := []) (M' := M4) (ci := 4) hg mfX4_consider mvX4_consider (X4_consider_ok (r := (u3, M4)) hc5) lk_789 dX10_leastSkill_22 io_21 rfl rfl rfl (by omega) (Nat.le_of_ble_eq_true rfl) ?_
      refine e_aload_n hg dX10_leastSkill_25 rfl ?_
      refine m_getR (q := 21) hg ciX10 2 lk_454 dX10_leastSkill_26 io_0 (Nat.le_of_ble_eq_true rfl) rfl rf_0_2 ?_
      refine e_aload_n hg dX10_leastSkill_29 rfl ?_
      refine m_getR (q := 28) hg ciX10 4 lk_456 dX10_leastSkill_30 io_0 (Nat.le_of_ble_eq_true rfl) rfl rf_0_4 ?_
      refine m_getR (q := (28 + 2)) hg ciX9 3 lk_323 dX10_leastSkill_33 io_28 (Nat.le_of_ble_eq_true rfl) rfl (rfF9_3 io_28) ?_
      refine e_iload_n hg dX10_leastSkill_36 rfl ?_
      obtain ⟨hi6, h⟩ := o_gd h
      refine m_iald hg (shF9_2 io_28) hi6 dX10_leastSkill_37 ?_
      refine e_aload_n hg dX10_leastSkill_38 rfl ?_
      refine m_getR (q := 28) hg ciX10 4 lk_456 dX10_leastSkill_39 io_0 (Nat.le_of_ble_eq_true rfl) rfl rf_0_4 ?_
      refine m_getR (q := (28 + 4)) hg ciX9 5 lk_330 dX10_leastSkill_42 io_28 (Nat.le_of_ble_eq_true rfl) rfl (rfF9_5 io_28) ?_
      refine e_iload_n hg dX10_leastSkill_45 rfl ?_
      obtain ⟨hi7, h⟩ := o_gd h
      refine m_iald hg (shF9_4 io_28) hi7 dX10_leastSkill_46 ?_
      obtain ⟨u8, M9, hc10, h⟩ := o_bd h
      refine m_callVV (rest := []) (M' := M9) (ci := 4) hg mfX4_start mvX4_start (X4_start_ok (r := (u8, M9)) hc10) lk_790 dX10_leastSkill_47 io_21 rfl rfl rfl (by omega) (Nat.le_of_ble_eq_true rfl) ?_
      refine e_aload_n hg dX10_leastSkill_50 rfl ?_
      refine m_getR (q := 21) hg ciX10 2 lk_454 dX10_leastSkill_51 io_0 (Nat.le_of_ble_eq_true rfl) rfl rf_0_2 ?_
      refine e_iload_n hg dX10_leastSkill_54 rfl ?_
      refine e_iconst (v := 4) hg dX10_leastSkill_55 (by decide) ?_
      obtain ⟨u11, M12, hc13, h⟩ := o_bd h
      refine m_callVV (rest := []) (M' := M12) (ci := 4) hg mfX4_think mvX4_think (X4_think_ok (r := (u11, M12)) hc13) lk_791 dX10_leastSkill_56 io_21 rfl rfl rfl (by omega) (Nat.le_of_ble_eq_true rfl) ?_
      refine e_aload_n hg dX10_leastSkill_59 rfl ?_
      refine m_getR (q := 21) hg ciX10 2 lk_454 dX10_leastSkill_60 io_0 (Nat.le_of_ble_eq_true rfl) rfl rf_0_2 ?_
      refine e_aload_n hg dX10_leastSkill_63 rfl ?_
      refine m_getR (q := 28) hg ciX10 4 lk_456 dX10_leastSkill_64 io_0 (Nat.le_of_ble_eq_true rfl) rfl rf_0_4 ?_
      refine m_getR (q := (28 + 1)) hg ciX9 2 lk_319 dX10_leastSkill_67 io_28 (Nat.le_of_ble_eq_true rfl) rfl (rfF9_2 io_28) ?_
      refine e_iload_n hg dX10_leastSkill_70 rfl ?_
      obtain ⟨hi14, h⟩ := o_gd h
      refine m_iald hg (shF9_1 io_28) hi14 dX10_leastSkill_71 ?_
      obtain ⟨v15, M16, hc17, h⟩ := o_bd h
      refine m_callVI (rest := []) (v := v15) (M' := M16) (ci := 4) hg mfX4_mendsAt mvX4_mendsAt (X4_mendsAt_ok (r := (v15, M16)) hc17) lk_808 dX10_leastSkill_72 io_21 rfl rfl rfl (by omega) (Nat.le_of_ble_eq_true rfl) ?_
      refine e_ifeq hg 80 dX10_leastSkill_75 (by decide) (fun c18 => ?_) (fun c18 => ?_)
      · have h := o_pos c18 h
        refine e_iinc (v := (x3 + 1)) (ls' := [some (.ref 0), some (.int a1), some (.int a2), some (.int (x3 + 1))]) hg dX10_leastSkill_80 rfl rfl rfl ?_
        refine e_goto hg 2 dX10_leastSkill_83 (by decide) ?_
        exact ih _ _ h
      · have h := o_neg c18 h
        refine e_iload_n hg dX10_leastSkill_78 rfl ?_
        exact m_iret hg hr dX10_leastSkill_79 h

def X10_leastSkill (a1 : Int32) (a2 : Int32) (M : mm) : Option (Int32 × mm) :=
  X10_leastSkill_L2 a1 a2 10000 1 M
set_option maxRecDepth 100000 in
set_option maxHeartbeats 4000000 in
theorem X10_leastSkill_ok {a1 : Int32} {a2 : Int32} {M : mm} {r : Int32 × mm} (h : X10_leastSkill a1 a2 M = some r) : CM yX10_leastSkill cX10_leastSkill 4 (some .int) 5 [.ref 0, .int a1, .int a2] (cells M) (some (.int r.1)) (cells r.2) := by
  refine cm_of (ls := [some (.ref 0), some (.int a1), some (.int a2), none]) mfX10_leastSkill rfl (Nat.le_of_ble_eq_true rfl) (fun g hg hr => ?_)
  unfold X10_leastSkill at h
  refine e_iconst (v := 1) hg dX10_leastSkill_0 (by decide) ?_
  refine e_istore_n (ls' := [some (.ref 0), some (.int a1), some (.int a2), some (.int 1)]) hg dX10_leastSkill_1 rfl ?_
  exact X10_leastSkill_L2_ok hg hr  10000 _ _ h

def X10_now_b173 (a1 : Int32) (a2 : Int32) (R144 : Int32 → Int32 → mm → Option (Int32 × mm)) (x6 : Int32) (x7 : Int32) (M : mm) : Option (Int32 × mm) :=
  R144 x6 (x7 + 1) M
set_option maxRecDepth 100000 in
set_option maxHeartbeats 4000000 in
theorem X10_now_b173_ok {g : gx} (hg : EC g cX10_now RX10 6) {a1 : Int32} {a2 : Int32} {r : Int32 × mm} (hr : RT g (some .int) (0, 0) (some (.int r.1)) (cells r.2)) {R144 : Int32 → Int32 → mm → Option (Int32 × mm)} (hR144 : ∀ (x6 : Int32) (x7 : Int32) (o3 : Option Value) (o4 : Option Value) (o5 : Option Value) (M : mm), R144 x6 x7 M = some r → E g (0, 0) 144 [some (.ref 0), some (.int a1), some (.int a2), o3, o4, o5, some (.int x6), some (.int x7)] [] (cells M)) {x6 : Int32} {x7 : Int32} {o3 : Option Value} {o4 : Option Value} {o5 : Option Value} {M : mm} (h : X10_now_b173 a1 a2 R144 x6 x7 M = some r) : E g (0, 0) 173 [some (.ref 0), some (.int a1), some (.int a2), o3, o4, o5, some (.int x6), some (.int x7)] [] (cells M) := by
  unfold X10_now_b173 at h
  refine e_iinc (v := (x7 + 1)) (ls' := [some (.ref 0), some (.int a1), some (.int a2), o3, o4, o5, some (.int x6), some (.int (x7 + 1))]) hg dX10_now_173 rfl rfl rfl ?_
  refine e_goto hg 144 dX10_now_176 (by decide) ?_
  exact hR144 _ _ _ _ _ _ h

def X10_now_L144 (a1 : Int32) (a2 : Int32) : Nat → Int32 → Int32 → mm → Option (Int32 × mm)
  | 0, _, _, _ => none
  | n_ + 1, x6, x7, M =>
    if 3 < x7 then
      some (x6, M)
    else
      bd (X4_mendsAt x7 M) fun v31 M32 =>
      X10_now_b173 a1 a2 (X10_now_L144 a1 a2 n_) (if v31 = 0 then x6 else (x6 ||| (1 <<< ((x7 - 1) &&& 31)))) x7 M32
set_option maxRecDepth 100000 in
set_option maxHeartbeats 4000000 in
theorem X10_now_L144_ok {g : gx} (hg : EC g cX10_now RX10 6) {a1 : Int32} {a2 : Int32} {r : Int32 × mm} (hr : RT g (some .int) (0, 0) (some (.int r.1)) (cells r.2)) : ∀ (n_ : Nat) (x6 : Int32) (x7 : Int32) (o3 : Option Value) (o4 : Option Value) (o5 : Option Value) (M : mm), X10_now_L144 a1 a2 n_ x6 x7 M = some r → E g (0, 0) 144 [some (.ref 0), some (.int a1), some (.int a2), o3, o4, o5, some (.int x6), some (.int x7)] [] (cells M) := by
  intro n_
  induction n_ with
  | zero => intro x6 x7 o3 o4 o5 M h; exact o_no h
  | succ n_ ih =>
    intro x6 x7 o3 o4 o5 M h
    rw [X10_now_L144] at h
    refine e_iload hg dX10_now_144 rfl ?_
    refine e_iconst (v := 3) hg dX10_now_146 (by decide) ?_
    refine e_icmpgt hg 179 dX10_now_147 (by decide) (fun c30 => ?_) (fun c30 => ?_)
    · have h := o_pos c30 h
      refine e_iload hg dX10_now_179 rfl ?_
      exact m_iret hg hr dX10_now_181 h
    · have h := o_neg c30 h
      refine e_aload_n hg dX10_now_150 rfl ?_
      refine m_getR (q := 21) hg ciX10 2 lk_454 dX10_now_151 io_0 (Nat.le_of_ble_eq_true rfl) rfl rf_0_2 ?_
      refine e_iload hg dX10_now_154 rfl ?_
      obtain ⟨v31, M32, hc33, h⟩ := o_bd h
      refine m_callVI (rest := []) (v := v31) (M' := M32) (ci := 4) hg mfX4_mendsAt mvX4_mendsAt (X4_mendsAt_ok (r := (v31, M32)) hc33) lk_808 dX10_now_156 io_21 rfl rfl rfl (by omega) (Nat.le_of_ble_eq_true rfl) ?_
      refine e_ifeq hg 173 dX10_now_159 (by decide) (fun c34 => ?_) (fun c34 => ?_)
      · simp only [if_pos c34] at h
        exact X10_now_b173_ok hg hr ih h
      · simp only [if_neg c34] at h
        refine e_iload hg dX10_now_162 rfl ?_
        refine e_iconst (v := 1) hg dX10_now_164 (by decide) ?_
        refine e_iload hg dX10_now_165 rfl ?_
        refine e_iconst (v := 1) hg dX10_now_167 (by decide) ?_
        refine e_isub hg dX10_now_168 ?_
        refine e_ishl hg dX10_now_169 ?_
        refine e_ior hg dX10_now_170 ?_
        refine e_drop (ls2 := [some (.ref 0), some (.int a1), some (.int a2), o3, o4, none, some (.int x6), some (.int x7)]) 5 rfl ?_
        refine e_istore (ls' := [some (.ref 0), some (.int a1), some (.int a2), o3, o4, none, some (.int (x6 ||| (1 <<< ((x7 - 1) &&& 31)))), some (.int x7)]) hg dX10_now_171 rfl ?_
        exact X10_now_b173_ok hg hr ih h

def X10_now (a1 : Int32) (a2 : Int32) (M : mm) : Option (Int32 × mm) :=
  bd (X10_isThought a1 M) fun v1 M2 =>
  if v1 = 0 then
    some ((-1), M2)
  else
    if a2 < 0 then
      some ((-1), M2)
    else
      if 2 < a2 then
        some ((-1), M2)
      else
        gd (inb (a1 / 10) 6) <|
        if a2 = 2 then
          bd (X10_leastSkill (a1 / 10) (a1 - a1 / 10 * 10) M2) fun v9 M10 =>
          some (v9, M10)
        else
          gd (inb (M2.1 5 (a1 / 10).toNatClampNeg) 5) <|
          bd (X4_consider (a1 / 10) (M2.1 5 (a1 / 10).toNatClampNeg) (M2.1 2 (M2.1 5 (a1 / 10).toNatClampNeg).toNatClampNeg) M2) fun u13 M14 =>
          gd (inb (a1 / 10) 6) <|
          gd (inb (a1 / 10) 6) <|
          bd (X4_start (M14.1 (28 + 2) (a1 / 10).toNatClampNeg) (M14.1 (28 + 4) (a1 / 10).toNatClampNeg) M14) fun u18 M19 =>
          bd (X4_think (a1 - a1 / 10 * 10) 4 M19) fun u21 M22 =>
          if a2 = 0 then
            gd (inb (a1 / 10) 6) <|
            bd (X4_mendsAt (M22.1 (28 + 1) (a1 / 10).toNatClampNeg) M22) fun v26 M27 =>
            if v26 = 0 then
              some (0, M27)
            else
              some (1, M27)
          else
            X10_now_L144 a1 a2 10000 0 1 M22
set_option maxRecDepth 100000 in
set_option maxHeartbeats 4000000 in
theorem X10_now_ok {a1 : Int32} {a2 : Int32} {M : mm} {r : Int32 × mm} (h : X10_now a1 a2 M = some r) : CM yX10_now cX10_now 8 (some .int) 6 [.ref 0, .int a1, .int a2] (cells M) (some (.int r.1)) (cells r.2) := by
  refine cm_of (ls := [some (.ref 0), some (.int a1), some (.int a2), none, none, none, none, none]) mfX10_now rfl (Nat.le_of_ble_eq_true rfl) (fun g hg hr => ?_)
  unfold X10_now at h
  refine e_aload_n hg dX10_now_0 rfl ?_
  refine e_iload_n hg dX10_now_1 rfl ?_
  obtain ⟨v1, M2, hc3, h⟩ := o_bd h
  refine m_callVI (rest := []) (v := v1) (M' := M2) (ci := 10) hg mfX10_isThought mvX10_isThought (X10_isThought_ok (r := (v1, M2)) hc3) lk_781 dX10_now_2 io_0 rfl rfl rfl (by omega) (Nat.le_of_ble_eq_true rfl) ?_
  refine e_ifeq hg 17 dX10_now_5 (by decide) (fun c4 => ?_) (fun c4 => ?_)
  · have h := o_pos c4 h
    refine e_iconst (v := -1) hg dX10_now_17 (by decide) ?_
    exact m_iret hg hr dX10_now_18 h
  · have h := o_neg c4 h
    refine e_iload_n hg dX10_now_8 rfl ?_
    refine e_iflt hg 17 dX10_now_9 (by decide) (fun c5 => ?_) (fun c5 => ?_)
    · have h := o_pos c5 h
      refine e_iconst (v := -1) hg dX10_now_17 (by decide) ?_
      exact m_iret hg hr dX10_now_18 h
    · have h := o_neg c5 h
      refine e_iload_n hg dX10_now_12 rfl ?_
      refine e_iconst (v := 2) hg dX10_now_13 (by decide) ?_
      refine e_icmple hg 19 dX10_now_14 (by decide) (fun c6 => ?_) (fun c6 => ?_)
      · have h := o_pos c6 h
        refine e_iconst (v := -1) hg dX10_now_17 (by decide) ?_
        exact m_iret hg hr dX10_now_18 h
      · have h := o_neg c6 h
        refine e_iload_n hg dX10_now_19 rfl ?_
        refine e_bipush (v := 10) hg dX10_now_20 (by decide) ?_
        refine e_idiv hg dX10_now_22 (by decide) ?_
        refine e_istore_n (ls' := [some (.ref 0), some (.int a1), some (.int a2), some (.int (a1 / 10)), none, none, none, none]) hg dX10_now_23 rfl ?_
        refine e_iload_n hg dX10_now_24 rfl ?_
        refine e_bipush (v := 10) hg dX10_now_25 (by decide) ?_
        refine e_irem hg dX10_now_27 (by decide) ?_
        refine e_istore (ls' := [some (.ref 0), some (.int a1), some (.int a2), some (.int (a1 / 10)), some (.int (a1 - a1 / 10 * 10)), none, none, none]) hg dX10_now_28 rfl ?_
        refine e_aload_n hg dX10_now_30 rfl ?_
        refine m_getR (q := 1) hg ciX10 0 lk_452 dX10_now_31 io_0 (Nat.le_of_ble_eq_true rfl) rfl rf_0_0 ?_
        refine m_getR (q := 5) hg ciX3 8 lk_122 dX10_now_34 io_1 (Nat.le_of_ble_eq_true rfl) rfl rf_1_8 ?_
        refine e_iload_n hg dX10_now_37 rfl ?_
        obtain ⟨hi7, h⟩ := o_gd h
        refine m_iald hg sh_5 hi7 dX10_now_38 ?_
        refine e_istore (ls' := [some (.ref 0), some (.int a1), some (.int a2), some (.int (a1 / 10)), some (.int (a1 - a1 / 10 * 10)), some (.int (M2.1 5 (a1 / 10).toNatClampNeg)), none, none]) hg dX10_now_39 rfl ?_
        refine e_iload_n hg dX10_now_41 rfl ?_
        refine e_iconst (v := 2) hg dX10_now_42 (by decide) ?_
        refine e_icmpne hg 54 dX10_now_43 (by decide) (fun c8 => ?_) (fun c8 => ?_)
        · have h := o_pos c8 h
          refine e_aload_n hg dX10_now_46 rfl ?_
          refine e_iload_n hg dX10_now_47 rfl ?_
          refine e_iload hg dX10_now_48 rfl ?_
          obtain ⟨v9, M10, hc11, h⟩ := o_bd h
          refine m_callVI (rest := []) (v := v9) (M' := M10) (ci := 10) hg mfX10_leastSkill mvX10_leastSkill (X10_leastSkill_ok (r := (v9, M10)) hc11) lk_804 dX10_now_50 io_0 rfl rfl rfl (by omega) (Nat.le_of_ble_eq_true rfl) ?_
          exact m_iret hg hr dX10_now_53 h
        · have h := o_neg c8 h
          refine e_aload_n hg dX10_now_54 rfl ?_
          refine m_getR (q := 21) hg ciX10 2 lk_454 dX10_now_55 io_0 (Nat.le_of_ble_eq_true rfl) rfl rf_0_2 ?_
          refine e_iload_n hg dX10_now_58 rfl ?_
          refine e_iload hg dX10_now_59 rfl ?_
          refine e_aload_n hg dX10_now_61 rfl ?_
          refine m_getR (q := 1) hg ciX10 0 lk_452 dX10_now_62 io_0 (Nat.le_of_ble_eq_true rfl) rfl rf_0_0 ?_
          refine m_getR (q := 2) hg ciX3 5 lk_111 dX10_now_65 io_1 (Nat.le_of_ble_eq_true rfl) rfl rf_1_5 ?_
          refine e_iload hg dX10_now_68 rfl ?_
          obtain ⟨hi12, h⟩ := o_gd h
          refine m_iald hg sh_2 hi12 dX10_now_70 ?_
          obtain ⟨u13, M14, hc15, h⟩ := o_bd h
          refine m_callVV (rest := []) (M' := M14) (ci := 4) hg mfX4_consider mvX4_consider (X4_consider_ok (r := (u13, M14)) hc15) lk_789 dX10_now_71 io_21 rfl rfl rfl (by omega) (Nat.le_of_ble_eq_true rfl) ?_
          refine e_aload_n hg dX10_now_74 rfl ?_
          refine m_getR (q := 21) hg ciX10 2 lk_454 dX10_now_75 io_0 (Nat.le_of_ble_eq_true rfl) rfl rf_0_2 ?_
          refine e_aload_n hg dX10_now_78 rfl ?_
          refine m_getR (q := 28) hg ciX10 4 lk_456 dX10_now_79 io_0 (Nat.le_of_ble_eq_true rfl) rfl rf_0_4 ?_
          refine m_getR (q := (28 + 2)) hg ciX9 3 lk_323 dX10_now_82 io_28 (Nat.le_of_ble_eq_true rfl) rfl (rfF9_3 io_28) ?_
          refine e_iload_n hg dX10_now_85 rfl ?_
          obtain ⟨hi16, h⟩ := o_gd h
          refine m_iald hg (shF9_2 io_28) hi16 dX10_now_86 ?_
          refine e_aload_n hg dX10_now_87 rfl ?_
          refine m_getR (q := 28) hg ciX10 4 lk_456 dX10_now_88 io_0 (Nat.le_of_ble_eq_true rfl) rfl rf_0_4 ?_
          refine m_getR (q := (28 + 4)) hg ciX9 5 lk_330 dX10_now_91 io_28 (Nat.le_of_ble_eq_true rfl) rfl (rfF9_5 io_28) ?_
          refine e_iload_n hg dX10_now_94 rfl ?_
          obtain ⟨hi17, h⟩ := o_gd h
          refine m_iald hg (shF9_4 io_28) hi17 dX10_now_95 ?_
          obtain ⟨u18, M19, hc20, h⟩ := o_bd h
          refine m_callVV (rest := []) (M' := M19) (ci := 4) hg mfX4_start mvX4_start (X4_start_ok (r := (u18, M19)) hc20) lk_790 dX10_now_96 io_21 rfl rfl rfl (by omega) (Nat.le_of_ble_eq_true rfl) ?_
          refine e_aload_n hg dX10_now_99 rfl ?_
          refine m_getR (q := 21) hg ciX10 2 lk_454 dX10_now_100 io_0 (Nat.le_of_ble_eq_true rfl) rfl rf_0_2 ?_
          refine e_iload hg dX10_now_103 rfl ?_
          refine e_iconst (v := 4) hg dX10_now_105 (by decide) ?_
          obtain ⟨u21, M22, hc23, h⟩ := o_bd h
          refine m_callVV (rest := []) (M' := M22) (ci := 4) hg mfX4_think mvX4_think (X4_think_ok (r := (u21, M22)) hc23) lk_791 dX10_now_106 io_21 rfl rfl rfl (by omega) (Nat.le_of_ble_eq_true rfl) ?_
          refine e_iload_n hg dX10_now_109 rfl ?_
          refine e_ifne hg 138 dX10_now_110 (by decide) (fun c24 => ?_) (fun c24 => ?_)
          · have h := o_pos c24 h
            refine e_aload_n hg dX10_now_113 rfl ?_
            refine m_getR (q := 21) hg ciX10 2 lk_454 dX10_now_114 io_0 (Nat.le_of_ble_eq_true rfl) rfl rf_0_2 ?_
            refine e_aload_n hg dX10_now_117 rfl ?_
            refine m_getR (q := 28) hg ciX10 4 lk_456 dX10_now_118 io_0 (Nat.le_of_ble_eq_true rfl) rfl rf_0_4 ?_
            refine m_getR (q := (28 + 1)) hg ciX9 2 lk_319 dX10_now_121 io_28 (Nat.le_of_ble_eq_true rfl) rfl (rfF9_2 io_28) ?_
            refine e_iload_n hg dX10_now_124 rfl ?_
            obtain ⟨hi25, h⟩ := o_gd h
            refine m_iald hg (shF9_1 io_28) hi25 dX10_now_125 ?_
            obtain ⟨v26, M27, hc28, h⟩ := o_bd h
            refine m_callVI (rest := []) (v := v26) (M' := M27) (ci := 4) hg mfX4_mendsAt mvX4_mendsAt (X4_mendsAt_ok (r := (v26, M27)) hc28) lk_808 dX10_now_126 io_21 rfl rfl rfl (by omega) (Nat.le_of_ble_eq_true rfl) ?_
            refine e_ifeq hg 136 dX10_now_129 (by decide) (fun c29 => ?_) (fun c29 => ?_)
            · have h := o_pos c29 h
              refine e_iconst (v := 0) hg dX10_now_136 (by decide) ?_
              exact m_iret hg hr dX10_now_137 h
            · have h := o_neg c29 h
              refine e_iconst (v := 1) hg dX10_now_132 (by decide) ?_
              refine e_goto hg 137 dX10_now_133 (by decide) ?_
              exact m_iret hg hr dX10_now_137 h
          · have h := o_neg c24 h
            refine e_iconst (v := 0) hg dX10_now_138 (by decide) ?_
            refine e_istore (ls' := [some (.ref 0), some (.int a1), some (.int a2), some (.int (a1 / 10)), some (.int (a1 - a1 / 10 * 10)), some (.int (M2.1 5 (a1 / 10).toNatClampNeg)), some (.int 0), none]) hg dX10_now_139 rfl ?_
            refine e_iconst (v := 1) hg dX10_now_141 (by decide) ?_
            refine e_istore (ls' := [some (.ref 0), some (.int a1), some (.int a2), some (.int (a1 / 10)), some (.int (a1 - a1 / 10 * 10)), some (.int (M2.1 5 (a1 / 10).toNatClampNeg)), some (.int 0), some (.int 1)]) hg dX10_now_142 rfl ?_
            exact X10_now_L144_ok hg hr  10000 _ _ _ _ _ _ h

def X10_smith (a1 : Int32) (a2 : Int32) (a3 : Int32) (a4 : Int32) (M : mm) : Option (Int64 × mm) :=
  bd (X10_isThought a1 M) fun v1 M2 =>
  if v1 = 0 then
    some ((-9223372036854775808), M2)
  else
    bd (X3_hasPerson a2 M2) fun v5 M6 =>
    if v5 = 0 then
      some ((-9223372036854775808), M6)
    else
      gd (inb (a1 / 10) 6) <|
      if a2 = (M6.1 5 (a1 / 10).toNatClampNeg) then
        some ((-9223372036854775808), M6)
      else
        bd (X10_isZeroOrOne a3 M6) fun v11 M12 =>
        if v11 = 0 then
          some ((-9223372036854775808), M12)
        else
          bd (X10_isZeroOrOne a4 M12) fun v15 M16 =>
          if v15 = 0 then
            some ((-9223372036854775808), M16)
          else
            gd (inb (a1 / 10) 6) <|
            gd (inb (a1 / 10) 6) <|
            gd (inb a2 5) <|
            lt_ ((if (M16.1 (28 + 1) (a1 / 10).toNatClampNeg) < (M16.1 2 a2.toNatClampNeg) then (M16.1 2 a2.toNatClampNeg) else (M16.1 (28 + 1) (a1 / 10).toNatClampNeg))) fun z22 =>
            if a3 = 1 then
              bd (X4_risk (a1 / 10) z22 0 (a1 - a1 / 10 * 10) M16) fun v24 M25 =>
              bd (X10_fraction v24 (a1 - a1 / 10 * 10) a4 M25) fun v27 M28 =>
              some (v27, M28)
            else
              gd (inb (M16.1 5 (a1 / 10).toNatClampNeg) 5) <|
              bd (X4_consider (a1 / 10) (M16.1 5 (a1 / 10).toNatClampNeg) (M16.1 2 (M16.1 5 (a1 / 10).toNatClampNeg).toNatClampNeg) M16) fun u31 M32 =>
              bd (X4_start a2 0 M32) fun u34 M35 =>
              bd (X4_think (a1 - a1 / 10 * 10) 4 M35) fun u37 M38 =>
              bd (X4_leftAt z22 M38) fun v40 M41 =>
              gd (inb (a1 / 10) 6) <|
              gd (inb (a1 / 10) 6) <|
              bd (X4_start (M41.1 (28 + 2) (a1 / 10).toNatClampNeg) (M41.1 (28 + 4) (a1 / 10).toNatClampNeg) M41) fun u45 M46 =>
              bd (X4_think (a1 - a1 / 10 * 10) 4 M46) fun u48 M49 =>
              gd (inb (a1 / 10) 6) <|
              bd (X4_leftAt (M49.1 (28 + 1) (a1 / 10).toNatClampNeg) M49) fun v52 M53 =>
              bd (X10_fraction (v40 - v52) (a1 - a1 / 10 * 10) a4 M53) fun v55 M56 =>
              some (v55, M56)
set_option maxRecDepth 100000 in
set_option maxHeartbeats 4000000 in
theorem X10_smith_ok {a1 : Int32} {a2 : Int32} {a3 : Int32} {a4 : Int32} {M : mm} {r : Int64 × mm} (h : X10_smith a1 a2 a3 a4 M = some r) : CM yX10_smith cX10_smith 11 (some .long) 5 [.ref 0, .int a1, .int a2, .int a3, .int a4] (cells M) (some (.long r.1)) (cells r.2) := by
  refine cm_of (ls := [some (.ref 0), some (.int a1), some (.int a2), some (.int a3), some (.int a4), none, none, none, none, none, none]) mfX10_smith rfl (Nat.le_of_ble_eq_true rfl) (fun g hg hr => ?_)
  unfold X10_smith at h
  refine e_aload_n hg dX10_smith_0 rfl ?_
  refine e_iload_n hg dX10_smith_1 rfl ?_
  obtain ⟨v1, M2, hc3, h⟩ := o_bd h
  refine m_callVI (rest := []) (v := v1) (M' := M2) (ci := 10) hg mfX10_isThought mvX10_isThought (X10_isThought_ok (r := (v1, M2)) hc3) lk_781 dX10_smith_2 io_0 rfl rfl rfl (by omega) (Nat.le_of_ble_eq_true rfl) ?_
  refine e_ifeq hg 35 dX10_smith_5 (by decide) (fun c4 => ?_) (fun c4 => ?_)
  · have h := o_pos c4 h
    refine e_ldc2 hg dX10_smith_35 lk_788 ?_
    exact m_lret hg hr dX10_smith_38 h
  · have h := o_neg c4 h
    refine e_aload_n hg dX10_smith_8 rfl ?_
    refine m_getR (q := 1) hg ciX10 0 lk_452 dX10_smith_9 io_0 (Nat.le_of_ble_eq_true rfl) rfl rf_0_0 ?_
    refine e_iload_n hg dX10_smith_12 rfl ?_
    obtain ⟨v5, M6, hc7, h⟩ := o_bd h
    refine m_callVI (rest := []) (v := v5) (M' := M6) (ci := 3) hg mfX3_hasPerson mvX3_hasPerson (X3_hasPerson_ok (r := (v5, M6)) hc7) lk_508 dX10_smith_13 io_1 rfl rfl rfl (by omega) (Nat.le_of_ble_eq_true rfl) ?_
    refine e_ifeq hg 35 dX10_smith_16 (by decide) (fun c8 => ?_) (fun c8 => ?_)
    · have h := o_pos c8 h
      refine e_ldc2 hg dX10_smith_35 lk_788 ?_
      exact m_lret hg hr dX10_smith_38 h
    · have h := o_neg c8 h
      refine e_iload_n hg dX10_smith_19 rfl ?_
      refine e_aload_n hg dX10_smith_20 rfl ?_
      refine m_getR (q := 1) hg ciX10 0 lk_452 dX10_smith_21 io_0 (Nat.le_of_ble_eq_true rfl) rfl rf_0_0 ?_
      refine m_getR (q := 5) hg ciX3 8 lk_122 dX10_smith_24 io_1 (Nat.le_of_ble_eq_true rfl) rfl rf_1_8 ?_
      refine e_iload_n hg dX10_smith_27 rfl ?_
      refine e_bipush (v := 10) hg dX10_smith_28 (by decide) ?_
      refine e_idiv hg dX10_smith_30 (by decide) ?_
      obtain ⟨hi9, h⟩ := o_gd h
      refine m_iald hg sh_5 hi9 dX10_smith_31 ?_
      refine e_icmpne hg 39 dX10_smith_32 (by decide) (fun c10 => ?_) (fun c10 => ?_)
      · have h := o_pos c10 h
        refine e_ldc2 hg dX10_smith_35 lk_788 ?_
        exact m_lret hg hr dX10_smith_38 h
      · have h := o_neg c10 h
        refine e_iload_n hg dX10_smith_39 rfl ?_
        obtain ⟨v11, M12, hc13, h⟩ := o_bd h
        refine m_callSI (rest := []) (v := v11) (M' := M12) hg mfX10_isZeroOrOne mvX10_isZeroOrOne (X10_isZeroOrOne_ok (r := (v11, M12)) hc13) lk_785 dX10_smith_40 rfl rfl (by omega) (Nat.le_of_ble_eq_true rfl) ?_
        refine e_ifeq hg 54 dX10_smith_43 (by decide) (fun c14 => ?_) (fun c14 => ?_)
        · have h := o_pos c14 h
          refine e_ldc2 hg dX10_smith_54 lk_788 ?_
          exact m_lret hg hr dX10_smith_57 h
        · have h := o_neg c14 h
          refine e_iload hg dX10_smith_46 rfl ?_
          obtain ⟨v15, M16, hc17, h⟩ := o_bd h
          refine m_callSI (rest := []) (v := v15) (M' := M16) hg mfX10_isZeroOrOne mvX10_isZeroOrOne (X10_isZeroOrOne_ok (r := (v15, M16)) hc17) lk_785 dX10_smith_48 rfl rfl (by omega) (Nat.le_of_ble_eq_true rfl) ?_
          refine e_ifne hg 58 dX10_smith_51 (by decide) (fun c18 => ?_) (fun c18 => ?_)
          · have h := o_pos c18 h
            refine e_ldc2 hg dX10_smith_54 lk_788 ?_
            exact m_lret hg hr dX10_smith_57 h
          · have h := o_neg c18 h
            refine e_iload_n hg dX10_smith_58 rfl ?_
            refine e_bipush (v := 10) hg dX10_smith_59 (by decide) ?_
            refine e_idiv hg dX10_smith_61 (by decide) ?_
            refine e_istore (ls' := [some (.ref 0), some (.int a1), some (.int a2), some (.int a3), some (.int a4), some (.int (a1 / 10)), none, none, none, none, none]) hg dX10_smith_62 rfl ?_
            refine e_iload_n hg dX10_smith_64 rfl ?_
            refine e_bipush (v := 10) hg dX10_smith_65 (by decide) ?_
            refine e_irem hg dX10_smith_67 (by decide) ?_
            refine e_istore (ls' := [some (.ref 0), some (.int a1), some (.int a2), some (.int a3), some (.int a4), some (.int (a1 / 10)), some (.int (a1 - a1 / 10 * 10)), none, none, none, none]) hg dX10_smith_68 rfl ?_
            refine e_aload_n hg dX10_smith_70 rfl ?_
            refine m_getR (q := 1) hg ciX10 0 lk_452 dX10_smith_71 io_0 (Nat.le_of_ble_eq_true rfl) rfl rf_0_0 ?_
            refine m_getR (q := 5) hg ciX3 8 lk_122 dX10_smith_74 io_1 (Nat.le_of_ble_eq_true rfl) rfl rf_1_8 ?_
            refine e_iload hg dX10_smith_77 rfl ?_
            obtain ⟨hi19, h⟩ := o_gd h
            refine m_iald hg sh_5 hi19 dX10_smith_79 ?_
            refine e_istore (ls' := [some (.ref 0), some (.int a1), some (.int a2), some (.int a3), some (.int a4), some (.int (a1 / 10)), some (.int (a1 - a1 / 10 * 10)), some (.int (M16.1 5 (a1 / 10).toNatClampNeg)), none, none, none]) hg dX10_smith_80 rfl ?_
            refine e_aload_n hg dX10_smith_82 rfl ?_
            refine m_getR (q := 28) hg ciX10 4 lk_456 dX10_smith_83 io_0 (Nat.le_of_ble_eq_true rfl) rfl rf_0_4 ?_
            refine m_getR (q := (28 + 1)) hg ciX9 2 lk_319 dX10_smith_86 io_28 (Nat.le_of_ble_eq_true rfl) rfl (rfF9_2 io_28) ?_
            refine e_iload hg dX10_smith_89 rfl ?_
            obtain ⟨hi20, h⟩ := o_gd h
            refine m_iald hg (shF9_1 io_28) hi20 dX10_smith_91 ?_
            refine e_aload_n hg dX10_smith_92 rfl ?_
            refine m_getR (q := 1) hg ciX10 0 lk_452 dX10_smith_93 io_0 (Nat.le_of_ble_eq_true rfl) rfl rf_0_0 ?_
            refine m_getR (q := 2) hg ciX3 5 lk_111 dX10_smith_96 io_1 (Nat.le_of_ble_eq_true rfl) rfl rf_1_5 ?_
            refine e_iload_n hg dX10_smith_99 rfl ?_
            obtain ⟨hi21, h⟩ := o_gd h
            refine m_iald hg sh_2 hi21 dX10_smith_100 ?_
            refine e_mmax hg lk_813 (Nat.le_of_ble_eq_true rfl) (by omega) (cs0 g) dX10_smith_101 ?_
            obtain ⟨z22, hz22, h⟩ := o_lt h
            refine e_istore (ls' := [some (.ref 0), some (.int a1), some (.int a2), some (.int a3), some (.int a4), some (.int (a1 / 10)), some (.int (a1 - a1 / 10 * 10)), some (.int (M16.1 5 (a1 / 10).toNatClampNeg)), some (.int (if (M16.1 (28 + 1) (a1 / 10).toNatClampNeg) < (M16.1 2 a2.toNatClampNeg) then (M16.1 2 a2.toNatClampNeg) else (M16.1 (28 + 1) (a1 / 10).toNatClampNeg))), none, none]) hg dX10_smith_104 rfl ?_
            rw [← hz22]
            refine e_iload_n hg dX10_smith_106 rfl ?_
            refine e_iconst (v := 1) hg dX10_smith_107 (by decide) ?_
            refine e_icmpne hg 133 dX10_smith_108 (by decide) (fun c23 => ?_) (fun c23 => ?_)
            · have h := o_pos c23 h
              refine e_aload_n hg dX10_smith_111 rfl ?_
              refine m_getR (q := 21) hg ciX10 2 lk_454 dX10_smith_112 io_0 (Nat.le_of_ble_eq_true rfl) rfl rf_0_2 ?_
              refine e_iload hg dX10_smith_115 rfl ?_
              refine e_iload hg dX10_smith_117 rfl ?_
              refine e_iconst (v := 0) hg dX10_smith_119 (by decide) ?_
              refine e_iload hg dX10_smith_120 rfl ?_
              obtain ⟨v24, M25, hc26, h⟩ := o_bd h
              refine m_callVJ (rest := []) (v := v24) (M' := M25) (ci := 4) hg mfX4_risk mvX4_risk (X4_risk_ok (r := (v24, M25)) hc26) lk_814 dX10_smith_122 io_21 rfl rfl rfl (by omega) (Nat.le_of_ble_eq_true rfl) ?_
              refine e_iload hg dX10_smith_125 rfl ?_
              refine e_iload hg dX10_smith_127 rfl ?_
              obtain ⟨v27, M28, hc29, h⟩ := o_bd h
              refine m_callSJ (rest := []) (v := v27) (M' := M28) hg mfX10_fraction mvX10_fraction (X10_fraction_ok (r := (v27, M28)) hc29) lk_793 dX10_smith_129 rfl rfl (by omega) (Nat.le_of_ble_eq_true rfl) ?_
              exact m_lret hg hr dX10_smith_132 h
            · have h := o_neg c23 h
              refine e_aload_n hg dX10_smith_133 rfl ?_
              refine m_getR (q := 21) hg ciX10 2 lk_454 dX10_smith_134 io_0 (Nat.le_of_ble_eq_true rfl) rfl rf_0_2 ?_
              refine e_iload hg dX10_smith_137 rfl ?_
              refine e_iload hg dX10_smith_139 rfl ?_
              refine e_aload_n hg dX10_smith_141 rfl ?_
              refine m_getR (q := 1) hg ciX10 0 lk_452 dX10_smith_142 io_0 (Nat.le_of_ble_eq_true rfl) rfl rf_0_0 ?_
              refine m_getR (q := 2) hg ciX3 5 lk_111 dX10_smith_145 io_1 (Nat.le_of_ble_eq_true rfl) rfl rf_1_5 ?_
              refine e_iload hg dX10_smith_148 rfl ?_
              obtain ⟨hi30, h⟩ := o_gd h
              refine m_iald hg sh_2 hi30 dX10_smith_150 ?_
              obtain ⟨u31, M32, hc33, h⟩ := o_bd h
              refine m_callVV (rest := []) (M' := M32) (ci := 4) hg mfX4_consider mvX4_consider (X4_consider_ok (r := (u31, M32)) hc33) lk_789 dX10_smith_151 io_21 rfl rfl rfl (by omega) (Nat.le_of_ble_eq_true rfl) ?_
              refine e_aload_n hg dX10_smith_154 rfl ?_
              refine m_getR (q := 21) hg ciX10 2 lk_454 dX10_smith_155 io_0 (Nat.le_of_ble_eq_true rfl) rfl rf_0_2 ?_
              refine e_iload_n hg dX10_smith_158 rfl ?_
              refine e_iconst (v := 0) hg dX10_smith_159 (by decide) ?_
              obtain ⟨u34, M35, hc36, h⟩ := o_bd h
              refine m_callVV (rest := []) (M' := M35) (ci := 4) hg mfX4_start mvX4_start (X4_start_ok (r := (u34, M35)) hc36) lk_790 dX10_smith_160 io_21 rfl rfl rfl (by omega) (Nat.le_of_ble_eq_true rfl) ?_
              refine e_aload_n hg dX10_smith_163 rfl ?_
              refine m_getR (q := 21) hg ciX10 2 lk_454 dX10_smith_164 io_0 (Nat.le_of_ble_eq_true rfl) rfl rf_0_2 ?_
              refine e_iload hg dX10_smith_167 rfl ?_
              refine e_iconst (v := 4) hg dX10_smith_169 (by decide) ?_
              obtain ⟨u37, M38, hc39, h⟩ := o_bd h
              refine m_callVV (rest := []) (M' := M38) (ci := 4) hg mfX4_think mvX4_think (X4_think_ok (r := (u37, M38)) hc39) lk_791 dX10_smith_170 io_21 rfl rfl rfl (by omega) (Nat.le_of_ble_eq_true rfl) ?_
              refine e_aload_n hg dX10_smith_173 rfl ?_
              refine m_getR (q := 21) hg ciX10 2 lk_454 dX10_smith_174 io_0 (Nat.le_of_ble_eq_true rfl) rfl rf_0_2 ?_
              refine e_iload hg dX10_smith_177 rfl ?_
              obtain ⟨v40, M41, hc42, h⟩ := o_bd h
              refine m_callVJ (rest := []) (v := v40) (M' := M41) (ci := 4) hg mfX4_leftAt mvX4_leftAt (X4_leftAt_ok (r := (v40, M41)) hc42) lk_818 dX10_smith_179 io_21 rfl rfl rfl (by omega) (Nat.le_of_ble_eq_true rfl) ?_
              refine e_lstore (ls' := [some (.ref 0), some (.int a1), some (.int a2), some (.int a3), some (.int a4), some (.int (a1 / 10)), some (.int (a1 - a1 / 10 * 10)), some (.int (M16.1 5 (a1 / 10).toNatClampNeg)), some (.int z22), some (.long v40), none]) hg dX10_smith_182 rfl ?_
              refine e_aload_n hg dX10_smith_184 rfl ?_
              refine m_getR (q := 21) hg ciX10 2 lk_454 dX10_smith_185 io_0 (Nat.le_of_ble_eq_true rfl) rfl rf_0_2 ?_
              refine e_aload_n hg dX10_smith_188 rfl ?_
              refine m_getR (q := 28) hg ciX10 4 lk_456 dX10_smith_189 io_0 (Nat.le_of_ble_eq_true rfl) rfl rf_0_4 ?_
              refine m_getR (q := (28 + 2)) hg ciX9 3 lk_323 dX10_smith_192 io_28 (Nat.le_of_ble_eq_true rfl) rfl (rfF9_3 io_28) ?_
              refine e_iload hg dX10_smith_195 rfl ?_
              obtain ⟨hi43, h⟩ := o_gd h
              refine m_iald hg (shF9_2 io_28) hi43 dX10_smith_197 ?_
              refine e_aload_n hg dX10_smith_198 rfl ?_
              refine m_getR (q := 28) hg ciX10 4 lk_456 dX10_smith_199 io_0 (Nat.le_of_ble_eq_true rfl) rfl rf_0_4 ?_
              refine m_getR (q := (28 + 4)) hg ciX9 5 lk_330 dX10_smith_202 io_28 (Nat.le_of_ble_eq_true rfl) rfl (rfF9_5 io_28) ?_
              refine e_iload hg dX10_smith_205 rfl ?_
              obtain ⟨hi44, h⟩ := o_gd h
              refine m_iald hg (shF9_4 io_28) hi44 dX10_smith_207 ?_
              obtain ⟨u45, M46, hc47, h⟩ := o_bd h
              refine m_callVV (rest := []) (M' := M46) (ci := 4) hg mfX4_start mvX4_start (X4_start_ok (r := (u45, M46)) hc47) lk_790 dX10_smith_208 io_21 rfl rfl rfl (by omega) (Nat.le_of_ble_eq_true rfl) ?_
              refine e_aload_n hg dX10_smith_211 rfl ?_
              refine m_getR (q := 21) hg ciX10 2 lk_454 dX10_smith_212 io_0 (Nat.le_of_ble_eq_true rfl) rfl rf_0_2 ?_
              refine e_iload hg dX10_smith_215 rfl ?_
              refine e_iconst (v := 4) hg dX10_smith_217 (by decide) ?_
              obtain ⟨u48, M49, hc50, h⟩ := o_bd h
              refine m_callVV (rest := []) (M' := M49) (ci := 4) hg mfX4_think mvX4_think (X4_think_ok (r := (u48, M49)) hc50) lk_791 dX10_smith_218 io_21 rfl rfl rfl (by omega) (Nat.le_of_ble_eq_true rfl) ?_
              refine e_lload hg dX10_smith_221 rfl ?_
              refine e_aload_n hg dX10_smith_223 rfl ?_
              refine m_getR (q := 21) hg ciX10 2 lk_454 dX10_smith_224 io_0 (Nat.le_of_ble_eq_true rfl) rfl rf_0_2 ?_
              refine e_aload_n hg dX10_smith_227 rfl ?_
              refine m_getR (q := 28) hg ciX10 4 lk_456 dX10_smith_228 io_0 (Nat.le_of_ble_eq_true rfl) rfl rf_0_4 ?_
              refine m_getR (q := (28 + 1)) hg ciX9 2 lk_319 dX10_smith_231 io_28 (Nat.le_of_ble_eq_true rfl) rfl (rfF9_2 io_28) ?_
              refine e_iload hg dX10_smith_234 rfl ?_
              obtain ⟨hi51, h⟩ := o_gd h
              refine m_iald hg (shF9_1 io_28) hi51 dX10_smith_236 ?_
              obtain ⟨v52, M53, hc54, h⟩ := o_bd h
              refine m_callVJ (rest := [.long v40]) (v := v52) (M' := M53) (ci := 4) hg mfX4_leftAt mvX4_leftAt (X4_leftAt_ok (r := (v52, M53)) hc54) lk_818 dX10_smith_237 io_21 rfl rfl rfl (by omega) (Nat.le_of_ble_eq_true rfl) ?_
              refine e_lsub hg dX10_smith_240 ?_
              refine e_iload hg dX10_smith_241 rfl ?_
              refine e_iload hg dX10_smith_243 rfl ?_
              obtain ⟨v55, M56, hc57, h⟩ := o_bd h
              refine m_callSJ (rest := []) (v := v55) (M' := M56) hg mfX10_fraction mvX10_fraction (X10_fraction_ok (r := (v55, M56)) hc57) lk_793 dX10_smith_245 rfl rfl (by omega) (Nat.le_of_ble_eq_true rfl) ?_
              exact m_lret hg hr dX10_smith_248 h

def X10_gift (a1 : Int32) (a2 : Int32) (a3 : Int32) (M : mm) : Option (Int64 × mm) :=
  bd (X10_isThought a1 M) fun v1 M2 =>
  if v1 = 0 then
    some ((-9223372036854775808), M2)
  else
    bd (X3_hasPerson a2 M2) fun v5 M6 =>
    if v5 = 0 then
      some ((-9223372036854775808), M6)
    else
      gd (inb (a1 / 10) 6) <|
      if a2 = (M6.1 5 (a1 / 10).toNatClampNeg) then
        some ((-9223372036854775808), M6)
      else
        bd (X10_isZeroOrOne a3 M6) fun v11 M12 =>
        if v11 = 0 then
          some ((-9223372036854775808), M12)
        else
          gd (inb a2 5) <|
          bd (X4_consider (a1 / 10) a2 (M12.1 2 a2.toNatClampNeg) M12) fun u16 M17 =>
          gd (inb (a1 / 10) 6) <|
          gd (inb (a1 / 10) 6) <|
          bd (X4_start (M17.1 (28 + 2) (a1 / 10).toNatClampNeg) (M17.1 (28 + 4) (a1 / 10).toNatClampNeg) M17) fun u21 M22 =>
          bd (X4_think (a1 - a1 / 10 * 10) 4 M22) fun u24 M25 =>
          gd (inb (a1 / 10) 6) <|
          bd (X4_worthAt (M25.1 (28 + 1) (a1 / 10).toNatClampNeg) M25) fun v28 M29 =>
          bd (X10_fraction v28 (a1 - a1 / 10 * 10) a3 M29) fun v31 M32 =>
          some (v31, M32)
set_option maxRecDepth 100000 in
set_option maxHeartbeats 4000000 in
theorem X10_gift_ok {a1 : Int32} {a2 : Int32} {a3 : Int32} {M : mm} {r : Int64 × mm} (h : X10_gift a1 a2 a3 M = some r) : CM yX10_gift cX10_gift 5 (some .long) 5 [.ref 0, .int a1, .int a2, .int a3] (cells M) (some (.long r.1)) (cells r.2) := by
  refine cm_of (ls := [some (.ref 0), some (.int a1), some (.int a2), some (.int a3), none]) mfX10_gift rfl (Nat.le_of_ble_eq_true rfl) (fun g hg hr => ?_)
  unfold X10_gift at h
  refine e_aload_n hg dX10_gift_0 rfl ?_
  refine e_iload_n hg dX10_gift_1 rfl ?_
  obtain ⟨v1, M2, hc3, h⟩ := o_bd h
  refine m_callVI (rest := []) (v := v1) (M' := M2) (ci := 10) hg mfX10_isThought mvX10_isThought (X10_isThought_ok (r := (v1, M2)) hc3) lk_781 dX10_gift_2 io_0 rfl rfl rfl (by omega) (Nat.le_of_ble_eq_true rfl) ?_
  refine e_ifeq hg 35 dX10_gift_5 (by decide) (fun c4 => ?_) (fun c4 => ?_)
  · have h := o_pos c4 h
    refine e_ldc2 hg dX10_gift_35 lk_788 ?_
    exact m_lret hg hr dX10_gift_38 h
  · have h := o_neg c4 h
    refine e_aload_n hg dX10_gift_8 rfl ?_
    refine m_getR (q := 1) hg ciX10 0 lk_452 dX10_gift_9 io_0 (Nat.le_of_ble_eq_true rfl) rfl rf_0_0 ?_
    refine e_iload_n hg dX10_gift_12 rfl ?_
    obtain ⟨v5, M6, hc7, h⟩ := o_bd h
    refine m_callVI (rest := []) (v := v5) (M' := M6) (ci := 3) hg mfX3_hasPerson mvX3_hasPerson (X3_hasPerson_ok (r := (v5, M6)) hc7) lk_508 dX10_gift_13 io_1 rfl rfl rfl (by omega) (Nat.le_of_ble_eq_true rfl) ?_
    refine e_ifeq hg 35 dX10_gift_16 (by decide) (fun c8 => ?_) (fun c8 => ?_)
    · have h := o_pos c8 h
      refine e_ldc2 hg dX10_gift_35 lk_788 ?_
      exact m_lret hg hr dX10_gift_38 h
    · have h := o_neg c8 h
      refine e_iload_n hg dX10_gift_19 rfl ?_
      refine e_aload_n hg dX10_gift_20 rfl ?_
      refine m_getR (q := 1) hg ciX10 0 lk_452 dX10_gift_21 io_0 (Nat.le_of_ble_eq_true rfl) rfl rf_0_0 ?_
      refine m_getR (q := 5) hg ciX3 8 lk_122 dX10_gift_24 io_1 (Nat.le_of_ble_eq_true rfl) rfl rf_1_8 ?_
      refine e_iload_n hg dX10_gift_27 rfl ?_
      refine e_bipush (v := 10) hg dX10_gift_28 (by decide) ?_
      refine e_idiv hg dX10_gift_30 (by decide) ?_
      obtain ⟨hi9, h⟩ := o_gd h
      refine m_iald hg sh_5 hi9 dX10_gift_31 ?_
      refine e_icmpne hg 39 dX10_gift_32 (by decide) (fun c10 => ?_) (fun c10 => ?_)
      · have h := o_pos c10 h
        refine e_ldc2 hg dX10_gift_35 lk_788 ?_
        exact m_lret hg hr dX10_gift_38 h
      · have h := o_neg c10 h
        refine e_iload_n hg dX10_gift_39 rfl ?_
        obtain ⟨v11, M12, hc13, h⟩ := o_bd h
        refine m_callSI (rest := []) (v := v11) (M' := M12) hg mfX10_isZeroOrOne mvX10_isZeroOrOne (X10_isZeroOrOne_ok (r := (v11, M12)) hc13) lk_785 dX10_gift_40 rfl rfl (by omega) (Nat.le_of_ble_eq_true rfl) ?_
        refine e_ifne hg 50 dX10_gift_43 (by decide) (fun c14 => ?_) (fun c14 => ?_)
        · have h := o_pos c14 h
          refine e_ldc2 hg dX10_gift_46 lk_788 ?_
          exact m_lret hg hr dX10_gift_49 h
        · have h := o_neg c14 h
          refine e_iload_n hg dX10_gift_50 rfl ?_
          refine e_bipush (v := 10) hg dX10_gift_51 (by decide) ?_
          refine e_idiv hg dX10_gift_53 (by decide) ?_
          refine e_istore (ls' := [some (.ref 0), some (.int a1), some (.int a2), some (.int a3), some (.int (a1 / 10))]) hg dX10_gift_54 rfl ?_
          refine e_aload_n hg dX10_gift_56 rfl ?_
          refine m_getR (q := 21) hg ciX10 2 lk_454 dX10_gift_57 io_0 (Nat.le_of_ble_eq_true rfl) rfl rf_0_2 ?_
          refine e_iload hg dX10_gift_60 rfl ?_
          refine e_iload_n hg dX10_gift_62 rfl ?_
          refine e_aload_n hg dX10_gift_63 rfl ?_
          refine m_getR (q := 1) hg ciX10 0 lk_452 dX10_gift_64 io_0 (Nat.le_of_ble_eq_true rfl) rfl rf_0_0 ?_
          refine m_getR (q := 2) hg ciX3 5 lk_111 dX10_gift_67 io_1 (Nat.le_of_ble_eq_true rfl) rfl rf_1_5 ?_
          refine e_iload_n hg dX10_gift_70 rfl ?_
          obtain ⟨hi15, h⟩ := o_gd h
          refine m_iald hg sh_2 hi15 dX10_gift_71 ?_
          obtain ⟨u16, M17, hc18, h⟩ := o_bd h
          refine m_callVV (rest := []) (M' := M17) (ci := 4) hg mfX4_consider mvX4_consider (X4_consider_ok (r := (u16, M17)) hc18) lk_789 dX10_gift_72 io_21 rfl rfl rfl (by omega) (Nat.le_of_ble_eq_true rfl) ?_
          refine e_aload_n hg dX10_gift_75 rfl ?_
          refine m_getR (q := 21) hg ciX10 2 lk_454 dX10_gift_76 io_0 (Nat.le_of_ble_eq_true rfl) rfl rf_0_2 ?_
          refine e_aload_n hg dX10_gift_79 rfl ?_
          refine m_getR (q := 28) hg ciX10 4 lk_456 dX10_gift_80 io_0 (Nat.le_of_ble_eq_true rfl) rfl rf_0_4 ?_
          refine m_getR (q := (28 + 2)) hg ciX9 3 lk_323 dX10_gift_83 io_28 (Nat.le_of_ble_eq_true rfl) rfl (rfF9_3 io_28) ?_
          refine e_iload hg dX10_gift_86 rfl ?_
          obtain ⟨hi19, h⟩ := o_gd h
          refine m_iald hg (shF9_2 io_28) hi19 dX10_gift_88 ?_
          refine e_aload_n hg dX10_gift_89 rfl ?_
          refine m_getR (q := 28) hg ciX10 4 lk_456 dX10_gift_90 io_0 (Nat.le_of_ble_eq_true rfl) rfl rf_0_4 ?_
          refine m_getR (q := (28 + 4)) hg ciX9 5 lk_330 dX10_gift_93 io_28 (Nat.le_of_ble_eq_true rfl) rfl (rfF9_5 io_28) ?_
          refine e_iload hg dX10_gift_96 rfl ?_
          obtain ⟨hi20, h⟩ := o_gd h
          refine m_iald hg (shF9_4 io_28) hi20 dX10_gift_98 ?_
          obtain ⟨u21, M22, hc23, h⟩ := o_bd h
          refine m_callVV (rest := []) (M' := M22) (ci := 4) hg mfX4_start mvX4_start (X4_start_ok (r := (u21, M22)) hc23) lk_790 dX10_gift_99 io_21 rfl rfl rfl (by omega) (Nat.le_of_ble_eq_true rfl) ?_
          refine e_aload_n hg dX10_gift_102 rfl ?_
          refine m_getR (q := 21) hg ciX10 2 lk_454 dX10_gift_103 io_0 (Nat.le_of_ble_eq_true rfl) rfl rf_0_2 ?_
          refine e_iload_n hg dX10_gift_106 rfl ?_
          refine e_bipush (v := 10) hg dX10_gift_107 (by decide) ?_
          refine e_irem hg dX10_gift_109 (by decide) ?_
          refine e_iconst (v := 4) hg dX10_gift_110 (by decide) ?_
          obtain ⟨u24, M25, hc26, h⟩ := o_bd h
          refine m_callVV (rest := []) (M' := M25) (ci := 4) hg mfX4_think mvX4_think (X4_think_ok (r := (u24, M25)) hc26) lk_791 dX10_gift_111 io_21 rfl rfl rfl (by omega) (Nat.le_of_ble_eq_true rfl) ?_
          refine e_aload_n hg dX10_gift_114 rfl ?_
          refine m_getR (q := 21) hg ciX10 2 lk_454 dX10_gift_115 io_0 (Nat.le_of_ble_eq_true rfl) rfl rf_0_2 ?_
          refine e_aload_n hg dX10_gift_118 rfl ?_
          refine m_getR (q := 28) hg ciX10 4 lk_456 dX10_gift_119 io_0 (Nat.le_of_ble_eq_true rfl) rfl rf_0_4 ?_
          refine m_getR (q := (28 + 1)) hg ciX9 2 lk_319 dX10_gift_122 io_28 (Nat.le_of_ble_eq_true rfl) rfl (rfF9_2 io_28) ?_
          refine e_iload hg dX10_gift_125 rfl ?_
          obtain ⟨hi27, h⟩ := o_gd h
          refine m_iald hg (shF9_1 io_28) hi27 dX10_gift_127 ?_
          obtain ⟨v28, M29, hc30, h⟩ := o_bd h
          refine m_callVJ (rest := []) (v := v28) (M' := M29) (ci := 4) hg mfX4_worthAt mvX4_worthAt (X4_worthAt_ok (r := (v28, M29)) hc30) lk_792 dX10_gift_128 io_21 rfl rfl rfl (by omega) (Nat.le_of_ble_eq_true rfl) ?_
          refine e_iload_n hg dX10_gift_131 rfl ?_
          refine e_bipush (v := 10) hg dX10_gift_132 (by decide) ?_
          refine e_irem hg dX10_gift_134 (by decide) ?_
          refine e_iload_n hg dX10_gift_135 rfl ?_
          obtain ⟨v31, M32, hc33, h⟩ := o_bd h
          refine m_callSJ (rest := []) (v := v31) (M' := M32) hg mfX10_fraction mvX10_fraction (X10_fraction_ok (r := (v31, M32)) hc33) lk_793 dX10_gift_136 rfl rfl (by omega) (Nat.le_of_ble_eq_true rfl) ?_
          exact m_lret hg hr dX10_gift_139 h

def X10_debts_b108 (a1 : Int32) (a2 : Int32) (R43 : Int64 → Int32 → mm → Option (Int64 × mm)) (K114 : Int64 → mm → Option (Int64 × mm)) (x3 : Int64) (x5 : Int32) (M : mm) : Option (Int64 × mm) :=
  R43 x3 (x5 + 1) M
set_option maxRecDepth 100000 in
set_option maxHeartbeats 4000000 in
theorem X10_debts_b108_ok {g : gx} (hg : EC g cX10_debts RX10 4) {a1 : Int32} {a2 : Int32} {r : Int64 × mm} (hr : RT g (some .long) (0, 0) (some (.long r.1)) (cells r.2)) {R43 : Int64 → Int32 → mm → Option (Int64 × mm)} (hR43 : ∀ (x3 : Int64) (x5 : Int32) (M : mm), R43 x3 x5 M = some r → E g (0, 0) 43 [some (.ref 0), some (.int a1), some (.int a2), some (.long x3), none, some (.int x5)] [] (cells M)) {K114 : Int64 → mm → Option (Int64 × mm)} (hK114 : ∀ (x3 : Int64) (o5 : Option Value) (M : mm), K114 x3 M = some r → E g (0, 0) 114 [some (.ref 0), some (.int a1), some (.int a2), some (.long x3), none, o5] [] (cells M)) {x3 : Int64} {x5 : Int32} {M : mm} (h : X10_debts_b108 a1 a2 R43 K114 x3 x5 M = some r) : E g (0, 0) 108 [some (.ref 0), some (.int a1), some (.int a2), some (.long x3), none, some (.int x5)] [] (cells M) := by
  unfold X10_debts_b108 at h
  refine e_iinc (v := (x5 + 1)) (ls' := [some (.ref 0), some (.int a1), some (.int a2), some (.long x3), none, some (.int (x5 + 1))]) hg dX10_debts_108 rfl rfl rfl ?_
  refine e_goto hg 43 dX10_debts_111 (by decide) ?_
  exact hR43 _ _ _ h

def X10_debts_L43 (a1 : Int32) (a2 : Int32) (K114 : Int64 → mm → Option (Int64 × mm)) : Nat → Int64 → Int32 → mm → Option (Int64 × mm)
  | 0, _, _, _ => none
  | n_ + 1, x3, x5, M =>
    if x5 < (M.1 1 1) then
      gd (inb x5 6) <|
      if (M.1 (28 + 2) x5.toNatClampNeg) = (a1 / 10) then
        gd (inb x5 6) <|
        gd (inb x5 6) <|
        bd (X4_risk x5 (M.1 (28 + 1) x5.toNatClampNeg) (M.1 (28 + 4) x5.toNatClampNeg) (a1 - a1 / 10 * 10) M) fun v16 M17 =>
        X10_debts_b108 a1 a2 (X10_debts_L43 a1 a2 K114 n_) K114 (x3 + v16) x5 M17
      else
        X10_debts_b108 a1 a2 (X10_debts_L43 a1 a2 K114 n_) K114 x3 x5 M
    else
      K114 x3 M
set_option maxRecDepth 100000 in
set_option maxHeartbeats 4000000 in
theorem X10_debts_L43_ok {g : gx} (hg : EC g cX10_debts RX10 4) {a1 : Int32} {a2 : Int32} {r : Int64 × mm} (hr : RT g (some .long) (0, 0) (some (.long r.1)) (cells r.2)) {K114 : Int64 → mm → Option (Int64 × mm)} (hK114 : ∀ (x3 : Int64) (o5 : Option Value) (M : mm), K114 x3 M = some r → E g (0, 0) 114 [some (.ref 0), some (.int a1), some (.int a2), some (.long x3), none, o5] [] (cells M)) : ∀ (n_ : Nat) (x3 : Int64) (x5 : Int32) (M : mm), X10_debts_L43 a1 a2 K114 n_ x3 x5 M = some r → E g (0, 0) 43 [some (.ref 0), some (.int a1), some (.int a2), some (.long x3), none, some (.int x5)] [] (cells M) := by
  intro n_
  induction n_ with
  | zero => intro x3 x5 M h; exact o_no h
  | succ n_ ih =>
    intro x3 x5 M h
    rw [X10_debts_L43] at h
    refine e_iload hg dX10_debts_43 rfl ?_
    refine e_aload_n hg dX10_debts_45 rfl ?_
    refine m_getR (q := 1) hg ciX10 0 lk_452 dX10_debts_46 io_0 (Nat.le_of_ble_eq_true rfl) rfl rf_0_0 ?_
    refine m_getI hg ciX3 1 lk_100 dX10_debts_49 io_1 (Nat.le_of_ble_eq_true rfl) rfl ?_
    refine e_icmpge hg 114 dX10_debts_52 (by decide) (fun c11 => ?_) (fun c11 => ?_)
    · have h := o_pos c11 h
      refine e_aload_n hg dX10_debts_55 rfl ?_
      refine m_getR (q := 28) hg ciX10 4 lk_456 dX10_debts_56 io_0 (Nat.le_of_ble_eq_true rfl) rfl rf_0_4 ?_
      refine m_getR (q := (28 + 2)) hg ciX9 3 lk_323 dX10_debts_59 io_28 (Nat.le_of_ble_eq_true rfl) rfl (rfF9_3 io_28) ?_
      refine e_iload hg dX10_debts_62 rfl ?_
      obtain ⟨hi12, h⟩ := o_gd h
      refine m_iald hg (shF9_2 io_28) hi12 dX10_debts_64 ?_
      refine e_iload_n hg dX10_debts_65 rfl ?_
      refine e_bipush (v := 10) hg dX10_debts_66 (by decide) ?_
      refine e_idiv hg dX10_debts_68 (by decide) ?_
      refine e_icmpne hg 108 dX10_debts_69 (by decide) (fun c13 => ?_) (fun c13 => ?_)
      · have h := o_pos c13 h
        refine e_lload_n hg dX10_debts_72 rfl ?_
        refine e_aload_n hg dX10_debts_73 rfl ?_
        refine m_getR (q := 21) hg ciX10 2 lk_454 dX10_debts_74 io_0 (Nat.le_of_ble_eq_true rfl) rfl rf_0_2 ?_
        refine e_iload hg dX10_debts_77 rfl ?_
        refine e_aload_n hg dX10_debts_79 rfl ?_
        refine m_getR (q := 28) hg ciX10 4 lk_456 dX10_debts_80 io_0 (Nat.le_of_ble_eq_true rfl) rfl rf_0_4 ?_
        refine m_getR (q := (28 + 1)) hg ciX9 2 lk_319 dX10_debts_83 io_28 (Nat.le_of_ble_eq_true rfl) rfl (rfF9_2 io_28) ?_
        refine e_iload hg dX10_debts_86 rfl ?_
        obtain ⟨hi14, h⟩ := o_gd h
        refine m_iald hg (shF9_1 io_28) hi14 dX10_debts_88 ?_
        refine e_aload_n hg dX10_debts_89 rfl ?_
        refine m_getR (q := 28) hg ciX10 4 lk_456 dX10_debts_90 io_0 (Nat.le_of_ble_eq_true rfl) rfl rf_0_4 ?_
        refine m_getR (q := (28 + 4)) hg ciX9 5 lk_330 dX10_debts_93 io_28 (Nat.le_of_ble_eq_true rfl) rfl (rfF9_5 io_28) ?_
        refine e_iload hg dX10_debts_96 rfl ?_
        obtain ⟨hi15, h⟩ := o_gd h
        refine m_iald hg (shF9_4 io_28) hi15 dX10_debts_98 ?_
        refine e_iload_n hg dX10_debts_99 rfl ?_
        refine e_bipush (v := 10) hg dX10_debts_100 (by decide) ?_
        refine e_irem hg dX10_debts_102 (by decide) ?_
        obtain ⟨v16, M17, hc18, h⟩ := o_bd h
        refine m_callVJ (rest := [.long x3]) (v := v16) (M' := M17) (ci := 4) hg mfX4_risk mvX4_risk (X4_risk_ok (r := (v16, M17)) hc18) lk_814 dX10_debts_103 io_21 rfl rfl rfl (by omega) (Nat.le_of_ble_eq_true rfl) ?_
        refine e_ladd hg dX10_debts_106 ?_
        refine e_lstore_n (ls' := [some (.ref 0), some (.int a1), some (.int a2), some (.long (x3 + v16)), none, some (.int x5)]) hg dX10_debts_107 rfl ?_
        exact X10_debts_b108_ok hg hr ih hK114 h
      · have h := o_neg c13 h
        exact X10_debts_b108_ok hg hr ih hK114 h
    · have h := o_neg c11 h
      exact hK114 _ _ _ h

def X10_debts (a1 : Int32) (a2 : Int32) (M : mm) : Option (Int64 × mm) :=
  if a1 < 0 then
    some ((-9223372036854775808), M)
  else
    if 6 < (a1 - a1 / 10 * 10) then
      some ((-9223372036854775808), M)
    else
      bd (X3_hasPerson (a1 / 10) M) fun v3 M4 =>
      if v3 = 0 then
        some ((-9223372036854775808), M4)
      else
        bd (X10_isZeroOrOne a2 M4) fun v7 M8 =>
        if v7 = 0 then
          some ((-9223372036854775808), M8)
        else
          X10_debts_L43 a1 a2 (fun x3 M =>
              bd (X10_fraction x3 (a1 - a1 / 10 * 10) a2 M) fun v19 M20 =>
              some (v19, M20)) 10000 0 0 M8
set_option maxRecDepth 100000 in
set_option maxHeartbeats 4000000 in
theorem X10_debts_ok {a1 : Int32} {a2 : Int32} {M : mm} {r : Int64 × mm} (h : X10_debts a1 a2 M = some r) : CM yX10_debts cX10_debts 6 (some .long) 4 [.ref 0, .int a1, .int a2] (cells M) (some (.long r.1)) (cells r.2) := by
  refine cm_of (ls := [some (.ref 0), some (.int a1), some (.int a2), none, none, none]) mfX10_debts rfl (Nat.le_of_ble_eq_true rfl) (fun g hg hr => ?_)
  unfold X10_debts at h
  refine e_iload_n hg dX10_debts_0 rfl ?_
  refine e_iflt hg 34 dX10_debts_1 (by decide) (fun c1 => ?_) (fun c1 => ?_)
  · have h := o_pos c1 h
    refine e_ldc2 hg dX10_debts_34 lk_788 ?_
    exact m_lret hg hr dX10_debts_37 h
  · have h := o_neg c1 h
    refine e_iload_n hg dX10_debts_4 rfl ?_
    refine e_bipush (v := 10) hg dX10_debts_5 (by decide) ?_
    refine e_irem hg dX10_debts_7 (by decide) ?_
    refine e_bipush (v := 6) hg dX10_debts_8 (by decide) ?_
    refine e_icmpgt hg 34 dX10_debts_10 (by decide) (fun c2 => ?_) (fun c2 => ?_)
    · have h := o_pos c2 h
      refine e_ldc2 hg dX10_debts_34 lk_788 ?_
      exact m_lret hg hr dX10_debts_37 h
    · have h := o_neg c2 h
      refine e_aload_n hg dX10_debts_13 rfl ?_
      refine m_getR (q := 1) hg ciX10 0 lk_452 dX10_debts_14 io_0 (Nat.le_of_ble_eq_true rfl) rfl rf_0_0 ?_
      refine e_iload_n hg dX10_debts_17 rfl ?_
      refine e_bipush (v := 10) hg dX10_debts_18 (by decide) ?_
      refine e_idiv hg dX10_debts_20 (by decide) ?_
      obtain ⟨v3, M4, hc5, h⟩ := o_bd h
      refine m_callVI (rest := []) (v := v3) (M' := M4) (ci := 3) hg mfX3_hasPerson mvX3_hasPerson (X3_hasPerson_ok (r := (v3, M4)) hc5) lk_508 dX10_debts_21 io_1 rfl rfl rfl (by omega) (Nat.le_of_ble_eq_true rfl) ?_
      refine e_ifeq hg 34 dX10_debts_24 (by decide) (fun c6 => ?_) (fun c6 => ?_)
      · have h := o_pos c6 h
        refine e_ldc2 hg dX10_debts_34 lk_788 ?_
        exact m_lret hg hr dX10_debts_37 h
      · have h := o_neg c6 h
        refine e_iload_n hg dX10_debts_27 rfl ?_
        obtain ⟨v7, M8, hc9, h⟩ := o_bd h
        refine m_callSI (rest := []) (v := v7) (M' := M8) hg mfX10_isZeroOrOne mvX10_isZeroOrOne (X10_isZeroOrOne_ok (r := (v7, M8)) hc9) lk_785 dX10_debts_28 rfl rfl (by omega) (Nat.le_of_ble_eq_true rfl) ?_
        refine e_ifne hg 38 dX10_debts_31 (by decide) (fun c10 => ?_) (fun c10 => ?_)
        · have h := o_pos c10 h
          refine e_ldc2 hg dX10_debts_34 lk_788 ?_
          exact m_lret hg hr dX10_debts_37 h
        · have h := o_neg c10 h
          refine e_lconst (v := 0) hg dX10_debts_38 (by decide) ?_
          refine e_lstore_n (ls' := [some (.ref 0), some (.int a1), some (.int a2), some (.long 0), none, none]) hg dX10_debts_39 rfl ?_
          refine e_iconst (v := 0) hg dX10_debts_40 (by decide) ?_
          refine e_istore (ls' := [some (.ref 0), some (.int a1), some (.int a2), some (.long 0), none, some (.int 0)]) hg dX10_debts_41 rfl ?_
          refine X10_debts_L43_ok hg hr (fun x3 o5 M h => ?_) 10000 _ _ _ h
          refine e_lload_n hg dX10_debts_114 rfl ?_
          refine e_iload_n hg dX10_debts_115 rfl ?_
          refine e_bipush (v := 10) hg dX10_debts_116 (by decide) ?_
          refine e_irem hg dX10_debts_118 (by decide) ?_
          refine e_iload_n hg dX10_debts_119 rfl ?_
          obtain ⟨v19, M20, hc21, h⟩ := o_bd h
          refine m_callSJ (rest := []) (v := v19) (M' := M20) hg mfX10_fraction mvX10_fraction (X10_fraction_ok (r := (v19, M20)) hc21) lk_793 dX10_debts_120 rfl rfl (by omega) (Nat.le_of_ble_eq_true rfl) ?_
          exact m_lret hg hr dX10_debts_123 h

def X10_startThought (a1 : Int32) (M : mm) : Option (Unit × mm) :=
  bd (X9_become 39 28 (M.1 1 0) (M.1 1 1) M) fun u1 M2 =>
  bd (X2_sow a1 M2) fun u4 M5 =>
  some ((), M5)
set_option maxRecDepth 100000 in
set_option maxHeartbeats 4000000 in
theorem X10_startThought_ok {a1 : Int32} {M : mm} {r : Unit × mm} (h : X10_startThought a1 M = some r) : CM yX10_startThought cX10_startThought 2 (none) 2 [.ref 0, .int a1] (cells M) none (cells r.2) := by
  refine cm_of (ls := [some (.ref 0), some (.int a1)]) mfX10_startThought rfl (Nat.le_of_ble_eq_true rfl) (fun g hg hr => ?_)
  unfold X10_startThought at h
  refine e_aload_n hg dX10_startThought_0 rfl ?_
  refine m_getR (q := 39) hg ciX10 5 lk_457 dX10_startThought_1 io_0 (Nat.le_of_ble_eq_true rfl) rfl rf_0_5 ?_
  refine e_aload_n hg dX10_startThought_4 rfl ?_
  refine m_getR (q := 28) hg ciX10 4 lk_456 dX10_startThought_5 io_0 (Nat.le_of_ble_eq_true rfl) rfl rf_0_4 ?_
  refine e_aload_n hg dX10_startThought_8 rfl ?_
  refine m_getR (q := 1) hg ciX10 0 lk_452 dX10_startThought_9 io_0 (Nat.le_of_ble_eq_true rfl) rfl rf_0_0 ?_
  refine m_getI hg ciX3 0 lk_97 dX10_startThought_12 io_1 (Nat.le_of_ble_eq_true rfl) rfl ?_
  refine e_aload_n hg dX10_startThought_15 rfl ?_
  refine m_getR (q := 1) hg ciX10 0 lk_452 dX10_startThought_16 io_0 (Nat.le_of_ble_eq_true rfl) rfl rf_0_0 ?_
  refine m_getI hg ciX3 1 lk_100 dX10_startThought_19 io_1 (Nat.le_of_ble_eq_true rfl) rfl ?_
  obtain ⟨u1, M2, hc3, h⟩ := o_bd h
  refine m_callVV (rest := []) (M' := M2) (ci := 9) hg mfX9_become mvX9_become (X9_become_ok (r := (u1, M2)) hc3) lk_842 dX10_startThought_22 io_39 rfl rfl rfl (by omega) (Nat.le_of_ble_eq_true rfl) ?_
  refine e_aload_n hg dX10_startThought_25 rfl ?_
  refine m_getR (q := 27) hg ciX10 3 lk_455 dX10_startThought_26 io_0 (Nat.le_of_ble_eq_true rfl) rfl rf_0_3 ?_
  refine e_iload_n hg dX10_startThought_29 rfl ?_
  obtain ⟨u4, M5, hc6, h⟩ := o_bd h
  refine m_callVV (rest := []) (M' := M5) (ci := 2) hg mfX2_sow mvX2_sow (X2_sow_ok (r := (u4, M5)) hc6) lk_673 dX10_startThought_30 io_27 rfl rfl rfl (by omega) (Nat.le_of_ble_eq_true rfl) ?_
  exact m_vret hg hr dX10_startThought_33 h

def X10_ruled_L83 (a1 : Int32) (a2 : Int32) (a3 : Int32) (K111 : Int32 → Int32 → Int32 → Int32 → Int32 → Int32 → mm → Option (Int32 × mm)) : Nat → Int32 → Int32 → Int32 → Int32 → Int32 → Int32 → Int32 → mm → Option (Int32 × mm)
  | 0, _, _, _, _, _, _, _, _ => none
  | n_ + 1, x4, x5, x6, x7, x8, x9, x10, M =>
    if x10 < a2 then
      bd (X2_year 39 M) fun v17 M18 =>
      (X10_ruled_L83 a1 a2 a3 K111 n_) x4 x5 x6 x7 x8 (x9 + v17) (x10 + 1) M18
    else
      K111 x4 x5 x6 x7 x8 x9 M
set_option maxRecDepth 100000 in
set_option maxHeartbeats 4000000 in
theorem X10_ruled_L83_ok {g : gx} (hg : EC g cX10_ruled RX10 7) {a1 : Int32} {a2 : Int32} {a3 : Int32} {r : Int32 × mm} (hr : RT g (some .int) (0, 0) (some (.int r.1)) (cells r.2)) {K111 : Int32 → Int32 → Int32 → Int32 → Int32 → Int32 → mm → Option (Int32 × mm)} (hK111 : ∀ (x4 : Int32) (x5 : Int32) (x6 : Int32) (x7 : Int32) (x8 : Int32) (x9 : Int32) (o10 : Option Value) (M : mm), K111 x4 x5 x6 x7 x8 x9 M = some r → E g (0, 0) 111 [some (.ref 0), some (.int a1), some (.int a2), some (.int a3), some (.int x4), some (.int x5), some (.int x6), some (.int x7), some (.int x8), some (.int x9), o10] [] (cells M)) : ∀ (n_ : Nat) (x4 : Int32) (x5 : Int32) (x6 : Int32) (x7 : Int32) (x8 : Int32) (x9 : Int32) (x10 : Int32) (M : mm), X10_ruled_L83 a1 a2 a3 K111 n_ x4 x5 x6 x7 x8 x9 x10 M = some r → E g (0, 0) 83 [some (.ref 0), some (.int a1), some (.int a2), some (.int a3), some (.int x4), some (.int x5), some (.int x6), some (.int x7), some (.int x8), some (.int x9), some (.int x10)] [] (cells M) := by
  intro n_
  induction n_ with
  | zero => intro x4 x5 x6 x7 x8 x9 x10 M h; exact o_no h
  | succ n_ ih =>
    intro x4 x5 x6 x7 x8 x9 x10 M h
    rw [X10_ruled_L83] at h
    refine e_iload hg dX10_ruled_83 rfl ?_
    refine e_iload_n hg dX10_ruled_85 rfl ?_
    refine e_icmpge hg 111 dX10_ruled_86 (by decide) (fun c16 => ?_) (fun c16 => ?_)
    · have h := o_pos c16 h
      refine e_iload hg dX10_ruled_89 rfl ?_
      refine e_aload_n hg dX10_ruled_91 rfl ?_
      refine m_getR (q := 27) hg ciX10 3 lk_455 dX10_ruled_92 io_0 (Nat.le_of_ble_eq_true rfl) rfl rf_0_3 ?_
      refine e_aload_n hg dX10_ruled_95 rfl ?_
      refine m_getR (q := 39) hg ciX10 5 lk_457 dX10_ruled_96 io_0 (Nat.le_of_ble_eq_true rfl) rfl rf_0_5 ?_
      obtain ⟨v17, M18, hc19, h⟩ := o_bd h
      refine m_callVI (rest := [.int x9]) (v := v17) (M' := M18) (ci := 2) hg mfX2_year mvX2_year (X2_year_ok (r := (v17, M18)) hc19) lk_677 dX10_ruled_99 io_27 rfl rfl rfl (by omega) (Nat.le_of_ble_eq_true rfl) ?_
      refine e_iadd hg dX10_ruled_102 ?_
      refine e_istore (ls' := [some (.ref 0), some (.int a1), some (.int a2), some (.int a3), some (.int x4), some (.int x5), some (.int x6), some (.int x7), some (.int x8), some (.int (x9 + v17)), some (.int x10)]) hg dX10_ruled_103 rfl ?_
      refine e_iinc (v := (x10 + 1)) (ls' := [some (.ref 0), some (.int a1), some (.int a2), some (.int a3), some (.int x4), some (.int x5), some (.int x6), some (.int x7), some (.int x8), some (.int (x9 + v17)), some (.int (x10 + 1))]) hg dX10_ruled_105 rfl rfl rfl ?_
      refine e_goto hg 83 dX10_ruled_108 (by decide) ?_
      exact ih _ _ _ _ _ _ _ _ h
    · have h := o_neg c16 h
      exact hK111 _ _ _ _ _ _ _ _ h

def X10_ruled_b131 (a1 : Int32) (a2 : Int32) (a3 : Int32) (R56 : Int32 → Int32 → Int32 → Int32 → Int32 → mm → Option (Int32 × mm)) (K137 : Int32 → Int32 → Int32 → mm → Option (Int32 × mm)) (x4 : Int32) (x5 : Int32) (x6 : Int32) (x7 : Int32) (x8 : Int32) (M : mm) : Option (Int32 × mm) :=
  R56 x4 x5 x6 x7 (x8 + 1) M
set_option maxRecDepth 100000 in
set_option maxHeartbeats 4000000 in
theorem X10_ruled_b131_ok {g : gx} (hg : EC g cX10_ruled RX10 7) {a1 : Int32} {a2 : Int32} {a3 : Int32} {r : Int32 × mm} (hr : RT g (some .int) (0, 0) (some (.int r.1)) (cells r.2)) {R56 : Int32 → Int32 → Int32 → Int32 → Int32 → mm → Option (Int32 × mm)} (hR56 : ∀ (x4 : Int32) (x5 : Int32) (x6 : Int32) (x7 : Int32) (x8 : Int32) (o9 : Option Value) (o10 : Option Value) (M : mm), R56 x4 x5 x6 x7 x8 M = some r → E g (0, 0) 56 [some (.ref 0), some (.int a1), some (.int a2), some (.int a3), some (.int x4), some (.int x5), some (.int x6), some (.int x7), some (.int x8), o9, o10] [] (cells M)) {K137 : Int32 → Int32 → Int32 → mm → Option (Int32 × mm)} (hK137 : ∀ (x4 : Int32) (x5 : Int32) (x6 : Int32) (o7 : Option Value) (o8 : Option Value) (o9 : Option Value) (o10 : Option Value) (M : mm), K137 x4 x5 x6 M = some r → E g (0, 0) 137 [some (.ref 0), some (.int a1), some (.int a2), some (.int a3), some (.int x4), some (.int x5), some (.int x6), o7, o8, o9, o10] [] (cells M)) {x4 : Int32} {x5 : Int32} {x6 : Int32} {x7 : Int32} {x8 : Int32} {o9 : Option Value} {o10 : Option Value} {M : mm} (h : X10_ruled_b131 a1 a2 a3 R56 K137 x4 x5 x6 x7 x8 M = some r) : E g (0, 0) 131 [some (.ref 0), some (.int a1), some (.int a2), some (.int a3), some (.int x4), some (.int x5), some (.int x6), some (.int x7), some (.int x8), o9, o10] [] (cells M) := by
  unfold X10_ruled_b131 at h
  refine e_iinc (v := (x8 + 1)) (ls' := [some (.ref 0), some (.int a1), some (.int a2), some (.int a3), some (.int x4), some (.int x5), some (.int x6), some (.int x7), some (.int (x8 + 1)), o9, o10]) hg dX10_ruled_131 rfl rfl rfl ?_
  refine e_goto hg 56 dX10_ruled_134 (by decide) ?_
  exact hR56 _ _ _ _ _ _ _ _ h

def X10_ruled_b123 (a1 : Int32) (a2 : Int32) (a3 : Int32) (R56 : Int32 → Int32 → Int32 → Int32 → Int32 → mm → Option (Int32 × mm)) (K137 : Int32 → Int32 → Int32 → mm → Option (Int32 × mm)) (x4 : Int32) (x7 : Int32) (x8 : Int32) (x9 : Int32) (M : mm) : Option (Int32 × mm) :=
  X10_ruled_b131 a1 a2 a3 R56 K137 x4 x8 x9 x7 x8 M
set_option maxRecDepth 100000 in
set_option maxHeartbeats 4000000 in
theorem X10_ruled_b123_ok {g : gx} (hg : EC g cX10_ruled RX10 7) {a1 : Int32} {a2 : Int32} {a3 : Int32} {r : Int32 × mm} (hr : RT g (some .int) (0, 0) (some (.int r.1)) (cells r.2)) {R56 : Int32 → Int32 → Int32 → Int32 → Int32 → mm → Option (Int32 × mm)} (hR56 : ∀ (x4 : Int32) (x5 : Int32) (x6 : Int32) (x7 : Int32) (x8 : Int32) (o9 : Option Value) (o10 : Option Value) (M : mm), R56 x4 x5 x6 x7 x8 M = some r → E g (0, 0) 56 [some (.ref 0), some (.int a1), some (.int a2), some (.int a3), some (.int x4), some (.int x5), some (.int x6), some (.int x7), some (.int x8), o9, o10] [] (cells M)) {K137 : Int32 → Int32 → Int32 → mm → Option (Int32 × mm)} (hK137 : ∀ (x4 : Int32) (x5 : Int32) (x6 : Int32) (o7 : Option Value) (o8 : Option Value) (o9 : Option Value) (o10 : Option Value) (M : mm), K137 x4 x5 x6 M = some r → E g (0, 0) 137 [some (.ref 0), some (.int a1), some (.int a2), some (.int a3), some (.int x4), some (.int x5), some (.int x6), o7, o8, o9, o10] [] (cells M)) {x4 : Int32} {x7 : Int32} {x8 : Int32} {x9 : Int32} {o5 : Option Value} {o6 : Option Value} {o10 : Option Value} {M : mm} (h : X10_ruled_b123 a1 a2 a3 R56 K137 x4 x7 x8 x9 M = some r) : E g (0, 0) 123 [some (.ref 0), some (.int a1), some (.int a2), some (.int a3), some (.int x4), o5, o6, some (.int x7), some (.int x8), some (.int x9), o10] [] (cells M) := by
  unfold X10_ruled_b123 at h
  refine e_iload hg dX10_ruled_123 rfl ?_
  refine e_drop (ls2 := [some (.ref 0), some (.int a1), some (.int a2), some (.int a3), some (.int x4), none, o6, some (.int x7), some (.int x8), some (.int x9), o10]) 5 rfl ?_
  refine e_istore (ls' := [some (.ref 0), some (.int a1), some (.int a2), some (.int a3), some (.int x4), none, some (.int x9), some (.int x7), some (.int x8), some (.int x9), o10]) hg dX10_ruled_125 rfl ?_
  refine e_iload hg dX10_ruled_127 rfl ?_
  refine e_istore (ls' := [some (.ref 0), some (.int a1), some (.int a2), some (.int a3), some (.int x4), some (.int x8), some (.int x9), some (.int x7), some (.int x8), some (.int x9), o10]) hg dX10_ruled_129 rfl ?_
  exact X10_ruled_b131_ok hg hr hR56 hK137 h

def X10_ruled_L56 (a1 : Int32) (a2 : Int32) (a3 : Int32) (K137 : Int32 → Int32 → Int32 → mm → Option (Int32 × mm)) : Nat → Int32 → Int32 → Int32 → Int32 → Int32 → mm → Option (Int32 × mm)
  | 0, _, _, _, _, _, _ => none
  | n_ + 1, x4, x5, x6, x7, x8, M =>
    if x7 < x8 then
      K137 x4 x5 x6 M
    else
      lt_ (sA M 1 (upd (M.1 1) 2 x8)) fun M12 =>
      bd (X10_startThought a1 M12) fun u13 M14 =>
      X10_ruled_L83 a1 a2 a3 (fun x4 x5 x6 x7 x8 x9 M =>
          if x8 = 0 then
            X10_ruled_b123 a1 a2 a3 (X10_ruled_L56 a1 a2 a3 K137 n_) K137 x4 x7 x8 x9 M
          else
            if x9 < x6 then
              X10_ruled_b123 a1 a2 a3 (X10_ruled_L56 a1 a2 a3 K137 n_) K137 x4 x7 x8 x9 M
            else
              X10_ruled_b131 a1 a2 a3 (X10_ruled_L56 a1 a2 a3 K137 n_) K137 x4 x5 x6 x7 x8 M) 10000 x4 x5 x6 x7 x8 0 0 M14
set_option maxRecDepth 100000 in
set_option maxHeartbeats 4000000 in
theorem X10_ruled_L56_ok {g : gx} (hg : EC g cX10_ruled RX10 7) {a1 : Int32} {a2 : Int32} {a3 : Int32} {r : Int32 × mm} (hr : RT g (some .int) (0, 0) (some (.int r.1)) (cells r.2)) {K137 : Int32 → Int32 → Int32 → mm → Option (Int32 × mm)} (hK137 : ∀ (x4 : Int32) (x5 : Int32) (x6 : Int32) (o7 : Option Value) (o8 : Option Value) (o9 : Option Value) (o10 : Option Value) (M : mm), K137 x4 x5 x6 M = some r → E g (0, 0) 137 [some (.ref 0), some (.int a1), some (.int a2), some (.int a3), some (.int x4), some (.int x5), some (.int x6), o7, o8, o9, o10] [] (cells M)) : ∀ (n_ : Nat) (x4 : Int32) (x5 : Int32) (x6 : Int32) (x7 : Int32) (x8 : Int32) (o9 : Option Value) (o10 : Option Value) (M : mm), X10_ruled_L56 a1 a2 a3 K137 n_ x4 x5 x6 x7 x8 M = some r → E g (0, 0) 56 [some (.ref 0), some (.int a1), some (.int a2), some (.int a3), some (.int x4), some (.int x5), some (.int x6), some (.int x7), some (.int x8), o9, o10] [] (cells M) := by
  intro n_
  induction n_ with
  | zero => intro x4 x5 x6 x7 x8 o9 o10 M h; exact o_no h
  | succ n_ ih =>
    intro x4 x5 x6 x7 x8 o9 o10 M h
    rw [X10_ruled_L56] at h
    refine e_iload hg dX10_ruled_56 rfl ?_
    refine e_iload hg dX10_ruled_58 rfl ?_
    refine e_icmpgt hg 137 dX10_ruled_60 (by decide) (fun c11 => ?_) (fun c11 => ?_)
    · have h := o_pos c11 h
      exact hK137 _ _ _ _ _ _ _ _ h
    · have h := o_neg c11 h
      refine e_aload_n hg dX10_ruled_63 rfl ?_
      refine m_getR (q := 1) hg ciX10 0 lk_452 dX10_ruled_64 io_0 (Nat.le_of_ble_eq_true rfl) rfl rf_0_0 ?_
      refine e_iload hg dX10_ruled_67 rfl ?_
      obtain ⟨M12, hM12, h⟩ := o_lt h
      refine m_putI hg ciX3 2 lk_101 dX10_ruled_69 io_1 (Nat.le_of_ble_eq_true rfl) rfl rfl rfl rfl ?_
      rw [← hM12]
      refine e_aload_n hg dX10_ruled_72 rfl ?_
      refine e_iload_n hg dX10_ruled_73 rfl ?_
      obtain ⟨u13, M14, hc15, h⟩ := o_bd h
      refine m_callVV (rest := []) (M' := M14) (ci := 10) hg mfX10_startThought mvX10_startThought (X10_startThought_ok (r := (u13, M14)) hc15) lk_838 dX10_ruled_74 io_0 rfl rfl rfl (by omega) (Nat.le_of_ble_eq_true rfl) ?_
      refine e_iconst (v := 0) hg dX10_ruled_77 (by decide) ?_
      refine e_istore (ls' := [some (.ref 0), some (.int a1), some (.int a2), some (.int a3), some (.int x4), some (.int x5), some (.int x6), some (.int x7), some (.int x8), some (.int 0), o10]) hg dX10_ruled_78 rfl ?_
      refine e_iconst (v := 0) hg dX10_ruled_80 (by decide) ?_
      refine e_istore (ls' := [some (.ref 0), some (.int a1), some (.int a2), some (.int a3), some (.int x4), some (.int x5), some (.int x6), some (.int x7), some (.int x8), some (.int 0), some (.int 0)]) hg dX10_ruled_81 rfl ?_
      refine X10_ruled_L83_ok hg hr (fun x4 x5 x6 x7 x8 x9 o10 M h => ?_) 10000 _ _ _ _ _ _ _ _ h
      refine e_iload hg dX10_ruled_111 rfl ?_
      refine e_ifeq hg 123 dX10_ruled_113 (by decide) (fun c20 => ?_) (fun c20 => ?_)
      · have h := o_pos c20 h
        exact X10_ruled_b123_ok hg hr ih hK137 h
      · have h := o_neg c20 h
        refine e_iload hg dX10_ruled_116 rfl ?_
        refine e_iload hg dX10_ruled_118 rfl ?_
        refine e_icmpge hg 131 dX10_ruled_120 (by decide) (fun c21 => ?_) (fun c21 => ?_)
        · have h := o_pos c21 h
          exact X10_ruled_b123_ok hg hr ih hK137 h
        · have h := o_neg c21 h
          exact X10_ruled_b131_ok hg hr ih hK137 h

def X10_ruled_b51 (a1 : Int32) (a2 : Int32) (a3 : Int32) (x4 : Int32) (x5 : Int32) (x6 : Int32) (s0 : Int32) (M : mm) : Option (Int32 × mm) :=
  X10_ruled_L56 a1 a2 a3 (fun x4 x5 x6 M =>
      lt_ (sA M 1 (upd (M.1 1) 2 x4)) fun M22 =>
      if a3 = 0 then
        some (x5, M22)
      else
        some (x6, M22)) 10000 x4 x5 x6 s0 0 M
set_option maxRecDepth 100000 in
set_option maxHeartbeats 4000000 in
theorem X10_ruled_b51_ok {g : gx} (hg : EC g cX10_ruled RX10 7) {a1 : Int32} {a2 : Int32} {a3 : Int32} {r : Int32 × mm} (hr : RT g (some .int) (0, 0) (some (.int r.1)) (cells r.2)) {x4 : Int32} {x5 : Int32} {x6 : Int32} {s0 : Int32} {o7 : Option Value} {o8 : Option Value} {o9 : Option Value} {o10 : Option Value} {M : mm} (h : X10_ruled_b51 a1 a2 a3 x4 x5 x6 s0 M = some r) : E g (0, 0) 51 [some (.ref 0), some (.int a1), some (.int a2), some (.int a3), some (.int x4), some (.int x5), some (.int x6), o7, o8, o9, o10] [.int s0] (cells M) := by
  unfold X10_ruled_b51 at h
  refine e_istore (ls' := [some (.ref 0), some (.int a1), some (.int a2), some (.int a3), some (.int x4), some (.int x5), some (.int x6), some (.int s0), o8, o9, o10]) hg dX10_ruled_51 rfl ?_
  refine e_iconst (v := 0) hg dX10_ruled_53 (by decide) ?_
  refine e_istore (ls' := [some (.ref 0), some (.int a1), some (.int a2), some (.int a3), some (.int x4), some (.int x5), some (.int x6), some (.int s0), some (.int 0), o9, o10]) hg dX10_ruled_54 rfl ?_
  refine X10_ruled_L56_ok hg hr (fun x4 x5 x6 o7 o8 o9 o10 M h => ?_) 10000 _ _ _ _ _ _ _ _ h
  refine e_aload_n hg dX10_ruled_137 rfl ?_
  refine m_getR (q := 1) hg ciX10 0 lk_452 dX10_ruled_138 io_0 (Nat.le_of_ble_eq_true rfl) rfl rf_0_0 ?_
  refine e_iload hg dX10_ruled_141 rfl ?_
  obtain ⟨M22, hM22, h⟩ := o_lt h
  refine m_putI hg ciX3 2 lk_101 dX10_ruled_143 io_1 (Nat.le_of_ble_eq_true rfl) rfl rfl rfl rfl ?_
  rw [← hM22]
  refine e_iload_n hg dX10_ruled_146 rfl ?_
  refine e_ifne hg 155 dX10_ruled_147 (by decide) (fun c23 => ?_) (fun c23 => ?_)
  · have h := o_pos c23 h
    refine e_iload hg dX10_ruled_150 rfl ?_
    refine e_goto hg 157 dX10_ruled_152 (by decide) ?_
    exact m_iret hg hr dX10_ruled_157 h
  · have h := o_neg c23 h
    refine e_iload hg dX10_ruled_155 rfl ?_
    exact m_iret hg hr dX10_ruled_157 h

def X10_ruled (a1 : Int32) (a2 : Int32) (a3 : Int32) (M : mm) : Option (Int32 × mm) :=
  if a2 < 1 then
    some ((-1), M)
  else
    if 20 < a2 then
      some ((-1), M)
    else
      bd (X10_isZeroOrOne a3 M) fun v3 M4 =>
      if v3 = 0 then
        some ((-1), M4)
      else
        bd (X3_anyBest M4) fun v7 M8 =>
        X10_ruled_b51 a1 a2 a3 (M4.1 1 2) 0 (-1) (if v7 = 0 then 0 else 9) M8
set_option maxRecDepth 100000 in
set_option maxHeartbeats 4000000 in
theorem X10_ruled_ok {a1 : Int32} {a2 : Int32} {a3 : Int32} {M : mm} {r : Int32 × mm} (h : X10_ruled a1 a2 a3 M = some r) : CM yX10_ruled cX10_ruled 11 (some .int) 7 [.ref 0, .int a1, .int a2, .int a3] (cells M) (some (.int r.1)) (cells r.2) := by
  refine cm_of (ls := [some (.ref 0), some (.int a1), some (.int a2), some (.int a3), none, none, none, none, none, none, none]) mfX10_ruled rfl (Nat.le_of_ble_eq_true rfl) (fun g hg hr => ?_)
  unfold X10_ruled at h
  refine e_iload_n hg dX10_ruled_0 rfl ?_
  refine e_iconst (v := 1) hg dX10_ruled_1 (by decide) ?_
  refine e_icmplt hg 18 dX10_ruled_2 (by decide) (fun c1 => ?_) (fun c1 => ?_)
  · have h := o_pos c1 h
    refine e_iconst (v := -1) hg dX10_ruled_18 (by decide) ?_
    exact m_iret hg hr dX10_ruled_19 h
  · have h := o_neg c1 h
    refine e_iload_n hg dX10_ruled_5 rfl ?_
    refine e_bipush (v := 20) hg dX10_ruled_6 (by decide) ?_
    refine e_icmpgt hg 18 dX10_ruled_8 (by decide) (fun c2 => ?_) (fun c2 => ?_)
    · have h := o_pos c2 h
      refine e_iconst (v := -1) hg dX10_ruled_18 (by decide) ?_
      exact m_iret hg hr dX10_ruled_19 h
    · have h := o_neg c2 h
      refine e_iload_n hg dX10_ruled_11 rfl ?_
      obtain ⟨v3, M4, hc5, h⟩ := o_bd h
      refine m_callSI (rest := []) (v := v3) (M' := M4) hg mfX10_isZeroOrOne mvX10_isZeroOrOne (X10_isZeroOrOne_ok (r := (v3, M4)) hc5) lk_785 dX10_ruled_12 rfl rfl (by omega) (Nat.le_of_ble_eq_true rfl) ?_
      refine e_ifne hg 20 dX10_ruled_15 (by decide) (fun c6 => ?_) (fun c6 => ?_)
      · have h := o_pos c6 h
        refine e_iconst (v := -1) hg dX10_ruled_18 (by decide) ?_
        exact m_iret hg hr dX10_ruled_19 h
      · have h := o_neg c6 h
        refine e_aload_n hg dX10_ruled_20 rfl ?_
        refine m_getR (q := 1) hg ciX10 0 lk_452 dX10_ruled_21 io_0 (Nat.le_of_ble_eq_true rfl) rfl rf_0_0 ?_
        refine m_getI hg ciX3 2 lk_101 dX10_ruled_24 io_1 (Nat.le_of_ble_eq_true rfl) rfl ?_
        refine e_istore (ls' := [some (.ref 0), some (.int a1), some (.int a2), some (.int a3), some (.int (M4.1 1 2)), none, none, none, none, none, none]) hg dX10_ruled_27 rfl ?_
        refine e_iconst (v := 0) hg dX10_ruled_29 (by decide) ?_
        refine e_istore (ls' := [some (.ref 0), some (.int a1), some (.int a2), some (.int a3), some (.int (M4.1 1 2)), some (.int 0), none, none, none, none, none]) hg dX10_ruled_30 rfl ?_
        refine e_iconst (v := -1) hg dX10_ruled_32 (by decide) ?_
        refine e_istore (ls' := [some (.ref 0), some (.int a1), some (.int a2), some (.int a3), some (.int (M4.1 1 2)), some (.int 0), some (.int (-1)), none, none, none, none]) hg dX10_ruled_33 rfl ?_
        refine e_aload_n hg dX10_ruled_35 rfl ?_
        refine m_getR (q := 1) hg ciX10 0 lk_452 dX10_ruled_36 io_0 (Nat.le_of_ble_eq_true rfl) rfl rf_0_0 ?_
        obtain ⟨v7, M8, hc9, h⟩ := o_bd h
        refine m_callVI (rest := []) (v := v7) (M' := M8) (ci := 3) hg mfX3_anyBest mvX3_anyBest (X3_anyBest_ok (r := (v7, M8)) hc9) lk_834 dX10_ruled_39 io_1 rfl rfl rfl (by omega) (Nat.le_of_ble_eq_true rfl) ?_
        refine e_ifeq hg 50 dX10_ruled_42 (by decide) (fun c10 => ?_) (fun c10 => ?_)
        · simp only [if_pos c10] at h
          refine e_iconst (v := 0) hg dX10_ruled_50 (by decide) ?_
          exact X10_ruled_b51_ok hg hr  h
        · simp only [if_neg c10] at h
          refine e_bipush (v := 9) hg dX10_ruled_45 (by decide) ?_
          refine e_goto hg 51 dX10_ruled_47 (by decide) ?_
          exact X10_ruled_b51_ok hg hr  h

def X10_ruined_L50 (a1 : Int32) (a2 : Int32) (a3 : Int32) (K76 : Int32 → Int32 → mm → Option (Int32 × mm)) (K94 : Int32 → mm → Option (Int32 × mm)) : Nat → Int32 → Int32 → mm → Option (Int32 × mm)
  | 0, _, _, _ => none
  | n_ + 1, x4, x5, M =>
    if x5 < (M.1 1 0) then
      gd (inb x5 5) <|
      if (M.1 (39 + 7) x5.toNatClampNeg) < a2 then
        K76 x4 x5 M
      else
        (X10_ruined_L50 a1 a2 a3 K76 K94 n_) x4 (x5 + 1) M
    else
      K94 x4 M
set_option maxRecDepth 100000 in
set_option maxHeartbeats 4000000 in
theorem X10_ruined_L50_ok {g : gx} (hg : EC g cX10_ruined RX10 7) {a1 : Int32} {a2 : Int32} {a3 : Int32} {r : Int32 × mm} (hr : RT g (some .int) (0, 0) (some (.int r.1)) (cells r.2)) {K76 : Int32 → Int32 → mm → Option (Int32 × mm)} (hK76 : ∀ (x4 : Int32) (x5 : Int32) (M : mm), K76 x4 x5 M = some r → E g (0, 0) 76 [some (.ref 0), some (.int a1), some (.int a2), some (.int a3), some (.int x4), some (.int x5)] [] (cells M)) {K94 : Int32 → mm → Option (Int32 × mm)} (hK94 : ∀ (x4 : Int32) (o5 : Option Value) (M : mm), K94 x4 M = some r → E g (0, 0) 94 [some (.ref 0), some (.int a1), some (.int a2), some (.int a3), some (.int x4), o5] [] (cells M)) : ∀ (n_ : Nat) (x4 : Int32) (x5 : Int32) (M : mm), X10_ruined_L50 a1 a2 a3 K76 K94 n_ x4 x5 M = some r → E g (0, 0) 50 [some (.ref 0), some (.int a1), some (.int a2), some (.int a3), some (.int x4), some (.int x5)] [] (cells M) := by
  intro n_
  induction n_ with
  | zero => intro x4 x5 M h; exact o_no h
  | succ n_ ih =>
    intro x4 x5 M h
    rw [X10_ruined_L50] at h
    refine e_iload hg dX10_ruined_50 rfl ?_
    refine e_aload_n hg dX10_ruined_52 rfl ?_
    refine m_getR (q := 1) hg ciX10 0 lk_452 dX10_ruined_53 io_0 (Nat.le_of_ble_eq_true rfl) rfl rf_0_0 ?_
    refine m_getI hg ciX3 0 lk_97 dX10_ruined_56 io_1 (Nat.le_of_ble_eq_true rfl) rfl ?_
    refine e_icmpge hg 94 dX10_ruined_59 (by decide) (fun c14 => ?_) (fun c14 => ?_)
    · have h := o_pos c14 h
      refine e_aload_n hg dX10_ruined_62 rfl ?_
      refine m_getR (q := 39) hg ciX10 5 lk_457 dX10_ruined_63 io_0 (Nat.le_of_ble_eq_true rfl) rfl rf_0_5 ?_
      refine m_getR (q := (39 + 7)) hg ciX9 8 lk_337 dX10_ruined_66 io_39 (Nat.le_of_ble_eq_true rfl) rfl (rfF9_8 io_39) ?_
      refine e_iload hg dX10_ruined_69 rfl ?_
      obtain ⟨hi15, h⟩ := o_gd h
      refine m_iald hg (shF9_7 io_39) hi15 dX10_ruined_71 ?_
      refine e_iload_n hg dX10_ruined_72 rfl ?_
      refine e_icmpge hg 88 dX10_ruined_73 (by decide) (fun c16 => ?_) (fun c16 => ?_)
      · have h := o_pos c16 h
        exact hK76 _ _ _ h
      · have h := o_neg c16 h
        refine e_iinc (v := (x5 + 1)) (ls' := [some (.ref 0), some (.int a1), some (.int a2), some (.int a3), some (.int x4), some (.int (x5 + 1))]) hg dX10_ruined_88 rfl rfl rfl ?_
        refine e_goto hg 50 dX10_ruined_91 (by decide) ?_
        exact ih _ _ _ h
    · have h := o_neg c14 h
      exact hK94 _ _ _ h

def X10_ruined_L28 (a1 : Int32) (a2 : Int32) (a3 : Int32) (K76 : Int32 → Int32 → mm → Option (Int32 × mm)) : Nat → Int32 → mm → Option (Int32 × mm)
  | 0, _, _ => none
  | n_ + 1, x4, M =>
    if 30 < x4 then
      some ((-2), M)
    else
      bd (X2_year 39 M) fun v11 M12 =>
      X10_ruined_L50 a1 a2 a3 K76 (fun x4 M =>
          (X10_ruined_L28 a1 a2 a3 K76 n_) (x4 + 1) M) 10000 x4 0 M12
set_option maxRecDepth 100000 in
set_option maxHeartbeats 4000000 in
theorem X10_ruined_L28_ok {g : gx} (hg : EC g cX10_ruined RX10 7) {a1 : Int32} {a2 : Int32} {a3 : Int32} {r : Int32 × mm} (hr : RT g (some .int) (0, 0) (some (.int r.1)) (cells r.2)) {K76 : Int32 → Int32 → mm → Option (Int32 × mm)} (hK76 : ∀ (x4 : Int32) (x5 : Int32) (M : mm), K76 x4 x5 M = some r → E g (0, 0) 76 [some (.ref 0), some (.int a1), some (.int a2), some (.int a3), some (.int x4), some (.int x5)] [] (cells M)) : ∀ (n_ : Nat) (x4 : Int32) (o5 : Option Value) (M : mm), X10_ruined_L28 a1 a2 a3 K76 n_ x4 M = some r → E g (0, 0) 28 [some (.ref 0), some (.int a1), some (.int a2), some (.int a3), some (.int x4), o5] [] (cells M) := by
  intro n_
  induction n_ with
  | zero => intro x4 o5 M h; exact o_no h
  | succ n_ ih =>
    intro x4 o5 M h
    rw [X10_ruined_L28] at h
    refine e_iload hg dX10_ruined_28 rfl ?_
    refine e_bipush (v := 30) hg dX10_ruined_30 (by decide) ?_
    refine e_icmpgt hg 100 dX10_ruined_32 (by decide) (fun c10 => ?_) (fun c10 => ?_)
    · have h := o_pos c10 h
      refine e_bipush (v := -2) hg dX10_ruined_100 (by decide) ?_
      exact m_iret hg hr dX10_ruined_102 h
    · have h := o_neg c10 h
      refine e_aload_n hg dX10_ruined_35 rfl ?_
      refine m_getR (q := 27) hg ciX10 3 lk_455 dX10_ruined_36 io_0 (Nat.le_of_ble_eq_true rfl) rfl rf_0_3 ?_
      refine e_aload_n hg dX10_ruined_39 rfl ?_
      refine m_getR (q := 39) hg ciX10 5 lk_457 dX10_ruined_40 io_0 (Nat.le_of_ble_eq_true rfl) rfl rf_0_5 ?_
      obtain ⟨v11, M12, hc13, h⟩ := o_bd h
      refine m_callVI (rest := []) (v := v11) (M' := M12) (ci := 2) hg mfX2_year mvX2_year (X2_year_ok (r := (v11, M12)) hc13) lk_677 dX10_ruined_43 io_27 rfl rfl rfl (by omega) (Nat.le_of_ble_eq_true rfl) ?_
      refine e_pop hg dX10_ruined_46 rfl ?_
      refine e_iconst (v := 0) hg dX10_ruined_47 (by decide) ?_
      refine e_istore (ls' := [some (.ref 0), some (.int a1), some (.int a2), some (.int a3), some (.int x4), some (.int 0)]) hg dX10_ruined_48 rfl ?_
      refine X10_ruined_L50_ok hg hr hK76 (fun x4 o5 M h => ?_) 10000 _ _ _ h
      refine e_iinc (v := (x4 + 1)) (ls' := [some (.ref 0), some (.int a1), some (.int a2), some (.int a3), some (.int (x4 + 1)), o5]) hg dX10_ruined_94 rfl rfl rfl ?_
      refine e_goto hg 28 dX10_ruined_97 (by decide) ?_
      exact ih _ _ _ h

def X10_ruined (a1 : Int32) (a2 : Int32) (a3 : Int32) (M : mm) : Option (Int32 × mm) :=
  if a2 < (-999) then
    some ((-1), M)
  else
    if 0 < a2 then
      some ((-1), M)
    else
      bd (X10_isZeroOrOne a3 M) fun v3 M4 =>
      if v3 = 0 then
        some ((-1), M4)
      else
        bd (X10_startThought a1 M4) fun u7 M8 =>
        X10_ruined_L28 a1 a2 a3 (fun x4 x5 M =>
            if a3 = 0 then
              some (x4, M)
            else
              some (x5, M)) 10000 1 M8
set_option maxRecDepth 100000 in
set_option maxHeartbeats 4000000 in
theorem X10_ruined_ok {a1 : Int32} {a2 : Int32} {a3 : Int32} {M : mm} {r : Int32 × mm} (h : X10_ruined a1 a2 a3 M = some r) : CM yX10_ruined cX10_ruined 6 (some .int) 7 [.ref 0, .int a1, .int a2, .int a3] (cells M) (some (.int r.1)) (cells r.2) := by
  refine cm_of (ls := [some (.ref 0), some (.int a1), some (.int a2), some (.int a3), none, none]) mfX10_ruined rfl (Nat.le_of_ble_eq_true rfl) (fun g hg hr => ?_)
  unfold X10_ruined at h
  refine e_iload_n hg dX10_ruined_0 rfl ?_
  refine e_sipush (v := -999) hg dX10_ruined_1 (by decide) ?_
  refine e_icmplt hg 18 dX10_ruined_4 (by decide) (fun c1 => ?_) (fun c1 => ?_)
  · have h := o_pos c1 h
    refine e_iconst (v := -1) hg dX10_ruined_18 (by decide) ?_
    exact m_iret hg hr dX10_ruined_19 h
  · have h := o_neg c1 h
    refine e_iload_n hg dX10_ruined_7 rfl ?_
    refine e_ifgt hg 18 dX10_ruined_8 (by decide) (fun c2 => ?_) (fun c2 => ?_)
    · have h := o_pos c2 h
      refine e_iconst (v := -1) hg dX10_ruined_18 (by decide) ?_
      exact m_iret hg hr dX10_ruined_19 h
    · have h := o_neg c2 h
      refine e_iload_n hg dX10_ruined_11 rfl ?_
      obtain ⟨v3, M4, hc5, h⟩ := o_bd h
      refine m_callSI (rest := []) (v := v3) (M' := M4) hg mfX10_isZeroOrOne mvX10_isZeroOrOne (X10_isZeroOrOne_ok (r := (v3, M4)) hc5) lk_785 dX10_ruined_12 rfl rfl (by omega) (Nat.le_of_ble_eq_true rfl) ?_
      refine e_ifne hg 20 dX10_ruined_15 (by decide) (fun c6 => ?_) (fun c6 => ?_)
      · have h := o_pos c6 h
        refine e_iconst (v := -1) hg dX10_ruined_18 (by decide) ?_
        exact m_iret hg hr dX10_ruined_19 h
      · have h := o_neg c6 h
        refine e_aload_n hg dX10_ruined_20 rfl ?_
        refine e_iload_n hg dX10_ruined_21 rfl ?_
        obtain ⟨u7, M8, hc9, h⟩ := o_bd h
        refine m_callVV (rest := []) (M' := M8) (ci := 10) hg mfX10_startThought mvX10_startThought (X10_startThought_ok (r := (u7, M8)) hc9) lk_838 dX10_ruined_22 io_0 rfl rfl rfl (by omega) (Nat.le_of_ble_eq_true rfl) ?_
        refine e_iconst (v := 1) hg dX10_ruined_25 (by decide) ?_
        refine e_istore (ls' := [some (.ref 0), some (.int a1), some (.int a2), some (.int a3), some (.int 1), none]) hg dX10_ruined_26 rfl ?_
        refine X10_ruined_L28_ok hg hr (fun x4 x5 M h => ?_) 10000 _ _ _ h
        refine e_iload_n hg dX10_ruined_76 rfl ?_
        refine e_ifne hg 85 dX10_ruined_77 (by decide) (fun c17 => ?_) (fun c17 => ?_)
        · have h := o_pos c17 h
          refine e_iload hg dX10_ruined_80 rfl ?_
          refine e_goto hg 87 dX10_ruined_82 (by decide) ?_
          exact m_iret hg hr dX10_ruined_87 h
        · have h := o_neg c17 h
          refine e_iload hg dX10_ruined_85 rfl ?_
          exact m_iret hg hr dX10_ruined_87 h

