def X11_gift (a1 : Int32) (a2 : Int32) (a3 : Int32) (M : mm) : Option (Int64 × mm) :=
  bd (X11_isTy a1 M) fun v1 M2 =>
  if v1 = 0 then
    some ((-9223372036854775808), M2)
  else
    bd (X11_isPerson a2 M2) fun v5 M6 =>
    if v5 = 0 then
      some ((-9223372036854775808), M6)
    else
      gd (inb (a1 / 10) 6) <|
      if a2 = (M6.1 90 (a1 / 10).toNatClampNeg) then
        some ((-9223372036854775808), M6)
      else
        bd (X11_within (a3.toInt64) 0 1 M6) fun v11 M12 =>
        if v11 = 0 then
          some ((-9223372036854775808), M12)
        else
          bd (X11_bestOf (a1 / 10) a2 (a1 - a1 / 10 * 10) 4 M12) fun v15 M16 =>
          gd (inb (a1 - a1 / 10 * 10) 7) <|
          bd (X11_partOf v15 (M16.2.1 101 (a1 - a1 / 10 * 10).toNatClampNeg) a3 M16) fun v19 M20 =>
          some (v19, M20)
set_option maxRecDepth 100000 in
set_option maxHeartbeats 4000000 in
theorem X11_gift_ok {a1 : Int32} {a2 : Int32} {a3 : Int32} {M : mm} {r : Int64 × mm} (h : X11_gift a1 a2 a3 M = some r) : CM yX11_gift cX11_gift 6 (some .long) 107 [.ref 82, .int a1, .int a2, .int a3] (cells M) (some (.long r.1)) (cells r.2) := by
  refine cm_of (ls := [some (.ref 82), some (.int a1), some (.int a2), some (.int a3), none, none]) mfX11_gift rfl (Nat.le_of_ble_eq_true rfl) (fun g hg hr => ?_)
  unfold X11_gift at h
  refine e_aload_n hg dX11_gift_0 rfl ?_
  refine e_iload_n hg dX11_gift_1 rfl ?_
  obtain ⟨v1, M2, hc3, h⟩ := o_bd h
  refine m_callVI (rest := []) (v := v1) (M' := M2) (ci := 11) hg mfX11_isTy mvX11_isTy (X11_isTy_ok (r := (v1, M2)) hc3) lk_1312 dX11_gift_2 io_82 rfl rfl rfl (by omega) (Nat.le_of_ble_eq_true rfl) ?_
  refine e_ifeq hg 39 dX11_gift_5 (by decide) (fun c4 => ?_) (fun c4 => ?_)
  · have h := o_pos c4 h
    refine e_ldc2 hg dX11_gift_39 lk_1316 ?_
    exact m_lret hg hr dX11_gift_42 h
  · have h := o_neg c4 h
    refine e_aload_n hg dX11_gift_8 rfl ?_
    refine e_iload_n hg dX11_gift_9 rfl ?_
    obtain ⟨v5, M6, hc7, h⟩ := o_bd h
    refine m_callVI (rest := []) (v := v5) (M' := M6) (ci := 11) hg mfX11_isPerson mvX11_isPerson (X11_isPerson_ok (r := (v5, M6)) hc7) lk_1224 dX11_gift_10 io_82 rfl rfl rfl (by omega) (Nat.le_of_ble_eq_true rfl) ?_
    refine e_ifeq hg 39 dX11_gift_13 (by decide) (fun c8 => ?_) (fun c8 => ?_)
    · have h := o_pos c8 h
      refine e_ldc2 hg dX11_gift_39 lk_1316 ?_
      exact m_lret hg hr dX11_gift_42 h
    · have h := o_neg c8 h
      refine e_iload_n hg dX11_gift_16 rfl ?_
      refine e_aload_n hg dX11_gift_17 rfl ?_
      refine m_getR (q := 90) hg ciX11 11 lk_997 dX11_gift_18 io_82 (Nat.le_of_ble_eq_true rfl) rfl rf_82_11 ?_
      refine e_iload_n hg dX11_gift_21 rfl ?_
      refine e_bipush (v := 10) hg dX11_gift_22 (by decide) ?_
      refine e_idiv hg dX11_gift_24 (by decide) ?_
      obtain ⟨hi9, h⟩ := o_gd h
      refine m_iald hg sh_90 hi9 dX11_gift_25 ?_
      refine e_icmpeq hg 39 dX11_gift_26 (by decide) (fun c10 => ?_) (fun c10 => ?_)
      · have h := o_pos c10 h
        refine e_ldc2 hg dX11_gift_39 lk_1316 ?_
        exact m_lret hg hr dX11_gift_42 h
      · have h := o_neg c10 h
        refine e_iload_n hg dX11_gift_29 rfl ?_
        refine e_i2l hg dX11_gift_30 ?_
        refine e_lconst (v := 0) hg dX11_gift_31 (by decide) ?_
        refine e_lconst (v := 1) hg dX11_gift_32 (by decide) ?_
        obtain ⟨v11, M12, hc13, h⟩ := o_bd h
        refine m_callSI (rest := []) (v := v11) (M' := M12) hg mfX11_within mvX11_within (X11_within_ok (r := (v11, M12)) hc13) lk_1190 dX11_gift_33 rfl rfl (by omega) (Nat.le_of_ble_eq_true rfl) ?_
        refine e_ifne hg 43 dX11_gift_36 (by decide) (fun c14 => ?_) (fun c14 => ?_)
        · have h := o_pos c14 h
          refine e_ldc2 hg dX11_gift_39 lk_1316 ?_
          exact m_lret hg hr dX11_gift_42 h
        · have h := o_neg c14 h
          refine e_aload_n hg dX11_gift_43 rfl ?_
          refine e_iload_n hg dX11_gift_44 rfl ?_
          refine e_bipush (v := 10) hg dX11_gift_45 (by decide) ?_
          refine e_idiv hg dX11_gift_47 (by decide) ?_
          refine e_iload_n hg dX11_gift_48 rfl ?_
          refine e_iload_n hg dX11_gift_49 rfl ?_
          refine e_bipush (v := 10) hg dX11_gift_50 (by decide) ?_
          refine e_irem hg dX11_gift_52 (by decide) ?_
          refine e_iconst (v := 4) hg dX11_gift_53 (by decide) ?_
          obtain ⟨v15, M16, hc17, h⟩ := o_bd h
          refine m_callVJ (rest := []) (v := v15) (M' := M16) (ci := 11) hg mfX11_bestOf mvX11_bestOf (X11_bestOf_ok (r := (v15, M16)) hc17) lk_1317 dX11_gift_54 io_82 rfl rfl rfl (by omega) (Nat.le_of_ble_eq_true rfl) ?_
          refine e_lstore (ls' := [some (.ref 82), some (.int a1), some (.int a2), some (.int a3), some (.long v15), none]) hg dX11_gift_57 rfl ?_
          refine e_lload hg dX11_gift_59 rfl ?_
          refine e_aload_n hg dX11_gift_61 rfl ?_
          refine m_getR (q := 101) hg ciX11 33 lk_1019 dX11_gift_62 io_82 (Nat.le_of_ble_eq_true rfl) rfl rf_82_33 ?_
          refine e_iload_n hg dX11_gift_65 rfl ?_
          refine e_bipush (v := 10) hg dX11_gift_66 (by decide) ?_
          refine e_irem hg dX11_gift_68 (by decide) ?_
          obtain ⟨hi18, h⟩ := o_gd h
          refine m_lald hg sh_101 hi18 dX11_gift_69 ?_
          refine e_iload_n hg dX11_gift_70 rfl ?_
          obtain ⟨v19, M20, hc21, h⟩ := o_bd h
          refine m_callSJ (rest := []) (v := v19) (M' := M20) hg mfX11_partOf mvX11_partOf (X11_partOf_ok (r := (v19, M20)) hc21) lk_1349 dX11_gift_71 rfl rfl (by omega) (Nat.le_of_ble_eq_true rfl) ?_
          exact m_lret hg hr dX11_gift_74 h

def X11_debts_b119 (a1 : Int32) (a2 : Int32) (R43 : Int64 → Int32 → mm → Option (Int64 × mm)) (K125 : Int64 → mm → Option (Int64 × mm)) (x3 : Int64) (x5 : Int32) (M : mm) : Option (Int64 × mm) :=
  R43 x3 (x5 + 1) M
set_option maxRecDepth 100000 in
set_option maxHeartbeats 4000000 in
theorem X11_debts_b119_ok {g : gx} (hg : EC g cX11_debts RX11 106) {a1 : Int32} {a2 : Int32} {r : Int64 × mm} (hr : RT g (some .long) (0, 0) (some (.long r.1)) (cells r.2)) {R43 : Int64 → Int32 → mm → Option (Int64 × mm)} (hR43 : ∀ (x3 : Int64) (x5 : Int32) (M : mm), R43 x3 x5 M = some r → E g (0, 0) 43 [some (.ref 82), some (.int a1), some (.int a2), some (.long x3), none, some (.int x5)] [] (cells M)) {K125 : Int64 → mm → Option (Int64 × mm)} (hK125 : ∀ (x3 : Int64) (o5 : Option Value) (M : mm), K125 x3 M = some r → E g (0, 0) 125 [some (.ref 82), some (.int a1), some (.int a2), some (.long x3), none, o5] [] (cells M)) {x3 : Int64} {x5 : Int32} {M : mm} (h : X11_debts_b119 a1 a2 R43 K125 x3 x5 M = some r) : E g (0, 0) 119 [some (.ref 82), some (.int a1), some (.int a2), some (.long x3), none, some (.int x5)] [] (cells M) := by
  unfold X11_debts_b119 at h
  refine e_iinc (v := (x5 + 1)) (ls' := [some (.ref 82), some (.int a1), some (.int a2), some (.long x3), none, some (.int (x5 + 1))]) hg dX11_debts_119 rfl rfl rfl ?_
  refine e_goto hg 43 dX11_debts_122 (by decide) ?_
  exact hR43 _ _ _ h

def X11_debts_L43 (a1 : Int32) (a2 : Int32) (K125 : Int64 → mm → Option (Int64 × mm)) : Nat → Int64 → Int32 → mm → Option (Int64 × mm)
  | 0, _, _, _ => none
  | n_ + 1, x3, x5, M =>
    if x5 < (M.1 82 7) then
      gd (inb x5 6) <|
      if (M.1 92 x5.toNatClampNeg) = (a1 / 10) then
        gd (inb x5 6) <|
        bd (X11_thinksOf x5 (M.1 90 x5.toNatClampNeg) 0 M) fun u15 M16 =>
        gd (inb (21 + x5) 33) <|
        gd (inb x5 6) <|
        gd (inb x5 6) <|
        bd (X11_paysFrom x5 (a1 - a1 / 10 * 10) (M16.1 91 x5.toNatClampNeg) (M16.1 94 x5.toNatClampNeg) M16) fun v21 M22 =>
        lt_ ((x3 + ((M16.1 83 (21 + x5).toNatClampNeg).toInt64 * v21))) fun z24 =>
        X11_debts_b119 a1 a2 (X11_debts_L43 a1 a2 K125 n_) K125 z24 x5 M22
      else
        X11_debts_b119 a1 a2 (X11_debts_L43 a1 a2 K125 n_) K125 x3 x5 M
    else
      K125 x3 M
set_option maxRecDepth 100000 in
set_option maxHeartbeats 4000000 in
theorem X11_debts_L43_ok {g : gx} (hg : EC g cX11_debts RX11 106) {a1 : Int32} {a2 : Int32} {r : Int64 × mm} (hr : RT g (some .long) (0, 0) (some (.long r.1)) (cells r.2)) {K125 : Int64 → mm → Option (Int64 × mm)} (hK125 : ∀ (x3 : Int64) (o5 : Option Value) (M : mm), K125 x3 M = some r → E g (0, 0) 125 [some (.ref 82), some (.int a1), some (.int a2), some (.long x3), none, o5] [] (cells M)) : ∀ (n_ : Nat) (x3 : Int64) (x5 : Int32) (M : mm), X11_debts_L43 a1 a2 K125 n_ x3 x5 M = some r → E g (0, 0) 43 [some (.ref 82), some (.int a1), some (.int a2), some (.long x3), none, some (.int x5)] [] (cells M) := by
  intro n_
  induction n_ with
  | zero => intro x3 x5 M h; exact o_no h
  | succ n_ ih =>
    intro x3 x5 M h
    rw [X11_debts_L43] at h
    refine e_iload hg dX11_debts_43 rfl ?_
    refine e_aload_n hg dX11_debts_45 rfl ?_
    refine m_getI hg ciX11 7 lk_993 dX11_debts_46 io_82 (Nat.le_of_ble_eq_true rfl) rfl ?_
    refine e_icmpge hg 125 dX11_debts_49 (by decide) (fun c11 => ?_) (fun c11 => ?_)
    · have h := o_pos c11 h
      refine e_aload_n hg dX11_debts_52 rfl ?_
      refine m_getR (q := 92) hg ciX11 13 lk_999 dX11_debts_53 io_82 (Nat.le_of_ble_eq_true rfl) rfl rf_82_13 ?_
      refine e_iload hg dX11_debts_56 rfl ?_
      obtain ⟨hi12, h⟩ := o_gd h
      refine m_iald hg sh_92 hi12 dX11_debts_58 ?_
      refine e_iload_n hg dX11_debts_59 rfl ?_
      refine e_bipush (v := 10) hg dX11_debts_60 (by decide) ?_
      refine e_idiv hg dX11_debts_62 (by decide) ?_
      refine e_icmpne hg 119 dX11_debts_63 (by decide) (fun c13 => ?_) (fun c13 => ?_)
      · have h := o_pos c13 h
        refine e_aload_n hg dX11_debts_66 rfl ?_
        refine e_iload hg dX11_debts_67 rfl ?_
        refine e_aload_n hg dX11_debts_69 rfl ?_
        refine m_getR (q := 90) hg ciX11 11 lk_997 dX11_debts_70 io_82 (Nat.le_of_ble_eq_true rfl) rfl rf_82_11 ?_
        refine e_iload hg dX11_debts_73 rfl ?_
        obtain ⟨hi14, h⟩ := o_gd h
        refine m_iald hg sh_90 hi14 dX11_debts_75 ?_
        refine e_iconst (v := 0) hg dX11_debts_76 (by decide) ?_
        obtain ⟨u15, M16, hc17, h⟩ := o_bd h
        refine m_callVV (rest := []) (M' := M16) (ci := 11) hg mfX11_thinksOf mvX11_thinksOf (X11_thinksOf_ok (r := (u15, M16)) hc17) lk_1321 dX11_debts_77 io_82 rfl rfl rfl (by omega) (Nat.le_of_ble_eq_true rfl) ?_
        refine e_lload_n hg dX11_debts_80 rfl ?_
        refine e_aload_n hg dX11_debts_81 rfl ?_
        refine m_getR (q := 83) hg ciX11 0 lk_986 dX11_debts_82 io_82 (Nat.le_of_ble_eq_true rfl) rfl rf_82_0 ?_
        refine e_bipush (v := 21) hg dX11_debts_85 (by decide) ?_
        refine e_iload hg dX11_debts_87 rfl ?_
        refine e_iadd hg dX11_debts_89 ?_
        obtain ⟨hi18, h⟩ := o_gd h
        refine m_iald hg sh_83 hi18 dX11_debts_90 ?_
        refine e_i2l hg dX11_debts_91 ?_
        refine e_aload_n hg dX11_debts_92 rfl ?_
        refine e_iload hg dX11_debts_93 rfl ?_
        refine e_iload_n hg dX11_debts_95 rfl ?_
        refine e_bipush (v := 10) hg dX11_debts_96 (by decide) ?_
        refine e_irem hg dX11_debts_98 (by decide) ?_
        refine e_aload_n hg dX11_debts_99 rfl ?_
        refine m_getR (q := 91) hg ciX11 12 lk_998 dX11_debts_100 io_82 (Nat.le_of_ble_eq_true rfl) rfl rf_82_12 ?_
        refine e_iload hg dX11_debts_103 rfl ?_
        obtain ⟨hi19, h⟩ := o_gd h
        refine m_iald hg sh_91 hi19 dX11_debts_105 ?_
        refine e_aload_n hg dX11_debts_106 rfl ?_
        refine m_getR (q := 94) hg ciX11 15 lk_1001 dX11_debts_107 io_82 (Nat.le_of_ble_eq_true rfl) rfl rf_82_15 ?_
        refine e_iload hg dX11_debts_110 rfl ?_
        obtain ⟨hi20, h⟩ := o_gd h
        refine m_iald hg sh_94 hi20 dX11_debts_112 ?_
        obtain ⟨v21, M22, hc23, h⟩ := o_bd h
        refine m_callVJ (rest := [.long ((M16.1 83 (21 + x5).toNatClampNeg).toInt64), .long x3]) (v := v21) (M' := M22) (ci := 11) hg mfX11_paysFrom mvX11_paysFrom (X11_paysFrom_ok (r := (v21, M22)) hc23) lk_1364 dX11_debts_113 io_82 rfl rfl rfl (by omega) (Nat.le_of_ble_eq_true rfl) ?_
        refine e_lmul hg dX11_debts_116 ?_
        refine e_ladd hg dX11_debts_117 ?_
        obtain ⟨z24, hz24, h⟩ := o_lt h
        refine e_lstore_n (ls' := [some (.ref 82), some (.int a1), some (.int a2), some (.long (x3 + ((M16.1 83 (21 + x5).toNatClampNeg).toInt64 * v21))), none, some (.int x5)]) hg dX11_debts_118 rfl ?_
        rw [← hz24]
        exact X11_debts_b119_ok hg hr ih hK125 h
      · have h := o_neg c13 h
        exact X11_debts_b119_ok hg hr ih hK125 h
    · have h := o_neg c11 h
      exact hK125 _ _ _ h

def X11_debts_b145 (a1 : Int32) (a2 : Int32) (s0 : Int64) (s1 : Int64) (M : mm) : Option (Int64 × mm) :=
  bd (X11_partOf s0 s1 a2 M) fun v26 M27 =>
  some (v26, M27)
set_option maxRecDepth 100000 in
set_option maxHeartbeats 4000000 in
theorem X11_debts_b145_ok {g : gx} (hg : EC g cX11_debts RX11 106) {a1 : Int32} {a2 : Int32} {r : Int64 × mm} (hr : RT g (some .long) (0, 0) (some (.long r.1)) (cells r.2)) {s0 : Int64} {s1 : Int64} {o3 : Option Value} {o4 : Option Value} {o5 : Option Value} {M : mm} (h : X11_debts_b145 a1 a2 s0 s1 M = some r) : E g (0, 0) 145 [some (.ref 82), some (.int a1), some (.int a2), o3, o4, o5] [.long s1, .long s0] (cells M) := by
  unfold X11_debts_b145 at h
  refine e_iload_n hg dX11_debts_145 rfl ?_
  obtain ⟨v26, M27, hc28, h⟩ := o_bd h
  refine m_callSJ (rest := []) (v := v26) (M' := M27) hg mfX11_partOf mvX11_partOf (X11_partOf_ok (r := (v26, M27)) hc28) lk_1349 dX11_debts_146 rfl rfl (by omega) (Nat.le_of_ble_eq_true rfl) ?_
  exact m_lret hg hr dX11_debts_149 h

def X11_debts (a1 : Int32) (a2 : Int32) (M : mm) : Option (Int64 × mm) :=
  if a1 < 0 then
    some ((-9223372036854775808), M)
  else
    bd (X11_isPerson (a1 / 10) M) fun v2 M3 =>
    if v2 = 0 then
      some ((-9223372036854775808), M3)
    else
      if 6 < (a1 - a1 / 10 * 10) then
        some ((-9223372036854775808), M3)
      else
        bd (X11_within (a2.toInt64) 0 1 M3) fun v7 M8 =>
        if v7 = 0 then
          some ((-9223372036854775808), M8)
        else
          X11_debts_L43 a1 a2 (fun x3 M =>
              if (lg_cmp x3 0) = 0 then
                X11_debts_b145 a1 a2 x3 1 M
              else
                gd (inb (a1 - a1 / 10 * 10) 7) <|
                X11_debts_b145 a1 a2 x3 (M.2.1 101 (a1 - a1 / 10 * 10).toNatClampNeg) M) 10000 0 0 M8
set_option maxRecDepth 100000 in
set_option maxHeartbeats 4000000 in
theorem X11_debts_ok {a1 : Int32} {a2 : Int32} {M : mm} {r : Int64 × mm} (h : X11_debts a1 a2 M = some r) : CM yX11_debts cX11_debts 6 (some .long) 106 [.ref 82, .int a1, .int a2] (cells M) (some (.long r.1)) (cells r.2) := by
  refine cm_of (ls := [some (.ref 82), some (.int a1), some (.int a2), none, none, none]) mfX11_debts rfl (Nat.le_of_ble_eq_true rfl) (fun g hg hr => ?_)
  unfold X11_debts at h
  refine e_iload_n hg dX11_debts_0 rfl ?_
  refine e_iflt hg 34 dX11_debts_1 (by decide) (fun c1 => ?_) (fun c1 => ?_)
  · have h := o_pos c1 h
    refine e_ldc2 hg dX11_debts_34 lk_1316 ?_
    exact m_lret hg hr dX11_debts_37 h
  · have h := o_neg c1 h
    refine e_aload_n hg dX11_debts_4 rfl ?_
    refine e_iload_n hg dX11_debts_5 rfl ?_
    refine e_bipush (v := 10) hg dX11_debts_6 (by decide) ?_
    refine e_idiv hg dX11_debts_8 (by decide) ?_
    obtain ⟨v2, M3, hc4, h⟩ := o_bd h
    refine m_callVI (rest := []) (v := v2) (M' := M3) (ci := 11) hg mfX11_isPerson mvX11_isPerson (X11_isPerson_ok (r := (v2, M3)) hc4) lk_1224 dX11_debts_9 io_82 rfl rfl rfl (by omega) (Nat.le_of_ble_eq_true rfl) ?_
    refine e_ifeq hg 34 dX11_debts_12 (by decide) (fun c5 => ?_) (fun c5 => ?_)
    · have h := o_pos c5 h
      refine e_ldc2 hg dX11_debts_34 lk_1316 ?_
      exact m_lret hg hr dX11_debts_37 h
    · have h := o_neg c5 h
      refine e_iload_n hg dX11_debts_15 rfl ?_
      refine e_bipush (v := 10) hg dX11_debts_16 (by decide) ?_
      refine e_irem hg dX11_debts_18 (by decide) ?_
      refine e_bipush (v := 6) hg dX11_debts_19 (by decide) ?_
      refine e_icmpgt hg 34 dX11_debts_21 (by decide) (fun c6 => ?_) (fun c6 => ?_)
      · have h := o_pos c6 h
        refine e_ldc2 hg dX11_debts_34 lk_1316 ?_
        exact m_lret hg hr dX11_debts_37 h
      · have h := o_neg c6 h
        refine e_iload_n hg dX11_debts_24 rfl ?_
        refine e_i2l hg dX11_debts_25 ?_
        refine e_lconst (v := 0) hg dX11_debts_26 (by decide) ?_
        refine e_lconst (v := 1) hg dX11_debts_27 (by decide) ?_
        obtain ⟨v7, M8, hc9, h⟩ := o_bd h
        refine m_callSI (rest := []) (v := v7) (M' := M8) hg mfX11_within mvX11_within (X11_within_ok (r := (v7, M8)) hc9) lk_1190 dX11_debts_28 rfl rfl (by omega) (Nat.le_of_ble_eq_true rfl) ?_
        refine e_ifne hg 38 dX11_debts_31 (by decide) (fun c10 => ?_) (fun c10 => ?_)
        · have h := o_pos c10 h
          refine e_ldc2 hg dX11_debts_34 lk_1316 ?_
          exact m_lret hg hr dX11_debts_37 h
        · have h := o_neg c10 h
          refine e_lconst (v := 0) hg dX11_debts_38 (by decide) ?_
          refine e_lstore_n (ls' := [some (.ref 82), some (.int a1), some (.int a2), some (.long 0), none, none]) hg dX11_debts_39 rfl ?_
          refine e_iconst (v := 0) hg dX11_debts_40 (by decide) ?_
          refine e_istore (ls' := [some (.ref 82), some (.int a1), some (.int a2), some (.long 0), none, some (.int 0)]) hg dX11_debts_41 rfl ?_
          refine X11_debts_L43_ok hg hr (fun x3 o5 M h => ?_) 10000 _ _ _ h
          refine e_lload_n hg dX11_debts_125 rfl ?_
          refine e_lload_n hg dX11_debts_126 rfl ?_
          refine e_lconst (v := 0) hg dX11_debts_127 (by decide) ?_
          refine e_lcmp hg dX11_debts_128 ?_
          refine e_ifne hg 136 dX11_debts_129 (by decide) (fun c25 => ?_) (fun c25 => ?_)
          · have h := o_pos c25 h
            refine e_lconst (v := 1) hg dX11_debts_132 (by decide) ?_
            refine e_goto hg 145 dX11_debts_133 (by decide) ?_
            exact X11_debts_b145_ok hg hr  h
          · have h := o_neg c25 h
            refine e_aload_n hg dX11_debts_136 rfl ?_
            refine m_getR (q := 101) hg ciX11 33 lk_1019 dX11_debts_137 io_82 (Nat.le_of_ble_eq_true rfl) rfl rf_82_33 ?_
            refine e_iload_n hg dX11_debts_140 rfl ?_
            refine e_bipush (v := 10) hg dX11_debts_141 (by decide) ?_
            refine e_irem hg dX11_debts_143 (by decide) ?_
            obtain ⟨hi29, h⟩ := o_gd h
            refine m_lald hg sh_101 hi29 dX11_debts_144 ?_
            exact X11_debts_b145_ok hg hr  h

def X11_asksBest_L50 (K85 : Int32 → mm → Option (Unit × mm)) : Nat → Int32 → Int32 → mm → Option (Unit × mm)
  | 0, _, _, _ => none
  | n_ + 1, x1, x2, M =>
    if x2 < 1200 then
      gd (inb (4800 + x2) 8400) <|
      gd (inb ((1200 * x1) + x2) 7200) <|
      lt_ (sA M 106 (upd (M.1 106) ((1200 * x1) + x2).toNatClampNeg (vp_nar .boolean (M.1 104 (4800 + x2).toNatClampNeg)))) fun M15 =>
      (X11_asksBest_L50 K85 n_) x1 (x2 + 1) M15
    else
      K85 x1 M
set_option maxRecDepth 100000 in
set_option maxHeartbeats 4000000 in
theorem X11_asksBest_L50_ok {g : gx} (hg : EC g cX11_asksBest RX11 106) {r : Unit × mm} (hr : RT g (none) (0, 0) none (cells r.2)) {K85 : Int32 → mm → Option (Unit × mm)} (hK85 : ∀ (x1 : Int32) (o2 : Option Value) (M : mm), K85 x1 M = some r → E g (0, 0) 85 [some (.ref 82), some (.int x1), o2] [] (cells M)) : ∀ (n_ : Nat) (x1 : Int32) (x2 : Int32) (M : mm), X11_asksBest_L50 K85 n_ x1 x2 M = some r → E g (0, 0) 50 [some (.ref 82), some (.int x1), some (.int x2)] [] (cells M) := by
  intro n_
  induction n_ with
  | zero => intro x1 x2 M h; exact o_no h
  | succ n_ ih =>
    intro x1 x2 M h
    rw [X11_asksBest_L50] at h
    refine e_iload_n hg dX11_asksBest_50 rfl ?_
    refine e_sipush (v := 1200) hg dX11_asksBest_51 (by decide) ?_
    refine e_icmpge hg 85 dX11_asksBest_54 (by decide) (fun c12 => ?_) (fun c12 => ?_)
    · have h := o_pos c12 h
      refine e_aload_n hg dX11_asksBest_57 rfl ?_
      refine m_getR (q := 106) hg ciX11 45 lk_1031 dX11_asksBest_58 io_82 (Nat.le_of_ble_eq_true rfl) rfl rf_82_45 ?_
      refine e_sipush (v := 1200) hg dX11_asksBest_61 (by decide) ?_
      refine e_iload_n hg dX11_asksBest_64 rfl ?_
      refine e_imul hg dX11_asksBest_65 ?_
      refine e_iload_n hg dX11_asksBest_66 rfl ?_
      refine e_iadd hg dX11_asksBest_67 ?_
      refine e_aload_n hg dX11_asksBest_68 rfl ?_
      refine m_getR (q := 104) hg ciX11 36 lk_1022 dX11_asksBest_69 io_82 (Nat.le_of_ble_eq_true rfl) rfl rf_82_36 ?_
      refine e_sipush (v := 4800) hg dX11_asksBest_72 (by decide) ?_
      refine e_iload_n hg dX11_asksBest_75 rfl ?_
      refine e_iadd hg dX11_asksBest_76 ?_
      obtain ⟨hi13, h⟩ := o_gd h
      refine m_zald hg sh_104 hi13 dX11_asksBest_77 ?_
      obtain ⟨hi14, h⟩ := o_gd h
      obtain ⟨M15, hM15, h⟩ := o_lt h
      refine m_zast hg sh_106 hi14 dX11_asksBest_78 ?_
      rw [← hM15]
      refine e_iinc (v := (x2 + 1)) (ls' := [some (.ref 82), some (.int x1), some (.int (x2 + 1))]) hg dX11_asksBest_79 rfl rfl rfl ?_
      refine e_goto hg 50 dX11_asksBest_82 (by decide) ?_
      exact ih _ _ _ h
    · have h := o_neg c12 h
      exact hK85 _ _ _ h

def X11_asksBest_b85 (R2 : Int32 → mm → Option (Unit × mm)) (x1 : Int32) (M : mm) : Option (Unit × mm) :=
  R2 (x1 + 1) M
set_option maxRecDepth 100000 in
set_option maxHeartbeats 4000000 in
theorem X11_asksBest_b85_ok {g : gx} (hg : EC g cX11_asksBest RX11 106) {r : Unit × mm} (hr : RT g (none) (0, 0) none (cells r.2)) {R2 : Int32 → mm → Option (Unit × mm)} (hR2 : ∀ (x1 : Int32) (o2 : Option Value) (M : mm), R2 x1 M = some r → E g (0, 0) 2 [some (.ref 82), some (.int x1), o2] [] (cells M)) {x1 : Int32} {o2 : Option Value} {M : mm} (h : X11_asksBest_b85 R2 x1 M = some r) : E g (0, 0) 85 [some (.ref 82), some (.int x1), o2] [] (cells M) := by
  unfold X11_asksBest_b85 at h
  refine e_iinc (v := (x1 + 1)) (ls' := [some (.ref 82), some (.int (x1 + 1)), o2]) hg dX11_asksBest_85 rfl rfl rfl ?_
  refine e_goto hg 2 dX11_asksBest_88 (by decide) ?_
  exact hR2 _ _ _ h

def X11_asksBest_L2 : Nat → Int32 → mm → Option (Unit × mm)
  | 0, _, _ => none
  | n_ + 1, x1, M =>
    if x1 < (M.1 82 7) then
      gd (inb x1 6) <|
      gd (inb (10 + (M.1 90 x1.toNatClampNeg)) 33) <|
      if (M.1 83 (10 + (M.1 90 x1.toNatClampNeg)).toNatClampNeg) = 4 then
        gd (inb x1 6) <|
        bd (X11_thinksOf x1 (M.1 90 x1.toNatClampNeg) 4 M) fun u6 M7 =>
        bd (X11_worksOut 4 M7) fun u9 M10 =>
        X11_asksBest_L50 (fun x1 M =>
            X11_asksBest_b85 (X11_asksBest_L2 n_) x1 M) 10000 x1 0 M10
      else
        X11_asksBest_b85 (X11_asksBest_L2 n_) x1 M
    else
      some ((), M)
set_option maxRecDepth 100000 in
set_option maxHeartbeats 4000000 in
theorem X11_asksBest_L2_ok {g : gx} (hg : EC g cX11_asksBest RX11 106) {r : Unit × mm} (hr : RT g (none) (0, 0) none (cells r.2)) : ∀ (n_ : Nat) (x1 : Int32) (o2 : Option Value) (M : mm), X11_asksBest_L2 n_ x1 M = some r → E g (0, 0) 2 [some (.ref 82), some (.int x1), o2] [] (cells M) := by
  intro n_
  induction n_ with
  | zero => intro x1 o2 M h; exact o_no h
  | succ n_ ih =>
    intro x1 o2 M h
    rw [X11_asksBest_L2] at h
    refine e_iload_n hg dX11_asksBest_2 rfl ?_
    refine e_aload_n hg dX11_asksBest_3 rfl ?_
    refine m_getI hg ciX11 7 lk_993 dX11_asksBest_4 io_82 (Nat.le_of_ble_eq_true rfl) rfl ?_
    refine e_icmpge hg 91 dX11_asksBest_7 (by decide) (fun c1 => ?_) (fun c1 => ?_)
    · have h := o_pos c1 h
      refine e_aload_n hg dX11_asksBest_10 rfl ?_
      refine m_getR (q := 83) hg ciX11 0 lk_986 dX11_asksBest_11 io_82 (Nat.le_of_ble_eq_true rfl) rfl rf_82_0 ?_
      refine e_bipush (v := 10) hg dX11_asksBest_14 (by decide) ?_
      refine e_aload_n hg dX11_asksBest_16 rfl ?_
      refine m_getR (q := 90) hg ciX11 11 lk_997 dX11_asksBest_17 io_82 (Nat.le_of_ble_eq_true rfl) rfl rf_82_11 ?_
      refine e_iload_n hg dX11_asksBest_20 rfl ?_
      obtain ⟨hi2, h⟩ := o_gd h
      refine m_iald hg sh_90 hi2 dX11_asksBest_21 ?_
      refine e_iadd hg dX11_asksBest_22 ?_
      obtain ⟨hi3, h⟩ := o_gd h
      refine m_iald hg sh_83 hi3 dX11_asksBest_23 ?_
      refine e_iconst (v := 4) hg dX11_asksBest_24 (by decide) ?_
      refine e_icmpeq hg 31 dX11_asksBest_25 (by decide) (fun c4 => ?_) (fun c4 => ?_)
      · have h := o_pos c4 h
        refine e_aload_n hg dX11_asksBest_31 rfl ?_
        refine e_iload_n hg dX11_asksBest_32 rfl ?_
        refine e_aload_n hg dX11_asksBest_33 rfl ?_
        refine m_getR (q := 90) hg ciX11 11 lk_997 dX11_asksBest_34 io_82 (Nat.le_of_ble_eq_true rfl) rfl rf_82_11 ?_
        refine e_iload_n hg dX11_asksBest_37 rfl ?_
        obtain ⟨hi5, h⟩ := o_gd h
        refine m_iald hg sh_90 hi5 dX11_asksBest_38 ?_
        refine e_iconst (v := 4) hg dX11_asksBest_39 (by decide) ?_
        obtain ⟨u6, M7, hc8, h⟩ := o_bd h
        refine m_callVV (rest := []) (M' := M7) (ci := 11) hg mfX11_thinksOf mvX11_thinksOf (X11_thinksOf_ok (r := (u6, M7)) hc8) lk_1321 dX11_asksBest_40 io_82 rfl rfl rfl (by omega) (Nat.le_of_ble_eq_true rfl) ?_
        refine e_aload_n hg dX11_asksBest_43 rfl ?_
        refine e_iconst (v := 4) hg dX11_asksBest_44 (by decide) ?_
        obtain ⟨u9, M10, hc11, h⟩ := o_bd h
        refine m_callVV (rest := []) (M' := M10) (ci := 11) hg mfX11_worksOut mvX11_worksOut (X11_worksOut_ok (r := (u9, M10)) hc11) lk_1326 dX11_asksBest_45 io_82 rfl rfl rfl (by omega) (Nat.le_of_ble_eq_true rfl) ?_
        refine e_iconst (v := 0) hg dX11_asksBest_48 (by decide) ?_
        refine e_istore_n (ls' := [some (.ref 82), some (.int x1), some (.int 0)]) hg dX11_asksBest_49 rfl ?_
        refine X11_asksBest_L50_ok hg hr (fun x1 o2 M h => ?_) 10000 _ _ _ h
        exact X11_asksBest_b85_ok hg hr ih h
      · have h := o_neg c4 h
        refine e_goto hg 85 dX11_asksBest_28 (by decide) ?_
        exact X11_asksBest_b85_ok hg hr ih h
    · have h := o_neg c1 h
      exact m_vret hg hr dX11_asksBest_91 h

def X11_asksBest  (M : mm) : Option (Unit × mm) :=
  X11_asksBest_L2 10000 0 M
set_option maxRecDepth 100000 in
set_option maxHeartbeats 4000000 in
theorem X11_asksBest_ok  {M : mm} {r : Unit × mm} (h : X11_asksBest  M = some r) : CM yX11_asksBest cX11_asksBest 3 (none) 106 [.ref 82] (cells M) none (cells r.2) := by
  refine cm_of (ls := [some (.ref 82), none, none]) mfX11_asksBest rfl (Nat.le_of_ble_eq_true rfl) (fun g hg hr => ?_)
  unfold X11_asksBest at h
  refine e_iconst (v := 0) hg dX11_asksBest_0 (by decide) ?_
  refine e_istore_n (ls' := [some (.ref 82), some (.int 0), none]) hg dX11_asksBest_1 rfl ?_
  exact X11_asksBest_L2_ok hg hr  10000 _ _ _ h

def X11_mendsNow (a1 : Int32) (M : mm) : Option (Int32 × mm) :=
  gd (inb a1 6) <|
  gd (inb (10 + (M.1 90 a1.toNatClampNeg)) 33) <|
  lt_ ((M.1 83 (10 + (M.1 90 a1.toNatClampNeg)).toNatClampNeg)) fun z3 =>
  if z3 = 4 then
    gd (inb a1 6) <|
    gd (inb a1 6) <|
    bd (X11_sortFor a1 (M.1 90 a1.toNatClampNeg) M) fun v7 M8 =>
    gd (inb a1 6) <|
    bd (X11_placeOf 0 (M.1 91 a1.toNatClampNeg) v7 (M8.1 94 a1.toNatClampNeg) M8) fun v11 M12 =>
    gd (inb ((1200 * a1) + v11) 7200) <|
    gd (decide ((M12.1 106 ((1200 * a1) + v11).toNatClampNeg) = 0 ∨ (M12.1 106 ((1200 * a1) + v11).toNatClampNeg) = 1)) <|
    some ((M12.1 106 ((1200 * a1) + v11).toNatClampNeg), M12)
  else
    gd (inb a1 6) <|
    if z3 < (M.1 91 a1.toNatClampNeg) then
      some (0, M)
    else
      some (1, M)
set_option maxRecDepth 100000 in
set_option maxHeartbeats 4000000 in
theorem X11_mendsNow_ok {a1 : Int32} {M : mm} {r : Int32 × mm} (h : X11_mendsNow a1 M = some r) : CM yX11_mendsNow cX11_mendsNow 3 (some .boolean) 1 [.ref 82, .int a1] (cells M) (some (.int r.1)) (cells r.2) := by
  refine cm_of (ls := [some (.ref 82), some (.int a1), none]) mfX11_mendsNow rfl (Nat.le_of_ble_eq_true rfl) (fun g hg hr => ?_)
  unfold X11_mendsNow at h
  refine e_aload_n hg dX11_mendsNow_0 rfl ?_
  refine m_getR (q := 83) hg ciX11 0 lk_986 dX11_mendsNow_1 io_82 (Nat.le_of_ble_eq_true rfl) rfl rf_82_0 ?_
  refine e_bipush (v := 10) hg dX11_mendsNow_4 (by decide) ?_
  refine e_aload_n hg dX11_mendsNow_6 rfl ?_
  refine m_getR (q := 90) hg ciX11 11 lk_997 dX11_mendsNow_7 io_82 (Nat.le_of_ble_eq_true rfl) rfl rf_82_11 ?_
  refine e_iload_n hg dX11_mendsNow_10 rfl ?_
  obtain ⟨hi1, h⟩ := o_gd h
  refine m_iald hg sh_90 hi1 dX11_mendsNow_11 ?_
  refine e_iadd hg dX11_mendsNow_12 ?_
  obtain ⟨hi2, h⟩ := o_gd h
  refine m_iald hg sh_83 hi2 dX11_mendsNow_13 ?_
  obtain ⟨z3, hz3, h⟩ := o_lt h
  refine e_istore_n (ls' := [some (.ref 82), some (.int a1), some (.int (M.1 83 (10 + (M.1 90 a1.toNatClampNeg)).toNatClampNeg))]) hg dX11_mendsNow_14 rfl ?_
  rw [← hz3]
  refine e_iload_n hg dX11_mendsNow_15 rfl ?_
  refine e_iconst (v := 4) hg dX11_mendsNow_16 (by decide) ?_
  refine e_icmpeq hg 36 dX11_mendsNow_17 (by decide) (fun c4 => ?_) (fun c4 => ?_)
  · have h := o_pos c4 h
    refine e_aload_n hg dX11_mendsNow_36 rfl ?_
    refine m_getR (q := 106) hg ciX11 45 lk_1031 dX11_mendsNow_37 io_82 (Nat.le_of_ble_eq_true rfl) rfl rf_82_45 ?_
    refine e_sipush (v := 1200) hg dX11_mendsNow_40 (by decide) ?_
    refine e_iload_n hg dX11_mendsNow_43 rfl ?_
    refine e_imul hg dX11_mendsNow_44 ?_
    refine e_iconst (v := 0) hg dX11_mendsNow_45 (by decide) ?_
    refine e_aload_n hg dX11_mendsNow_46 rfl ?_
    refine m_getR (q := 91) hg ciX11 12 lk_998 dX11_mendsNow_47 io_82 (Nat.le_of_ble_eq_true rfl) rfl rf_82_12 ?_
    refine e_iload_n hg dX11_mendsNow_50 rfl ?_
    obtain ⟨hi5, h⟩ := o_gd h
    refine m_iald hg sh_91 hi5 dX11_mendsNow_51 ?_
    refine e_aload_n hg dX11_mendsNow_52 rfl ?_
    refine e_iload_n hg dX11_mendsNow_53 rfl ?_
    refine e_aload_n hg dX11_mendsNow_54 rfl ?_
    refine m_getR (q := 90) hg ciX11 11 lk_997 dX11_mendsNow_55 io_82 (Nat.le_of_ble_eq_true rfl) rfl rf_82_11 ?_
    refine e_iload_n hg dX11_mendsNow_58 rfl ?_
    obtain ⟨hi6, h⟩ := o_gd h
    refine m_iald hg sh_90 hi6 dX11_mendsNow_59 ?_
    obtain ⟨v7, M8, hc9, h⟩ := o_bd h
    refine m_callVI (rest := [.int (M.1 91 a1.toNatClampNeg), .int 0, .int (1200 * a1), .ref 106]) (v := v7) (M' := M8) (ci := 11) hg mfX11_sortFor mvX11_sortFor (X11_sortFor_ok (r := (v7, M8)) hc9) lk_1345 dX11_mendsNow_60 io_82 rfl rfl rfl (by omega) (Nat.le_of_ble_eq_true rfl) ?_
    refine e_aload_n hg dX11_mendsNow_63 rfl ?_
    refine m_getR (q := 94) hg ciX11 15 lk_1001 dX11_mendsNow_64 io_82 (Nat.le_of_ble_eq_true rfl) rfl rf_82_15 ?_
    refine e_iload_n hg dX11_mendsNow_67 rfl ?_
    obtain ⟨hi10, h⟩ := o_gd h
    refine m_iald hg sh_94 hi10 dX11_mendsNow_68 ?_
    obtain ⟨v11, M12, hc13, h⟩ := o_bd h
    refine m_callSI (rest := [.int (1200 * a1), .ref 106]) (v := v11) (M' := M12) hg mfX11_placeOf mvX11_placeOf (X11_placeOf_ok (r := (v11, M12)) hc13) lk_1330 dX11_mendsNow_69 rfl rfl (by omega) (Nat.le_of_ble_eq_true rfl) ?_
    refine e_iadd hg dX11_mendsNow_72 ?_
    obtain ⟨hi14, h⟩ := o_gd h
    refine m_zald hg sh_106 hi14 dX11_mendsNow_73 ?_
    obtain ⟨hb15, h⟩ := o_gd h
    exact m_zret hg hr (nb_of (of_decide_eq_true hb15)) dX11_mendsNow_74 h
  · have h := o_neg c4 h
    refine e_aload_n hg dX11_mendsNow_20 rfl ?_
    refine m_getR (q := 91) hg ciX11 12 lk_998 dX11_mendsNow_21 io_82 (Nat.le_of_ble_eq_true rfl) rfl rf_82_12 ?_
    refine e_iload_n hg dX11_mendsNow_24 rfl ?_
    obtain ⟨hi16, h⟩ := o_gd h
    refine m_iald hg sh_91 hi16 dX11_mendsNow_25 ?_
    refine e_iload_n hg dX11_mendsNow_26 rfl ?_
    refine e_icmpgt hg 34 dX11_mendsNow_27 (by decide) (fun c17 => ?_) (fun c17 => ?_)
    · have h := o_pos c17 h
      refine e_iconst (v := 0) hg dX11_mendsNow_34 (by decide) ?_
      exact m_zret hg hr rfl dX11_mendsNow_35 h
    · have h := o_neg c17 h
      refine e_iconst (v := 1) hg dX11_mendsNow_30 (by decide) ?_
      refine e_goto hg 35 dX11_mendsNow_31 (by decide) ?_
      exact m_zret hg hr rfl dX11_mendsNow_35 h

def X11_mended_L109 (a1 : Int32) (a2 : Int32) (K145 : mm → Option (Unit × mm)) : Nat → Int32 → mm → Option (Unit × mm)
  | 0, _, _ => none
  | n_ + 1, x3, M =>
    if x3 < 8 then
      gd (inb ((8 * a1) + x3) 48) <|
      gd (inb (((8 * a1) + x3) - 1) 48) <|
      lt_ (sA M 95 (upd (M.1 95) (((8 * a1) + x3) - 1).toNatClampNeg (M.1 95 ((8 * a1) + x3).toNatClampNeg))) fun M27 =>
      (X11_mended_L109 a1 a2 K145 n_) (x3 + 1) M27
    else
      K145 M
set_option maxRecDepth 100000 in
set_option maxHeartbeats 4000000 in
theorem X11_mended_L109_ok {g : gx} (hg : EC g cX11_mended RX11 0) {a1 : Int32} {a2 : Int32} {r : Unit × mm} (hr : RT g (none) (0, 0) none (cells r.2)) {K145 : mm → Option (Unit × mm)} (hK145 : ∀ (o3 : Option Value) (M : mm), K145 M = some r → E g (0, 0) 145 [some (.ref 82), some (.int a1), some (.int a2), o3] [] (cells M)) : ∀ (n_ : Nat) (x3 : Int32) (M : mm), X11_mended_L109 a1 a2 K145 n_ x3 M = some r → E g (0, 0) 109 [some (.ref 82), some (.int a1), some (.int a2), some (.int x3)] [] (cells M) := by
  intro n_
  induction n_ with
  | zero => intro x3 M h; exact o_no h
  | succ n_ ih =>
    intro x3 M h
    rw [X11_mended_L109] at h
    refine e_iload_n hg dX11_mended_109 rfl ?_
    refine e_bipush (v := 8) hg dX11_mended_110 (by decide) ?_
    refine e_icmpge hg 145 dX11_mended_112 (by decide) (fun c24 => ?_) (fun c24 => ?_)
    · have h := o_pos c24 h
      refine e_aload_n hg dX11_mended_115 rfl ?_
      refine m_getR (q := 95) hg ciX11 16 lk_1002 dX11_mended_116 io_82 (Nat.le_of_ble_eq_true rfl) rfl rf_82_16 ?_
      refine e_bipush (v := 8) hg dX11_mended_119 (by decide) ?_
      refine e_iload_n hg dX11_mended_121 rfl ?_
      refine e_imul hg dX11_mended_122 ?_
      refine e_iload_n hg dX11_mended_123 rfl ?_
      refine e_iadd hg dX11_mended_124 ?_
      refine e_iconst (v := 1) hg dX11_mended_125 (by decide) ?_
      refine e_isub hg dX11_mended_126 ?_
      refine e_aload_n hg dX11_mended_127 rfl ?_
      refine m_getR (q := 95) hg ciX11 16 lk_1002 dX11_mended_128 io_82 (Nat.le_of_ble_eq_true rfl) rfl rf_82_16 ?_
      refine e_bipush (v := 8) hg dX11_mended_131 (by decide) ?_
      refine e_iload_n hg dX11_mended_133 rfl ?_
      refine e_imul hg dX11_mended_134 ?_
      refine e_iload_n hg dX11_mended_135 rfl ?_
      refine e_iadd hg dX11_mended_136 ?_
      obtain ⟨hi25, h⟩ := o_gd h
      refine m_iald hg sh_95 hi25 dX11_mended_137 ?_
      obtain ⟨hi26, h⟩ := o_gd h
      obtain ⟨M27, hM27, h⟩ := o_lt h
      refine m_iast hg sh_95 hi26 dX11_mended_138 ?_
      rw [← hM27]
      refine e_iinc (v := (x3 + 1)) (ls' := [some (.ref 82), some (.int a1), some (.int a2), some (.int (x3 + 1))]) hg dX11_mended_139 rfl rfl rfl ?_
      refine e_goto hg 109 dX11_mended_142 (by decide) ?_
      exact ih _ _ h
    · have h := o_neg c24 h
      exact hK145 _ _ h

def X11_mended_b155 (a1 : Int32) (a2 : Int32) (M : mm) : Option (Unit × mm) :=
  gd (inb a1 6) <|
  gd (inb ((8 * a1) + (M.1 96 a1.toNatClampNeg)) 48) <|
  lt_ (sA M 95 (upd (M.1 95) ((8 * a1) + (M.1 96 a1.toNatClampNeg)).toNatClampNeg a2)) fun M33 =>
  gd (inb a1 6) <|
  gd (inb a1 6) <|
  lt_ (sA M33 96 (upd (M33.1 96) a1.toNatClampNeg ((M33.1 96 a1.toNatClampNeg) + 1))) fun M36 =>
  some ((), M36)
set_option maxRecDepth 100000 in
set_option maxHeartbeats 4000000 in
theorem X11_mended_b155_ok {g : gx} (hg : EC g cX11_mended RX11 0) {a1 : Int32} {a2 : Int32} {r : Unit × mm} (hr : RT g (none) (0, 0) none (cells r.2)) {o3 : Option Value} {M : mm} (h : X11_mended_b155 a1 a2 M = some r) : E g (0, 0) 155 [some (.ref 82), some (.int a1), some (.int a2), o3] [] (cells M) := by
  unfold X11_mended_b155 at h
  refine e_aload_n hg dX11_mended_155 rfl ?_
  refine m_getR (q := 95) hg ciX11 16 lk_1002 dX11_mended_156 io_82 (Nat.le_of_ble_eq_true rfl) rfl rf_82_16 ?_
  refine e_bipush (v := 8) hg dX11_mended_159 (by decide) ?_
  refine e_iload_n hg dX11_mended_161 rfl ?_
  refine e_imul hg dX11_mended_162 ?_
  refine e_aload_n hg dX11_mended_163 rfl ?_
  refine m_getR (q := 96) hg ciX11 17 lk_1003 dX11_mended_164 io_82 (Nat.le_of_ble_eq_true rfl) rfl rf_82_17 ?_
  refine e_iload_n hg dX11_mended_167 rfl ?_
  obtain ⟨hi31, h⟩ := o_gd h
  refine m_iald hg sh_96 hi31 dX11_mended_168 ?_
  refine e_iadd hg dX11_mended_169 ?_
  refine e_iload_n hg dX11_mended_170 rfl ?_
  obtain ⟨hi32, h⟩ := o_gd h
  obtain ⟨M33, hM33, h⟩ := o_lt h
  refine m_iast hg sh_95 hi32 dX11_mended_171 ?_
  rw [← hM33]
  refine e_aload_n hg dX11_mended_172 rfl ?_
  refine m_getR (q := 96) hg ciX11 17 lk_1003 dX11_mended_173 io_82 (Nat.le_of_ble_eq_true rfl) rfl rf_82_17 ?_
  refine e_iload_n hg dX11_mended_176 rfl ?_
  refine e_dup2 hg dX11_mended_177 rfl rfl ?_
  obtain ⟨hi34, h⟩ := o_gd h
  refine m_iald hg sh_96 hi34 dX11_mended_178 ?_
  refine e_iconst (v := 1) hg dX11_mended_179 (by decide) ?_
  refine e_iadd hg dX11_mended_180 ?_
  obtain ⟨hi35, h⟩ := o_gd h
  obtain ⟨M36, hM36, h⟩ := o_lt h
  refine m_iast hg sh_96 hi35 dX11_mended_181 ?_
  rw [← hM36]
  exact m_vret hg hr dX11_mended_182 h

def X11_mended_b35 (a1 : Int32) (a2 : Int32) (s1 : Int32) (s2 : Int32) (M : mm) : Option (Unit × mm) :=
  gd (inb s1 6) <|
  lt_ (sA M 91 (upd (M.1 91) s1.toNatClampNeg s2)) fun M6 =>
  gd (inb a1 6) <|
  gd (inb a1 6) <|
  lt_ (sA M6 93 (upd (M6.1 93) a1.toNatClampNeg (M6.1 92 a1.toNatClampNeg))) fun M9 =>
  gd (inb a1 6) <|
  lt_ (sA M9 92 (upd (M9.1 92) a1.toNatClampNeg a2)) fun M11 =>
  gd (inb a1 6) <|
  lt_ (sA M11 94 (upd (M11.1 94) a1.toNatClampNeg 0)) fun M13 =>
  gd (inb a2 5) <|
  gd (inb (5 + a2) 33) <|
  gd (inb a2 5) <|
  lt_ (sA M13 87 (upd (M13.1 87) a2.toNatClampNeg ((M13.1 87 a2.toNatClampNeg) - (M13.1 83 (5 + a2).toNatClampNeg)))) fun M17 =>
  gd (inb a2 5) <|
  gd (inb (5 + a2) 33) <|
  gd (inb a2 5) <|
  lt_ (sA M17 89 (upd (M17.1 89) a2.toNatClampNeg ((M17.1 89 a2.toNatClampNeg) + (M17.1 83 (5 + a2).toNatClampNeg)))) fun M21 =>
  gd (inb a1 6) <|
  if (M21.1 96 a1.toNatClampNeg) = 8 then
    X11_mended_L109 a1 a2 (fun M =>
        gd (inb a1 6) <|
        gd (inb a1 6) <|
        lt_ (sA M 96 (upd (M.1 96) a1.toNatClampNeg ((M.1 96 a1.toNatClampNeg) - 1))) fun M30 =>
        X11_mended_b155 a1 a2 M30) 10000 1 M21
  else
    X11_mended_b155 a1 a2 M21
set_option maxRecDepth 100000 in
set_option maxHeartbeats 4000000 in
theorem X11_mended_b35_ok {g : gx} (hg : EC g cX11_mended RX11 0) {a1 : Int32} {a2 : Int32} {r : Unit × mm} (hr : RT g (none) (0, 0) none (cells r.2)) {s1 : Int32} {s2 : Int32} {o3 : Option Value} {M : mm} (h : X11_mended_b35 a1 a2 s1 s2 M = some r) : E g (0, 0) 35 [some (.ref 82), some (.int a1), some (.int a2), o3] [.int s2, .int s1, .ref 91] (cells M) := by
  unfold X11_mended_b35 at h
  obtain ⟨hi5, h⟩ := o_gd h
  obtain ⟨M6, hM6, h⟩ := o_lt h
  refine m_iast hg sh_91 hi5 dX11_mended_35 ?_
  rw [← hM6]
  refine e_aload_n hg dX11_mended_36 rfl ?_
  refine m_getR (q := 93) hg ciX11 14 lk_1000 dX11_mended_37 io_82 (Nat.le_of_ble_eq_true rfl) rfl rf_82_14 ?_
  refine e_iload_n hg dX11_mended_40 rfl ?_
  refine e_aload_n hg dX11_mended_41 rfl ?_
  refine m_getR (q := 92) hg ciX11 13 lk_999 dX11_mended_42 io_82 (Nat.le_of_ble_eq_true rfl) rfl rf_82_13 ?_
  refine e_iload_n hg dX11_mended_45 rfl ?_
  obtain ⟨hi7, h⟩ := o_gd h
  refine m_iald hg sh_92 hi7 dX11_mended_46 ?_
  obtain ⟨hi8, h⟩ := o_gd h
  obtain ⟨M9, hM9, h⟩ := o_lt h
  refine m_iast hg sh_93 hi8 dX11_mended_47 ?_
  rw [← hM9]
  refine e_aload_n hg dX11_mended_48 rfl ?_
  refine m_getR (q := 92) hg ciX11 13 lk_999 dX11_mended_49 io_82 (Nat.le_of_ble_eq_true rfl) rfl rf_82_13 ?_
  refine e_iload_n hg dX11_mended_52 rfl ?_
  refine e_iload_n hg dX11_mended_53 rfl ?_
  obtain ⟨hi10, h⟩ := o_gd h
  obtain ⟨M11, hM11, h⟩ := o_lt h
  refine m_iast hg sh_92 hi10 dX11_mended_54 ?_
  rw [← hM11]
  refine e_aload_n hg dX11_mended_55 rfl ?_
  refine m_getR (q := 94) hg ciX11 15 lk_1001 dX11_mended_56 io_82 (Nat.le_of_ble_eq_true rfl) rfl rf_82_15 ?_
  refine e_iload_n hg dX11_mended_59 rfl ?_
  refine e_iconst (v := 0) hg dX11_mended_60 (by decide) ?_
  obtain ⟨hi12, h⟩ := o_gd h
  obtain ⟨M13, hM13, h⟩ := o_lt h
  refine m_iast hg sh_94 hi12 dX11_mended_61 ?_
  rw [← hM13]
  refine e_aload_n hg dX11_mended_62 rfl ?_
  refine m_getR (q := 87) hg ciX11 8 lk_994 dX11_mended_63 io_82 (Nat.le_of_ble_eq_true rfl) rfl rf_82_8 ?_
  refine e_iload_n hg dX11_mended_66 rfl ?_
  refine e_dup2 hg dX11_mended_67 rfl rfl ?_
  obtain ⟨hi14, h⟩ := o_gd h
  refine m_iald hg sh_87 hi14 dX11_mended_68 ?_
  refine e_aload_n hg dX11_mended_69 rfl ?_
  refine m_getR (q := 83) hg ciX11 0 lk_986 dX11_mended_70 io_82 (Nat.le_of_ble_eq_true rfl) rfl rf_82_0 ?_
  refine e_iconst (v := 5) hg dX11_mended_73 (by decide) ?_
  refine e_iload_n hg dX11_mended_74 rfl ?_
  refine e_iadd hg dX11_mended_75 ?_
  obtain ⟨hi15, h⟩ := o_gd h
  refine m_iald hg sh_83 hi15 dX11_mended_76 ?_
  refine e_isub hg dX11_mended_77 ?_
  obtain ⟨hi16, h⟩ := o_gd h
  obtain ⟨M17, hM17, h⟩ := o_lt h
  refine m_iast hg sh_87 hi16 dX11_mended_78 ?_
  rw [← hM17]
  refine e_aload_n hg dX11_mended_79 rfl ?_
  refine m_getR (q := 89) hg ciX11 10 lk_996 dX11_mended_80 io_82 (Nat.le_of_ble_eq_true rfl) rfl rf_82_10 ?_
  refine e_iload_n hg dX11_mended_83 rfl ?_
  refine e_dup2 hg dX11_mended_84 rfl rfl ?_
  obtain ⟨hi18, h⟩ := o_gd h
  refine m_iald hg sh_89 hi18 dX11_mended_85 ?_
  refine e_aload_n hg dX11_mended_86 rfl ?_
  refine m_getR (q := 83) hg ciX11 0 lk_986 dX11_mended_87 io_82 (Nat.le_of_ble_eq_true rfl) rfl rf_82_0 ?_
  refine e_iconst (v := 5) hg dX11_mended_90 (by decide) ?_
  refine e_iload_n hg dX11_mended_91 rfl ?_
  refine e_iadd hg dX11_mended_92 ?_
  obtain ⟨hi19, h⟩ := o_gd h
  refine m_iald hg sh_83 hi19 dX11_mended_93 ?_
  refine e_iadd hg dX11_mended_94 ?_
  obtain ⟨hi20, h⟩ := o_gd h
  obtain ⟨M21, hM21, h⟩ := o_lt h
  refine m_iast hg sh_89 hi20 dX11_mended_95 ?_
  rw [← hM21]
  refine e_aload_n hg dX11_mended_96 rfl ?_
  refine m_getR (q := 96) hg ciX11 17 lk_1003 dX11_mended_97 io_82 (Nat.le_of_ble_eq_true rfl) rfl rf_82_17 ?_
  refine e_iload_n hg dX11_mended_100 rfl ?_
  obtain ⟨hi22, h⟩ := o_gd h
  refine m_iald hg sh_96 hi22 dX11_mended_101 ?_
  refine e_bipush (v := 8) hg dX11_mended_102 (by decide) ?_
  refine e_icmpne hg 155 dX11_mended_104 (by decide) (fun c23 => ?_) (fun c23 => ?_)
  · have h := o_pos c23 h
    refine e_iconst (v := 1) hg dX11_mended_107 (by decide) ?_
    refine e_istore_n (ls' := [some (.ref 82), some (.int a1), some (.int a2), some (.int 1)]) hg dX11_mended_108 rfl ?_
    refine X11_mended_L109_ok hg hr (fun o3 M h => ?_) 10000 _ _ h
    refine e_aload_n hg dX11_mended_145 rfl ?_
    refine m_getR (q := 96) hg ciX11 17 lk_1003 dX11_mended_146 io_82 (Nat.le_of_ble_eq_true rfl) rfl rf_82_17 ?_
    refine e_iload_n hg dX11_mended_149 rfl ?_
    refine e_dup2 hg dX11_mended_150 rfl rfl ?_
    obtain ⟨hi28, h⟩ := o_gd h
    refine m_iald hg sh_96 hi28 dX11_mended_151 ?_
    refine e_iconst (v := 1) hg dX11_mended_152 (by decide) ?_
    refine e_isub hg dX11_mended_153 ?_
    obtain ⟨hi29, h⟩ := o_gd h
    obtain ⟨M30, hM30, h⟩ := o_lt h
    refine m_iast hg sh_96 hi29 dX11_mended_154 ?_
    rw [← hM30]
    exact X11_mended_b155_ok hg hr  h
  · have h := o_neg c23 h
    exact X11_mended_b155_ok hg hr  h

def X11_mended (a1 : Int32) (a2 : Int32) (M : mm) : Option (Unit × mm) :=
  gd (inb a2 33) <|
  gd (inb a1 6) <|
  if (M.1 91 a1.toNatClampNeg) < (M.1 83 a2.toNatClampNeg) then
    gd (inb a2 33) <|
    X11_mended_b35 a1 a2 a1 (M.1 83 a2.toNatClampNeg) M
  else
    gd (inb a1 6) <|
    X11_mended_b35 a1 a2 a1 (M.1 91 a1.toNatClampNeg) M
set_option maxRecDepth 100000 in
set_option maxHeartbeats 4000000 in
theorem X11_mended_ok {a1 : Int32} {a2 : Int32} {M : mm} {r : Unit × mm} (h : X11_mended a1 a2 M = some r) : CM yX11_mended cX11_mended 4 (none) 0 [.ref 82, .int a1, .int a2] (cells M) none (cells r.2) := by
  refine cm_of (ls := [some (.ref 82), some (.int a1), some (.int a2), none]) mfX11_mended rfl (Nat.le_of_ble_eq_true rfl) (fun g hg hr => ?_)
  unfold X11_mended at h
  refine e_aload_n hg dX11_mended_0 rfl ?_
  refine m_getR (q := 91) hg ciX11 12 lk_998 dX11_mended_1 io_82 (Nat.le_of_ble_eq_true rfl) rfl rf_82_12 ?_
  refine e_iload_n hg dX11_mended_4 rfl ?_
  refine e_aload_n hg dX11_mended_5 rfl ?_
  refine m_getR (q := 83) hg ciX11 0 lk_986 dX11_mended_6 io_82 (Nat.le_of_ble_eq_true rfl) rfl rf_82_0 ?_
  refine e_iload_n hg dX11_mended_9 rfl ?_
  obtain ⟨hi1, h⟩ := o_gd h
  refine m_iald hg sh_83 hi1 dX11_mended_10 ?_
  refine e_aload_n hg dX11_mended_11 rfl ?_
  refine m_getR (q := 91) hg ciX11 12 lk_998 dX11_mended_12 io_82 (Nat.le_of_ble_eq_true rfl) rfl rf_82_12 ?_
  refine e_iload_n hg dX11_mended_15 rfl ?_
  obtain ⟨hi2, h⟩ := o_gd h
  refine m_iald hg sh_91 hi2 dX11_mended_16 ?_
  refine e_icmple hg 29 dX11_mended_17 (by decide) (fun c3 => ?_) (fun c3 => ?_)
  · have h := o_pos c3 h
    refine e_aload_n hg dX11_mended_20 rfl ?_
    refine m_getR (q := 83) hg ciX11 0 lk_986 dX11_mended_21 io_82 (Nat.le_of_ble_eq_true rfl) rfl rf_82_0 ?_
    refine e_iload_n hg dX11_mended_24 rfl ?_
    obtain ⟨hi4, h⟩ := o_gd h
    refine m_iald hg sh_83 hi4 dX11_mended_25 ?_
    refine e_goto hg 35 dX11_mended_26 (by decide) ?_
    exact X11_mended_b35_ok hg hr  h
  · have h := o_neg c3 h
    refine e_aload_n hg dX11_mended_29 rfl ?_
    refine m_getR (q := 91) hg ciX11 12 lk_998 dX11_mended_30 io_82 (Nat.le_of_ble_eq_true rfl) rfl rf_82_12 ?_
    refine e_iload_n hg dX11_mended_33 rfl ?_
    obtain ⟨hi37, h⟩ := o_gd h
    refine m_iald hg sh_91 hi37 dX11_mended_34 ?_
    exact X11_mended_b35_ok hg hr  h

def X11_pays (a1 : Int32) (a2 : Int32) (M : mm) : Option (Unit × mm) :=
  gd (inb a1 5) <|
  gd (inb a1 5) <|
  lt_ (sA M 87 (upd (M.1 87) a1.toNatClampNeg ((M.1 87 a1.toNatClampNeg) - a2))) fun M3 =>
  gd (inb a1 5) <|
  gd (inb a1 5) <|
  lt_ (sA M3 88 (upd (M3.1 88) a1.toNatClampNeg ((M3.1 88 a1.toNatClampNeg) + a2))) fun M6 =>
  some ((), M6)
set_option maxRecDepth 100000 in
set_option maxHeartbeats 4000000 in
theorem X11_pays_ok {a1 : Int32} {a2 : Int32} {M : mm} {r : Unit × mm} (h : X11_pays a1 a2 M = some r) : CM yX11_pays cX11_pays 3 (none) 0 [.ref 82, .int a1, .int a2] (cells M) none (cells r.2) := by
  refine cm_of (ls := [some (.ref 82), some (.int a1), some (.int a2)]) mfX11_pays rfl (Nat.le_of_ble_eq_true rfl) (fun g hg hr => ?_)
  unfold X11_pays at h
  refine e_aload_n hg dX11_pays_0 rfl ?_
  refine m_getR (q := 87) hg ciX11 8 lk_994 dX11_pays_1 io_82 (Nat.le_of_ble_eq_true rfl) rfl rf_82_8 ?_
  refine e_iload_n hg dX11_pays_4 rfl ?_
  refine e_dup2 hg dX11_pays_5 rfl rfl ?_
  obtain ⟨hi1, h⟩ := o_gd h
  refine m_iald hg sh_87 hi1 dX11_pays_6 ?_
  refine e_iload_n hg dX11_pays_7 rfl ?_
  refine e_isub hg dX11_pays_8 ?_
  obtain ⟨hi2, h⟩ := o_gd h
  obtain ⟨M3, hM3, h⟩ := o_lt h
  refine m_iast hg sh_87 hi2 dX11_pays_9 ?_
  rw [← hM3]
  refine e_aload_n hg dX11_pays_10 rfl ?_
  refine m_getR (q := 88) hg ciX11 9 lk_995 dX11_pays_11 io_82 (Nat.le_of_ble_eq_true rfl) rfl rf_82_9 ?_
  refine e_iload_n hg dX11_pays_14 rfl ?_
  refine e_dup2 hg dX11_pays_15 rfl rfl ?_
  obtain ⟨hi4, h⟩ := o_gd h
  refine m_iald hg sh_88 hi4 dX11_pays_16 ?_
  refine e_iload_n hg dX11_pays_17 rfl ?_
  refine e_iadd hg dX11_pays_18 ?_
  obtain ⟨hi5, h⟩ := o_gd h
  obtain ⟨M6, hM6, h⟩ := o_lt h
  refine m_iast hg sh_88 hi5 dX11_pays_19 ?_
  rw [← hM6]
  exact m_vret hg hr dX11_pays_20 h

def X11_breaks_b152 (a1 : Int32) (x3 : Int32) (x5 : Int32) (x6 : Int32) (M : mm) : Option (Unit × mm) :=
  bd (X11_pays x5 (x3 - x6) M) fun u15 M16 =>
  gd (inb a1 6) <|
  lt_ (sA M16 97 (upd (M16.1 97) a1.toNatClampNeg x5)) fun M19 =>
  gd (inb a1 6) <|
  lt_ (sA M19 91 (upd (M19.1 91) a1.toNatClampNeg 3)) fun M21 =>
  gd (inb a1 6) <|
  lt_ (sA M21 92 (upd (M21.1 92) a1.toNatClampNeg (-2))) fun M23 =>
  gd (inb a1 6) <|
  lt_ (sA M23 93 (upd (M23.1 93) a1.toNatClampNeg (-2))) fun M25 =>
  gd (inb a1 6) <|
  lt_ (sA M25 94 (upd (M25.1 94) a1.toNatClampNeg 0)) fun M27 =>
  lt_ (sA M27 82 (upd (M27.1 82) 44 ((M27.1 82 44) + 1))) fun M28 =>
  some ((), M28)
set_option maxRecDepth 100000 in
set_option maxHeartbeats 4000000 in
theorem X11_breaks_b152_ok {g : gx} (hg : EC g cX11_breaks RX11 1) {a1 : Int32} {r : Unit × mm} (hr : RT g (none) (0, 0) none (cells r.2)) {x3 : Int32} {x5 : Int32} {x6 : Int32} {o2 : Option Value} {o4 : Option Value} {M : mm} (h : X11_breaks_b152 a1 x3 x5 x6 M = some r) : E g (0, 0) 152 [some (.ref 82), some (.int a1), o2, some (.int x3), o4, some (.int x5), some (.int x6)] [] (cells M) := by
  unfold X11_breaks_b152 at h
  refine e_aload_n hg dX11_breaks_152 rfl ?_
  refine e_iload hg dX11_breaks_153 rfl ?_
  refine e_iload_n hg dX11_breaks_155 rfl ?_
  refine e_iload hg dX11_breaks_156 rfl ?_
  refine e_isub hg dX11_breaks_158 ?_
  obtain ⟨u15, M16, hc17, h⟩ := o_bd h
  refine m_callVV (rest := []) (M' := M16) (ci := 11) hg mfX11_pays mvX11_pays (X11_pays_ok (r := (u15, M16)) hc17) lk_1409 dX11_breaks_159 io_82 rfl rfl rfl (by omega) (Nat.le_of_ble_eq_true rfl) ?_
  refine e_aload_n hg dX11_breaks_162 rfl ?_
  refine m_getR (q := 97) hg ciX11 18 lk_1004 dX11_breaks_163 io_82 (Nat.le_of_ble_eq_true rfl) rfl rf_82_18 ?_
  refine e_iload_n hg dX11_breaks_166 rfl ?_
  refine e_iload hg dX11_breaks_167 rfl ?_
  obtain ⟨hi18, h⟩ := o_gd h
  obtain ⟨M19, hM19, h⟩ := o_lt h
  refine m_iast hg sh_97 hi18 dX11_breaks_169 ?_
  rw [← hM19]
  refine e_aload_n hg dX11_breaks_170 rfl ?_
  refine m_getR (q := 91) hg ciX11 12 lk_998 dX11_breaks_171 io_82 (Nat.le_of_ble_eq_true rfl) rfl rf_82_12 ?_
  refine e_iload_n hg dX11_breaks_174 rfl ?_
  refine e_iconst (v := 3) hg dX11_breaks_175 (by decide) ?_
  obtain ⟨hi20, h⟩ := o_gd h
  obtain ⟨M21, hM21, h⟩ := o_lt h
  refine m_iast hg sh_91 hi20 dX11_breaks_176 ?_
  rw [← hM21]
  refine e_aload_n hg dX11_breaks_177 rfl ?_
  refine m_getR (q := 92) hg ciX11 13 lk_999 dX11_breaks_178 io_82 (Nat.le_of_ble_eq_true rfl) rfl rf_82_13 ?_
  refine e_iload_n hg dX11_breaks_181 rfl ?_
  refine e_bipush (v := -2) hg dX11_breaks_182 (by decide) ?_
  obtain ⟨hi22, h⟩ := o_gd h
  obtain ⟨M23, hM23, h⟩ := o_lt h
  refine m_iast hg sh_92 hi22 dX11_breaks_184 ?_
  rw [← hM23]
  refine e_aload_n hg dX11_breaks_185 rfl ?_
  refine m_getR (q := 93) hg ciX11 14 lk_1000 dX11_breaks_186 io_82 (Nat.le_of_ble_eq_true rfl) rfl rf_82_14 ?_
  refine e_iload_n hg dX11_breaks_189 rfl ?_
  refine e_bipush (v := -2) hg dX11_breaks_190 (by decide) ?_
  obtain ⟨hi24, h⟩ := o_gd h
  obtain ⟨M25, hM25, h⟩ := o_lt h
  refine m_iast hg sh_93 hi24 dX11_breaks_192 ?_
  rw [← hM25]
  refine e_aload_n hg dX11_breaks_193 rfl ?_
  refine m_getR (q := 94) hg ciX11 15 lk_1001 dX11_breaks_194 io_82 (Nat.le_of_ble_eq_true rfl) rfl rf_82_15 ?_
  refine e_iload_n hg dX11_breaks_197 rfl ?_
  refine e_iconst (v := 0) hg dX11_breaks_198 (by decide) ?_
  obtain ⟨hi26, h⟩ := o_gd h
  obtain ⟨M27, hM27, h⟩ := o_lt h
  refine m_iast hg sh_94 hi26 dX11_breaks_199 ?_
  rw [← hM27]
  refine e_aload_n hg dX11_breaks_200 rfl ?_
  refine e_dup hg dX11_breaks_201 rfl ?_
  refine m_getI hg ciX11 44 lk_1030 dX11_breaks_202 io_82 (Nat.le_of_ble_eq_true rfl) rfl ?_
  refine e_iconst (v := 1) hg dX11_breaks_205 (by decide) ?_
  refine e_iadd hg dX11_breaks_206 ?_
  obtain ⟨M28, hM28, h⟩ := o_lt h
  refine m_putI hg ciX11 44 lk_1030 dX11_breaks_207 io_82 (Nat.le_of_ble_eq_true rfl) rfl rfl rfl rfl ?_
  rw [← hM28]
  exact m_vret hg hr dX11_breaks_210 h

def X11_breaks_b133 (a1 : Int32) (x3 : Int32) (x5 : Int32) (s0 : Int32) (M : mm) : Option (Unit × mm) :=
  if 0 < s0 then
    gd (inb a1 6) <|
    bd (X11_pays (M.1 93 a1.toNatClampNeg) s0 M) fun u12 M13 =>
    X11_breaks_b152 a1 x3 x5 s0 M13
  else
    X11_breaks_b152 a1 x3 x5 s0 M
set_option maxRecDepth 100000 in
set_option maxHeartbeats 4000000 in
theorem X11_breaks_b133_ok {g : gx} (hg : EC g cX11_breaks RX11 1) {a1 : Int32} {r : Unit × mm} (hr : RT g (none) (0, 0) none (cells r.2)) {x3 : Int32} {x5 : Int32} {s0 : Int32} {o2 : Option Value} {o4 : Option Value} {o6 : Option Value} {M : mm} (h : X11_breaks_b133 a1 x3 x5 s0 M = some r) : E g (0, 0) 133 [some (.ref 82), some (.int a1), o2, some (.int x3), o4, some (.int x5), o6] [.int s0] (cells M) := by
  unfold X11_breaks_b133 at h
  refine e_istore (ls' := [some (.ref 82), some (.int a1), o2, some (.int x3), o4, some (.int x5), some (.int s0)]) hg dX11_breaks_133 rfl ?_
  refine e_iload hg dX11_breaks_135 rfl ?_
  refine e_ifle hg 152 dX11_breaks_137 (by decide) (fun c10 => ?_) (fun c10 => ?_)
  · have h := o_pos c10 h
    refine e_aload_n hg dX11_breaks_140 rfl ?_
    refine e_aload_n hg dX11_breaks_141 rfl ?_
    refine m_getR (q := 93) hg ciX11 14 lk_1000 dX11_breaks_142 io_82 (Nat.le_of_ble_eq_true rfl) rfl rf_82_14 ?_
    refine e_iload_n hg dX11_breaks_145 rfl ?_
    obtain ⟨hi11, h⟩ := o_gd h
    refine m_iald hg sh_93 hi11 dX11_breaks_146 ?_
    refine e_iload hg dX11_breaks_147 rfl ?_
    obtain ⟨u12, M13, hc14, h⟩ := o_bd h
    refine m_callVV (rest := []) (M' := M13) (ci := 11) hg mfX11_pays mvX11_pays (X11_pays_ok (r := (u12, M13)) hc14) lk_1409 dX11_breaks_149 io_82 rfl rfl rfl (by omega) (Nat.le_of_ble_eq_true rfl) ?_
    exact X11_breaks_b152_ok hg hr  h
  · have h := o_neg c10 h
    exact X11_breaks_b152_ok hg hr  h

def X11_breaks_b132 (a1 : Int32) (x3 : Int32) (x5 : Int32) (M : mm) : Option (Unit × mm) :=
  X11_breaks_b133 a1 x3 x5 0 M
set_option maxRecDepth 100000 in
set_option maxHeartbeats 4000000 in
theorem X11_breaks_b132_ok {g : gx} (hg : EC g cX11_breaks RX11 1) {a1 : Int32} {r : Unit × mm} (hr : RT g (none) (0, 0) none (cells r.2)) {x3 : Int32} {x5 : Int32} {o2 : Option Value} {o4 : Option Value} {o6 : Option Value} {M : mm} (h : X11_breaks_b132 a1 x3 x5 M = some r) : E g (0, 0) 132 [some (.ref 82), some (.int a1), o2, some (.int x3), o4, some (.int x5), o6] [] (cells M) := by
  unfold X11_breaks_b132 at h
  refine e_iconst (v := 0) hg dX11_breaks_132 (by decide) ?_
  exact X11_breaks_b133_ok hg hr  h

def X11_breaks_b102 (a1 : Int32) (x3 : Int32) (x4 : Int32) (s0 : Int32) (M : mm) : Option (Unit × mm) :=
  if x4 = 0 then
    X11_breaks_b132 a1 x3 s0 M
  else
    if (M.1 82 20) = 1 then
      gd (inb a1 6) <|
      if (M.1 93 a1.toNatClampNeg) < 0 then
        X11_breaks_b132 a1 x3 s0 M
      else
        X11_breaks_b133 a1 x3 s0 (x3 / 2) M
    else
      X11_breaks_b132 a1 x3 s0 M
set_option maxRecDepth 100000 in
set_option maxHeartbeats 4000000 in
theorem X11_breaks_b102_ok {g : gx} (hg : EC g cX11_breaks RX11 1) {a1 : Int32} {r : Unit × mm} (hr : RT g (none) (0, 0) none (cells r.2)) {x3 : Int32} {x4 : Int32} {s0 : Int32} {o2 : Option Value} {o5 : Option Value} {o6 : Option Value} {M : mm} (h : X11_breaks_b102 a1 x3 x4 s0 M = some r) : E g (0, 0) 102 [some (.ref 82), some (.int a1), o2, some (.int x3), some (.int x4), o5, o6] [.int s0] (cells M) := by
  unfold X11_breaks_b102 at h
  refine e_istore (ls' := [some (.ref 82), some (.int a1), o2, some (.int x3), some (.int x4), some (.int s0), o6]) hg dX11_breaks_102 rfl ?_
  refine e_iload hg dX11_breaks_104 rfl ?_
  refine e_ifeq hg 132 dX11_breaks_106 (by decide) (fun c9 => ?_) (fun c9 => ?_)
  · have h := o_pos c9 h
    exact X11_breaks_b132_ok hg hr  h
  · have h := o_neg c9 h
    refine e_aload_n hg dX11_breaks_109 rfl ?_
    refine m_getI hg ciX11 20 lk_1006 dX11_breaks_110 io_82 (Nat.le_of_ble_eq_true rfl) rfl ?_
    refine e_iconst (v := 1) hg dX11_breaks_113 (by decide) ?_
    refine e_icmpne hg 132 dX11_breaks_114 (by decide) (fun c29 => ?_) (fun c29 => ?_)
    · have h := o_pos c29 h
      refine e_aload_n hg dX11_breaks_117 rfl ?_
      refine m_getR (q := 93) hg ciX11 14 lk_1000 dX11_breaks_118 io_82 (Nat.le_of_ble_eq_true rfl) rfl rf_82_14 ?_
      refine e_iload_n hg dX11_breaks_121 rfl ?_
      obtain ⟨hi30, h⟩ := o_gd h
      refine m_iald hg sh_93 hi30 dX11_breaks_122 ?_
      refine e_iflt hg 132 dX11_breaks_123 (by decide) (fun c31 => ?_) (fun c31 => ?_)
      · have h := o_pos c31 h
        exact X11_breaks_b132_ok hg hr  h
      · have h := o_neg c31 h
        refine e_iload_n hg dX11_breaks_126 rfl ?_
        refine e_iconst (v := 2) hg dX11_breaks_127 (by decide) ?_
        refine e_idiv hg dX11_breaks_128 (by decide) ?_
        refine e_goto hg 133 dX11_breaks_129 (by decide) ?_
        exact X11_breaks_b133_ok hg hr  h
    · have h := o_neg c29 h
      exact X11_breaks_b132_ok hg hr  h

def X11_breaks_b80 (a1 : Int32) (x3 : Int32) (s0 : Int32) (M : mm) : Option (Unit × mm) :=
  if s0 = 0 then
    gd (inb a1 6) <|
    X11_breaks_b102 a1 x3 s0 (M.1 90 a1.toNatClampNeg) M
  else
    gd (inb a1 6) <|
    X11_breaks_b102 a1 x3 s0 (M.1 92 a1.toNatClampNeg) M
set_option maxRecDepth 100000 in
set_option maxHeartbeats 4000000 in
theorem X11_breaks_b80_ok {g : gx} (hg : EC g cX11_breaks RX11 1) {a1 : Int32} {r : Unit × mm} (hr : RT g (none) (0, 0) none (cells r.2)) {x3 : Int32} {s0 : Int32} {o2 : Option Value} {o4 : Option Value} {o5 : Option Value} {o6 : Option Value} {M : mm} (h : X11_breaks_b80 a1 x3 s0 M = some r) : E g (0, 0) 80 [some (.ref 82), some (.int a1), o2, some (.int x3), o4, o5, o6] [.int s0] (cells M) := by
  unfold X11_breaks_b80 at h
  refine e_istore (ls' := [some (.ref 82), some (.int a1), o2, some (.int x3), some (.int s0), o5, o6]) hg dX11_breaks_80 rfl ?_
  refine e_iload hg dX11_breaks_82 rfl ?_
  refine e_ifeq hg 96 dX11_breaks_84 (by decide) (fun c7 => ?_) (fun c7 => ?_)
  · have h := o_pos c7 h
    refine e_aload_n hg dX11_breaks_96 rfl ?_
    refine m_getR (q := 90) hg ciX11 11 lk_997 dX11_breaks_97 io_82 (Nat.le_of_ble_eq_true rfl) rfl rf_82_11 ?_
    refine e_iload_n hg dX11_breaks_100 rfl ?_
    obtain ⟨hi8, h⟩ := o_gd h
    refine m_iald hg sh_90 hi8 dX11_breaks_101 ?_
    exact X11_breaks_b102_ok hg hr  h
  · have h := o_neg c7 h
    refine e_aload_n hg dX11_breaks_87 rfl ?_
    refine m_getR (q := 92) hg ciX11 13 lk_999 dX11_breaks_88 io_82 (Nat.le_of_ble_eq_true rfl) rfl rf_82_13 ?_
    refine e_iload_n hg dX11_breaks_91 rfl ?_
    obtain ⟨hi32, h⟩ := o_gd h
    refine m_iald hg sh_92 hi32 dX11_breaks_92 ?_
    refine e_goto hg 102 dX11_breaks_93 (by decide) ?_
    exact X11_breaks_b102_ok hg hr  h

def X11_breaks_b79 (a1 : Int32) (x3 : Int32) (M : mm) : Option (Unit × mm) :=
  X11_breaks_b80 a1 x3 0 M
set_option maxRecDepth 100000 in
set_option maxHeartbeats 4000000 in
theorem X11_breaks_b79_ok {g : gx} (hg : EC g cX11_breaks RX11 1) {a1 : Int32} {r : Unit × mm} (hr : RT g (none) (0, 0) none (cells r.2)) {x3 : Int32} {o2 : Option Value} {o4 : Option Value} {o5 : Option Value} {o6 : Option Value} {M : mm} (h : X11_breaks_b79 a1 x3 M = some r) : E g (0, 0) 79 [some (.ref 82), some (.int a1), o2, some (.int x3), o4, o5, o6] [] (cells M) := by
  unfold X11_breaks_b79 at h
  refine e_iconst (v := 0) hg dX11_breaks_79 (by decide) ?_
  exact X11_breaks_b80_ok hg hr  h

def X11_breaks_b43 (a1 : Int32) (M : mm) : Option (Unit × mm) :=
  gd (inb (21 + a1) 33) <|
  gd (inb a1 6) <|
  if (M.1 92 a1.toNatClampNeg) < 0 then
    X11_breaks_b79 a1 (M.1 83 (21 + a1).toNatClampNeg) M
  else
    gd (inb a1 6) <|
    bd (X11_isForgotten (M.1 94 a1.toNatClampNeg) M) fun v34 M35 =>
    if v34 = 0 then
      X11_breaks_b80 a1 (M.1 83 (21 + a1).toNatClampNeg) 1 M35
    else
      X11_breaks_b79 a1 (M.1 83 (21 + a1).toNatClampNeg) M35
set_option maxRecDepth 100000 in
set_option maxHeartbeats 4000000 in
theorem X11_breaks_b43_ok {g : gx} (hg : EC g cX11_breaks RX11 1) {a1 : Int32} {r : Unit × mm} (hr : RT g (none) (0, 0) none (cells r.2)) {o2 : Option Value} {o3 : Option Value} {o4 : Option Value} {o5 : Option Value} {o6 : Option Value} {M : mm} (h : X11_breaks_b43 a1 M = some r) : E g (0, 0) 43 [some (.ref 82), some (.int a1), o2, o3, o4, o5, o6] [] (cells M) := by
  unfold X11_breaks_b43 at h
  refine e_aload_n hg dX11_breaks_43 rfl ?_
  refine m_getR (q := 83) hg ciX11 0 lk_986 dX11_breaks_44 io_82 (Nat.le_of_ble_eq_true rfl) rfl rf_82_0 ?_
  refine e_bipush (v := 21) hg dX11_breaks_47 (by decide) ?_
  refine e_iload_n hg dX11_breaks_49 rfl ?_
  refine e_iadd hg dX11_breaks_50 ?_
  obtain ⟨hi4, h⟩ := o_gd h
  refine m_iald hg sh_83 hi4 dX11_breaks_51 ?_
  refine e_drop (ls2 := [some (.ref 82), some (.int a1), none, o3, o4, o5, o6]) 2 rfl ?_
  refine e_istore_n (ls' := [some (.ref 82), some (.int a1), none, some (.int (M.1 83 (21 + a1).toNatClampNeg)), o4, o5, o6]) hg dX11_breaks_52 rfl ?_
  refine e_aload_n hg dX11_breaks_53 rfl ?_
  refine m_getR (q := 92) hg ciX11 13 lk_999 dX11_breaks_54 io_82 (Nat.le_of_ble_eq_true rfl) rfl rf_82_13 ?_
  refine e_iload_n hg dX11_breaks_57 rfl ?_
  obtain ⟨hi5, h⟩ := o_gd h
  refine m_iald hg sh_92 hi5 dX11_breaks_58 ?_
  refine e_iflt hg 79 dX11_breaks_59 (by decide) (fun c6 => ?_) (fun c6 => ?_)
  · have h := o_pos c6 h
    exact X11_breaks_b79_ok hg hr  h
  · have h := o_neg c6 h
    refine e_aload_n hg dX11_breaks_62 rfl ?_
    refine e_aload_n hg dX11_breaks_63 rfl ?_
    refine m_getR (q := 94) hg ciX11 15 lk_1001 dX11_breaks_64 io_82 (Nat.le_of_ble_eq_true rfl) rfl rf_82_15 ?_
    refine e_iload_n hg dX11_breaks_67 rfl ?_
    obtain ⟨hi33, h⟩ := o_gd h
    refine m_iald hg sh_94 hi33 dX11_breaks_68 ?_
    obtain ⟨v34, M35, hc36, h⟩ := o_bd h
    refine m_callVI (rest := []) (v := v34) (M' := M35) (ci := 11) hg mfX11_isForgotten mvX11_isForgotten (X11_isForgotten_ok (r := (v34, M35)) hc36) lk_1341 dX11_breaks_69 io_82 rfl rfl rfl (by omega) (Nat.le_of_ble_eq_true rfl) ?_
    refine e_ifne hg 79 dX11_breaks_72 (by decide) (fun c37 => ?_) (fun c37 => ?_)
    · have h := o_pos c37 h
      refine e_iconst (v := 1) hg dX11_breaks_75 (by decide) ?_
      refine e_goto hg 80 dX11_breaks_76 (by decide) ?_
      exact X11_breaks_b80_ok hg hr  h
    · have h := o_neg c37 h
      exact X11_breaks_b79_ok hg hr  h

def X11_breaks (a1 : Int32) (M : mm) : Option (Unit × mm) :=
  gd (inb (27 + a1) 33) <|
  if (M.1 83 (27 + a1).toNatClampNeg) < (M.1 82 7) then
    if (M.1 83 (27 + a1).toNatClampNeg) = a1 then
      X11_breaks_b43 a1 M
    else
      gd (inb (M.1 83 (27 + a1).toNatClampNeg) 6) <|
      if 1 < (M.1 91 (M.1 83 (27 + a1).toNatClampNeg).toNatClampNeg) then
        gd (inb (M.1 83 (27 + a1).toNatClampNeg) 6) <|
        gd (inb (M.1 83 (27 + a1).toNatClampNeg) 6) <|
        lt_ (sA M 91 (upd (M.1 91) (M.1 83 (27 + a1).toNatClampNeg).toNatClampNeg ((M.1 91 (M.1 83 (27 + a1).toNatClampNeg).toNatClampNeg) - 1))) fun M42 =>
        X11_breaks_b43 a1 M42
      else
        X11_breaks_b43 a1 M
  else
    X11_breaks_b43 a1 M
set_option maxRecDepth 100000 in
set_option maxHeartbeats 4000000 in
theorem X11_breaks_ok {a1 : Int32} {M : mm} {r : Unit × mm} (h : X11_breaks a1 M = some r) : CM yX11_breaks cX11_breaks 7 (none) 1 [.ref 82, .int a1] (cells M) none (cells r.2) := by
  refine cm_of (ls := [some (.ref 82), some (.int a1), none, none, none, none, none]) mfX11_breaks rfl (Nat.le_of_ble_eq_true rfl) (fun g hg hr => ?_)
  unfold X11_breaks at h
  refine e_aload_n hg dX11_breaks_0 rfl ?_
  refine m_getR (q := 83) hg ciX11 0 lk_986 dX11_breaks_1 io_82 (Nat.le_of_ble_eq_true rfl) rfl rf_82_0 ?_
  refine e_bipush (v := 27) hg dX11_breaks_4 (by decide) ?_
  refine e_iload_n hg dX11_breaks_6 rfl ?_
  refine e_iadd hg dX11_breaks_7 ?_
  obtain ⟨hi1, h⟩ := o_gd h
  refine m_iald hg sh_83 hi1 dX11_breaks_8 ?_
  refine e_istore_n (ls' := [some (.ref 82), some (.int a1), some (.int (M.1 83 (27 + a1).toNatClampNeg)), none, none, none, none]) hg dX11_breaks_9 rfl ?_
  refine e_iload_n hg dX11_breaks_10 rfl ?_
  refine e_aload_n hg dX11_breaks_11 rfl ?_
  refine m_getI hg ciX11 7 lk_993 dX11_breaks_12 io_82 (Nat.le_of_ble_eq_true rfl) rfl ?_
  refine e_icmpge hg 43 dX11_breaks_15 (by decide) (fun c2 => ?_) (fun c2 => ?_)
  · have h := o_pos c2 h
    refine e_iload_n hg dX11_breaks_18 rfl ?_
    refine e_iload_n hg dX11_breaks_19 rfl ?_
    refine e_icmpeq hg 43 dX11_breaks_20 (by decide) (fun c3 => ?_) (fun c3 => ?_)
    · have h := o_pos c3 h
      exact X11_breaks_b43_ok hg hr  h
    · have h := o_neg c3 h
      refine e_aload_n hg dX11_breaks_23 rfl ?_
      refine m_getR (q := 91) hg ciX11 12 lk_998 dX11_breaks_24 io_82 (Nat.le_of_ble_eq_true rfl) rfl rf_82_12 ?_
      refine e_iload_n hg dX11_breaks_27 rfl ?_
      obtain ⟨hi38, h⟩ := o_gd h
      refine m_iald hg sh_91 hi38 dX11_breaks_28 ?_
      refine e_iconst (v := 1) hg dX11_breaks_29 (by decide) ?_
      refine e_icmple hg 43 dX11_breaks_30 (by decide) (fun c39 => ?_) (fun c39 => ?_)
      · have h := o_pos c39 h
        refine e_aload_n hg dX11_breaks_33 rfl ?_
        refine m_getR (q := 91) hg ciX11 12 lk_998 dX11_breaks_34 io_82 (Nat.le_of_ble_eq_true rfl) rfl rf_82_12 ?_
        refine e_iload_n hg dX11_breaks_37 rfl ?_
        refine e_dup2 hg dX11_breaks_38 rfl rfl ?_
        obtain ⟨hi40, h⟩ := o_gd h
        refine m_iald hg sh_91 hi40 dX11_breaks_39 ?_
        refine e_iconst (v := 1) hg dX11_breaks_40 (by decide) ?_
        refine e_isub hg dX11_breaks_41 ?_
        obtain ⟨hi41, h⟩ := o_gd h
        obtain ⟨M42, hM42, h⟩ := o_lt h
        refine m_iast hg sh_91 hi41 dX11_breaks_42 ?_
        rw [← hM42]
        exact X11_breaks_b43_ok hg hr  h
      · have h := o_neg c39 h
        exact X11_breaks_b43_ok hg hr  h
  · have h := o_neg c2 h
    exact X11_breaks_b43_ok hg hr  h

def X11_goesYear_b29 (R2 : Int32 → mm → Option (Unit × mm)) (K35 : mm → Option (Unit × mm)) (x1 : Int32) (M : mm) : Option (Unit × mm) :=
  R2 (x1 + 1) M
set_option maxRecDepth 100000 in
set_option maxHeartbeats 4000000 in
theorem X11_goesYear_b29_ok {g : gx} (hg : EC g cX11_goesYear RX11 105) {r : Unit × mm} (hr : RT g (none) (0, 0) none (cells r.2)) {R2 : Int32 → mm → Option (Unit × mm)} (hR2 : ∀ (x1 : Int32) (o2 : Option Value) (M : mm), R2 x1 M = some r → E g (0, 0) 2 [some (.ref 82), some (.int x1), o2] [] (cells M)) {K35 : mm → Option (Unit × mm)} (hK35 : ∀ (o1 : Option Value) (o2 : Option Value) (M : mm), K35 M = some r → E g (0, 0) 35 [some (.ref 82), o1, o2] [] (cells M)) {x1 : Int32} {o2 : Option Value} {M : mm} (h : X11_goesYear_b29 R2 K35 x1 M = some r) : E g (0, 0) 29 [some (.ref 82), some (.int x1), o2] [] (cells M) := by
  unfold X11_goesYear_b29 at h
  refine e_iinc (v := (x1 + 1)) (ls' := [some (.ref 82), some (.int (x1 + 1)), o2]) hg dX11_goesYear_29 rfl rfl rfl ?_
  refine e_goto hg 2 dX11_goesYear_32 (by decide) ?_
  exact hR2 _ _ _ h

def X11_goesYear_L2 (K35 : mm → Option (Unit × mm)) : Nat → Int32 → mm → Option (Unit × mm)
  | 0, _, _ => none
  | n_ + 1, x1, M =>
    if x1 < (M.1 82 7) then
      bd (X11_mendsNow x1 M) fun v2 M3 =>
      if v2 = 0 then
        X11_goesYear_b29 (X11_goesYear_L2 K35 n_) K35 x1 M3
      else
        gd (inb x1 6) <|
        bd (X11_mended x1 (M3.1 90 x1.toNatClampNeg) M3) fun u7 M8 =>
        X11_goesYear_b29 (X11_goesYear_L2 K35 n_) K35 x1 M8
    else
      K35 M
set_option maxRecDepth 100000 in
set_option maxHeartbeats 4000000 in
theorem X11_goesYear_L2_ok {g : gx} (hg : EC g cX11_goesYear RX11 105) {r : Unit × mm} (hr : RT g (none) (0, 0) none (cells r.2)) {K35 : mm → Option (Unit × mm)} (hK35 : ∀ (o1 : Option Value) (o2 : Option Value) (M : mm), K35 M = some r → E g (0, 0) 35 [some (.ref 82), o1, o2] [] (cells M)) : ∀ (n_ : Nat) (x1 : Int32) (o2 : Option Value) (M : mm), X11_goesYear_L2 K35 n_ x1 M = some r → E g (0, 0) 2 [some (.ref 82), some (.int x1), o2] [] (cells M) := by
  intro n_
  induction n_ with
  | zero => intro x1 o2 M h; exact o_no h
  | succ n_ ih =>
    intro x1 o2 M h
    rw [X11_goesYear_L2] at h
    refine e_iload_n hg dX11_goesYear_2 rfl ?_
    refine e_aload_n hg dX11_goesYear_3 rfl ?_
    refine m_getI hg ciX11 7 lk_993 dX11_goesYear_4 io_82 (Nat.le_of_ble_eq_true rfl) rfl ?_
    refine e_icmpge hg 35 dX11_goesYear_7 (by decide) (fun c1 => ?_) (fun c1 => ?_)
    · have h := o_pos c1 h
      refine e_aload_n hg dX11_goesYear_10 rfl ?_
      refine e_iload_n hg dX11_goesYear_11 rfl ?_
      obtain ⟨v2, M3, hc4, h⟩ := o_bd h
      refine m_callVI (rest := []) (v := v2) (M' := M3) (ci := 11) hg mfX11_mendsNow mvX11_mendsNow (X11_mendsNow_ok (r := (v2, M3)) hc4) lk_1400 dX11_goesYear_12 io_82 rfl rfl rfl (by omega) (Nat.le_of_ble_eq_true rfl) ?_
      refine e_ifeq hg 29 dX11_goesYear_15 (by decide) (fun c5 => ?_) (fun c5 => ?_)
      · have h := o_pos c5 h
        exact X11_goesYear_b29_ok hg hr ih hK35 h
      · have h := o_neg c5 h
        refine e_aload_n hg dX11_goesYear_18 rfl ?_
        refine e_iload_n hg dX11_goesYear_19 rfl ?_
        refine e_aload_n hg dX11_goesYear_20 rfl ?_
        refine m_getR (q := 90) hg ciX11 11 lk_997 dX11_goesYear_21 io_82 (Nat.le_of_ble_eq_true rfl) rfl rf_82_11 ?_
        refine e_iload_n hg dX11_goesYear_24 rfl ?_
        obtain ⟨hi6, h⟩ := o_gd h
        refine m_iald hg sh_90 hi6 dX11_goesYear_25 ?_
        obtain ⟨u7, M8, hc9, h⟩ := o_bd h
        refine m_callVV (rest := []) (M' := M8) (ci := 11) hg mfX11_mended mvX11_mended (X11_mended_ok (r := (u7, M8)) hc9) lk_1383 dX11_goesYear_26 io_82 rfl rfl rfl (by omega) (Nat.le_of_ble_eq_true rfl) ?_
        exact X11_goesYear_b29_ok hg hr ih hK35 h
    · have h := o_neg c1 h
      exact hK35 _ _ _ h

def X11_goesYear_b119 (R37 : Int32 → mm → Option (Unit × mm)) (K127 : mm → Option (Unit × mm)) (x1 : Int32) (s1 : Int32) (s2 : Int32) (s3 : Int32) (M : mm) : Option (Unit × mm) :=
  gd (inb s1 6) <|
  lt_ (sA M 91 (upd (M.1 91) s1.toNatClampNeg (s2 - s3))) fun M22 =>
  R37 (x1 + 1) M22
set_option maxRecDepth 100000 in
set_option maxHeartbeats 4000000 in
theorem X11_goesYear_b119_ok {g : gx} (hg : EC g cX11_goesYear RX11 105) {r : Unit × mm} (hr : RT g (none) (0, 0) none (cells r.2)) {R37 : Int32 → mm → Option (Unit × mm)} (hR37 : ∀ (x1 : Int32) (o2 : Option Value) (M : mm), R37 x1 M = some r → E g (0, 0) 37 [some (.ref 82), some (.int x1), o2] [] (cells M)) {K127 : mm → Option (Unit × mm)} (hK127 : ∀ (o1 : Option Value) (o2 : Option Value) (M : mm), K127 M = some r → E g (0, 0) 127 [some (.ref 82), o1, o2] [] (cells M)) {x1 : Int32} {s1 : Int32} {s2 : Int32} {s3 : Int32} {o2 : Option Value} {M : mm} (h : X11_goesYear_b119 R37 K127 x1 s1 s2 s3 M = some r) : E g (0, 0) 119 [some (.ref 82), some (.int x1), o2] [.int s3, .int s2, .int s1, .ref 91] (cells M) := by
  unfold X11_goesYear_b119 at h
  refine e_isub hg dX11_goesYear_119 ?_
  obtain ⟨hi21, h⟩ := o_gd h
  obtain ⟨M22, hM22, h⟩ := o_lt h
  refine m_iast hg sh_91 hi21 dX11_goesYear_120 ?_
  rw [← hM22]
  refine e_iinc (v := (x1 + 1)) (ls' := [some (.ref 82), some (.int (x1 + 1)), o2]) hg dX11_goesYear_121 rfl rfl rfl ?_
  refine e_goto hg 37 dX11_goesYear_124 (by decide) ?_
  exact hR37 _ _ _ h

def X11_goesYear_b89 (R37 : Int32 → mm → Option (Unit × mm)) (K127 : mm → Option (Unit × mm)) (x1 : Int32) (s1 : Int32) (s2 : Int32) (s3 : Int32) (s4 : Int32) (M : mm) : Option (Unit × mm) :=
  bd (X11_numberOf s1 s2 s3 s4 M) fun v16 M17 =>
  gd (inb x1 6) <|
  X11_goesYear_b119 R37 K127 x1 x1 (M17.1 91 x1.toNatClampNeg) (if (((M17.1 82 43).toUInt32 >>> ((8 : Int32).toUInt32 &&& Int32.toUInt32 31)).toInt32 - ((M17.1 82 43).toUInt32 >>> ((8 : Int32).toUInt32 &&& Int32.toUInt32 31)).toInt32 / 12 * 12) < v16 then 1 else 0) M17
set_option maxRecDepth 100000 in
set_option maxHeartbeats 4000000 in
theorem X11_goesYear_b89_ok {g : gx} (hg : EC g cX11_goesYear RX11 105) {r : Unit × mm} (hr : RT g (none) (0, 0) none (cells r.2)) {R37 : Int32 → mm → Option (Unit × mm)} (hR37 : ∀ (x1 : Int32) (o2 : Option Value) (M : mm), R37 x1 M = some r → E g (0, 0) 37 [some (.ref 82), some (.int x1), o2] [] (cells M)) {K127 : mm → Option (Unit × mm)} (hK127 : ∀ (o1 : Option Value) (o2 : Option Value) (M : mm), K127 M = some r → E g (0, 0) 127 [some (.ref 82), o1, o2] [] (cells M)) {x1 : Int32} {s1 : Int32} {s2 : Int32} {s3 : Int32} {s4 : Int32} {o2 : Option Value} {M : mm} (h : X11_goesYear_b89 R37 K127 x1 s1 s2 s3 s4 M = some r) : E g (0, 0) 89 [some (.ref 82), some (.int x1), o2] [.int s4, .int s3, .int s2, .int s1, .ref 82] (cells M) := by
  unfold X11_goesYear_b89 at h
  obtain ⟨v16, M17, hc18, h⟩ := o_bd h
  refine m_callVI (rest := []) (v := v16) (M' := M17) (ci := 11) hg mfX11_numberOf mvX11_numberOf (X11_numberOf_ok (r := (v16, M17)) hc18) lk_1252 dX11_goesYear_89 io_82 rfl rfl rfl (by omega) (Nat.le_of_ble_eq_true rfl) ?_
  refine e_istore_n (ls' := [some (.ref 82), some (.int x1), some (.int v16)]) hg dX11_goesYear_92 rfl ?_
  refine e_aload_n hg dX11_goesYear_93 rfl ?_
  refine m_getR (q := 91) hg ciX11 12 lk_998 dX11_goesYear_94 io_82 (Nat.le_of_ble_eq_true rfl) rfl rf_82_12 ?_
  refine e_iload_n hg dX11_goesYear_97 rfl ?_
  refine e_dup2 hg dX11_goesYear_98 rfl rfl ?_
  obtain ⟨hi19, h⟩ := o_gd h
  refine m_iald hg sh_91 hi19 dX11_goesYear_99 ?_
  refine e_aload_n hg dX11_goesYear_100 rfl ?_
  refine m_getI hg ciX11 43 lk_1029 dX11_goesYear_101 io_82 (Nat.le_of_ble_eq_true rfl) rfl ?_
  refine e_bipush (v := 8) hg dX11_goesYear_104 (by decide) ?_
  refine e_iushr hg dX11_goesYear_106 ?_
  refine e_bipush (v := 12) hg dX11_goesYear_107 (by decide) ?_
  refine e_irem hg dX11_goesYear_109 (by decide) ?_
  refine e_iload_n hg dX11_goesYear_110 rfl ?_
  refine e_icmpge hg 118 dX11_goesYear_111 (by decide) (fun c20 => ?_) (fun c20 => ?_)
  · simp only [if_pos c20] at h
    refine e_iconst (v := 1) hg dX11_goesYear_114 (by decide) ?_
    refine e_goto hg 119 dX11_goesYear_115 (by decide) ?_
    exact X11_goesYear_b119_ok hg hr hR37 hK127 h
  · simp only [if_neg c20] at h
    refine e_iconst (v := 0) hg dX11_goesYear_118 (by decide) ?_
    exact X11_goesYear_b119_ok hg hr hR37 hK127 h

def X11_goesYear_L37 (K127 : mm → Option (Unit × mm)) : Nat → Int32 → mm → Option (Unit × mm)
  | 0, _, _ => none
  | n_ + 1, x1, M =>
    if x1 < (M.1 82 7) then
      lt_ (sA M 82 (upd (M.1 82) 43 (((M.1 82 43) * 1103515245) + 12345))) fun M11 =>
      gd (inb x1 6) <|
      gd (inb x1 6) <|
      gd (inb x1 6) <|
      X11_goesYear_b89 (X11_goesYear_L37 K127 n_) K127 x1 (M11.1 91 x1.toNatClampNeg) x1 (M11.1 94 x1.toNatClampNeg) (if (M11.1 92 x1.toNatClampNeg) < 0 then 0 else 1) M11
    else
      K127 M
set_option maxRecDepth 100000 in
set_option maxHeartbeats 4000000 in
theorem X11_goesYear_L37_ok {g : gx} (hg : EC g cX11_goesYear RX11 105) {r : Unit × mm} (hr : RT g (none) (0, 0) none (cells r.2)) {K127 : mm → Option (Unit × mm)} (hK127 : ∀ (o1 : Option Value) (o2 : Option Value) (M : mm), K127 M = some r → E g (0, 0) 127 [some (.ref 82), o1, o2] [] (cells M)) : ∀ (n_ : Nat) (x1 : Int32) (o2 : Option Value) (M : mm), X11_goesYear_L37 K127 n_ x1 M = some r → E g (0, 0) 37 [some (.ref 82), some (.int x1), o2] [] (cells M) := by
  intro n_
  induction n_ with
  | zero => intro x1 o2 M h; exact o_no h
  | succ n_ ih =>
    intro x1 o2 M h
    rw [X11_goesYear_L37] at h
    refine e_iload_n hg dX11_goesYear_37 rfl ?_
    refine e_aload_n hg dX11_goesYear_38 rfl ?_
    refine m_getI hg ciX11 7 lk_993 dX11_goesYear_39 io_82 (Nat.le_of_ble_eq_true rfl) rfl ?_
    refine e_icmpge hg 127 dX11_goesYear_42 (by decide) (fun c10 => ?_) (fun c10 => ?_)
    · have h := o_pos c10 h
      refine e_aload_n hg dX11_goesYear_45 rfl ?_
      refine e_aload_n hg dX11_goesYear_46 rfl ?_
      refine m_getI hg ciX11 43 lk_1029 dX11_goesYear_47 io_82 (Nat.le_of_ble_eq_true rfl) rfl ?_
      refine e_ldc_w hg dX11_goesYear_50 lk_1404 ?_
      refine e_imul hg dX11_goesYear_53 ?_
      refine e_sipush (v := 12345) hg dX11_goesYear_54 (by decide) ?_
      refine e_iadd hg dX11_goesYear_57 ?_
      obtain ⟨M11, hM11, h⟩ := o_lt h
      refine m_putI hg ciX11 43 lk_1029 dX11_goesYear_58 io_82 (Nat.le_of_ble_eq_true rfl) rfl rfl rfl rfl ?_
      rw [← hM11]
      refine e_aload_n hg dX11_goesYear_61 rfl ?_
      refine e_aload_n hg dX11_goesYear_62 rfl ?_
      refine m_getR (q := 91) hg ciX11 12 lk_998 dX11_goesYear_63 io_82 (Nat.le_of_ble_eq_true rfl) rfl rf_82_12 ?_
      refine e_iload_n hg dX11_goesYear_66 rfl ?_
      obtain ⟨hi12, h⟩ := o_gd h
      refine m_iald hg sh_91 hi12 dX11_goesYear_67 ?_
      refine e_iload_n hg dX11_goesYear_68 rfl ?_
      refine e_aload_n hg dX11_goesYear_69 rfl ?_
      refine m_getR (q := 94) hg ciX11 15 lk_1001 dX11_goesYear_70 io_82 (Nat.le_of_ble_eq_true rfl) rfl rf_82_15 ?_
      refine e_iload_n hg dX11_goesYear_73 rfl ?_
      obtain ⟨hi13, h⟩ := o_gd h
      refine m_iald hg sh_94 hi13 dX11_goesYear_74 ?_
      refine e_aload_n hg dX11_goesYear_75 rfl ?_
      refine m_getR (q := 92) hg ciX11 13 lk_999 dX11_goesYear_76 io_82 (Nat.le_of_ble_eq_true rfl) rfl rf_82_13 ?_
      refine e_iload_n hg dX11_goesYear_79 rfl ?_
      obtain ⟨hi14, h⟩ := o_gd h
      refine m_iald hg sh_92 hi14 dX11_goesYear_80 ?_
      refine e_iflt hg 88 dX11_goesYear_81 (by decide) (fun c15 => ?_) (fun c15 => ?_)
      · simp only [if_pos c15] at h
        refine e_iconst (v := 0) hg dX11_goesYear_88 (by decide) ?_
        exact X11_goesYear_b89_ok hg hr ih hK127 h
      · simp only [if_neg c15] at h
        refine e_iconst (v := 1) hg dX11_goesYear_84 (by decide) ?_
        refine e_goto hg 89 dX11_goesYear_85 (by decide) ?_
        exact X11_goesYear_b89_ok hg hr ih hK127 h
    · have h := o_neg c10 h
      exact hK127 _ _ _ h

def X11_goesYear_b210 (R129 : Int32 → mm → Option (Unit × mm)) (x1 : Int32) (M : mm) : Option (Unit × mm) :=
  R129 (x1 + 1) M
set_option maxRecDepth 100000 in
set_option maxHeartbeats 4000000 in
theorem X11_goesYear_b210_ok {g : gx} (hg : EC g cX11_goesYear RX11 105) {r : Unit × mm} (hr : RT g (none) (0, 0) none (cells r.2)) {R129 : Int32 → mm → Option (Unit × mm)} (hR129 : ∀ (x1 : Int32) (o2 : Option Value) (M : mm), R129 x1 M = some r → E g (0, 0) 129 [some (.ref 82), some (.int x1), o2] [] (cells M)) {x1 : Int32} {o2 : Option Value} {M : mm} (h : X11_goesYear_b210 R129 x1 M = some r) : E g (0, 0) 210 [some (.ref 82), some (.int x1), o2] [] (cells M) := by
  unfold X11_goesYear_b210 at h
  refine e_iinc (v := (x1 + 1)) (ls' := [some (.ref 82), some (.int (x1 + 1)), o2]) hg dX11_goesYear_210 rfl rfl rfl ?_
  refine e_goto hg 129 dX11_goesYear_213 (by decide) ?_
  exact hR129 _ _ _ h

def X11_goesYear_b208 (R129 : Int32 → mm → Option (Unit × mm)) (x1 : Int32) (s1 : Int32) (s2 : Int32) (s3 : Int32) (M : mm) : Option (Unit × mm) :=
  gd (inb s1 6) <|
  lt_ (sA M 94 (upd (M.1 94) s1.toNatClampNeg (s2 + s3))) fun M40 =>
  X11_goesYear_b210 R129 x1 M40
set_option maxRecDepth 100000 in
set_option maxHeartbeats 4000000 in
theorem X11_goesYear_b208_ok {g : gx} (hg : EC g cX11_goesYear RX11 105) {r : Unit × mm} (hr : RT g (none) (0, 0) none (cells r.2)) {R129 : Int32 → mm → Option (Unit × mm)} (hR129 : ∀ (x1 : Int32) (o2 : Option Value) (M : mm), R129 x1 M = some r → E g (0, 0) 129 [some (.ref 82), some (.int x1), o2] [] (cells M)) {x1 : Int32} {s1 : Int32} {s2 : Int32} {s3 : Int32} {o2 : Option Value} {M : mm} (h : X11_goesYear_b208 R129 x1 s1 s2 s3 M = some r) : E g (0, 0) 208 [some (.ref 82), some (.int x1), o2] [.int s3, .int s2, .int s1, .ref 94] (cells M) := by
  unfold X11_goesYear_b208 at h
  refine e_iadd hg dX11_goesYear_208 ?_
  obtain ⟨hi39, h⟩ := o_gd h
  obtain ⟨M40, hM40, h⟩ := o_lt h
  refine m_iast hg sh_94 hi39 dX11_goesYear_209 ?_
  rw [← hM40]
  exact X11_goesYear_b210_ok hg hr hR129 h

def X11_goesYear_L129 : Nat → Int32 → mm → Option (Unit × mm)
  | 0, _, _ => none
  | n_ + 1, x1, M =>
    if x1 < (M.1 82 7) then
      gd (inb x1 6) <|
      if (M.1 91 x1.toNatClampNeg) = 0 then
        bd (X11_breaks x1 M) fun u26 M27 =>
        X11_goesYear_b210 (X11_goesYear_L129 n_) x1 M27
      else
        gd (inb x1 6) <|
        lt_ (sA M 97 (upd (M.1 97) x1.toNatClampNeg (-2))) fun M30 =>
        gd (inb x1 6) <|
        gd (inb (M30.1 90 x1.toNatClampNeg) 5) <|
        gd (inb (15 + x1) 33) <|
        gd (inb (M30.1 90 x1.toNatClampNeg) 5) <|
        lt_ (sA M30 87 (upd (M30.1 87) (M30.1 90 x1.toNatClampNeg).toNatClampNeg ((M30.1 87 (M30.1 90 x1.toNatClampNeg).toNatClampNeg) + (M30.1 83 (15 + x1).toNatClampNeg)))) fun M35 =>
        gd (inb x1 6) <|
        gd (inb x1 6) <|
        X11_goesYear_b208 (X11_goesYear_L129 n_) x1 x1 (M35.1 94 x1.toNatClampNeg) (if (M35.1 94 x1.toNatClampNeg) < 99 then 1 else 0) M35
    else
      some ((), M)
set_option maxRecDepth 100000 in
set_option maxHeartbeats 4000000 in
theorem X11_goesYear_L129_ok {g : gx} (hg : EC g cX11_goesYear RX11 105) {r : Unit × mm} (hr : RT g (none) (0, 0) none (cells r.2)) : ∀ (n_ : Nat) (x1 : Int32) (o2 : Option Value) (M : mm), X11_goesYear_L129 n_ x1 M = some r → E g (0, 0) 129 [some (.ref 82), some (.int x1), o2] [] (cells M) := by
  intro n_
  induction n_ with
  | zero => intro x1 o2 M h; exact o_no h
  | succ n_ ih =>
    intro x1 o2 M h
    rw [X11_goesYear_L129] at h
    refine e_iload_n hg dX11_goesYear_129 rfl ?_
    refine e_aload_n hg dX11_goesYear_130 rfl ?_
    refine m_getI hg ciX11 7 lk_993 dX11_goesYear_131 io_82 (Nat.le_of_ble_eq_true rfl) rfl ?_
    refine e_icmpge hg 216 dX11_goesYear_134 (by decide) (fun c23 => ?_) (fun c23 => ?_)
    · have h := o_pos c23 h
      refine e_aload_n hg dX11_goesYear_137 rfl ?_
      refine m_getR (q := 91) hg ciX11 12 lk_998 dX11_goesYear_138 io_82 (Nat.le_of_ble_eq_true rfl) rfl rf_82_12 ?_
      refine e_iload_n hg dX11_goesYear_141 rfl ?_
      obtain ⟨hi24, h⟩ := o_gd h
      refine m_iald hg sh_91 hi24 dX11_goesYear_142 ?_
      refine e_ifne hg 154 dX11_goesYear_143 (by decide) (fun c25 => ?_) (fun c25 => ?_)
      · have h := o_pos c25 h
        refine e_aload_n hg dX11_goesYear_146 rfl ?_
        refine e_iload_n hg dX11_goesYear_147 rfl ?_
        obtain ⟨u26, M27, hc28, h⟩ := o_bd h
        refine m_callVV (rest := []) (M' := M27) (ci := 11) hg mfX11_breaks mvX11_breaks (X11_breaks_ok (r := (u26, M27)) hc28) lk_1405 dX11_goesYear_148 io_82 rfl rfl rfl (by omega) (Nat.le_of_ble_eq_true rfl) ?_
        refine e_goto hg 210 dX11_goesYear_151 (by decide) ?_
        exact X11_goesYear_b210_ok hg hr ih h
      · have h := o_neg c25 h
        refine e_aload_n hg dX11_goesYear_154 rfl ?_
        refine m_getR (q := 97) hg ciX11 18 lk_1004 dX11_goesYear_155 io_82 (Nat.le_of_ble_eq_true rfl) rfl rf_82_18 ?_
        refine e_iload_n hg dX11_goesYear_158 rfl ?_
        refine e_bipush (v := -2) hg dX11_goesYear_159 (by decide) ?_
        obtain ⟨hi29, h⟩ := o_gd h
        obtain ⟨M30, hM30, h⟩ := o_lt h
        refine m_iast hg sh_97 hi29 dX11_goesYear_161 ?_
        rw [← hM30]
        refine e_aload_n hg dX11_goesYear_162 rfl ?_
        refine m_getR (q := 87) hg ciX11 8 lk_994 dX11_goesYear_163 io_82 (Nat.le_of_ble_eq_true rfl) rfl rf_82_8 ?_
        refine e_aload_n hg dX11_goesYear_166 rfl ?_
        refine m_getR (q := 90) hg ciX11 11 lk_997 dX11_goesYear_167 io_82 (Nat.le_of_ble_eq_true rfl) rfl rf_82_11 ?_
        refine e_iload_n hg dX11_goesYear_170 rfl ?_
        obtain ⟨hi31, h⟩ := o_gd h
        refine m_iald hg sh_90 hi31 dX11_goesYear_171 ?_
        refine e_dup2 hg dX11_goesYear_172 rfl rfl ?_
        obtain ⟨hi32, h⟩ := o_gd h
        refine m_iald hg sh_87 hi32 dX11_goesYear_173 ?_
        refine e_aload_n hg dX11_goesYear_174 rfl ?_
        refine m_getR (q := 83) hg ciX11 0 lk_986 dX11_goesYear_175 io_82 (Nat.le_of_ble_eq_true rfl) rfl rf_82_0 ?_
        refine e_bipush (v := 15) hg dX11_goesYear_178 (by decide) ?_
        refine e_iload_n hg dX11_goesYear_180 rfl ?_
        refine e_iadd hg dX11_goesYear_181 ?_
        obtain ⟨hi33, h⟩ := o_gd h
        refine m_iald hg sh_83 hi33 dX11_goesYear_182 ?_
        refine e_iadd hg dX11_goesYear_183 ?_
        obtain ⟨hi34, h⟩ := o_gd h
        obtain ⟨M35, hM35, h⟩ := o_lt h
        refine m_iast hg sh_87 hi34 dX11_goesYear_184 ?_
        rw [← hM35]
        refine e_aload_n hg dX11_goesYear_185 rfl ?_
        refine m_getR (q := 94) hg ciX11 15 lk_1001 dX11_goesYear_186 io_82 (Nat.le_of_ble_eq_true rfl) rfl rf_82_15 ?_
        refine e_iload_n hg dX11_goesYear_189 rfl ?_
        refine e_dup2 hg dX11_goesYear_190 rfl rfl ?_
        obtain ⟨hi36, h⟩ := o_gd h
        refine m_iald hg sh_94 hi36 dX11_goesYear_191 ?_
        refine e_aload_n hg dX11_goesYear_192 rfl ?_
        refine m_getR (q := 94) hg ciX11 15 lk_1001 dX11_goesYear_193 io_82 (Nat.le_of_ble_eq_true rfl) rfl rf_82_15 ?_
        refine e_iload_n hg dX11_goesYear_196 rfl ?_
        obtain ⟨hi37, h⟩ := o_gd h
        refine m_iald hg sh_94 hi37 dX11_goesYear_197 ?_
        refine e_bipush (v := 99) hg dX11_goesYear_198 (by decide) ?_
        refine e_icmpge hg 207 dX11_goesYear_200 (by decide) (fun c38 => ?_) (fun c38 => ?_)
        · simp only [if_pos c38] at h
          refine e_iconst (v := 1) hg dX11_goesYear_203 (by decide) ?_
          refine e_goto hg 208 dX11_goesYear_204 (by decide) ?_
          exact X11_goesYear_b208_ok hg hr ih h
        · simp only [if_neg c38] at h
          refine e_iconst (v := 0) hg dX11_goesYear_207 (by decide) ?_
          exact X11_goesYear_b208_ok hg hr ih h
    · have h := o_neg c23 h
      exact m_vret hg hr dX11_goesYear_216 h

def X11_goesYear  (M : mm) : Option (Unit × mm) :=
  X11_goesYear_L2 (fun M =>
      X11_goesYear_L37 (fun M =>
          X11_goesYear_L129 10000 0 M) 10000 0 M) 10000 0 M
set_option maxRecDepth 100000 in
set_option maxHeartbeats 4000000 in
theorem X11_goesYear_ok  {M : mm} {r : Unit × mm} (h : X11_goesYear  M = some r) : CM yX11_goesYear cX11_goesYear 3 (none) 105 [.ref 82] (cells M) none (cells r.2) := by
  refine cm_of (ls := [some (.ref 82), none, none]) mfX11_goesYear rfl (Nat.le_of_ble_eq_true rfl) (fun g hg hr => ?_)
  unfold X11_goesYear at h
  refine e_iconst (v := 0) hg dX11_goesYear_0 (by decide) ?_
  refine e_istore_n (ls' := [some (.ref 82), some (.int 0), none]) hg dX11_goesYear_1 rfl ?_
  refine X11_goesYear_L2_ok hg hr (fun o1 o2 M h => ?_) 10000 _ _ _ h
  refine e_iconst (v := 0) hg dX11_goesYear_35 (by decide) ?_
  refine e_istore_n (ls' := [some (.ref 82), some (.int 0), o2]) hg dX11_goesYear_36 rfl ?_
  refine X11_goesYear_L37_ok hg hr (fun o1 o2 M h => ?_) 10000 _ _ _ h
  refine e_iconst (v := 0) hg dX11_goesYear_127 (by decide) ?_
  refine e_istore_n (ls' := [some (.ref 82), some (.int 0), o2]) hg dX11_goesYear_128 rfl ?_
  exact X11_goesYear_L129_ok hg hr  10000 _ _ _ h

def X11_fix (a1 : Int32) (M : mm) : Option (Int32 × mm) :=
  if a1 < 0 then
    some ((-1), M)
  else
    bd (X11_isThing (a1 / 10) M) fun v2 M3 =>
    if v2 = 0 then
      some ((-1), M3)
    else
      bd (X11_isPerson (a1 - a1 / 10 * 10) M3) fun v6 M7 =>
      if v6 = 0 then
        some ((-1), M7)
      else
        bd (X11_mended (a1 / 10) (a1 - a1 / 10 * 10) M7) fun u10 M11 =>
        gd (inb (a1 / 10) 6) <|
        some ((M11.1 91 (a1 / 10).toNatClampNeg), M11)
set_option maxRecDepth 100000 in
set_option maxHeartbeats 4000000 in
theorem X11_fix_ok {a1 : Int32} {M : mm} {r : Int32 × mm} (h : X11_fix a1 M = some r) : CM yX11_fix cX11_fix 2 (some .int) 2 [.ref 82, .int a1] (cells M) (some (.int r.1)) (cells r.2) := by
  refine cm_of (ls := [some (.ref 82), some (.int a1)]) mfX11_fix rfl (Nat.le_of_ble_eq_true rfl) (fun g hg hr => ?_)
  unfold X11_fix at h
  refine e_iload_n hg dX11_fix_0 rfl ?_
  refine e_iflt hg 26 dX11_fix_1 (by decide) (fun c1 => ?_) (fun c1 => ?_)
  · have h := o_pos c1 h
    refine e_iconst (v := -1) hg dX11_fix_26 (by decide) ?_
    exact m_iret hg hr dX11_fix_27 h
  · have h := o_neg c1 h
    refine e_aload_n hg dX11_fix_4 rfl ?_
    refine e_iload_n hg dX11_fix_5 rfl ?_
    refine e_bipush (v := 10) hg dX11_fix_6 (by decide) ?_
    refine e_idiv hg dX11_fix_8 (by decide) ?_
    obtain ⟨v2, M3, hc4, h⟩ := o_bd h
    refine m_callVI (rest := []) (v := v2) (M' := M3) (ci := 11) hg mfX11_isThing mvX11_isThing (X11_isThing_ok (r := (v2, M3)) hc4) lk_1233 dX11_fix_9 io_82 rfl rfl rfl (by omega) (Nat.le_of_ble_eq_true rfl) ?_
    refine e_ifeq hg 26 dX11_fix_12 (by decide) (fun c5 => ?_) (fun c5 => ?_)
    · have h := o_pos c5 h
      refine e_iconst (v := -1) hg dX11_fix_26 (by decide) ?_
      exact m_iret hg hr dX11_fix_27 h
    · have h := o_neg c5 h
      refine e_aload_n hg dX11_fix_15 rfl ?_
      refine e_iload_n hg dX11_fix_16 rfl ?_
      refine e_bipush (v := 10) hg dX11_fix_17 (by decide) ?_
      refine e_irem hg dX11_fix_19 (by decide) ?_
      obtain ⟨v6, M7, hc8, h⟩ := o_bd h
      refine m_callVI (rest := []) (v := v6) (M' := M7) (ci := 11) hg mfX11_isPerson mvX11_isPerson (X11_isPerson_ok (r := (v6, M7)) hc8) lk_1224 dX11_fix_20 io_82 rfl rfl rfl (by omega) (Nat.le_of_ble_eq_true rfl) ?_
      refine e_ifne hg 28 dX11_fix_23 (by decide) (fun c9 => ?_) (fun c9 => ?_)
      · have h := o_pos c9 h
        refine e_iconst (v := -1) hg dX11_fix_26 (by decide) ?_
        exact m_iret hg hr dX11_fix_27 h
      · have h := o_neg c9 h
        refine e_aload_n hg dX11_fix_28 rfl ?_
        refine e_iload_n hg dX11_fix_29 rfl ?_
        refine e_bipush (v := 10) hg dX11_fix_30 (by decide) ?_
        refine e_idiv hg dX11_fix_32 (by decide) ?_
        refine e_iload_n hg dX11_fix_33 rfl ?_
        refine e_bipush (v := 10) hg dX11_fix_34 (by decide) ?_
        refine e_irem hg dX11_fix_36 (by decide) ?_
        obtain ⟨u10, M11, hc12, h⟩ := o_bd h
        refine m_callVV (rest := []) (M' := M11) (ci := 11) hg mfX11_mended mvX11_mended (X11_mended_ok (r := (u10, M11)) hc12) lk_1383 dX11_fix_37 io_82 rfl rfl rfl (by omega) (Nat.le_of_ble_eq_true rfl) ?_
        refine e_aload_n hg dX11_fix_40 rfl ?_
        refine m_getR (q := 91) hg ciX11 12 lk_998 dX11_fix_41 io_82 (Nat.le_of_ble_eq_true rfl) rfl rf_82_12 ?_
        refine e_iload_n hg dX11_fix_44 rfl ?_
        refine e_bipush (v := 10) hg dX11_fix_45 (by decide) ?_
        refine e_idiv hg dX11_fix_47 (by decide) ?_
        obtain ⟨hi13, h⟩ := o_gd h
        refine m_iald hg sh_91 hi13 dX11_fix_48 ?_
        exact m_iret hg hr dX11_fix_49 h

def X11_years_L30 (a1 : Int32) (a2 : Int32) (K45 : mm → Option (Int32 × mm)) : Nat → Int32 → mm → Option (Int32 × mm)
  | 0, _, _ => none
  | n_ + 1, x3, M =>
    if x3 < a2 then
      bd (X11_goesYear M) fun u11 M12 =>
      (X11_years_L30 a1 a2 K45 n_) (x3 + 1) M12
    else
      K45 M
set_option maxRecDepth 100000 in
set_option maxHeartbeats 4000000 in
theorem X11_years_L30_ok {g : gx} (hg : EC g cX11_years RX11 107) {a1 : Int32} {a2 : Int32} {r : Int32 × mm} (hr : RT g (some .int) (0, 0) (some (.int r.1)) (cells r.2)) {K45 : mm → Option (Int32 × mm)} (hK45 : ∀ (o3 : Option Value) (M : mm), K45 M = some r → E g (0, 0) 45 [some (.ref 82), some (.int a1), some (.int a2), o3] [] (cells M)) : ∀ (n_ : Nat) (x3 : Int32) (M : mm), X11_years_L30 a1 a2 K45 n_ x3 M = some r → E g (0, 0) 30 [some (.ref 82), some (.int a1), some (.int a2), some (.int x3)] [] (cells M) := by
  intro n_
  induction n_ with
  | zero => intro x3 M h; exact o_no h
  | succ n_ ih =>
    intro x3 M h
    rw [X11_years_L30] at h
    refine e_iload_n hg dX11_years_30 rfl ?_
    refine e_iload_n hg dX11_years_31 rfl ?_
    refine e_icmpge hg 45 dX11_years_32 (by decide) (fun c10 => ?_) (fun c10 => ?_)
    · have h := o_pos c10 h
      refine e_aload_n hg dX11_years_35 rfl ?_
      obtain ⟨u11, M12, hc13, h⟩ := o_bd h
      refine m_callVV (rest := []) (M' := M12) (ci := 11) hg mfX11_goesYear mvX11_goesYear (X11_goesYear_ok (r := (u11, M12)) hc13) lk_1396 dX11_years_36 io_82 rfl rfl rfl (by omega) (Nat.le_of_ble_eq_true rfl) ?_
      refine e_iinc (v := (x3 + 1)) (ls' := [some (.ref 82), some (.int a1), some (.int a2), some (.int (x3 + 1))]) hg dX11_years_39 rfl rfl rfl ?_
      refine e_goto hg 30 dX11_years_42 (by decide) ?_
      exact ih _ _ h
    · have h := o_neg c10 h
      exact hK45 _ _ h

def X11_years (a1 : Int32) (a2 : Int32) (M : mm) : Option (Int32 × mm) :=
  bd (X11_within (a2.toInt64) 1 30 M) fun v1 M2 =>
  if v1 = 0 then
    some ((-1), M2)
  else
    bd (X11_asksBest M2) fun u5 M6 =>
    lt_ (sA M6 82 (upd (M6.1 82) 43 a1)) fun M8 =>
    lt_ (sA M8 82 (upd (M8.1 82) 44 0)) fun M9 =>
    X11_years_L30 a1 a2 (fun M =>
        lt_ (sA M 82 (upd (M.1 82) 22 ((M.1 82 22) + (M.1 82 44)))) fun M14 =>
        lt_ (sA M14 82 (upd (M14.1 82) 21 ((M14.1 82 21) + ((a2 * (M14.1 82 7)) - (M14.1 82 44))))) fun M15 =>
        some ((M15.1 82 44), M15)) 10000 0 M9
set_option maxRecDepth 100000 in
set_option maxHeartbeats 4000000 in
theorem X11_years_ok {a1 : Int32} {a2 : Int32} {M : mm} {r : Int32 × mm} (h : X11_years a1 a2 M = some r) : CM yX11_years cX11_years 4 (some .int) 107 [.ref 82, .int a1, .int a2] (cells M) (some (.int r.1)) (cells r.2) := by
  refine cm_of (ls := [some (.ref 82), some (.int a1), some (.int a2), none]) mfX11_years rfl (Nat.le_of_ble_eq_true rfl) (fun g hg hr => ?_)
  unfold X11_years at h
  refine e_iload_n hg dX11_years_0 rfl ?_
  refine e_i2l hg dX11_years_1 ?_
  refine e_lconst (v := 1) hg dX11_years_2 (by decide) ?_
  refine e_ldc2 hg dX11_years_3 lk_1391 ?_
  obtain ⟨v1, M2, hc3, h⟩ := o_bd h
  refine m_callSI (rest := []) (v := v1) (M' := M2) hg mfX11_within mvX11_within (X11_within_ok (r := (v1, M2)) hc3) lk_1190 dX11_years_6 rfl rfl (by omega) (Nat.le_of_ble_eq_true rfl) ?_
  refine e_ifne hg 14 dX11_years_9 (by decide) (fun c4 => ?_) (fun c4 => ?_)
  · have h := o_pos c4 h
    refine e_iconst (v := -1) hg dX11_years_12 (by decide) ?_
    exact m_iret hg hr dX11_years_13 h
  · have h := o_neg c4 h
    refine e_aload_n hg dX11_years_14 rfl ?_
    obtain ⟨u5, M6, hc7, h⟩ := o_bd h
    refine m_callVV (rest := []) (M' := M6) (ci := 11) hg mfX11_asksBest mvX11_asksBest (X11_asksBest_ok (r := (u5, M6)) hc7) lk_1392 dX11_years_15 io_82 rfl rfl rfl (by omega) (Nat.le_of_ble_eq_true rfl) ?_
    refine e_aload_n hg dX11_years_18 rfl ?_
    refine e_iload_n hg dX11_years_19 rfl ?_
    obtain ⟨M8, hM8, h⟩ := o_lt h
    refine m_putI hg ciX11 43 lk_1029 dX11_years_20 io_82 (Nat.le_of_ble_eq_true rfl) rfl rfl rfl rfl ?_
    rw [← hM8]
    refine e_aload_n hg dX11_years_23 rfl ?_
    refine e_iconst (v := 0) hg dX11_years_24 (by decide) ?_
    obtain ⟨M9, hM9, h⟩ := o_lt h
    refine m_putI hg ciX11 44 lk_1030 dX11_years_25 io_82 (Nat.le_of_ble_eq_true rfl) rfl rfl rfl rfl ?_
    rw [← hM9]
    refine e_iconst (v := 0) hg dX11_years_28 (by decide) ?_
    refine e_istore_n (ls' := [some (.ref 82), some (.int a1), some (.int a2), some (.int 0)]) hg dX11_years_29 rfl ?_
    refine X11_years_L30_ok hg hr (fun o3 M h => ?_) 10000 _ _ h
    refine e_aload_n hg dX11_years_45 rfl ?_
    refine e_dup hg dX11_years_46 rfl ?_
    refine m_getI hg ciX11 22 lk_1008 dX11_years_47 io_82 (Nat.le_of_ble_eq_true rfl) rfl ?_
    refine e_aload_n hg dX11_years_50 rfl ?_
    refine m_getI hg ciX11 44 lk_1030 dX11_years_51 io_82 (Nat.le_of_ble_eq_true rfl) rfl ?_
    refine e_iadd hg dX11_years_54 ?_
    obtain ⟨M14, hM14, h⟩ := o_lt h
    refine m_putI hg ciX11 22 lk_1008 dX11_years_55 io_82 (Nat.le_of_ble_eq_true rfl) rfl rfl rfl rfl ?_
    rw [← hM14]
    refine e_aload_n hg dX11_years_58 rfl ?_
    refine e_dup hg dX11_years_59 rfl ?_
    refine m_getI hg ciX11 21 lk_1007 dX11_years_60 io_82 (Nat.le_of_ble_eq_true rfl) rfl ?_
    refine e_iload_n hg dX11_years_63 rfl ?_
    refine e_aload_n hg dX11_years_64 rfl ?_
    refine m_getI hg ciX11 7 lk_993 dX11_years_65 io_82 (Nat.le_of_ble_eq_true rfl) rfl ?_
    refine e_imul hg dX11_years_68 ?_
    refine e_aload_n hg dX11_years_69 rfl ?_
    refine m_getI hg ciX11 44 lk_1030 dX11_years_70 io_82 (Nat.le_of_ble_eq_true rfl) rfl ?_
    refine e_isub hg dX11_years_73 ?_
    refine e_iadd hg dX11_years_74 ?_
    obtain ⟨M15, hM15, h⟩ := o_lt h
    refine m_putI hg ciX11 21 lk_1007 dX11_years_75 io_82 (Nat.le_of_ble_eq_true rfl) rfl rfl rfl rfl ?_
    rw [← hM15]
    refine e_aload_n hg dX11_years_78 rfl ?_
    refine m_getI hg ciX11 44 lk_1030 dX11_years_79 io_82 (Nat.le_of_ble_eq_true rfl) rfl ?_
    exact m_iret hg hr dX11_years_82 h

def X11_paid (a1 : Int32) (M : mm) : Option (Int32 × mm) :=
  bd (X11_isThing a1 M) fun v1 M2 =>
  if v1 = 0 then
    some ((-1), M2)
  else
    gd (inb a1 6) <|
    some ((M2.1 97 a1.toNatClampNeg), M2)
set_option maxRecDepth 100000 in
set_option maxHeartbeats 4000000 in
theorem X11_paid_ok {a1 : Int32} {M : mm} {r : Int32 × mm} (h : X11_paid a1 M = some r) : CM yX11_paid cX11_paid 2 (some .int) 2 [.ref 82, .int a1] (cells M) (some (.int r.1)) (cells r.2) := by
  refine cm_of (ls := [some (.ref 82), some (.int a1)]) mfX11_paid rfl (Nat.le_of_ble_eq_true rfl) (fun g hg hr => ?_)
  unfold X11_paid at h
  refine e_aload_n hg dX11_paid_0 rfl ?_
  refine e_iload_n hg dX11_paid_1 rfl ?_
  obtain ⟨v1, M2, hc3, h⟩ := o_bd h
  refine m_callVI (rest := []) (v := v1) (M' := M2) (ci := 11) hg mfX11_isThing mvX11_isThing (X11_isThing_ok (r := (v1, M2)) hc3) lk_1233 dX11_paid_2 io_82 rfl rfl rfl (by omega) (Nat.le_of_ble_eq_true rfl) ?_
  refine e_ifeq hg 17 dX11_paid_5 (by decide) (fun c4 => ?_) (fun c4 => ?_)
  · have h := o_pos c4 h
    refine e_iconst (v := -1) hg dX11_paid_17 (by decide) ?_
    exact m_iret hg hr dX11_paid_18 h
  · have h := o_neg c4 h
    refine e_aload_n hg dX11_paid_8 rfl ?_
    refine m_getR (q := 97) hg ciX11 18 lk_1004 dX11_paid_9 io_82 (Nat.le_of_ble_eq_true rfl) rfl rf_82_18 ?_
    refine e_iload_n hg dX11_paid_12 rfl ?_
    obtain ⟨hi5, h⟩ := o_gd h
    refine m_iald hg sh_97 hi5 dX11_paid_13 ?_
    refine e_goto hg 18 dX11_paid_14 (by decide) ?_
    exact m_iret hg hr dX11_paid_18 h

def X11_layer (a1 : Int32) (a2 : Int32) (M : mm) : Option (Int32 × mm) :=
  bd (X11_isThing a1 M) fun v1 M2 =>
  if v1 = 0 then
    some ((-1), M2)
  else
    gd (inb a1 6) <|
    bd (X11_within (a2.toInt64) 0 (((M2.1 96 a1.toNatClampNeg) - 1).toInt64) M2) fun v6 M7 =>
    if v6 = 0 then
      some ((-1), M7)
    else
      gd (inb ((8 * a1) + a2) 48) <|
      some ((M7.1 95 ((8 * a1) + a2).toNatClampNeg), M7)
set_option maxRecDepth 100000 in
set_option maxHeartbeats 4000000 in
theorem X11_layer_ok {a1 : Int32} {a2 : Int32} {M : mm} {r : Int32 × mm} (h : X11_layer a1 a2 M = some r) : CM yX11_layer cX11_layer 3 (some .int) 2 [.ref 82, .int a1, .int a2] (cells M) (some (.int r.1)) (cells r.2) := by
  refine cm_of (ls := [some (.ref 82), some (.int a1), some (.int a2)]) mfX11_layer rfl (Nat.le_of_ble_eq_true rfl) (fun g hg hr => ?_)
  unfold X11_layer at h
  refine e_aload_n hg dX11_layer_0 rfl ?_
  refine e_iload_n hg dX11_layer_1 rfl ?_
  obtain ⟨v1, M2, hc3, h⟩ := o_bd h
  refine m_callVI (rest := []) (v := v1) (M' := M2) (ci := 11) hg mfX11_isThing mvX11_isThing (X11_isThing_ok (r := (v1, M2)) hc3) lk_1233 dX11_layer_2 io_82 rfl rfl rfl (by omega) (Nat.le_of_ble_eq_true rfl) ?_
  refine e_ifeq hg 40 dX11_layer_5 (by decide) (fun c4 => ?_) (fun c4 => ?_)
  · have h := o_pos c4 h
    refine e_iconst (v := -1) hg dX11_layer_40 (by decide) ?_
    exact m_iret hg hr dX11_layer_41 h
  · have h := o_neg c4 h
    refine e_iload_n hg dX11_layer_8 rfl ?_
    refine e_i2l hg dX11_layer_9 ?_
    refine e_lconst (v := 0) hg dX11_layer_10 (by decide) ?_
    refine e_aload_n hg dX11_layer_11 rfl ?_
    refine m_getR (q := 96) hg ciX11 17 lk_1003 dX11_layer_12 io_82 (Nat.le_of_ble_eq_true rfl) rfl rf_82_17 ?_
    refine e_iload_n hg dX11_layer_15 rfl ?_
    obtain ⟨hi5, h⟩ := o_gd h
    refine m_iald hg sh_96 hi5 dX11_layer_16 ?_
    refine e_iconst (v := 1) hg dX11_layer_17 (by decide) ?_
    refine e_isub hg dX11_layer_18 ?_
    refine e_i2l hg dX11_layer_19 ?_
    obtain ⟨v6, M7, hc8, h⟩ := o_bd h
    refine m_callSI (rest := []) (v := v6) (M' := M7) hg mfX11_within mvX11_within (X11_within_ok (r := (v6, M7)) hc8) lk_1190 dX11_layer_20 rfl rfl (by omega) (Nat.le_of_ble_eq_true rfl) ?_
    refine e_ifeq hg 40 dX11_layer_23 (by decide) (fun c9 => ?_) (fun c9 => ?_)
    · have h := o_pos c9 h
      refine e_iconst (v := -1) hg dX11_layer_40 (by decide) ?_
      exact m_iret hg hr dX11_layer_41 h
    · have h := o_neg c9 h
      refine e_aload_n hg dX11_layer_26 rfl ?_
      refine m_getR (q := 95) hg ciX11 16 lk_1002 dX11_layer_27 io_82 (Nat.le_of_ble_eq_true rfl) rfl rf_82_16 ?_
      refine e_bipush (v := 8) hg dX11_layer_30 (by decide) ?_
      refine e_iload_n hg dX11_layer_32 rfl ?_
      refine e_imul hg dX11_layer_33 ?_
      refine e_iload_n hg dX11_layer_34 rfl ?_
      refine e_iadd hg dX11_layer_35 ?_
      obtain ⟨hi10, h⟩ := o_gd h
      refine m_iald hg sh_95 hi10 dX11_layer_36 ?_
      refine e_goto hg 41 dX11_layer_37 (by decide) ?_
      exact m_iret hg hr dX11_layer_41 h

def X11_told_L77 (a1 : Int32) (a2 : Int32) (K121 : Int32 → mm → Option (Int32 × mm)) : Nat → Int32 → Int32 → mm → Option (Int32 × mm)
  | 0, _, _, _ => none
  | n_ + 1, x3, x4, M =>
    if x4 < x3 then
      gd (inb ((60 * a1) + x4) 360) <|
      gd (inb ((8 * a2) + x4) 48) <|
      if (lg_cmp (M.2.1 115 ((60 * a1) + x4).toNatClampNeg) ((M.1 95 ((8 * a2) + x4).toNatClampNeg).toInt64)) = 0 then
        (X11_told_L77 a1 a2 K121 n_) x3 (x4 + 1) M
      else
        some (x4, M)
    else
      K121 x3 M
set_option maxRecDepth 100000 in
set_option maxHeartbeats 4000000 in
theorem X11_told_L77_ok {g : gx} (hg : EC g cX11_told RX11 2) {a1 : Int32} {a2 : Int32} {r : Int32 × mm} (hr : RT g (some .int) (0, 0) (some (.int r.1)) (cells r.2)) {K121 : Int32 → mm → Option (Int32 × mm)} (hK121 : ∀ (x3 : Int32) (o4 : Option Value) (M : mm), K121 x3 M = some r → E g (0, 0) 121 [some (.ref 82), some (.int a1), some (.int a2), some (.int x3), o4] [] (cells M)) : ∀ (n_ : Nat) (x3 : Int32) (x4 : Int32) (M : mm), X11_told_L77 a1 a2 K121 n_ x3 x4 M = some r → E g (0, 0) 77 [some (.ref 82), some (.int a1), some (.int a2), some (.int x3), some (.int x4)] [] (cells M) := by
  intro n_
  induction n_ with
  | zero => intro x3 x4 M h; exact o_no h
  | succ n_ ih =>
    intro x3 x4 M h
    rw [X11_told_L77] at h
    refine e_iload hg dX11_told_77 rfl ?_
    refine e_iload_n hg dX11_told_79 rfl ?_
    refine e_icmpge hg 121 dX11_told_80 (by decide) (fun c17 => ?_) (fun c17 => ?_)
    · have h := o_pos c17 h
      refine e_aload_n hg dX11_told_83 rfl ?_
      refine m_getR (q := 115) hg ciX11 61 lk_1047 dX11_told_84 io_82 (Nat.le_of_ble_eq_true rfl) rfl rf_82_61 ?_
      refine e_bipush (v := 60) hg dX11_told_87 (by decide) ?_
      refine e_iload_n hg dX11_told_89 rfl ?_
      refine e_imul hg dX11_told_90 ?_
      refine e_iload hg dX11_told_91 rfl ?_
      refine e_iadd hg dX11_told_93 ?_
      obtain ⟨hi18, h⟩ := o_gd h
      refine m_lald hg sh_115 hi18 dX11_told_94 ?_
      refine e_aload_n hg dX11_told_95 rfl ?_
      refine m_getR (q := 95) hg ciX11 16 lk_1002 dX11_told_96 io_82 (Nat.le_of_ble_eq_true rfl) rfl rf_82_16 ?_
      refine e_bipush (v := 8) hg dX11_told_99 (by decide) ?_
      refine e_iload_n hg dX11_told_101 rfl ?_
      refine e_imul hg dX11_told_102 ?_
      refine e_iload hg dX11_told_103 rfl ?_
      refine e_iadd hg dX11_told_105 ?_
      obtain ⟨hi19, h⟩ := o_gd h
      refine m_iald hg sh_95 hi19 dX11_told_106 ?_
      refine e_i2l hg dX11_told_107 ?_
      refine e_lcmp hg dX11_told_108 ?_
      refine e_ifeq hg 115 dX11_told_109 (by decide) (fun c20 => ?_) (fun c20 => ?_)
      · have h := o_pos c20 h
        refine e_iinc (v := (x4 + 1)) (ls' := [some (.ref 82), some (.int a1), some (.int a2), some (.int x3), some (.int (x4 + 1))]) hg dX11_told_115 rfl rfl rfl ?_
        refine e_goto hg 77 dX11_told_118 (by decide) ?_
        exact ih _ _ _ h
      · have h := o_neg c20 h
        refine e_iload hg dX11_told_112 rfl ?_
        exact m_iret hg hr dX11_told_114 h
    · have h := o_neg c17 h
      exact hK121 _ _ _ h

def X11_told_b73 (a1 : Int32) (a2 : Int32) (s0 : Int32) (M : mm) : Option (Int32 × mm) :=
  X11_told_L77 a1 a2 (fun x3 M =>
      gd (inb a1 6) <|
      gd (inb a2 6) <|
      if (M.1 114 a1.toNatClampNeg) = (M.1 96 a2.toNatClampNeg) then
        some ((-2), M)
      else
        some (x3, M)) 10000 s0 0 M
set_option maxRecDepth 100000 in
set_option maxHeartbeats 4000000 in
theorem X11_told_b73_ok {g : gx} (hg : EC g cX11_told RX11 2) {a1 : Int32} {a2 : Int32} {r : Int32 × mm} (hr : RT g (some .int) (0, 0) (some (.int r.1)) (cells r.2)) {s0 : Int32} {o3 : Option Value} {o4 : Option Value} {M : mm} (h : X11_told_b73 a1 a2 s0 M = some r) : E g (0, 0) 73 [some (.ref 82), some (.int a1), some (.int a2), o3, o4] [.int s0] (cells M) := by
  unfold X11_told_b73 at h
  refine e_istore_n (ls' := [some (.ref 82), some (.int a1), some (.int a2), some (.int s0), o4]) hg dX11_told_73 rfl ?_
  refine e_iconst (v := 0) hg dX11_told_74 (by decide) ?_
  refine e_istore (ls' := [some (.ref 82), some (.int a1), some (.int a2), some (.int s0), some (.int 0)]) hg dX11_told_75 rfl ?_
  refine X11_told_L77_ok hg hr (fun x3 o4 M h => ?_) 10000 _ _ _ h
  refine e_aload_n hg dX11_told_121 rfl ?_
  refine m_getR (q := 114) hg ciX11 60 lk_1046 dX11_told_122 io_82 (Nat.le_of_ble_eq_true rfl) rfl rf_82_60 ?_
  refine e_iload_n hg dX11_told_125 rfl ?_
  obtain ⟨hi21, h⟩ := o_gd h
  refine m_iald hg sh_114 hi21 dX11_told_126 ?_
  refine e_aload_n hg dX11_told_127 rfl ?_
  refine m_getR (q := 96) hg ciX11 17 lk_1003 dX11_told_128 io_82 (Nat.le_of_ble_eq_true rfl) rfl rf_82_17 ?_
  refine e_iload_n hg dX11_told_131 rfl ?_
  obtain ⟨hi22, h⟩ := o_gd h
  refine m_iald hg sh_96 hi22 dX11_told_132 ?_
  refine e_icmpne hg 141 dX11_told_133 (by decide) (fun c23 => ?_) (fun c23 => ?_)
  · have h := o_pos c23 h
    refine e_bipush (v := -2) hg dX11_told_136 (by decide) ?_
    refine e_goto hg 142 dX11_told_138 (by decide) ?_
    exact m_iret hg hr dX11_told_142 h
  · have h := o_neg c23 h
    refine e_iload_n hg dX11_told_141 rfl ?_
    exact m_iret hg hr dX11_told_142 h

def X11_told (a1 : Int32) (a2 : Int32) (M : mm) : Option (Int32 × mm) :=
  bd (X11_isShelf a1 M) fun v1 M2 =>
  if v1 = 0 then
    some ((-1), M2)
  else
    bd (X11_isThing a2 M2) fun v5 M6 =>
    if v5 = 0 then
      some ((-1), M6)
    else
      gd (inb a1 6) <|
      if (M6.1 113 a1.toNatClampNeg) < 0 then
        some ((-11), M6)
      else
        gd (inb a1 6) <|
        if (M6.1 113 a1.toNatClampNeg) = 50 then
          gd (inb a1 6) <|
          gd (inb a2 6) <|
          if (M6.1 114 a1.toNatClampNeg) < (M6.1 96 a2.toNatClampNeg) then
            gd (inb a1 6) <|
            X11_told_b73 a1 a2 (M6.1 114 a1.toNatClampNeg) M6
          else
            gd (inb a2 6) <|
            X11_told_b73 a1 a2 (M6.1 96 a2.toNatClampNeg) M6
        else
          some ((-12), M6)
set_option maxRecDepth 100000 in
set_option maxHeartbeats 4000000 in
theorem X11_told_ok {a1 : Int32} {a2 : Int32} {M : mm} {r : Int32 × mm} (h : X11_told a1 a2 M = some r) : CM yX11_told cX11_told 5 (some .int) 2 [.ref 82, .int a1, .int a2] (cells M) (some (.int r.1)) (cells r.2) := by
  refine cm_of (ls := [some (.ref 82), some (.int a1), some (.int a2), none, none]) mfX11_told rfl (Nat.le_of_ble_eq_true rfl) (fun g hg hr => ?_)
  unfold X11_told at h
  refine e_iload_n hg dX11_told_0 rfl ?_
  obtain ⟨v1, M2, hc3, h⟩ := o_bd h
  refine m_callSI (rest := []) (v := v1) (M' := M2) hg mfX11_isShelf mvX11_isShelf (X11_isShelf_ok (r := (v1, M2)) hc3) lk_1210 dX11_told_1 rfl rfl (by omega) (Nat.le_of_ble_eq_true rfl) ?_
  refine e_ifeq hg 15 dX11_told_4 (by decide) (fun c4 => ?_) (fun c4 => ?_)
  · have h := o_pos c4 h
    refine e_iconst (v := -1) hg dX11_told_15 (by decide) ?_
    exact m_iret hg hr dX11_told_16 h
  · have h := o_neg c4 h
    refine e_aload_n hg dX11_told_7 rfl ?_
    refine e_iload_n hg dX11_told_8 rfl ?_
    obtain ⟨v5, M6, hc7, h⟩ := o_bd h
    refine m_callVI (rest := []) (v := v5) (M' := M6) (ci := 11) hg mfX11_isThing mvX11_isThing (X11_isThing_ok (r := (v5, M6)) hc7) lk_1233 dX11_told_9 io_82 rfl rfl rfl (by omega) (Nat.le_of_ble_eq_true rfl) ?_
    refine e_ifne hg 17 dX11_told_12 (by decide) (fun c8 => ?_) (fun c8 => ?_)
    · have h := o_pos c8 h
      refine e_iconst (v := -1) hg dX11_told_15 (by decide) ?_
      exact m_iret hg hr dX11_told_16 h
    · have h := o_neg c8 h
      refine e_aload_n hg dX11_told_17 rfl ?_
      refine m_getR (q := 113) hg ciX11 59 lk_1045 dX11_told_18 io_82 (Nat.le_of_ble_eq_true rfl) rfl rf_82_59 ?_
      refine e_iload_n hg dX11_told_21 rfl ?_
      obtain ⟨hi9, h⟩ := o_gd h
      refine m_iald hg sh_113 hi9 dX11_told_22 ?_
      refine e_ifge hg 29 dX11_told_23 (by decide) (fun c10 => ?_) (fun c10 => ?_)
      · have h := o_pos c10 h
        refine e_bipush (v := -11) hg dX11_told_26 (by decide) ?_
        exact m_iret hg hr dX11_told_28 h
      · have h := o_neg c10 h
        refine e_aload_n hg dX11_told_29 rfl ?_
        refine m_getR (q := 113) hg ciX11 59 lk_1045 dX11_told_30 io_82 (Nat.le_of_ble_eq_true rfl) rfl rf_82_59 ?_
        refine e_iload_n hg dX11_told_33 rfl ?_
        obtain ⟨hi11, h⟩ := o_gd h
        refine m_iald hg sh_113 hi11 dX11_told_34 ?_
        refine e_bipush (v := 50) hg dX11_told_35 (by decide) ?_
        refine e_icmpeq hg 43 dX11_told_37 (by decide) (fun c12 => ?_) (fun c12 => ?_)
        · have h := o_pos c12 h
          refine e_aload_n hg dX11_told_43 rfl ?_
          refine m_getR (q := 114) hg ciX11 60 lk_1046 dX11_told_44 io_82 (Nat.le_of_ble_eq_true rfl) rfl rf_82_60 ?_
          refine e_iload_n hg dX11_told_47 rfl ?_
          obtain ⟨hi13, h⟩ := o_gd h
          refine m_iald hg sh_114 hi13 dX11_told_48 ?_
          refine e_aload_n hg dX11_told_49 rfl ?_
          refine m_getR (q := 96) hg ciX11 17 lk_1003 dX11_told_50 io_82 (Nat.le_of_ble_eq_true rfl) rfl rf_82_17 ?_
          refine e_iload_n hg dX11_told_53 rfl ?_
          obtain ⟨hi14, h⟩ := o_gd h
          refine m_iald hg sh_96 hi14 dX11_told_54 ?_
          refine e_icmpge hg 67 dX11_told_55 (by decide) (fun c15 => ?_) (fun c15 => ?_)
          · have h := o_pos c15 h
            refine e_aload_n hg dX11_told_58 rfl ?_
            refine m_getR (q := 114) hg ciX11 60 lk_1046 dX11_told_59 io_82 (Nat.le_of_ble_eq_true rfl) rfl rf_82_60 ?_
            refine e_iload_n hg dX11_told_62 rfl ?_
            obtain ⟨hi16, h⟩ := o_gd h
            refine m_iald hg sh_114 hi16 dX11_told_63 ?_
            refine e_goto hg 73 dX11_told_64 (by decide) ?_
            exact X11_told_b73_ok hg hr  h
          · have h := o_neg c15 h
            refine e_aload_n hg dX11_told_67 rfl ?_
            refine m_getR (q := 96) hg ciX11 17 lk_1003 dX11_told_68 io_82 (Nat.le_of_ble_eq_true rfl) rfl rf_82_17 ?_
            refine e_iload_n hg dX11_told_71 rfl ?_
            obtain ⟨hi24, h⟩ := o_gd h
            refine m_iald hg sh_96 hi24 dX11_told_72 ?_
            exact X11_told_b73_ok hg hr  h
        · have h := o_neg c12 h
          refine e_bipush (v := -12) hg dX11_told_40 (by decide) ?_
          exact m_iret hg hr dX11_told_42 h

def X11_over_b111 (a1 : Int32) (R54 : Int32 → Int32 → Int32 → mm → Option (Int32 × mm)) (K119 : Int32 → Int32 → mm → Option (Int32 × mm)) (x3 : Int32) (x4 : Int32) (s0 : Int32) (s1 : Int32) (M : mm) : Option (Int32 × mm) :=
  R54 (s0 + s1) x3 (x4 + 1) M
set_option maxRecDepth 100000 in
set_option maxHeartbeats 4000000 in
theorem X11_over_b111_ok {g : gx} (hg : EC g cX11_over RX11 2) {a1 : Int32} {r : Int32 × mm} (hr : RT g (some .int) (0, 0) (some (.int r.1)) (cells r.2)) {R54 : Int32 → Int32 → Int32 → mm → Option (Int32 × mm)} (hR54 : ∀ (x2 : Int32) (x3 : Int32) (x4 : Int32) (M : mm), R54 x2 x3 x4 M = some r → E g (0, 0) 54 [some (.ref 82), some (.int a1), some (.int x2), some (.int x3), some (.int x4)] [] (cells M)) {K119 : Int32 → Int32 → mm → Option (Int32 × mm)} (hK119 : ∀ (x2 : Int32) (x3 : Int32) (o4 : Option Value) (M : mm), K119 x2 x3 M = some r → E g (0, 0) 119 [some (.ref 82), some (.int a1), some (.int x2), some (.int x3), o4] [] (cells M)) {x3 : Int32} {x4 : Int32} {s0 : Int32} {s1 : Int32} {o2 : Option Value} {M : mm} (h : X11_over_b111 a1 R54 K119 x3 x4 s0 s1 M = some r) : E g (0, 0) 111 [some (.ref 82), some (.int a1), o2, some (.int x3), some (.int x4)] [.int s1, .int s0] (cells M) := by
  unfold X11_over_b111 at h
  refine e_iadd hg dX11_over_111 ?_
  refine e_istore_n (ls' := [some (.ref 82), some (.int a1), some (.int (s0 + s1)), some (.int x3), some (.int x4)]) hg dX11_over_112 rfl ?_
  refine e_iinc (v := (x4 + 1)) (ls' := [some (.ref 82), some (.int a1), some (.int (s0 + s1)), some (.int x3), some (.int (x4 + 1))]) hg dX11_over_113 rfl rfl rfl ?_
  refine e_goto hg 54 dX11_over_116 (by decide) ?_
  exact hR54 _ _ _ _ h

def X11_over_b110 (a1 : Int32) (R54 : Int32 → Int32 → Int32 → mm → Option (Int32 × mm)) (K119 : Int32 → Int32 → mm → Option (Int32 × mm)) (x3 : Int32) (x4 : Int32) (s0 : Int32) (M : mm) : Option (Int32 × mm) :=
  X11_over_b111 a1 R54 K119 x3 x4 s0 0 M
set_option maxRecDepth 100000 in
set_option maxHeartbeats 4000000 in
theorem X11_over_b110_ok {g : gx} (hg : EC g cX11_over RX11 2) {a1 : Int32} {r : Int32 × mm} (hr : RT g (some .int) (0, 0) (some (.int r.1)) (cells r.2)) {R54 : Int32 → Int32 → Int32 → mm → Option (Int32 × mm)} (hR54 : ∀ (x2 : Int32) (x3 : Int32) (x4 : Int32) (M : mm), R54 x2 x3 x4 M = some r → E g (0, 0) 54 [some (.ref 82), some (.int a1), some (.int x2), some (.int x3), some (.int x4)] [] (cells M)) {K119 : Int32 → Int32 → mm → Option (Int32 × mm)} (hK119 : ∀ (x2 : Int32) (x3 : Int32) (o4 : Option Value) (M : mm), K119 x2 x3 M = some r → E g (0, 0) 119 [some (.ref 82), some (.int a1), some (.int x2), some (.int x3), o4] [] (cells M)) {x3 : Int32} {x4 : Int32} {s0 : Int32} {o2 : Option Value} {M : mm} (h : X11_over_b110 a1 R54 K119 x3 x4 s0 M = some r) : E g (0, 0) 110 [some (.ref 82), some (.int a1), o2, some (.int x3), some (.int x4)] [.int s0] (cells M) := by
  unfold X11_over_b110 at h
  refine e_iconst (v := 0) hg dX11_over_110 (by decide) ?_
  exact X11_over_b111_ok hg hr hR54 hK119 h

def X11_over_L54 (a1 : Int32) (K119 : Int32 → Int32 → mm → Option (Int32 × mm)) : Nat → Int32 → Int32 → Int32 → mm → Option (Int32 × mm)
  | 0, _, _, _, _ => none
  | n_ + 1, x2, x3, x4, M =>
    gd (inb x3 6) <|
    if x4 < (M.1 96 x3.toNatClampNeg) then
      gd (inb ((8 * x3) + x4) 48) <|
      if (M.1 95 ((8 * x3) + x4).toNatClampNeg) = (a1 / 10) then
        gd (inb (((8 * x3) + x4) - 1) 48) <|
        if (M.1 95 (((8 * x3) + x4) - 1).toNatClampNeg) = (a1 - a1 / 10 * 10) then
          X11_over_b111 a1 (X11_over_L54 a1 K119 n_) K119 x3 x4 x2 1 M
        else
          X11_over_b110 a1 (X11_over_L54 a1 K119 n_) K119 x3 x4 x2 M
      else
        X11_over_b110 a1 (X11_over_L54 a1 K119 n_) K119 x3 x4 x2 M
    else
      K119 x2 x3 M
set_option maxRecDepth 100000 in
set_option maxHeartbeats 4000000 in
theorem X11_over_L54_ok {g : gx} (hg : EC g cX11_over RX11 2) {a1 : Int32} {r : Int32 × mm} (hr : RT g (some .int) (0, 0) (some (.int r.1)) (cells r.2)) {K119 : Int32 → Int32 → mm → Option (Int32 × mm)} (hK119 : ∀ (x2 : Int32) (x3 : Int32) (o4 : Option Value) (M : mm), K119 x2 x3 M = some r → E g (0, 0) 119 [some (.ref 82), some (.int a1), some (.int x2), some (.int x3), o4] [] (cells M)) : ∀ (n_ : Nat) (x2 : Int32) (x3 : Int32) (x4 : Int32) (M : mm), X11_over_L54 a1 K119 n_ x2 x3 x4 M = some r → E g (0, 0) 54 [some (.ref 82), some (.int a1), some (.int x2), some (.int x3), some (.int x4)] [] (cells M) := by
  intro n_
  induction n_ with
  | zero => intro x2 x3 x4 M h; exact o_no h
  | succ n_ ih =>
    intro x2 x3 x4 M h
    rw [X11_over_L54] at h
    refine e_iload hg dX11_over_54 rfl ?_
    refine e_aload_n hg dX11_over_56 rfl ?_
    refine m_getR (q := 96) hg ciX11 17 lk_1003 dX11_over_57 io_82 (Nat.le_of_ble_eq_true rfl) rfl rf_82_17 ?_
    refine e_iload_n hg dX11_over_60 rfl ?_
    obtain ⟨hi12, h⟩ := o_gd h
    refine m_iald hg sh_96 hi12 dX11_over_61 ?_
    refine e_icmpge hg 119 dX11_over_62 (by decide) (fun c13 => ?_) (fun c13 => ?_)
    · have h := o_pos c13 h
      refine e_iload_n hg dX11_over_65 rfl ?_
      refine e_aload_n hg dX11_over_66 rfl ?_
      refine m_getR (q := 95) hg ciX11 16 lk_1002 dX11_over_67 io_82 (Nat.le_of_ble_eq_true rfl) rfl rf_82_16 ?_
      refine e_bipush (v := 8) hg dX11_over_70 (by decide) ?_
      refine e_iload_n hg dX11_over_72 rfl ?_
      refine e_imul hg dX11_over_73 ?_
      refine e_iload hg dX11_over_74 rfl ?_
      refine e_iadd hg dX11_over_76 ?_
      obtain ⟨hi14, h⟩ := o_gd h
      refine m_iald hg sh_95 hi14 dX11_over_77 ?_
      refine e_iload_n hg dX11_over_78 rfl ?_
      refine e_bipush (v := 10) hg dX11_over_79 (by decide) ?_
      refine e_idiv hg dX11_over_81 (by decide) ?_
      refine e_icmpne hg 110 dX11_over_82 (by decide) (fun c15 => ?_) (fun c15 => ?_)
      · have h := o_pos c15 h
        refine e_aload_n hg dX11_over_85 rfl ?_
        refine m_getR (q := 95) hg ciX11 16 lk_1002 dX11_over_86 io_82 (Nat.le_of_ble_eq_true rfl) rfl rf_82_16 ?_
        refine e_bipush (v := 8) hg dX11_over_89 (by decide) ?_
        refine e_iload_n hg dX11_over_91 rfl ?_
        refine e_imul hg dX11_over_92 ?_
        refine e_iload hg dX11_over_93 rfl ?_
        refine e_iadd hg dX11_over_95 ?_
        refine e_iconst (v := 1) hg dX11_over_96 (by decide) ?_
        refine e_isub hg dX11_over_97 ?_
        obtain ⟨hi16, h⟩ := o_gd h
        refine m_iald hg sh_95 hi16 dX11_over_98 ?_
        refine e_iload_n hg dX11_over_99 rfl ?_
        refine e_bipush (v := 10) hg dX11_over_100 (by decide) ?_
        refine e_irem hg dX11_over_102 (by decide) ?_
        refine e_icmpne hg 110 dX11_over_103 (by decide) (fun c17 => ?_) (fun c17 => ?_)
        · have h := o_pos c17 h
          refine e_iconst (v := 1) hg dX11_over_106 (by decide) ?_
          refine e_goto hg 111 dX11_over_107 (by decide) ?_
          exact X11_over_b111_ok hg hr ih hK119 h
        · have h := o_neg c17 h
          exact X11_over_b110_ok hg hr ih hK119 h
      · have h := o_neg c15 h
        exact X11_over_b110_ok hg hr ih hK119 h
    · have h := o_neg c13 h
      exact hK119 _ _ _ _ h

def X11_over_L43 (a1 : Int32) : Nat → Int32 → Int32 → mm → Option (Int32 × mm)
  | 0, _, _, _ => none
  | n_ + 1, x2, x3, M =>
    if x3 < (M.1 82 7) then
      X11_over_L54 a1 (fun x2 x3 M =>
          (X11_over_L43 a1 n_) x2 (x3 + 1) M) 10000 x2 x3 1 M
    else
      some (x2, M)
set_option maxRecDepth 100000 in
set_option maxHeartbeats 4000000 in
theorem X11_over_L43_ok {g : gx} (hg : EC g cX11_over RX11 2) {a1 : Int32} {r : Int32 × mm} (hr : RT g (some .int) (0, 0) (some (.int r.1)) (cells r.2)) : ∀ (n_ : Nat) (x2 : Int32) (x3 : Int32) (o4 : Option Value) (M : mm), X11_over_L43 a1 n_ x2 x3 M = some r → E g (0, 0) 43 [some (.ref 82), some (.int a1), some (.int x2), some (.int x3), o4] [] (cells M) := by
  intro n_
  induction n_ with
  | zero => intro x2 x3 o4 M h; exact o_no h
  | succ n_ ih =>
    intro x2 x3 o4 M h
    rw [X11_over_L43] at h
    refine e_iload_n hg dX11_over_43 rfl ?_
    refine e_aload_n hg dX11_over_44 rfl ?_
    refine m_getI hg ciX11 7 lk_993 dX11_over_45 io_82 (Nat.le_of_ble_eq_true rfl) rfl ?_
    refine e_icmpge hg 125 dX11_over_48 (by decide) (fun c11 => ?_) (fun c11 => ?_)
    · have h := o_pos c11 h
      refine e_iconst (v := 1) hg dX11_over_51 (by decide) ?_
      refine e_istore (ls' := [some (.ref 82), some (.int a1), some (.int x2), some (.int x3), some (.int 1)]) hg dX11_over_52 rfl ?_
      refine X11_over_L54_ok hg hr (fun x2 x3 o4 M h => ?_) 10000 _ _ _ _ h
      refine e_iinc (v := (x3 + 1)) (ls' := [some (.ref 82), some (.int a1), some (.int x2), some (.int (x3 + 1)), o4]) hg dX11_over_119 rfl rfl rfl ?_
      refine e_goto hg 43 dX11_over_122 (by decide) ?_
      exact ih _ _ _ _ h
    · have h := o_neg c11 h
      refine e_iload_n hg dX11_over_125 rfl ?_
      exact m_iret hg hr dX11_over_126 h

def X11_over (a1 : Int32) (M : mm) : Option (Int32 × mm) :=
  if a1 < 0 then
    some ((-1), M)
  else
    bd (X11_isPerson (a1 / 10) M) fun v2 M3 =>
    if v2 = 0 then
      some ((-1), M3)
    else
      bd (X11_isPerson (a1 - a1 / 10 * 10) M3) fun v6 M7 =>
      if v6 = 0 then
        some ((-1), M7)
      else
        if (a1 / 10) = (a1 - a1 / 10 * 10) then
          some ((-1), M7)
        else
          X11_over_L43 a1 10000 0 0 M7
set_option maxRecDepth 100000 in
set_option maxHeartbeats 4000000 in
theorem X11_over_ok {a1 : Int32} {M : mm} {r : Int32 × mm} (h : X11_over a1 M = some r) : CM yX11_over cX11_over 5 (some .int) 2 [.ref 82, .int a1] (cells M) (some (.int r.1)) (cells r.2) := by
  refine cm_of (ls := [some (.ref 82), some (.int a1), none, none, none]) mfX11_over rfl (Nat.le_of_ble_eq_true rfl) (fun g hg hr => ?_)
  unfold X11_over at h
  refine e_iload_n hg dX11_over_0 rfl ?_
  refine e_iflt hg 37 dX11_over_1 (by decide) (fun c1 => ?_) (fun c1 => ?_)
  · have h := o_pos c1 h
    refine e_iconst (v := -1) hg dX11_over_37 (by decide) ?_
    exact m_iret hg hr dX11_over_38 h
  · have h := o_neg c1 h
    refine e_aload_n hg dX11_over_4 rfl ?_
    refine e_iload_n hg dX11_over_5 rfl ?_
    refine e_bipush (v := 10) hg dX11_over_6 (by decide) ?_
    refine e_idiv hg dX11_over_8 (by decide) ?_
    obtain ⟨v2, M3, hc4, h⟩ := o_bd h
    refine m_callVI (rest := []) (v := v2) (M' := M3) (ci := 11) hg mfX11_isPerson mvX11_isPerson (X11_isPerson_ok (r := (v2, M3)) hc4) lk_1224 dX11_over_9 io_82 rfl rfl rfl (by omega) (Nat.le_of_ble_eq_true rfl) ?_
    refine e_ifeq hg 37 dX11_over_12 (by decide) (fun c5 => ?_) (fun c5 => ?_)
    · have h := o_pos c5 h
      refine e_iconst (v := -1) hg dX11_over_37 (by decide) ?_
      exact m_iret hg hr dX11_over_38 h
    · have h := o_neg c5 h
      refine e_aload_n hg dX11_over_15 rfl ?_
      refine e_iload_n hg dX11_over_16 rfl ?_
      refine e_bipush (v := 10) hg dX11_over_17 (by decide) ?_
      refine e_irem hg dX11_over_19 (by decide) ?_
      obtain ⟨v6, M7, hc8, h⟩ := o_bd h
      refine m_callVI (rest := []) (v := v6) (M' := M7) (ci := 11) hg mfX11_isPerson mvX11_isPerson (X11_isPerson_ok (r := (v6, M7)) hc8) lk_1224 dX11_over_20 io_82 rfl rfl rfl (by omega) (Nat.le_of_ble_eq_true rfl) ?_
      refine e_ifeq hg 37 dX11_over_23 (by decide) (fun c9 => ?_) (fun c9 => ?_)
      · have h := o_pos c9 h
        refine e_iconst (v := -1) hg dX11_over_37 (by decide) ?_
        exact m_iret hg hr dX11_over_38 h
      · have h := o_neg c9 h
        refine e_iload_n hg dX11_over_26 rfl ?_
        refine e_bipush (v := 10) hg dX11_over_27 (by decide) ?_
        refine e_idiv hg dX11_over_29 (by decide) ?_
        refine e_iload_n hg dX11_over_30 rfl ?_
        refine e_bipush (v := 10) hg dX11_over_31 (by decide) ?_
        refine e_irem hg dX11_over_33 (by decide) ?_
        refine e_icmpne hg 39 dX11_over_34 (by decide) (fun c10 => ?_) (fun c10 => ?_)
        · have h := o_pos c10 h
          refine e_iconst (v := -1) hg dX11_over_37 (by decide) ?_
          exact m_iret hg hr dX11_over_38 h
        · have h := o_neg c10 h
          refine e_iconst (v := 0) hg dX11_over_39 (by decide) ?_
          refine e_istore_n (ls' := [some (.ref 82), some (.int a1), some (.int 0), none, none]) hg dX11_over_40 rfl ?_
          refine e_iconst (v := 0) hg dX11_over_41 (by decide) ?_
          refine e_istore_n (ls' := [some (.ref 82), some (.int a1), some (.int 0), some (.int 0), none]) hg dX11_over_42 rfl ?_
          exact X11_over_L43_ok hg hr  10000 _ _ _ _ h

