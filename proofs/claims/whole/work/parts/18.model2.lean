def X11_thinksOf_L10 (a1 : Int32) (a2 : Int32) (a3 : Int32) (K43 : mm → Option (Unit × mm)) : Nat → Int32 → mm → Option (Unit × mm)
  | 0, _, _ => none
  | n_ + 1, x4, M =>
    if 6 < x4 then
      K43 M
    else
      gd (inb (x4 - 1) 7) <|
      gd (inb x4 7) <|
      lt_ (sL M 101 (vp_updL (M.2.1 101) x4.toNatClampNeg (12 * (M.2.1 101 (x4 - 1).toNatClampNeg)))) fun M6 =>
      (X11_thinksOf_L10 a1 a2 a3 K43 n_) (x4 + 1) M6
set_option maxRecDepth 100000 in
set_option maxHeartbeats 4000000 in
theorem X11_thinksOf_L10_ok {g : gx} (hg : EC g cX11_thinksOf RX11 105) {a1 : Int32} {a2 : Int32} {a3 : Int32} {r : Unit × mm} (hr : RT g (none) (0, 0) none (cells r.2)) {K43 : mm → Option (Unit × mm)} (hK43 : ∀ (o4 : Option Value) (o5 : Option Value) (M : mm), K43 M = some r → E g (0, 0) 43 [some (.ref 82), some (.int a1), some (.int a2), some (.int a3), o4, o5] [] (cells M)) : ∀ (n_ : Nat) (x4 : Int32) (o5 : Option Value) (M : mm), X11_thinksOf_L10 a1 a2 a3 K43 n_ x4 M = some r → E g (0, 0) 10 [some (.ref 82), some (.int a1), some (.int a2), some (.int a3), some (.int x4), o5] [] (cells M) := by
  intro n_
  induction n_ with
  | zero => intro x4 o5 M h; exact o_no h
  | succ n_ ih =>
    intro x4 o5 M h
    rw [X11_thinksOf_L10] at h
    refine e_iload hg dX11_thinksOf_10 rfl ?_
    refine e_bipush (v := 6) hg dX11_thinksOf_12 (by decide) ?_
    refine e_icmpgt hg 43 dX11_thinksOf_14 (by decide) (fun c3 => ?_) (fun c3 => ?_)
    · have h := o_pos c3 h
      exact hK43 _ _ _ h
    · have h := o_neg c3 h
      refine e_aload_n hg dX11_thinksOf_17 rfl ?_
      refine m_getR (q := 101) hg ciX11 33 lk_1019 dX11_thinksOf_18 io_82 (Nat.le_of_ble_eq_true rfl) rfl rf_82_33 ?_
      refine e_iload hg dX11_thinksOf_21 rfl ?_
      refine e_ldc2 hg dX11_thinksOf_23 lk_1325 ?_
      refine e_aload_n hg dX11_thinksOf_26 rfl ?_
      refine m_getR (q := 101) hg ciX11 33 lk_1019 dX11_thinksOf_27 io_82 (Nat.le_of_ble_eq_true rfl) rfl rf_82_33 ?_
      refine e_iload hg dX11_thinksOf_30 rfl ?_
      refine e_iconst (v := 1) hg dX11_thinksOf_32 (by decide) ?_
      refine e_isub hg dX11_thinksOf_33 ?_
      obtain ⟨hi4, h⟩ := o_gd h
      refine m_lald hg sh_101 hi4 dX11_thinksOf_34 ?_
      refine e_lmul hg dX11_thinksOf_35 ?_
      obtain ⟨hi5, h⟩ := o_gd h
      obtain ⟨M6, hM6, h⟩ := o_lt h
      refine m_last hg sh_101 hi5 dX11_thinksOf_36 ?_
      rw [← hM6]
      refine e_iinc (v := (x4 + 1)) (ls' := [some (.ref 82), some (.int a1), some (.int a2), some (.int a3), some (.int (x4 + 1)), o5]) hg dX11_thinksOf_37 rfl rfl rfl ?_
      refine e_goto hg 10 dX11_thinksOf_40 (by decide) ?_
      exact ih _ _ _ h

def X11_thinksOf_L55 (a1 : Int32) (a2 : Int32) (a3 : Int32) (K120 : Int32 → mm → Option (Unit × mm)) : Nat → Int32 → Int32 → mm → Option (Unit × mm)
  | 0, _, _, _ => none
  | n_ + 1, x4, x5, M =>
    if x5 < 100 then
      bd (X11_numberOf x4 a1 x5 0 M) fun v9 M10 =>
      gd (inb (((x4 * 2) * 100) + x5) 800) <|
      lt_ (sA M10 102 (upd (M10.1 102) (((x4 * 2) * 100) + x5).toNatClampNeg v9)) fun M13 =>
      bd (X11_numberOf x4 a1 x5 1 M13) fun v14 M15 =>
      gd (inb ((((x4 * 2) + 1) * 100) + x5) 800) <|
      lt_ (sA M15 102 (upd (M15.1 102) ((((x4 * 2) + 1) * 100) + x5).toNatClampNeg v14)) fun M18 =>
      (X11_thinksOf_L55 a1 a2 a3 K120 n_) x4 (x5 + 1) M18
    else
      K120 x4 M
set_option maxRecDepth 100000 in
set_option maxHeartbeats 4000000 in
theorem X11_thinksOf_L55_ok {g : gx} (hg : EC g cX11_thinksOf RX11 105) {a1 : Int32} {a2 : Int32} {a3 : Int32} {r : Unit × mm} (hr : RT g (none) (0, 0) none (cells r.2)) {K120 : Int32 → mm → Option (Unit × mm)} (hK120 : ∀ (x4 : Int32) (o5 : Option Value) (M : mm), K120 x4 M = some r → E g (0, 0) 120 [some (.ref 82), some (.int a1), some (.int a2), some (.int a3), some (.int x4), o5] [] (cells M)) : ∀ (n_ : Nat) (x4 : Int32) (x5 : Int32) (M : mm), X11_thinksOf_L55 a1 a2 a3 K120 n_ x4 x5 M = some r → E g (0, 0) 55 [some (.ref 82), some (.int a1), some (.int a2), some (.int a3), some (.int x4), some (.int x5)] [] (cells M) := by
  intro n_
  induction n_ with
  | zero => intro x4 x5 M h; exact o_no h
  | succ n_ ih =>
    intro x4 x5 M h
    rw [X11_thinksOf_L55] at h
    refine e_iload hg dX11_thinksOf_55 rfl ?_
    refine e_bipush (v := 100) hg dX11_thinksOf_57 (by decide) ?_
    refine e_icmpge hg 120 dX11_thinksOf_59 (by decide) (fun c8 => ?_) (fun c8 => ?_)
    · have h := o_pos c8 h
      refine e_aload_n hg dX11_thinksOf_62 rfl ?_
      refine m_getR (q := 102) hg ciX11 34 lk_1020 dX11_thinksOf_63 io_82 (Nat.le_of_ble_eq_true rfl) rfl rf_82_34 ?_
      refine e_iload hg dX11_thinksOf_66 rfl ?_
      refine e_iconst (v := 2) hg dX11_thinksOf_68 (by decide) ?_
      refine e_imul hg dX11_thinksOf_69 ?_
      refine e_bipush (v := 100) hg dX11_thinksOf_70 (by decide) ?_
      refine e_imul hg dX11_thinksOf_72 ?_
      refine e_iload hg dX11_thinksOf_73 rfl ?_
      refine e_iadd hg dX11_thinksOf_75 ?_
      refine e_aload_n hg dX11_thinksOf_76 rfl ?_
      refine e_iload hg dX11_thinksOf_77 rfl ?_
      refine e_iload_n hg dX11_thinksOf_79 rfl ?_
      refine e_iload hg dX11_thinksOf_80 rfl ?_
      refine e_iconst (v := 0) hg dX11_thinksOf_82 (by decide) ?_
      obtain ⟨v9, M10, hc11, h⟩ := o_bd h
      refine m_callVI (rest := [.int (((x4 * 2) * 100) + x5), .ref 102]) (v := v9) (M' := M10) (ci := 11) hg mfX11_numberOf mvX11_numberOf (X11_numberOf_ok (r := (v9, M10)) hc11) lk_1252 dX11_thinksOf_83 io_82 rfl rfl rfl (by omega) (Nat.le_of_ble_eq_true rfl) ?_
      obtain ⟨hi12, h⟩ := o_gd h
      obtain ⟨M13, hM13, h⟩ := o_lt h
      refine m_iast hg sh_102 hi12 dX11_thinksOf_86 ?_
      rw [← hM13]
      refine e_aload_n hg dX11_thinksOf_87 rfl ?_
      refine m_getR (q := 102) hg ciX11 34 lk_1020 dX11_thinksOf_88 io_82 (Nat.le_of_ble_eq_true rfl) rfl rf_82_34 ?_
      refine e_iload hg dX11_thinksOf_91 rfl ?_
      refine e_iconst (v := 2) hg dX11_thinksOf_93 (by decide) ?_
      refine e_imul hg dX11_thinksOf_94 ?_
      refine e_iconst (v := 1) hg dX11_thinksOf_95 (by decide) ?_
      refine e_iadd hg dX11_thinksOf_96 ?_
      refine e_bipush (v := 100) hg dX11_thinksOf_97 (by decide) ?_
      refine e_imul hg dX11_thinksOf_99 ?_
      refine e_iload hg dX11_thinksOf_100 rfl ?_
      refine e_iadd hg dX11_thinksOf_102 ?_
      refine e_aload_n hg dX11_thinksOf_103 rfl ?_
      refine e_iload hg dX11_thinksOf_104 rfl ?_
      refine e_iload_n hg dX11_thinksOf_106 rfl ?_
      refine e_iload hg dX11_thinksOf_107 rfl ?_
      refine e_iconst (v := 1) hg dX11_thinksOf_109 (by decide) ?_
      obtain ⟨v14, M15, hc16, h⟩ := o_bd h
      refine m_callVI (rest := [.int ((((x4 * 2) + 1) * 100) + x5), .ref 102]) (v := v14) (M' := M15) (ci := 11) hg mfX11_numberOf mvX11_numberOf (X11_numberOf_ok (r := (v14, M15)) hc16) lk_1252 dX11_thinksOf_110 io_82 rfl rfl rfl (by omega) (Nat.le_of_ble_eq_true rfl) ?_
      obtain ⟨hi17, h⟩ := o_gd h
      obtain ⟨M18, hM18, h⟩ := o_lt h
      refine m_iast hg sh_102 hi17 dX11_thinksOf_113 ?_
      rw [← hM18]
      refine e_iinc (v := (x5 + 1)) (ls' := [some (.ref 82), some (.int a1), some (.int a2), some (.int a3), some (.int x4), some (.int (x5 + 1))]) hg dX11_thinksOf_114 rfl rfl rfl ?_
      refine e_goto hg 55 dX11_thinksOf_117 (by decide) ?_
      exact ih _ _ _ h
    · have h := o_neg c8 h
      exact hK120 _ _ _ h

def X11_thinksOf_L46 (a1 : Int32) (a2 : Int32) (a3 : Int32) (K126 : mm → Option (Unit × mm)) : Nat → Int32 → mm → Option (Unit × mm)
  | 0, _, _ => none
  | n_ + 1, x4, M =>
    if x4 < 4 then
      X11_thinksOf_L55 a1 a2 a3 (fun x4 M =>
          (X11_thinksOf_L46 a1 a2 a3 K126 n_) (x4 + 1) M) 10000 x4 0 M
    else
      K126 M
set_option maxRecDepth 100000 in
set_option maxHeartbeats 4000000 in
theorem X11_thinksOf_L46_ok {g : gx} (hg : EC g cX11_thinksOf RX11 105) {a1 : Int32} {a2 : Int32} {a3 : Int32} {r : Unit × mm} (hr : RT g (none) (0, 0) none (cells r.2)) {K126 : mm → Option (Unit × mm)} (hK126 : ∀ (o4 : Option Value) (o5 : Option Value) (M : mm), K126 M = some r → E g (0, 0) 126 [some (.ref 82), some (.int a1), some (.int a2), some (.int a3), o4, o5] [] (cells M)) : ∀ (n_ : Nat) (x4 : Int32) (o5 : Option Value) (M : mm), X11_thinksOf_L46 a1 a2 a3 K126 n_ x4 M = some r → E g (0, 0) 46 [some (.ref 82), some (.int a1), some (.int a2), some (.int a3), some (.int x4), o5] [] (cells M) := by
  intro n_
  induction n_ with
  | zero => intro x4 o5 M h; exact o_no h
  | succ n_ ih =>
    intro x4 o5 M h
    rw [X11_thinksOf_L46] at h
    refine e_iload hg dX11_thinksOf_46 rfl ?_
    refine e_iconst (v := 4) hg dX11_thinksOf_48 (by decide) ?_
    refine e_icmpge hg 126 dX11_thinksOf_49 (by decide) (fun c7 => ?_) (fun c7 => ?_)
    · have h := o_pos c7 h
      refine e_iconst (v := 0) hg dX11_thinksOf_52 (by decide) ?_
      refine e_istore (ls' := [some (.ref 82), some (.int a1), some (.int a2), some (.int a3), some (.int x4), some (.int 0)]) hg dX11_thinksOf_53 rfl ?_
      refine X11_thinksOf_L55_ok hg hr (fun x4 o5 M h => ?_) 10000 _ _ _ h
      refine e_iinc (v := (x4 + 1)) (ls' := [some (.ref 82), some (.int a1), some (.int a2), some (.int a3), some (.int (x4 + 1)), o5]) hg dX11_thinksOf_120 rfl rfl rfl ?_
      refine e_goto hg 46 dX11_thinksOf_123 (by decide) ?_
      exact ih _ _ _ h
    · have h := o_neg c7 h
      exact hK126 _ _ _ h

def X11_thinksOf (a1 : Int32) (a2 : Int32) (a3 : Int32) (M : mm) : Option (Unit × mm) :=
  gd (inb 0 7) <|
  lt_ (sL M 101 (vp_updL (M.2.1 101) (0 : Int32).toNatClampNeg 1)) fun M2 =>
  X11_thinksOf_L10 a1 a2 a3 (fun M =>
      X11_thinksOf_L46 a1 a2 a3 (fun M =>
          gd (inb a2 33) <|
          lt_ (sA M 82 (upd (M.1 82) 37 (M.1 83 a2.toNatClampNeg))) fun M20 =>
          gd (inb (5 + a2) 33) <|
          lt_ (sA M20 82 (upd (M20.1 82) 38 (M20.1 83 (5 + a2).toNatClampNeg))) fun M22 =>
          lt_ (sA M22 82 (upd (M22.1 82) 39 a3)) fun M23 =>
          gd (inb (15 + a1) 33) <|
          lt_ (sA M23 82 (upd (M23.1 82) 40 (M23.1 83 (15 + a1).toNatClampNeg))) fun M25 =>
          gd (inb (21 + a1) 33) <|
          lt_ (sA M25 82 (upd (M25.1 82) 41 (M25.1 83 (21 + a1).toNatClampNeg))) fun M27 =>
          some ((), M27)) 10000 1 M) 10000 1 M2
set_option maxRecDepth 100000 in
set_option maxHeartbeats 4000000 in
theorem X11_thinksOf_ok {a1 : Int32} {a2 : Int32} {a3 : Int32} {M : mm} {r : Unit × mm} (h : X11_thinksOf a1 a2 a3 M = some r) : CM yX11_thinksOf cX11_thinksOf 6 (none) 105 [.ref 82, .int a1, .int a2, .int a3] (cells M) none (cells r.2) := by
  refine cm_of (ls := [some (.ref 82), some (.int a1), some (.int a2), some (.int a3), none, none]) mfX11_thinksOf rfl (Nat.le_of_ble_eq_true rfl) (fun g hg hr => ?_)
  unfold X11_thinksOf at h
  refine e_aload_n hg dX11_thinksOf_0 rfl ?_
  refine m_getR (q := 101) hg ciX11 33 lk_1019 dX11_thinksOf_1 io_82 (Nat.le_of_ble_eq_true rfl) rfl rf_82_33 ?_
  refine e_iconst (v := 0) hg dX11_thinksOf_4 (by decide) ?_
  refine e_lconst (v := 1) hg dX11_thinksOf_5 (by decide) ?_
  obtain ⟨hi1, h⟩ := o_gd h
  obtain ⟨M2, hM2, h⟩ := o_lt h
  refine m_last hg sh_101 hi1 dX11_thinksOf_6 ?_
  rw [← hM2]
  refine e_iconst (v := 1) hg dX11_thinksOf_7 (by decide) ?_
  refine e_istore (ls' := [some (.ref 82), some (.int a1), some (.int a2), some (.int a3), some (.int 1), none]) hg dX11_thinksOf_8 rfl ?_
  refine X11_thinksOf_L10_ok hg hr (fun o4 o5 M h => ?_) 10000 _ _ _ h
  refine e_iconst (v := 1) hg dX11_thinksOf_43 (by decide) ?_
  refine e_istore (ls' := [some (.ref 82), some (.int a1), some (.int a2), some (.int a3), some (.int 1), o5]) hg dX11_thinksOf_44 rfl ?_
  refine X11_thinksOf_L46_ok hg hr (fun o4 o5 M h => ?_) 10000 _ _ _ h
  refine e_aload_n hg dX11_thinksOf_126 rfl ?_
  refine e_aload_n hg dX11_thinksOf_127 rfl ?_
  refine m_getR (q := 83) hg ciX11 0 lk_986 dX11_thinksOf_128 io_82 (Nat.le_of_ble_eq_true rfl) rfl rf_82_0 ?_
  refine e_iload_n hg dX11_thinksOf_131 rfl ?_
  obtain ⟨hi19, h⟩ := o_gd h
  refine m_iald hg sh_83 hi19 dX11_thinksOf_132 ?_
  obtain ⟨M20, hM20, h⟩ := o_lt h
  refine m_putI hg ciX11 37 lk_1023 dX11_thinksOf_133 io_82 (Nat.le_of_ble_eq_true rfl) rfl rfl rfl rfl ?_
  rw [← hM20]
  refine e_aload_n hg dX11_thinksOf_136 rfl ?_
  refine e_aload_n hg dX11_thinksOf_137 rfl ?_
  refine m_getR (q := 83) hg ciX11 0 lk_986 dX11_thinksOf_138 io_82 (Nat.le_of_ble_eq_true rfl) rfl rf_82_0 ?_
  refine e_iconst (v := 5) hg dX11_thinksOf_141 (by decide) ?_
  refine e_iload_n hg dX11_thinksOf_142 rfl ?_
  refine e_iadd hg dX11_thinksOf_143 ?_
  obtain ⟨hi21, h⟩ := o_gd h
  refine m_iald hg sh_83 hi21 dX11_thinksOf_144 ?_
  obtain ⟨M22, hM22, h⟩ := o_lt h
  refine m_putI hg ciX11 38 lk_1024 dX11_thinksOf_145 io_82 (Nat.le_of_ble_eq_true rfl) rfl rfl rfl rfl ?_
  rw [← hM22]
  refine e_aload_n hg dX11_thinksOf_148 rfl ?_
  refine e_iload_n hg dX11_thinksOf_149 rfl ?_
  obtain ⟨M23, hM23, h⟩ := o_lt h
  refine m_putI hg ciX11 39 lk_1025 dX11_thinksOf_150 io_82 (Nat.le_of_ble_eq_true rfl) rfl rfl rfl rfl ?_
  rw [← hM23]
  refine e_aload_n hg dX11_thinksOf_153 rfl ?_
  refine e_aload_n hg dX11_thinksOf_154 rfl ?_
  refine m_getR (q := 83) hg ciX11 0 lk_986 dX11_thinksOf_155 io_82 (Nat.le_of_ble_eq_true rfl) rfl rf_82_0 ?_
  refine e_bipush (v := 15) hg dX11_thinksOf_158 (by decide) ?_
  refine e_iload_n hg dX11_thinksOf_160 rfl ?_
  refine e_iadd hg dX11_thinksOf_161 ?_
  obtain ⟨hi24, h⟩ := o_gd h
  refine m_iald hg sh_83 hi24 dX11_thinksOf_162 ?_
  obtain ⟨M25, hM25, h⟩ := o_lt h
  refine m_putI hg ciX11 40 lk_1026 dX11_thinksOf_163 io_82 (Nat.le_of_ble_eq_true rfl) rfl rfl rfl rfl ?_
  rw [← hM25]
  refine e_aload_n hg dX11_thinksOf_166 rfl ?_
  refine e_aload_n hg dX11_thinksOf_167 rfl ?_
  refine m_getR (q := 83) hg ciX11 0 lk_986 dX11_thinksOf_168 io_82 (Nat.le_of_ble_eq_true rfl) rfl rf_82_0 ?_
  refine e_bipush (v := 21) hg dX11_thinksOf_171 (by decide) ?_
  refine e_iload_n hg dX11_thinksOf_173 rfl ?_
  refine e_iadd hg dX11_thinksOf_174 ?_
  obtain ⟨hi26, h⟩ := o_gd h
  refine m_iald hg sh_83 hi26 dX11_thinksOf_175 ?_
  obtain ⟨M27, hM27, h⟩ := o_lt h
  refine m_putI hg ciX11 41 lk_1027 dX11_thinksOf_176 io_82 (Nat.le_of_ble_eq_true rfl) rfl rfl rfl rfl ?_
  rw [← hM27]
  exact m_vret hg hr dX11_thinksOf_179 h

def X11_isForgotten (a1 : Int32) (M : mm) : Option (Int32 × mm) :=
  if 0 < (M.1 82 19) then
    if a1 < (M.1 82 19) then
      some (0, M)
    else
      some (1, M)
  else
    some (0, M)
set_option maxRecDepth 100000 in
set_option maxHeartbeats 4000000 in
theorem X11_isForgotten_ok {a1 : Int32} {M : mm} {r : Int32 × mm} (h : X11_isForgotten a1 M = some r) : CM yX11_isForgotten cX11_isForgotten 2 (some .boolean) 0 [.ref 82, .int a1] (cells M) (some (.int r.1)) (cells r.2) := by
  refine cm_of (ls := [some (.ref 82), some (.int a1)]) mfX11_isForgotten rfl (Nat.le_of_ble_eq_true rfl) (fun g hg hr => ?_)
  unfold X11_isForgotten at h
  refine e_aload_n hg dX11_isForgotten_0 rfl ?_
  refine m_getI hg ciX11 19 lk_1005 dX11_isForgotten_1 io_82 (Nat.le_of_ble_eq_true rfl) rfl ?_
  refine e_ifle hg 19 dX11_isForgotten_4 (by decide) (fun c1 => ?_) (fun c1 => ?_)
  · have h := o_pos c1 h
    refine e_iload_n hg dX11_isForgotten_7 rfl ?_
    refine e_aload_n hg dX11_isForgotten_8 rfl ?_
    refine m_getI hg ciX11 19 lk_1005 dX11_isForgotten_9 io_82 (Nat.le_of_ble_eq_true rfl) rfl ?_
    refine e_icmplt hg 19 dX11_isForgotten_12 (by decide) (fun c2 => ?_) (fun c2 => ?_)
    · have h := o_pos c2 h
      refine e_iconst (v := 0) hg dX11_isForgotten_19 (by decide) ?_
      exact m_zret hg hr rfl dX11_isForgotten_20 h
    · have h := o_neg c2 h
      refine e_iconst (v := 1) hg dX11_isForgotten_15 (by decide) ?_
      refine e_goto hg 20 dX11_isForgotten_16 (by decide) ?_
      exact m_zret hg hr rfl dX11_isForgotten_20 h
  · have h := o_neg c1 h
    refine e_iconst (v := 0) hg dX11_isForgotten_19 (by decide) ?_
    exact m_zret hg hr rfl dX11_isForgotten_20 h

def X11_goes_b164 (a1 : Int32) (a2 : Int32) (a3 : Int32) (a4 : Int32) (x5 : Int32) (x7 : Int64) (x9 : Int64) (M : mm) : Option (Int64 × mm) :=
  some (((x5.toInt64 * x9) + ((12 - x5).toInt64 * x7)), M)
set_option maxRecDepth 100000 in
set_option maxHeartbeats 4000000 in
theorem X11_goes_b164_ok {g : gx} (hg : EC g cX11_goes RX11 1) {a1 : Int32} {a2 : Int32} {a3 : Int32} {a4 : Int32} {r : Int64 × mm} (hr : RT g (some .long) (0, 0) (some (.long r.1)) (cells r.2)) {x5 : Int32} {x7 : Int64} {x9 : Int64} {o6 : Option Value} {o11 : Option Value} {M : mm} (h : X11_goes_b164 a1 a2 a3 a4 x5 x7 x9 M = some r) : E g (0, 0) 164 [some (.ref 82), some (.int a1), some (.int a2), some (.int a3), some (.int a4), some (.int x5), o6, some (.long x7), none, some (.long x9), none, o11] [] (cells M) := by
  unfold X11_goes_b164 at h
  refine e_iload hg dX11_goes_164 rfl ?_
  refine e_i2l hg dX11_goes_166 ?_
  refine e_lload hg dX11_goes_167 rfl ?_
  refine e_lmul hg dX11_goes_169 ?_
  refine e_bipush (v := 12) hg dX11_goes_170 (by decide) ?_
  refine e_iload hg dX11_goes_172 rfl ?_
  refine e_isub hg dX11_goes_174 ?_
  refine e_i2l hg dX11_goes_175 ?_
  refine e_lload hg dX11_goes_176 rfl ?_
  refine e_lmul hg dX11_goes_178 ?_
  refine e_ladd hg dX11_goes_179 ?_
  exact m_lret hg hr dX11_goes_180 h

def X11_goes_b147 (a1 : Int32) (a2 : Int32) (a3 : Int32) (a4 : Int32) (x5 : Int32) (x7 : Int64) (s0 : Int64) (M : mm) : Option (Int64 × mm) :=
  bd (X11_placeOf (a1 - 1) 3 2 0 M) fun v24 M25 =>
  gd (inb v24 8400) <|
  X11_goes_b164 a1 a2 a3 a4 x5 x7 (s0 + (M25.2.1 103 v24.toNatClampNeg)) M25
set_option maxRecDepth 100000 in
set_option maxHeartbeats 4000000 in
theorem X11_goes_b147_ok {g : gx} (hg : EC g cX11_goes RX11 1) {a1 : Int32} {a2 : Int32} {a3 : Int32} {a4 : Int32} {r : Int64 × mm} (hr : RT g (some .long) (0, 0) (some (.long r.1)) (cells r.2)) {x5 : Int32} {x7 : Int64} {s0 : Int64} {o6 : Option Value} {o9 : Option Value} {o10 : Option Value} {o11 : Option Value} {M : mm} (h : X11_goes_b147 a1 a2 a3 a4 x5 x7 s0 M = some r) : E g (0, 0) 147 [some (.ref 82), some (.int a1), some (.int a2), some (.int a3), some (.int a4), some (.int x5), o6, some (.long x7), none, o9, o10, o11] [.long s0] (cells M) := by
  unfold X11_goes_b147 at h
  refine e_aload_n hg dX11_goes_147 rfl ?_
  refine m_getR (q := 103) hg ciX11 35 lk_1021 dX11_goes_148 io_82 (Nat.le_of_ble_eq_true rfl) rfl rf_82_35 ?_
  refine e_iload_n hg dX11_goes_151 rfl ?_
  refine e_iconst (v := 1) hg dX11_goes_152 (by decide) ?_
  refine e_isub hg dX11_goes_153 ?_
  refine e_iconst (v := 3) hg dX11_goes_154 (by decide) ?_
  refine e_iconst (v := 2) hg dX11_goes_155 (by decide) ?_
  refine e_iconst (v := 0) hg dX11_goes_156 (by decide) ?_
  obtain ⟨v24, M25, hc26, h⟩ := o_bd h
  refine m_callSI (rest := [.ref 103, .long s0]) (v := v24) (M' := M25) hg mfX11_placeOf mvX11_placeOf (X11_placeOf_ok (r := (v24, M25)) hc26) lk_1330 dX11_goes_157 rfl rfl (by omega) (Nat.le_of_ble_eq_true rfl) ?_
  obtain ⟨hi27, h⟩ := o_gd h
  refine m_lald hg sh_103 hi27 dX11_goes_160 ?_
  refine e_ladd hg dX11_goes_161 ?_
  refine e_lstore (ls' := [some (.ref 82), some (.int a1), some (.int a2), some (.int a3), some (.int a4), some (.int x5), o6, some (.long x7), none, some (.long (s0 + (M25.2.1 103 v24.toNatClampNeg))), none, o11]) hg dX11_goes_162 rfl ?_
  exact X11_goes_b164_ok hg hr  h

def X11_goes_b121 (a1 : Int32) (a2 : Int32) (a3 : Int32) (a4 : Int32) (x5 : Int32) (x7 : Int64) (s0 : Int32) (M : mm) : Option (Int64 × mm) :=
  if s0 = 0 then
    X11_goes_b147 a1 a2 a3 a4 x5 x7 0 M
  else
    gd (inb (a1 - 1) 7) <|
    X11_goes_b147 a1 a2 a3 a4 x5 x7 ((-(M.1 82 41)).toInt64 * (M.2.1 101 (a1 - 1).toNatClampNeg)) M
set_option maxRecDepth 100000 in
set_option maxHeartbeats 4000000 in
theorem X11_goes_b121_ok {g : gx} (hg : EC g cX11_goes RX11 1) {a1 : Int32} {a2 : Int32} {a3 : Int32} {a4 : Int32} {r : Int64 × mm} (hr : RT g (some .long) (0, 0) (some (.long r.1)) (cells r.2)) {x5 : Int32} {x7 : Int64} {s0 : Int32} {o6 : Option Value} {o9 : Option Value} {o10 : Option Value} {o11 : Option Value} {M : mm} (h : X11_goes_b121 a1 a2 a3 a4 x5 x7 s0 M = some r) : E g (0, 0) 121 [some (.ref 82), some (.int a1), some (.int a2), some (.int a3), some (.int a4), some (.int x5), o6, some (.long x7), none, o9, o10, o11] [.int s0] (cells M) := by
  unfold X11_goes_b121 at h
  refine e_drop (ls2 := [some (.ref 82), some (.int a1), some (.int a2), some (.int a3), some (.int a4), some (.int x5), o6, some (.long x7), none, o9, none, o11]) 10 rfl ?_
  refine e_istore (ls' := [some (.ref 82), some (.int a1), some (.int a2), some (.int a3), some (.int a4), some (.int x5), o6, some (.long x7), none, o9, none, some (.int s0)]) hg dX11_goes_121 rfl ?_
  refine e_iload hg dX11_goes_123 rfl ?_
  refine e_ifeq hg 146 dX11_goes_125 (by decide) (fun c23 => ?_) (fun c23 => ?_)
  · have h := o_pos c23 h
    refine e_lconst (v := 0) hg dX11_goes_146 (by decide) ?_
    exact X11_goes_b147_ok hg hr  h
  · have h := o_neg c23 h
    refine e_aload_n hg dX11_goes_128 rfl ?_
    refine m_getI hg ciX11 41 lk_1027 dX11_goes_129 io_82 (Nat.le_of_ble_eq_true rfl) rfl ?_
    refine e_ineg hg dX11_goes_132 ?_
    refine e_i2l hg dX11_goes_133 ?_
    refine e_aload_n hg dX11_goes_134 rfl ?_
    refine m_getR (q := 101) hg ciX11 33 lk_1019 dX11_goes_135 io_82 (Nat.le_of_ble_eq_true rfl) rfl rf_82_33 ?_
    refine e_iload_n hg dX11_goes_138 rfl ?_
    refine e_iconst (v := 1) hg dX11_goes_139 (by decide) ?_
    refine e_isub hg dX11_goes_140 ?_
    obtain ⟨hi28, h⟩ := o_gd h
    refine m_lald hg sh_101 hi28 dX11_goes_141 ?_
    refine e_lmul hg dX11_goes_142 ?_
    refine e_goto hg 147 dX11_goes_143 (by decide) ?_
    exact X11_goes_b147_ok hg hr  h

def X11_goes_b116 (a1 : Int32) (a2 : Int32) (a3 : Int32) (a4 : Int32) (x5 : Int32) (x7 : Int64) (M : mm) : Option (Int64 × mm) :=
  X11_goes_b121 a1 a2 a3 a4 x5 x7 1 M
set_option maxRecDepth 100000 in
set_option maxHeartbeats 4000000 in
theorem X11_goes_b116_ok {g : gx} (hg : EC g cX11_goes RX11 1) {a1 : Int32} {a2 : Int32} {a3 : Int32} {a4 : Int32} {r : Int64 × mm} (hr : RT g (some .long) (0, 0) (some (.long r.1)) (cells r.2)) {x5 : Int32} {x7 : Int64} {o6 : Option Value} {o9 : Option Value} {o10 : Option Value} {o11 : Option Value} {M : mm} (h : X11_goes_b116 a1 a2 a3 a4 x5 x7 M = some r) : E g (0, 0) 116 [some (.ref 82), some (.int a1), some (.int a2), some (.int a3), some (.int a4), some (.int x5), o6, some (.long x7), none, o9, o10, o11] [] (cells M) := by
  unfold X11_goes_b116 at h
  refine e_iconst (v := 1) hg dX11_goes_116 (by decide) ?_
  refine e_goto hg 121 dX11_goes_117 (by decide) ?_
  exact X11_goes_b121_ok hg hr  h

def X11_goes_b26 (a1 : Int32) (a2 : Int32) (a3 : Int32) (a4 : Int32) (x5 : Int32) (s0 : Int32) (M : mm) : Option (Int64 × mm) :=
  gd (inb (a1 - 1) 7) <|
  bd (X11_placeOf (a1 - 1) a2 a3 s0 M) fun v6 M7 =>
  gd (inb v6 8400) <|
  lt_ ((((M.1 82 40).toInt64 * (M.2.1 101 (a1 - 1).toNatClampNeg)) + (M7.2.1 103 v6.toNatClampNeg))) fun z10 =>
  if 1 < a2 then
    gd (inb (a1 - 1) 7) <|
    bd (X11_placeOf (a1 - 1) (a2 - 1) a3 s0 M7) fun v13 M14 =>
    gd (inb v13 8400) <|
    lt_ ((((M7.1 82 40).toInt64 * (M7.2.1 101 (a1 - 1).toNatClampNeg)) + (M14.2.1 103 v13.toNatClampNeg))) fun z17 =>
    X11_goes_b164 a1 a2 a3 a4 x5 z10 z17 M14
  else
    if a3 = 1 then
      bd (X11_isForgotten a4 M7) fun v19 M20 =>
      if v19 = 0 then
        X11_goes_b121 a1 a2 a3 a4 x5 z10 0 M20
      else
        X11_goes_b116 a1 a2 a3 a4 x5 z10 M20
    else
      X11_goes_b116 a1 a2 a3 a4 x5 z10 M7
set_option maxRecDepth 100000 in
set_option maxHeartbeats 4000000 in
theorem X11_goes_b26_ok {g : gx} (hg : EC g cX11_goes RX11 1) {a1 : Int32} {a2 : Int32} {a3 : Int32} {a4 : Int32} {r : Int64 × mm} (hr : RT g (some .long) (0, 0) (some (.long r.1)) (cells r.2)) {x5 : Int32} {s0 : Int32} {o6 : Option Value} {o7 : Option Value} {o8 : Option Value} {o9 : Option Value} {o10 : Option Value} {o11 : Option Value} {M : mm} (h : X11_goes_b26 a1 a2 a3 a4 x5 s0 M = some r) : E g (0, 0) 26 [some (.ref 82), some (.int a1), some (.int a2), some (.int a3), some (.int a4), some (.int x5), o6, o7, o8, o9, o10, o11] [.int s0] (cells M) := by
  unfold X11_goes_b26 at h
  refine e_istore (ls' := [some (.ref 82), some (.int a1), some (.int a2), some (.int a3), some (.int a4), some (.int x5), some (.int s0), o7, o8, o9, o10, o11]) hg dX11_goes_26 rfl ?_
  refine e_aload_n hg dX11_goes_28 rfl ?_
  refine m_getI hg ciX11 40 lk_1026 dX11_goes_29 io_82 (Nat.le_of_ble_eq_true rfl) rfl ?_
  refine e_i2l hg dX11_goes_32 ?_
  refine e_aload_n hg dX11_goes_33 rfl ?_
  refine m_getR (q := 101) hg ciX11 33 lk_1019 dX11_goes_34 io_82 (Nat.le_of_ble_eq_true rfl) rfl rf_82_33 ?_
  refine e_iload_n hg dX11_goes_37 rfl ?_
  refine e_iconst (v := 1) hg dX11_goes_38 (by decide) ?_
  refine e_isub hg dX11_goes_39 ?_
  obtain ⟨hi5, h⟩ := o_gd h
  refine m_lald hg sh_101 hi5 dX11_goes_40 ?_
  refine e_lmul hg dX11_goes_41 ?_
  refine e_aload_n hg dX11_goes_42 rfl ?_
  refine m_getR (q := 103) hg ciX11 35 lk_1021 dX11_goes_43 io_82 (Nat.le_of_ble_eq_true rfl) rfl rf_82_35 ?_
  refine e_iload_n hg dX11_goes_46 rfl ?_
  refine e_iconst (v := 1) hg dX11_goes_47 (by decide) ?_
  refine e_isub hg dX11_goes_48 ?_
  refine e_iload_n hg dX11_goes_49 rfl ?_
  refine e_iload_n hg dX11_goes_50 rfl ?_
  refine e_iload hg dX11_goes_51 rfl ?_
  obtain ⟨v6, M7, hc8, h⟩ := o_bd h
  refine m_callSI (rest := [.ref 103, .long ((M.1 82 40).toInt64 * (M.2.1 101 (a1 - 1).toNatClampNeg))]) (v := v6) (M' := M7) hg mfX11_placeOf mvX11_placeOf (X11_placeOf_ok (r := (v6, M7)) hc8) lk_1330 dX11_goes_53 rfl rfl (by omega) (Nat.le_of_ble_eq_true rfl) ?_
  obtain ⟨hi9, h⟩ := o_gd h
  refine m_lald hg sh_103 hi9 dX11_goes_56 ?_
  refine e_ladd hg dX11_goes_57 ?_
  obtain ⟨z10, hz10, h⟩ := o_lt h
  refine e_lstore (ls' := [some (.ref 82), some (.int a1), some (.int a2), some (.int a3), some (.int a4), some (.int x5), some (.int s0), some (.long (((M.1 82 40).toInt64 * (M.2.1 101 (a1 - 1).toNatClampNeg)) + (M7.2.1 103 v6.toNatClampNeg))), none, o9, o10, o11]) hg dX11_goes_58 rfl ?_
  rw [← hz10]
  refine e_iload_n hg dX11_goes_60 rfl ?_
  refine e_iconst (v := 1) hg dX11_goes_61 (by decide) ?_
  refine e_icmple hg 102 dX11_goes_62 (by decide) (fun c11 => ?_) (fun c11 => ?_)
  · have h := o_pos c11 h
    refine e_aload_n hg dX11_goes_65 rfl ?_
    refine m_getI hg ciX11 40 lk_1026 dX11_goes_66 io_82 (Nat.le_of_ble_eq_true rfl) rfl ?_
    refine e_i2l hg dX11_goes_69 ?_
    refine e_aload_n hg dX11_goes_70 rfl ?_
    refine m_getR (q := 101) hg ciX11 33 lk_1019 dX11_goes_71 io_82 (Nat.le_of_ble_eq_true rfl) rfl rf_82_33 ?_
    refine e_iload_n hg dX11_goes_74 rfl ?_
    refine e_iconst (v := 1) hg dX11_goes_75 (by decide) ?_
    refine e_isub hg dX11_goes_76 ?_
    obtain ⟨hi12, h⟩ := o_gd h
    refine m_lald hg sh_101 hi12 dX11_goes_77 ?_
    refine e_lmul hg dX11_goes_78 ?_
    refine e_aload_n hg dX11_goes_79 rfl ?_
    refine m_getR (q := 103) hg ciX11 35 lk_1021 dX11_goes_80 io_82 (Nat.le_of_ble_eq_true rfl) rfl rf_82_35 ?_
    refine e_iload_n hg dX11_goes_83 rfl ?_
    refine e_iconst (v := 1) hg dX11_goes_84 (by decide) ?_
    refine e_isub hg dX11_goes_85 ?_
    refine e_iload_n hg dX11_goes_86 rfl ?_
    refine e_iconst (v := 1) hg dX11_goes_87 (by decide) ?_
    refine e_isub hg dX11_goes_88 ?_
    refine e_iload_n hg dX11_goes_89 rfl ?_
    refine e_iload hg dX11_goes_90 rfl ?_
    obtain ⟨v13, M14, hc15, h⟩ := o_bd h
    refine m_callSI (rest := [.ref 103, .long ((M7.1 82 40).toInt64 * (M7.2.1 101 (a1 - 1).toNatClampNeg))]) (v := v13) (M' := M14) hg mfX11_placeOf mvX11_placeOf (X11_placeOf_ok (r := (v13, M14)) hc15) lk_1330 dX11_goes_92 rfl rfl (by omega) (Nat.le_of_ble_eq_true rfl) ?_
    obtain ⟨hi16, h⟩ := o_gd h
    refine m_lald hg sh_103 hi16 dX11_goes_95 ?_
    refine e_ladd hg dX11_goes_96 ?_
    obtain ⟨z17, hz17, h⟩ := o_lt h
    refine e_lstore (ls' := [some (.ref 82), some (.int a1), some (.int a2), some (.int a3), some (.int a4), some (.int x5), some (.int s0), some (.long z10), none, some (.long (((M7.1 82 40).toInt64 * (M7.2.1 101 (a1 - 1).toNatClampNeg)) + (M14.2.1 103 v13.toNatClampNeg))), none, o11]) hg dX11_goes_97 rfl ?_
    rw [← hz17]
    refine e_goto hg 164 dX11_goes_99 (by decide) ?_
    exact X11_goes_b164_ok hg hr  h
  · have h := o_neg c11 h
    refine e_iload_n hg dX11_goes_102 rfl ?_
    refine e_iconst (v := 1) hg dX11_goes_103 (by decide) ?_
    refine e_icmpne hg 116 dX11_goes_104 (by decide) (fun c18 => ?_) (fun c18 => ?_)
    · have h := o_pos c18 h
      refine e_aload_n hg dX11_goes_107 rfl ?_
      refine e_iload hg dX11_goes_108 rfl ?_
      obtain ⟨v19, M20, hc21, h⟩ := o_bd h
      refine m_callVI (rest := []) (v := v19) (M' := M20) (ci := 11) hg mfX11_isForgotten mvX11_isForgotten (X11_isForgotten_ok (r := (v19, M20)) hc21) lk_1341 dX11_goes_110 io_82 rfl rfl rfl (by omega) (Nat.le_of_ble_eq_true rfl) ?_
      refine e_ifeq hg 120 dX11_goes_113 (by decide) (fun c22 => ?_) (fun c22 => ?_)
      · have h := o_pos c22 h
        refine e_iconst (v := 0) hg dX11_goes_120 (by decide) ?_
        exact X11_goes_b121_ok hg hr  h
      · have h := o_neg c22 h
        exact X11_goes_b116_ok hg hr  h
    · have h := o_neg c18 h
      exact X11_goes_b116_ok hg hr  h

def X11_goes (a1 : Int32) (a2 : Int32) (a3 : Int32) (a4 : Int32) (M : mm) : Option (Int64 × mm) :=
  bd (X11_wearsAt a2 a3 a4 M) fun v1 M2 =>
  X11_goes_b26 a1 a2 a3 a4 v1 (if a4 < 99 then (a4 + 1) else a4) M2
set_option maxRecDepth 100000 in
set_option maxHeartbeats 4000000 in
theorem X11_goes_ok {a1 : Int32} {a2 : Int32} {a3 : Int32} {a4 : Int32} {M : mm} {r : Int64 × mm} (h : X11_goes a1 a2 a3 a4 M = some r) : CM yX11_goes cX11_goes 12 (some .long) 1 [.ref 82, .int a1, .int a2, .int a3, .int a4] (cells M) (some (.long r.1)) (cells r.2) := by
  refine cm_of (ls := [some (.ref 82), some (.int a1), some (.int a2), some (.int a3), some (.int a4), none, none, none, none, none, none, none]) mfX11_goes rfl (Nat.le_of_ble_eq_true rfl) (fun g hg hr => ?_)
  unfold X11_goes at h
  refine e_aload_n hg dX11_goes_0 rfl ?_
  refine e_iload_n hg dX11_goes_1 rfl ?_
  refine e_iload_n hg dX11_goes_2 rfl ?_
  refine e_iload hg dX11_goes_3 rfl ?_
  obtain ⟨v1, M2, hc3, h⟩ := o_bd h
  refine m_callVI (rest := []) (v := v1) (M' := M2) (ci := 11) hg mfX11_wearsAt mvX11_wearsAt (X11_wearsAt_ok (r := (v1, M2)) hc3) lk_1337 dX11_goes_5 io_82 rfl rfl rfl (by omega) (Nat.le_of_ble_eq_true rfl) ?_
  refine e_istore (ls' := [some (.ref 82), some (.int a1), some (.int a2), some (.int a3), some (.int a4), some (.int v1), none, none, none, none, none, none]) hg dX11_goes_8 rfl ?_
  refine e_iload hg dX11_goes_10 rfl ?_
  refine e_bipush (v := 99) hg dX11_goes_12 (by decide) ?_
  refine e_icmpge hg 24 dX11_goes_14 (by decide) (fun c4 => ?_) (fun c4 => ?_)
  · simp only [if_pos c4] at h
    refine e_iload hg dX11_goes_17 rfl ?_
    refine e_iconst (v := 1) hg dX11_goes_19 (by decide) ?_
    refine e_iadd hg dX11_goes_20 ?_
    refine e_goto hg 26 dX11_goes_21 (by decide) ?_
    exact X11_goes_b26_ok hg hr  h
  · simp only [if_neg c4] at h
    refine e_iload hg dX11_goes_24 rfl ?_
    exact X11_goes_b26_ok hg hr  h

def X11_worksOut_L17 (a1 : Int32) (K58 : Int32 → Int32 → mm → Option (Unit × mm)) : Nat → Int32 → Int32 → Int32 → mm → Option (Unit × mm)
  | 0, _, _, _, _ => none
  | n_ + 1, x2, x3, x4, M =>
    if x4 < 100 then
      bd (X11_placeOf 0 x2 x3 x4 M) fun v4 M5 =>
      gd (inb v4 8400) <|
      lt_ (sL M5 103 (vp_updL (M5.2.1 103) v4.toNatClampNeg 0)) fun M8 =>
      bd (X11_placeOf 0 x2 x3 x4 M8) fun v9 M10 =>
      gd (inb v9 8400) <|
      lt_ (sA M10 104 (upd (M10.1 104) v9.toNatClampNeg (vp_nar .boolean 0))) fun M13 =>
      (X11_worksOut_L17 a1 K58 n_) x2 x3 (x4 + 1) M13
    else
      K58 x2 x3 M
set_option maxRecDepth 100000 in
set_option maxHeartbeats 4000000 in
theorem X11_worksOut_L17_ok {g : gx} (hg : EC g cX11_worksOut RX11 2) {a1 : Int32} {r : Unit × mm} (hr : RT g (none) (0, 0) none (cells r.2)) {K58 : Int32 → Int32 → mm → Option (Unit × mm)} (hK58 : ∀ (x2 : Int32) (x3 : Int32) (o4 : Option Value) (o5 : Option Value) (o6 : Option Value) (o7 : Option Value) (o8 : Option Value) (o9 : Option Value) (o10 : Option Value) (o11 : Option Value) (M : mm), K58 x2 x3 M = some r → E g (0, 0) 58 [some (.ref 82), some (.int a1), some (.int x2), some (.int x3), o4, o5, o6, o7, o8, o9, o10, o11] [] (cells M)) : ∀ (n_ : Nat) (x2 : Int32) (x3 : Int32) (x4 : Int32) (o5 : Option Value) (o6 : Option Value) (o7 : Option Value) (o8 : Option Value) (o9 : Option Value) (o10 : Option Value) (o11 : Option Value) (M : mm), X11_worksOut_L17 a1 K58 n_ x2 x3 x4 M = some r → E g (0, 0) 17 [some (.ref 82), some (.int a1), some (.int x2), some (.int x3), some (.int x4), o5, o6, o7, o8, o9, o10, o11] [] (cells M) := by
  intro n_
  induction n_ with
  | zero => intro x2 x3 x4 o5 o6 o7 o8 o9 o10 o11 M h; exact o_no h
  | succ n_ ih =>
    intro x2 x3 x4 o5 o6 o7 o8 o9 o10 o11 M h
    rw [X11_worksOut_L17] at h
    refine e_iload hg dX11_worksOut_17 rfl ?_
    refine e_bipush (v := 100) hg dX11_worksOut_19 (by decide) ?_
    refine e_icmpge hg 58 dX11_worksOut_21 (by decide) (fun c3 => ?_) (fun c3 => ?_)
    · have h := o_pos c3 h
      refine e_aload_n hg dX11_worksOut_24 rfl ?_
      refine m_getR (q := 103) hg ciX11 35 lk_1021 dX11_worksOut_25 io_82 (Nat.le_of_ble_eq_true rfl) rfl rf_82_35 ?_
      refine e_iconst (v := 0) hg dX11_worksOut_28 (by decide) ?_
      refine e_iload_n hg dX11_worksOut_29 rfl ?_
      refine e_iload_n hg dX11_worksOut_30 rfl ?_
      refine e_iload hg dX11_worksOut_31 rfl ?_
      obtain ⟨v4, M5, hc6, h⟩ := o_bd h
      refine m_callSI (rest := [.ref 103]) (v := v4) (M' := M5) hg mfX11_placeOf mvX11_placeOf (X11_placeOf_ok (r := (v4, M5)) hc6) lk_1330 dX11_worksOut_33 rfl rfl (by omega) (Nat.le_of_ble_eq_true rfl) ?_
      refine e_lconst (v := 0) hg dX11_worksOut_36 (by decide) ?_
      obtain ⟨hi7, h⟩ := o_gd h
      obtain ⟨M8, hM8, h⟩ := o_lt h
      refine m_last hg sh_103 hi7 dX11_worksOut_37 ?_
      rw [← hM8]
      refine e_aload_n hg dX11_worksOut_38 rfl ?_
      refine m_getR (q := 104) hg ciX11 36 lk_1022 dX11_worksOut_39 io_82 (Nat.le_of_ble_eq_true rfl) rfl rf_82_36 ?_
      refine e_iconst (v := 0) hg dX11_worksOut_42 (by decide) ?_
      refine e_iload_n hg dX11_worksOut_43 rfl ?_
      refine e_iload_n hg dX11_worksOut_44 rfl ?_
      refine e_iload hg dX11_worksOut_45 rfl ?_
      obtain ⟨v9, M10, hc11, h⟩ := o_bd h
      refine m_callSI (rest := [.ref 104]) (v := v9) (M' := M10) hg mfX11_placeOf mvX11_placeOf (X11_placeOf_ok (r := (v9, M10)) hc11) lk_1330 dX11_worksOut_47 rfl rfl (by omega) (Nat.le_of_ble_eq_true rfl) ?_
      refine e_iconst (v := 0) hg dX11_worksOut_50 (by decide) ?_
      obtain ⟨hi12, h⟩ := o_gd h
      obtain ⟨M13, hM13, h⟩ := o_lt h
      refine m_zast hg sh_104 hi12 dX11_worksOut_51 ?_
      rw [← hM13]
      refine e_iinc (v := (x4 + 1)) (ls' := [some (.ref 82), some (.int a1), some (.int x2), some (.int x3), some (.int (x4 + 1)), o5, o6, o7, o8, o9, o10, o11]) hg dX11_worksOut_52 rfl rfl rfl ?_
      refine e_goto hg 17 dX11_worksOut_55 (by decide) ?_
      exact ih _ _ _ _ _ _ _ _ _ _ _ h
    · have h := o_neg c3 h
      exact hK58 _ _ _ _ _ _ _ _ _ _ _ h

def X11_worksOut_L9 (a1 : Int32) (K64 : Int32 → mm → Option (Unit × mm)) : Nat → Int32 → Int32 → mm → Option (Unit × mm)
  | 0, _, _, _ => none
  | n_ + 1, x2, x3, M =>
    if x3 < 3 then
      X11_worksOut_L17 a1 (fun x2 x3 M =>
          (X11_worksOut_L9 a1 K64 n_) x2 (x3 + 1) M) 10000 x2 x3 0 M
    else
      K64 x2 M
set_option maxRecDepth 100000 in
set_option maxHeartbeats 4000000 in
theorem X11_worksOut_L9_ok {g : gx} (hg : EC g cX11_worksOut RX11 2) {a1 : Int32} {r : Unit × mm} (hr : RT g (none) (0, 0) none (cells r.2)) {K64 : Int32 → mm → Option (Unit × mm)} (hK64 : ∀ (x2 : Int32) (o3 : Option Value) (o4 : Option Value) (o5 : Option Value) (o6 : Option Value) (o7 : Option Value) (o8 : Option Value) (o9 : Option Value) (o10 : Option Value) (o11 : Option Value) (M : mm), K64 x2 M = some r → E g (0, 0) 64 [some (.ref 82), some (.int a1), some (.int x2), o3, o4, o5, o6, o7, o8, o9, o10, o11] [] (cells M)) : ∀ (n_ : Nat) (x2 : Int32) (x3 : Int32) (o4 : Option Value) (o5 : Option Value) (o6 : Option Value) (o7 : Option Value) (o8 : Option Value) (o9 : Option Value) (o10 : Option Value) (o11 : Option Value) (M : mm), X11_worksOut_L9 a1 K64 n_ x2 x3 M = some r → E g (0, 0) 9 [some (.ref 82), some (.int a1), some (.int x2), some (.int x3), o4, o5, o6, o7, o8, o9, o10, o11] [] (cells M) := by
  intro n_
  induction n_ with
  | zero => intro x2 x3 o4 o5 o6 o7 o8 o9 o10 o11 M h; exact o_no h
  | succ n_ ih =>
    intro x2 x3 o4 o5 o6 o7 o8 o9 o10 o11 M h
    rw [X11_worksOut_L9] at h
    refine e_iload_n hg dX11_worksOut_9 rfl ?_
    refine e_iconst (v := 3) hg dX11_worksOut_10 (by decide) ?_
    refine e_icmpge hg 64 dX11_worksOut_11 (by decide) (fun c2 => ?_) (fun c2 => ?_)
    · have h := o_pos c2 h
      refine e_iconst (v := 0) hg dX11_worksOut_14 (by decide) ?_
      refine e_istore (ls' := [some (.ref 82), some (.int a1), some (.int x2), some (.int x3), some (.int 0), o5, o6, o7, o8, o9, o10, o11]) hg dX11_worksOut_15 rfl ?_
      refine X11_worksOut_L17_ok hg hr (fun x2 x3 o4 o5 o6 o7 o8 o9 o10 o11 M h => ?_) 10000 _ _ _ _ _ _ _ _ _ _ _ h
      refine e_iinc (v := (x3 + 1)) (ls' := [some (.ref 82), some (.int a1), some (.int x2), some (.int (x3 + 1)), o4, o5, o6, o7, o8, o9, o10, o11]) hg dX11_worksOut_58 rfl rfl rfl ?_
      refine e_goto hg 9 dX11_worksOut_61 (by decide) ?_
      exact ih _ _ _ _ _ _ _ _ _ _ _ h
    · have h := o_neg c2 h
      exact hK64 _ _ _ _ _ _ _ _ _ _ _ h

def X11_worksOut_L2 (a1 : Int32) (K70 : mm → Option (Unit × mm)) : Nat → Int32 → mm → Option (Unit × mm)
  | 0, _, _ => none
  | n_ + 1, x2, M =>
    if x2 < 4 then
      X11_worksOut_L9 a1 (fun x2 M =>
          (X11_worksOut_L2 a1 K70 n_) (x2 + 1) M) 10000 x2 0 M
    else
      K70 M
set_option maxRecDepth 100000 in
set_option maxHeartbeats 4000000 in
theorem X11_worksOut_L2_ok {g : gx} (hg : EC g cX11_worksOut RX11 2) {a1 : Int32} {r : Unit × mm} (hr : RT g (none) (0, 0) none (cells r.2)) {K70 : mm → Option (Unit × mm)} (hK70 : ∀ (o2 : Option Value) (o3 : Option Value) (o4 : Option Value) (o5 : Option Value) (o6 : Option Value) (o7 : Option Value) (o8 : Option Value) (o9 : Option Value) (o10 : Option Value) (o11 : Option Value) (M : mm), K70 M = some r → E g (0, 0) 70 [some (.ref 82), some (.int a1), o2, o3, o4, o5, o6, o7, o8, o9, o10, o11] [] (cells M)) : ∀ (n_ : Nat) (x2 : Int32) (o3 : Option Value) (o4 : Option Value) (o5 : Option Value) (o6 : Option Value) (o7 : Option Value) (o8 : Option Value) (o9 : Option Value) (o10 : Option Value) (o11 : Option Value) (M : mm), X11_worksOut_L2 a1 K70 n_ x2 M = some r → E g (0, 0) 2 [some (.ref 82), some (.int a1), some (.int x2), o3, o4, o5, o6, o7, o8, o9, o10, o11] [] (cells M) := by
  intro n_
  induction n_ with
  | zero => intro x2 o3 o4 o5 o6 o7 o8 o9 o10 o11 M h; exact o_no h
  | succ n_ ih =>
    intro x2 o3 o4 o5 o6 o7 o8 o9 o10 o11 M h
    rw [X11_worksOut_L2] at h
    refine e_iload_n hg dX11_worksOut_2 rfl ?_
    refine e_iconst (v := 4) hg dX11_worksOut_3 (by decide) ?_
    refine e_icmpge hg 70 dX11_worksOut_4 (by decide) (fun c1 => ?_) (fun c1 => ?_)
    · have h := o_pos c1 h
      refine e_iconst (v := 0) hg dX11_worksOut_7 (by decide) ?_
      refine e_istore_n (ls' := [some (.ref 82), some (.int a1), some (.int x2), some (.int 0), o4, o5, o6, o7, o8, o9, o10, o11]) hg dX11_worksOut_8 rfl ?_
      refine X11_worksOut_L9_ok hg hr (fun x2 o3 o4 o5 o6 o7 o8 o9 o10 o11 M h => ?_) 10000 _ _ _ _ _ _ _ _ _ _ _ h
      refine e_iinc (v := (x2 + 1)) (ls' := [some (.ref 82), some (.int a1), some (.int (x2 + 1)), o3, o4, o5, o6, o7, o8, o9, o10, o11]) hg dX11_worksOut_64 rfl rfl rfl ?_
      refine e_goto hg 2 dX11_worksOut_67 (by decide) ?_
      exact ih _ _ _ _ _ _ _ _ _ _ _ h
    · have h := o_neg c1 h
      exact hK70 _ _ _ _ _ _ _ _ _ _ _ h

def X11_worksOut_b237 (a1 : Int32) (R138 : Int32 → Int32 → Int64 → Int32 → Int32 → mm → Option (Unit × mm)) (K244 : Int32 → Int32 → Int64 → Int32 → mm → Option (Unit × mm)) (x2 : Int32) (x3 : Int32) (x5 : Int64) (x7 : Int32) (x8 : Int32) (s1 : Int32) (s2 : Int64) (M : mm) : Option (Unit × mm) :=
  gd (inb s1 8400) <|
  lt_ (sL M 103 (vp_updL (M.2.1 103) s1.toNatClampNeg s2)) fun M39 =>
  R138 x2 x3 x5 x7 (x8 + 1) M39
set_option maxRecDepth 100000 in
set_option maxHeartbeats 4000000 in
theorem X11_worksOut_b237_ok {g : gx} (hg : EC g cX11_worksOut RX11 2) {a1 : Int32} {r : Unit × mm} (hr : RT g (none) (0, 0) none (cells r.2)) {R138 : Int32 → Int32 → Int64 → Int32 → Int32 → mm → Option (Unit × mm)} (hR138 : ∀ (x2 : Int32) (x3 : Int32) (x5 : Int64) (x7 : Int32) (x8 : Int32) (o4 : Option Value) (o9 : Option Value) (o10 : Option Value) (o11 : Option Value) (M : mm), R138 x2 x3 x5 x7 x8 M = some r → E g (0, 0) 138 [some (.ref 82), some (.int a1), some (.int x2), some (.int x3), o4, some (.long x5), none, some (.int x7), some (.int x8), o9, o10, o11] [] (cells M)) {K244 : Int32 → Int32 → Int64 → Int32 → mm → Option (Unit × mm)} (hK244 : ∀ (x2 : Int32) (x3 : Int32) (x5 : Int64) (x7 : Int32) (o4 : Option Value) (o8 : Option Value) (o9 : Option Value) (o10 : Option Value) (o11 : Option Value) (M : mm), K244 x2 x3 x5 x7 M = some r → E g (0, 0) 244 [some (.ref 82), some (.int a1), some (.int x2), some (.int x3), o4, some (.long x5), none, some (.int x7), o8, o9, o10, o11] [] (cells M)) {x2 : Int32} {x3 : Int32} {x5 : Int64} {x7 : Int32} {x8 : Int32} {s1 : Int32} {s2 : Int64} {o4 : Option Value} {o9 : Option Value} {o10 : Option Value} {o11 : Option Value} {M : mm} (h : X11_worksOut_b237 a1 R138 K244 x2 x3 x5 x7 x8 s1 s2 M = some r) : E g (0, 0) 237 [some (.ref 82), some (.int a1), some (.int x2), some (.int x3), o4, some (.long x5), none, some (.int x7), some (.int x8), o9, o10, o11] [.long s2, .int s1, .ref 103] (cells M) := by
  unfold X11_worksOut_b237 at h
  obtain ⟨hi38, h⟩ := o_gd h
  obtain ⟨M39, hM39, h⟩ := o_lt h
  refine m_last hg sh_103 hi38 dX11_worksOut_237 ?_
  rw [← hM39]
  refine e_iinc (v := (x8 + 1)) (ls' := [some (.ref 82), some (.int a1), some (.int x2), some (.int x3), o4, some (.long x5), none, some (.int x7), some (.int (x8 + 1)), o9, o10, o11]) hg dX11_worksOut_238 rfl rfl rfl ?_
  refine e_goto hg 138 dX11_worksOut_241 (by decide) ?_
  exact hR138 _ _ _ _ _ _ _ _ _ _ h

def X11_worksOut_b194 (a1 : Int32) (R138 : Int32 → Int32 → Int64 → Int32 → Int32 → mm → Option (Unit × mm)) (K244 : Int32 → Int32 → Int64 → Int32 → mm → Option (Unit × mm)) (x2 : Int32) (x3 : Int32) (x5 : Int64) (x7 : Int32) (x8 : Int32) (x9 : Int64) (s0 : Int32) (M : mm) : Option (Unit × mm) :=
  bd (X11_placeOf x2 x3 x7 x8 M) fun v29 M30 =>
  gd (inb v29 8400) <|
  lt_ (sA M30 104 (upd (M30.1 104) v29.toNatClampNeg (vp_nar .boolean s0))) fun M33 =>
  bd (X11_placeOf x2 x3 x7 x8 M33) fun v34 M35 =>
  X11_worksOut_b237 a1 R138 K244 x2 x3 x5 x7 x8 v34 (if s0 = 0 then x9 else x5) M35
set_option maxRecDepth 100000 in
set_option maxHeartbeats 4000000 in
theorem X11_worksOut_b194_ok {g : gx} (hg : EC g cX11_worksOut RX11 2) {a1 : Int32} {r : Unit × mm} (hr : RT g (none) (0, 0) none (cells r.2)) {R138 : Int32 → Int32 → Int64 → Int32 → Int32 → mm → Option (Unit × mm)} (hR138 : ∀ (x2 : Int32) (x3 : Int32) (x5 : Int64) (x7 : Int32) (x8 : Int32) (o4 : Option Value) (o9 : Option Value) (o10 : Option Value) (o11 : Option Value) (M : mm), R138 x2 x3 x5 x7 x8 M = some r → E g (0, 0) 138 [some (.ref 82), some (.int a1), some (.int x2), some (.int x3), o4, some (.long x5), none, some (.int x7), some (.int x8), o9, o10, o11] [] (cells M)) {K244 : Int32 → Int32 → Int64 → Int32 → mm → Option (Unit × mm)} (hK244 : ∀ (x2 : Int32) (x3 : Int32) (x5 : Int64) (x7 : Int32) (o4 : Option Value) (o8 : Option Value) (o9 : Option Value) (o10 : Option Value) (o11 : Option Value) (M : mm), K244 x2 x3 x5 x7 M = some r → E g (0, 0) 244 [some (.ref 82), some (.int a1), some (.int x2), some (.int x3), o4, some (.long x5), none, some (.int x7), o8, o9, o10, o11] [] (cells M)) {x2 : Int32} {x3 : Int32} {x5 : Int64} {x7 : Int32} {x8 : Int32} {x9 : Int64} {s0 : Int32} {o4 : Option Value} {o11 : Option Value} {M : mm} (h : X11_worksOut_b194 a1 R138 K244 x2 x3 x5 x7 x8 x9 s0 M = some r) : E g (0, 0) 194 [some (.ref 82), some (.int a1), some (.int x2), some (.int x3), o4, some (.long x5), none, some (.int x7), some (.int x8), some (.long x9), none, o11] [.int s0] (cells M) := by
  unfold X11_worksOut_b194 at h
  refine e_istore (ls' := [some (.ref 82), some (.int a1), some (.int x2), some (.int x3), o4, some (.long x5), none, some (.int x7), some (.int x8), some (.long x9), none, some (.int s0)]) hg dX11_worksOut_194 rfl ?_
  refine e_aload_n hg dX11_worksOut_196 rfl ?_
  refine m_getR (q := 104) hg ciX11 36 lk_1022 dX11_worksOut_197 io_82 (Nat.le_of_ble_eq_true rfl) rfl rf_82_36 ?_
  refine e_iload_n hg dX11_worksOut_200 rfl ?_
  refine e_iload_n hg dX11_worksOut_201 rfl ?_
  refine e_iload hg dX11_worksOut_202 rfl ?_
  refine e_iload hg dX11_worksOut_204 rfl ?_
  obtain ⟨v29, M30, hc31, h⟩ := o_bd h
  refine m_callSI (rest := [.ref 104]) (v := v29) (M' := M30) hg mfX11_placeOf mvX11_placeOf (X11_placeOf_ok (r := (v29, M30)) hc31) lk_1330 dX11_worksOut_206 rfl rfl (by omega) (Nat.le_of_ble_eq_true rfl) ?_
  refine e_iload hg dX11_worksOut_209 rfl ?_
  obtain ⟨hi32, h⟩ := o_gd h
  obtain ⟨M33, hM33, h⟩ := o_lt h
  refine m_zast hg sh_104 hi32 dX11_worksOut_211 ?_
  rw [← hM33]
  refine e_aload_n hg dX11_worksOut_212 rfl ?_
  refine m_getR (q := 103) hg ciX11 35 lk_1021 dX11_worksOut_213 io_82 (Nat.le_of_ble_eq_true rfl) rfl rf_82_35 ?_
  refine e_iload_n hg dX11_worksOut_216 rfl ?_
  refine e_iload_n hg dX11_worksOut_217 rfl ?_
  refine e_iload hg dX11_worksOut_218 rfl ?_
  refine e_iload hg dX11_worksOut_220 rfl ?_
  obtain ⟨v34, M35, hc36, h⟩ := o_bd h
  refine m_callSI (rest := [.ref 103]) (v := v34) (M' := M35) hg mfX11_placeOf mvX11_placeOf (X11_placeOf_ok (r := (v34, M35)) hc36) lk_1330 dX11_worksOut_222 rfl rfl (by omega) (Nat.le_of_ble_eq_true rfl) ?_
  refine e_iload hg dX11_worksOut_225 rfl ?_
  refine e_ifeq hg 235 dX11_worksOut_227 (by decide) (fun c37 => ?_) (fun c37 => ?_)
  · simp only [if_pos c37] at h
    refine e_lload hg dX11_worksOut_235 rfl ?_
    exact X11_worksOut_b237_ok hg hr hR138 hK244 h
  · simp only [if_neg c37] at h
    refine e_lload hg dX11_worksOut_230 rfl ?_
    refine e_goto hg 237 dX11_worksOut_232 (by decide) ?_
    exact X11_worksOut_b237_ok hg hr hR138 hK244 h

def X11_worksOut_L138 (a1 : Int32) (K244 : Int32 → Int32 → Int64 → Int32 → mm → Option (Unit × mm)) : Nat → Int32 → Int32 → Int64 → Int32 → Int32 → mm → Option (Unit × mm)
  | 0, _, _, _, _, _, _ => none
  | n_ + 1, x2, x3, x5, x7, x8, M =>
    if x8 < 100 then
      bd (X11_goes x2 x3 x7 x8 M) fun v24 M25 =>
      X11_worksOut_b194 a1 (X11_worksOut_L138 a1 K244 n_) K244 x2 x3 x5 x7 x8 v24 (if (M25.1 82 39) = 4 then (if 0 < (lg_cmp x5 v24) then 1 else 0) else (if (M25.1 82 39) < x3 then 0 else 1)) M25
    else
      K244 x2 x3 x5 x7 M
set_option maxRecDepth 100000 in
set_option maxHeartbeats 4000000 in
theorem X11_worksOut_L138_ok {g : gx} (hg : EC g cX11_worksOut RX11 2) {a1 : Int32} {r : Unit × mm} (hr : RT g (none) (0, 0) none (cells r.2)) {K244 : Int32 → Int32 → Int64 → Int32 → mm → Option (Unit × mm)} (hK244 : ∀ (x2 : Int32) (x3 : Int32) (x5 : Int64) (x7 : Int32) (o4 : Option Value) (o8 : Option Value) (o9 : Option Value) (o10 : Option Value) (o11 : Option Value) (M : mm), K244 x2 x3 x5 x7 M = some r → E g (0, 0) 244 [some (.ref 82), some (.int a1), some (.int x2), some (.int x3), o4, some (.long x5), none, some (.int x7), o8, o9, o10, o11] [] (cells M)) : ∀ (n_ : Nat) (x2 : Int32) (x3 : Int32) (x5 : Int64) (x7 : Int32) (x8 : Int32) (o4 : Option Value) (o9 : Option Value) (o10 : Option Value) (o11 : Option Value) (M : mm), X11_worksOut_L138 a1 K244 n_ x2 x3 x5 x7 x8 M = some r → E g (0, 0) 138 [some (.ref 82), some (.int a1), some (.int x2), some (.int x3), o4, some (.long x5), none, some (.int x7), some (.int x8), o9, o10, o11] [] (cells M) := by
  intro n_
  induction n_ with
  | zero => intro x2 x3 x5 x7 x8 o4 o9 o10 o11 M h; exact o_no h
  | succ n_ ih =>
    intro x2 x3 x5 x7 x8 o4 o9 o10 o11 M h
    rw [X11_worksOut_L138] at h
    refine e_iload hg dX11_worksOut_138 rfl ?_
    refine e_bipush (v := 100) hg dX11_worksOut_140 (by decide) ?_
    refine e_icmpge hg 244 dX11_worksOut_142 (by decide) (fun c23 => ?_) (fun c23 => ?_)
    · have h := o_pos c23 h
      refine e_aload_n hg dX11_worksOut_145 rfl ?_
      refine e_iload_n hg dX11_worksOut_146 rfl ?_
      refine e_iload_n hg dX11_worksOut_147 rfl ?_
      refine e_iload hg dX11_worksOut_148 rfl ?_
      refine e_iload hg dX11_worksOut_150 rfl ?_
      obtain ⟨v24, M25, hc26, h⟩ := o_bd h
      refine m_callVJ (rest := []) (v := v24) (M' := M25) (ci := 11) hg mfX11_goes mvX11_goes (X11_goes_ok (r := (v24, M25)) hc26) lk_1333 dX11_worksOut_152 io_82 rfl rfl rfl (by omega) (Nat.le_of_ble_eq_true rfl) ?_
      refine e_lstore (ls' := [some (.ref 82), some (.int a1), some (.int x2), some (.int x3), o4, some (.long x5), none, some (.int x7), some (.int x8), some (.long v24), none, o11]) hg dX11_worksOut_155 rfl ?_
      refine e_aload_n hg dX11_worksOut_157 rfl ?_
      refine m_getI hg ciX11 39 lk_1025 dX11_worksOut_158 io_82 (Nat.le_of_ble_eq_true rfl) rfl ?_
      refine e_iconst (v := 4) hg dX11_worksOut_161 (by decide) ?_
      refine e_icmpne hg 181 dX11_worksOut_162 (by decide) (fun c27 => ?_) (fun c27 => ?_)
      · simp only [if_pos c27] at h
        refine e_lload hg dX11_worksOut_165 rfl ?_
        refine e_lload hg dX11_worksOut_167 rfl ?_
        refine e_lcmp hg dX11_worksOut_169 ?_
        refine e_ifle hg 177 dX11_worksOut_170 (by decide) (fun c28 => ?_) (fun c28 => ?_)
        · simp only [if_pos c28] at h
          refine e_iconst (v := 1) hg dX11_worksOut_173 (by decide) ?_
          refine e_goto hg 194 dX11_worksOut_174 (by decide) ?_
          exact X11_worksOut_b194_ok hg hr ih hK244 h
        · simp only [if_neg c28] at h
          refine e_iconst (v := 0) hg dX11_worksOut_177 (by decide) ?_
          refine e_goto hg 194 dX11_worksOut_178 (by decide) ?_
          exact X11_worksOut_b194_ok hg hr ih hK244 h
      · simp only [if_neg c27] at h
        refine e_iload_n hg dX11_worksOut_181 rfl ?_
        refine e_aload_n hg dX11_worksOut_182 rfl ?_
        refine m_getI hg ciX11 39 lk_1025 dX11_worksOut_183 io_82 (Nat.le_of_ble_eq_true rfl) rfl ?_
        refine e_icmpgt hg 193 dX11_worksOut_186 (by decide) (fun c40 => ?_) (fun c40 => ?_)
        · simp only [if_pos c40] at h
          refine e_iconst (v := 0) hg dX11_worksOut_193 (by decide) ?_
          exact X11_worksOut_b194_ok hg hr ih hK244 h
        · simp only [if_neg c40] at h
          refine e_iconst (v := 1) hg dX11_worksOut_189 (by decide) ?_
          refine e_goto hg 194 dX11_worksOut_190 (by decide) ?_
          exact X11_worksOut_b194_ok hg hr ih hK244 h
    · have h := o_neg c23 h
      exact hK244 _ _ _ _ _ _ _ _ _ _ h

def X11_worksOut_L129 (a1 : Int32) (K250 : Int32 → Int32 → mm → Option (Unit × mm)) : Nat → Int32 → Int32 → Int64 → Int32 → mm → Option (Unit × mm)
  | 0, _, _, _, _, _ => none
  | n_ + 1, x2, x3, x5, x7, M =>
    if x7 < 3 then
      X11_worksOut_L138 a1 (fun x2 x3 x5 x7 M =>
          (X11_worksOut_L129 a1 K250 n_) x2 x3 x5 (x7 + 1) M) 10000 x2 x3 x5 x7 0 M
    else
      K250 x2 x3 M
set_option maxRecDepth 100000 in
set_option maxHeartbeats 4000000 in
theorem X11_worksOut_L129_ok {g : gx} (hg : EC g cX11_worksOut RX11 2) {a1 : Int32} {r : Unit × mm} (hr : RT g (none) (0, 0) none (cells r.2)) {K250 : Int32 → Int32 → mm → Option (Unit × mm)} (hK250 : ∀ (x2 : Int32) (x3 : Int32) (o4 : Option Value) (o5 : Option Value) (o6 : Option Value) (o7 : Option Value) (o8 : Option Value) (o9 : Option Value) (o10 : Option Value) (o11 : Option Value) (M : mm), K250 x2 x3 M = some r → E g (0, 0) 250 [some (.ref 82), some (.int a1), some (.int x2), some (.int x3), o4, o5, o6, o7, o8, o9, o10, o11] [] (cells M)) : ∀ (n_ : Nat) (x2 : Int32) (x3 : Int32) (x5 : Int64) (x7 : Int32) (o4 : Option Value) (o8 : Option Value) (o9 : Option Value) (o10 : Option Value) (o11 : Option Value) (M : mm), X11_worksOut_L129 a1 K250 n_ x2 x3 x5 x7 M = some r → E g (0, 0) 129 [some (.ref 82), some (.int a1), some (.int x2), some (.int x3), o4, some (.long x5), none, some (.int x7), o8, o9, o10, o11] [] (cells M) := by
  intro n_
  induction n_ with
  | zero => intro x2 x3 x5 x7 o4 o8 o9 o10 o11 M h; exact o_no h
  | succ n_ ih =>
    intro x2 x3 x5 x7 o4 o8 o9 o10 o11 M h
    rw [X11_worksOut_L129] at h
    refine e_iload hg dX11_worksOut_129 rfl ?_
    refine e_iconst (v := 3) hg dX11_worksOut_131 (by decide) ?_
    refine e_icmpge hg 250 dX11_worksOut_132 (by decide) (fun c22 => ?_) (fun c22 => ?_)
    · have h := o_pos c22 h
      refine e_iconst (v := 0) hg dX11_worksOut_135 (by decide) ?_
      refine e_istore (ls' := [some (.ref 82), some (.int a1), some (.int x2), some (.int x3), o4, some (.long x5), none, some (.int x7), some (.int 0), o9, o10, o11]) hg dX11_worksOut_136 rfl ?_
      refine X11_worksOut_L138_ok hg hr (fun x2 x3 x5 x7 o4 o8 o9 o10 o11 M h => ?_) 10000 _ _ _ _ _ _ _ _ _ _ h
      refine e_iinc (v := (x7 + 1)) (ls' := [some (.ref 82), some (.int a1), some (.int x2), some (.int x3), o4, some (.long x5), none, some (.int (x7 + 1)), o8, o9, o10, o11]) hg dX11_worksOut_244 rfl rfl rfl ?_
      refine e_goto hg 129 dX11_worksOut_247 (by decide) ?_
      exact ih _ _ _ _ _ _ _ _ _ _ h
    · have h := o_neg c22 h
      exact hK250 _ _ _ _ _ _ _ _ _ _ _ h

def X11_worksOut_b100 (a1 : Int32) (R79 : Int32 → Int32 → mm → Option (Unit × mm)) (K256 : Int32 → mm → Option (Unit × mm)) (x2 : Int32) (x3 : Int32) (s0 : Int32) (M : mm) : Option (Unit × mm) :=
  bd (X11_goes x2 s0 0 0 M) fun v17 M18 =>
  gd (inb x2 7) <|
  lt_ ((v17 - ((M18.1 82 38).toInt64 * (M18.2.1 101 x2.toNatClampNeg)))) fun z21 =>
  X11_worksOut_L129 a1 (fun x2 x3 M =>
      R79 x2 (x3 + 1) M) 10000 x2 x3 z21 0 M18
set_option maxRecDepth 100000 in
set_option maxHeartbeats 4000000 in
theorem X11_worksOut_b100_ok {g : gx} (hg : EC g cX11_worksOut RX11 2) {a1 : Int32} {r : Unit × mm} (hr : RT g (none) (0, 0) none (cells r.2)) {R79 : Int32 → Int32 → mm → Option (Unit × mm)} (hR79 : ∀ (x2 : Int32) (x3 : Int32) (o4 : Option Value) (o5 : Option Value) (o6 : Option Value) (o7 : Option Value) (o8 : Option Value) (o9 : Option Value) (o10 : Option Value) (o11 : Option Value) (M : mm), R79 x2 x3 M = some r → E g (0, 0) 79 [some (.ref 82), some (.int a1), some (.int x2), some (.int x3), o4, o5, o6, o7, o8, o9, o10, o11] [] (cells M)) {K256 : Int32 → mm → Option (Unit × mm)} (hK256 : ∀ (x2 : Int32) (o3 : Option Value) (o4 : Option Value) (o5 : Option Value) (o6 : Option Value) (o7 : Option Value) (o8 : Option Value) (o9 : Option Value) (o10 : Option Value) (o11 : Option Value) (M : mm), K256 x2 M = some r → E g (0, 0) 256 [some (.ref 82), some (.int a1), some (.int x2), o3, o4, o5, o6, o7, o8, o9, o10, o11] [] (cells M)) {x2 : Int32} {x3 : Int32} {s0 : Int32} {o4 : Option Value} {o5 : Option Value} {o6 : Option Value} {o7 : Option Value} {o8 : Option Value} {o9 : Option Value} {o10 : Option Value} {o11 : Option Value} {M : mm} (h : X11_worksOut_b100 a1 R79 K256 x2 x3 s0 M = some r) : E g (0, 0) 100 [some (.ref 82), some (.int a1), some (.int x2), some (.int x3), o4, o5, o6, o7, o8, o9, o10, o11] [.int s0] (cells M) := by
  unfold X11_worksOut_b100 at h
  refine e_istore (ls' := [some (.ref 82), some (.int a1), some (.int x2), some (.int x3), some (.int s0), o5, o6, o7, o8, o9, o10, o11]) hg dX11_worksOut_100 rfl ?_
  refine e_aload_n hg dX11_worksOut_102 rfl ?_
  refine e_iload_n hg dX11_worksOut_103 rfl ?_
  refine e_iload hg dX11_worksOut_104 rfl ?_
  refine e_iconst (v := 0) hg dX11_worksOut_106 (by decide) ?_
  refine e_iconst (v := 0) hg dX11_worksOut_107 (by decide) ?_
  obtain ⟨v17, M18, hc19, h⟩ := o_bd h
  refine m_callVJ (rest := []) (v := v17) (M' := M18) (ci := 11) hg mfX11_goes mvX11_goes (X11_goes_ok (r := (v17, M18)) hc19) lk_1333 dX11_worksOut_108 io_82 rfl rfl rfl (by omega) (Nat.le_of_ble_eq_true rfl) ?_
  refine e_aload_n hg dX11_worksOut_111 rfl ?_
  refine m_getI hg ciX11 38 lk_1024 dX11_worksOut_112 io_82 (Nat.le_of_ble_eq_true rfl) rfl ?_
  refine e_i2l hg dX11_worksOut_115 ?_
  refine e_aload_n hg dX11_worksOut_116 rfl ?_
  refine m_getR (q := 101) hg ciX11 33 lk_1019 dX11_worksOut_117 io_82 (Nat.le_of_ble_eq_true rfl) rfl rf_82_33 ?_
  refine e_iload_n hg dX11_worksOut_120 rfl ?_
  obtain ⟨hi20, h⟩ := o_gd h
  refine m_lald hg sh_101 hi20 dX11_worksOut_121 ?_
  refine e_lmul hg dX11_worksOut_122 ?_
  refine e_lsub hg dX11_worksOut_123 ?_
  obtain ⟨z21, hz21, h⟩ := o_lt h
  refine e_lstore (ls' := [some (.ref 82), some (.int a1), some (.int x2), some (.int x3), some (.int s0), some (.long (v17 - ((M18.1 82 38).toInt64 * (M18.2.1 101 x2.toNatClampNeg)))), none, o7, o8, o9, o10, o11]) hg dX11_worksOut_124 rfl ?_
  rw [← hz21]
  refine e_iconst (v := 0) hg dX11_worksOut_126 (by decide) ?_
  refine e_istore (ls' := [some (.ref 82), some (.int a1), some (.int x2), some (.int x3), some (.int s0), some (.long z21), none, some (.int 0), o8, o9, o10, o11]) hg dX11_worksOut_127 rfl ?_
  refine X11_worksOut_L129_ok hg hr (fun x2 x3 o4 o5 o6 o7 o8 o9 o10 o11 M h => ?_) 10000 _ _ _ _ _ _ _ _ _ _ h
  refine e_iinc (v := (x3 + 1)) (ls' := [some (.ref 82), some (.int a1), some (.int x2), some (.int (x3 + 1)), o4, o5, o6, o7, o8, o9, o10, o11]) hg dX11_worksOut_250 rfl rfl rfl ?_
  refine e_goto hg 79 dX11_worksOut_253 (by decide) ?_
  exact hR79 _ _ _ _ _ _ _ _ _ _ _ h

def X11_worksOut_L79 (a1 : Int32) (K256 : Int32 → mm → Option (Unit × mm)) : Nat → Int32 → Int32 → mm → Option (Unit × mm)
  | 0, _, _, _ => none
  | n_ + 1, x2, x3, M =>
    if x3 < 4 then
      X11_worksOut_b100 a1 (X11_worksOut_L79 a1 K256 n_) K256 x2 x3 (if x3 < (M.1 82 37) then (M.1 82 37) else x3) M
    else
      K256 x2 M
set_option maxRecDepth 100000 in
set_option maxHeartbeats 4000000 in
theorem X11_worksOut_L79_ok {g : gx} (hg : EC g cX11_worksOut RX11 2) {a1 : Int32} {r : Unit × mm} (hr : RT g (none) (0, 0) none (cells r.2)) {K256 : Int32 → mm → Option (Unit × mm)} (hK256 : ∀ (x2 : Int32) (o3 : Option Value) (o4 : Option Value) (o5 : Option Value) (o6 : Option Value) (o7 : Option Value) (o8 : Option Value) (o9 : Option Value) (o10 : Option Value) (o11 : Option Value) (M : mm), K256 x2 M = some r → E g (0, 0) 256 [some (.ref 82), some (.int a1), some (.int x2), o3, o4, o5, o6, o7, o8, o9, o10, o11] [] (cells M)) : ∀ (n_ : Nat) (x2 : Int32) (x3 : Int32) (o4 : Option Value) (o5 : Option Value) (o6 : Option Value) (o7 : Option Value) (o8 : Option Value) (o9 : Option Value) (o10 : Option Value) (o11 : Option Value) (M : mm), X11_worksOut_L79 a1 K256 n_ x2 x3 M = some r → E g (0, 0) 79 [some (.ref 82), some (.int a1), some (.int x2), some (.int x3), o4, o5, o6, o7, o8, o9, o10, o11] [] (cells M) := by
  intro n_
  induction n_ with
  | zero => intro x2 x3 o4 o5 o6 o7 o8 o9 o10 o11 M h; exact o_no h
  | succ n_ ih =>
    intro x2 x3 o4 o5 o6 o7 o8 o9 o10 o11 M h
    rw [X11_worksOut_L79] at h
    refine e_iload_n hg dX11_worksOut_79 rfl ?_
    refine e_iconst (v := 4) hg dX11_worksOut_80 (by decide) ?_
    refine e_icmpge hg 256 dX11_worksOut_81 (by decide) (fun c15 => ?_) (fun c15 => ?_)
    · have h := o_pos c15 h
      refine e_aload_n hg dX11_worksOut_84 rfl ?_
      refine m_getI hg ciX11 37 lk_1023 dX11_worksOut_85 io_82 (Nat.le_of_ble_eq_true rfl) rfl ?_
      refine e_iload_n hg dX11_worksOut_88 rfl ?_
      refine e_icmple hg 99 dX11_worksOut_89 (by decide) (fun c16 => ?_) (fun c16 => ?_)
      · simp only [if_pos c16] at h
        refine e_aload_n hg dX11_worksOut_92 rfl ?_
        refine m_getI hg ciX11 37 lk_1023 dX11_worksOut_93 io_82 (Nat.le_of_ble_eq_true rfl) rfl ?_
        refine e_goto hg 100 dX11_worksOut_96 (by decide) ?_
        exact X11_worksOut_b100_ok hg hr ih hK256 h
      · simp only [if_neg c16] at h
        refine e_iload_n hg dX11_worksOut_99 rfl ?_
        exact X11_worksOut_b100_ok hg hr ih hK256 h
    · have h := o_neg c15 h
      exact hK256 _ _ _ _ _ _ _ _ _ _ _ h

def X11_worksOut_L72 (a1 : Int32) : Nat → Int32 → mm → Option (Unit × mm)
  | 0, _, _ => none
  | n_ + 1, x2, M =>
    if a1 < x2 then
      some ((), M)
    else
      X11_worksOut_L79 a1 (fun x2 M =>
          (X11_worksOut_L72 a1 n_) (x2 + 1) M) 10000 x2 1 M
set_option maxRecDepth 100000 in
set_option maxHeartbeats 4000000 in
theorem X11_worksOut_L72_ok {g : gx} (hg : EC g cX11_worksOut RX11 2) {a1 : Int32} {r : Unit × mm} (hr : RT g (none) (0, 0) none (cells r.2)) : ∀ (n_ : Nat) (x2 : Int32) (o3 : Option Value) (o4 : Option Value) (o5 : Option Value) (o6 : Option Value) (o7 : Option Value) (o8 : Option Value) (o9 : Option Value) (o10 : Option Value) (o11 : Option Value) (M : mm), X11_worksOut_L72 a1 n_ x2 M = some r → E g (0, 0) 72 [some (.ref 82), some (.int a1), some (.int x2), o3, o4, o5, o6, o7, o8, o9, o10, o11] [] (cells M) := by
  intro n_
  induction n_ with
  | zero => intro x2 o3 o4 o5 o6 o7 o8 o9 o10 o11 M h; exact o_no h
  | succ n_ ih =>
    intro x2 o3 o4 o5 o6 o7 o8 o9 o10 o11 M h
    rw [X11_worksOut_L72] at h
    refine e_iload_n hg dX11_worksOut_72 rfl ?_
    refine e_iload_n hg dX11_worksOut_73 rfl ?_
    refine e_icmpgt hg 262 dX11_worksOut_74 (by decide) (fun c14 => ?_) (fun c14 => ?_)
    · have h := o_pos c14 h
      exact m_vret hg hr dX11_worksOut_262 h
    · have h := o_neg c14 h
      refine e_iconst (v := 1) hg dX11_worksOut_77 (by decide) ?_
      refine e_istore_n (ls' := [some (.ref 82), some (.int a1), some (.int x2), some (.int 1), o4, o5, o6, o7, o8, o9, o10, o11]) hg dX11_worksOut_78 rfl ?_
      refine X11_worksOut_L79_ok hg hr (fun x2 o3 o4 o5 o6 o7 o8 o9 o10 o11 M h => ?_) 10000 _ _ _ _ _ _ _ _ _ _ _ h
      refine e_iinc (v := (x2 + 1)) (ls' := [some (.ref 82), some (.int a1), some (.int (x2 + 1)), o3, o4, o5, o6, o7, o8, o9, o10, o11]) hg dX11_worksOut_256 rfl rfl rfl ?_
      refine e_goto hg 72 dX11_worksOut_259 (by decide) ?_
      exact ih _ _ _ _ _ _ _ _ _ _ _ h

def X11_worksOut (a1 : Int32) (M : mm) : Option (Unit × mm) :=
  X11_worksOut_L2 a1 (fun M =>
      X11_worksOut_L72 a1 10000 1 M) 10000 1 M
set_option maxRecDepth 100000 in
set_option maxHeartbeats 4000000 in
theorem X11_worksOut_ok {a1 : Int32} {M : mm} {r : Unit × mm} (h : X11_worksOut a1 M = some r) : CM yX11_worksOut cX11_worksOut 12 (none) 2 [.ref 82, .int a1] (cells M) none (cells r.2) := by
  refine cm_of (ls := [some (.ref 82), some (.int a1), none, none, none, none, none, none, none, none, none, none]) mfX11_worksOut rfl (Nat.le_of_ble_eq_true rfl) (fun g hg hr => ?_)
  unfold X11_worksOut at h
  refine e_iconst (v := 1) hg dX11_worksOut_0 (by decide) ?_
  refine e_istore_n (ls' := [some (.ref 82), some (.int a1), some (.int 1), none, none, none, none, none, none, none, none, none]) hg dX11_worksOut_1 rfl ?_
  refine X11_worksOut_L2_ok hg hr (fun o2 o3 o4 o5 o6 o7 o8 o9 o10 o11 M h => ?_) 10000 _ _ _ _ _ _ _ _ _ _ _ h
  refine e_iconst (v := 1) hg dX11_worksOut_70 (by decide) ?_
  refine e_istore_n (ls' := [some (.ref 82), some (.int a1), some (.int 1), o3, o4, o5, o6, o7, o8, o9, o10, o11]) hg dX11_worksOut_71 rfl ?_
  exact X11_worksOut_L72_ok hg hr  10000 _ _ _ _ _ _ _ _ _ _ _ h

def X11_sortFor (a1 : Int32) (a2 : Int32) (M : mm) : Option (Int32 × mm) :=
  gd (inb a1 6) <|
  if (M.1 92 a1.toNatClampNeg) < 0 then
    some (2, M)
  else
    gd (inb a1 6) <|
    if (M.1 92 a1.toNatClampNeg) = a2 then
      some (0, M)
    else
      some (1, M)
set_option maxRecDepth 100000 in
set_option maxHeartbeats 4000000 in
theorem X11_sortFor_ok {a1 : Int32} {a2 : Int32} {M : mm} {r : Int32 × mm} (h : X11_sortFor a1 a2 M = some r) : CM yX11_sortFor cX11_sortFor 3 (some .int) 0 [.ref 82, .int a1, .int a2] (cells M) (some (.int r.1)) (cells r.2) := by
  refine cm_of (ls := [some (.ref 82), some (.int a1), some (.int a2)]) mfX11_sortFor rfl (Nat.le_of_ble_eq_true rfl) (fun g hg hr => ?_)
  unfold X11_sortFor at h
  refine e_aload_n hg dX11_sortFor_0 rfl ?_
  refine m_getR (q := 92) hg ciX11 13 lk_999 dX11_sortFor_1 io_82 (Nat.le_of_ble_eq_true rfl) rfl rf_82_13 ?_
  refine e_iload_n hg dX11_sortFor_4 rfl ?_
  obtain ⟨hi1, h⟩ := o_gd h
  refine m_iald hg sh_92 hi1 dX11_sortFor_5 ?_
  refine e_ifge hg 13 dX11_sortFor_6 (by decide) (fun c2 => ?_) (fun c2 => ?_)
  · have h := o_pos c2 h
    refine e_iconst (v := 2) hg dX11_sortFor_9 (by decide) ?_
    refine e_goto hg 28 dX11_sortFor_10 (by decide) ?_
    exact m_iret hg hr dX11_sortFor_28 h
  · have h := o_neg c2 h
    refine e_aload_n hg dX11_sortFor_13 rfl ?_
    refine m_getR (q := 92) hg ciX11 13 lk_999 dX11_sortFor_14 io_82 (Nat.le_of_ble_eq_true rfl) rfl rf_82_13 ?_
    refine e_iload_n hg dX11_sortFor_17 rfl ?_
    obtain ⟨hi3, h⟩ := o_gd h
    refine m_iald hg sh_92 hi3 dX11_sortFor_18 ?_
    refine e_iload_n hg dX11_sortFor_19 rfl ?_
    refine e_icmpne hg 27 dX11_sortFor_20 (by decide) (fun c4 => ?_) (fun c4 => ?_)
    · have h := o_pos c4 h
      refine e_iconst (v := 0) hg dX11_sortFor_23 (by decide) ?_
      refine e_goto hg 28 dX11_sortFor_24 (by decide) ?_
      exact m_iret hg hr dX11_sortFor_28 h
    · have h := o_neg c4 h
      refine e_iconst (v := 1) hg dX11_sortFor_27 (by decide) ?_
      exact m_iret hg hr dX11_sortFor_28 h

def X11_isTy (a1 : Int32) (M : mm) : Option (Int32 × mm) :=
  if a1 < 0 then
    some (0, M)
  else
    bd (X11_isThing (a1 / 10) M) fun v2 M3 =>
    if v2 = 0 then
      some (0, M3)
    else
      if 6 < (a1 - a1 / 10 * 10) then
        some (0, M3)
      else
        some (1, M3)
set_option maxRecDepth 100000 in
set_option maxHeartbeats 4000000 in
theorem X11_isTy_ok {a1 : Int32} {M : mm} {r : Int32 × mm} (h : X11_isTy a1 M = some r) : CM yX11_isTy cX11_isTy 2 (some .boolean) 2 [.ref 82, .int a1] (cells M) (some (.int r.1)) (cells r.2) := by
  refine cm_of (ls := [some (.ref 82), some (.int a1)]) mfX11_isTy rfl (Nat.le_of_ble_eq_true rfl) (fun g hg hr => ?_)
  unfold X11_isTy at h
  refine e_iload_n hg dX11_isTy_0 rfl ?_
  refine e_iflt hg 28 dX11_isTy_1 (by decide) (fun c1 => ?_) (fun c1 => ?_)
  · have h := o_pos c1 h
    refine e_iconst (v := 0) hg dX11_isTy_28 (by decide) ?_
    exact m_zret hg hr rfl dX11_isTy_29 h
  · have h := o_neg c1 h
    refine e_aload_n hg dX11_isTy_4 rfl ?_
    refine e_iload_n hg dX11_isTy_5 rfl ?_
    refine e_bipush (v := 10) hg dX11_isTy_6 (by decide) ?_
    refine e_idiv hg dX11_isTy_8 (by decide) ?_
    obtain ⟨v2, M3, hc4, h⟩ := o_bd h
    refine m_callVI (rest := []) (v := v2) (M' := M3) (ci := 11) hg mfX11_isThing mvX11_isThing (X11_isThing_ok (r := (v2, M3)) hc4) lk_1233 dX11_isTy_9 io_82 rfl rfl rfl (by omega) (Nat.le_of_ble_eq_true rfl) ?_
    refine e_ifeq hg 28 dX11_isTy_12 (by decide) (fun c5 => ?_) (fun c5 => ?_)
    · have h := o_pos c5 h
      refine e_iconst (v := 0) hg dX11_isTy_28 (by decide) ?_
      exact m_zret hg hr rfl dX11_isTy_29 h
    · have h := o_neg c5 h
      refine e_iload_n hg dX11_isTy_15 rfl ?_
      refine e_bipush (v := 10) hg dX11_isTy_16 (by decide) ?_
      refine e_irem hg dX11_isTy_18 (by decide) ?_
      refine e_bipush (v := 6) hg dX11_isTy_19 (by decide) ?_
      refine e_icmpgt hg 28 dX11_isTy_21 (by decide) (fun c6 => ?_) (fun c6 => ?_)
      · have h := o_pos c6 h
        refine e_iconst (v := 0) hg dX11_isTy_28 (by decide) ?_
        exact m_zret hg hr rfl dX11_isTy_29 h
      · have h := o_neg c6 h
        refine e_iconst (v := 1) hg dX11_isTy_24 (by decide) ?_
        refine e_goto hg 29 dX11_isTy_25 (by decide) ?_
        exact m_zret hg hr rfl dX11_isTy_29 h

def X11_common_L17 (a0 : Int64) (a2 : Int64) : Nat → Int64 → Int64 → mm → Option (Int64 × mm)
  | 0, _, _, _ => none
  | n_ + 1, x4, x6, M =>
    if (lg_cmp x6 0) = 0 then
      some (x4, M)
    else
      gd (decide (¬ x6 = 0)) <|
      (X11_common_L17 a0 a2 n_) x6 (x4 - x4 / x6 * x6) M
set_option maxRecDepth 100000 in
set_option maxHeartbeats 4000000 in
theorem X11_common_L17_ok {g : gx} (hg : EC g cX11_common RX11 0) {a0 : Int64} {a2 : Int64} {r : Int64 × mm} (hr : RT g (some .long) (0, 0) (some (.long r.1)) (cells r.2)) : ∀ (n_ : Nat) (x4 : Int64) (x6 : Int64) (o8 : Option Value) (o9 : Option Value) (M : mm), X11_common_L17 a0 a2 n_ x4 x6 M = some r → E g (0, 0) 17 [some (.long a0), none, some (.long a2), none, some (.long x4), none, some (.long x6), none, o8, o9] [] (cells M) := by
  intro n_
  induction n_ with
  | zero => intro x4 x6 o8 o9 M h; exact o_no h
  | succ n_ ih =>
    intro x4 x6 o8 o9 M h
    rw [X11_common_L17] at h
    refine e_lload hg dX11_common_17 rfl ?_
    refine e_lconst (v := 0) hg dX11_common_19 (by decide) ?_
    refine e_lcmp hg dX11_common_20 ?_
    refine e_ifeq hg 42 dX11_common_21 (by decide) (fun c2 => ?_) (fun c2 => ?_)
    · have h := o_pos c2 h
      refine e_lload hg dX11_common_42 rfl ?_
      exact m_lret hg hr dX11_common_44 h
    · have h := o_neg c2 h
      refine e_lload hg dX11_common_24 rfl ?_
      refine e_lload hg dX11_common_26 rfl ?_
      obtain ⟨hz3, h⟩ := o_gd h
      refine e_lrem hg dX11_common_28 (of_decide_eq_true hz3) ?_
      refine e_lstore (ls' := [some (.long a0), none, some (.long a2), none, some (.long x4), none, some (.long x6), none, some (.long (x4 - x4 / x6 * x6)), none]) hg dX11_common_29 rfl ?_
      refine e_lload hg dX11_common_31 rfl ?_
      refine e_lstore (ls' := [some (.long a0), none, some (.long a2), none, some (.long x6), none, some (.long x6), none, some (.long (x4 - x4 / x6 * x6)), none]) hg dX11_common_33 rfl ?_
      refine e_lload hg dX11_common_35 rfl ?_
      refine e_lstore (ls' := [some (.long a0), none, some (.long a2), none, some (.long x6), none, some (.long (x4 - x4 / x6 * x6)), none, some (.long (x4 - x4 / x6 * x6)), none]) hg dX11_common_37 rfl ?_
      refine e_goto hg 17 dX11_common_39 (by decide) ?_
      exact ih _ _ _ _ _ h

def X11_common_b12 (a0 : Int64) (a2 : Int64) (s0 : Int64) (M : mm) : Option (Int64 × mm) :=
  X11_common_L17 a0 a2 10000 s0 a2 M
set_option maxRecDepth 100000 in
set_option maxHeartbeats 4000000 in
theorem X11_common_b12_ok {g : gx} (hg : EC g cX11_common RX11 0) {a0 : Int64} {a2 : Int64} {r : Int64 × mm} (hr : RT g (some .long) (0, 0) (some (.long r.1)) (cells r.2)) {s0 : Int64} {o4 : Option Value} {o5 : Option Value} {o6 : Option Value} {o7 : Option Value} {o8 : Option Value} {o9 : Option Value} {M : mm} (h : X11_common_b12 a0 a2 s0 M = some r) : E g (0, 0) 12 [some (.long a0), none, some (.long a2), none, o4, o5, o6, o7, o8, o9] [.long s0] (cells M) := by
  unfold X11_common_b12 at h
  refine e_lstore (ls' := [some (.long a0), none, some (.long a2), none, some (.long s0), none, o6, o7, o8, o9]) hg dX11_common_12 rfl ?_
  refine e_lload_n hg dX11_common_14 rfl ?_
  refine e_lstore (ls' := [some (.long a0), none, some (.long a2), none, some (.long s0), none, some (.long a2), none, o8, o9]) hg dX11_common_15 rfl ?_
  exact X11_common_L17_ok hg hr  10000 _ _ _ _ _ h

def X11_common (a0 : Int64) (a2 : Int64) (M : mm) : Option (Int64 × mm) :=
  X11_common_b12 a0 a2 (if (lg_cmp a0 0) < 0 then (-a0) else a0) M
set_option maxRecDepth 100000 in
set_option maxHeartbeats 4000000 in
theorem X11_common_ok {a0 : Int64} {a2 : Int64} {M : mm} {r : Int64 × mm} (h : X11_common a0 a2 M = some r) : CM yX11_common cX11_common 10 (some .long) 0 [.long a0, .long a2] (cells M) (some (.long r.1)) (cells r.2) := by
  refine cm_of (ls := [some (.long a0), none, some (.long a2), none, none, none, none, none, none, none]) mfX11_common rfl (Nat.le_of_ble_eq_true rfl) (fun g hg hr => ?_)
  unfold X11_common at h
  refine e_lload_n hg dX11_common_0 rfl ?_
  refine e_lconst (v := 0) hg dX11_common_1 (by decide) ?_
  refine e_lcmp hg dX11_common_2 ?_
  refine e_ifge hg 11 dX11_common_3 (by decide) (fun c1 => ?_) (fun c1 => ?_)
  · simp only [if_pos c1] at h
    refine e_lload_n hg dX11_common_6 rfl ?_
    refine e_lneg hg dX11_common_7 ?_
    refine e_goto hg 12 dX11_common_8 (by decide) ?_
    exact X11_common_b12_ok hg hr  h
  · simp only [if_neg c1] at h
    refine e_lload_n hg dX11_common_11 rfl ?_
    exact X11_common_b12_ok hg hr  h

def X11_partOf (a0 : Int64) (a2 : Int64) (a4 : Int32) (M : mm) : Option (Int64 × mm) :=
  if (lg_cmp a0 0) = 0 then
    some (a4.toInt64, M)
  else
    bd (X11_common a0 a2 M) fun v2 M3 =>
    if a4 = 0 then
      gd (decide (¬ v2 = 0)) <|
      some ((a0 / v2), M3)
    else
      gd (decide (¬ v2 = 0)) <|
      some ((a2 / v2), M3)
set_option maxRecDepth 100000 in
set_option maxHeartbeats 4000000 in
theorem X11_partOf_ok {a0 : Int64} {a2 : Int64} {a4 : Int32} {M : mm} {r : Int64 × mm} (h : X11_partOf a0 a2 a4 M = some r) : CM yX11_partOf cX11_partOf 7 (some .long) 1 [.long a0, .long a2, .int a4] (cells M) (some (.long r.1)) (cells r.2) := by
  refine cm_of (ls := [some (.long a0), none, some (.long a2), none, some (.int a4), none, none]) mfX11_partOf rfl (Nat.le_of_ble_eq_true rfl) (fun g hg hr => ?_)
  unfold X11_partOf at h
  refine e_lload_n hg dX11_partOf_0 rfl ?_
  refine e_lconst (v := 0) hg dX11_partOf_1 (by decide) ?_
  refine e_lcmp hg dX11_partOf_2 ?_
  refine e_ifne hg 10 dX11_partOf_3 (by decide) (fun c1 => ?_) (fun c1 => ?_)
  · have h := o_pos c1 h
    refine e_iload hg dX11_partOf_6 rfl ?_
    refine e_i2l hg dX11_partOf_8 ?_
    exact m_lret hg hr dX11_partOf_9 h
  · have h := o_neg c1 h
    refine e_lload_n hg dX11_partOf_10 rfl ?_
    refine e_lload_n hg dX11_partOf_11 rfl ?_
    obtain ⟨v2, M3, hc4, h⟩ := o_bd h
    refine m_callSJ (rest := []) (v := v2) (M' := M3) hg mfX11_common mvX11_common (X11_common_ok (r := (v2, M3)) hc4) lk_1352 dX11_partOf_12 rfl rfl (by omega) (Nat.le_of_ble_eq_true rfl) ?_
    refine e_lstore (ls' := [some (.long a0), none, some (.long a2), none, some (.int a4), some (.long v2), none]) hg dX11_partOf_15 rfl ?_
    refine e_iload hg dX11_partOf_17 rfl ?_
    refine e_ifne hg 29 dX11_partOf_19 (by decide) (fun c5 => ?_) (fun c5 => ?_)
    · have h := o_pos c5 h
      refine e_lload_n hg dX11_partOf_22 rfl ?_
      refine e_lload hg dX11_partOf_23 rfl ?_
      obtain ⟨hz6, h⟩ := o_gd h
      refine e_ldiv hg dX11_partOf_25 (of_decide_eq_true hz6) ?_
      refine e_goto hg 33 dX11_partOf_26 (by decide) ?_
      exact m_lret hg hr dX11_partOf_33 h
    · have h := o_neg c5 h
      refine e_lload_n hg dX11_partOf_29 rfl ?_
      refine e_lload hg dX11_partOf_30 rfl ?_
      obtain ⟨hz7, h⟩ := o_gd h
      refine e_ldiv hg dX11_partOf_32 (of_decide_eq_true hz7) ?_
      exact m_lret hg hr dX11_partOf_33 h

def X11_bestOf (a1 : Int32) (a2 : Int32) (a3 : Int32) (a4 : Int32) (M : mm) : Option (Int64 × mm) :=
  bd (X11_thinksOf a1 a2 a4 M) fun u1 M2 =>
  bd (X11_worksOut a3 M2) fun u4 M5 =>
  gd (inb a1 6) <|
  bd (X11_sortFor a1 a2 M5) fun v8 M9 =>
  gd (inb a1 6) <|
  bd (X11_placeOf a3 (M5.1 91 a1.toNatClampNeg) v8 (M9.1 94 a1.toNatClampNeg) M9) fun v12 M13 =>
  gd (inb v12 8400) <|
  some ((M13.2.1 103 v12.toNatClampNeg), M13)
set_option maxRecDepth 100000 in
set_option maxHeartbeats 4000000 in
theorem X11_bestOf_ok {a1 : Int32} {a2 : Int32} {a3 : Int32} {a4 : Int32} {M : mm} {r : Int64 × mm} (h : X11_bestOf a1 a2 a3 a4 M = some r) : CM yX11_bestOf cX11_bestOf 5 (some .long) 106 [.ref 82, .int a1, .int a2, .int a3, .int a4] (cells M) (some (.long r.1)) (cells r.2) := by
  refine cm_of (ls := [some (.ref 82), some (.int a1), some (.int a2), some (.int a3), some (.int a4)]) mfX11_bestOf rfl (Nat.le_of_ble_eq_true rfl) (fun g hg hr => ?_)
  unfold X11_bestOf at h
  refine e_aload_n hg dX11_bestOf_0 rfl ?_
  refine e_iload_n hg dX11_bestOf_1 rfl ?_
  refine e_iload_n hg dX11_bestOf_2 rfl ?_
  refine e_iload hg dX11_bestOf_3 rfl ?_
  obtain ⟨u1, M2, hc3, h⟩ := o_bd h
  refine m_callVV (rest := []) (M' := M2) (ci := 11) hg mfX11_thinksOf mvX11_thinksOf (X11_thinksOf_ok (r := (u1, M2)) hc3) lk_1321 dX11_bestOf_5 io_82 rfl rfl rfl (by omega) (Nat.le_of_ble_eq_true rfl) ?_
  refine e_aload_n hg dX11_bestOf_8 rfl ?_
  refine e_iload_n hg dX11_bestOf_9 rfl ?_
  obtain ⟨u4, M5, hc6, h⟩ := o_bd h
  refine m_callVV (rest := []) (M' := M5) (ci := 11) hg mfX11_worksOut mvX11_worksOut (X11_worksOut_ok (r := (u4, M5)) hc6) lk_1326 dX11_bestOf_10 io_82 rfl rfl rfl (by omega) (Nat.le_of_ble_eq_true rfl) ?_
  refine e_aload_n hg dX11_bestOf_13 rfl ?_
  refine m_getR (q := 103) hg ciX11 35 lk_1021 dX11_bestOf_14 io_82 (Nat.le_of_ble_eq_true rfl) rfl rf_82_35 ?_
  refine e_iload_n hg dX11_bestOf_17 rfl ?_
  refine e_aload_n hg dX11_bestOf_18 rfl ?_
  refine m_getR (q := 91) hg ciX11 12 lk_998 dX11_bestOf_19 io_82 (Nat.le_of_ble_eq_true rfl) rfl rf_82_12 ?_
  refine e_iload_n hg dX11_bestOf_22 rfl ?_
  obtain ⟨hi7, h⟩ := o_gd h
  refine m_iald hg sh_91 hi7 dX11_bestOf_23 ?_
  refine e_aload_n hg dX11_bestOf_24 rfl ?_
  refine e_iload_n hg dX11_bestOf_25 rfl ?_
  refine e_iload_n hg dX11_bestOf_26 rfl ?_
  obtain ⟨v8, M9, hc10, h⟩ := o_bd h
  refine m_callVI (rest := [.int (M5.1 91 a1.toNatClampNeg), .int a3, .ref 103]) (v := v8) (M' := M9) (ci := 11) hg mfX11_sortFor mvX11_sortFor (X11_sortFor_ok (r := (v8, M9)) hc10) lk_1345 dX11_bestOf_27 io_82 rfl rfl rfl (by omega) (Nat.le_of_ble_eq_true rfl) ?_
  refine e_aload_n hg dX11_bestOf_30 rfl ?_
  refine m_getR (q := 94) hg ciX11 15 lk_1001 dX11_bestOf_31 io_82 (Nat.le_of_ble_eq_true rfl) rfl rf_82_15 ?_
  refine e_iload_n hg dX11_bestOf_34 rfl ?_
  obtain ⟨hi11, h⟩ := o_gd h
  refine m_iald hg sh_94 hi11 dX11_bestOf_35 ?_
  obtain ⟨v12, M13, hc14, h⟩ := o_bd h
  refine m_callSI (rest := [.ref 103]) (v := v12) (M' := M13) hg mfX11_placeOf mvX11_placeOf (X11_placeOf_ok (r := (v12, M13)) hc14) lk_1330 dX11_bestOf_36 rfl rfl (by omega) (Nat.le_of_ble_eq_true rfl) ?_
  obtain ⟨hi15, h⟩ := o_gd h
  refine m_lald hg sh_103 hi15 dX11_bestOf_39 ?_
  exact m_lret hg hr dX11_bestOf_40 h

def X11_worth_b76 (a1 : Int32) (a2 : Int32) (a3 : Int32) (s1 : Int32) (s2 : Int32) (s3 : Int32) (s4 : Int32) (M : mm) : Option (Int64 × mm) :=
  bd (X11_bestOf s1 s2 s3 s4 M) fun v15 M16 =>
  gd (inb (a1 - a1 / 10 * 10) 7) <|
  bd (X11_partOf v15 (M16.2.1 101 (a1 - a1 / 10 * 10).toNatClampNeg) a3 M16) fun v19 M20 =>
  some (v19, M20)
set_option maxRecDepth 100000 in
set_option maxHeartbeats 4000000 in
theorem X11_worth_b76_ok {g : gx} (hg : EC g cX11_worth RX11 107) {a1 : Int32} {a2 : Int32} {a3 : Int32} {r : Int64 × mm} (hr : RT g (some .long) (0, 0) (some (.long r.1)) (cells r.2)) {s1 : Int32} {s2 : Int32} {s3 : Int32} {s4 : Int32} {o4 : Option Value} {o5 : Option Value} {o6 : Option Value} {M : mm} (h : X11_worth_b76 a1 a2 a3 s1 s2 s3 s4 M = some r) : E g (0, 0) 76 [some (.ref 82), some (.int a1), some (.int a2), some (.int a3), o4, o5, o6] [.int s4, .int s3, .int s2, .int s1, .ref 82] (cells M) := by
  unfold X11_worth_b76 at h
  obtain ⟨v15, M16, hc17, h⟩ := o_bd h
  refine m_callVJ (rest := []) (v := v15) (M' := M16) (ci := 11) hg mfX11_bestOf mvX11_bestOf (X11_bestOf_ok (r := (v15, M16)) hc17) lk_1317 dX11_worth_76 io_82 rfl rfl rfl (by omega) (Nat.le_of_ble_eq_true rfl) ?_
  refine e_drop (ls2 := [some (.ref 82), some (.int a1), some (.int a2), some (.int a3), none, o5, o6]) 4 rfl ?_
  refine e_lstore (ls' := [some (.ref 82), some (.int a1), some (.int a2), some (.int a3), none, some (.long v15), none]) hg dX11_worth_79 rfl ?_
  refine e_lload hg dX11_worth_81 rfl ?_
  refine e_aload_n hg dX11_worth_83 rfl ?_
  refine m_getR (q := 101) hg ciX11 33 lk_1019 dX11_worth_84 io_82 (Nat.le_of_ble_eq_true rfl) rfl rf_82_33 ?_
  refine e_iload_n hg dX11_worth_87 rfl ?_
  refine e_bipush (v := 10) hg dX11_worth_88 (by decide) ?_
  refine e_irem hg dX11_worth_90 (by decide) ?_
  obtain ⟨hi18, h⟩ := o_gd h
  refine m_lald hg sh_101 hi18 dX11_worth_91 ?_
  refine e_iload_n hg dX11_worth_92 rfl ?_
  obtain ⟨v19, M20, hc21, h⟩ := o_bd h
  refine m_callSJ (rest := []) (v := v19) (M' := M20) hg mfX11_partOf mvX11_partOf (X11_partOf_ok (r := (v19, M20)) hc21) lk_1349 dX11_worth_93 rfl rfl (by omega) (Nat.le_of_ble_eq_true rfl) ?_
  exact m_lret hg hr dX11_worth_96 h

def X11_worth (a1 : Int32) (a2 : Int32) (a3 : Int32) (M : mm) : Option (Int64 × mm) :=
  bd (X11_isTy a1 M) fun v1 M2 =>
  if v1 = 0 then
    some ((-9223372036854775808), M2)
  else
    bd (X11_within (a2.toInt64) 0 1 M2) fun v5 M6 =>
    if v5 = 0 then
      some ((-9223372036854775808), M6)
    else
      bd (X11_within (a3.toInt64) 0 1 M6) fun v9 M10 =>
      if v9 = 0 then
        some ((-9223372036854775808), M10)
      else
        gd (inb (a1 / 10) 6) <|
        if a2 = 1 then
          X11_worth_b76 a1 a2 a3 (a1 / 10) (M10.1 90 (a1 / 10).toNatClampNeg) (a1 - a1 / 10 * 10) 4 M10
        else
          gd (inb (a1 / 10) 6) <|
          gd (inb (10 + (M10.1 90 (a1 / 10).toNatClampNeg)) 33) <|
          X11_worth_b76 a1 a2 a3 (a1 / 10) (M10.1 90 (a1 / 10).toNatClampNeg) (a1 - a1 / 10 * 10) (M10.1 83 (10 + (M10.1 90 (a1 / 10).toNatClampNeg)).toNatClampNeg) M10
set_option maxRecDepth 100000 in
set_option maxHeartbeats 4000000 in
theorem X11_worth_ok {a1 : Int32} {a2 : Int32} {a3 : Int32} {M : mm} {r : Int64 × mm} (h : X11_worth a1 a2 a3 M = some r) : CM yX11_worth cX11_worth 7 (some .long) 107 [.ref 82, .int a1, .int a2, .int a3] (cells M) (some (.long r.1)) (cells r.2) := by
  refine cm_of (ls := [some (.ref 82), some (.int a1), some (.int a2), some (.int a3), none, none, none]) mfX11_worth rfl (Nat.le_of_ble_eq_true rfl) (fun g hg hr => ?_)
  unfold X11_worth at h
  refine e_aload_n hg dX11_worth_0 rfl ?_
  refine e_iload_n hg dX11_worth_1 rfl ?_
  obtain ⟨v1, M2, hc3, h⟩ := o_bd h
  refine m_callVI (rest := []) (v := v1) (M' := M2) (ci := 11) hg mfX11_isTy mvX11_isTy (X11_isTy_ok (r := (v1, M2)) hc3) lk_1312 dX11_worth_2 io_82 rfl rfl rfl (by omega) (Nat.le_of_ble_eq_true rfl) ?_
  refine e_ifeq hg 28 dX11_worth_5 (by decide) (fun c4 => ?_) (fun c4 => ?_)
  · have h := o_pos c4 h
    refine e_ldc2 hg dX11_worth_28 lk_1316 ?_
    exact m_lret hg hr dX11_worth_31 h
  · have h := o_neg c4 h
    refine e_iload_n hg dX11_worth_8 rfl ?_
    refine e_i2l hg dX11_worth_9 ?_
    refine e_lconst (v := 0) hg dX11_worth_10 (by decide) ?_
    refine e_lconst (v := 1) hg dX11_worth_11 (by decide) ?_
    obtain ⟨v5, M6, hc7, h⟩ := o_bd h
    refine m_callSI (rest := []) (v := v5) (M' := M6) hg mfX11_within mvX11_within (X11_within_ok (r := (v5, M6)) hc7) lk_1190 dX11_worth_12 rfl rfl (by omega) (Nat.le_of_ble_eq_true rfl) ?_
    refine e_ifeq hg 28 dX11_worth_15 (by decide) (fun c8 => ?_) (fun c8 => ?_)
    · have h := o_pos c8 h
      refine e_ldc2 hg dX11_worth_28 lk_1316 ?_
      exact m_lret hg hr dX11_worth_31 h
    · have h := o_neg c8 h
      refine e_iload_n hg dX11_worth_18 rfl ?_
      refine e_i2l hg dX11_worth_19 ?_
      refine e_lconst (v := 0) hg dX11_worth_20 (by decide) ?_
      refine e_lconst (v := 1) hg dX11_worth_21 (by decide) ?_
      obtain ⟨v9, M10, hc11, h⟩ := o_bd h
      refine m_callSI (rest := []) (v := v9) (M' := M10) hg mfX11_within mvX11_within (X11_within_ok (r := (v9, M10)) hc11) lk_1190 dX11_worth_22 rfl rfl (by omega) (Nat.le_of_ble_eq_true rfl) ?_
      refine e_ifne hg 32 dX11_worth_25 (by decide) (fun c12 => ?_) (fun c12 => ?_)
      · have h := o_pos c12 h
        refine e_ldc2 hg dX11_worth_28 lk_1316 ?_
        exact m_lret hg hr dX11_worth_31 h
      · have h := o_neg c12 h
        refine e_iload_n hg dX11_worth_32 rfl ?_
        refine e_bipush (v := 10) hg dX11_worth_33 (by decide) ?_
        refine e_idiv hg dX11_worth_35 (by decide) ?_
        refine e_istore (ls' := [some (.ref 82), some (.int a1), some (.int a2), some (.int a3), some (.int (a1 / 10)), none, none]) hg dX11_worth_36 rfl ?_
        refine e_aload_n hg dX11_worth_38 rfl ?_
        refine e_iload hg dX11_worth_39 rfl ?_
        refine e_aload_n hg dX11_worth_41 rfl ?_
        refine m_getR (q := 90) hg ciX11 11 lk_997 dX11_worth_42 io_82 (Nat.le_of_ble_eq_true rfl) rfl rf_82_11 ?_
        refine e_iload hg dX11_worth_45 rfl ?_
        obtain ⟨hi13, h⟩ := o_gd h
        refine m_iald hg sh_90 hi13 dX11_worth_47 ?_
        refine e_iload_n hg dX11_worth_48 rfl ?_
        refine e_bipush (v := 10) hg dX11_worth_49 (by decide) ?_
        refine e_irem hg dX11_worth_51 (by decide) ?_
        refine e_iload_n hg dX11_worth_52 rfl ?_
        refine e_iconst (v := 1) hg dX11_worth_53 (by decide) ?_
        refine e_icmpne hg 61 dX11_worth_54 (by decide) (fun c14 => ?_) (fun c14 => ?_)
        · have h := o_pos c14 h
          refine e_iconst (v := 4) hg dX11_worth_57 (by decide) ?_
          refine e_goto hg 76 dX11_worth_58 (by decide) ?_
          exact X11_worth_b76_ok hg hr  h
        · have h := o_neg c14 h
          refine e_aload_n hg dX11_worth_61 rfl ?_
          refine m_getR (q := 83) hg ciX11 0 lk_986 dX11_worth_62 io_82 (Nat.le_of_ble_eq_true rfl) rfl rf_82_0 ?_
          refine e_bipush (v := 10) hg dX11_worth_65 (by decide) ?_
          refine e_aload_n hg dX11_worth_67 rfl ?_
          refine m_getR (q := 90) hg ciX11 11 lk_997 dX11_worth_68 io_82 (Nat.le_of_ble_eq_true rfl) rfl rf_82_11 ?_
          refine e_iload hg dX11_worth_71 rfl ?_
          obtain ⟨hi22, h⟩ := o_gd h
          refine m_iald hg sh_90 hi22 dX11_worth_73 ?_
          refine e_iadd hg dX11_worth_74 ?_
          obtain ⟨hi23, h⟩ := o_gd h
          refine m_iald hg sh_83 hi23 dX11_worth_75 ?_
          exact X11_worth_b76_ok hg hr  h

def X11_now_L66 (a1 : Int32) (a2 : Int32) : Nat → Int32 → Int32 → Int32 → Int32 → mm → Option (Int32 × mm)
  | 0, _, _, _, _, _ => none
  | n_ + 1, x3, x4, x5, x6, M =>
    if x6 < 4 then
      lt_ (sA M 82 (upd (M.1 82) 37 x6)) fun M19 =>
      bd (X11_worksOut x4 M19) fun u20 M21 =>
      gd (inb x3 6) <|
      gd (inb x3 6) <|
      bd (X11_placeOf x4 (M21.1 91 x3.toNatClampNeg) x5 (M21.1 94 x3.toNatClampNeg) M21) fun v25 M26 =>
      gd (inb v25 8400) <|
      if (M26.1 104 v25.toNatClampNeg) = 0 then
        (X11_now_L66 a1 a2 n_) x3 x4 x5 (x6 + 1) M26
      else
        some (x6, M26)
    else
      some ((-2), M)
set_option maxRecDepth 100000 in
set_option maxHeartbeats 4000000 in
theorem X11_now_L66_ok {g : gx} (hg : EC g cX11_now RX11 106) {a1 : Int32} {a2 : Int32} {r : Int32 × mm} (hr : RT g (some .int) (0, 0) (some (.int r.1)) (cells r.2)) : ∀ (n_ : Nat) (x3 : Int32) (x4 : Int32) (x5 : Int32) (x6 : Int32) (o7 : Option Value) (M : mm), X11_now_L66 a1 a2 n_ x3 x4 x5 x6 M = some r → E g (0, 0) 66 [some (.ref 82), some (.int a1), some (.int a2), some (.int x3), some (.int x4), some (.int x5), some (.int x6), o7] [] (cells M) := by
  intro n_
  induction n_ with
  | zero => intro x3 x4 x5 x6 o7 M h; exact o_no h
  | succ n_ ih =>
    intro x3 x4 x5 x6 o7 M h
    rw [X11_now_L66] at h
    refine e_iload hg dX11_now_66 rfl ?_
    refine e_iconst (v := 4) hg dX11_now_68 (by decide) ?_
    refine e_icmpge hg 120 dX11_now_69 (by decide) (fun c18 => ?_) (fun c18 => ?_)
    · have h := o_pos c18 h
      refine e_aload_n hg dX11_now_72 rfl ?_
      refine e_iload hg dX11_now_73 rfl ?_
      obtain ⟨M19, hM19, h⟩ := o_lt h
      refine m_putI hg ciX11 37 lk_1023 dX11_now_75 io_82 (Nat.le_of_ble_eq_true rfl) rfl rfl rfl rfl ?_
      rw [← hM19]
      refine e_aload_n hg dX11_now_78 rfl ?_
      refine e_iload hg dX11_now_79 rfl ?_
      obtain ⟨u20, M21, hc22, h⟩ := o_bd h
      refine m_callVV (rest := []) (M' := M21) (ci := 11) hg mfX11_worksOut mvX11_worksOut (X11_worksOut_ok (r := (u20, M21)) hc22) lk_1326 dX11_now_81 io_82 rfl rfl rfl (by omega) (Nat.le_of_ble_eq_true rfl) ?_
      refine e_aload_n hg dX11_now_84 rfl ?_
      refine m_getR (q := 104) hg ciX11 36 lk_1022 dX11_now_85 io_82 (Nat.le_of_ble_eq_true rfl) rfl rf_82_36 ?_
      refine e_iload hg dX11_now_88 rfl ?_
      refine e_aload_n hg dX11_now_90 rfl ?_
      refine m_getR (q := 91) hg ciX11 12 lk_998 dX11_now_91 io_82 (Nat.le_of_ble_eq_true rfl) rfl rf_82_12 ?_
      refine e_iload_n hg dX11_now_94 rfl ?_
      obtain ⟨hi23, h⟩ := o_gd h
      refine m_iald hg sh_91 hi23 dX11_now_95 ?_
      refine e_iload hg dX11_now_96 rfl ?_
      refine e_aload_n hg dX11_now_98 rfl ?_
      refine m_getR (q := 94) hg ciX11 15 lk_1001 dX11_now_99 io_82 (Nat.le_of_ble_eq_true rfl) rfl rf_82_15 ?_
      refine e_iload_n hg dX11_now_102 rfl ?_
      obtain ⟨hi24, h⟩ := o_gd h
      refine m_iald hg sh_94 hi24 dX11_now_103 ?_
      obtain ⟨v25, M26, hc27, h⟩ := o_bd h
      refine m_callSI (rest := [.ref 104]) (v := v25) (M' := M26) hg mfX11_placeOf mvX11_placeOf (X11_placeOf_ok (r := (v25, M26)) hc27) lk_1330 dX11_now_104 rfl rfl (by omega) (Nat.le_of_ble_eq_true rfl) ?_
      obtain ⟨hi28, h⟩ := o_gd h
      refine m_zald hg sh_104 hi28 dX11_now_107 ?_
      refine e_ifeq hg 114 dX11_now_108 (by decide) (fun c29 => ?_) (fun c29 => ?_)
      · have h := o_pos c29 h
        refine e_iinc (v := (x6 + 1)) (ls' := [some (.ref 82), some (.int a1), some (.int a2), some (.int x3), some (.int x4), some (.int x5), some (.int (x6 + 1)), o7]) hg dX11_now_114 rfl rfl rfl ?_
        refine e_goto hg 66 dX11_now_117 (by decide) ?_
        exact ih _ _ _ _ _ _ h
      · have h := o_neg c29 h
        refine e_iload hg dX11_now_111 rfl ?_
        exact m_iret hg hr dX11_now_113 h
    · have h := o_neg c18 h
      refine e_bipush (v := -2) hg dX11_now_120 (by decide) ?_
      exact m_iret hg hr dX11_now_122 h

def X11_now_b213 (a1 : Int32) (a2 : Int32) (R172 : Int32 → Int32 → Int32 → Int32 → Int32 → mm → Option (Int32 × mm)) (x3 : Int32) (x4 : Int32) (x5 : Int32) (x7 : Int32) (s0 : Int32) (s1 : Int32) (M : mm) : Option (Int32 × mm) :=
  R172 x3 x4 x5 (s0 ||| s1) (x7 + 1) M
set_option maxRecDepth 100000 in
set_option maxHeartbeats 4000000 in
theorem X11_now_b213_ok {g : gx} (hg : EC g cX11_now RX11 106) {a1 : Int32} {a2 : Int32} {r : Int32 × mm} (hr : RT g (some .int) (0, 0) (some (.int r.1)) (cells r.2)) {R172 : Int32 → Int32 → Int32 → Int32 → Int32 → mm → Option (Int32 × mm)} (hR172 : ∀ (x3 : Int32) (x4 : Int32) (x5 : Int32) (x6 : Int32) (x7 : Int32) (M : mm), R172 x3 x4 x5 x6 x7 M = some r → E g (0, 0) 172 [some (.ref 82), some (.int a1), some (.int a2), some (.int x3), some (.int x4), some (.int x5), some (.int x6), some (.int x7)] [] (cells M)) {x3 : Int32} {x4 : Int32} {x5 : Int32} {x7 : Int32} {s0 : Int32} {s1 : Int32} {o6 : Option Value} {M : mm} (h : X11_now_b213 a1 a2 R172 x3 x4 x5 x7 s0 s1 M = some r) : E g (0, 0) 213 [some (.ref 82), some (.int a1), some (.int a2), some (.int x3), some (.int x4), some (.int x5), o6, some (.int x7)] [.int s1, .int s0] (cells M) := by
  unfold X11_now_b213 at h
  refine e_ior hg dX11_now_213 ?_
  refine e_istore (ls' := [some (.ref 82), some (.int a1), some (.int a2), some (.int x3), some (.int x4), some (.int x5), some (.int (s0 ||| s1)), some (.int x7)]) hg dX11_now_214 rfl ?_
  refine e_iinc (v := (x7 + 1)) (ls' := [some (.ref 82), some (.int a1), some (.int a2), some (.int x3), some (.int x4), some (.int x5), some (.int (s0 ||| s1)), some (.int (x7 + 1))]) hg dX11_now_216 rfl rfl rfl ?_
  refine e_goto hg 172 dX11_now_219 (by decide) ?_
  exact hR172 _ _ _ _ _ _ h

def X11_now_L172 (a1 : Int32) (a2 : Int32) : Nat → Int32 → Int32 → Int32 → Int32 → Int32 → mm → Option (Int32 × mm)
  | 0, _, _, _, _, _, _ => none
  | n_ + 1, x3, x4, x5, x6, x7, M =>
    if x7 < 4 then
      gd (inb x3 6) <|
      bd (X11_placeOf x4 x7 x5 (M.1 94 x3.toNatClampNeg) M) fun v43 M44 =>
      gd (inb v43 8400) <|
      X11_now_b213 a1 a2 (X11_now_L172 a1 a2 n_) x3 x4 x5 x7 x6 (if (M44.1 104 v43.toNatClampNeg) = 0 then 0 else (1 <<< ((x7 - 1) &&& 31))) M44
    else
      some (x6, M)
set_option maxRecDepth 100000 in
set_option maxHeartbeats 4000000 in
theorem X11_now_L172_ok {g : gx} (hg : EC g cX11_now RX11 106) {a1 : Int32} {a2 : Int32} {r : Int32 × mm} (hr : RT g (some .int) (0, 0) (some (.int r.1)) (cells r.2)) : ∀ (n_ : Nat) (x3 : Int32) (x4 : Int32) (x5 : Int32) (x6 : Int32) (x7 : Int32) (M : mm), X11_now_L172 a1 a2 n_ x3 x4 x5 x6 x7 M = some r → E g (0, 0) 172 [some (.ref 82), some (.int a1), some (.int a2), some (.int x3), some (.int x4), some (.int x5), some (.int x6), some (.int x7)] [] (cells M) := by
  intro n_
  induction n_ with
  | zero => intro x3 x4 x5 x6 x7 M h; exact o_no h
  | succ n_ ih =>
    intro x3 x4 x5 x6 x7 M h
    rw [X11_now_L172] at h
    refine e_iload hg dX11_now_172 rfl ?_
    refine e_iconst (v := 4) hg dX11_now_174 (by decide) ?_
    refine e_icmpge hg 222 dX11_now_175 (by decide) (fun c41 => ?_) (fun c41 => ?_)
    · have h := o_pos c41 h
      refine e_iload hg dX11_now_178 rfl ?_
      refine e_aload_n hg dX11_now_180 rfl ?_
      refine m_getR (q := 104) hg ciX11 36 lk_1022 dX11_now_181 io_82 (Nat.le_of_ble_eq_true rfl) rfl rf_82_36 ?_
      refine e_iload hg dX11_now_184 rfl ?_
      refine e_iload hg dX11_now_186 rfl ?_
      refine e_iload hg dX11_now_188 rfl ?_
      refine e_aload_n hg dX11_now_190 rfl ?_
      refine m_getR (q := 94) hg ciX11 15 lk_1001 dX11_now_191 io_82 (Nat.le_of_ble_eq_true rfl) rfl rf_82_15 ?_
      refine e_iload_n hg dX11_now_194 rfl ?_
      obtain ⟨hi42, h⟩ := o_gd h
      refine m_iald hg sh_94 hi42 dX11_now_195 ?_
      obtain ⟨v43, M44, hc45, h⟩ := o_bd h
      refine m_callSI (rest := [.ref 104, .int x6]) (v := v43) (M' := M44) hg mfX11_placeOf mvX11_placeOf (X11_placeOf_ok (r := (v43, M44)) hc45) lk_1330 dX11_now_196 rfl rfl (by omega) (Nat.le_of_ble_eq_true rfl) ?_
      obtain ⟨hi46, h⟩ := o_gd h
      refine m_zald hg sh_104 hi46 dX11_now_199 ?_
      refine e_ifeq hg 212 dX11_now_200 (by decide) (fun c47 => ?_) (fun c47 => ?_)
      · simp only [if_pos c47] at h
        refine e_iconst (v := 0) hg dX11_now_212 (by decide) ?_
        exact X11_now_b213_ok hg hr ih h
      · simp only [if_neg c47] at h
        refine e_iconst (v := 1) hg dX11_now_203 (by decide) ?_
        refine e_iload hg dX11_now_204 rfl ?_
        refine e_iconst (v := 1) hg dX11_now_206 (by decide) ?_
        refine e_isub hg dX11_now_207 ?_
        refine e_ishl hg dX11_now_208 ?_
        refine e_goto hg 213 dX11_now_209 (by decide) ?_
        exact X11_now_b213_ok hg hr ih h
    · have h := o_neg c41 h
      refine e_iload hg dX11_now_222 rfl ?_
      exact m_iret hg hr dX11_now_224 h

def X11_now (a1 : Int32) (a2 : Int32) (M : mm) : Option (Int32 × mm) :=
  bd (X11_isTy a1 M) fun v1 M2 =>
  if v1 = 0 then
    some ((-1), M2)
  else
    bd (X11_within (a2.toInt64) 0 2 M2) fun v5 M6 =>
    if v5 = 0 then
      some ((-1), M6)
    else
      gd (inb (a1 / 10) 6) <|
      bd (X11_sortFor (a1 / 10) (M6.1 90 (a1 / 10).toNatClampNeg) M6) fun v10 M11 =>
      gd (inb (a1 / 10) 6) <|
      bd (X11_thinksOf (a1 / 10) (M11.1 90 (a1 / 10).toNatClampNeg) 4 M11) fun u14 M15 =>
      if a2 = 2 then
        X11_now_L66 a1 a2 10000 (a1 / 10) (a1 - a1 / 10 * 10) v10 1 M15
      else
        bd (X11_worksOut (a1 - a1 / 10 * 10) M15) fun u30 M31 =>
        if a2 = 0 then
          gd (inb (a1 / 10) 6) <|
          gd (inb (a1 / 10) 6) <|
          bd (X11_placeOf (a1 - a1 / 10 * 10) (M31.1 91 (a1 / 10).toNatClampNeg) v10 (M31.1 94 (a1 / 10).toNatClampNeg) M31) fun v36 M37 =>
          gd (inb v36 8400) <|
          if (M37.1 104 v36.toNatClampNeg) = 0 then
            some (0, M37)
          else
            some (1, M37)
        else
          X11_now_L172 a1 a2 10000 (a1 / 10) (a1 - a1 / 10 * 10) v10 0 1 M31
set_option maxRecDepth 100000 in
set_option maxHeartbeats 4000000 in
theorem X11_now_ok {a1 : Int32} {a2 : Int32} {M : mm} {r : Int32 × mm} (h : X11_now a1 a2 M = some r) : CM yX11_now cX11_now 8 (some .int) 106 [.ref 82, .int a1, .int a2] (cells M) (some (.int r.1)) (cells r.2) := by
  refine cm_of (ls := [some (.ref 82), some (.int a1), some (.int a2), none, none, none, none, none]) mfX11_now rfl (Nat.le_of_ble_eq_true rfl) (fun g hg hr => ?_)
  unfold X11_now at h
  refine e_aload_n hg dX11_now_0 rfl ?_
  refine e_iload_n hg dX11_now_1 rfl ?_
  obtain ⟨v1, M2, hc3, h⟩ := o_bd h
  refine m_callVI (rest := []) (v := v1) (M' := M2) (ci := 11) hg mfX11_isTy mvX11_isTy (X11_isTy_ok (r := (v1, M2)) hc3) lk_1312 dX11_now_2 io_82 rfl rfl rfl (by omega) (Nat.le_of_ble_eq_true rfl) ?_
  refine e_ifeq hg 20 dX11_now_5 (by decide) (fun c4 => ?_) (fun c4 => ?_)
  · have h := o_pos c4 h
    refine e_iconst (v := -1) hg dX11_now_20 (by decide) ?_
    exact m_iret hg hr dX11_now_21 h
  · have h := o_neg c4 h
    refine e_iload_n hg dX11_now_8 rfl ?_
    refine e_i2l hg dX11_now_9 ?_
    refine e_lconst (v := 0) hg dX11_now_10 (by decide) ?_
    refine e_ldc2 hg dX11_now_11 lk_1359 ?_
    obtain ⟨v5, M6, hc7, h⟩ := o_bd h
    refine m_callSI (rest := []) (v := v5) (M' := M6) hg mfX11_within mvX11_within (X11_within_ok (r := (v5, M6)) hc7) lk_1190 dX11_now_14 rfl rfl (by omega) (Nat.le_of_ble_eq_true rfl) ?_
    refine e_ifne hg 22 dX11_now_17 (by decide) (fun c8 => ?_) (fun c8 => ?_)
    · have h := o_pos c8 h
      refine e_iconst (v := -1) hg dX11_now_20 (by decide) ?_
      exact m_iret hg hr dX11_now_21 h
    · have h := o_neg c8 h
      refine e_iload_n hg dX11_now_22 rfl ?_
      refine e_bipush (v := 10) hg dX11_now_23 (by decide) ?_
      refine e_idiv hg dX11_now_25 (by decide) ?_
      refine e_istore_n (ls' := [some (.ref 82), some (.int a1), some (.int a2), some (.int (a1 / 10)), none, none, none, none]) hg dX11_now_26 rfl ?_
      refine e_iload_n hg dX11_now_27 rfl ?_
      refine e_bipush (v := 10) hg dX11_now_28 (by decide) ?_
      refine e_irem hg dX11_now_30 (by decide) ?_
      refine e_istore (ls' := [some (.ref 82), some (.int a1), some (.int a2), some (.int (a1 / 10)), some (.int (a1 - a1 / 10 * 10)), none, none, none]) hg dX11_now_31 rfl ?_
      refine e_aload_n hg dX11_now_33 rfl ?_
      refine e_iload_n hg dX11_now_34 rfl ?_
      refine e_aload_n hg dX11_now_35 rfl ?_
      refine m_getR (q := 90) hg ciX11 11 lk_997 dX11_now_36 io_82 (Nat.le_of_ble_eq_true rfl) rfl rf_82_11 ?_
      refine e_iload_n hg dX11_now_39 rfl ?_
      obtain ⟨hi9, h⟩ := o_gd h
      refine m_iald hg sh_90 hi9 dX11_now_40 ?_
      obtain ⟨v10, M11, hc12, h⟩ := o_bd h
      refine m_callVI (rest := []) (v := v10) (M' := M11) (ci := 11) hg mfX11_sortFor mvX11_sortFor (X11_sortFor_ok (r := (v10, M11)) hc12) lk_1345 dX11_now_41 io_82 rfl rfl rfl (by omega) (Nat.le_of_ble_eq_true rfl) ?_
      refine e_istore (ls' := [some (.ref 82), some (.int a1), some (.int a2), some (.int (a1 / 10)), some (.int (a1 - a1 / 10 * 10)), some (.int v10), none, none]) hg dX11_now_44 rfl ?_
      refine e_aload_n hg dX11_now_46 rfl ?_
      refine e_iload_n hg dX11_now_47 rfl ?_
      refine e_aload_n hg dX11_now_48 rfl ?_
      refine m_getR (q := 90) hg ciX11 11 lk_997 dX11_now_49 io_82 (Nat.le_of_ble_eq_true rfl) rfl rf_82_11 ?_
      refine e_iload_n hg dX11_now_52 rfl ?_
      obtain ⟨hi13, h⟩ := o_gd h
      refine m_iald hg sh_90 hi13 dX11_now_53 ?_
      refine e_iconst (v := 4) hg dX11_now_54 (by decide) ?_
      obtain ⟨u14, M15, hc16, h⟩ := o_bd h
      refine m_callVV (rest := []) (M' := M15) (ci := 11) hg mfX11_thinksOf mvX11_thinksOf (X11_thinksOf_ok (r := (u14, M15)) hc16) lk_1321 dX11_now_55 io_82 rfl rfl rfl (by omega) (Nat.le_of_ble_eq_true rfl) ?_
      refine e_iload_n hg dX11_now_58 rfl ?_
      refine e_iconst (v := 2) hg dX11_now_59 (by decide) ?_
      refine e_icmpne hg 123 dX11_now_60 (by decide) (fun c17 => ?_) (fun c17 => ?_)
      · have h := o_pos c17 h
        refine e_iconst (v := 1) hg dX11_now_63 (by decide) ?_
        refine e_istore (ls' := [some (.ref 82), some (.int a1), some (.int a2), some (.int (a1 / 10)), some (.int (a1 - a1 / 10 * 10)), some (.int v10), some (.int 1), none]) hg dX11_now_64 rfl ?_
        exact X11_now_L66_ok hg hr  10000 _ _ _ _ _ _ h
      · have h := o_neg c17 h
        refine e_aload_n hg dX11_now_123 rfl ?_
        refine e_iload hg dX11_now_124 rfl ?_
        obtain ⟨u30, M31, hc32, h⟩ := o_bd h
        refine m_callVV (rest := []) (M' := M31) (ci := 11) hg mfX11_worksOut mvX11_worksOut (X11_worksOut_ok (r := (u30, M31)) hc32) lk_1326 dX11_now_126 io_82 rfl rfl rfl (by omega) (Nat.le_of_ble_eq_true rfl) ?_
        refine e_iload_n hg dX11_now_129 rfl ?_
        refine e_ifne hg 166 dX11_now_130 (by decide) (fun c33 => ?_) (fun c33 => ?_)
        · have h := o_pos c33 h
          refine e_aload_n hg dX11_now_133 rfl ?_
          refine m_getR (q := 104) hg ciX11 36 lk_1022 dX11_now_134 io_82 (Nat.le_of_ble_eq_true rfl) rfl rf_82_36 ?_
          refine e_iload hg dX11_now_137 rfl ?_
          refine e_aload_n hg dX11_now_139 rfl ?_
          refine m_getR (q := 91) hg ciX11 12 lk_998 dX11_now_140 io_82 (Nat.le_of_ble_eq_true rfl) rfl rf_82_12 ?_
          refine e_iload_n hg dX11_now_143 rfl ?_
          obtain ⟨hi34, h⟩ := o_gd h
          refine m_iald hg sh_91 hi34 dX11_now_144 ?_
          refine e_iload hg dX11_now_145 rfl ?_
          refine e_aload_n hg dX11_now_147 rfl ?_
          refine m_getR (q := 94) hg ciX11 15 lk_1001 dX11_now_148 io_82 (Nat.le_of_ble_eq_true rfl) rfl rf_82_15 ?_
          refine e_iload_n hg dX11_now_151 rfl ?_
          obtain ⟨hi35, h⟩ := o_gd h
          refine m_iald hg sh_94 hi35 dX11_now_152 ?_
          obtain ⟨v36, M37, hc38, h⟩ := o_bd h
          refine m_callSI (rest := [.ref 104]) (v := v36) (M' := M37) hg mfX11_placeOf mvX11_placeOf (X11_placeOf_ok (r := (v36, M37)) hc38) lk_1330 dX11_now_153 rfl rfl (by omega) (Nat.le_of_ble_eq_true rfl) ?_
          obtain ⟨hi39, h⟩ := o_gd h
          refine m_zald hg sh_104 hi39 dX11_now_156 ?_
          refine e_ifeq hg 164 dX11_now_157 (by decide) (fun c40 => ?_) (fun c40 => ?_)
          · have h := o_pos c40 h
            refine e_iconst (v := 0) hg dX11_now_164 (by decide) ?_
            exact m_iret hg hr dX11_now_165 h
          · have h := o_neg c40 h
            refine e_iconst (v := 1) hg dX11_now_160 (by decide) ?_
            refine e_goto hg 165 dX11_now_161 (by decide) ?_
            exact m_iret hg hr dX11_now_165 h
        · have h := o_neg c33 h
          refine e_iconst (v := 0) hg dX11_now_166 (by decide) ?_
          refine e_istore (ls' := [some (.ref 82), some (.int a1), some (.int a2), some (.int (a1 / 10)), some (.int (a1 - a1 / 10 * 10)), some (.int v10), some (.int 0), none]) hg dX11_now_167 rfl ?_
          refine e_iconst (v := 1) hg dX11_now_169 (by decide) ?_
          refine e_istore (ls' := [some (.ref 82), some (.int a1), some (.int a2), some (.int (a1 / 10)), some (.int (a1 - a1 / 10 * 10)), some (.int v10), some (.int 0), some (.int 1)]) hg dX11_now_170 rfl ?_
          exact X11_now_L172_ok hg hr  10000 _ _ _ _ _ _ h

def X11_payAt (a0 : Int32) (a1 : Int32) (a2 : Int32) (M : mm) : Option (Int32 × mm) :=
  some (((((a0 * 4) + a1) * 100) + a2), M)
set_option maxRecDepth 100000 in
set_option maxHeartbeats 4000000 in
theorem X11_payAt_ok {a0 : Int32} {a1 : Int32} {a2 : Int32} {M : mm} {r : Int32 × mm} (h : X11_payAt a0 a1 a2 M = some r) : CM yX11_payAt cX11_payAt 3 (some .int) 0 [.int a0, .int a1, .int a2] (cells M) (some (.int r.1)) (cells r.2) := by
  refine cm_of (ls := [some (.int a0), some (.int a1), some (.int a2)]) mfX11_payAt rfl (Nat.le_of_ble_eq_true rfl) (fun g hg hr => ?_)
  unfold X11_payAt at h
  refine e_iload_n hg dX11_payAt_0 rfl ?_
  refine e_iconst (v := 4) hg dX11_payAt_1 (by decide) ?_
  refine e_imul hg dX11_payAt_2 ?_
  refine e_iload_n hg dX11_payAt_3 rfl ?_
  refine e_iadd hg dX11_payAt_4 ?_
  refine e_bipush (v := 100) hg dX11_payAt_5 (by decide) ?_
  refine e_imul hg dX11_payAt_7 ?_
  refine e_iload_n hg dX11_payAt_8 rfl ?_
  refine e_iadd hg dX11_payAt_9 ?_
  exact m_iret hg hr dX11_payAt_10 h

def X11_paysFrom_L12 (a1 : Int32) (a2 : Int32) (a3 : Int32) (a4 : Int32) (K39 : Int32 → mm → Option (Int64 × mm)) : Nat → Int32 → Int32 → mm → Option (Int64 × mm)
  | 0, _, _, _ => none
  | n_ + 1, x5, x6, M =>
    if x6 < 100 then
      bd (X11_payAt 0 x5 x6 M) fun v3 M4 =>
      gd (inb v3 2800) <|
      lt_ (sL M4 105 (vp_updL (M4.2.1 105) v3.toNatClampNeg 0)) fun M7 =>
      (X11_paysFrom_L12 a1 a2 a3 a4 K39 n_) x5 (x6 + 1) M7
    else
      K39 x5 M
set_option maxRecDepth 100000 in
set_option maxHeartbeats 4000000 in
theorem X11_paysFrom_L12_ok {g : gx} (hg : EC g cX11_paysFrom RX11 1) {a1 : Int32} {a2 : Int32} {a3 : Int32} {a4 : Int32} {r : Int64 × mm} (hr : RT g (some .long) (0, 0) (some (.long r.1)) (cells r.2)) {K39 : Int32 → mm → Option (Int64 × mm)} (hK39 : ∀ (x5 : Int32) (o6 : Option Value) (o7 : Option Value) (o8 : Option Value) (o9 : Option Value) (o10 : Option Value) (o11 : Option Value) (M : mm), K39 x5 M = some r → E g (0, 0) 39 [some (.ref 82), some (.int a1), some (.int a2), some (.int a3), some (.int a4), some (.int x5), o6, o7, o8, o9, o10, o11] [] (cells M)) : ∀ (n_ : Nat) (x5 : Int32) (x6 : Int32) (o7 : Option Value) (o8 : Option Value) (o9 : Option Value) (o10 : Option Value) (o11 : Option Value) (M : mm), X11_paysFrom_L12 a1 a2 a3 a4 K39 n_ x5 x6 M = some r → E g (0, 0) 12 [some (.ref 82), some (.int a1), some (.int a2), some (.int a3), some (.int a4), some (.int x5), some (.int x6), o7, o8, o9, o10, o11] [] (cells M) := by
  intro n_
  induction n_ with
  | zero => intro x5 x6 o7 o8 o9 o10 o11 M h; exact o_no h
  | succ n_ ih =>
    intro x5 x6 o7 o8 o9 o10 o11 M h
    rw [X11_paysFrom_L12] at h
    refine e_iload hg dX11_paysFrom_12 rfl ?_
    refine e_bipush (v := 100) hg dX11_paysFrom_14 (by decide) ?_
    refine e_icmpge hg 39 dX11_paysFrom_16 (by decide) (fun c2 => ?_) (fun c2 => ?_)
    · have h := o_pos c2 h
      refine e_aload_n hg dX11_paysFrom_19 rfl ?_
      refine m_getR (q := 105) hg ciX11 42 lk_1028 dX11_paysFrom_20 io_82 (Nat.le_of_ble_eq_true rfl) rfl rf_82_42 ?_
      refine e_iconst (v := 0) hg dX11_paysFrom_23 (by decide) ?_
      refine e_iload hg dX11_paysFrom_24 rfl ?_
      refine e_iload hg dX11_paysFrom_26 rfl ?_
      obtain ⟨v3, M4, hc5, h⟩ := o_bd h
      refine m_callSI (rest := [.ref 105]) (v := v3) (M' := M4) hg mfX11_payAt mvX11_payAt (X11_payAt_ok (r := (v3, M4)) hc5) lk_1368 dX11_paysFrom_28 rfl rfl (by omega) (Nat.le_of_ble_eq_true rfl) ?_
      refine e_lconst (v := 0) hg dX11_paysFrom_31 (by decide) ?_
      obtain ⟨hi6, h⟩ := o_gd h
      obtain ⟨M7, hM7, h⟩ := o_lt h
      refine m_last hg sh_105 hi6 dX11_paysFrom_32 ?_
      rw [← hM7]
      refine e_iinc (v := (x6 + 1)) (ls' := [some (.ref 82), some (.int a1), some (.int a2), some (.int a3), some (.int a4), some (.int x5), some (.int (x6 + 1)), o7, o8, o9, o10, o11]) hg dX11_paysFrom_33 rfl rfl rfl ?_
      refine e_goto hg 12 dX11_paysFrom_36 (by decide) ?_
      exact ih _ _ _ _ _ _ _ _ h
    · have h := o_neg c2 h
      exact hK39 _ _ _ _ _ _ _ _ h

def X11_paysFrom_L3 (a1 : Int32) (a2 : Int32) (a3 : Int32) (a4 : Int32) (K45 : mm → Option (Int64 × mm)) : Nat → Int32 → mm → Option (Int64 × mm)
  | 0, _, _ => none
  | n_ + 1, x5, M =>
    if x5 < 4 then
      X11_paysFrom_L12 a1 a2 a3 a4 (fun x5 M =>
          (X11_paysFrom_L3 a1 a2 a3 a4 K45 n_) (x5 + 1) M) 10000 x5 0 M
    else
      K45 M
set_option maxRecDepth 100000 in
set_option maxHeartbeats 4000000 in
theorem X11_paysFrom_L3_ok {g : gx} (hg : EC g cX11_paysFrom RX11 1) {a1 : Int32} {a2 : Int32} {a3 : Int32} {a4 : Int32} {r : Int64 × mm} (hr : RT g (some .long) (0, 0) (some (.long r.1)) (cells r.2)) {K45 : mm → Option (Int64 × mm)} (hK45 : ∀ (o5 : Option Value) (o6 : Option Value) (o7 : Option Value) (o8 : Option Value) (o9 : Option Value) (o10 : Option Value) (o11 : Option Value) (M : mm), K45 M = some r → E g (0, 0) 45 [some (.ref 82), some (.int a1), some (.int a2), some (.int a3), some (.int a4), o5, o6, o7, o8, o9, o10, o11] [] (cells M)) : ∀ (n_ : Nat) (x5 : Int32) (o6 : Option Value) (o7 : Option Value) (o8 : Option Value) (o9 : Option Value) (o10 : Option Value) (o11 : Option Value) (M : mm), X11_paysFrom_L3 a1 a2 a3 a4 K45 n_ x5 M = some r → E g (0, 0) 3 [some (.ref 82), some (.int a1), some (.int a2), some (.int a3), some (.int a4), some (.int x5), o6, o7, o8, o9, o10, o11] [] (cells M) := by
  intro n_
  induction n_ with
  | zero => intro x5 o6 o7 o8 o9 o10 o11 M h; exact o_no h
  | succ n_ ih =>
    intro x5 o6 o7 o8 o9 o10 o11 M h
    rw [X11_paysFrom_L3] at h
    refine e_iload hg dX11_paysFrom_3 rfl ?_
    refine e_iconst (v := 4) hg dX11_paysFrom_5 (by decide) ?_
    refine e_icmpge hg 45 dX11_paysFrom_6 (by decide) (fun c1 => ?_) (fun c1 => ?_)
    · have h := o_pos c1 h
      refine e_iconst (v := 0) hg dX11_paysFrom_9 (by decide) ?_
      refine e_istore (ls' := [some (.ref 82), some (.int a1), some (.int a2), some (.int a3), some (.int a4), some (.int x5), some (.int 0), o7, o8, o9, o10, o11]) hg dX11_paysFrom_10 rfl ?_
      refine X11_paysFrom_L12_ok hg hr (fun x5 o6 o7 o8 o9 o10 o11 M h => ?_) 10000 _ _ _ _ _ _ _ _ h
      refine e_iinc (v := (x5 + 1)) (ls' := [some (.ref 82), some (.int a1), some (.int a2), some (.int a3), some (.int a4), some (.int (x5 + 1)), o6, o7, o8, o9, o10, o11]) hg dX11_paysFrom_39 rfl rfl rfl ?_
      refine e_goto hg 3 dX11_paysFrom_42 (by decide) ?_
      exact ih _ _ _ _ _ _ _ _ h
    · have h := o_neg c1 h
      exact hK45 _ _ _ _ _ _ _ _ h

def X11_paysFrom_b151 (a1 : Int32) (a2 : Int32) (a3 : Int32) (a4 : Int32) (R66 : Int32 → Int32 → Int32 → mm → Option (Int64 × mm)) (K203 : Int32 → Int32 → mm → Option (Int64 × mm)) (x5 : Int32) (x6 : Int32) (x7 : Int32) (x8 : Int32) (x9 : Int32) (s0 : Int64) (M : mm) : Option (Int64 × mm) :=
  bd (X11_payAt x5 x6 x7 M) fun v20 M21 =>
  bd (X11_payAt (x5 - 1) x6 x9 M21) fun v23 M24 =>
  gd (inb v23 2800) <|
  gd (inb v20 2800) <|
  lt_ (sL M24 105 (vp_updL (M24.2.1 105) v20.toNatClampNeg ((x8.toInt64 * s0) + ((12 - x8).toInt64 * (M24.2.1 105 v23.toNatClampNeg))))) fun M28 =>
  R66 x5 x6 (x7 + 1) M28
set_option maxRecDepth 100000 in
set_option maxHeartbeats 4000000 in
theorem X11_paysFrom_b151_ok {g : gx} (hg : EC g cX11_paysFrom RX11 1) {a1 : Int32} {a2 : Int32} {a3 : Int32} {a4 : Int32} {r : Int64 × mm} (hr : RT g (some .long) (0, 0) (some (.long r.1)) (cells r.2)) {R66 : Int32 → Int32 → Int32 → mm → Option (Int64 × mm)} (hR66 : ∀ (x5 : Int32) (x6 : Int32) (x7 : Int32) (o8 : Option Value) (o9 : Option Value) (o10 : Option Value) (o11 : Option Value) (M : mm), R66 x5 x6 x7 M = some r → E g (0, 0) 66 [some (.ref 82), some (.int a1), some (.int a2), some (.int a3), some (.int a4), some (.int x5), some (.int x6), some (.int x7), o8, o9, o10, o11] [] (cells M)) {K203 : Int32 → Int32 → mm → Option (Int64 × mm)} (hK203 : ∀ (x5 : Int32) (x6 : Int32) (o7 : Option Value) (o8 : Option Value) (o9 : Option Value) (o10 : Option Value) (o11 : Option Value) (M : mm), K203 x5 x6 M = some r → E g (0, 0) 203 [some (.ref 82), some (.int a1), some (.int a2), some (.int a3), some (.int a4), some (.int x5), some (.int x6), o7, o8, o9, o10, o11] [] (cells M)) {x5 : Int32} {x6 : Int32} {x7 : Int32} {x8 : Int32} {x9 : Int32} {s0 : Int64} {o10 : Option Value} {o11 : Option Value} {M : mm} (h : X11_paysFrom_b151 a1 a2 a3 a4 R66 K203 x5 x6 x7 x8 x9 s0 M = some r) : E g (0, 0) 151 [some (.ref 82), some (.int a1), some (.int a2), some (.int a3), some (.int a4), some (.int x5), some (.int x6), some (.int x7), some (.int x8), some (.int x9), o10, o11] [.long s0] (cells M) := by
  unfold X11_paysFrom_b151 at h
  refine e_lstore (ls' := [some (.ref 82), some (.int a1), some (.int a2), some (.int a3), some (.int a4), some (.int x5), some (.int x6), some (.int x7), some (.int x8), some (.int x9), some (.long s0), none]) hg dX11_paysFrom_151 rfl ?_
  refine e_aload_n hg dX11_paysFrom_153 rfl ?_
  refine m_getR (q := 105) hg ciX11 42 lk_1028 dX11_paysFrom_154 io_82 (Nat.le_of_ble_eq_true rfl) rfl rf_82_42 ?_
  refine e_iload hg dX11_paysFrom_157 rfl ?_
  refine e_iload hg dX11_paysFrom_159 rfl ?_
  refine e_iload hg dX11_paysFrom_161 rfl ?_
  obtain ⟨v20, M21, hc22, h⟩ := o_bd h
  refine m_callSI (rest := [.ref 105]) (v := v20) (M' := M21) hg mfX11_payAt mvX11_payAt (X11_payAt_ok (r := (v20, M21)) hc22) lk_1368 dX11_paysFrom_163 rfl rfl (by omega) (Nat.le_of_ble_eq_true rfl) ?_
  refine e_iload hg dX11_paysFrom_166 rfl ?_
  refine e_i2l hg dX11_paysFrom_168 ?_
  refine e_lload hg dX11_paysFrom_169 rfl ?_
  refine e_lmul hg dX11_paysFrom_171 ?_
  refine e_bipush (v := 12) hg dX11_paysFrom_172 (by decide) ?_
  refine e_iload hg dX11_paysFrom_174 rfl ?_
  refine e_isub hg dX11_paysFrom_176 ?_
  refine e_i2l hg dX11_paysFrom_177 ?_
  refine e_aload_n hg dX11_paysFrom_178 rfl ?_
  refine m_getR (q := 105) hg ciX11 42 lk_1028 dX11_paysFrom_179 io_82 (Nat.le_of_ble_eq_true rfl) rfl rf_82_42 ?_
  refine e_iload hg dX11_paysFrom_182 rfl ?_
  refine e_iconst (v := 1) hg dX11_paysFrom_184 (by decide) ?_
  refine e_isub hg dX11_paysFrom_185 ?_
  refine e_iload hg dX11_paysFrom_186 rfl ?_
  refine e_iload hg dX11_paysFrom_188 rfl ?_
  obtain ⟨v23, M24, hc25, h⟩ := o_bd h
  refine m_callSI (rest := [.ref 105, .long ((12 - x8).toInt64), .long (x8.toInt64 * s0), .int v20, .ref 105]) (v := v23) (M' := M24) hg mfX11_payAt mvX11_payAt (X11_payAt_ok (r := (v23, M24)) hc25) lk_1368 dX11_paysFrom_190 rfl rfl (by omega) (Nat.le_of_ble_eq_true rfl) ?_
  obtain ⟨hi26, h⟩ := o_gd h
  refine m_lald hg sh_105 hi26 dX11_paysFrom_193 ?_
  refine e_lmul hg dX11_paysFrom_194 ?_
  refine e_ladd hg dX11_paysFrom_195 ?_
  obtain ⟨hi27, h⟩ := o_gd h
  obtain ⟨M28, hM28, h⟩ := o_lt h
  refine m_last hg sh_105 hi27 dX11_paysFrom_196 ?_
  rw [← hM28]
  refine e_iinc (v := (x7 + 1)) (ls' := [some (.ref 82), some (.int a1), some (.int a2), some (.int a3), some (.int a4), some (.int x5), some (.int x6), some (.int (x7 + 1)), some (.int x8), some (.int x9), some (.long s0), none]) hg dX11_paysFrom_197 rfl rfl rfl ?_
  refine e_goto hg 66 dX11_paysFrom_200 (by decide) ?_
  exact hR66 _ _ _ _ _ _ _ _ h

def X11_paysFrom_b100 (a1 : Int32) (a2 : Int32) (a3 : Int32) (a4 : Int32) (R66 : Int32 → Int32 → Int32 → mm → Option (Int64 × mm)) (K203 : Int32 → Int32 → mm → Option (Int64 × mm)) (x5 : Int32) (x6 : Int32) (x7 : Int32) (x8 : Int32) (s0 : Int32) (M : mm) : Option (Int64 × mm) :=
  if 1 < x6 then
    bd (X11_payAt (x5 - 1) (x6 - 1) s0 M) fun v16 M17 =>
    gd (inb v16 2800) <|
    X11_paysFrom_b151 a1 a2 a3 a4 R66 K203 x5 x6 x7 x8 s0 (M17.2.1 105 v16.toNatClampNeg) M17
  else
    bd (X11_isForgotten x7 M) fun v29 M30 =>
    if v29 = 0 then
      gd (inb (x5 - 1) 7) <|
      X11_paysFrom_b151 a1 a2 a3 a4 R66 K203 x5 x6 x7 x8 s0 (M30.2.1 101 (x5 - 1).toNatClampNeg) M30
    else
      X11_paysFrom_b151 a1 a2 a3 a4 R66 K203 x5 x6 x7 x8 s0 0 M30
set_option maxRecDepth 100000 in
set_option maxHeartbeats 4000000 in
theorem X11_paysFrom_b100_ok {g : gx} (hg : EC g cX11_paysFrom RX11 1) {a1 : Int32} {a2 : Int32} {a3 : Int32} {a4 : Int32} {r : Int64 × mm} (hr : RT g (some .long) (0, 0) (some (.long r.1)) (cells r.2)) {R66 : Int32 → Int32 → Int32 → mm → Option (Int64 × mm)} (hR66 : ∀ (x5 : Int32) (x6 : Int32) (x7 : Int32) (o8 : Option Value) (o9 : Option Value) (o10 : Option Value) (o11 : Option Value) (M : mm), R66 x5 x6 x7 M = some r → E g (0, 0) 66 [some (.ref 82), some (.int a1), some (.int a2), some (.int a3), some (.int a4), some (.int x5), some (.int x6), some (.int x7), o8, o9, o10, o11] [] (cells M)) {K203 : Int32 → Int32 → mm → Option (Int64 × mm)} (hK203 : ∀ (x5 : Int32) (x6 : Int32) (o7 : Option Value) (o8 : Option Value) (o9 : Option Value) (o10 : Option Value) (o11 : Option Value) (M : mm), K203 x5 x6 M = some r → E g (0, 0) 203 [some (.ref 82), some (.int a1), some (.int a2), some (.int a3), some (.int a4), some (.int x5), some (.int x6), o7, o8, o9, o10, o11] [] (cells M)) {x5 : Int32} {x6 : Int32} {x7 : Int32} {x8 : Int32} {s0 : Int32} {o9 : Option Value} {o10 : Option Value} {o11 : Option Value} {M : mm} (h : X11_paysFrom_b100 a1 a2 a3 a4 R66 K203 x5 x6 x7 x8 s0 M = some r) : E g (0, 0) 100 [some (.ref 82), some (.int a1), some (.int a2), some (.int a3), some (.int a4), some (.int x5), some (.int x6), some (.int x7), some (.int x8), o9, o10, o11] [.int s0] (cells M) := by
  unfold X11_paysFrom_b100 at h
  refine e_istore (ls' := [some (.ref 82), some (.int a1), some (.int a2), some (.int a3), some (.int a4), some (.int x5), some (.int x6), some (.int x7), some (.int x8), some (.int s0), o10, o11]) hg dX11_paysFrom_100 rfl ?_
  refine e_iload hg dX11_paysFrom_102 rfl ?_
  refine e_iconst (v := 1) hg dX11_paysFrom_104 (by decide) ?_
  refine e_icmple hg 129 dX11_paysFrom_105 (by decide) (fun c15 => ?_) (fun c15 => ?_)
  · have h := o_pos c15 h
    refine e_aload_n hg dX11_paysFrom_108 rfl ?_
    refine m_getR (q := 105) hg ciX11 42 lk_1028 dX11_paysFrom_109 io_82 (Nat.le_of_ble_eq_true rfl) rfl rf_82_42 ?_
    refine e_iload hg dX11_paysFrom_112 rfl ?_
    refine e_iconst (v := 1) hg dX11_paysFrom_114 (by decide) ?_
    refine e_isub hg dX11_paysFrom_115 ?_
    refine e_iload hg dX11_paysFrom_116 rfl ?_
    refine e_iconst (v := 1) hg dX11_paysFrom_118 (by decide) ?_
    refine e_isub hg dX11_paysFrom_119 ?_
    refine e_iload hg dX11_paysFrom_120 rfl ?_
    obtain ⟨v16, M17, hc18, h⟩ := o_bd h
    refine m_callSI (rest := [.ref 105]) (v := v16) (M' := M17) hg mfX11_payAt mvX11_payAt (X11_payAt_ok (r := (v16, M17)) hc18) lk_1368 dX11_paysFrom_122 rfl rfl (by omega) (Nat.le_of_ble_eq_true rfl) ?_
    obtain ⟨hi19, h⟩ := o_gd h
    refine m_lald hg sh_105 hi19 dX11_paysFrom_125 ?_
    refine e_goto hg 151 dX11_paysFrom_126 (by decide) ?_
    exact X11_paysFrom_b151_ok hg hr hR66 hK203 h
  · have h := o_neg c15 h
    refine e_aload_n hg dX11_paysFrom_129 rfl ?_
    refine e_iload hg dX11_paysFrom_130 rfl ?_
    obtain ⟨v29, M30, hc31, h⟩ := o_bd h
    refine m_callVI (rest := []) (v := v29) (M' := M30) (ci := 11) hg mfX11_isForgotten mvX11_isForgotten (X11_isForgotten_ok (r := (v29, M30)) hc31) lk_1341 dX11_paysFrom_132 io_82 rfl rfl rfl (by omega) (Nat.le_of_ble_eq_true rfl) ?_
    refine e_ifeq hg 142 dX11_paysFrom_135 (by decide) (fun c32 => ?_) (fun c32 => ?_)
    · have h := o_pos c32 h
      refine e_aload_n hg dX11_paysFrom_142 rfl ?_
      refine m_getR (q := 101) hg ciX11 33 lk_1019 dX11_paysFrom_143 io_82 (Nat.le_of_ble_eq_true rfl) rfl rf_82_33 ?_
      refine e_iload hg dX11_paysFrom_146 rfl ?_
      refine e_iconst (v := 1) hg dX11_paysFrom_148 (by decide) ?_
      refine e_isub hg dX11_paysFrom_149 ?_
      obtain ⟨hi33, h⟩ := o_gd h
      refine m_lald hg sh_101 hi33 dX11_paysFrom_150 ?_
      exact X11_paysFrom_b151_ok hg hr hR66 hK203 h
    · have h := o_neg c32 h
      refine e_lconst (v := 0) hg dX11_paysFrom_138 (by decide) ?_
      refine e_goto hg 151 dX11_paysFrom_139 (by decide) ?_
      exact X11_paysFrom_b151_ok hg hr hR66 hK203 h

def X11_paysFrom_L66 (a1 : Int32) (a2 : Int32) (a3 : Int32) (a4 : Int32) (K203 : Int32 → Int32 → mm → Option (Int64 × mm)) : Nat → Int32 → Int32 → Int32 → mm → Option (Int64 × mm)
  | 0, _, _, _, _ => none
  | n_ + 1, x5, x6, x7, M =>
    if x7 < 100 then
      bd (X11_wearsAt x6 0 x7 M) fun v11 M12 =>
      X11_paysFrom_b100 a1 a2 a3 a4 (X11_paysFrom_L66 a1 a2 a3 a4 K203 n_) K203 x5 x6 x7 v11 (if x7 < 99 then (x7 + 1) else x7) M12
    else
      K203 x5 x6 M
set_option maxRecDepth 100000 in
set_option maxHeartbeats 4000000 in
theorem X11_paysFrom_L66_ok {g : gx} (hg : EC g cX11_paysFrom RX11 1) {a1 : Int32} {a2 : Int32} {a3 : Int32} {a4 : Int32} {r : Int64 × mm} (hr : RT g (some .long) (0, 0) (some (.long r.1)) (cells r.2)) {K203 : Int32 → Int32 → mm → Option (Int64 × mm)} (hK203 : ∀ (x5 : Int32) (x6 : Int32) (o7 : Option Value) (o8 : Option Value) (o9 : Option Value) (o10 : Option Value) (o11 : Option Value) (M : mm), K203 x5 x6 M = some r → E g (0, 0) 203 [some (.ref 82), some (.int a1), some (.int a2), some (.int a3), some (.int a4), some (.int x5), some (.int x6), o7, o8, o9, o10, o11] [] (cells M)) : ∀ (n_ : Nat) (x5 : Int32) (x6 : Int32) (x7 : Int32) (o8 : Option Value) (o9 : Option Value) (o10 : Option Value) (o11 : Option Value) (M : mm), X11_paysFrom_L66 a1 a2 a3 a4 K203 n_ x5 x6 x7 M = some r → E g (0, 0) 66 [some (.ref 82), some (.int a1), some (.int a2), some (.int a3), some (.int a4), some (.int x5), some (.int x6), some (.int x7), o8, o9, o10, o11] [] (cells M) := by
  intro n_
  induction n_ with
  | zero => intro x5 x6 x7 o8 o9 o10 o11 M h; exact o_no h
  | succ n_ ih =>
    intro x5 x6 x7 o8 o9 o10 o11 M h
    rw [X11_paysFrom_L66] at h
    refine e_iload hg dX11_paysFrom_66 rfl ?_
    refine e_bipush (v := 100) hg dX11_paysFrom_68 (by decide) ?_
    refine e_icmpge hg 203 dX11_paysFrom_70 (by decide) (fun c10 => ?_) (fun c10 => ?_)
    · have h := o_pos c10 h
      refine e_aload_n hg dX11_paysFrom_73 rfl ?_
      refine e_iload hg dX11_paysFrom_74 rfl ?_
      refine e_iconst (v := 0) hg dX11_paysFrom_76 (by decide) ?_
      refine e_iload hg dX11_paysFrom_77 rfl ?_
      obtain ⟨v11, M12, hc13, h⟩ := o_bd h
      refine m_callVI (rest := []) (v := v11) (M' := M12) (ci := 11) hg mfX11_wearsAt mvX11_wearsAt (X11_wearsAt_ok (r := (v11, M12)) hc13) lk_1337 dX11_paysFrom_79 io_82 rfl rfl rfl (by omega) (Nat.le_of_ble_eq_true rfl) ?_
      refine e_istore (ls' := [some (.ref 82), some (.int a1), some (.int a2), some (.int a3), some (.int a4), some (.int x5), some (.int x6), some (.int x7), some (.int v11), o9, o10, o11]) hg dX11_paysFrom_82 rfl ?_
      refine e_iload hg dX11_paysFrom_84 rfl ?_
      refine e_bipush (v := 99) hg dX11_paysFrom_86 (by decide) ?_
      refine e_icmpge hg 98 dX11_paysFrom_88 (by decide) (fun c14 => ?_) (fun c14 => ?_)
      · simp only [if_pos c14] at h
        refine e_iload hg dX11_paysFrom_91 rfl ?_
        refine e_iconst (v := 1) hg dX11_paysFrom_93 (by decide) ?_
        refine e_iadd hg dX11_paysFrom_94 ?_
        refine e_goto hg 100 dX11_paysFrom_95 (by decide) ?_
        exact X11_paysFrom_b100_ok hg hr ih hK203 h
      · simp only [if_neg c14] at h
        refine e_iload hg dX11_paysFrom_98 rfl ?_
        exact X11_paysFrom_b100_ok hg hr ih hK203 h
    · have h := o_neg c10 h
      exact hK203 _ _ _ _ _ _ _ _ h

def X11_paysFrom_L57 (a1 : Int32) (a2 : Int32) (a3 : Int32) (a4 : Int32) (K209 : Int32 → mm → Option (Int64 × mm)) : Nat → Int32 → Int32 → mm → Option (Int64 × mm)
  | 0, _, _, _ => none
  | n_ + 1, x5, x6, M =>
    if x6 < 4 then
      X11_paysFrom_L66 a1 a2 a3 a4 (fun x5 x6 M =>
          (X11_paysFrom_L57 a1 a2 a3 a4 K209 n_) x5 (x6 + 1) M) 10000 x5 x6 0 M
    else
      K209 x5 M
set_option maxRecDepth 100000 in
set_option maxHeartbeats 4000000 in
theorem X11_paysFrom_L57_ok {g : gx} (hg : EC g cX11_paysFrom RX11 1) {a1 : Int32} {a2 : Int32} {a3 : Int32} {a4 : Int32} {r : Int64 × mm} (hr : RT g (some .long) (0, 0) (some (.long r.1)) (cells r.2)) {K209 : Int32 → mm → Option (Int64 × mm)} (hK209 : ∀ (x5 : Int32) (o6 : Option Value) (o7 : Option Value) (o8 : Option Value) (o9 : Option Value) (o10 : Option Value) (o11 : Option Value) (M : mm), K209 x5 M = some r → E g (0, 0) 209 [some (.ref 82), some (.int a1), some (.int a2), some (.int a3), some (.int a4), some (.int x5), o6, o7, o8, o9, o10, o11] [] (cells M)) : ∀ (n_ : Nat) (x5 : Int32) (x6 : Int32) (o7 : Option Value) (o8 : Option Value) (o9 : Option Value) (o10 : Option Value) (o11 : Option Value) (M : mm), X11_paysFrom_L57 a1 a2 a3 a4 K209 n_ x5 x6 M = some r → E g (0, 0) 57 [some (.ref 82), some (.int a1), some (.int a2), some (.int a3), some (.int a4), some (.int x5), some (.int x6), o7, o8, o9, o10, o11] [] (cells M) := by
  intro n_
  induction n_ with
  | zero => intro x5 x6 o7 o8 o9 o10 o11 M h; exact o_no h
  | succ n_ ih =>
    intro x5 x6 o7 o8 o9 o10 o11 M h
    rw [X11_paysFrom_L57] at h
    refine e_iload hg dX11_paysFrom_57 rfl ?_
    refine e_iconst (v := 4) hg dX11_paysFrom_59 (by decide) ?_
    refine e_icmpge hg 209 dX11_paysFrom_60 (by decide) (fun c9 => ?_) (fun c9 => ?_)
    · have h := o_pos c9 h
      refine e_iconst (v := 0) hg dX11_paysFrom_63 (by decide) ?_
      refine e_istore (ls' := [some (.ref 82), some (.int a1), some (.int a2), some (.int a3), some (.int a4), some (.int x5), some (.int x6), some (.int 0), o8, o9, o10, o11]) hg dX11_paysFrom_64 rfl ?_
      refine X11_paysFrom_L66_ok hg hr (fun x5 x6 o7 o8 o9 o10 o11 M h => ?_) 10000 _ _ _ _ _ _ _ _ h
      refine e_iinc (v := (x6 + 1)) (ls' := [some (.ref 82), some (.int a1), some (.int a2), some (.int a3), some (.int a4), some (.int x5), some (.int (x6 + 1)), o7, o8, o9, o10, o11]) hg dX11_paysFrom_203 rfl rfl rfl ?_
      refine e_goto hg 57 dX11_paysFrom_206 (by decide) ?_
      exact ih _ _ _ _ _ _ _ _ h
    · have h := o_neg c9 h
      exact hK209 _ _ _ _ _ _ _ _ h

def X11_paysFrom_L48 (a1 : Int32) (a2 : Int32) (a3 : Int32) (a4 : Int32) (K215 : mm → Option (Int64 × mm)) : Nat → Int32 → mm → Option (Int64 × mm)
  | 0, _, _ => none
  | n_ + 1, x5, M =>
    if a2 < x5 then
      K215 M
    else
      X11_paysFrom_L57 a1 a2 a3 a4 (fun x5 M =>
          (X11_paysFrom_L48 a1 a2 a3 a4 K215 n_) (x5 + 1) M) 10000 x5 1 M
set_option maxRecDepth 100000 in
set_option maxHeartbeats 4000000 in
theorem X11_paysFrom_L48_ok {g : gx} (hg : EC g cX11_paysFrom RX11 1) {a1 : Int32} {a2 : Int32} {a3 : Int32} {a4 : Int32} {r : Int64 × mm} (hr : RT g (some .long) (0, 0) (some (.long r.1)) (cells r.2)) {K215 : mm → Option (Int64 × mm)} (hK215 : ∀ (o5 : Option Value) (o6 : Option Value) (o7 : Option Value) (o8 : Option Value) (o9 : Option Value) (o10 : Option Value) (o11 : Option Value) (M : mm), K215 M = some r → E g (0, 0) 215 [some (.ref 82), some (.int a1), some (.int a2), some (.int a3), some (.int a4), o5, o6, o7, o8, o9, o10, o11] [] (cells M)) : ∀ (n_ : Nat) (x5 : Int32) (o6 : Option Value) (o7 : Option Value) (o8 : Option Value) (o9 : Option Value) (o10 : Option Value) (o11 : Option Value) (M : mm), X11_paysFrom_L48 a1 a2 a3 a4 K215 n_ x5 M = some r → E g (0, 0) 48 [some (.ref 82), some (.int a1), some (.int a2), some (.int a3), some (.int a4), some (.int x5), o6, o7, o8, o9, o10, o11] [] (cells M) := by
  intro n_
  induction n_ with
  | zero => intro x5 o6 o7 o8 o9 o10 o11 M h; exact o_no h
  | succ n_ ih =>
    intro x5 o6 o7 o8 o9 o10 o11 M h
    rw [X11_paysFrom_L48] at h
    refine e_iload hg dX11_paysFrom_48 rfl ?_
    refine e_iload_n hg dX11_paysFrom_50 rfl ?_
    refine e_icmpgt hg 215 dX11_paysFrom_51 (by decide) (fun c8 => ?_) (fun c8 => ?_)
    · have h := o_pos c8 h
      exact hK215 _ _ _ _ _ _ _ _ h
    · have h := o_neg c8 h
      refine e_iconst (v := 1) hg dX11_paysFrom_54 (by decide) ?_
      refine e_istore (ls' := [some (.ref 82), some (.int a1), some (.int a2), some (.int a3), some (.int a4), some (.int x5), some (.int 1), o7, o8, o9, o10, o11]) hg dX11_paysFrom_55 rfl ?_
      refine X11_paysFrom_L57_ok hg hr (fun x5 o6 o7 o8 o9 o10 o11 M h => ?_) 10000 _ _ _ _ _ _ _ _ h
      refine e_iinc (v := (x5 + 1)) (ls' := [some (.ref 82), some (.int a1), some (.int a2), some (.int a3), some (.int a4), some (.int (x5 + 1)), o6, o7, o8, o9, o10, o11]) hg dX11_paysFrom_209 rfl rfl rfl ?_
      refine e_goto hg 48 dX11_paysFrom_212 (by decide) ?_
      exact ih _ _ _ _ _ _ _ _ h

def X11_paysFrom (a1 : Int32) (a2 : Int32) (a3 : Int32) (a4 : Int32) (M : mm) : Option (Int64 × mm) :=
  X11_paysFrom_L3 a1 a2 a3 a4 (fun M =>
      X11_paysFrom_L48 a1 a2 a3 a4 (fun M =>
          bd (X11_payAt a2 a3 a4 M) fun v34 M35 =>
          gd (inb v34 2800) <|
          some ((M35.2.1 105 v34.toNatClampNeg), M35)) 10000 1 M) 10000 1 M
set_option maxRecDepth 100000 in
set_option maxHeartbeats 4000000 in
theorem X11_paysFrom_ok {a1 : Int32} {a2 : Int32} {a3 : Int32} {a4 : Int32} {M : mm} {r : Int64 × mm} (h : X11_paysFrom a1 a2 a3 a4 M = some r) : CM yX11_paysFrom cX11_paysFrom 12 (some .long) 1 [.ref 82, .int a1, .int a2, .int a3, .int a4] (cells M) (some (.long r.1)) (cells r.2) := by
  refine cm_of (ls := [some (.ref 82), some (.int a1), some (.int a2), some (.int a3), some (.int a4), none, none, none, none, none, none, none]) mfX11_paysFrom rfl (Nat.le_of_ble_eq_true rfl) (fun g hg hr => ?_)
  unfold X11_paysFrom at h
  refine e_iconst (v := 1) hg dX11_paysFrom_0 (by decide) ?_
  refine e_istore (ls' := [some (.ref 82), some (.int a1), some (.int a2), some (.int a3), some (.int a4), some (.int 1), none, none, none, none, none, none]) hg dX11_paysFrom_1 rfl ?_
  refine X11_paysFrom_L3_ok hg hr (fun o5 o6 o7 o8 o9 o10 o11 M h => ?_) 10000 _ _ _ _ _ _ _ _ h
  refine e_iconst (v := 1) hg dX11_paysFrom_45 (by decide) ?_
  refine e_istore (ls' := [some (.ref 82), some (.int a1), some (.int a2), some (.int a3), some (.int a4), some (.int 1), o6, o7, o8, o9, o10, o11]) hg dX11_paysFrom_46 rfl ?_
  refine X11_paysFrom_L48_ok hg hr (fun o5 o6 o7 o8 o9 o10 o11 M h => ?_) 10000 _ _ _ _ _ _ _ _ h
  refine e_aload_n hg dX11_paysFrom_215 rfl ?_
  refine m_getR (q := 105) hg ciX11 42 lk_1028 dX11_paysFrom_216 io_82 (Nat.le_of_ble_eq_true rfl) rfl rf_82_42 ?_
  refine e_iload_n hg dX11_paysFrom_219 rfl ?_
  refine e_iload_n hg dX11_paysFrom_220 rfl ?_
  refine e_iload hg dX11_paysFrom_221 rfl ?_
  obtain ⟨v34, M35, hc36, h⟩ := o_bd h
  refine m_callSI (rest := [.ref 105]) (v := v34) (M' := M35) hg mfX11_payAt mvX11_payAt (X11_payAt_ok (r := (v34, M35)) hc36) lk_1368 dX11_paysFrom_223 rfl rfl (by omega) (Nat.le_of_ble_eq_true rfl) ?_
  obtain ⟨hi37, h⟩ := o_gd h
  refine m_lald hg sh_105 hi37 dX11_paysFrom_226 ?_
  exact m_lret hg hr dX11_paysFrom_227 h

def X11_smith_b98 (a1 : Int32) (a2 : Int32) (a3 : Int32) (a4 : Int32) (x5 : Int32) (x6 : Int32) (s0 : Int32) (M : mm) : Option (Int64 × mm) :=
  gd (inb x5 6) <|
  bd (X11_thinksOf x5 (M.1 90 x5.toNatClampNeg) 4 M) fun u24 M25 =>
  if a3 = 1 then
    gd (inb (21 + x5) 33) <|
    bd (X11_paysFrom x5 x6 s0 0 M25) fun v29 M30 =>
    gd (inb x6 7) <|
    bd (X11_partOf ((M25.1 83 (21 + x5).toNatClampNeg).toInt64 * v29) (M30.2.1 101 x6.toNatClampNeg) a4 M30) fun v33 M34 =>
    some (v33, M34)
  else
    if x6 = 0 then
      some (a4.toInt64, M25)
    else
      bd (X11_worksOut x6 M25) fun u37 M38 =>
      bd (X11_goes x6 s0 1 0 M38) fun v40 M41 =>
      gd (inb x5 6) <|
      gd (inb x5 6) <|
      bd (X11_sortFor x5 (M41.1 90 x5.toNatClampNeg) M41) fun v45 M46 =>
      gd (inb x5 6) <|
      bd (X11_goes x6 (M41.1 91 x5.toNatClampNeg) v45 (M46.1 94 x5.toNatClampNeg) M46) fun v49 M50 =>
      gd (inb x6 7) <|
      bd (X11_partOf (v40 - v49) (M50.2.1 101 x6.toNatClampNeg) a4 M50) fun v53 M54 =>
      some (v53, M54)
set_option maxRecDepth 100000 in
set_option maxHeartbeats 4000000 in
theorem X11_smith_b98_ok {g : gx} (hg : EC g cX11_smith RX11 106) {a1 : Int32} {a2 : Int32} {a3 : Int32} {a4 : Int32} {r : Int64 × mm} (hr : RT g (some .long) (0, 0) (some (.long r.1)) (cells r.2)) {x5 : Int32} {x6 : Int32} {s0 : Int32} {o7 : Option Value} {o8 : Option Value} {o9 : Option Value} {M : mm} (h : X11_smith_b98 a1 a2 a3 a4 x5 x6 s0 M = some r) : E g (0, 0) 98 [some (.ref 82), some (.int a1), some (.int a2), some (.int a3), some (.int a4), some (.int x5), some (.int x6), o7, o8, o9] [.int s0] (cells M) := by
  unfold X11_smith_b98 at h
  refine e_istore (ls' := [some (.ref 82), some (.int a1), some (.int a2), some (.int a3), some (.int a4), some (.int x5), some (.int x6), some (.int s0), o8, o9]) hg dX11_smith_98 rfl ?_
  refine e_aload_n hg dX11_smith_100 rfl ?_
  refine e_iload hg dX11_smith_101 rfl ?_
  refine e_aload_n hg dX11_smith_103 rfl ?_
  refine m_getR (q := 90) hg ciX11 11 lk_997 dX11_smith_104 io_82 (Nat.le_of_ble_eq_true rfl) rfl rf_82_11 ?_
  refine e_iload hg dX11_smith_107 rfl ?_
  obtain ⟨hi23, h⟩ := o_gd h
  refine m_iald hg sh_90 hi23 dX11_smith_109 ?_
  refine e_iconst (v := 4) hg dX11_smith_110 (by decide) ?_
  obtain ⟨u24, M25, hc26, h⟩ := o_bd h
  refine m_callVV (rest := []) (M' := M25) (ci := 11) hg mfX11_thinksOf mvX11_thinksOf (X11_thinksOf_ok (r := (u24, M25)) hc26) lk_1321 dX11_smith_111 io_82 rfl rfl rfl (by omega) (Nat.le_of_ble_eq_true rfl) ?_
  refine e_iload_n hg dX11_smith_114 rfl ?_
  refine e_iconst (v := 1) hg dX11_smith_115 (by decide) ?_
  refine e_icmpne hg 155 dX11_smith_116 (by decide) (fun c27 => ?_) (fun c27 => ?_)
  · have h := o_pos c27 h
    refine e_aload_n hg dX11_smith_119 rfl ?_
    refine m_getR (q := 83) hg ciX11 0 lk_986 dX11_smith_120 io_82 (Nat.le_of_ble_eq_true rfl) rfl rf_82_0 ?_
    refine e_bipush (v := 21) hg dX11_smith_123 (by decide) ?_
    refine e_iload hg dX11_smith_125 rfl ?_
    refine e_iadd hg dX11_smith_127 ?_
    obtain ⟨hi28, h⟩ := o_gd h
    refine m_iald hg sh_83 hi28 dX11_smith_128 ?_
    refine e_i2l hg dX11_smith_129 ?_
    refine e_aload_n hg dX11_smith_130 rfl ?_
    refine e_iload hg dX11_smith_131 rfl ?_
    refine e_iload hg dX11_smith_133 rfl ?_
    refine e_iload hg dX11_smith_135 rfl ?_
    refine e_iconst (v := 0) hg dX11_smith_137 (by decide) ?_
    obtain ⟨v29, M30, hc31, h⟩ := o_bd h
    refine m_callVJ (rest := [.long ((M25.1 83 (21 + x5).toNatClampNeg).toInt64)]) (v := v29) (M' := M30) (ci := 11) hg mfX11_paysFrom mvX11_paysFrom (X11_paysFrom_ok (r := (v29, M30)) hc31) lk_1364 dX11_smith_138 io_82 rfl rfl rfl (by omega) (Nat.le_of_ble_eq_true rfl) ?_
    refine e_lmul hg dX11_smith_141 ?_
    refine e_aload_n hg dX11_smith_142 rfl ?_
    refine m_getR (q := 101) hg ciX11 33 lk_1019 dX11_smith_143 io_82 (Nat.le_of_ble_eq_true rfl) rfl rf_82_33 ?_
    refine e_iload hg dX11_smith_146 rfl ?_
    obtain ⟨hi32, h⟩ := o_gd h
    refine m_lald hg sh_101 hi32 dX11_smith_148 ?_
    refine e_iload hg dX11_smith_149 rfl ?_
    obtain ⟨v33, M34, hc35, h⟩ := o_bd h
    refine m_callSJ (rest := []) (v := v33) (M' := M34) hg mfX11_partOf mvX11_partOf (X11_partOf_ok (r := (v33, M34)) hc35) lk_1349 dX11_smith_151 rfl rfl (by omega) (Nat.le_of_ble_eq_true rfl) ?_
    exact m_lret hg hr dX11_smith_154 h
  · have h := o_neg c27 h
    refine e_iload hg dX11_smith_155 rfl ?_
    refine e_ifne hg 164 dX11_smith_157 (by decide) (fun c36 => ?_) (fun c36 => ?_)
    · have h := o_pos c36 h
      refine e_iload hg dX11_smith_160 rfl ?_
      refine e_i2l hg dX11_smith_162 ?_
      exact m_lret hg hr dX11_smith_163 h
    · have h := o_neg c36 h
      refine e_aload_n hg dX11_smith_164 rfl ?_
      refine e_iload hg dX11_smith_165 rfl ?_
      obtain ⟨u37, M38, hc39, h⟩ := o_bd h
      refine m_callVV (rest := []) (M' := M38) (ci := 11) hg mfX11_worksOut mvX11_worksOut (X11_worksOut_ok (r := (u37, M38)) hc39) lk_1326 dX11_smith_167 io_82 rfl rfl rfl (by omega) (Nat.le_of_ble_eq_true rfl) ?_
      refine e_aload_n hg dX11_smith_170 rfl ?_
      refine e_iload hg dX11_smith_171 rfl ?_
      refine e_iload hg dX11_smith_173 rfl ?_
      refine e_iconst (v := 1) hg dX11_smith_175 (by decide) ?_
      refine e_iconst (v := 0) hg dX11_smith_176 (by decide) ?_
      obtain ⟨v40, M41, hc42, h⟩ := o_bd h
      refine m_callVJ (rest := []) (v := v40) (M' := M41) (ci := 11) hg mfX11_goes mvX11_goes (X11_goes_ok (r := (v40, M41)) hc42) lk_1333 dX11_smith_177 io_82 rfl rfl rfl (by omega) (Nat.le_of_ble_eq_true rfl) ?_
      refine e_aload_n hg dX11_smith_180 rfl ?_
      refine e_iload hg dX11_smith_181 rfl ?_
      refine e_aload_n hg dX11_smith_183 rfl ?_
      refine m_getR (q := 91) hg ciX11 12 lk_998 dX11_smith_184 io_82 (Nat.le_of_ble_eq_true rfl) rfl rf_82_12 ?_
      refine e_iload hg dX11_smith_187 rfl ?_
      obtain ⟨hi43, h⟩ := o_gd h
      refine m_iald hg sh_91 hi43 dX11_smith_189 ?_
      refine e_aload_n hg dX11_smith_190 rfl ?_
      refine e_iload hg dX11_smith_191 rfl ?_
      refine e_aload_n hg dX11_smith_193 rfl ?_
      refine m_getR (q := 90) hg ciX11 11 lk_997 dX11_smith_194 io_82 (Nat.le_of_ble_eq_true rfl) rfl rf_82_11 ?_
      refine e_iload hg dX11_smith_197 rfl ?_
      obtain ⟨hi44, h⟩ := o_gd h
      refine m_iald hg sh_90 hi44 dX11_smith_199 ?_
      obtain ⟨v45, M46, hc47, h⟩ := o_bd h
      refine m_callVI (rest := [.int (M41.1 91 x5.toNatClampNeg), .int x6, .ref 82, .long v40]) (v := v45) (M' := M46) (ci := 11) hg mfX11_sortFor mvX11_sortFor (X11_sortFor_ok (r := (v45, M46)) hc47) lk_1345 dX11_smith_200 io_82 rfl rfl rfl (by omega) (Nat.le_of_ble_eq_true rfl) ?_
      refine e_aload_n hg dX11_smith_203 rfl ?_
      refine m_getR (q := 94) hg ciX11 15 lk_1001 dX11_smith_204 io_82 (Nat.le_of_ble_eq_true rfl) rfl rf_82_15 ?_
      refine e_iload hg dX11_smith_207 rfl ?_
      obtain ⟨hi48, h⟩ := o_gd h
      refine m_iald hg sh_94 hi48 dX11_smith_209 ?_
      obtain ⟨v49, M50, hc51, h⟩ := o_bd h
      refine m_callVJ (rest := [.long v40]) (v := v49) (M' := M50) (ci := 11) hg mfX11_goes mvX11_goes (X11_goes_ok (r := (v49, M50)) hc51) lk_1333 dX11_smith_210 io_82 rfl rfl rfl (by omega) (Nat.le_of_ble_eq_true rfl) ?_
      refine e_lsub hg dX11_smith_213 ?_
      refine e_lstore (ls' := [some (.ref 82), some (.int a1), some (.int a2), some (.int a3), some (.int a4), some (.int x5), some (.int x6), some (.int s0), some (.long (v40 - v49)), none]) hg dX11_smith_214 rfl ?_
      refine e_lload hg dX11_smith_216 rfl ?_
      refine e_aload_n hg dX11_smith_218 rfl ?_
      refine m_getR (q := 101) hg ciX11 33 lk_1019 dX11_smith_219 io_82 (Nat.le_of_ble_eq_true rfl) rfl rf_82_33 ?_
      refine e_iload hg dX11_smith_222 rfl ?_
      obtain ⟨hi52, h⟩ := o_gd h
      refine m_lald hg sh_101 hi52 dX11_smith_224 ?_
      refine e_iload hg dX11_smith_225 rfl ?_
      obtain ⟨v53, M54, hc55, h⟩ := o_bd h
      refine m_callSJ (rest := []) (v := v53) (M' := M54) hg mfX11_partOf mvX11_partOf (X11_partOf_ok (r := (v53, M54)) hc55) lk_1349 dX11_smith_227 rfl rfl (by omega) (Nat.le_of_ble_eq_true rfl) ?_
      exact m_lret hg hr dX11_smith_230 h

def X11_smith (a1 : Int32) (a2 : Int32) (a3 : Int32) (a4 : Int32) (M : mm) : Option (Int64 × mm) :=
  bd (X11_isTy a1 M) fun v1 M2 =>
  if v1 = 0 then
    some ((-9223372036854775808), M2)
  else
    bd (X11_isPerson a2 M2) fun v5 M6 =>
    if v5 = 0 then
      some ((-9223372036854775808), M6)
    else
      gd (inb (a1 / 10) 6) <|
      if a2 = (M6.1 90 (a1 / 10).toNatClampNeg) then
        some ((-9223372036854775808), M6)
      else
        bd (X11_within (a3.toInt64) 0 1 M6) fun v11 M12 =>
        if v11 = 0 then
          some ((-9223372036854775808), M12)
        else
          bd (X11_within (a4.toInt64) 0 1 M12) fun v15 M16 =>
          if v15 = 0 then
            some ((-9223372036854775808), M16)
          else
            gd (inb a2 33) <|
            gd (inb (a1 / 10) 6) <|
            if (M16.1 91 (a1 / 10).toNatClampNeg) < (M16.1 83 a2.toNatClampNeg) then
              gd (inb a2 33) <|
              X11_smith_b98 a1 a2 a3 a4 (a1 / 10) (a1 - a1 / 10 * 10) (M16.1 83 a2.toNatClampNeg) M16
            else
              gd (inb (a1 / 10) 6) <|
              X11_smith_b98 a1 a2 a3 a4 (a1 / 10) (a1 - a1 / 10 * 10) (M16.1 91 (a1 / 10).toNatClampNeg) M16
set_option maxRecDepth 100000 in
set_option maxHeartbeats 4000000 in
theorem X11_smith_ok {a1 : Int32} {a2 : Int32} {a3 : Int32} {a4 : Int32} {M : mm} {r : Int64 × mm} (h : X11_smith a1 a2 a3 a4 M = some r) : CM yX11_smith cX11_smith 10 (some .long) 106 [.ref 82, .int a1, .int a2, .int a3, .int a4] (cells M) (some (.long r.1)) (cells r.2) := by
  refine cm_of (ls := [some (.ref 82), some (.int a1), some (.int a2), some (.int a3), some (.int a4), none, none, none, none, none]) mfX11_smith rfl (Nat.le_of_ble_eq_true rfl) (fun g hg hr => ?_)
  unfold X11_smith at h
  refine e_aload_n hg dX11_smith_0 rfl ?_
  refine e_iload_n hg dX11_smith_1 rfl ?_
  obtain ⟨v1, M2, hc3, h⟩ := o_bd h
  refine m_callVI (rest := []) (v := v1) (M' := M2) (ci := 11) hg mfX11_isTy mvX11_isTy (X11_isTy_ok (r := (v1, M2)) hc3) lk_1312 dX11_smith_2 io_82 rfl rfl rfl (by omega) (Nat.le_of_ble_eq_true rfl) ?_
  refine e_ifeq hg 50 dX11_smith_5 (by decide) (fun c4 => ?_) (fun c4 => ?_)
  · have h := o_pos c4 h
    refine e_ldc2 hg dX11_smith_50 lk_1316 ?_
    exact m_lret hg hr dX11_smith_53 h
  · have h := o_neg c4 h
    refine e_aload_n hg dX11_smith_8 rfl ?_
    refine e_iload_n hg dX11_smith_9 rfl ?_
    obtain ⟨v5, M6, hc7, h⟩ := o_bd h
    refine m_callVI (rest := []) (v := v5) (M' := M6) (ci := 11) hg mfX11_isPerson mvX11_isPerson (X11_isPerson_ok (r := (v5, M6)) hc7) lk_1224 dX11_smith_10 io_82 rfl rfl rfl (by omega) (Nat.le_of_ble_eq_true rfl) ?_
    refine e_ifeq hg 50 dX11_smith_13 (by decide) (fun c8 => ?_) (fun c8 => ?_)
    · have h := o_pos c8 h
      refine e_ldc2 hg dX11_smith_50 lk_1316 ?_
      exact m_lret hg hr dX11_smith_53 h
    · have h := o_neg c8 h
      refine e_iload_n hg dX11_smith_16 rfl ?_
      refine e_aload_n hg dX11_smith_17 rfl ?_
      refine m_getR (q := 90) hg ciX11 11 lk_997 dX11_smith_18 io_82 (Nat.le_of_ble_eq_true rfl) rfl rf_82_11 ?_
      refine e_iload_n hg dX11_smith_21 rfl ?_
      refine e_bipush (v := 10) hg dX11_smith_22 (by decide) ?_
      refine e_idiv hg dX11_smith_24 (by decide) ?_
      obtain ⟨hi9, h⟩ := o_gd h
      refine m_iald hg sh_90 hi9 dX11_smith_25 ?_
      refine e_icmpeq hg 50 dX11_smith_26 (by decide) (fun c10 => ?_) (fun c10 => ?_)
      · have h := o_pos c10 h
        refine e_ldc2 hg dX11_smith_50 lk_1316 ?_
        exact m_lret hg hr dX11_smith_53 h
      · have h := o_neg c10 h
        refine e_iload_n hg dX11_smith_29 rfl ?_
        refine e_i2l hg dX11_smith_30 ?_
        refine e_lconst (v := 0) hg dX11_smith_31 (by decide) ?_
        refine e_lconst (v := 1) hg dX11_smith_32 (by decide) ?_
        obtain ⟨v11, M12, hc13, h⟩ := o_bd h
        refine m_callSI (rest := []) (v := v11) (M' := M12) hg mfX11_within mvX11_within (X11_within_ok (r := (v11, M12)) hc13) lk_1190 dX11_smith_33 rfl rfl (by omega) (Nat.le_of_ble_eq_true rfl) ?_
        refine e_ifeq hg 50 dX11_smith_36 (by decide) (fun c14 => ?_) (fun c14 => ?_)
        · have h := o_pos c14 h
          refine e_ldc2 hg dX11_smith_50 lk_1316 ?_
          exact m_lret hg hr dX11_smith_53 h
        · have h := o_neg c14 h
          refine e_iload hg dX11_smith_39 rfl ?_
          refine e_i2l hg dX11_smith_41 ?_
          refine e_lconst (v := 0) hg dX11_smith_42 (by decide) ?_
          refine e_lconst (v := 1) hg dX11_smith_43 (by decide) ?_
          obtain ⟨v15, M16, hc17, h⟩ := o_bd h
          refine m_callSI (rest := []) (v := v15) (M' := M16) hg mfX11_within mvX11_within (X11_within_ok (r := (v15, M16)) hc17) lk_1190 dX11_smith_44 rfl rfl (by omega) (Nat.le_of_ble_eq_true rfl) ?_
          refine e_ifne hg 54 dX11_smith_47 (by decide) (fun c18 => ?_) (fun c18 => ?_)
          · have h := o_pos c18 h
            refine e_ldc2 hg dX11_smith_50 lk_1316 ?_
            exact m_lret hg hr dX11_smith_53 h
          · have h := o_neg c18 h
            refine e_iload_n hg dX11_smith_54 rfl ?_
            refine e_bipush (v := 10) hg dX11_smith_55 (by decide) ?_
            refine e_idiv hg dX11_smith_57 (by decide) ?_
            refine e_istore (ls' := [some (.ref 82), some (.int a1), some (.int a2), some (.int a3), some (.int a4), some (.int (a1 / 10)), none, none, none, none]) hg dX11_smith_58 rfl ?_
            refine e_iload_n hg dX11_smith_60 rfl ?_
            refine e_bipush (v := 10) hg dX11_smith_61 (by decide) ?_
            refine e_irem hg dX11_smith_63 (by decide) ?_
            refine e_istore (ls' := [some (.ref 82), some (.int a1), some (.int a2), some (.int a3), some (.int a4), some (.int (a1 / 10)), some (.int (a1 - a1 / 10 * 10)), none, none, none]) hg dX11_smith_64 rfl ?_
            refine e_aload_n hg dX11_smith_66 rfl ?_
            refine m_getR (q := 83) hg ciX11 0 lk_986 dX11_smith_67 io_82 (Nat.le_of_ble_eq_true rfl) rfl rf_82_0 ?_
            refine e_iload_n hg dX11_smith_70 rfl ?_
            obtain ⟨hi19, h⟩ := o_gd h
            refine m_iald hg sh_83 hi19 dX11_smith_71 ?_
            refine e_aload_n hg dX11_smith_72 rfl ?_
            refine m_getR (q := 91) hg ciX11 12 lk_998 dX11_smith_73 io_82 (Nat.le_of_ble_eq_true rfl) rfl rf_82_12 ?_
            refine e_iload hg dX11_smith_76 rfl ?_
            obtain ⟨hi20, h⟩ := o_gd h
            refine m_iald hg sh_91 hi20 dX11_smith_78 ?_
            refine e_icmple hg 91 dX11_smith_79 (by decide) (fun c21 => ?_) (fun c21 => ?_)
            · have h := o_pos c21 h
              refine e_aload_n hg dX11_smith_82 rfl ?_
              refine m_getR (q := 83) hg ciX11 0 lk_986 dX11_smith_83 io_82 (Nat.le_of_ble_eq_true rfl) rfl rf_82_0 ?_
              refine e_iload_n hg dX11_smith_86 rfl ?_
              obtain ⟨hi22, h⟩ := o_gd h
              refine m_iald hg sh_83 hi22 dX11_smith_87 ?_
              refine e_goto hg 98 dX11_smith_88 (by decide) ?_
              exact X11_smith_b98_ok hg hr  h
            · have h := o_neg c21 h
              refine e_aload_n hg dX11_smith_91 rfl ?_
              refine m_getR (q := 91) hg ciX11 12 lk_998 dX11_smith_92 io_82 (Nat.le_of_ble_eq_true rfl) rfl rf_82_12 ?_
              refine e_iload hg dX11_smith_95 rfl ?_
              obtain ⟨hi56, h⟩ := o_gd h
              refine m_iald hg sh_91 hi56 dX11_smith_97 ?_
              exact X11_smith_b98_ok hg hr  h

