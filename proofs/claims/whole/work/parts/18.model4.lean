def X11_keepsAside_L103 (a1 : Int32) (K145 : Int32 → mm → Option (Unit × mm)) : Nat → Int32 → Int32 → mm → Option (Unit × mm)
  | 0, _, _, _ => none
  | n_ + 1, x2, x4, M =>
    if x4 < 8 then
      gd (inb ((8 * x2) + x4) 48) <|
      gd (inb ((((a1 * 6) + x2) * 8) + x4) 96) <|
      lt_ (sA M 108 (upd (M.1 108) ((((a1 * 6) + x2) * 8) + x4).toNatClampNeg (M.1 95 ((8 * x2) + x4).toNatClampNeg))) fun M23 =>
      (X11_keepsAside_L103 a1 K145 n_) x2 (x4 + 1) M23
    else
      K145 x2 M
set_option maxRecDepth 100000 in
set_option maxHeartbeats 4000000 in
theorem X11_keepsAside_L103_ok {g : gx} (hg : EC g cX11_keepsAside RX11 0) {a1 : Int32} {r : Unit × mm} (hr : RT g (none) (0, 0) none (cells r.2)) {K145 : Int32 → mm → Option (Unit × mm)} (hK145 : ∀ (x2 : Int32) (o3 : Option Value) (o4 : Option Value) (M : mm), K145 x2 M = some r → E g (0, 0) 145 [some (.ref 82), some (.int a1), some (.int x2), o3, o4] [] (cells M)) : ∀ (n_ : Nat) (x2 : Int32) (x4 : Int32) (o3 : Option Value) (M : mm), X11_keepsAside_L103 a1 K145 n_ x2 x4 M = some r → E g (0, 0) 103 [some (.ref 82), some (.int a1), some (.int x2), o3, some (.int x4)] [] (cells M) := by
  intro n_
  induction n_ with
  | zero => intro x2 x4 o3 M h; exact o_no h
  | succ n_ ih =>
    intro x2 x4 o3 M h
    rw [X11_keepsAside_L103] at h
    refine e_iload hg dX11_keepsAside_103 rfl ?_
    refine e_bipush (v := 8) hg dX11_keepsAside_105 (by decide) ?_
    refine e_icmpge hg 145 dX11_keepsAside_107 (by decide) (fun c20 => ?_) (fun c20 => ?_)
    · have h := o_pos c20 h
      refine e_aload_n hg dX11_keepsAside_110 rfl ?_
      refine m_getR (q := 108) hg ciX11 47 lk_1033 dX11_keepsAside_111 io_82 (Nat.le_of_ble_eq_true rfl) rfl rf_82_47 ?_
      refine e_iload_n hg dX11_keepsAside_114 rfl ?_
      refine e_bipush (v := 6) hg dX11_keepsAside_115 (by decide) ?_
      refine e_imul hg dX11_keepsAside_117 ?_
      refine e_iload_n hg dX11_keepsAside_118 rfl ?_
      refine e_iadd hg dX11_keepsAside_119 ?_
      refine e_bipush (v := 8) hg dX11_keepsAside_120 (by decide) ?_
      refine e_imul hg dX11_keepsAside_122 ?_
      refine e_iload hg dX11_keepsAside_123 rfl ?_
      refine e_iadd hg dX11_keepsAside_125 ?_
      refine e_aload_n hg dX11_keepsAside_126 rfl ?_
      refine m_getR (q := 95) hg ciX11 16 lk_1002 dX11_keepsAside_127 io_82 (Nat.le_of_ble_eq_true rfl) rfl rf_82_16 ?_
      refine e_bipush (v := 8) hg dX11_keepsAside_130 (by decide) ?_
      refine e_iload_n hg dX11_keepsAside_132 rfl ?_
      refine e_imul hg dX11_keepsAside_133 ?_
      refine e_iload hg dX11_keepsAside_134 rfl ?_
      refine e_iadd hg dX11_keepsAside_136 ?_
      obtain ⟨hi21, h⟩ := o_gd h
      refine m_iald hg sh_95 hi21 dX11_keepsAside_137 ?_
      obtain ⟨hi22, h⟩ := o_gd h
      obtain ⟨M23, hM23, h⟩ := o_lt h
      refine m_iast hg sh_108 hi22 dX11_keepsAside_138 ?_
      rw [← hM23]
      refine e_drop (ls2 := [some (.ref 82), some (.int a1), some (.int x2), none, some (.int x4)]) 3 rfl ?_
      refine e_iinc (v := (x4 + 1)) (ls' := [some (.ref 82), some (.int a1), some (.int x2), none, some (.int (x4 + 1))]) hg dX11_keepsAside_139 rfl rfl rfl ?_
      refine e_goto hg 103 dX11_keepsAside_142 (by decide) ?_
      exact ih _ _ _ _ h
    · have h := o_neg c20 h
      exact hK145 _ _ _ _ h

def X11_keepsAside_L2 (a1 : Int32) (K151 : mm → Option (Unit × mm)) : Nat → Int32 → mm → Option (Unit × mm)
  | 0, _, _ => none
  | n_ + 1, x2, M =>
    if x2 < 6 then
      gd (inb x2 6) <|
      gd (inb (((a1 * 6) + x2) * 6) 72) <|
      lt_ (sA M 107 (upd (M.1 107) (((a1 * 6) + x2) * 6).toNatClampNeg (M.1 91 x2.toNatClampNeg))) fun M4 =>
      gd (inb x2 6) <|
      gd (inb ((((a1 * 6) + x2) * 6) + 1) 72) <|
      lt_ (sA M4 107 (upd (M4.1 107) ((((a1 * 6) + x2) * 6) + 1).toNatClampNeg (M4.1 92 x2.toNatClampNeg))) fun M7 =>
      gd (inb x2 6) <|
      gd (inb ((((a1 * 6) + x2) * 6) + 2) 72) <|
      lt_ (sA M7 107 (upd (M7.1 107) ((((a1 * 6) + x2) * 6) + 2).toNatClampNeg (M7.1 93 x2.toNatClampNeg))) fun M10 =>
      gd (inb x2 6) <|
      gd (inb ((((a1 * 6) + x2) * 6) + 3) 72) <|
      lt_ (sA M10 107 (upd (M10.1 107) ((((a1 * 6) + x2) * 6) + 3).toNatClampNeg (M10.1 94 x2.toNatClampNeg))) fun M13 =>
      gd (inb x2 6) <|
      gd (inb ((((a1 * 6) + x2) * 6) + 4) 72) <|
      lt_ (sA M13 107 (upd (M13.1 107) ((((a1 * 6) + x2) * 6) + 4).toNatClampNeg (M13.1 96 x2.toNatClampNeg))) fun M16 =>
      gd (inb x2 6) <|
      gd (inb ((((a1 * 6) + x2) * 6) + 5) 72) <|
      lt_ (sA M16 107 (upd (M16.1 107) ((((a1 * 6) + x2) * 6) + 5).toNatClampNeg (M16.1 97 x2.toNatClampNeg))) fun M19 =>
      X11_keepsAside_L103 a1 (fun x2 M =>
          (X11_keepsAside_L2 a1 K151 n_) (x2 + 1) M) 10000 x2 0 M19
    else
      K151 M
set_option maxRecDepth 100000 in
set_option maxHeartbeats 4000000 in
theorem X11_keepsAside_L2_ok {g : gx} (hg : EC g cX11_keepsAside RX11 0) {a1 : Int32} {r : Unit × mm} (hr : RT g (none) (0, 0) none (cells r.2)) {K151 : mm → Option (Unit × mm)} (hK151 : ∀ (o2 : Option Value) (o3 : Option Value) (o4 : Option Value) (M : mm), K151 M = some r → E g (0, 0) 151 [some (.ref 82), some (.int a1), o2, o3, o4] [] (cells M)) : ∀ (n_ : Nat) (x2 : Int32) (o3 : Option Value) (o4 : Option Value) (M : mm), X11_keepsAside_L2 a1 K151 n_ x2 M = some r → E g (0, 0) 2 [some (.ref 82), some (.int a1), some (.int x2), o3, o4] [] (cells M) := by
  intro n_
  induction n_ with
  | zero => intro x2 o3 o4 M h; exact o_no h
  | succ n_ ih =>
    intro x2 o3 o4 M h
    rw [X11_keepsAside_L2] at h
    refine e_iload_n hg dX11_keepsAside_2 rfl ?_
    refine e_bipush (v := 6) hg dX11_keepsAside_3 (by decide) ?_
    refine e_icmpge hg 151 dX11_keepsAside_5 (by decide) (fun c1 => ?_) (fun c1 => ?_)
    · have h := o_pos c1 h
      refine e_iload_n hg dX11_keepsAside_8 rfl ?_
      refine e_bipush (v := 6) hg dX11_keepsAside_9 (by decide) ?_
      refine e_imul hg dX11_keepsAside_11 ?_
      refine e_iload_n hg dX11_keepsAside_12 rfl ?_
      refine e_iadd hg dX11_keepsAside_13 ?_
      refine e_bipush (v := 6) hg dX11_keepsAside_14 (by decide) ?_
      refine e_imul hg dX11_keepsAside_16 ?_
      refine e_istore_n (ls' := [some (.ref 82), some (.int a1), some (.int x2), some (.int (((a1 * 6) + x2) * 6)), o4]) hg dX11_keepsAside_17 rfl ?_
      refine e_aload_n hg dX11_keepsAside_18 rfl ?_
      refine m_getR (q := 107) hg ciX11 46 lk_1032 dX11_keepsAside_19 io_82 (Nat.le_of_ble_eq_true rfl) rfl rf_82_46 ?_
      refine e_iload_n hg dX11_keepsAside_22 rfl ?_
      refine e_aload_n hg dX11_keepsAside_23 rfl ?_
      refine m_getR (q := 91) hg ciX11 12 lk_998 dX11_keepsAside_24 io_82 (Nat.le_of_ble_eq_true rfl) rfl rf_82_12 ?_
      refine e_iload_n hg dX11_keepsAside_27 rfl ?_
      obtain ⟨hi2, h⟩ := o_gd h
      refine m_iald hg sh_91 hi2 dX11_keepsAside_28 ?_
      obtain ⟨hi3, h⟩ := o_gd h
      obtain ⟨M4, hM4, h⟩ := o_lt h
      refine m_iast hg sh_107 hi3 dX11_keepsAside_29 ?_
      rw [← hM4]
      refine e_aload_n hg dX11_keepsAside_30 rfl ?_
      refine m_getR (q := 107) hg ciX11 46 lk_1032 dX11_keepsAside_31 io_82 (Nat.le_of_ble_eq_true rfl) rfl rf_82_46 ?_
      refine e_iload_n hg dX11_keepsAside_34 rfl ?_
      refine e_iconst (v := 1) hg dX11_keepsAside_35 (by decide) ?_
      refine e_iadd hg dX11_keepsAside_36 ?_
      refine e_aload_n hg dX11_keepsAside_37 rfl ?_
      refine m_getR (q := 92) hg ciX11 13 lk_999 dX11_keepsAside_38 io_82 (Nat.le_of_ble_eq_true rfl) rfl rf_82_13 ?_
      refine e_iload_n hg dX11_keepsAside_41 rfl ?_
      obtain ⟨hi5, h⟩ := o_gd h
      refine m_iald hg sh_92 hi5 dX11_keepsAside_42 ?_
      obtain ⟨hi6, h⟩ := o_gd h
      obtain ⟨M7, hM7, h⟩ := o_lt h
      refine m_iast hg sh_107 hi6 dX11_keepsAside_43 ?_
      rw [← hM7]
      refine e_aload_n hg dX11_keepsAside_44 rfl ?_
      refine m_getR (q := 107) hg ciX11 46 lk_1032 dX11_keepsAside_45 io_82 (Nat.le_of_ble_eq_true rfl) rfl rf_82_46 ?_
      refine e_iload_n hg dX11_keepsAside_48 rfl ?_
      refine e_iconst (v := 2) hg dX11_keepsAside_49 (by decide) ?_
      refine e_iadd hg dX11_keepsAside_50 ?_
      refine e_aload_n hg dX11_keepsAside_51 rfl ?_
      refine m_getR (q := 93) hg ciX11 14 lk_1000 dX11_keepsAside_52 io_82 (Nat.le_of_ble_eq_true rfl) rfl rf_82_14 ?_
      refine e_iload_n hg dX11_keepsAside_55 rfl ?_
      obtain ⟨hi8, h⟩ := o_gd h
      refine m_iald hg sh_93 hi8 dX11_keepsAside_56 ?_
      obtain ⟨hi9, h⟩ := o_gd h
      obtain ⟨M10, hM10, h⟩ := o_lt h
      refine m_iast hg sh_107 hi9 dX11_keepsAside_57 ?_
      rw [← hM10]
      refine e_aload_n hg dX11_keepsAside_58 rfl ?_
      refine m_getR (q := 107) hg ciX11 46 lk_1032 dX11_keepsAside_59 io_82 (Nat.le_of_ble_eq_true rfl) rfl rf_82_46 ?_
      refine e_iload_n hg dX11_keepsAside_62 rfl ?_
      refine e_iconst (v := 3) hg dX11_keepsAside_63 (by decide) ?_
      refine e_iadd hg dX11_keepsAside_64 ?_
      refine e_aload_n hg dX11_keepsAside_65 rfl ?_
      refine m_getR (q := 94) hg ciX11 15 lk_1001 dX11_keepsAside_66 io_82 (Nat.le_of_ble_eq_true rfl) rfl rf_82_15 ?_
      refine e_iload_n hg dX11_keepsAside_69 rfl ?_
      obtain ⟨hi11, h⟩ := o_gd h
      refine m_iald hg sh_94 hi11 dX11_keepsAside_70 ?_
      obtain ⟨hi12, h⟩ := o_gd h
      obtain ⟨M13, hM13, h⟩ := o_lt h
      refine m_iast hg sh_107 hi12 dX11_keepsAside_71 ?_
      rw [← hM13]
      refine e_aload_n hg dX11_keepsAside_72 rfl ?_
      refine m_getR (q := 107) hg ciX11 46 lk_1032 dX11_keepsAside_73 io_82 (Nat.le_of_ble_eq_true rfl) rfl rf_82_46 ?_
      refine e_iload_n hg dX11_keepsAside_76 rfl ?_
      refine e_iconst (v := 4) hg dX11_keepsAside_77 (by decide) ?_
      refine e_iadd hg dX11_keepsAside_78 ?_
      refine e_aload_n hg dX11_keepsAside_79 rfl ?_
      refine m_getR (q := 96) hg ciX11 17 lk_1003 dX11_keepsAside_80 io_82 (Nat.le_of_ble_eq_true rfl) rfl rf_82_17 ?_
      refine e_iload_n hg dX11_keepsAside_83 rfl ?_
      obtain ⟨hi14, h⟩ := o_gd h
      refine m_iald hg sh_96 hi14 dX11_keepsAside_84 ?_
      obtain ⟨hi15, h⟩ := o_gd h
      obtain ⟨M16, hM16, h⟩ := o_lt h
      refine m_iast hg sh_107 hi15 dX11_keepsAside_85 ?_
      rw [← hM16]
      refine e_aload_n hg dX11_keepsAside_86 rfl ?_
      refine m_getR (q := 107) hg ciX11 46 lk_1032 dX11_keepsAside_87 io_82 (Nat.le_of_ble_eq_true rfl) rfl rf_82_46 ?_
      refine e_iload_n hg dX11_keepsAside_90 rfl ?_
      refine e_iconst (v := 5) hg dX11_keepsAside_91 (by decide) ?_
      refine e_iadd hg dX11_keepsAside_92 ?_
      refine e_aload_n hg dX11_keepsAside_93 rfl ?_
      refine m_getR (q := 97) hg ciX11 18 lk_1004 dX11_keepsAside_94 io_82 (Nat.le_of_ble_eq_true rfl) rfl rf_82_18 ?_
      refine e_iload_n hg dX11_keepsAside_97 rfl ?_
      obtain ⟨hi17, h⟩ := o_gd h
      refine m_iald hg sh_97 hi17 dX11_keepsAside_98 ?_
      obtain ⟨hi18, h⟩ := o_gd h
      obtain ⟨M19, hM19, h⟩ := o_lt h
      refine m_iast hg sh_107 hi18 dX11_keepsAside_99 ?_
      rw [← hM19]
      refine e_iconst (v := 0) hg dX11_keepsAside_100 (by decide) ?_
      refine e_istore (ls' := [some (.ref 82), some (.int a1), some (.int x2), some (.int (((a1 * 6) + x2) * 6)), some (.int 0)]) hg dX11_keepsAside_101 rfl ?_
      refine X11_keepsAside_L103_ok hg hr (fun x2 o3 o4 M h => ?_) 10000 _ _ _ _ h
      refine e_iinc (v := (x2 + 1)) (ls' := [some (.ref 82), some (.int a1), some (.int (x2 + 1)), o3, o4]) hg dX11_keepsAside_145 rfl rfl rfl ?_
      refine e_goto hg 2 dX11_keepsAside_148 (by decide) ?_
      exact ih _ _ _ _ h
    · have h := o_neg c1 h
      exact hK151 _ _ _ _ h

def X11_keepsAside_L153 (a1 : Int32) (K212 : mm → Option (Unit × mm)) : Nat → Int32 → mm → Option (Unit × mm)
  | 0, _, _ => none
  | n_ + 1, x2, M =>
    if x2 < 5 then
      gd (inb x2 5) <|
      gd (inb (((a1 * 5) + x2) * 3) 30) <|
      lt_ (sA M 109 (upd (M.1 109) (((a1 * 5) + x2) * 3).toNatClampNeg (M.1 87 x2.toNatClampNeg))) fun M27 =>
      gd (inb x2 5) <|
      gd (inb ((((a1 * 5) + x2) * 3) + 1) 30) <|
      lt_ (sA M27 109 (upd (M27.1 109) ((((a1 * 5) + x2) * 3) + 1).toNatClampNeg (M27.1 88 x2.toNatClampNeg))) fun M30 =>
      gd (inb x2 5) <|
      gd (inb ((((a1 * 5) + x2) * 3) + 2) 30) <|
      lt_ (sA M30 109 (upd (M30.1 109) ((((a1 * 5) + x2) * 3) + 2).toNatClampNeg (M30.1 89 x2.toNatClampNeg))) fun M33 =>
      (X11_keepsAside_L153 a1 K212 n_) (x2 + 1) M33
    else
      K212 M
set_option maxRecDepth 100000 in
set_option maxHeartbeats 4000000 in
theorem X11_keepsAside_L153_ok {g : gx} (hg : EC g cX11_keepsAside RX11 0) {a1 : Int32} {r : Unit × mm} (hr : RT g (none) (0, 0) none (cells r.2)) {K212 : mm → Option (Unit × mm)} (hK212 : ∀ (o2 : Option Value) (o3 : Option Value) (o4 : Option Value) (M : mm), K212 M = some r → E g (0, 0) 212 [some (.ref 82), some (.int a1), o2, o3, o4] [] (cells M)) : ∀ (n_ : Nat) (x2 : Int32) (o3 : Option Value) (o4 : Option Value) (M : mm), X11_keepsAside_L153 a1 K212 n_ x2 M = some r → E g (0, 0) 153 [some (.ref 82), some (.int a1), some (.int x2), o3, o4] [] (cells M) := by
  intro n_
  induction n_ with
  | zero => intro x2 o3 o4 M h; exact o_no h
  | succ n_ ih =>
    intro x2 o3 o4 M h
    rw [X11_keepsAside_L153] at h
    refine e_iload_n hg dX11_keepsAside_153 rfl ?_
    refine e_iconst (v := 5) hg dX11_keepsAside_154 (by decide) ?_
    refine e_icmpge hg 212 dX11_keepsAside_155 (by decide) (fun c24 => ?_) (fun c24 => ?_)
    · have h := o_pos c24 h
      refine e_iload_n hg dX11_keepsAside_158 rfl ?_
      refine e_iconst (v := 5) hg dX11_keepsAside_159 (by decide) ?_
      refine e_imul hg dX11_keepsAside_160 ?_
      refine e_iload_n hg dX11_keepsAside_161 rfl ?_
      refine e_iadd hg dX11_keepsAside_162 ?_
      refine e_iconst (v := 3) hg dX11_keepsAside_163 (by decide) ?_
      refine e_imul hg dX11_keepsAside_164 ?_
      refine e_istore_n (ls' := [some (.ref 82), some (.int a1), some (.int x2), some (.int (((a1 * 5) + x2) * 3)), o4]) hg dX11_keepsAside_165 rfl ?_
      refine e_aload_n hg dX11_keepsAside_166 rfl ?_
      refine m_getR (q := 109) hg ciX11 48 lk_1034 dX11_keepsAside_167 io_82 (Nat.le_of_ble_eq_true rfl) rfl rf_82_48 ?_
      refine e_iload_n hg dX11_keepsAside_170 rfl ?_
      refine e_aload_n hg dX11_keepsAside_171 rfl ?_
      refine m_getR (q := 87) hg ciX11 8 lk_994 dX11_keepsAside_172 io_82 (Nat.le_of_ble_eq_true rfl) rfl rf_82_8 ?_
      refine e_iload_n hg dX11_keepsAside_175 rfl ?_
      obtain ⟨hi25, h⟩ := o_gd h
      refine m_iald hg sh_87 hi25 dX11_keepsAside_176 ?_
      obtain ⟨hi26, h⟩ := o_gd h
      obtain ⟨M27, hM27, h⟩ := o_lt h
      refine m_iast hg sh_109 hi26 dX11_keepsAside_177 ?_
      rw [← hM27]
      refine e_aload_n hg dX11_keepsAside_178 rfl ?_
      refine m_getR (q := 109) hg ciX11 48 lk_1034 dX11_keepsAside_179 io_82 (Nat.le_of_ble_eq_true rfl) rfl rf_82_48 ?_
      refine e_iload_n hg dX11_keepsAside_182 rfl ?_
      refine e_iconst (v := 1) hg dX11_keepsAside_183 (by decide) ?_
      refine e_iadd hg dX11_keepsAside_184 ?_
      refine e_aload_n hg dX11_keepsAside_185 rfl ?_
      refine m_getR (q := 88) hg ciX11 9 lk_995 dX11_keepsAside_186 io_82 (Nat.le_of_ble_eq_true rfl) rfl rf_82_9 ?_
      refine e_iload_n hg dX11_keepsAside_189 rfl ?_
      obtain ⟨hi28, h⟩ := o_gd h
      refine m_iald hg sh_88 hi28 dX11_keepsAside_190 ?_
      obtain ⟨hi29, h⟩ := o_gd h
      obtain ⟨M30, hM30, h⟩ := o_lt h
      refine m_iast hg sh_109 hi29 dX11_keepsAside_191 ?_
      rw [← hM30]
      refine e_aload_n hg dX11_keepsAside_192 rfl ?_
      refine m_getR (q := 109) hg ciX11 48 lk_1034 dX11_keepsAside_193 io_82 (Nat.le_of_ble_eq_true rfl) rfl rf_82_48 ?_
      refine e_iload_n hg dX11_keepsAside_196 rfl ?_
      refine e_iconst (v := 2) hg dX11_keepsAside_197 (by decide) ?_
      refine e_iadd hg dX11_keepsAside_198 ?_
      refine e_aload_n hg dX11_keepsAside_199 rfl ?_
      refine m_getR (q := 89) hg ciX11 10 lk_996 dX11_keepsAside_200 io_82 (Nat.le_of_ble_eq_true rfl) rfl rf_82_10 ?_
      refine e_iload_n hg dX11_keepsAside_203 rfl ?_
      obtain ⟨hi31, h⟩ := o_gd h
      refine m_iald hg sh_89 hi31 dX11_keepsAside_204 ?_
      obtain ⟨hi32, h⟩ := o_gd h
      obtain ⟨M33, hM33, h⟩ := o_lt h
      refine m_iast hg sh_109 hi32 dX11_keepsAside_205 ?_
      rw [← hM33]
      refine e_iinc (v := (x2 + 1)) (ls' := [some (.ref 82), some (.int a1), some (.int (x2 + 1)), some (.int (((a1 * 5) + x2) * 3)), o4]) hg dX11_keepsAside_206 rfl rfl rfl ?_
      refine e_goto hg 153 dX11_keepsAside_209 (by decide) ?_
      exact ih _ _ _ _ h
    · have h := o_neg c24 h
      exact hK212 _ _ _ _ h

def X11_keepsAside (a1 : Int32) (M : mm) : Option (Unit × mm) :=
  X11_keepsAside_L2 a1 (fun M =>
      X11_keepsAside_L153 a1 (fun M =>
          gd (inb (2 * a1) 4) <|
          lt_ (sA M 110 (upd (M.1 110) (2 * a1).toNatClampNeg (M.1 82 21))) fun M35 =>
          gd (inb ((2 * a1) + 1) 4) <|
          lt_ (sA M35 110 (upd (M35.1 110) ((2 * a1) + 1).toNatClampNeg (M35.1 82 22))) fun M37 =>
          some ((), M37)) 10000 0 M) 10000 0 M
set_option maxRecDepth 100000 in
set_option maxHeartbeats 4000000 in
theorem X11_keepsAside_ok {a1 : Int32} {M : mm} {r : Unit × mm} (h : X11_keepsAside a1 M = some r) : CM yX11_keepsAside cX11_keepsAside 5 (none) 0 [.ref 82, .int a1] (cells M) none (cells r.2) := by
  refine cm_of (ls := [some (.ref 82), some (.int a1), none, none, none]) mfX11_keepsAside rfl (Nat.le_of_ble_eq_true rfl) (fun g hg hr => ?_)
  unfold X11_keepsAside at h
  refine e_iconst (v := 0) hg dX11_keepsAside_0 (by decide) ?_
  refine e_istore_n (ls' := [some (.ref 82), some (.int a1), some (.int 0), none, none]) hg dX11_keepsAside_1 rfl ?_
  refine X11_keepsAside_L2_ok hg hr (fun o2 o3 o4 M h => ?_) 10000 _ _ _ _ h
  refine e_iconst (v := 0) hg dX11_keepsAside_151 (by decide) ?_
  refine e_istore_n (ls' := [some (.ref 82), some (.int a1), some (.int 0), o3, o4]) hg dX11_keepsAside_152 rfl ?_
  refine X11_keepsAside_L153_ok hg hr (fun o2 o3 o4 M h => ?_) 10000 _ _ _ _ h
  refine e_aload_n hg dX11_keepsAside_212 rfl ?_
  refine m_getR (q := 110) hg ciX11 49 lk_1035 dX11_keepsAside_213 io_82 (Nat.le_of_ble_eq_true rfl) rfl rf_82_49 ?_
  refine e_iconst (v := 2) hg dX11_keepsAside_216 (by decide) ?_
  refine e_iload_n hg dX11_keepsAside_217 rfl ?_
  refine e_imul hg dX11_keepsAside_218 ?_
  refine e_aload_n hg dX11_keepsAside_219 rfl ?_
  refine m_getI hg ciX11 21 lk_1007 dX11_keepsAside_220 io_82 (Nat.le_of_ble_eq_true rfl) rfl ?_
  obtain ⟨hi34, h⟩ := o_gd h
  obtain ⟨M35, hM35, h⟩ := o_lt h
  refine m_iast hg sh_110 hi34 dX11_keepsAside_223 ?_
  rw [← hM35]
  refine e_aload_n hg dX11_keepsAside_224 rfl ?_
  refine m_getR (q := 110) hg ciX11 49 lk_1035 dX11_keepsAside_225 io_82 (Nat.le_of_ble_eq_true rfl) rfl rf_82_49 ?_
  refine e_iconst (v := 2) hg dX11_keepsAside_228 (by decide) ?_
  refine e_iload_n hg dX11_keepsAside_229 rfl ?_
  refine e_imul hg dX11_keepsAside_230 ?_
  refine e_iconst (v := 1) hg dX11_keepsAside_231 (by decide) ?_
  refine e_iadd hg dX11_keepsAside_232 ?_
  refine e_aload_n hg dX11_keepsAside_233 rfl ?_
  refine m_getI hg ciX11 22 lk_1008 dX11_keepsAside_234 io_82 (Nat.le_of_ble_eq_true rfl) rfl ?_
  obtain ⟨hi36, h⟩ := o_gd h
  obtain ⟨M37, hM37, h⟩ := o_lt h
  refine m_iast hg sh_110 hi36 dX11_keepsAside_237 ?_
  rw [← hM37]
  exact m_vret hg hr dX11_keepsAside_238 h

def X11_laysBack_L133 (a1 : Int32) (a2 : Int32) (a3 : Int32) (a4 : Int32) (K177 : Int32 → mm → Option (Unit × mm)) : Nat → Int32 → Int32 → mm → Option (Unit × mm)
  | 0, _, _, _ => none
  | n_ + 1, x5, x7, M =>
    if x7 < 8 then
      gd (inb ((((a1 * 6) + x5) * 8) + x7) 96) <|
      gd (inb ((8 * x5) + x7) 48) <|
      lt_ (sA M 95 (upd (M.1 95) ((8 * x5) + x7).toNatClampNeg (M.1 108 ((((a1 * 6) + x5) * 8) + x7).toNatClampNeg))) fun M24 =>
      (X11_laysBack_L133 a1 a2 a3 a4 K177 n_) x5 (x7 + 1) M24
    else
      K177 x5 M
set_option maxRecDepth 100000 in
set_option maxHeartbeats 4000000 in
theorem X11_laysBack_L133_ok {g : gx} (hg : EC g cX11_laysBack RX11 0) {a1 : Int32} {a2 : Int32} {a3 : Int32} {a4 : Int32} {r : Unit × mm} (hr : RT g (none) (0, 0) none (cells r.2)) {K177 : Int32 → mm → Option (Unit × mm)} (hK177 : ∀ (x5 : Int32) (o6 : Option Value) (o7 : Option Value) (M : mm), K177 x5 M = some r → E g (0, 0) 177 [some (.ref 82), some (.int a1), some (.int a2), some (.int a3), some (.int a4), some (.int x5), o6, o7] [] (cells M)) : ∀ (n_ : Nat) (x5 : Int32) (x7 : Int32) (o6 : Option Value) (M : mm), X11_laysBack_L133 a1 a2 a3 a4 K177 n_ x5 x7 M = some r → E g (0, 0) 133 [some (.ref 82), some (.int a1), some (.int a2), some (.int a3), some (.int a4), some (.int x5), o6, some (.int x7)] [] (cells M) := by
  intro n_
  induction n_ with
  | zero => intro x5 x7 o6 M h; exact o_no h
  | succ n_ ih =>
    intro x5 x7 o6 M h
    rw [X11_laysBack_L133] at h
    refine e_iload hg dX11_laysBack_133 rfl ?_
    refine e_bipush (v := 8) hg dX11_laysBack_135 (by decide) ?_
    refine e_icmpge hg 177 dX11_laysBack_137 (by decide) (fun c21 => ?_) (fun c21 => ?_)
    · have h := o_pos c21 h
      refine e_aload_n hg dX11_laysBack_140 rfl ?_
      refine m_getR (q := 95) hg ciX11 16 lk_1002 dX11_laysBack_141 io_82 (Nat.le_of_ble_eq_true rfl) rfl rf_82_16 ?_
      refine e_bipush (v := 8) hg dX11_laysBack_144 (by decide) ?_
      refine e_iload hg dX11_laysBack_146 rfl ?_
      refine e_imul hg dX11_laysBack_148 ?_
      refine e_iload hg dX11_laysBack_149 rfl ?_
      refine e_iadd hg dX11_laysBack_151 ?_
      refine e_aload_n hg dX11_laysBack_152 rfl ?_
      refine m_getR (q := 108) hg ciX11 47 lk_1033 dX11_laysBack_153 io_82 (Nat.le_of_ble_eq_true rfl) rfl rf_82_47 ?_
      refine e_iload_n hg dX11_laysBack_156 rfl ?_
      refine e_bipush (v := 6) hg dX11_laysBack_157 (by decide) ?_
      refine e_imul hg dX11_laysBack_159 ?_
      refine e_iload hg dX11_laysBack_160 rfl ?_
      refine e_iadd hg dX11_laysBack_162 ?_
      refine e_bipush (v := 8) hg dX11_laysBack_163 (by decide) ?_
      refine e_imul hg dX11_laysBack_165 ?_
      refine e_iload hg dX11_laysBack_166 rfl ?_
      refine e_iadd hg dX11_laysBack_168 ?_
      obtain ⟨hi22, h⟩ := o_gd h
      refine m_iald hg sh_108 hi22 dX11_laysBack_169 ?_
      obtain ⟨hi23, h⟩ := o_gd h
      obtain ⟨M24, hM24, h⟩ := o_lt h
      refine m_iast hg sh_95 hi23 dX11_laysBack_170 ?_
      rw [← hM24]
      refine e_drop (ls2 := [some (.ref 82), some (.int a1), some (.int a2), some (.int a3), some (.int a4), some (.int x5), none, some (.int x7)]) 6 rfl ?_
      refine e_iinc (v := (x7 + 1)) (ls' := [some (.ref 82), some (.int a1), some (.int a2), some (.int a3), some (.int a4), some (.int x5), none, some (.int (x7 + 1))]) hg dX11_laysBack_171 rfl rfl rfl ?_
      refine e_goto hg 133 dX11_laysBack_174 (by decide) ?_
      exact ih _ _ _ _ h
    · have h := o_neg c21 h
      exact hK177 _ _ _ _ h

def X11_laysBack_b129 (a1 : Int32) (a2 : Int32) (a3 : Int32) (a4 : Int32) (R3 : Int32 → mm → Option (Unit × mm)) (K183 : mm → Option (Unit × mm)) (x5 : Int32) (s1 : Int32) (s2 : Int32) (M : mm) : Option (Unit × mm) :=
  gd (inb s1 6) <|
  lt_ (sA M 97 (upd (M.1 97) s1.toNatClampNeg s2)) fun M20 =>
  X11_laysBack_L133 a1 a2 a3 a4 (fun x5 M =>
      R3 (x5 + 1) M) 10000 x5 0 M20
set_option maxRecDepth 100000 in
set_option maxHeartbeats 4000000 in
theorem X11_laysBack_b129_ok {g : gx} (hg : EC g cX11_laysBack RX11 0) {a1 : Int32} {a2 : Int32} {a3 : Int32} {a4 : Int32} {r : Unit × mm} (hr : RT g (none) (0, 0) none (cells r.2)) {R3 : Int32 → mm → Option (Unit × mm)} (hR3 : ∀ (x5 : Int32) (o6 : Option Value) (o7 : Option Value) (M : mm), R3 x5 M = some r → E g (0, 0) 3 [some (.ref 82), some (.int a1), some (.int a2), some (.int a3), some (.int a4), some (.int x5), o6, o7] [] (cells M)) {K183 : mm → Option (Unit × mm)} (hK183 : ∀ (o5 : Option Value) (o6 : Option Value) (o7 : Option Value) (M : mm), K183 M = some r → E g (0, 0) 183 [some (.ref 82), some (.int a1), some (.int a2), some (.int a3), some (.int a4), o5, o6, o7] [] (cells M)) {x5 : Int32} {s1 : Int32} {s2 : Int32} {o6 : Option Value} {o7 : Option Value} {M : mm} (h : X11_laysBack_b129 a1 a2 a3 a4 R3 K183 x5 s1 s2 M = some r) : E g (0, 0) 129 [some (.ref 82), some (.int a1), some (.int a2), some (.int a3), some (.int a4), some (.int x5), o6, o7] [.int s2, .int s1, .ref 97] (cells M) := by
  unfold X11_laysBack_b129 at h
  obtain ⟨hi19, h⟩ := o_gd h
  obtain ⟨M20, hM20, h⟩ := o_lt h
  refine m_iast hg sh_97 hi19 dX11_laysBack_129 ?_
  rw [← hM20]
  refine e_iconst (v := 0) hg dX11_laysBack_130 (by decide) ?_
  refine e_drop (ls2 := [some (.ref 82), some (.int a1), some (.int a2), some (.int a3), some (.int a4), some (.int x5), none, o7]) 6 rfl ?_
  refine e_istore (ls' := [some (.ref 82), some (.int a1), some (.int a2), some (.int a3), some (.int a4), some (.int x5), none, some (.int 0)]) hg dX11_laysBack_131 rfl ?_
  refine X11_laysBack_L133_ok hg hr (fun x5 o6 o7 M h => ?_) 10000 _ _ _ _ h
  refine e_iinc (v := (x5 + 1)) (ls' := [some (.ref 82), some (.int a1), some (.int a2), some (.int a3), some (.int a4), some (.int (x5 + 1)), o6, o7]) hg dX11_laysBack_177 rfl rfl rfl ?_
  refine e_goto hg 3 dX11_laysBack_180 (by decide) ?_
  exact hR3 _ _ _ _ h

def X11_laysBack_L3 (a1 : Int32) (a2 : Int32) (a3 : Int32) (a4 : Int32) (K183 : mm → Option (Unit × mm)) : Nat → Int32 → mm → Option (Unit × mm)
  | 0, _, _ => none
  | n_ + 1, x5, M =>
    if x5 < a2 then
      gd (inb (((a1 * 6) + x5) * 6) 72) <|
      gd (inb x5 6) <|
      lt_ (sA M 91 (upd (M.1 91) x5.toNatClampNeg (M.1 107 (((a1 * 6) + x5) * 6).toNatClampNeg))) fun M4 =>
      gd (inb ((((a1 * 6) + x5) * 6) + 1) 72) <|
      gd (inb x5 6) <|
      lt_ (sA M4 92 (upd (M4.1 92) x5.toNatClampNeg (M4.1 107 ((((a1 * 6) + x5) * 6) + 1).toNatClampNeg))) fun M7 =>
      gd (inb ((((a1 * 6) + x5) * 6) + 2) 72) <|
      gd (inb x5 6) <|
      lt_ (sA M7 93 (upd (M7.1 93) x5.toNatClampNeg (M7.1 107 ((((a1 * 6) + x5) * 6) + 2).toNatClampNeg))) fun M10 =>
      gd (inb ((((a1 * 6) + x5) * 6) + 3) 72) <|
      gd (inb x5 6) <|
      lt_ (sA M10 94 (upd (M10.1 94) x5.toNatClampNeg (M10.1 107 ((((a1 * 6) + x5) * 6) + 3).toNatClampNeg))) fun M13 =>
      gd (inb ((((a1 * 6) + x5) * 6) + 4) 72) <|
      gd (inb x5 6) <|
      lt_ (sA M13 96 (upd (M13.1 96) x5.toNatClampNeg (M13.1 107 ((((a1 * 6) + x5) * 6) + 4).toNatClampNeg))) fun M16 =>
      if a4 = 0 then
        gd (inb x5 6) <|
        X11_laysBack_b129 a1 a2 a3 a4 (X11_laysBack_L3 a1 a2 a3 a4 K183 n_) K183 x5 x5 (M16.1 97 x5.toNatClampNeg) M16
      else
        gd (inb ((((a1 * 6) + x5) * 6) + 5) 72) <|
        X11_laysBack_b129 a1 a2 a3 a4 (X11_laysBack_L3 a1 a2 a3 a4 K183 n_) K183 x5 x5 (M16.1 107 ((((a1 * 6) + x5) * 6) + 5).toNatClampNeg) M16
    else
      K183 M
set_option maxRecDepth 100000 in
set_option maxHeartbeats 4000000 in
theorem X11_laysBack_L3_ok {g : gx} (hg : EC g cX11_laysBack RX11 0) {a1 : Int32} {a2 : Int32} {a3 : Int32} {a4 : Int32} {r : Unit × mm} (hr : RT g (none) (0, 0) none (cells r.2)) {K183 : mm → Option (Unit × mm)} (hK183 : ∀ (o5 : Option Value) (o6 : Option Value) (o7 : Option Value) (M : mm), K183 M = some r → E g (0, 0) 183 [some (.ref 82), some (.int a1), some (.int a2), some (.int a3), some (.int a4), o5, o6, o7] [] (cells M)) : ∀ (n_ : Nat) (x5 : Int32) (o6 : Option Value) (o7 : Option Value) (M : mm), X11_laysBack_L3 a1 a2 a3 a4 K183 n_ x5 M = some r → E g (0, 0) 3 [some (.ref 82), some (.int a1), some (.int a2), some (.int a3), some (.int a4), some (.int x5), o6, o7] [] (cells M) := by
  intro n_
  induction n_ with
  | zero => intro x5 o6 o7 M h; exact o_no h
  | succ n_ ih =>
    intro x5 o6 o7 M h
    rw [X11_laysBack_L3] at h
    refine e_iload hg dX11_laysBack_3 rfl ?_
    refine e_iload_n hg dX11_laysBack_5 rfl ?_
    refine e_icmpge hg 183 dX11_laysBack_6 (by decide) (fun c1 => ?_) (fun c1 => ?_)
    · have h := o_pos c1 h
      refine e_iload_n hg dX11_laysBack_9 rfl ?_
      refine e_bipush (v := 6) hg dX11_laysBack_10 (by decide) ?_
      refine e_imul hg dX11_laysBack_12 ?_
      refine e_iload hg dX11_laysBack_13 rfl ?_
      refine e_iadd hg dX11_laysBack_15 ?_
      refine e_bipush (v := 6) hg dX11_laysBack_16 (by decide) ?_
      refine e_imul hg dX11_laysBack_18 ?_
      refine e_istore (ls' := [some (.ref 82), some (.int a1), some (.int a2), some (.int a3), some (.int a4), some (.int x5), some (.int (((a1 * 6) + x5) * 6)), o7]) hg dX11_laysBack_19 rfl ?_
      refine e_aload_n hg dX11_laysBack_21 rfl ?_
      refine m_getR (q := 91) hg ciX11 12 lk_998 dX11_laysBack_22 io_82 (Nat.le_of_ble_eq_true rfl) rfl rf_82_12 ?_
      refine e_iload hg dX11_laysBack_25 rfl ?_
      refine e_aload_n hg dX11_laysBack_27 rfl ?_
      refine m_getR (q := 107) hg ciX11 46 lk_1032 dX11_laysBack_28 io_82 (Nat.le_of_ble_eq_true rfl) rfl rf_82_46 ?_
      refine e_iload hg dX11_laysBack_31 rfl ?_
      obtain ⟨hi2, h⟩ := o_gd h
      refine m_iald hg sh_107 hi2 dX11_laysBack_33 ?_
      obtain ⟨hi3, h⟩ := o_gd h
      obtain ⟨M4, hM4, h⟩ := o_lt h
      refine m_iast hg sh_91 hi3 dX11_laysBack_34 ?_
      rw [← hM4]
      refine e_aload_n hg dX11_laysBack_35 rfl ?_
      refine m_getR (q := 92) hg ciX11 13 lk_999 dX11_laysBack_36 io_82 (Nat.le_of_ble_eq_true rfl) rfl rf_82_13 ?_
      refine e_iload hg dX11_laysBack_39 rfl ?_
      refine e_aload_n hg dX11_laysBack_41 rfl ?_
      refine m_getR (q := 107) hg ciX11 46 lk_1032 dX11_laysBack_42 io_82 (Nat.le_of_ble_eq_true rfl) rfl rf_82_46 ?_
      refine e_iload hg dX11_laysBack_45 rfl ?_
      refine e_iconst (v := 1) hg dX11_laysBack_47 (by decide) ?_
      refine e_iadd hg dX11_laysBack_48 ?_
      obtain ⟨hi5, h⟩ := o_gd h
      refine m_iald hg sh_107 hi5 dX11_laysBack_49 ?_
      obtain ⟨hi6, h⟩ := o_gd h
      obtain ⟨M7, hM7, h⟩ := o_lt h
      refine m_iast hg sh_92 hi6 dX11_laysBack_50 ?_
      rw [← hM7]
      refine e_aload_n hg dX11_laysBack_51 rfl ?_
      refine m_getR (q := 93) hg ciX11 14 lk_1000 dX11_laysBack_52 io_82 (Nat.le_of_ble_eq_true rfl) rfl rf_82_14 ?_
      refine e_iload hg dX11_laysBack_55 rfl ?_
      refine e_aload_n hg dX11_laysBack_57 rfl ?_
      refine m_getR (q := 107) hg ciX11 46 lk_1032 dX11_laysBack_58 io_82 (Nat.le_of_ble_eq_true rfl) rfl rf_82_46 ?_
      refine e_iload hg dX11_laysBack_61 rfl ?_
      refine e_iconst (v := 2) hg dX11_laysBack_63 (by decide) ?_
      refine e_iadd hg dX11_laysBack_64 ?_
      obtain ⟨hi8, h⟩ := o_gd h
      refine m_iald hg sh_107 hi8 dX11_laysBack_65 ?_
      obtain ⟨hi9, h⟩ := o_gd h
      obtain ⟨M10, hM10, h⟩ := o_lt h
      refine m_iast hg sh_93 hi9 dX11_laysBack_66 ?_
      rw [← hM10]
      refine e_aload_n hg dX11_laysBack_67 rfl ?_
      refine m_getR (q := 94) hg ciX11 15 lk_1001 dX11_laysBack_68 io_82 (Nat.le_of_ble_eq_true rfl) rfl rf_82_15 ?_
      refine e_iload hg dX11_laysBack_71 rfl ?_
      refine e_aload_n hg dX11_laysBack_73 rfl ?_
      refine m_getR (q := 107) hg ciX11 46 lk_1032 dX11_laysBack_74 io_82 (Nat.le_of_ble_eq_true rfl) rfl rf_82_46 ?_
      refine e_iload hg dX11_laysBack_77 rfl ?_
      refine e_iconst (v := 3) hg dX11_laysBack_79 (by decide) ?_
      refine e_iadd hg dX11_laysBack_80 ?_
      obtain ⟨hi11, h⟩ := o_gd h
      refine m_iald hg sh_107 hi11 dX11_laysBack_81 ?_
      obtain ⟨hi12, h⟩ := o_gd h
      obtain ⟨M13, hM13, h⟩ := o_lt h
      refine m_iast hg sh_94 hi12 dX11_laysBack_82 ?_
      rw [← hM13]
      refine e_aload_n hg dX11_laysBack_83 rfl ?_
      refine m_getR (q := 96) hg ciX11 17 lk_1003 dX11_laysBack_84 io_82 (Nat.le_of_ble_eq_true rfl) rfl rf_82_17 ?_
      refine e_iload hg dX11_laysBack_87 rfl ?_
      refine e_aload_n hg dX11_laysBack_89 rfl ?_
      refine m_getR (q := 107) hg ciX11 46 lk_1032 dX11_laysBack_90 io_82 (Nat.le_of_ble_eq_true rfl) rfl rf_82_46 ?_
      refine e_iload hg dX11_laysBack_93 rfl ?_
      refine e_iconst (v := 4) hg dX11_laysBack_95 (by decide) ?_
      refine e_iadd hg dX11_laysBack_96 ?_
      obtain ⟨hi14, h⟩ := o_gd h
      refine m_iald hg sh_107 hi14 dX11_laysBack_97 ?_
      obtain ⟨hi15, h⟩ := o_gd h
      obtain ⟨M16, hM16, h⟩ := o_lt h
      refine m_iast hg sh_96 hi15 dX11_laysBack_98 ?_
      rw [← hM16]
      refine e_aload_n hg dX11_laysBack_99 rfl ?_
      refine m_getR (q := 97) hg ciX11 18 lk_1004 dX11_laysBack_100 io_82 (Nat.le_of_ble_eq_true rfl) rfl rf_82_18 ?_
      refine e_iload hg dX11_laysBack_103 rfl ?_
      refine e_iload hg dX11_laysBack_105 rfl ?_
      refine e_ifeq hg 122 dX11_laysBack_107 (by decide) (fun c17 => ?_) (fun c17 => ?_)
      · have h := o_pos c17 h
        refine e_aload_n hg dX11_laysBack_122 rfl ?_
        refine m_getR (q := 97) hg ciX11 18 lk_1004 dX11_laysBack_123 io_82 (Nat.le_of_ble_eq_true rfl) rfl rf_82_18 ?_
        refine e_iload hg dX11_laysBack_126 rfl ?_
        obtain ⟨hi18, h⟩ := o_gd h
        refine m_iald hg sh_97 hi18 dX11_laysBack_128 ?_
        exact X11_laysBack_b129_ok hg hr ih hK183 h
      · have h := o_neg c17 h
        refine e_aload_n hg dX11_laysBack_110 rfl ?_
        refine m_getR (q := 107) hg ciX11 46 lk_1032 dX11_laysBack_111 io_82 (Nat.le_of_ble_eq_true rfl) rfl rf_82_46 ?_
        refine e_iload hg dX11_laysBack_114 rfl ?_
        refine e_iconst (v := 5) hg dX11_laysBack_116 (by decide) ?_
        refine e_iadd hg dX11_laysBack_117 ?_
        obtain ⟨hi25, h⟩ := o_gd h
        refine m_iald hg sh_107 hi25 dX11_laysBack_118 ?_
        refine e_goto hg 129 dX11_laysBack_119 (by decide) ?_
        exact X11_laysBack_b129_ok hg hr ih hK183 h
    · have h := o_neg c1 h
      exact hK183 _ _ _ _ h

def X11_laysBack_L186 (a1 : Int32) (a2 : Int32) (a3 : Int32) (a4 : Int32) (K254 : mm → Option (Unit × mm)) : Nat → Int32 → mm → Option (Unit × mm)
  | 0, _, _ => none
  | n_ + 1, x5, M =>
    if x5 < a3 then
      gd (inb (((a1 * 5) + x5) * 3) 30) <|
      gd (inb x5 5) <|
      lt_ (sA M 87 (upd (M.1 87) x5.toNatClampNeg (M.1 109 (((a1 * 5) + x5) * 3).toNatClampNeg))) fun M29 =>
      gd (inb ((((a1 * 5) + x5) * 3) + 1) 30) <|
      gd (inb x5 5) <|
      lt_ (sA M29 88 (upd (M29.1 88) x5.toNatClampNeg (M29.1 109 ((((a1 * 5) + x5) * 3) + 1).toNatClampNeg))) fun M32 =>
      gd (inb ((((a1 * 5) + x5) * 3) + 2) 30) <|
      gd (inb x5 5) <|
      lt_ (sA M32 89 (upd (M32.1 89) x5.toNatClampNeg (M32.1 109 ((((a1 * 5) + x5) * 3) + 2).toNatClampNeg))) fun M35 =>
      (X11_laysBack_L186 a1 a2 a3 a4 K254 n_) (x5 + 1) M35
    else
      K254 M
set_option maxRecDepth 100000 in
set_option maxHeartbeats 4000000 in
theorem X11_laysBack_L186_ok {g : gx} (hg : EC g cX11_laysBack RX11 0) {a1 : Int32} {a2 : Int32} {a3 : Int32} {a4 : Int32} {r : Unit × mm} (hr : RT g (none) (0, 0) none (cells r.2)) {K254 : mm → Option (Unit × mm)} (hK254 : ∀ (o5 : Option Value) (o6 : Option Value) (o7 : Option Value) (M : mm), K254 M = some r → E g (0, 0) 254 [some (.ref 82), some (.int a1), some (.int a2), some (.int a3), some (.int a4), o5, o6, o7] [] (cells M)) : ∀ (n_ : Nat) (x5 : Int32) (o6 : Option Value) (o7 : Option Value) (M : mm), X11_laysBack_L186 a1 a2 a3 a4 K254 n_ x5 M = some r → E g (0, 0) 186 [some (.ref 82), some (.int a1), some (.int a2), some (.int a3), some (.int a4), some (.int x5), o6, o7] [] (cells M) := by
  intro n_
  induction n_ with
  | zero => intro x5 o6 o7 M h; exact o_no h
  | succ n_ ih =>
    intro x5 o6 o7 M h
    rw [X11_laysBack_L186] at h
    refine e_iload hg dX11_laysBack_186 rfl ?_
    refine e_iload_n hg dX11_laysBack_188 rfl ?_
    refine e_icmpge hg 254 dX11_laysBack_189 (by decide) (fun c26 => ?_) (fun c26 => ?_)
    · have h := o_pos c26 h
      refine e_iload_n hg dX11_laysBack_192 rfl ?_
      refine e_iconst (v := 5) hg dX11_laysBack_193 (by decide) ?_
      refine e_imul hg dX11_laysBack_194 ?_
      refine e_iload hg dX11_laysBack_195 rfl ?_
      refine e_iadd hg dX11_laysBack_197 ?_
      refine e_iconst (v := 3) hg dX11_laysBack_198 (by decide) ?_
      refine e_imul hg dX11_laysBack_199 ?_
      refine e_istore (ls' := [some (.ref 82), some (.int a1), some (.int a2), some (.int a3), some (.int a4), some (.int x5), some (.int (((a1 * 5) + x5) * 3)), o7]) hg dX11_laysBack_200 rfl ?_
      refine e_aload_n hg dX11_laysBack_202 rfl ?_
      refine m_getR (q := 87) hg ciX11 8 lk_994 dX11_laysBack_203 io_82 (Nat.le_of_ble_eq_true rfl) rfl rf_82_8 ?_
      refine e_iload hg dX11_laysBack_206 rfl ?_
      refine e_aload_n hg dX11_laysBack_208 rfl ?_
      refine m_getR (q := 109) hg ciX11 48 lk_1034 dX11_laysBack_209 io_82 (Nat.le_of_ble_eq_true rfl) rfl rf_82_48 ?_
      refine e_iload hg dX11_laysBack_212 rfl ?_
      obtain ⟨hi27, h⟩ := o_gd h
      refine m_iald hg sh_109 hi27 dX11_laysBack_214 ?_
      obtain ⟨hi28, h⟩ := o_gd h
      obtain ⟨M29, hM29, h⟩ := o_lt h
      refine m_iast hg sh_87 hi28 dX11_laysBack_215 ?_
      rw [← hM29]
      refine e_aload_n hg dX11_laysBack_216 rfl ?_
      refine m_getR (q := 88) hg ciX11 9 lk_995 dX11_laysBack_217 io_82 (Nat.le_of_ble_eq_true rfl) rfl rf_82_9 ?_
      refine e_iload hg dX11_laysBack_220 rfl ?_
      refine e_aload_n hg dX11_laysBack_222 rfl ?_
      refine m_getR (q := 109) hg ciX11 48 lk_1034 dX11_laysBack_223 io_82 (Nat.le_of_ble_eq_true rfl) rfl rf_82_48 ?_
      refine e_iload hg dX11_laysBack_226 rfl ?_
      refine e_iconst (v := 1) hg dX11_laysBack_228 (by decide) ?_
      refine e_iadd hg dX11_laysBack_229 ?_
      obtain ⟨hi30, h⟩ := o_gd h
      refine m_iald hg sh_109 hi30 dX11_laysBack_230 ?_
      obtain ⟨hi31, h⟩ := o_gd h
      obtain ⟨M32, hM32, h⟩ := o_lt h
      refine m_iast hg sh_88 hi31 dX11_laysBack_231 ?_
      rw [← hM32]
      refine e_aload_n hg dX11_laysBack_232 rfl ?_
      refine m_getR (q := 89) hg ciX11 10 lk_996 dX11_laysBack_233 io_82 (Nat.le_of_ble_eq_true rfl) rfl rf_82_10 ?_
      refine e_iload hg dX11_laysBack_236 rfl ?_
      refine e_aload_n hg dX11_laysBack_238 rfl ?_
      refine m_getR (q := 109) hg ciX11 48 lk_1034 dX11_laysBack_239 io_82 (Nat.le_of_ble_eq_true rfl) rfl rf_82_48 ?_
      refine e_iload hg dX11_laysBack_242 rfl ?_
      refine e_iconst (v := 2) hg dX11_laysBack_244 (by decide) ?_
      refine e_iadd hg dX11_laysBack_245 ?_
      obtain ⟨hi33, h⟩ := o_gd h
      refine m_iald hg sh_109 hi33 dX11_laysBack_246 ?_
      obtain ⟨hi34, h⟩ := o_gd h
      obtain ⟨M35, hM35, h⟩ := o_lt h
      refine m_iast hg sh_89 hi34 dX11_laysBack_247 ?_
      rw [← hM35]
      refine e_iinc (v := (x5 + 1)) (ls' := [some (.ref 82), some (.int a1), some (.int a2), some (.int a3), some (.int a4), some (.int (x5 + 1)), some (.int (((a1 * 5) + x5) * 3)), o7]) hg dX11_laysBack_248 rfl rfl rfl ?_
      refine e_goto hg 186 dX11_laysBack_251 (by decide) ?_
      exact ih _ _ _ _ h
    · have h := o_neg c26 h
      exact hK254 _ _ _ _ h

def X11_laysBack (a1 : Int32) (a2 : Int32) (a3 : Int32) (a4 : Int32) (M : mm) : Option (Unit × mm) :=
  X11_laysBack_L3 a1 a2 a3 a4 (fun M =>
      X11_laysBack_L186 a1 a2 a3 a4 (fun M =>
          gd (inb (2 * a1) 4) <|
          lt_ (sA M 82 (upd (M.1 82) 21 (M.1 110 (2 * a1).toNatClampNeg))) fun M37 =>
          gd (inb ((2 * a1) + 1) 4) <|
          lt_ (sA M37 82 (upd (M37.1 82) 22 (M37.1 110 ((2 * a1) + 1).toNatClampNeg))) fun M39 =>
          some ((), M39)) 10000 0 M) 10000 0 M
set_option maxRecDepth 100000 in
set_option maxHeartbeats 4000000 in
theorem X11_laysBack_ok {a1 : Int32} {a2 : Int32} {a3 : Int32} {a4 : Int32} {M : mm} {r : Unit × mm} (h : X11_laysBack a1 a2 a3 a4 M = some r) : CM yX11_laysBack cX11_laysBack 8 (none) 0 [.ref 82, .int a1, .int a2, .int a3, .int a4] (cells M) none (cells r.2) := by
  refine cm_of (ls := [some (.ref 82), some (.int a1), some (.int a2), some (.int a3), some (.int a4), none, none, none]) mfX11_laysBack rfl (Nat.le_of_ble_eq_true rfl) (fun g hg hr => ?_)
  unfold X11_laysBack at h
  refine e_iconst (v := 0) hg dX11_laysBack_0 (by decide) ?_
  refine e_istore (ls' := [some (.ref 82), some (.int a1), some (.int a2), some (.int a3), some (.int a4), some (.int 0), none, none]) hg dX11_laysBack_1 rfl ?_
  refine X11_laysBack_L3_ok hg hr (fun o5 o6 o7 M h => ?_) 10000 _ _ _ _ h
  refine e_iconst (v := 0) hg dX11_laysBack_183 (by decide) ?_
  refine e_istore (ls' := [some (.ref 82), some (.int a1), some (.int a2), some (.int a3), some (.int a4), some (.int 0), o6, o7]) hg dX11_laysBack_184 rfl ?_
  refine X11_laysBack_L186_ok hg hr (fun o5 o6 o7 M h => ?_) 10000 _ _ _ _ h
  refine e_aload_n hg dX11_laysBack_254 rfl ?_
  refine e_aload_n hg dX11_laysBack_255 rfl ?_
  refine m_getR (q := 110) hg ciX11 49 lk_1035 dX11_laysBack_256 io_82 (Nat.le_of_ble_eq_true rfl) rfl rf_82_49 ?_
  refine e_iconst (v := 2) hg dX11_laysBack_259 (by decide) ?_
  refine e_iload_n hg dX11_laysBack_260 rfl ?_
  refine e_imul hg dX11_laysBack_261 ?_
  obtain ⟨hi36, h⟩ := o_gd h
  refine m_iald hg sh_110 hi36 dX11_laysBack_262 ?_
  obtain ⟨M37, hM37, h⟩ := o_lt h
  refine m_putI hg ciX11 21 lk_1007 dX11_laysBack_263 io_82 (Nat.le_of_ble_eq_true rfl) rfl rfl rfl rfl ?_
  rw [← hM37]
  refine e_aload_n hg dX11_laysBack_266 rfl ?_
  refine e_aload_n hg dX11_laysBack_267 rfl ?_
  refine m_getR (q := 110) hg ciX11 49 lk_1035 dX11_laysBack_268 io_82 (Nat.le_of_ble_eq_true rfl) rfl rf_82_49 ?_
  refine e_iconst (v := 2) hg dX11_laysBack_271 (by decide) ?_
  refine e_iload_n hg dX11_laysBack_272 rfl ?_
  refine e_imul hg dX11_laysBack_273 ?_
  refine e_iconst (v := 1) hg dX11_laysBack_274 (by decide) ?_
  refine e_iadd hg dX11_laysBack_275 ?_
  obtain ⟨hi38, h⟩ := o_gd h
  refine m_iald hg sh_110 hi38 dX11_laysBack_276 ?_
  obtain ⟨M39, hM39, h⟩ := o_lt h
  refine m_putI hg ciX11 22 lk_1008 dX11_laysBack_277 io_82 (Nat.le_of_ble_eq_true rfl) rfl rfl rfl rfl ?_
  rw [← hM39]
  exact m_vret hg hr dX11_laysBack_280 h

def X11_ruled_L74 (a1 : Int32) (a2 : Int32) (a3 : Int32) (K90 : Int32 → Int32 → Int32 → Int32 → mm → Option (Int32 × mm)) : Nat → Int32 → Int32 → Int32 → Int32 → Int32 → mm → Option (Int32 × mm)
  | 0, _, _, _, _, _, _ => none
  | n_ + 1, x4, x5, x6, x7, x8, M =>
    if x8 < a2 then
      bd (X11_goesYear M) fun u20 M21 =>
      (X11_ruled_L74 a1 a2 a3 K90 n_) x4 x5 x6 x7 (x8 + 1) M21
    else
      K90 x4 x5 x6 x7 M
set_option maxRecDepth 100000 in
set_option maxHeartbeats 4000000 in
theorem X11_ruled_L74_ok {g : gx} (hg : EC g cX11_ruled RX11 107) {a1 : Int32} {a2 : Int32} {a3 : Int32} {r : Int32 × mm} (hr : RT g (some .int) (0, 0) (some (.int r.1)) (cells r.2)) {K90 : Int32 → Int32 → Int32 → Int32 → mm → Option (Int32 × mm)} (hK90 : ∀ (x4 : Int32) (x5 : Int32) (x6 : Int32) (x7 : Int32) (o8 : Option Value) (M : mm), K90 x4 x5 x6 x7 M = some r → E g (0, 0) 90 [some (.ref 82), some (.int a1), some (.int a2), some (.int a3), some (.int x4), some (.int x5), some (.int x6), some (.int x7), o8] [] (cells M)) : ∀ (n_ : Nat) (x4 : Int32) (x5 : Int32) (x6 : Int32) (x7 : Int32) (x8 : Int32) (M : mm), X11_ruled_L74 a1 a2 a3 K90 n_ x4 x5 x6 x7 x8 M = some r → E g (0, 0) 74 [some (.ref 82), some (.int a1), some (.int a2), some (.int a3), some (.int x4), some (.int x5), some (.int x6), some (.int x7), some (.int x8)] [] (cells M) := by
  intro n_
  induction n_ with
  | zero => intro x4 x5 x6 x7 x8 M h; exact o_no h
  | succ n_ ih =>
    intro x4 x5 x6 x7 x8 M h
    rw [X11_ruled_L74] at h
    refine e_iload hg dX11_ruled_74 rfl ?_
    refine e_iload_n hg dX11_ruled_76 rfl ?_
    refine e_icmpge hg 90 dX11_ruled_77 (by decide) (fun c19 => ?_) (fun c19 => ?_)
    · have h := o_pos c19 h
      refine e_aload_n hg dX11_ruled_80 rfl ?_
      obtain ⟨u20, M21, hc22, h⟩ := o_bd h
      refine m_callVV (rest := []) (M' := M21) (ci := 11) hg mfX11_goesYear mvX11_goesYear (X11_goesYear_ok (r := (u20, M21)) hc22) lk_1396 dX11_ruled_81 io_82 rfl rfl rfl (by omega) (Nat.le_of_ble_eq_true rfl) ?_
      refine e_iinc (v := (x8 + 1)) (ls' := [some (.ref 82), some (.int a1), some (.int a2), some (.int a3), some (.int x4), some (.int x5), some (.int x6), some (.int x7), some (.int (x8 + 1))]) hg dX11_ruled_84 rfl rfl rfl ?_
      refine e_goto hg 74 dX11_ruled_87 (by decide) ?_
      exact ih _ _ _ _ _ _ h
    · have h := o_neg c19 h
      exact hK90 _ _ _ _ _ _ h

def X11_ruled_b123 (a1 : Int32) (a2 : Int32) (a3 : Int32) (R44 : Int32 → Int32 → Int32 → Int32 → mm → Option (Int32 × mm)) (K129 : Int32 → Int32 → Int32 → mm → Option (Int32 × mm)) (x4 : Int32) (x5 : Int32) (x6 : Int32) (x7 : Int32) (M : mm) : Option (Int32 × mm) :=
  R44 x4 x5 x6 (x7 + 1) M
set_option maxRecDepth 100000 in
set_option maxHeartbeats 4000000 in
theorem X11_ruled_b123_ok {g : gx} (hg : EC g cX11_ruled RX11 107) {a1 : Int32} {a2 : Int32} {a3 : Int32} {r : Int32 × mm} (hr : RT g (some .int) (0, 0) (some (.int r.1)) (cells r.2)) {R44 : Int32 → Int32 → Int32 → Int32 → mm → Option (Int32 × mm)} (hR44 : ∀ (x4 : Int32) (x5 : Int32) (x6 : Int32) (x7 : Int32) (o8 : Option Value) (M : mm), R44 x4 x5 x6 x7 M = some r → E g (0, 0) 44 [some (.ref 82), some (.int a1), some (.int a2), some (.int a3), some (.int x4), some (.int x5), some (.int x6), some (.int x7), o8] [] (cells M)) {K129 : Int32 → Int32 → Int32 → mm → Option (Int32 × mm)} (hK129 : ∀ (x4 : Int32) (x5 : Int32) (x6 : Int32) (o7 : Option Value) (o8 : Option Value) (M : mm), K129 x4 x5 x6 M = some r → E g (0, 0) 129 [some (.ref 82), some (.int a1), some (.int a2), some (.int a3), some (.int x4), some (.int x5), some (.int x6), o7, o8] [] (cells M)) {x4 : Int32} {x5 : Int32} {x6 : Int32} {x7 : Int32} {o8 : Option Value} {M : mm} (h : X11_ruled_b123 a1 a2 a3 R44 K129 x4 x5 x6 x7 M = some r) : E g (0, 0) 123 [some (.ref 82), some (.int a1), some (.int a2), some (.int a3), some (.int x4), some (.int x5), some (.int x6), some (.int x7), o8] [] (cells M) := by
  unfold X11_ruled_b123 at h
  refine e_iinc (v := (x7 + 1)) (ls' := [some (.ref 82), some (.int a1), some (.int a2), some (.int a3), some (.int x4), some (.int x5), some (.int x6), some (.int (x7 + 1)), o8]) hg dX11_ruled_123 rfl rfl rfl ?_
  refine e_goto hg 44 dX11_ruled_126 (by decide) ?_
  exact hR44 _ _ _ _ _ _ h

def X11_ruled_b113 (a1 : Int32) (a2 : Int32) (a3 : Int32) (R44 : Int32 → Int32 → Int32 → Int32 → mm → Option (Int32 × mm)) (K129 : Int32 → Int32 → Int32 → mm → Option (Int32 × mm)) (x4 : Int32) (x7 : Int32) (M : mm) : Option (Int32 × mm) :=
  X11_ruled_b123 a1 a2 a3 R44 K129 x4 x7 (M.1 82 44) x7 M
set_option maxRecDepth 100000 in
set_option maxHeartbeats 4000000 in
theorem X11_ruled_b113_ok {g : gx} (hg : EC g cX11_ruled RX11 107) {a1 : Int32} {a2 : Int32} {a3 : Int32} {r : Int32 × mm} (hr : RT g (some .int) (0, 0) (some (.int r.1)) (cells r.2)) {R44 : Int32 → Int32 → Int32 → Int32 → mm → Option (Int32 × mm)} (hR44 : ∀ (x4 : Int32) (x5 : Int32) (x6 : Int32) (x7 : Int32) (o8 : Option Value) (M : mm), R44 x4 x5 x6 x7 M = some r → E g (0, 0) 44 [some (.ref 82), some (.int a1), some (.int a2), some (.int a3), some (.int x4), some (.int x5), some (.int x6), some (.int x7), o8] [] (cells M)) {K129 : Int32 → Int32 → Int32 → mm → Option (Int32 × mm)} (hK129 : ∀ (x4 : Int32) (x5 : Int32) (x6 : Int32) (o7 : Option Value) (o8 : Option Value) (M : mm), K129 x4 x5 x6 M = some r → E g (0, 0) 129 [some (.ref 82), some (.int a1), some (.int a2), some (.int a3), some (.int x4), some (.int x5), some (.int x6), o7, o8] [] (cells M)) {x4 : Int32} {x7 : Int32} {o5 : Option Value} {o6 : Option Value} {o8 : Option Value} {M : mm} (h : X11_ruled_b113 a1 a2 a3 R44 K129 x4 x7 M = some r) : E g (0, 0) 113 [some (.ref 82), some (.int a1), some (.int a2), some (.int a3), some (.int x4), o5, o6, some (.int x7), o8] [] (cells M) := by
  unfold X11_ruled_b113 at h
  refine e_iload hg dX11_ruled_113 rfl ?_
  refine e_istore (ls' := [some (.ref 82), some (.int a1), some (.int a2), some (.int a3), some (.int x4), some (.int x7), o6, some (.int x7), o8]) hg dX11_ruled_115 rfl ?_
  refine e_aload_n hg dX11_ruled_117 rfl ?_
  refine m_getI hg ciX11 44 lk_1030 dX11_ruled_118 io_82 (Nat.le_of_ble_eq_true rfl) rfl ?_
  refine e_istore (ls' := [some (.ref 82), some (.int a1), some (.int a2), some (.int a3), some (.int x4), some (.int x7), some (.int (M.1 82 44)), some (.int x7), o8]) hg dX11_ruled_121 rfl ?_
  exact X11_ruled_b123_ok hg hr hR44 hK129 h

def X11_ruled_L44 (a1 : Int32) (a2 : Int32) (a3 : Int32) (K129 : Int32 → Int32 → Int32 → mm → Option (Int32 × mm)) : Nat → Int32 → Int32 → Int32 → Int32 → mm → Option (Int32 × mm)
  | 0, _, _, _, _, _ => none
  | n_ + 1, x4, x5, x6, x7, M =>
    if x7 < 10 then
      lt_ (sA M 82 (upd (M.1 82) 19 x7)) fun M13 =>
      bd (X11_asksBest M13) fun u14 M15 =>
      lt_ (sA M15 82 (upd (M15.1 82) 43 a1)) fun M17 =>
      lt_ (sA M17 82 (upd (M17.1 82) 44 0)) fun M18 =>
      X11_ruled_L74 a1 a2 a3 (fun x4 x5 x6 x7 M =>
          bd (X11_laysBack 0 6 5 1 M) fun u23 M24 =>
          if x6 < 0 then
            X11_ruled_b113 a1 a2 a3 (X11_ruled_L44 a1 a2 a3 K129 n_) K129 x4 x7 M24
          else
            if (M24.1 82 44) < x6 then
              X11_ruled_b113 a1 a2 a3 (X11_ruled_L44 a1 a2 a3 K129 n_) K129 x4 x7 M24
            else
              X11_ruled_b123 a1 a2 a3 (X11_ruled_L44 a1 a2 a3 K129 n_) K129 x4 x5 x6 x7 M24) 10000 x4 x5 x6 x7 0 M18
    else
      K129 x4 x5 x6 M
set_option maxRecDepth 100000 in
set_option maxHeartbeats 4000000 in
theorem X11_ruled_L44_ok {g : gx} (hg : EC g cX11_ruled RX11 107) {a1 : Int32} {a2 : Int32} {a3 : Int32} {r : Int32 × mm} (hr : RT g (some .int) (0, 0) (some (.int r.1)) (cells r.2)) {K129 : Int32 → Int32 → Int32 → mm → Option (Int32 × mm)} (hK129 : ∀ (x4 : Int32) (x5 : Int32) (x6 : Int32) (o7 : Option Value) (o8 : Option Value) (M : mm), K129 x4 x5 x6 M = some r → E g (0, 0) 129 [some (.ref 82), some (.int a1), some (.int a2), some (.int a3), some (.int x4), some (.int x5), some (.int x6), o7, o8] [] (cells M)) : ∀ (n_ : Nat) (x4 : Int32) (x5 : Int32) (x6 : Int32) (x7 : Int32) (o8 : Option Value) (M : mm), X11_ruled_L44 a1 a2 a3 K129 n_ x4 x5 x6 x7 M = some r → E g (0, 0) 44 [some (.ref 82), some (.int a1), some (.int a2), some (.int a3), some (.int x4), some (.int x5), some (.int x6), some (.int x7), o8] [] (cells M) := by
  intro n_
  induction n_ with
  | zero => intro x4 x5 x6 x7 o8 M h; exact o_no h
  | succ n_ ih =>
    intro x4 x5 x6 x7 o8 M h
    rw [X11_ruled_L44] at h
    refine e_iload hg dX11_ruled_44 rfl ?_
    refine e_bipush (v := 10) hg dX11_ruled_46 (by decide) ?_
    refine e_icmpge hg 129 dX11_ruled_48 (by decide) (fun c12 => ?_) (fun c12 => ?_)
    · have h := o_pos c12 h
      refine e_aload_n hg dX11_ruled_51 rfl ?_
      refine e_iload hg dX11_ruled_52 rfl ?_
      obtain ⟨M13, hM13, h⟩ := o_lt h
      refine m_putI hg ciX11 19 lk_1005 dX11_ruled_54 io_82 (Nat.le_of_ble_eq_true rfl) rfl rfl rfl rfl ?_
      rw [← hM13]
      refine e_aload_n hg dX11_ruled_57 rfl ?_
      obtain ⟨u14, M15, hc16, h⟩ := o_bd h
      refine m_callVV (rest := []) (M' := M15) (ci := 11) hg mfX11_asksBest mvX11_asksBest (X11_asksBest_ok (r := (u14, M15)) hc16) lk_1392 dX11_ruled_58 io_82 rfl rfl rfl (by omega) (Nat.le_of_ble_eq_true rfl) ?_
      refine e_aload_n hg dX11_ruled_61 rfl ?_
      refine e_iload_n hg dX11_ruled_62 rfl ?_
      obtain ⟨M17, hM17, h⟩ := o_lt h
      refine m_putI hg ciX11 43 lk_1029 dX11_ruled_63 io_82 (Nat.le_of_ble_eq_true rfl) rfl rfl rfl rfl ?_
      rw [← hM17]
      refine e_aload_n hg dX11_ruled_66 rfl ?_
      refine e_iconst (v := 0) hg dX11_ruled_67 (by decide) ?_
      obtain ⟨M18, hM18, h⟩ := o_lt h
      refine m_putI hg ciX11 44 lk_1030 dX11_ruled_68 io_82 (Nat.le_of_ble_eq_true rfl) rfl rfl rfl rfl ?_
      rw [← hM18]
      refine e_iconst (v := 0) hg dX11_ruled_71 (by decide) ?_
      refine e_istore (ls' := [some (.ref 82), some (.int a1), some (.int a2), some (.int a3), some (.int x4), some (.int x5), some (.int x6), some (.int x7), some (.int 0)]) hg dX11_ruled_72 rfl ?_
      refine X11_ruled_L74_ok hg hr (fun x4 x5 x6 x7 o8 M h => ?_) 10000 _ _ _ _ _ _ h
      refine e_aload_n hg dX11_ruled_90 rfl ?_
      refine e_iconst (v := 0) hg dX11_ruled_91 (by decide) ?_
      refine e_bipush (v := 6) hg dX11_ruled_92 (by decide) ?_
      refine e_iconst (v := 5) hg dX11_ruled_94 (by decide) ?_
      refine e_iconst (v := 1) hg dX11_ruled_95 (by decide) ?_
      obtain ⟨u23, M24, hc25, h⟩ := o_bd h
      refine m_callVV (rest := []) (M' := M24) (ci := 11) hg mfX11_laysBack mvX11_laysBack (X11_laysBack_ok (r := (u23, M24)) hc25) lk_1438 dX11_ruled_96 io_82 rfl rfl rfl (by omega) (Nat.le_of_ble_eq_true rfl) ?_
      refine e_iload hg dX11_ruled_99 rfl ?_
      refine e_iflt hg 113 dX11_ruled_101 (by decide) (fun c26 => ?_) (fun c26 => ?_)
      · have h := o_pos c26 h
        exact X11_ruled_b113_ok hg hr ih hK129 h
      · have h := o_neg c26 h
        refine e_aload_n hg dX11_ruled_104 rfl ?_
        refine m_getI hg ciX11 44 lk_1030 dX11_ruled_105 io_82 (Nat.le_of_ble_eq_true rfl) rfl ?_
        refine e_iload hg dX11_ruled_108 rfl ?_
        refine e_icmpge hg 123 dX11_ruled_110 (by decide) (fun c27 => ?_) (fun c27 => ?_)
        · have h := o_pos c27 h
          exact X11_ruled_b113_ok hg hr ih hK129 h
        · have h := o_neg c27 h
          exact X11_ruled_b123_ok hg hr ih hK129 h
    · have h := o_neg c12 h
      exact hK129 _ _ _ _ _ _ h

def X11_ruled (a1 : Int32) (a2 : Int32) (a3 : Int32) (M : mm) : Option (Int32 × mm) :=
  bd (X11_within (a2.toInt64) 1 20 M) fun v1 M2 =>
  if v1 = 0 then
    some ((-1), M2)
  else
    bd (X11_within (a3.toInt64) 0 1 M2) fun v5 M6 =>
    if v5 = 0 then
      some ((-1), M6)
    else
      bd (X11_keepsAside 0 M6) fun u9 M10 =>
      X11_ruled_L44 a1 a2 a3 (fun x4 x5 x6 M =>
          lt_ (sA M 82 (upd (M.1 82) 19 x4)) fun M28 =>
          if a3 = 0 then
            some (x5, M28)
          else
            some (x6, M28)) 10000 (M6.1 82 19) 0 (-1) 0 M10
set_option maxRecDepth 100000 in
set_option maxHeartbeats 4000000 in
theorem X11_ruled_ok {a1 : Int32} {a2 : Int32} {a3 : Int32} {M : mm} {r : Int32 × mm} (h : X11_ruled a1 a2 a3 M = some r) : CM yX11_ruled cX11_ruled 9 (some .int) 107 [.ref 82, .int a1, .int a2, .int a3] (cells M) (some (.int r.1)) (cells r.2) := by
  refine cm_of (ls := [some (.ref 82), some (.int a1), some (.int a2), some (.int a3), none, none, none, none, none]) mfX11_ruled rfl (Nat.le_of_ble_eq_true rfl) (fun g hg hr => ?_)
  unfold X11_ruled at h
  refine e_iload_n hg dX11_ruled_0 rfl ?_
  refine e_i2l hg dX11_ruled_1 ?_
  refine e_lconst (v := 1) hg dX11_ruled_2 (by decide) ?_
  refine e_ldc2 hg dX11_ruled_3 lk_1433 ?_
  obtain ⟨v1, M2, hc3, h⟩ := o_bd h
  refine m_callSI (rest := []) (v := v1) (M' := M2) hg mfX11_within mvX11_within (X11_within_ok (r := (v1, M2)) hc3) lk_1190 dX11_ruled_6 rfl rfl (by omega) (Nat.le_of_ble_eq_true rfl) ?_
  refine e_ifeq hg 22 dX11_ruled_9 (by decide) (fun c4 => ?_) (fun c4 => ?_)
  · have h := o_pos c4 h
    refine e_iconst (v := -1) hg dX11_ruled_22 (by decide) ?_
    exact m_iret hg hr dX11_ruled_23 h
  · have h := o_neg c4 h
    refine e_iload_n hg dX11_ruled_12 rfl ?_
    refine e_i2l hg dX11_ruled_13 ?_
    refine e_lconst (v := 0) hg dX11_ruled_14 (by decide) ?_
    refine e_lconst (v := 1) hg dX11_ruled_15 (by decide) ?_
    obtain ⟨v5, M6, hc7, h⟩ := o_bd h
    refine m_callSI (rest := []) (v := v5) (M' := M6) hg mfX11_within mvX11_within (X11_within_ok (r := (v5, M6)) hc7) lk_1190 dX11_ruled_16 rfl rfl (by omega) (Nat.le_of_ble_eq_true rfl) ?_
    refine e_ifne hg 24 dX11_ruled_19 (by decide) (fun c8 => ?_) (fun c8 => ?_)
    · have h := o_pos c8 h
      refine e_iconst (v := -1) hg dX11_ruled_22 (by decide) ?_
      exact m_iret hg hr dX11_ruled_23 h
    · have h := o_neg c8 h
      refine e_aload_n hg dX11_ruled_24 rfl ?_
      refine m_getI hg ciX11 19 lk_1005 dX11_ruled_25 io_82 (Nat.le_of_ble_eq_true rfl) rfl ?_
      refine e_istore (ls' := [some (.ref 82), some (.int a1), some (.int a2), some (.int a3), some (.int (M6.1 82 19)), none, none, none, none]) hg dX11_ruled_28 rfl ?_
      refine e_iconst (v := 0) hg dX11_ruled_30 (by decide) ?_
      refine e_istore (ls' := [some (.ref 82), some (.int a1), some (.int a2), some (.int a3), some (.int (M6.1 82 19)), some (.int 0), none, none, none]) hg dX11_ruled_31 rfl ?_
      refine e_iconst (v := -1) hg dX11_ruled_33 (by decide) ?_
      refine e_istore (ls' := [some (.ref 82), some (.int a1), some (.int a2), some (.int a3), some (.int (M6.1 82 19)), some (.int 0), some (.int (-1)), none, none]) hg dX11_ruled_34 rfl ?_
      refine e_aload_n hg dX11_ruled_36 rfl ?_
      refine e_iconst (v := 0) hg dX11_ruled_37 (by decide) ?_
      obtain ⟨u9, M10, hc11, h⟩ := o_bd h
      refine m_callVV (rest := []) (M' := M10) (ci := 11) hg mfX11_keepsAside mvX11_keepsAside (X11_keepsAside_ok (r := (u9, M10)) hc11) lk_1434 dX11_ruled_38 io_82 rfl rfl rfl (by omega) (Nat.le_of_ble_eq_true rfl) ?_
      refine e_iconst (v := 0) hg dX11_ruled_41 (by decide) ?_
      refine e_istore (ls' := [some (.ref 82), some (.int a1), some (.int a2), some (.int a3), some (.int (M6.1 82 19)), some (.int 0), some (.int (-1)), some (.int 0), none]) hg dX11_ruled_42 rfl ?_
      refine X11_ruled_L44_ok hg hr (fun x4 x5 x6 o7 o8 M h => ?_) 10000 _ _ _ _ _ _ h
      refine e_aload_n hg dX11_ruled_129 rfl ?_
      refine e_iload hg dX11_ruled_130 rfl ?_
      obtain ⟨M28, hM28, h⟩ := o_lt h
      refine m_putI hg ciX11 19 lk_1005 dX11_ruled_132 io_82 (Nat.le_of_ble_eq_true rfl) rfl rfl rfl rfl ?_
      rw [← hM28]
      refine e_iload_n hg dX11_ruled_135 rfl ?_
      refine e_ifne hg 144 dX11_ruled_136 (by decide) (fun c29 => ?_) (fun c29 => ?_)
      · have h := o_pos c29 h
        refine e_iload hg dX11_ruled_139 rfl ?_
        refine e_goto hg 146 dX11_ruled_141 (by decide) ?_
        exact m_iret hg hr dX11_ruled_146 h
      · have h := o_neg c29 h
        refine e_iload hg dX11_ruled_144 rfl ?_
        exact m_iret hg hr dX11_ruled_146 h

def X11_firstBelow_L2 (a1 : Int32) : Nat → Int32 → mm → Option (Int32 × mm)
  | 0, _, _ => none
  | n_ + 1, x2, M =>
    if x2 < (M.1 82 6) then
      gd (inb x2 5) <|
      if (M.1 87 x2.toNatClampNeg) < a1 then
        some (x2, M)
      else
        (X11_firstBelow_L2 a1 n_) (x2 + 1) M
    else
      some ((-1), M)
set_option maxRecDepth 100000 in
set_option maxHeartbeats 4000000 in
theorem X11_firstBelow_L2_ok {g : gx} (hg : EC g cX11_firstBelow RX11 0) {a1 : Int32} {r : Int32 × mm} (hr : RT g (some .int) (0, 0) (some (.int r.1)) (cells r.2)) : ∀ (n_ : Nat) (x2 : Int32) (M : mm), X11_firstBelow_L2 a1 n_ x2 M = some r → E g (0, 0) 2 [some (.ref 82), some (.int a1), some (.int x2)] [] (cells M) := by
  intro n_
  induction n_ with
  | zero => intro x2 M h; exact o_no h
  | succ n_ ih =>
    intro x2 M h
    rw [X11_firstBelow_L2] at h
    refine e_iload_n hg dX11_firstBelow_2 rfl ?_
    refine e_aload_n hg dX11_firstBelow_3 rfl ?_
    refine m_getI hg ciX11 6 lk_992 dX11_firstBelow_4 io_82 (Nat.le_of_ble_eq_true rfl) rfl ?_
    refine e_icmpge hg 28 dX11_firstBelow_7 (by decide) (fun c1 => ?_) (fun c1 => ?_)
    · have h := o_pos c1 h
      refine e_aload_n hg dX11_firstBelow_10 rfl ?_
      refine m_getR (q := 87) hg ciX11 8 lk_994 dX11_firstBelow_11 io_82 (Nat.le_of_ble_eq_true rfl) rfl rf_82_8 ?_
      refine e_iload_n hg dX11_firstBelow_14 rfl ?_
      obtain ⟨hi2, h⟩ := o_gd h
      refine m_iald hg sh_87 hi2 dX11_firstBelow_15 ?_
      refine e_iload_n hg dX11_firstBelow_16 rfl ?_
      refine e_icmpge hg 22 dX11_firstBelow_17 (by decide) (fun c3 => ?_) (fun c3 => ?_)
      · have h := o_pos c3 h
        refine e_iload_n hg dX11_firstBelow_20 rfl ?_
        exact m_iret hg hr dX11_firstBelow_21 h
      · have h := o_neg c3 h
        refine e_iinc (v := (x2 + 1)) (ls' := [some (.ref 82), some (.int a1), some (.int (x2 + 1))]) hg dX11_firstBelow_22 rfl rfl rfl ?_
        refine e_goto hg 2 dX11_firstBelow_25 (by decide) ?_
        exact ih _ _ h
    · have h := o_neg c1 h
      refine e_iconst (v := -1) hg dX11_firstBelow_28 (by decide) ?_
      exact m_iret hg hr dX11_firstBelow_29 h

def X11_firstBelow (a1 : Int32) (M : mm) : Option (Int32 × mm) :=
  X11_firstBelow_L2 a1 10000 0 M
set_option maxRecDepth 100000 in
set_option maxHeartbeats 4000000 in
theorem X11_firstBelow_ok {a1 : Int32} {M : mm} {r : Int32 × mm} (h : X11_firstBelow a1 M = some r) : CM yX11_firstBelow cX11_firstBelow 3 (some .int) 0 [.ref 82, .int a1] (cells M) (some (.int r.1)) (cells r.2) := by
  refine cm_of (ls := [some (.ref 82), some (.int a1), none]) mfX11_firstBelow rfl (Nat.le_of_ble_eq_true rfl) (fun g hg hr => ?_)
  unfold X11_firstBelow at h
  refine e_iconst (v := 0) hg dX11_firstBelow_0 (by decide) ?_
  refine e_istore_n (ls' := [some (.ref 82), some (.int a1), some (.int 0)]) hg dX11_firstBelow_1 rfl ?_
  exact X11_firstBelow_L2_ok hg hr  10000 _ _ h

def X11_ruined_L44 (a1 : Int32) (a2 : Int32) (a3 : Int32) (K73 : Int32 → Int32 → mm → Option (Int32 × mm)) : Nat → Int32 → Int32 → mm → Option (Int32 × mm)
  | 0, _, _, _ => none
  | n_ + 1, x4, x5, M =>
    if x5 < 0 then
      if x4 < 30 then
        bd (X11_goesYear M) fun u18 M19 =>
        bd (X11_firstBelow a2 M19) fun v21 M22 =>
        (X11_ruined_L44 a1 a2 a3 K73 n_) (x4 + 1) v21 M22
      else
        K73 x4 x5 M
    else
      K73 x4 x5 M
set_option maxRecDepth 100000 in
set_option maxHeartbeats 4000000 in
theorem X11_ruined_L44_ok {g : gx} (hg : EC g cX11_ruined RX11 107) {a1 : Int32} {a2 : Int32} {a3 : Int32} {r : Int32 × mm} (hr : RT g (some .int) (0, 0) (some (.int r.1)) (cells r.2)) {K73 : Int32 → Int32 → mm → Option (Int32 × mm)} (hK73 : ∀ (x4 : Int32) (x5 : Int32) (M : mm), K73 x4 x5 M = some r → E g (0, 0) 73 [some (.ref 82), some (.int a1), some (.int a2), some (.int a3), some (.int x4), some (.int x5)] [] (cells M)) : ∀ (n_ : Nat) (x4 : Int32) (x5 : Int32) (M : mm), X11_ruined_L44 a1 a2 a3 K73 n_ x4 x5 M = some r → E g (0, 0) 44 [some (.ref 82), some (.int a1), some (.int a2), some (.int a3), some (.int x4), some (.int x5)] [] (cells M) := by
  intro n_
  induction n_ with
  | zero => intro x4 x5 M h; exact o_no h
  | succ n_ ih =>
    intro x4 x5 M h
    rw [X11_ruined_L44] at h
    refine e_iload hg dX11_ruined_44 rfl ?_
    refine e_ifge hg 73 dX11_ruined_46 (by decide) (fun c16 => ?_) (fun c16 => ?_)
    · have h := o_pos c16 h
      refine e_iload hg dX11_ruined_49 rfl ?_
      refine e_bipush (v := 30) hg dX11_ruined_51 (by decide) ?_
      refine e_icmpge hg 73 dX11_ruined_53 (by decide) (fun c17 => ?_) (fun c17 => ?_)
      · have h := o_pos c17 h
        refine e_aload_n hg dX11_ruined_56 rfl ?_
        obtain ⟨u18, M19, hc20, h⟩ := o_bd h
        refine m_callVV (rest := []) (M' := M19) (ci := 11) hg mfX11_goesYear mvX11_goesYear (X11_goesYear_ok (r := (u18, M19)) hc20) lk_1396 dX11_ruined_57 io_82 rfl rfl rfl (by omega) (Nat.le_of_ble_eq_true rfl) ?_
        refine e_iinc (v := (x4 + 1)) (ls' := [some (.ref 82), some (.int a1), some (.int a2), some (.int a3), some (.int (x4 + 1)), some (.int x5)]) hg dX11_ruined_60 rfl rfl rfl ?_
        refine e_aload_n hg dX11_ruined_63 rfl ?_
        refine e_iload_n hg dX11_ruined_64 rfl ?_
        obtain ⟨v21, M22, hc23, h⟩ := o_bd h
        refine m_callVI (rest := []) (v := v21) (M' := M22) (ci := 11) hg mfX11_firstBelow mvX11_firstBelow (X11_firstBelow_ok (r := (v21, M22)) hc23) lk_1447 dX11_ruined_65 io_82 rfl rfl rfl (by omega) (Nat.le_of_ble_eq_true rfl) ?_
        refine e_istore (ls' := [some (.ref 82), some (.int a1), some (.int a2), some (.int a3), some (.int (x4 + 1)), some (.int v21)]) hg dX11_ruined_68 rfl ?_
        refine e_goto hg 44 dX11_ruined_70 (by decide) ?_
        exact ih _ _ _ h
      · have h := o_neg c17 h
        exact hK73 _ _ _ h
    · have h := o_neg c16 h
      exact hK73 _ _ _ h

def X11_ruined_b73 (a1 : Int32) (a2 : Int32) (a3 : Int32) (x4 : Int32) (x5 : Int32) (M : mm) : Option (Int32 × mm) :=
  bd (X11_laysBack 0 6 5 1 M) fun u24 M25 =>
  if x5 < 0 then
    some ((-2), M25)
  else
    if a3 = 0 then
      some (x4, M25)
    else
      some (x5, M25)
set_option maxRecDepth 100000 in
set_option maxHeartbeats 4000000 in
theorem X11_ruined_b73_ok {g : gx} (hg : EC g cX11_ruined RX11 107) {a1 : Int32} {a2 : Int32} {a3 : Int32} {r : Int32 × mm} (hr : RT g (some .int) (0, 0) (some (.int r.1)) (cells r.2)) {x4 : Int32} {x5 : Int32} {M : mm} (h : X11_ruined_b73 a1 a2 a3 x4 x5 M = some r) : E g (0, 0) 73 [some (.ref 82), some (.int a1), some (.int a2), some (.int a3), some (.int x4), some (.int x5)] [] (cells M) := by
  unfold X11_ruined_b73 at h
  refine e_aload_n hg dX11_ruined_73 rfl ?_
  refine e_iconst (v := 0) hg dX11_ruined_74 (by decide) ?_
  refine e_bipush (v := 6) hg dX11_ruined_75 (by decide) ?_
  refine e_iconst (v := 5) hg dX11_ruined_77 (by decide) ?_
  refine e_iconst (v := 1) hg dX11_ruined_78 (by decide) ?_
  obtain ⟨u24, M25, hc26, h⟩ := o_bd h
  refine m_callVV (rest := []) (M' := M25) (ci := 11) hg mfX11_laysBack mvX11_laysBack (X11_laysBack_ok (r := (u24, M25)) hc26) lk_1438 dX11_ruined_79 io_82 rfl rfl rfl (by omega) (Nat.le_of_ble_eq_true rfl) ?_
  refine e_iload hg dX11_ruined_82 rfl ?_
  refine e_ifge hg 92 dX11_ruined_84 (by decide) (fun c27 => ?_) (fun c27 => ?_)
  · have h := o_pos c27 h
    refine e_bipush (v := -2) hg dX11_ruined_87 (by decide) ?_
    refine e_goto hg 103 dX11_ruined_89 (by decide) ?_
    exact m_iret hg hr dX11_ruined_103 h
  · have h := o_neg c27 h
    refine e_iload_n hg dX11_ruined_92 rfl ?_
    refine e_ifne hg 101 dX11_ruined_93 (by decide) (fun c28 => ?_) (fun c28 => ?_)
    · have h := o_pos c28 h
      refine e_iload hg dX11_ruined_96 rfl ?_
      refine e_goto hg 103 dX11_ruined_98 (by decide) ?_
      exact m_iret hg hr dX11_ruined_103 h
    · have h := o_neg c28 h
      refine e_iload hg dX11_ruined_101 rfl ?_
      exact m_iret hg hr dX11_ruined_103 h

def X11_ruined (a1 : Int32) (a2 : Int32) (a3 : Int32) (M : mm) : Option (Int32 × mm) :=
  bd (X11_within (a2.toInt64) (-999) 0 M) fun v1 M2 =>
  if v1 = 0 then
    some ((-1), M2)
  else
    bd (X11_within (a3.toInt64) 0 1 M2) fun v5 M6 =>
    if v5 = 0 then
      some ((-1), M6)
    else
      bd (X11_keepsAside 0 M6) fun u9 M10 =>
      bd (X11_asksBest M10) fun u12 M13 =>
      lt_ (sA M13 82 (upd (M13.1 82) 43 a1)) fun M15 =>
      X11_ruined_L44 a1 a2 a3 (fun x4 x5 M =>
          X11_ruined_b73 a1 a2 a3 x4 x5 M) 10000 0 (-1) M15
set_option maxRecDepth 100000 in
set_option maxHeartbeats 4000000 in
theorem X11_ruined_ok {a1 : Int32} {a2 : Int32} {a3 : Int32} {M : mm} {r : Int32 × mm} (h : X11_ruined a1 a2 a3 M = some r) : CM yX11_ruined cX11_ruined 6 (some .int) 107 [.ref 82, .int a1, .int a2, .int a3] (cells M) (some (.int r.1)) (cells r.2) := by
  refine cm_of (ls := [some (.ref 82), some (.int a1), some (.int a2), some (.int a3), none, none]) mfX11_ruined rfl (Nat.le_of_ble_eq_true rfl) (fun g hg hr => ?_)
  unfold X11_ruined at h
  refine e_iload_n hg dX11_ruined_0 rfl ?_
  refine e_i2l hg dX11_ruined_1 ?_
  refine e_ldc2 hg dX11_ruined_2 lk_1446 ?_
  refine e_lconst (v := 0) hg dX11_ruined_5 (by decide) ?_
  obtain ⟨v1, M2, hc3, h⟩ := o_bd h
  refine m_callSI (rest := []) (v := v1) (M' := M2) hg mfX11_within mvX11_within (X11_within_ok (r := (v1, M2)) hc3) lk_1190 dX11_ruined_6 rfl rfl (by omega) (Nat.le_of_ble_eq_true rfl) ?_
  refine e_ifeq hg 22 dX11_ruined_9 (by decide) (fun c4 => ?_) (fun c4 => ?_)
  · have h := o_pos c4 h
    refine e_iconst (v := -1) hg dX11_ruined_22 (by decide) ?_
    exact m_iret hg hr dX11_ruined_23 h
  · have h := o_neg c4 h
    refine e_iload_n hg dX11_ruined_12 rfl ?_
    refine e_i2l hg dX11_ruined_13 ?_
    refine e_lconst (v := 0) hg dX11_ruined_14 (by decide) ?_
    refine e_lconst (v := 1) hg dX11_ruined_15 (by decide) ?_
    obtain ⟨v5, M6, hc7, h⟩ := o_bd h
    refine m_callSI (rest := []) (v := v5) (M' := M6) hg mfX11_within mvX11_within (X11_within_ok (r := (v5, M6)) hc7) lk_1190 dX11_ruined_16 rfl rfl (by omega) (Nat.le_of_ble_eq_true rfl) ?_
    refine e_ifne hg 24 dX11_ruined_19 (by decide) (fun c8 => ?_) (fun c8 => ?_)
    · have h := o_pos c8 h
      refine e_iconst (v := -1) hg dX11_ruined_22 (by decide) ?_
      exact m_iret hg hr dX11_ruined_23 h
    · have h := o_neg c8 h
      refine e_aload_n hg dX11_ruined_24 rfl ?_
      refine e_iconst (v := 0) hg dX11_ruined_25 (by decide) ?_
      obtain ⟨u9, M10, hc11, h⟩ := o_bd h
      refine m_callVV (rest := []) (M' := M10) (ci := 11) hg mfX11_keepsAside mvX11_keepsAside (X11_keepsAside_ok (r := (u9, M10)) hc11) lk_1434 dX11_ruined_26 io_82 rfl rfl rfl (by omega) (Nat.le_of_ble_eq_true rfl) ?_
      refine e_aload_n hg dX11_ruined_29 rfl ?_
      obtain ⟨u12, M13, hc14, h⟩ := o_bd h
      refine m_callVV (rest := []) (M' := M13) (ci := 11) hg mfX11_asksBest mvX11_asksBest (X11_asksBest_ok (r := (u12, M13)) hc14) lk_1392 dX11_ruined_30 io_82 rfl rfl rfl (by omega) (Nat.le_of_ble_eq_true rfl) ?_
      refine e_aload_n hg dX11_ruined_33 rfl ?_
      refine e_iload_n hg dX11_ruined_34 rfl ?_
      obtain ⟨M15, hM15, h⟩ := o_lt h
      refine m_putI hg ciX11 43 lk_1029 dX11_ruined_35 io_82 (Nat.le_of_ble_eq_true rfl) rfl rfl rfl rfl ?_
      rw [← hM15]
      refine e_iconst (v := 0) hg dX11_ruined_38 (by decide) ?_
      refine e_istore (ls' := [some (.ref 82), some (.int a1), some (.int a2), some (.int a3), some (.int 0), none]) hg dX11_ruined_39 rfl ?_
      refine e_iconst (v := -1) hg dX11_ruined_41 (by decide) ?_
      refine e_istore (ls' := [some (.ref 82), some (.int a1), some (.int a2), some (.int a3), some (.int 0), some (.int (-1))]) hg dX11_ruined_42 rfl ?_
      refine X11_ruined_L44_ok hg hr (fun x4 x5 M h => ?_) 10000 _ _ _ h
      exact X11_ruined_b73_ok hg hr  h

def X11_image  (M : mm) : Option (Int32 × mm) :=
  lt_ (sA M 82 (upd (M.1 82) 50 1)) fun M1 =>
  lt_ (sA M1 82 (upd (M1.1 82) 51 (M1.1 82 7))) fun M2 =>
  lt_ (sA M2 82 (upd (M2.1 82) 52 (M2.1 82 6))) fun M3 =>
  bd (X11_keepsAside 1 M3) fun u4 M5 =>
  some ((M5.1 82 7), M5)
set_option maxRecDepth 100000 in
set_option maxHeartbeats 4000000 in
theorem X11_image_ok  {M : mm} {r : Int32 × mm} (h : X11_image  M = some r) : CM yX11_image cX11_image 1 (some .int) 1 [.ref 82] (cells M) (some (.int r.1)) (cells r.2) := by
  refine cm_of (ls := [some (.ref 82)]) mfX11_image rfl (Nat.le_of_ble_eq_true rfl) (fun g hg hr => ?_)
  unfold X11_image at h
  refine e_aload_n hg dX11_image_0 rfl ?_
  refine e_iconst (v := 1) hg dX11_image_1 (by decide) ?_
  obtain ⟨M1, hM1, h⟩ := o_lt h
  refine m_putI hg ciX11 50 lk_1036 dX11_image_2 io_82 (Nat.le_of_ble_eq_true rfl) rfl rfl rfl rfl ?_
  rw [← hM1]
  refine e_aload_n hg dX11_image_5 rfl ?_
  refine e_aload_n hg dX11_image_6 rfl ?_
  refine m_getI hg ciX11 7 lk_993 dX11_image_7 io_82 (Nat.le_of_ble_eq_true rfl) rfl ?_
  obtain ⟨M2, hM2, h⟩ := o_lt h
  refine m_putI hg ciX11 51 lk_1037 dX11_image_10 io_82 (Nat.le_of_ble_eq_true rfl) rfl rfl rfl rfl ?_
  rw [← hM2]
  refine e_aload_n hg dX11_image_13 rfl ?_
  refine e_aload_n hg dX11_image_14 rfl ?_
  refine m_getI hg ciX11 6 lk_992 dX11_image_15 io_82 (Nat.le_of_ble_eq_true rfl) rfl ?_
  obtain ⟨M3, hM3, h⟩ := o_lt h
  refine m_putI hg ciX11 52 lk_1038 dX11_image_18 io_82 (Nat.le_of_ble_eq_true rfl) rfl rfl rfl rfl ?_
  rw [← hM3]
  refine e_aload_n hg dX11_image_21 rfl ?_
  refine e_iconst (v := 1) hg dX11_image_22 (by decide) ?_
  obtain ⟨u4, M5, hc6, h⟩ := o_bd h
  refine m_callVV (rest := []) (M' := M5) (ci := 11) hg mfX11_keepsAside mvX11_keepsAside (X11_keepsAside_ok (r := (u4, M5)) hc6) lk_1434 dX11_image_23 io_82 rfl rfl rfl (by omega) (Nat.le_of_ble_eq_true rfl) ?_
  refine e_aload_n hg dX11_image_26 rfl ?_
  refine m_getI hg ciX11 7 lk_993 dX11_image_27 io_82 (Nat.le_of_ble_eq_true rfl) rfl ?_
  exact m_iret hg hr dX11_image_30 h

def X11_back  (M : mm) : Option (Int32 × mm) :=
  if (M.1 82 50) = 0 then
    some ((-5), M)
  else
    bd (X11_laysBack 1 (M.1 82 51) (M.1 82 52) 0 M) fun u2 M3 =>
    some ((M3.1 82 51), M3)
set_option maxRecDepth 100000 in
set_option maxHeartbeats 4000000 in
theorem X11_back_ok  {M : mm} {r : Int32 × mm} (h : X11_back  M = some r) : CM yX11_back cX11_back 1 (some .int) 1 [.ref 82] (cells M) (some (.int r.1)) (cells r.2) := by
  refine cm_of (ls := [some (.ref 82)]) mfX11_back rfl (Nat.le_of_ble_eq_true rfl) (fun g hg hr => ?_)
  unfold X11_back at h
  refine e_aload_n hg dX11_back_0 rfl ?_
  refine m_getI hg ciX11 50 lk_1036 dX11_back_1 io_82 (Nat.le_of_ble_eq_true rfl) rfl ?_
  refine e_ifne hg 10 dX11_back_4 (by decide) (fun c1 => ?_) (fun c1 => ?_)
  · have h := o_pos c1 h
    refine e_bipush (v := -5) hg dX11_back_7 (by decide) ?_
    exact m_iret hg hr dX11_back_9 h
  · have h := o_neg c1 h
    refine e_aload_n hg dX11_back_10 rfl ?_
    refine e_iconst (v := 1) hg dX11_back_11 (by decide) ?_
    refine e_aload_n hg dX11_back_12 rfl ?_
    refine m_getI hg ciX11 51 lk_1037 dX11_back_13 io_82 (Nat.le_of_ble_eq_true rfl) rfl ?_
    refine e_aload_n hg dX11_back_16 rfl ?_
    refine m_getI hg ciX11 52 lk_1038 dX11_back_17 io_82 (Nat.le_of_ble_eq_true rfl) rfl ?_
    refine e_iconst (v := 0) hg dX11_back_20 (by decide) ?_
    obtain ⟨u2, M3, hc4, h⟩ := o_bd h
    refine m_callVV (rest := []) (M' := M3) (ci := 11) hg mfX11_laysBack mvX11_laysBack (X11_laysBack_ok (r := (u2, M3)) hc4) lk_1438 dX11_back_21 io_82 rfl rfl rfl (by omega) (Nat.le_of_ble_eq_true rfl) ?_
    refine e_aload_n hg dX11_back_24 rfl ?_
    refine m_getI hg ciX11 51 lk_1037 dX11_back_25 io_82 (Nat.le_of_ble_eq_true rfl) rfl ?_
    exact m_iret hg hr dX11_back_28 h

def X11_isBody (a1 : Int32) (M : mm) : Option (Int32 × mm) :=
  bd (X11_within (a1.toInt64) 0 (((M.1 82 53) - 1).toInt64) M) fun v1 M2 =>
  gd (decide (v1 = 0 ∨ v1 = 1)) <|
  some (v1, M2)
set_option maxRecDepth 100000 in
set_option maxHeartbeats 4000000 in
theorem X11_isBody_ok {a1 : Int32} {M : mm} {r : Int32 × mm} (h : X11_isBody a1 M = some r) : CM yX11_isBody cX11_isBody 2 (some .boolean) 1 [.ref 82, .int a1] (cells M) (some (.int r.1)) (cells r.2) := by
  refine cm_of (ls := [some (.ref 82), some (.int a1)]) mfX11_isBody rfl (Nat.le_of_ble_eq_true rfl) (fun g hg hr => ?_)
  unfold X11_isBody at h
  refine e_iload_n hg dX11_isBody_0 rfl ?_
  refine e_i2l hg dX11_isBody_1 ?_
  refine e_lconst (v := 0) hg dX11_isBody_2 (by decide) ?_
  refine e_aload_n hg dX11_isBody_3 rfl ?_
  refine m_getI hg ciX11 53 lk_1039 dX11_isBody_4 io_82 (Nat.le_of_ble_eq_true rfl) rfl ?_
  refine e_iconst (v := 1) hg dX11_isBody_7 (by decide) ?_
  refine e_isub hg dX11_isBody_8 ?_
  refine e_i2l hg dX11_isBody_9 ?_
  obtain ⟨v1, M2, hc3, h⟩ := o_bd h
  refine m_callSI (rest := []) (v := v1) (M' := M2) hg mfX11_within mvX11_within (X11_within_ok (r := (v1, M2)) hc3) lk_1190 dX11_isBody_10 rfl rfl (by omega) (Nat.le_of_ble_eq_true rfl) ?_
  obtain ⟨hb4, h⟩ := o_gd h
  exact m_zret hg hr (nb_of (of_decide_eq_true hb4)) dX11_isBody_13 h

def X11_kindOf (a1 : Int32) (M : mm) : Option (Int32 × mm) :=
  gd (inb a1 50) <|
  some ((M.1 111 a1.toNatClampNeg), M)
set_option maxRecDepth 100000 in
set_option maxHeartbeats 4000000 in
theorem X11_kindOf_ok {a1 : Int32} {M : mm} {r : Int32 × mm} (h : X11_kindOf a1 M = some r) : CM yX11_kindOf cX11_kindOf 2 (some .int) 0 [.ref 82, .int a1] (cells M) (some (.int r.1)) (cells r.2) := by
  refine cm_of (ls := [some (.ref 82), some (.int a1)]) mfX11_kindOf rfl (Nat.le_of_ble_eq_true rfl) (fun g hg hr => ?_)
  unfold X11_kindOf at h
  refine e_aload_n hg dX11_kindOf_0 rfl ?_
  refine m_getR (q := 111) hg ciX11 54 lk_1040 dX11_kindOf_1 io_82 (Nat.le_of_ble_eq_true rfl) rfl rf_82_54 ?_
  refine e_iload_n hg dX11_kindOf_4 rfl ?_
  obtain ⟨hi1, h⟩ := o_gd h
  refine m_iald hg sh_111 hi1 dX11_kindOf_5 ?_
  exact m_iret hg hr dX11_kindOf_6 h

def X11_body (a1 : Int32) (M : mm) : Option (Int32 × mm) :=
  bd (X11_within (a1.toInt64) 0 7 M) fun v1 M2 =>
  if v1 = 0 then
    some ((-1), M2)
  else
    if (M2.1 82 53) = 50 then
      some ((-3), M2)
    else
      gd (inb (M2.1 82 53) 50) <|
      lt_ (sA M2 111 (upd (M2.1 111) (M2.1 82 53).toNatClampNeg a1)) fun M7 =>
      lt_ (sA M7 82 (upd (M7.1 82) 53 ((M7.1 82 53) + 1))) fun M8 =>
      some (((M8.1 82 53) - 1), M8)
set_option maxRecDepth 100000 in
set_option maxHeartbeats 4000000 in
theorem X11_body_ok {a1 : Int32} {M : mm} {r : Int32 × mm} (h : X11_body a1 M = some r) : CM yX11_body cX11_body 2 (some .int) 1 [.ref 82, .int a1] (cells M) (some (.int r.1)) (cells r.2) := by
  refine cm_of (ls := [some (.ref 82), some (.int a1)]) mfX11_body rfl (Nat.le_of_ble_eq_true rfl) (fun g hg hr => ?_)
  unfold X11_body at h
  refine e_iload_n hg dX11_body_0 rfl ?_
  refine e_i2l hg dX11_body_1 ?_
  refine e_lconst (v := 0) hg dX11_body_2 (by decide) ?_
  refine e_ldc2 hg dX11_body_3 lk_1463 ?_
  obtain ⟨v1, M2, hc3, h⟩ := o_bd h
  refine m_callSI (rest := []) (v := v1) (M' := M2) hg mfX11_within mvX11_within (X11_within_ok (r := (v1, M2)) hc3) lk_1190 dX11_body_6 rfl rfl (by omega) (Nat.le_of_ble_eq_true rfl) ?_
  refine e_ifne hg 14 dX11_body_9 (by decide) (fun c4 => ?_) (fun c4 => ?_)
  · have h := o_pos c4 h
    refine e_iconst (v := -1) hg dX11_body_12 (by decide) ?_
    exact m_iret hg hr dX11_body_13 h
  · have h := o_neg c4 h
    refine e_aload_n hg dX11_body_14 rfl ?_
    refine m_getI hg ciX11 53 lk_1039 dX11_body_15 io_82 (Nat.le_of_ble_eq_true rfl) rfl ?_
    refine e_bipush (v := 50) hg dX11_body_18 (by decide) ?_
    refine e_icmpne hg 26 dX11_body_20 (by decide) (fun c5 => ?_) (fun c5 => ?_)
    · have h := o_pos c5 h
      refine e_bipush (v := -3) hg dX11_body_23 (by decide) ?_
      exact m_iret hg hr dX11_body_25 h
    · have h := o_neg c5 h
      refine e_aload_n hg dX11_body_26 rfl ?_
      refine m_getR (q := 111) hg ciX11 54 lk_1040 dX11_body_27 io_82 (Nat.le_of_ble_eq_true rfl) rfl rf_82_54 ?_
      refine e_aload_n hg dX11_body_30 rfl ?_
      refine m_getI hg ciX11 53 lk_1039 dX11_body_31 io_82 (Nat.le_of_ble_eq_true rfl) rfl ?_
      refine e_iload_n hg dX11_body_34 rfl ?_
      obtain ⟨hi6, h⟩ := o_gd h
      obtain ⟨M7, hM7, h⟩ := o_lt h
      refine m_iast hg sh_111 hi6 dX11_body_35 ?_
      rw [← hM7]
      refine e_aload_n hg dX11_body_36 rfl ?_
      refine e_dup hg dX11_body_37 rfl ?_
      refine m_getI hg ciX11 53 lk_1039 dX11_body_38 io_82 (Nat.le_of_ble_eq_true rfl) rfl ?_
      refine e_iconst (v := 1) hg dX11_body_41 (by decide) ?_
      refine e_iadd hg dX11_body_42 ?_
      obtain ⟨M8, hM8, h⟩ := o_lt h
      refine m_putI hg ciX11 53 lk_1039 dX11_body_43 io_82 (Nat.le_of_ble_eq_true rfl) rfl rfl rfl rfl ?_
      rw [← hM8]
      refine e_aload_n hg dX11_body_46 rfl ?_
      refine m_getI hg ciX11 53 lk_1039 dX11_body_47 io_82 (Nat.le_of_ble_eq_true rfl) rfl ?_
      refine e_iconst (v := 1) hg dX11_body_50 (by decide) ?_
      refine e_isub hg dX11_body_51 ?_
      exact m_iret hg hr dX11_body_52 h

def X11_above (a0 : Int32) (M : mm) : Option (Int32 × mm) :=
  if a0 = 3 then
    some (2, M)
  else
    if a0 = 4 then
      some (1, M)
    else
      if a0 = 5 then
        some (3, M)
      else
        if a0 = 7 then
          some (4, M)
        else
          some (0, M)
set_option maxRecDepth 100000 in
set_option maxHeartbeats 4000000 in
theorem X11_above_ok {a0 : Int32} {M : mm} {r : Int32 × mm} (h : X11_above a0 M = some r) : CM yX11_above cX11_above 1 (some .int) 0 [.int a0] (cells M) (some (.int r.1)) (cells r.2) := by
  refine cm_of (ls := [some (.int a0)]) mfX11_above rfl (Nat.le_of_ble_eq_true rfl) (fun g hg hr => ?_)
  unfold X11_above at h
  refine e_iload_n hg dX11_above_0 rfl ?_
  refine e_iconst (v := 3) hg dX11_above_1 (by decide) ?_
  refine e_icmpne hg 9 dX11_above_2 (by decide) (fun c1 => ?_) (fun c1 => ?_)
  · have h := o_pos c1 h
    refine e_iconst (v := 2) hg dX11_above_5 (by decide) ?_
    refine e_goto hg 38 dX11_above_6 (by decide) ?_
    exact m_iret hg hr dX11_above_38 h
  · have h := o_neg c1 h
    refine e_iload_n hg dX11_above_9 rfl ?_
    refine e_iconst (v := 4) hg dX11_above_10 (by decide) ?_
    refine e_icmpne hg 18 dX11_above_11 (by decide) (fun c2 => ?_) (fun c2 => ?_)
    · have h := o_pos c2 h
      refine e_iconst (v := 1) hg dX11_above_14 (by decide) ?_
      refine e_goto hg 38 dX11_above_15 (by decide) ?_
      exact m_iret hg hr dX11_above_38 h
    · have h := o_neg c2 h
      refine e_iload_n hg dX11_above_18 rfl ?_
      refine e_iconst (v := 5) hg dX11_above_19 (by decide) ?_
      refine e_icmpne hg 27 dX11_above_20 (by decide) (fun c3 => ?_) (fun c3 => ?_)
      · have h := o_pos c3 h
        refine e_iconst (v := 3) hg dX11_above_23 (by decide) ?_
        refine e_goto hg 38 dX11_above_24 (by decide) ?_
        exact m_iret hg hr dX11_above_38 h
      · have h := o_neg c3 h
        refine e_iload_n hg dX11_above_27 rfl ?_
        refine e_bipush (v := 7) hg dX11_above_28 (by decide) ?_
        refine e_icmpne hg 37 dX11_above_30 (by decide) (fun c4 => ?_) (fun c4 => ?_)
        · have h := o_pos c4 h
          refine e_iconst (v := 4) hg dX11_above_33 (by decide) ?_
          refine e_goto hg 38 dX11_above_34 (by decide) ?_
          exact m_iret hg hr dX11_above_38 h
        · have h := o_neg c4 h
          refine e_iconst (v := 0) hg dX11_above_37 (by decide) ?_
          exact m_iret hg hr dX11_above_38 h

def X11_begins_b19 (a1 : Int32) (M : mm) : Option (Unit × mm) :=
  lt_ (sA M 82 (upd (M.1 82) 56 ((M.1 82 56) + 1))) fun M4 =>
  some ((), M4)
set_option maxRecDepth 100000 in
set_option maxHeartbeats 4000000 in
theorem X11_begins_b19_ok {g : gx} (hg : EC g cX11_begins RX11 0) {a1 : Int32} {r : Unit × mm} (hr : RT g (none) (0, 0) none (cells r.2)) {M : mm} (h : X11_begins_b19 a1 M = some r) : E g (0, 0) 19 [some (.ref 82), some (.int a1)] [] (cells M) := by
  unfold X11_begins_b19 at h
  refine e_aload_n hg dX11_begins_19 rfl ?_
  refine e_dup hg dX11_begins_20 rfl ?_
  refine m_getI hg ciX11 56 lk_1042 dX11_begins_21 io_82 (Nat.le_of_ble_eq_true rfl) rfl ?_
  refine e_iconst (v := 1) hg dX11_begins_24 (by decide) ?_
  refine e_iadd hg dX11_begins_25 ?_
  obtain ⟨M4, hM4, h⟩ := o_lt h
  refine m_putI hg ciX11 56 lk_1042 dX11_begins_26 io_82 (Nat.le_of_ble_eq_true rfl) rfl rfl rfl rfl ?_
  rw [← hM4]
  exact m_vret hg hr dX11_begins_29 h

def X11_begins (a1 : Int32) (M : mm) : Option (Unit × mm) :=
  if (M.1 82 56) < 24 then
    gd (inb (M.1 82 56) 24) <|
    lt_ (sA M 112 (upd (M.1 112) (M.1 82 56).toNatClampNeg a1)) fun M3 =>
    X11_begins_b19 a1 M3
  else
    X11_begins_b19 a1 M
set_option maxRecDepth 100000 in
set_option maxHeartbeats 4000000 in
theorem X11_begins_ok {a1 : Int32} {M : mm} {r : Unit × mm} (h : X11_begins a1 M = some r) : CM yX11_begins cX11_begins 2 (none) 0 [.ref 82, .int a1] (cells M) none (cells r.2) := by
  refine cm_of (ls := [some (.ref 82), some (.int a1)]) mfX11_begins rfl (Nat.le_of_ble_eq_true rfl) (fun g hg hr => ?_)
  unfold X11_begins at h
  refine e_aload_n hg dX11_begins_0 rfl ?_
  refine m_getI hg ciX11 56 lk_1042 dX11_begins_1 io_82 (Nat.le_of_ble_eq_true rfl) rfl ?_
  refine e_bipush (v := 24) hg dX11_begins_4 (by decide) ?_
  refine e_icmpge hg 19 dX11_begins_6 (by decide) (fun c1 => ?_) (fun c1 => ?_)
  · have h := o_pos c1 h
    refine e_aload_n hg dX11_begins_9 rfl ?_
    refine m_getR (q := 112) hg ciX11 55 lk_1041 dX11_begins_10 io_82 (Nat.le_of_ble_eq_true rfl) rfl rf_82_55 ?_
    refine e_aload_n hg dX11_begins_13 rfl ?_
    refine m_getI hg ciX11 56 lk_1042 dX11_begins_14 io_82 (Nat.le_of_ble_eq_true rfl) rfl ?_
    refine e_iload_n hg dX11_begins_17 rfl ?_
    obtain ⟨hi2, h⟩ := o_gd h
    obtain ⟨M3, hM3, h⟩ := o_lt h
    refine m_iast hg sh_112 hi2 dX11_begins_18 ?_
    rw [← hM3]
    exact X11_begins_b19_ok hg hr  h
  · have h := o_neg c1 h
    exact X11_begins_b19_ok hg hr  h

def X11_mendsAs_b16 (rec : Nat → Int32 → Int32 → mm → Option (Int32 × mm)) (a1 : Int32) (a2 : Int32) (M : mm) : Option (Int32 × mm) :=
  bd (X11_begins 20 M) fun u2 M3 =>
  bd (rec 0 0 a2 M3) fun v5 M6 =>
  some ((v5 + 3), M6)
set_option maxRecDepth 100000 in
set_option maxHeartbeats 4000000 in
theorem X11_mendsAs_b16_ok {dd : Nat} {g : gx} (hg : EC g cX11_mendsAs RX11 (dd + 1)) (hdd : 1 ≤ dd) {rec : Nat → Int32 → Int32 → mm → Option (Int32 × mm)} (hrec0 : ∀ (y0 y1 : Int32) (M : mm) (q : Int32 × mm), rec 0 y0 y1 M = some q → CM yX11_mendsAs cX11_mendsAs 3 (some .int) dd [.ref 82, .int y0, .int y1] (cells M) (some (.int q.1)) (cells q.2)) {a1 : Int32} {a2 : Int32} {r : Int32 × mm} (hr : RT g (some .int) (0, 0) (some (.int r.1)) (cells r.2)) {M : mm} (h : X11_mendsAs_b16 rec a1 a2 M = some r) : E g (0, 0) 16 [some (.ref 82), some (.int a1), some (.int a2)] [] (cells M) := by
  unfold X11_mendsAs_b16 at h
  refine e_aload_n hg dX11_mendsAs_16 rfl ?_
  refine e_bipush (v := 20) hg dX11_mendsAs_17 (by decide) ?_
  obtain ⟨u2, M3, hc4, h⟩ := o_bd h
  refine m_callVV (rest := []) (M' := M3) (ci := 11) hg mfX11_begins mvX11_begins (X11_begins_ok (r := (u2, M3)) hc4) lk_1476 dX11_mendsAs_19 io_82 rfl rfl rfl (by omega) (Nat.le_of_ble_eq_true rfl) ?_
  refine e_aload_n hg dX11_mendsAs_22 rfl ?_
  refine e_iconst (v := 0) hg dX11_mendsAs_23 (by decide) ?_
  refine e_iload_n hg dX11_mendsAs_24 rfl ?_
  obtain ⟨v5, M6, hc7, h⟩ := o_bd h
  refine m_callVI (rest := []) (v := v5) (M' := M6) (ci := 11) hg mfX11_mendsAs mvX11_mendsAs (hrec0 _ _ _ (v5, M6) hc7) lk_1472 dX11_mendsAs_25 io_82 rfl rfl rfl (by omega) (Nat.le_of_ble_eq_true rfl) ?_
  refine e_iconst (v := 3) hg dX11_mendsAs_28 (by decide) ?_
  refine e_iadd hg dX11_mendsAs_29 ?_
  exact m_iret hg hr dX11_mendsAs_30 h

def X11_mendsAs_B (rec : Nat → Int32 → Int32 → mm → Option (Int32 × mm)) (a1 : Int32) (a2 : Int32) (M : mm) : Option (Int32 × mm) :=
  if a1 = 1 then
    X11_mendsAs_b16 rec a1 a2 M
  else
    if a1 = 4 then
      X11_mendsAs_b16 rec a1 a2 M
    else
      if a1 = 7 then
        X11_mendsAs_b16 rec a1 a2 M
      else
        if a1 = 6 then
          bd (X11_begins 70 M) fun u11 M12 =>
          bd (rec 0 0 a2 M12) fun v14 M15 =>
          some ((v14 * 2), M15)
        else
          bd (X11_begins 1 M) fun u17 M18 =>
          some ((a2 + (M18.1 82 58)), M18)
set_option maxRecDepth 100000 in
set_option maxHeartbeats 4000000 in
theorem X11_mendsAs_B_ok {dd : Nat} (hdd : 1 ≤ dd) {rec : Nat → Int32 → Int32 → mm → Option (Int32 × mm)} (hrec0 : ∀ (y0 y1 : Int32) (M : mm) (q : Int32 × mm), rec 0 y0 y1 M = some q → CM yX11_mendsAs cX11_mendsAs 3 (some .int) dd [.ref 82, .int y0, .int y1] (cells M) (some (.int q.1)) (cells q.2)) {a1 : Int32} {a2 : Int32} {M : mm} {r : Int32 × mm} (h : X11_mendsAs_B rec a1 a2 M = some r) : CM yX11_mendsAs cX11_mendsAs 3 (some .int) (dd + 1) [.ref 82, .int a1, .int a2] (cells M) (some (.int r.1)) (cells r.2) := by
  refine cm_of (ls := [some (.ref 82), some (.int a1), some (.int a2)]) mfX11_mendsAs rfl (Nat.le_of_ble_eq_true rfl) (fun g hg hr => ?_)
  unfold X11_mendsAs_B at h
  refine e_iload_n hg dX11_mendsAs_0 rfl ?_
  refine e_iconst (v := 1) hg dX11_mendsAs_1 (by decide) ?_
  refine e_icmpeq hg 16 dX11_mendsAs_2 (by decide) (fun c1 => ?_) (fun c1 => ?_)
  · have h := o_pos c1 h
    exact X11_mendsAs_b16_ok hg hdd hrec0 hr  h
  · have h := o_neg c1 h
    refine e_iload_n hg dX11_mendsAs_5 rfl ?_
    refine e_iconst (v := 4) hg dX11_mendsAs_6 (by decide) ?_
    refine e_icmpeq hg 16 dX11_mendsAs_7 (by decide) (fun c8 => ?_) (fun c8 => ?_)
    · have h := o_pos c8 h
      exact X11_mendsAs_b16_ok hg hdd hrec0 hr  h
    · have h := o_neg c8 h
      refine e_iload_n hg dX11_mendsAs_10 rfl ?_
      refine e_bipush (v := 7) hg dX11_mendsAs_11 (by decide) ?_
      refine e_icmpne hg 31 dX11_mendsAs_13 (by decide) (fun c9 => ?_) (fun c9 => ?_)
      · have h := o_pos c9 h
        exact X11_mendsAs_b16_ok hg hdd hrec0 hr  h
      · have h := o_neg c9 h
        refine e_iload_n hg dX11_mendsAs_31 rfl ?_
        refine e_bipush (v := 6) hg dX11_mendsAs_32 (by decide) ?_
        refine e_icmpne hg 52 dX11_mendsAs_34 (by decide) (fun c10 => ?_) (fun c10 => ?_)
        · have h := o_pos c10 h
          refine e_aload_n hg dX11_mendsAs_37 rfl ?_
          refine e_bipush (v := 70) hg dX11_mendsAs_38 (by decide) ?_
          obtain ⟨u11, M12, hc13, h⟩ := o_bd h
          refine m_callVV (rest := []) (M' := M12) (ci := 11) hg mfX11_begins mvX11_begins (X11_begins_ok (r := (u11, M12)) hc13) lk_1476 dX11_mendsAs_40 io_82 rfl rfl rfl (by omega) (Nat.le_of_ble_eq_true rfl) ?_
          refine e_aload_n hg dX11_mendsAs_43 rfl ?_
          refine e_iconst (v := 0) hg dX11_mendsAs_44 (by decide) ?_
          refine e_iload_n hg dX11_mendsAs_45 rfl ?_
          obtain ⟨v14, M15, hc16, h⟩ := o_bd h
          refine m_callVI (rest := []) (v := v14) (M' := M15) (ci := 11) hg mfX11_mendsAs mvX11_mendsAs (hrec0 _ _ _ (v14, M15) hc16) lk_1472 dX11_mendsAs_46 io_82 rfl rfl rfl (by omega) (Nat.le_of_ble_eq_true rfl) ?_
          refine e_iconst (v := 2) hg dX11_mendsAs_49 (by decide) ?_
          refine e_imul hg dX11_mendsAs_50 ?_
          exact m_iret hg hr dX11_mendsAs_51 h
        · have h := o_neg c10 h
          refine e_aload_n hg dX11_mendsAs_52 rfl ?_
          refine e_iconst (v := 1) hg dX11_mendsAs_53 (by decide) ?_
          obtain ⟨u17, M18, hc19, h⟩ := o_bd h
          refine m_callVV (rest := []) (M' := M18) (ci := 11) hg mfX11_begins mvX11_begins (X11_begins_ok (r := (u17, M18)) hc19) lk_1476 dX11_mendsAs_54 io_82 rfl rfl rfl (by omega) (Nat.le_of_ble_eq_true rfl) ?_
          refine e_iload_n hg dX11_mendsAs_57 rfl ?_
          refine e_aload_n hg dX11_mendsAs_58 rfl ?_
          refine m_getI hg ciX11 58 lk_1044 dX11_mendsAs_59 io_82 (Nat.le_of_ble_eq_true rfl) rfl ?_
          refine e_iadd hg dX11_mendsAs_62 ?_
          exact m_iret hg hr dX11_mendsAs_63 h

def G_X11_mendsAs : Nat → Nat → Int32 → Int32 → mm → Option (Int32 × mm)
  | 0, _, _, _, _ => none
  | n_ + 1, t_, y0, y1, M => match t_ with
    | _ => X11_mendsAs_B (G_X11_mendsAs n_) y0 y1 M
set_option maxRecDepth 100000 in
set_option maxHeartbeats 4000000 in
theorem G_X11_mendsAs_ok : ∀ n_ : Nat, (∀ (y0 y1 : Int32) (M : mm) (q : Int32 × mm), G_X11_mendsAs n_ 0 y0 y1 M = some q → CM yX11_mendsAs cX11_mendsAs 3 (some .int) (1 + n_) [.ref 82, .int y0, .int y1] (cells M) (some (.int q.1)) (cells q.2)) := by
  intro n_
  induction n_ with
  | zero => exact fun _ _ _ _ h => o_no h
  | succ n_ ih =>
    exact fun _ _ _ _ h => X11_mendsAs_B_ok (by omega) ih h
def X11_mendsAs (a1 : Int32) (a2 : Int32) (M : mm) : Option (Int32 × mm) := G_X11_mendsAs 20 0 a1 a2 M
theorem X11_mendsAs_ok {a1 : Int32} {a2 : Int32} {M : mm} {r : Int32 × mm} (h : X11_mendsAs a1 a2 M = some r) : CM yX11_mendsAs cX11_mendsAs 3 (some .int) 21 [.ref 82, .int a1, .int a2] (cells M) (some (.int r.1)) (cells r.2) := (G_X11_mendsAs_ok 20) _ _ _ _ h
def X11_leavesAs_b10 (rec : Nat → Int32 → Int32 → mm → Option (Int32 × mm)) (a1 : Int32) (a2 : Int32) (M : mm) : Option (Int32 × mm) :=
  bd (X11_begins 40 M) fun u2 M3 =>
  bd (rec 0 2 a2 M3) fun v5 M6 =>
  some ((v5 * 3), M6)
set_option maxRecDepth 100000 in
set_option maxHeartbeats 4000000 in
theorem X11_leavesAs_b10_ok {dd : Nat} {g : gx} (hg : EC g cX11_leavesAs RX11 (dd + 1)) (hdd : 22 ≤ dd) {rec : Nat → Int32 → Int32 → mm → Option (Int32 × mm)} (hrec0 : ∀ (y0 y1 : Int32) (M : mm) (q : Int32 × mm), rec 0 y0 y1 M = some q → CM yX11_leavesAs cX11_leavesAs 4 (some .int) dd [.ref 82, .int y0, .int y1] (cells M) (some (.int q.1)) (cells q.2)) {a1 : Int32} {a2 : Int32} {r : Int32 × mm} (hr : RT g (some .int) (0, 0) (some (.int r.1)) (cells r.2)) {o3 : Option Value} {M : mm} (h : X11_leavesAs_b10 rec a1 a2 M = some r) : E g (0, 0) 10 [some (.ref 82), some (.int a1), some (.int a2), o3] [] (cells M) := by
  unfold X11_leavesAs_b10 at h
  refine e_aload_n hg dX11_leavesAs_10 rfl ?_
  refine e_bipush (v := 40) hg dX11_leavesAs_11 (by decide) ?_
  obtain ⟨u2, M3, hc4, h⟩ := o_bd h
  refine m_callVV (rest := []) (M' := M3) (ci := 11) hg mfX11_begins mvX11_begins (X11_begins_ok (r := (u2, M3)) hc4) lk_1476 dX11_leavesAs_13 io_82 rfl rfl rfl (by omega) (Nat.le_of_ble_eq_true rfl) ?_
  refine e_aload_n hg dX11_leavesAs_16 rfl ?_
  refine e_iconst (v := 2) hg dX11_leavesAs_17 (by decide) ?_
  refine e_iload_n hg dX11_leavesAs_18 rfl ?_
  obtain ⟨v5, M6, hc7, h⟩ := o_bd h
  refine m_callVI (rest := []) (v := v5) (M' := M6) (ci := 11) hg mfX11_leavesAs mvX11_leavesAs (hrec0 _ _ _ (v5, M6) hc7) lk_1484 dX11_leavesAs_19 io_82 rfl rfl rfl (by omega) (Nat.le_of_ble_eq_true rfl) ?_
  refine e_iconst (v := 3) hg dX11_leavesAs_22 (by decide) ?_
  refine e_imul hg dX11_leavesAs_23 ?_
  exact m_iret hg hr dX11_leavesAs_24 h

def X11_leavesAs_b36 (rec : Nat → Int32 → Int32 → mm → Option (Int32 × mm)) (a1 : Int32) (a2 : Int32) (M : mm) : Option (Int32 × mm) :=
  bd (X11_begins 50 M) fun u10 M11 =>
  bd (rec 0 1 a2 M11) fun v13 M14 =>
  bd (X11_mendsAs (M14.1 82 57) 2 M14) fun v16 M17 =>
  some ((v13 - v16), M17)
set_option maxRecDepth 100000 in
set_option maxHeartbeats 4000000 in
theorem X11_leavesAs_b36_ok {dd : Nat} {g : gx} (hg : EC g cX11_leavesAs RX11 (dd + 1)) (hdd : 22 ≤ dd) {rec : Nat → Int32 → Int32 → mm → Option (Int32 × mm)} (hrec0 : ∀ (y0 y1 : Int32) (M : mm) (q : Int32 × mm), rec 0 y0 y1 M = some q → CM yX11_leavesAs cX11_leavesAs 4 (some .int) dd [.ref 82, .int y0, .int y1] (cells M) (some (.int q.1)) (cells q.2)) {a1 : Int32} {a2 : Int32} {r : Int32 × mm} (hr : RT g (some .int) (0, 0) (some (.int r.1)) (cells r.2)) {o3 : Option Value} {M : mm} (h : X11_leavesAs_b36 rec a1 a2 M = some r) : E g (0, 0) 36 [some (.ref 82), some (.int a1), some (.int a2), o3] [] (cells M) := by
  unfold X11_leavesAs_b36 at h
  refine e_aload_n hg dX11_leavesAs_36 rfl ?_
  refine e_bipush (v := 50) hg dX11_leavesAs_37 (by decide) ?_
  obtain ⟨u10, M11, hc12, h⟩ := o_bd h
  refine m_callVV (rest := []) (M' := M11) (ci := 11) hg mfX11_begins mvX11_begins (X11_begins_ok (r := (u10, M11)) hc12) lk_1476 dX11_leavesAs_39 io_82 rfl rfl rfl (by omega) (Nat.le_of_ble_eq_true rfl) ?_
  refine e_aload_n hg dX11_leavesAs_42 rfl ?_
  refine e_iconst (v := 1) hg dX11_leavesAs_43 (by decide) ?_
  refine e_iload_n hg dX11_leavesAs_44 rfl ?_
  obtain ⟨v13, M14, hc15, h⟩ := o_bd h
  refine m_callVI (rest := []) (v := v13) (M' := M14) (ci := 11) hg mfX11_leavesAs mvX11_leavesAs (hrec0 _ _ _ (v13, M14) hc15) lk_1484 dX11_leavesAs_45 io_82 rfl rfl rfl (by omega) (Nat.le_of_ble_eq_true rfl) ?_
  refine e_istore_n (ls' := [some (.ref 82), some (.int a1), some (.int a2), some (.int v13)]) hg dX11_leavesAs_48 rfl ?_
  refine e_iload_n hg dX11_leavesAs_49 rfl ?_
  refine e_aload_n hg dX11_leavesAs_50 rfl ?_
  refine e_aload_n hg dX11_leavesAs_51 rfl ?_
  refine m_getI hg ciX11 57 lk_1043 dX11_leavesAs_52 io_82 (Nat.le_of_ble_eq_true rfl) rfl ?_
  refine e_iconst (v := 2) hg dX11_leavesAs_55 (by decide) ?_
  obtain ⟨v16, M17, hc18, h⟩ := o_bd h
  refine m_callVI (rest := [.int v13]) (v := v16) (M' := M17) (ci := 11) hg mfX11_mendsAs mvX11_mendsAs (X11_mendsAs_ok (r := (v16, M17)) hc18) lk_1472 dX11_leavesAs_56 io_82 rfl rfl rfl (by omega) (Nat.le_of_ble_eq_true rfl) ?_
  refine e_isub hg dX11_leavesAs_59 ?_
  exact m_iret hg hr dX11_leavesAs_60 h

def X11_leavesAs_B (rec : Nat → Int32 → Int32 → mm → Option (Int32 × mm)) (a1 : Int32) (a2 : Int32) (M : mm) : Option (Int32 × mm) :=
  if a1 = 3 then
    X11_leavesAs_b10 rec a1 a2 M
  else
    if a1 = 5 then
      X11_leavesAs_b10 rec a1 a2 M
    else
      if a1 = 4 then
        X11_leavesAs_b36 rec a1 a2 M
      else
        if a1 = 7 then
          X11_leavesAs_b36 rec a1 a2 M
        else
          bd (X11_begins 11 M) fun u20 M21 =>
          some ((a2 ^^^ (M21.1 82 58)), M21)
set_option maxRecDepth 100000 in
set_option maxHeartbeats 4000000 in
theorem X11_leavesAs_B_ok {dd : Nat} (hdd : 22 ≤ dd) {rec : Nat → Int32 → Int32 → mm → Option (Int32 × mm)} (hrec0 : ∀ (y0 y1 : Int32) (M : mm) (q : Int32 × mm), rec 0 y0 y1 M = some q → CM yX11_leavesAs cX11_leavesAs 4 (some .int) dd [.ref 82, .int y0, .int y1] (cells M) (some (.int q.1)) (cells q.2)) {a1 : Int32} {a2 : Int32} {M : mm} {r : Int32 × mm} (h : X11_leavesAs_B rec a1 a2 M = some r) : CM yX11_leavesAs cX11_leavesAs 4 (some .int) (dd + 1) [.ref 82, .int a1, .int a2] (cells M) (some (.int r.1)) (cells r.2) := by
  refine cm_of (ls := [some (.ref 82), some (.int a1), some (.int a2), none]) mfX11_leavesAs rfl (Nat.le_of_ble_eq_true rfl) (fun g hg hr => ?_)
  unfold X11_leavesAs_B at h
  refine e_iload_n hg dX11_leavesAs_0 rfl ?_
  refine e_iconst (v := 3) hg dX11_leavesAs_1 (by decide) ?_
  refine e_icmpeq hg 10 dX11_leavesAs_2 (by decide) (fun c1 => ?_) (fun c1 => ?_)
  · have h := o_pos c1 h
    exact X11_leavesAs_b10_ok hg hdd hrec0 hr  h
  · have h := o_neg c1 h
    refine e_iload_n hg dX11_leavesAs_5 rfl ?_
    refine e_iconst (v := 5) hg dX11_leavesAs_6 (by decide) ?_
    refine e_icmpne hg 25 dX11_leavesAs_7 (by decide) (fun c8 => ?_) (fun c8 => ?_)
    · have h := o_pos c8 h
      exact X11_leavesAs_b10_ok hg hdd hrec0 hr  h
    · have h := o_neg c8 h
      refine e_iload_n hg dX11_leavesAs_25 rfl ?_
      refine e_iconst (v := 4) hg dX11_leavesAs_26 (by decide) ?_
      refine e_icmpeq hg 36 dX11_leavesAs_27 (by decide) (fun c9 => ?_) (fun c9 => ?_)
      · have h := o_pos c9 h
        exact X11_leavesAs_b36_ok hg hdd hrec0 hr  h
      · have h := o_neg c9 h
        refine e_iload_n hg dX11_leavesAs_30 rfl ?_
        refine e_bipush (v := 7) hg dX11_leavesAs_31 (by decide) ?_
        refine e_icmpne hg 61 dX11_leavesAs_33 (by decide) (fun c19 => ?_) (fun c19 => ?_)
        · have h := o_pos c19 h
          exact X11_leavesAs_b36_ok hg hdd hrec0 hr  h
        · have h := o_neg c19 h
          refine e_aload_n hg dX11_leavesAs_61 rfl ?_
          refine e_bipush (v := 11) hg dX11_leavesAs_62 (by decide) ?_
          obtain ⟨u20, M21, hc22, h⟩ := o_bd h
          refine m_callVV (rest := []) (M' := M21) (ci := 11) hg mfX11_begins mvX11_begins (X11_begins_ok (r := (u20, M21)) hc22) lk_1476 dX11_leavesAs_64 io_82 rfl rfl rfl (by omega) (Nat.le_of_ble_eq_true rfl) ?_
          refine e_iload_n hg dX11_leavesAs_67 rfl ?_
          refine e_aload_n hg dX11_leavesAs_68 rfl ?_
          refine m_getI hg ciX11 58 lk_1044 dX11_leavesAs_69 io_82 (Nat.le_of_ble_eq_true rfl) rfl ?_
          refine e_ixor hg dX11_leavesAs_72 ?_
          exact m_iret hg hr dX11_leavesAs_73 h

def G_X11_leavesAs : Nat → Nat → Int32 → Int32 → mm → Option (Int32 × mm)
  | 0, _, _, _, _ => none
  | n_ + 1, t_, y0, y1, M => match t_ with
    | _ => X11_leavesAs_B (G_X11_leavesAs n_) y0 y1 M
set_option maxRecDepth 100000 in
set_option maxHeartbeats 4000000 in
theorem G_X11_leavesAs_ok : ∀ n_ : Nat, (∀ (y0 y1 : Int32) (M : mm) (q : Int32 × mm), G_X11_leavesAs n_ 0 y0 y1 M = some q → CM yX11_leavesAs cX11_leavesAs 4 (some .int) (22 + n_) [.ref 82, .int y0, .int y1] (cells M) (some (.int q.1)) (cells q.2)) := by
  intro n_
  induction n_ with
  | zero => exact fun _ _ _ _ h => o_no h
  | succ n_ ih =>
    exact fun _ _ _ _ h => X11_leavesAs_B_ok (by omega) ih h
def X11_leavesAs (a1 : Int32) (a2 : Int32) (M : mm) : Option (Int32 × mm) := G_X11_leavesAs 20 0 a1 a2 M
theorem X11_leavesAs_ok {a1 : Int32} {a2 : Int32} {M : mm} {r : Int32 × mm} (h : X11_leavesAs a1 a2 M = some r) : CM yX11_leavesAs cX11_leavesAs 4 (some .int) 42 [.ref 82, .int a1, .int a2] (cells M) (some (.int r.1)) (cells r.2) := (G_X11_leavesAs_ok 20) _ _ _ _ h
