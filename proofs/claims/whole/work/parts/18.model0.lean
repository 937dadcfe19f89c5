def X11_within (a0 : Int64) (a2 : Int64) (a4 : Int64) (M : mm) : Option (Int32 × mm) :=
  if (lg_cmp a0 a2) < 0 then
    some (0, M)
  else
    if 0 < (lg_cmp a0 a4) then
      some (0, M)
    else
      some (1, M)
set_option maxRecDepth 100000 in
set_option maxHeartbeats 4000000 in
theorem X11_within_ok {a0 : Int64} {a2 : Int64} {a4 : Int64} {M : mm} {r : Int32 × mm} (h : X11_within a0 a2 a4 M = some r) : CM yX11_within cX11_within 6 (some .boolean) 0 [.long a0, .long a2, .long a4] (cells M) (some (.int r.1)) (cells r.2) := by
  refine cm_of (ls := [some (.long a0), none, some (.long a2), none, some (.long a4), none]) mfX11_within rfl (Nat.le_of_ble_eq_true rfl) (fun g hg hr => ?_)
  unfold X11_within at h
  refine e_lload_n hg dX11_within_0 rfl ?_
  refine e_lload_n hg dX11_within_1 rfl ?_
  refine e_lcmp hg dX11_within_2 ?_
  refine e_iflt hg 17 dX11_within_3 (by decide) (fun c1 => ?_) (fun c1 => ?_)
  · have h := o_pos c1 h
    refine e_iconst (v := 0) hg dX11_within_17 (by decide) ?_
    exact m_zret hg hr rfl dX11_within_18 h
  · have h := o_neg c1 h
    refine e_lload_n hg dX11_within_6 rfl ?_
    refine e_lload hg dX11_within_7 rfl ?_
    refine e_lcmp hg dX11_within_9 ?_
    refine e_ifgt hg 17 dX11_within_10 (by decide) (fun c2 => ?_) (fun c2 => ?_)
    · have h := o_pos c2 h
      refine e_iconst (v := 0) hg dX11_within_17 (by decide) ?_
      exact m_zret hg hr rfl dX11_within_18 h
    · have h := o_neg c2 h
      refine e_iconst (v := 1) hg dX11_within_13 (by decide) ?_
      refine e_goto hg 18 dX11_within_14 (by decide) ?_
      exact m_zret hg hr rfl dX11_within_18 h

def X11_becomes_L26 (a1 : Int32) (a2 : Int32) (K87 : Int32 → mm → Option (Int32 × mm)) : Nat → Int32 → Int32 → mm → Option (Int32 × mm)
  | 0, _, _, _ => none
  | n_ + 1, x3, x4, M =>
    if x4 < 40 then
      gd (inb x4 40) <|
      gd (inb (x4 - 1) 40) <|
      lt_ (sA M 84 (upd (M.1 84) (x4 - 1).toNatClampNeg (M.1 84 x4.toNatClampNeg))) fun M7 =>
      gd (inb x4 40) <|
      gd (inb (x4 - 1) 40) <|
      lt_ (sA M7 85 (upd (M7.1 85) (x4 - 1).toNatClampNeg (M7.1 85 x4.toNatClampNeg))) fun M10 =>
      gd (inb x4 40) <|
      gd (inb (x4 - 1) 40) <|
      lt_ (sA M10 86 (upd (M10.1 86) (x4 - 1).toNatClampNeg (M10.1 86 x4.toNatClampNeg))) fun M13 =>
      (X11_becomes_L26 a1 a2 K87 n_) x3 (x4 + 1) M13
    else
      K87 x3 M
set_option maxRecDepth 100000 in
set_option maxHeartbeats 4000000 in
theorem X11_becomes_L26_ok {g : gx} (hg : EC g cX11_becomes RX11 0) {a1 : Int32} {a2 : Int32} {r : Int32 × mm} (hr : RT g (some .int) (0, 0) (some (.int r.1)) (cells r.2)) {K87 : Int32 → mm → Option (Int32 × mm)} (hK87 : ∀ (x3 : Int32) (o4 : Option Value) (M : mm), K87 x3 M = some r → E g (0, 0) 87 [some (.ref 82), some (.int a1), some (.int a2), some (.int x3), o4] [] (cells M)) : ∀ (n_ : Nat) (x3 : Int32) (x4 : Int32) (M : mm), X11_becomes_L26 a1 a2 K87 n_ x3 x4 M = some r → E g (0, 0) 26 [some (.ref 82), some (.int a1), some (.int a2), some (.int x3), some (.int x4)] [] (cells M) := by
  intro n_
  induction n_ with
  | zero => intro x3 x4 M h; exact o_no h
  | succ n_ ih =>
    intro x3 x4 M h
    rw [X11_becomes_L26] at h
    refine e_iload hg dX11_becomes_26 rfl ?_
    refine e_bipush (v := 40) hg dX11_becomes_28 (by decide) ?_
    refine e_icmpge hg 87 dX11_becomes_30 (by decide) (fun c4 => ?_) (fun c4 => ?_)
    · have h := o_pos c4 h
      refine e_aload_n hg dX11_becomes_33 rfl ?_
      refine m_getR (q := 84) hg ciX11 1 lk_987 dX11_becomes_34 io_82 (Nat.le_of_ble_eq_true rfl) rfl rf_82_1 ?_
      refine e_iload hg dX11_becomes_37 rfl ?_
      refine e_iconst (v := 1) hg dX11_becomes_39 (by decide) ?_
      refine e_isub hg dX11_becomes_40 ?_
      refine e_aload_n hg dX11_becomes_41 rfl ?_
      refine m_getR (q := 84) hg ciX11 1 lk_987 dX11_becomes_42 io_82 (Nat.le_of_ble_eq_true rfl) rfl rf_82_1 ?_
      refine e_iload hg dX11_becomes_45 rfl ?_
      obtain ⟨hi5, h⟩ := o_gd h
      refine m_iald hg sh_84 hi5 dX11_becomes_47 ?_
      obtain ⟨hi6, h⟩ := o_gd h
      obtain ⟨M7, hM7, h⟩ := o_lt h
      refine m_iast hg sh_84 hi6 dX11_becomes_48 ?_
      rw [← hM7]
      refine e_aload_n hg dX11_becomes_49 rfl ?_
      refine m_getR (q := 85) hg ciX11 2 lk_988 dX11_becomes_50 io_82 (Nat.le_of_ble_eq_true rfl) rfl rf_82_2 ?_
      refine e_iload hg dX11_becomes_53 rfl ?_
      refine e_iconst (v := 1) hg dX11_becomes_55 (by decide) ?_
      refine e_isub hg dX11_becomes_56 ?_
      refine e_aload_n hg dX11_becomes_57 rfl ?_
      refine m_getR (q := 85) hg ciX11 2 lk_988 dX11_becomes_58 io_82 (Nat.le_of_ble_eq_true rfl) rfl rf_82_2 ?_
      refine e_iload hg dX11_becomes_61 rfl ?_
      obtain ⟨hi8, h⟩ := o_gd h
      refine m_iald hg sh_85 hi8 dX11_becomes_63 ?_
      obtain ⟨hi9, h⟩ := o_gd h
      obtain ⟨M10, hM10, h⟩ := o_lt h
      refine m_iast hg sh_85 hi9 dX11_becomes_64 ?_
      rw [← hM10]
      refine e_aload_n hg dX11_becomes_65 rfl ?_
      refine m_getR (q := 86) hg ciX11 3 lk_989 dX11_becomes_66 io_82 (Nat.le_of_ble_eq_true rfl) rfl rf_82_3 ?_
      refine e_iload hg dX11_becomes_69 rfl ?_
      refine e_iconst (v := 1) hg dX11_becomes_71 (by decide) ?_
      refine e_isub hg dX11_becomes_72 ?_
      refine e_aload_n hg dX11_becomes_73 rfl ?_
      refine m_getR (q := 86) hg ciX11 3 lk_989 dX11_becomes_74 io_82 (Nat.le_of_ble_eq_true rfl) rfl rf_82_3 ?_
      refine e_iload hg dX11_becomes_77 rfl ?_
      obtain ⟨hi11, h⟩ := o_gd h
      refine m_iald hg sh_86 hi11 dX11_becomes_79 ?_
      obtain ⟨hi12, h⟩ := o_gd h
      obtain ⟨M13, hM13, h⟩ := o_lt h
      refine m_iast hg sh_86 hi12 dX11_becomes_80 ?_
      rw [← hM13]
      refine e_iinc (v := (x4 + 1)) (ls' := [some (.ref 82), some (.int a1), some (.int a2), some (.int x3), some (.int (x4 + 1))]) hg dX11_becomes_81 rfl rfl rfl ?_
      refine e_goto hg 26 dX11_becomes_84 (by decide) ?_
      exact ih _ _ _ h
    · have h := o_neg c4 h
      exact hK87 _ _ _ h

def X11_becomes_b97 (a1 : Int32) (a2 : Int32) (x3 : Int32) (M : mm) : Option (Int32 × mm) :=
  gd (inb (M.1 82 5) 40) <|
  lt_ (sA M 84 (upd (M.1 84) (M.1 82 5).toNatClampNeg a1)) fun M16 =>
  gd (inb (M16.1 82 5) 40) <|
  lt_ (sA M16 85 (upd (M16.1 85) (M16.1 82 5).toNatClampNeg x3)) fun M18 =>
  gd (inb (M18.1 82 5) 40) <|
  lt_ (sA M18 86 (upd (M18.1 86) (M18.1 82 5).toNatClampNeg a2)) fun M20 =>
  lt_ (sA M20 82 (upd (M20.1 82) 5 ((M20.1 82 5) + 1))) fun M21 =>
  lt_ (sA M21 82 (upd (M21.1 82) 4 (M21.1 82 5))) fun M22 =>
  gd (inb a1 33) <|
  lt_ (sA M22 83 (upd (M22.1 83) a1.toNatClampNeg a2)) fun M24 =>
  some (x3, M24)
set_option maxRecDepth 100000 in
set_option maxHeartbeats 4000000 in
theorem X11_becomes_b97_ok {g : gx} (hg : EC g cX11_becomes RX11 0) {a1 : Int32} {a2 : Int32} {r : Int32 × mm} (hr : RT g (some .int) (0, 0) (some (.int r.1)) (cells r.2)) {x3 : Int32} {o4 : Option Value} {M : mm} (h : X11_becomes_b97 a1 a2 x3 M = some r) : E g (0, 0) 97 [some (.ref 82), some (.int a1), some (.int a2), some (.int x3), o4] [] (cells M) := by
  unfold X11_becomes_b97 at h
  refine e_aload_n hg dX11_becomes_97 rfl ?_
  refine m_getR (q := 84) hg ciX11 1 lk_987 dX11_becomes_98 io_82 (Nat.le_of_ble_eq_true rfl) rfl rf_82_1 ?_
  refine e_aload_n hg dX11_becomes_101 rfl ?_
  refine m_getI hg ciX11 5 lk_991 dX11_becomes_102 io_82 (Nat.le_of_ble_eq_true rfl) rfl ?_
  refine e_iload_n hg dX11_becomes_105 rfl ?_
  obtain ⟨hi15, h⟩ := o_gd h
  obtain ⟨M16, hM16, h⟩ := o_lt h
  refine m_iast hg sh_84 hi15 dX11_becomes_106 ?_
  rw [← hM16]
  refine e_aload_n hg dX11_becomes_107 rfl ?_
  refine m_getR (q := 85) hg ciX11 2 lk_988 dX11_becomes_108 io_82 (Nat.le_of_ble_eq_true rfl) rfl rf_82_2 ?_
  refine e_aload_n hg dX11_becomes_111 rfl ?_
  refine m_getI hg ciX11 5 lk_991 dX11_becomes_112 io_82 (Nat.le_of_ble_eq_true rfl) rfl ?_
  refine e_iload_n hg dX11_becomes_115 rfl ?_
  obtain ⟨hi17, h⟩ := o_gd h
  obtain ⟨M18, hM18, h⟩ := o_lt h
  refine m_iast hg sh_85 hi17 dX11_becomes_116 ?_
  rw [← hM18]
  refine e_aload_n hg dX11_becomes_117 rfl ?_
  refine m_getR (q := 86) hg ciX11 3 lk_989 dX11_becomes_118 io_82 (Nat.le_of_ble_eq_true rfl) rfl rf_82_3 ?_
  refine e_aload_n hg dX11_becomes_121 rfl ?_
  refine m_getI hg ciX11 5 lk_991 dX11_becomes_122 io_82 (Nat.le_of_ble_eq_true rfl) rfl ?_
  refine e_iload_n hg dX11_becomes_125 rfl ?_
  obtain ⟨hi19, h⟩ := o_gd h
  obtain ⟨M20, hM20, h⟩ := o_lt h
  refine m_iast hg sh_86 hi19 dX11_becomes_126 ?_
  rw [← hM20]
  refine e_aload_n hg dX11_becomes_127 rfl ?_
  refine e_dup hg dX11_becomes_128 rfl ?_
  refine m_getI hg ciX11 5 lk_991 dX11_becomes_129 io_82 (Nat.le_of_ble_eq_true rfl) rfl ?_
  refine e_iconst (v := 1) hg dX11_becomes_132 (by decide) ?_
  refine e_iadd hg dX11_becomes_133 ?_
  obtain ⟨M21, hM21, h⟩ := o_lt h
  refine m_putI hg ciX11 5 lk_991 dX11_becomes_134 io_82 (Nat.le_of_ble_eq_true rfl) rfl rfl rfl rfl ?_
  rw [← hM21]
  refine e_aload_n hg dX11_becomes_137 rfl ?_
  refine e_aload_n hg dX11_becomes_138 rfl ?_
  refine m_getI hg ciX11 5 lk_991 dX11_becomes_139 io_82 (Nat.le_of_ble_eq_true rfl) rfl ?_
  obtain ⟨M22, hM22, h⟩ := o_lt h
  refine m_putI hg ciX11 4 lk_990 dX11_becomes_142 io_82 (Nat.le_of_ble_eq_true rfl) rfl rfl rfl rfl ?_
  rw [← hM22]
  refine e_aload_n hg dX11_becomes_145 rfl ?_
  refine m_getR (q := 83) hg ciX11 0 lk_986 dX11_becomes_146 io_82 (Nat.le_of_ble_eq_true rfl) rfl rf_82_0 ?_
  refine e_iload_n hg dX11_becomes_149 rfl ?_
  refine e_iload_n hg dX11_becomes_150 rfl ?_
  obtain ⟨hi23, h⟩ := o_gd h
  obtain ⟨M24, hM24, h⟩ := o_lt h
  refine m_iast hg sh_83 hi23 dX11_becomes_151 ?_
  rw [← hM24]
  refine e_iload_n hg dX11_becomes_152 rfl ?_
  exact m_iret hg hr dX11_becomes_153 h

def X11_becomes (a1 : Int32) (a2 : Int32) (M : mm) : Option (Int32 × mm) :=
  gd (inb a1 33) <|
  if (M.1 83 a1.toNatClampNeg) = a2 then
    some ((M.1 83 a1.toNatClampNeg), M)
  else
    if (M.1 82 5) = 40 then
      X11_becomes_L26 a1 a2 (fun x3 M =>
          lt_ (sA M 82 (upd (M.1 82) 5 ((M.1 82 5) - 1))) fun M14 =>
          X11_becomes_b97 a1 a2 x3 M14) 10000 (M.1 83 a1.toNatClampNeg) 1 M
    else
      X11_becomes_b97 a1 a2 (M.1 83 a1.toNatClampNeg) M
set_option maxRecDepth 100000 in
set_option maxHeartbeats 4000000 in
theorem X11_becomes_ok {a1 : Int32} {a2 : Int32} {M : mm} {r : Int32 × mm} (h : X11_becomes a1 a2 M = some r) : CM yX11_becomes cX11_becomes 5 (some .int) 0 [.ref 82, .int a1, .int a2] (cells M) (some (.int r.1)) (cells r.2) := by
  refine cm_of (ls := [some (.ref 82), some (.int a1), some (.int a2), none, none]) mfX11_becomes rfl (Nat.le_of_ble_eq_true rfl) (fun g hg hr => ?_)
  unfold X11_becomes at h
  refine e_aload_n hg dX11_becomes_0 rfl ?_
  refine m_getR (q := 83) hg ciX11 0 lk_986 dX11_becomes_1 io_82 (Nat.le_of_ble_eq_true rfl) rfl rf_82_0 ?_
  refine e_iload_n hg dX11_becomes_4 rfl ?_
  obtain ⟨hi1, h⟩ := o_gd h
  refine m_iald hg sh_83 hi1 dX11_becomes_5 ?_
  refine e_istore_n (ls' := [some (.ref 82), some (.int a1), some (.int a2), some (.int (M.1 83 a1.toNatClampNeg)), none]) hg dX11_becomes_6 rfl ?_
  refine e_iload_n hg dX11_becomes_7 rfl ?_
  refine e_iload_n hg dX11_becomes_8 rfl ?_
  refine e_icmpne hg 14 dX11_becomes_9 (by decide) (fun c2 => ?_) (fun c2 => ?_)
  · have h := o_pos c2 h
    refine e_iload_n hg dX11_becomes_12 rfl ?_
    exact m_iret hg hr dX11_becomes_13 h
  · have h := o_neg c2 h
    refine e_aload_n hg dX11_becomes_14 rfl ?_
    refine m_getI hg ciX11 5 lk_991 dX11_becomes_15 io_82 (Nat.le_of_ble_eq_true rfl) rfl ?_
    refine e_bipush (v := 40) hg dX11_becomes_18 (by decide) ?_
    refine e_icmpne hg 97 dX11_becomes_20 (by decide) (fun c3 => ?_) (fun c3 => ?_)
    · have h := o_pos c3 h
      refine e_iconst (v := 1) hg dX11_becomes_23 (by decide) ?_
      refine e_istore (ls' := [some (.ref 82), some (.int a1), some (.int a2), some (.int (M.1 83 a1.toNatClampNeg)), some (.int 1)]) hg dX11_becomes_24 rfl ?_
      refine X11_becomes_L26_ok hg hr (fun x3 o4 M h => ?_) 10000 _ _ _ h
      refine e_aload_n hg dX11_becomes_87 rfl ?_
      refine e_dup hg dX11_becomes_88 rfl ?_
      refine m_getI hg ciX11 5 lk_991 dX11_becomes_89 io_82 (Nat.le_of_ble_eq_true rfl) rfl ?_
      refine e_iconst (v := 1) hg dX11_becomes_92 (by decide) ?_
      refine e_isub hg dX11_becomes_93 ?_
      obtain ⟨M14, hM14, h⟩ := o_lt h
      refine m_putI hg ciX11 5 lk_991 dX11_becomes_94 io_82 (Nat.le_of_ble_eq_true rfl) rfl rfl rfl rfl ?_
      rw [← hM14]
      exact X11_becomes_b97_ok hg hr  h
    · have h := o_neg c3 h
      exact X11_becomes_b97_ok hg hr  h

def X11_undo  (M : mm) : Option (Int32 × mm) :=
  if (M.1 82 5) = 0 then
    some ((-5), M)
  else
    lt_ (sA M 82 (upd (M.1 82) 5 ((M.1 82 5) - 1))) fun M2 =>
    gd (inb (M2.1 82 5) 40) <|
    gd (inb (M2.1 82 5) 40) <|
    gd (inb (M2.1 84 (M2.1 82 5).toNatClampNeg) 33) <|
    lt_ (sA M2 83 (upd (M2.1 83) (M2.1 84 (M2.1 82 5).toNatClampNeg).toNatClampNeg (M2.1 85 (M2.1 82 5).toNatClampNeg))) fun M6 =>
    some ((M6.1 82 5), M6)
set_option maxRecDepth 100000 in
set_option maxHeartbeats 4000000 in
theorem X11_undo_ok  {M : mm} {r : Int32 × mm} (h : X11_undo  M = some r) : CM yX11_undo cX11_undo 1 (some .int) 0 [.ref 82] (cells M) (some (.int r.1)) (cells r.2) := by
  refine cm_of (ls := [some (.ref 82)]) mfX11_undo rfl (Nat.le_of_ble_eq_true rfl) (fun g hg hr => ?_)
  unfold X11_undo at h
  refine e_aload_n hg dX11_undo_0 rfl ?_
  refine m_getI hg ciX11 5 lk_991 dX11_undo_1 io_82 (Nat.le_of_ble_eq_true rfl) rfl ?_
  refine e_ifne hg 10 dX11_undo_4 (by decide) (fun c1 => ?_) (fun c1 => ?_)
  · have h := o_pos c1 h
    refine e_bipush (v := -5) hg dX11_undo_7 (by decide) ?_
    exact m_iret hg hr dX11_undo_9 h
  · have h := o_neg c1 h
    refine e_aload_n hg dX11_undo_10 rfl ?_
    refine e_dup hg dX11_undo_11 rfl ?_
    refine m_getI hg ciX11 5 lk_991 dX11_undo_12 io_82 (Nat.le_of_ble_eq_true rfl) rfl ?_
    refine e_iconst (v := 1) hg dX11_undo_15 (by decide) ?_
    refine e_isub hg dX11_undo_16 ?_
    obtain ⟨M2, hM2, h⟩ := o_lt h
    refine m_putI hg ciX11 5 lk_991 dX11_undo_17 io_82 (Nat.le_of_ble_eq_true rfl) rfl rfl rfl rfl ?_
    rw [← hM2]
    refine e_aload_n hg dX11_undo_20 rfl ?_
    refine m_getR (q := 83) hg ciX11 0 lk_986 dX11_undo_21 io_82 (Nat.le_of_ble_eq_true rfl) rfl rf_82_0 ?_
    refine e_aload_n hg dX11_undo_24 rfl ?_
    refine m_getR (q := 84) hg ciX11 1 lk_987 dX11_undo_25 io_82 (Nat.le_of_ble_eq_true rfl) rfl rf_82_1 ?_
    refine e_aload_n hg dX11_undo_28 rfl ?_
    refine m_getI hg ciX11 5 lk_991 dX11_undo_29 io_82 (Nat.le_of_ble_eq_true rfl) rfl ?_
    obtain ⟨hi3, h⟩ := o_gd h
    refine m_iald hg sh_84 hi3 dX11_undo_32 ?_
    refine e_aload_n hg dX11_undo_33 rfl ?_
    refine m_getR (q := 85) hg ciX11 2 lk_988 dX11_undo_34 io_82 (Nat.le_of_ble_eq_true rfl) rfl rf_82_2 ?_
    refine e_aload_n hg dX11_undo_37 rfl ?_
    refine m_getI hg ciX11 5 lk_991 dX11_undo_38 io_82 (Nat.le_of_ble_eq_true rfl) rfl ?_
    obtain ⟨hi4, h⟩ := o_gd h
    refine m_iald hg sh_85 hi4 dX11_undo_41 ?_
    obtain ⟨hi5, h⟩ := o_gd h
    obtain ⟨M6, hM6, h⟩ := o_lt h
    refine m_iast hg sh_83 hi5 dX11_undo_42 ?_
    rw [← hM6]
    refine e_aload_n hg dX11_undo_43 rfl ?_
    refine m_getI hg ciX11 5 lk_991 dX11_undo_44 io_82 (Nat.le_of_ble_eq_true rfl) rfl ?_
    exact m_iret hg hr dX11_undo_47 h

def X11_redo  (M : mm) : Option (Int32 × mm) :=
  if (M.1 82 5) = (M.1 82 4) then
    some ((-5), M)
  else
    gd (inb (M.1 82 5) 40) <|
    gd (inb (M.1 82 5) 40) <|
    gd (inb (M.1 84 (M.1 82 5).toNatClampNeg) 33) <|
    lt_ (sA M 83 (upd (M.1 83) (M.1 84 (M.1 82 5).toNatClampNeg).toNatClampNeg (M.1 86 (M.1 82 5).toNatClampNeg))) fun M5 =>
    lt_ (sA M5 82 (upd (M5.1 82) 5 ((M5.1 82 5) + 1))) fun M6 =>
    some (((M6.1 82 4) - (M6.1 82 5)), M6)
set_option maxRecDepth 100000 in
set_option maxHeartbeats 4000000 in
theorem X11_redo_ok  {M : mm} {r : Int32 × mm} (h : X11_redo  M = some r) : CM yX11_redo cX11_redo 1 (some .int) 0 [.ref 82] (cells M) (some (.int r.1)) (cells r.2) := by
  refine cm_of (ls := [some (.ref 82)]) mfX11_redo rfl (Nat.le_of_ble_eq_true rfl) (fun g hg hr => ?_)
  unfold X11_redo at h
  refine e_aload_n hg dX11_redo_0 rfl ?_
  refine m_getI hg ciX11 5 lk_991 dX11_redo_1 io_82 (Nat.le_of_ble_eq_true rfl) rfl ?_
  refine e_aload_n hg dX11_redo_4 rfl ?_
  refine m_getI hg ciX11 4 lk_990 dX11_redo_5 io_82 (Nat.le_of_ble_eq_true rfl) rfl ?_
  refine e_icmpne hg 14 dX11_redo_8 (by decide) (fun c1 => ?_) (fun c1 => ?_)
  · have h := o_pos c1 h
    refine e_bipush (v := -5) hg dX11_redo_11 (by decide) ?_
    exact m_iret hg hr dX11_redo_13 h
  · have h := o_neg c1 h
    refine e_aload_n hg dX11_redo_14 rfl ?_
    refine m_getR (q := 83) hg ciX11 0 lk_986 dX11_redo_15 io_82 (Nat.le_of_ble_eq_true rfl) rfl rf_82_0 ?_
    refine e_aload_n hg dX11_redo_18 rfl ?_
    refine m_getR (q := 84) hg ciX11 1 lk_987 dX11_redo_19 io_82 (Nat.le_of_ble_eq_true rfl) rfl rf_82_1 ?_
    refine e_aload_n hg dX11_redo_22 rfl ?_
    refine m_getI hg ciX11 5 lk_991 dX11_redo_23 io_82 (Nat.le_of_ble_eq_true rfl) rfl ?_
    obtain ⟨hi2, h⟩ := o_gd h
    refine m_iald hg sh_84 hi2 dX11_redo_26 ?_
    refine e_aload_n hg dX11_redo_27 rfl ?_
    refine m_getR (q := 86) hg ciX11 3 lk_989 dX11_redo_28 io_82 (Nat.le_of_ble_eq_true rfl) rfl rf_82_3 ?_
    refine e_aload_n hg dX11_redo_31 rfl ?_
    refine m_getI hg ciX11 5 lk_991 dX11_redo_32 io_82 (Nat.le_of_ble_eq_true rfl) rfl ?_
    obtain ⟨hi3, h⟩ := o_gd h
    refine m_iald hg sh_86 hi3 dX11_redo_35 ?_
    obtain ⟨hi4, h⟩ := o_gd h
    obtain ⟨M5, hM5, h⟩ := o_lt h
    refine m_iast hg sh_83 hi4 dX11_redo_36 ?_
    rw [← hM5]
    refine e_aload_n hg dX11_redo_37 rfl ?_
    refine e_dup hg dX11_redo_38 rfl ?_
    refine m_getI hg ciX11 5 lk_991 dX11_redo_39 io_82 (Nat.le_of_ble_eq_true rfl) rfl ?_
    refine e_iconst (v := 1) hg dX11_redo_42 (by decide) ?_
    refine e_iadd hg dX11_redo_43 ?_
    obtain ⟨M6, hM6, h⟩ := o_lt h
    refine m_putI hg ciX11 5 lk_991 dX11_redo_44 io_82 (Nat.le_of_ble_eq_true rfl) rfl rfl rfl rfl ?_
    rw [← hM6]
    refine e_aload_n hg dX11_redo_47 rfl ?_
    refine m_getI hg ciX11 4 lk_990 dX11_redo_48 io_82 (Nat.le_of_ble_eq_true rfl) rfl ?_
    refine e_aload_n hg dX11_redo_51 rfl ?_
    refine m_getI hg ciX11 5 lk_991 dX11_redo_52 io_82 (Nat.le_of_ble_eq_true rfl) rfl ?_
    refine e_isub hg dX11_redo_55 ?_
    exact m_iret hg hr dX11_redo_56 h

def X11_isPerson (a1 : Int32) (M : mm) : Option (Int32 × mm) :=
  bd (X11_within (a1.toInt64) 0 (((M.1 82 6) - 1).toInt64) M) fun v1 M2 =>
  gd (decide (v1 = 0 ∨ v1 = 1)) <|
  some (v1, M2)
set_option maxRecDepth 100000 in
set_option maxHeartbeats 4000000 in
theorem X11_isPerson_ok {a1 : Int32} {M : mm} {r : Int32 × mm} (h : X11_isPerson a1 M = some r) : CM yX11_isPerson cX11_isPerson 2 (some .boolean) 1 [.ref 82, .int a1] (cells M) (some (.int r.1)) (cells r.2) := by
  refine cm_of (ls := [some (.ref 82), some (.int a1)]) mfX11_isPerson rfl (Nat.le_of_ble_eq_true rfl) (fun g hg hr => ?_)
  unfold X11_isPerson at h
  refine e_iload_n hg dX11_isPerson_0 rfl ?_
  refine e_i2l hg dX11_isPerson_1 ?_
  refine e_lconst (v := 0) hg dX11_isPerson_2 (by decide) ?_
  refine e_aload_n hg dX11_isPerson_3 rfl ?_
  refine m_getI hg ciX11 6 lk_992 dX11_isPerson_4 io_82 (Nat.le_of_ble_eq_true rfl) rfl ?_
  refine e_iconst (v := 1) hg dX11_isPerson_7 (by decide) ?_
  refine e_isub hg dX11_isPerson_8 ?_
  refine e_i2l hg dX11_isPerson_9 ?_
  obtain ⟨v1, M2, hc3, h⟩ := o_bd h
  refine m_callSI (rest := []) (v := v1) (M' := M2) hg mfX11_within mvX11_within (X11_within_ok (r := (v1, M2)) hc3) lk_1190 dX11_isPerson_10 rfl rfl (by omega) (Nat.le_of_ble_eq_true rfl) ?_
  obtain ⟨hb4, h⟩ := o_gd h
  exact m_zret hg hr (nb_of (of_decide_eq_true hb4)) dX11_isPerson_13 h

def X11_isThing (a1 : Int32) (M : mm) : Option (Int32 × mm) :=
  bd (X11_within (a1.toInt64) 0 (((M.1 82 7) - 1).toInt64) M) fun v1 M2 =>
  gd (decide (v1 = 0 ∨ v1 = 1)) <|
  some (v1, M2)
set_option maxRecDepth 100000 in
set_option maxHeartbeats 4000000 in
theorem X11_isThing_ok {a1 : Int32} {M : mm} {r : Int32 × mm} (h : X11_isThing a1 M = some r) : CM yX11_isThing cX11_isThing 2 (some .boolean) 1 [.ref 82, .int a1] (cells M) (some (.int r.1)) (cells r.2) := by
  refine cm_of (ls := [some (.ref 82), some (.int a1)]) mfX11_isThing rfl (Nat.le_of_ble_eq_true rfl) (fun g hg hr => ?_)
  unfold X11_isThing at h
  refine e_iload_n hg dX11_isThing_0 rfl ?_
  refine e_i2l hg dX11_isThing_1 ?_
  refine e_lconst (v := 0) hg dX11_isThing_2 (by decide) ?_
  refine e_aload_n hg dX11_isThing_3 rfl ?_
  refine m_getI hg ciX11 7 lk_993 dX11_isThing_4 io_82 (Nat.le_of_ble_eq_true rfl) rfl ?_
  refine e_iconst (v := 1) hg dX11_isThing_7 (by decide) ?_
  refine e_isub hg dX11_isThing_8 ?_
  refine e_i2l hg dX11_isThing_9 ?_
  obtain ⟨v1, M2, hc3, h⟩ := o_bd h
  refine m_callSI (rest := []) (v := v1) (M' := M2) hg mfX11_within mvX11_within (X11_within_ok (r := (v1, M2)) hc3) lk_1190 dX11_isThing_10 rfl rfl (by omega) (Nat.le_of_ble_eq_true rfl) ?_
  obtain ⟨hb4, h⟩ := o_gd h
  exact m_zret hg hr (nb_of (of_decide_eq_true hb4)) dX11_isThing_13 h

def X11_person (a1 : Int32) (a2 : Int32) (M : mm) : Option (Int32 × mm) :=
  bd (X11_within (a1.toInt64) 1 3 M) fun v1 M2 =>
  if v1 = 0 then
    some ((-1), M2)
  else
    bd (X11_within (a2.toInt64) 0 99 M2) fun v5 M6 =>
    if v5 = 0 then
      some ((-1), M6)
    else
      if (M6.1 82 6) = 5 then
        some ((-3), M6)
      else
        gd (inb (M6.1 82 6) 33) <|
        lt_ (sA M6 83 (upd (M6.1 83) (M6.1 82 6).toNatClampNeg a1)) fun M11 =>
        gd (inb (5 + (M11.1 82 6)) 33) <|
        lt_ (sA M11 83 (upd (M11.1 83) (5 + (M11.1 82 6)).toNatClampNeg a2)) fun M13 =>
        gd (inb (10 + (M13.1 82 6)) 33) <|
        lt_ (sA M13 83 (upd (M13.1 83) (10 + (M13.1 82 6)).toNatClampNeg 0)) fun M15 =>
        lt_ (sA M15 82 (upd (M15.1 82) 6 ((M15.1 82 6) + 1))) fun M16 =>
        some (((M16.1 82 6) - 1), M16)
set_option maxRecDepth 100000 in
set_option maxHeartbeats 4000000 in
theorem X11_person_ok {a1 : Int32} {a2 : Int32} {M : mm} {r : Int32 × mm} (h : X11_person a1 a2 M = some r) : CM yX11_person cX11_person 3 (some .int) 1 [.ref 82, .int a1, .int a2] (cells M) (some (.int r.1)) (cells r.2) := by
  refine cm_of (ls := [some (.ref 82), some (.int a1), some (.int a2)]) mfX11_person rfl (Nat.le_of_ble_eq_true rfl) (fun g hg hr => ?_)
  unfold X11_person at h
  refine e_iload_n hg dX11_person_0 rfl ?_
  refine e_i2l hg dX11_person_1 ?_
  refine e_lconst (v := 1) hg dX11_person_2 (by decide) ?_
  refine e_ldc2 hg dX11_person_3 lk_1189 ?_
  obtain ⟨v1, M2, hc3, h⟩ := o_bd h
  refine m_callSI (rest := []) (v := v1) (M' := M2) hg mfX11_within mvX11_within (X11_within_ok (r := (v1, M2)) hc3) lk_1190 dX11_person_6 rfl rfl (by omega) (Nat.le_of_ble_eq_true rfl) ?_
  refine e_ifeq hg 24 dX11_person_9 (by decide) (fun c4 => ?_) (fun c4 => ?_)
  · have h := o_pos c4 h
    refine e_iconst (v := -1) hg dX11_person_24 (by decide) ?_
    exact m_iret hg hr dX11_person_25 h
  · have h := o_neg c4 h
    refine e_iload_n hg dX11_person_12 rfl ?_
    refine e_i2l hg dX11_person_13 ?_
    refine e_lconst (v := 0) hg dX11_person_14 (by decide) ?_
    refine e_ldc2 hg dX11_person_15 lk_1193 ?_
    obtain ⟨v5, M6, hc7, h⟩ := o_bd h
    refine m_callSI (rest := []) (v := v5) (M' := M6) hg mfX11_within mvX11_within (X11_within_ok (r := (v5, M6)) hc7) lk_1190 dX11_person_18 rfl rfl (by omega) (Nat.le_of_ble_eq_true rfl) ?_
    refine e_ifne hg 26 dX11_person_21 (by decide) (fun c8 => ?_) (fun c8 => ?_)
    · have h := o_pos c8 h
      refine e_iconst (v := -1) hg dX11_person_24 (by decide) ?_
      exact m_iret hg hr dX11_person_25 h
    · have h := o_neg c8 h
      refine e_aload_n hg dX11_person_26 rfl ?_
      refine m_getI hg ciX11 6 lk_992 dX11_person_27 io_82 (Nat.le_of_ble_eq_true rfl) rfl ?_
      refine e_iconst (v := 5) hg dX11_person_30 (by decide) ?_
      refine e_icmpne hg 37 dX11_person_31 (by decide) (fun c9 => ?_) (fun c9 => ?_)
      · have h := o_pos c9 h
        refine e_bipush (v := -3) hg dX11_person_34 (by decide) ?_
        exact m_iret hg hr dX11_person_36 h
      · have h := o_neg c9 h
        refine e_aload_n hg dX11_person_37 rfl ?_
        refine m_getR (q := 83) hg ciX11 0 lk_986 dX11_person_38 io_82 (Nat.le_of_ble_eq_true rfl) rfl rf_82_0 ?_
        refine e_aload_n hg dX11_person_41 rfl ?_
        refine m_getI hg ciX11 6 lk_992 dX11_person_42 io_82 (Nat.le_of_ble_eq_true rfl) rfl ?_
        refine e_iload_n hg dX11_person_45 rfl ?_
        obtain ⟨hi10, h⟩ := o_gd h
        obtain ⟨M11, hM11, h⟩ := o_lt h
        refine m_iast hg sh_83 hi10 dX11_person_46 ?_
        rw [← hM11]
        refine e_aload_n hg dX11_person_47 rfl ?_
        refine m_getR (q := 83) hg ciX11 0 lk_986 dX11_person_48 io_82 (Nat.le_of_ble_eq_true rfl) rfl rf_82_0 ?_
        refine e_iconst (v := 5) hg dX11_person_51 (by decide) ?_
        refine e_aload_n hg dX11_person_52 rfl ?_
        refine m_getI hg ciX11 6 lk_992 dX11_person_53 io_82 (Nat.le_of_ble_eq_true rfl) rfl ?_
        refine e_iadd hg dX11_person_56 ?_
        refine e_iload_n hg dX11_person_57 rfl ?_
        obtain ⟨hi12, h⟩ := o_gd h
        obtain ⟨M13, hM13, h⟩ := o_lt h
        refine m_iast hg sh_83 hi12 dX11_person_58 ?_
        rw [← hM13]
        refine e_aload_n hg dX11_person_59 rfl ?_
        refine m_getR (q := 83) hg ciX11 0 lk_986 dX11_person_60 io_82 (Nat.le_of_ble_eq_true rfl) rfl rf_82_0 ?_
        refine e_bipush (v := 10) hg dX11_person_63 (by decide) ?_
        refine e_aload_n hg dX11_person_65 rfl ?_
        refine m_getI hg ciX11 6 lk_992 dX11_person_66 io_82 (Nat.le_of_ble_eq_true rfl) rfl ?_
        refine e_iadd hg dX11_person_69 ?_
        refine e_iconst (v := 0) hg dX11_person_70 (by decide) ?_
        obtain ⟨hi14, h⟩ := o_gd h
        obtain ⟨M15, hM15, h⟩ := o_lt h
        refine m_iast hg sh_83 hi14 dX11_person_71 ?_
        rw [← hM15]
        refine e_aload_n hg dX11_person_72 rfl ?_
        refine e_dup hg dX11_person_73 rfl ?_
        refine m_getI hg ciX11 6 lk_992 dX11_person_74 io_82 (Nat.le_of_ble_eq_true rfl) rfl ?_
        refine e_iconst (v := 1) hg dX11_person_77 (by decide) ?_
        refine e_iadd hg dX11_person_78 ?_
        obtain ⟨M16, hM16, h⟩ := o_lt h
        refine m_putI hg ciX11 6 lk_992 dX11_person_79 io_82 (Nat.le_of_ble_eq_true rfl) rfl rfl rfl rfl ?_
        rw [← hM16]
        refine e_aload_n hg dX11_person_82 rfl ?_
        refine m_getI hg ciX11 6 lk_992 dX11_person_83 io_82 (Nat.le_of_ble_eq_true rfl) rfl ?_
        refine e_iconst (v := 1) hg dX11_person_86 (by decide) ?_
        refine e_isub hg dX11_person_87 ?_
        exact m_iret hg hr dX11_person_88 h

def X11_isOne (a1 : Int64) (a3 : Int64) (a5 : Int64) (M : mm) : Option (Int32 × mm) :=
  bd (X11_within a1 0 (((M.1 82 6) - 1).toInt64) M) fun v1 M2 =>
  if v1 = 0 then
    some (0, M2)
  else
    bd (X11_within a3 0 99 M2) fun v5 M6 =>
    if v5 = 0 then
      some (0, M6)
    else
      bd (X11_within a5 0 99 M6) fun v9 M10 =>
      if v9 = 0 then
        some (0, M10)
      else
        some (1, M10)
set_option maxRecDepth 100000 in
set_option maxHeartbeats 4000000 in
theorem X11_isOne_ok {a1 : Int64} {a3 : Int64} {a5 : Int64} {M : mm} {r : Int32 × mm} (h : X11_isOne a1 a3 a5 M = some r) : CM yX11_isOne cX11_isOne 7 (some .boolean) 1 [.ref 82, .long a1, .long a3, .long a5] (cells M) (some (.int r.1)) (cells r.2) := by
  refine cm_of (ls := [some (.ref 82), some (.long a1), none, some (.long a3), none, some (.long a5), none]) mfX11_isOne rfl (Nat.le_of_ble_eq_true rfl) (fun g hg hr => ?_)
  unfold X11_isOne at h
  refine e_lload_n hg dX11_isOne_0 rfl ?_
  refine e_lconst (v := 0) hg dX11_isOne_1 (by decide) ?_
  refine e_aload_n hg dX11_isOne_2 rfl ?_
  refine m_getI hg ciX11 6 lk_992 dX11_isOne_3 io_82 (Nat.le_of_ble_eq_true rfl) rfl ?_
  refine e_iconst (v := 1) hg dX11_isOne_6 (by decide) ?_
  refine e_isub hg dX11_isOne_7 ?_
  refine e_i2l hg dX11_isOne_8 ?_
  obtain ⟨v1, M2, hc3, h⟩ := o_bd h
  refine m_callSI (rest := []) (v := v1) (M' := M2) hg mfX11_within mvX11_within (X11_within_ok (r := (v1, M2)) hc3) lk_1190 dX11_isOne_9 rfl rfl (by omega) (Nat.le_of_ble_eq_true rfl) ?_
  refine e_ifeq hg 42 dX11_isOne_12 (by decide) (fun c4 => ?_) (fun c4 => ?_)
  · have h := o_pos c4 h
    refine e_iconst (v := 0) hg dX11_isOne_42 (by decide) ?_
    exact m_zret hg hr rfl dX11_isOne_43 h
  · have h := o_neg c4 h
    refine e_lload_n hg dX11_isOne_15 rfl ?_
    refine e_lconst (v := 0) hg dX11_isOne_16 (by decide) ?_
    refine e_ldc2 hg dX11_isOne_17 lk_1193 ?_
    obtain ⟨v5, M6, hc7, h⟩ := o_bd h
    refine m_callSI (rest := []) (v := v5) (M' := M6) hg mfX11_within mvX11_within (X11_within_ok (r := (v5, M6)) hc7) lk_1190 dX11_isOne_20 rfl rfl (by omega) (Nat.le_of_ble_eq_true rfl) ?_
    refine e_ifeq hg 42 dX11_isOne_23 (by decide) (fun c8 => ?_) (fun c8 => ?_)
    · have h := o_pos c8 h
      refine e_iconst (v := 0) hg dX11_isOne_42 (by decide) ?_
      exact m_zret hg hr rfl dX11_isOne_43 h
    · have h := o_neg c8 h
      refine e_lload hg dX11_isOne_26 rfl ?_
      refine e_lconst (v := 0) hg dX11_isOne_28 (by decide) ?_
      refine e_ldc2 hg dX11_isOne_29 lk_1193 ?_
      obtain ⟨v9, M10, hc11, h⟩ := o_bd h
      refine m_callSI (rest := []) (v := v9) (M' := M10) hg mfX11_within mvX11_within (X11_within_ok (r := (v9, M10)) hc11) lk_1190 dX11_isOne_32 rfl rfl (by omega) (Nat.le_of_ble_eq_true rfl) ?_
      refine e_ifeq hg 42 dX11_isOne_35 (by decide) (fun c12 => ?_) (fun c12 => ?_)
      · have h := o_pos c12 h
        refine e_iconst (v := 0) hg dX11_isOne_42 (by decide) ?_
        exact m_zret hg hr rfl dX11_isOne_43 h
      · have h := o_neg c12 h
        refine e_iconst (v := 1) hg dX11_isOne_38 (by decide) ?_
        refine e_goto hg 43 dX11_isOne_39 (by decide) ?_
        exact m_zret hg hr rfl dX11_isOne_43 h

def X11_adds (a1 : Int32) (a2 : Int32) (a3 : Int32) (M : mm) : Option (Unit × mm) :=
  gd (inb (M.1 82 7) 6) <|
  lt_ (sA M 90 (upd (M.1 90) (M.1 82 7).toNatClampNeg a1)) fun M2 =>
  gd (inb (15 + (M.1 82 7)) 33) <|
  lt_ (sA M2 83 (upd (M2.1 83) (15 + (M.1 82 7)).toNatClampNeg a2)) fun M4 =>
  gd (inb (21 + (M.1 82 7)) 33) <|
  lt_ (sA M4 83 (upd (M4.1 83) (21 + (M.1 82 7)).toNatClampNeg a3)) fun M6 =>
  gd (inb (27 + (M.1 82 7)) 33) <|
  lt_ (sA M6 83 (upd (M6.1 83) (27 + (M.1 82 7)).toNatClampNeg (M.1 82 7))) fun M8 =>
  gd (inb (M.1 82 7) 6) <|
  lt_ (sA M8 91 (upd (M8.1 91) (M.1 82 7).toNatClampNeg 3)) fun M10 =>
  gd (inb (M.1 82 7) 6) <|
  lt_ (sA M10 92 (upd (M10.1 92) (M.1 82 7).toNatClampNeg (-2))) fun M12 =>
  gd (inb (M.1 82 7) 6) <|
  lt_ (sA M12 93 (upd (M12.1 93) (M.1 82 7).toNatClampNeg (-2))) fun M14 =>
  gd (inb (M.1 82 7) 6) <|
  lt_ (sA M14 94 (upd (M14.1 94) (M.1 82 7).toNatClampNeg 0)) fun M16 =>
  gd (inb (M.1 82 7) 6) <|
  lt_ (sA M16 96 (upd (M16.1 96) (M.1 82 7).toNatClampNeg 0)) fun M18 =>
  gd (inb (M.1 82 7) 6) <|
  lt_ (sA M18 97 (upd (M18.1 97) (M.1 82 7).toNatClampNeg (-5))) fun M20 =>
  lt_ (sA M20 82 (upd (M20.1 82) 7 ((M20.1 82 7) + 1))) fun M21 =>
  some ((), M21)
set_option maxRecDepth 100000 in
set_option maxHeartbeats 4000000 in
theorem X11_adds_ok {a1 : Int32} {a2 : Int32} {a3 : Int32} {M : mm} {r : Unit × mm} (h : X11_adds a1 a2 a3 M = some r) : CM yX11_adds cX11_adds 5 (none) 0 [.ref 82, .int a1, .int a2, .int a3] (cells M) none (cells r.2) := by
  refine cm_of (ls := [some (.ref 82), some (.int a1), some (.int a2), some (.int a3), none]) mfX11_adds rfl (Nat.le_of_ble_eq_true rfl) (fun g hg hr => ?_)
  unfold X11_adds at h
  refine e_aload_n hg dX11_adds_0 rfl ?_
  refine m_getI hg ciX11 7 lk_993 dX11_adds_1 io_82 (Nat.le_of_ble_eq_true rfl) rfl ?_
  refine e_istore (ls' := [some (.ref 82), some (.int a1), some (.int a2), some (.int a3), some (.int (M.1 82 7))]) hg dX11_adds_4 rfl ?_
  refine e_aload_n hg dX11_adds_6 rfl ?_
  refine m_getR (q := 90) hg ciX11 11 lk_997 dX11_adds_7 io_82 (Nat.le_of_ble_eq_true rfl) rfl rf_82_11 ?_
  refine e_iload hg dX11_adds_10 rfl ?_
  refine e_iload_n hg dX11_adds_12 rfl ?_
  obtain ⟨hi1, h⟩ := o_gd h
  obtain ⟨M2, hM2, h⟩ := o_lt h
  refine m_iast hg sh_90 hi1 dX11_adds_13 ?_
  rw [← hM2]
  refine e_aload_n hg dX11_adds_14 rfl ?_
  refine m_getR (q := 83) hg ciX11 0 lk_986 dX11_adds_15 io_82 (Nat.le_of_ble_eq_true rfl) rfl rf_82_0 ?_
  refine e_bipush (v := 15) hg dX11_adds_18 (by decide) ?_
  refine e_iload hg dX11_adds_20 rfl ?_
  refine e_iadd hg dX11_adds_22 ?_
  refine e_iload_n hg dX11_adds_23 rfl ?_
  obtain ⟨hi3, h⟩ := o_gd h
  obtain ⟨M4, hM4, h⟩ := o_lt h
  refine m_iast hg sh_83 hi3 dX11_adds_24 ?_
  rw [← hM4]
  refine e_aload_n hg dX11_adds_25 rfl ?_
  refine m_getR (q := 83) hg ciX11 0 lk_986 dX11_adds_26 io_82 (Nat.le_of_ble_eq_true rfl) rfl rf_82_0 ?_
  refine e_bipush (v := 21) hg dX11_adds_29 (by decide) ?_
  refine e_iload hg dX11_adds_31 rfl ?_
  refine e_iadd hg dX11_adds_33 ?_
  refine e_iload_n hg dX11_adds_34 rfl ?_
  obtain ⟨hi5, h⟩ := o_gd h
  obtain ⟨M6, hM6, h⟩ := o_lt h
  refine m_iast hg sh_83 hi5 dX11_adds_35 ?_
  rw [← hM6]
  refine e_aload_n hg dX11_adds_36 rfl ?_
  refine m_getR (q := 83) hg ciX11 0 lk_986 dX11_adds_37 io_82 (Nat.le_of_ble_eq_true rfl) rfl rf_82_0 ?_
  refine e_bipush (v := 27) hg dX11_adds_40 (by decide) ?_
  refine e_iload hg dX11_adds_42 rfl ?_
  refine e_iadd hg dX11_adds_44 ?_
  refine e_iload hg dX11_adds_45 rfl ?_
  obtain ⟨hi7, h⟩ := o_gd h
  obtain ⟨M8, hM8, h⟩ := o_lt h
  refine m_iast hg sh_83 hi7 dX11_adds_47 ?_
  rw [← hM8]
  refine e_aload_n hg dX11_adds_48 rfl ?_
  refine m_getR (q := 91) hg ciX11 12 lk_998 dX11_adds_49 io_82 (Nat.le_of_ble_eq_true rfl) rfl rf_82_12 ?_
  refine e_iload hg dX11_adds_52 rfl ?_
  refine e_iconst (v := 3) hg dX11_adds_54 (by decide) ?_
  obtain ⟨hi9, h⟩ := o_gd h
  obtain ⟨M10, hM10, h⟩ := o_lt h
  refine m_iast hg sh_91 hi9 dX11_adds_55 ?_
  rw [← hM10]
  refine e_aload_n hg dX11_adds_56 rfl ?_
  refine m_getR (q := 92) hg ciX11 13 lk_999 dX11_adds_57 io_82 (Nat.le_of_ble_eq_true rfl) rfl rf_82_13 ?_
  refine e_iload hg dX11_adds_60 rfl ?_
  refine e_bipush (v := -2) hg dX11_adds_62 (by decide) ?_
  obtain ⟨hi11, h⟩ := o_gd h
  obtain ⟨M12, hM12, h⟩ := o_lt h
  refine m_iast hg sh_92 hi11 dX11_adds_64 ?_
  rw [← hM12]
  refine e_aload_n hg dX11_adds_65 rfl ?_
  refine m_getR (q := 93) hg ciX11 14 lk_1000 dX11_adds_66 io_82 (Nat.le_of_ble_eq_true rfl) rfl rf_82_14 ?_
  refine e_iload hg dX11_adds_69 rfl ?_
  refine e_bipush (v := -2) hg dX11_adds_71 (by decide) ?_
  obtain ⟨hi13, h⟩ := o_gd h
  obtain ⟨M14, hM14, h⟩ := o_lt h
  refine m_iast hg sh_93 hi13 dX11_adds_73 ?_
  rw [← hM14]
  refine e_aload_n hg dX11_adds_74 rfl ?_
  refine m_getR (q := 94) hg ciX11 15 lk_1001 dX11_adds_75 io_82 (Nat.le_of_ble_eq_true rfl) rfl rf_82_15 ?_
  refine e_iload hg dX11_adds_78 rfl ?_
  refine e_iconst (v := 0) hg dX11_adds_80 (by decide) ?_
  obtain ⟨hi15, h⟩ := o_gd h
  obtain ⟨M16, hM16, h⟩ := o_lt h
  refine m_iast hg sh_94 hi15 dX11_adds_81 ?_
  rw [← hM16]
  refine e_aload_n hg dX11_adds_82 rfl ?_
  refine m_getR (q := 96) hg ciX11 17 lk_1003 dX11_adds_83 io_82 (Nat.le_of_ble_eq_true rfl) rfl rf_82_17 ?_
  refine e_iload hg dX11_adds_86 rfl ?_
  refine e_iconst (v := 0) hg dX11_adds_88 (by decide) ?_
  obtain ⟨hi17, h⟩ := o_gd h
  obtain ⟨M18, hM18, h⟩ := o_lt h
  refine m_iast hg sh_96 hi17 dX11_adds_89 ?_
  rw [← hM18]
  refine e_aload_n hg dX11_adds_90 rfl ?_
  refine m_getR (q := 97) hg ciX11 18 lk_1004 dX11_adds_91 io_82 (Nat.le_of_ble_eq_true rfl) rfl rf_82_18 ?_
  refine e_iload hg dX11_adds_94 rfl ?_
  refine e_bipush (v := -5) hg dX11_adds_96 (by decide) ?_
  obtain ⟨hi19, h⟩ := o_gd h
  obtain ⟨M20, hM20, h⟩ := o_lt h
  refine m_iast hg sh_97 hi19 dX11_adds_98 ?_
  rw [← hM20]
  refine e_aload_n hg dX11_adds_99 rfl ?_
  refine e_dup hg dX11_adds_100 rfl ?_
  refine m_getI hg ciX11 7 lk_993 dX11_adds_101 io_82 (Nat.le_of_ble_eq_true rfl) rfl ?_
  refine e_iconst (v := 1) hg dX11_adds_104 (by decide) ?_
  refine e_iadd hg dX11_adds_105 ?_
  obtain ⟨M21, hM21, h⟩ := o_lt h
  refine m_putI hg ciX11 7 lk_993 dX11_adds_106 io_82 (Nat.le_of_ble_eq_true rfl) rfl rfl rfl rfl ?_
  rw [← hM21]
  exact m_vret hg hr dX11_adds_109 h

def X11_thing (a1 : Int32) (a2 : Int32) (M : mm) : Option (Int32 × mm) :=
  if a2 < 0 then
    some ((-1), M)
  else
    bd (X11_isOne (a1.toInt64) ((a2 / 100).toInt64) ((a2 - a2 / 100 * 100).toInt64) M) fun v2 M3 =>
    if v2 = 0 then
      some ((-1), M3)
    else
      if (M3.1 82 7) = 6 then
        some ((-3), M3)
      else
        bd (X11_adds a1 (a2 / 100) (a2 - a2 / 100 * 100) M3) fun u7 M8 =>
        some (((M8.1 82 7) - 1), M8)
set_option maxRecDepth 100000 in
set_option maxHeartbeats 4000000 in
theorem X11_thing_ok {a1 : Int32} {a2 : Int32} {M : mm} {r : Int32 × mm} (h : X11_thing a1 a2 M = some r) : CM yX11_thing cX11_thing 3 (some .int) 2 [.ref 82, .int a1, .int a2] (cells M) (some (.int r.1)) (cells r.2) := by
  refine cm_of (ls := [some (.ref 82), some (.int a1), some (.int a2)]) mfX11_thing rfl (Nat.le_of_ble_eq_true rfl) (fun g hg hr => ?_)
  unfold X11_thing at h
  refine e_iload_n hg dX11_thing_0 rfl ?_
  refine e_iflt hg 23 dX11_thing_1 (by decide) (fun c1 => ?_) (fun c1 => ?_)
  · have h := o_pos c1 h
    refine e_iconst (v := -1) hg dX11_thing_23 (by decide) ?_
    exact m_iret hg hr dX11_thing_24 h
  · have h := o_neg c1 h
    refine e_aload_n hg dX11_thing_4 rfl ?_
    refine e_iload_n hg dX11_thing_5 rfl ?_
    refine e_i2l hg dX11_thing_6 ?_
    refine e_iload_n hg dX11_thing_7 rfl ?_
    refine e_bipush (v := 100) hg dX11_thing_8 (by decide) ?_
    refine e_idiv hg dX11_thing_10 (by decide) ?_
    refine e_i2l hg dX11_thing_11 ?_
    refine e_iload_n hg dX11_thing_12 rfl ?_
    refine e_bipush (v := 100) hg dX11_thing_13 (by decide) ?_
    refine e_irem hg dX11_thing_15 (by decide) ?_
    refine e_i2l hg dX11_thing_16 ?_
    obtain ⟨v2, M3, hc4, h⟩ := o_bd h
    refine m_callVI (rest := []) (v := v2) (M' := M3) (ci := 11) hg mfX11_isOne mvX11_isOne (X11_isOne_ok (r := (v2, M3)) hc4) lk_1198 dX11_thing_17 io_82 rfl rfl rfl (by omega) (Nat.le_of_ble_eq_true rfl) ?_
    refine e_ifne hg 25 dX11_thing_20 (by decide) (fun c5 => ?_) (fun c5 => ?_)
    · have h := o_pos c5 h
      refine e_iconst (v := -1) hg dX11_thing_23 (by decide) ?_
      exact m_iret hg hr dX11_thing_24 h
    · have h := o_neg c5 h
      refine e_aload_n hg dX11_thing_25 rfl ?_
      refine m_getI hg ciX11 7 lk_993 dX11_thing_26 io_82 (Nat.le_of_ble_eq_true rfl) rfl ?_
      refine e_bipush (v := 6) hg dX11_thing_29 (by decide) ?_
      refine e_icmpne hg 37 dX11_thing_31 (by decide) (fun c6 => ?_) (fun c6 => ?_)
      · have h := o_pos c6 h
        refine e_bipush (v := -3) hg dX11_thing_34 (by decide) ?_
        exact m_iret hg hr dX11_thing_36 h
      · have h := o_neg c6 h
        refine e_aload_n hg dX11_thing_37 rfl ?_
        refine e_iload_n hg dX11_thing_38 rfl ?_
        refine e_iload_n hg dX11_thing_39 rfl ?_
        refine e_bipush (v := 100) hg dX11_thing_40 (by decide) ?_
        refine e_idiv hg dX11_thing_42 (by decide) ?_
        refine e_iload_n hg dX11_thing_43 rfl ?_
        refine e_bipush (v := 100) hg dX11_thing_44 (by decide) ?_
        refine e_irem hg dX11_thing_46 (by decide) ?_
        obtain ⟨u7, M8, hc9, h⟩ := o_bd h
        refine m_callVV (rest := []) (M' := M8) (ci := 11) hg mfX11_adds mvX11_adds (X11_adds_ok (r := (u7, M8)) hc9) lk_1202 dX11_thing_47 io_82 rfl rfl rfl (by omega) (Nat.le_of_ble_eq_true rfl) ?_
        refine e_aload_n hg dX11_thing_50 rfl ?_
        refine m_getI hg ciX11 7 lk_993 dX11_thing_51 io_82 (Nat.le_of_ble_eq_true rfl) rfl ?_
        refine e_iconst (v := 1) hg dX11_thing_54 (by decide) ?_
        refine e_isub hg dX11_thing_55 ?_
        exact m_iret hg hr dX11_thing_56 h

def X11_isShelf (a0 : Int32) (M : mm) : Option (Int32 × mm) :=
  bd (X11_within (a0.toInt64) 0 5 M) fun v1 M2 =>
  gd (decide (v1 = 0 ∨ v1 = 1)) <|
  some (v1, M2)
set_option maxRecDepth 100000 in
set_option maxHeartbeats 4000000 in
theorem X11_isShelf_ok {a0 : Int32} {M : mm} {r : Int32 × mm} (h : X11_isShelf a0 M = some r) : CM yX11_isShelf cX11_isShelf 1 (some .boolean) 1 [.int a0] (cells M) (some (.int r.1)) (cells r.2) := by
  refine cm_of (ls := [some (.int a0)]) mfX11_isShelf rfl (Nat.le_of_ble_eq_true rfl) (fun g hg hr => ?_)
  unfold X11_isShelf at h
  refine e_iload_n hg dX11_isShelf_0 rfl ?_
  refine e_i2l hg dX11_isShelf_1 ?_
  refine e_lconst (v := 0) hg dX11_isShelf_2 (by decide) ?_
  refine e_ldc2 hg dX11_isShelf_3 lk_1213 ?_
  obtain ⟨v1, M2, hc3, h⟩ := o_bd h
  refine m_callSI (rest := []) (v := v1) (M' := M2) hg mfX11_within mvX11_within (X11_within_ok (r := (v1, M2)) hc3) lk_1190 dX11_isShelf_6 rfl rfl (by omega) (Nat.le_of_ble_eq_true rfl) ?_
  obtain ⟨hb4, h⟩ := o_gd h
  exact m_zret hg hr (nb_of (of_decide_eq_true hb4)) dX11_isShelf_9 h

def X11_things_b210 (a1 : Int32) (a2 : Int32) (a3 : Int32) (R69 : Int32 → Int32 → mm → Option (Int32 × mm)) (x4 : Int32) (x5 : Int32) (M : mm) : Option (Int32 × mm) :=
  R69 x4 x5 M
set_option maxRecDepth 100000 in
set_option maxHeartbeats 4000000 in
theorem X11_things_b210_ok {g : gx} (hg : EC g cX11_things RX11 2) {a1 : Int32} {a2 : Int32} {a3 : Int32} {r : Int32 × mm} (hr : RT g (some .int) (0, 0) (some (.int r.1)) (cells r.2)) {R69 : Int32 → Int32 → mm → Option (Int32 × mm)} (hR69 : ∀ (x4 : Int32) (x5 : Int32) (o6 : Option Value) (M : mm), R69 x4 x5 M = some r → E g (0, 0) 69 [some (.ref 82), some (.int a1), some (.int a2), some (.int a3), some (.int x4), some (.int x5), o6] [] (cells M)) {x4 : Int32} {x5 : Int32} {o6 : Option Value} {M : mm} (h : X11_things_b210 a1 a2 a3 R69 x4 x5 M = some r) : E g (0, 0) 210 [some (.ref 82), some (.int a1), some (.int a2), some (.int a3), some (.int x4), some (.int x5), o6] [] (cells M) := by
  unfold X11_things_b210 at h
  refine e_goto hg 69 dX11_things_210 (by decide) ?_
  exact hR69 _ _ _ _ h

def X11_things_b168 (a1 : Int32) (a2 : Int32) (a3 : Int32) (R69 : Int32 → Int32 → mm → Option (Int32 × mm)) (x4 : Int32) (x6 : Int32) (s0 : Int32) (M : mm) : Option (Int32 × mm) :=
  if s0 = 0 then
    X11_things_b210 a1 a2 a3 R69 x4 s0 M
  else
    gd (inb x6 360) <|
    gd (inb (x6 + 1) 360) <|
    gd (inb (x6 + 2) 360) <|
    bd (X11_adds ((M.2.1 115 x6.toNatClampNeg).toInt32) ((M.2.1 115 (x6 + 1).toNatClampNeg).toInt32) ((M.2.1 115 (x6 + 2).toNatClampNeg).toInt32) M) fun u23 M24 =>
    X11_things_b210 a1 a2 a3 R69 (x4 + 1) s0 M24
set_option maxRecDepth 100000 in
set_option maxHeartbeats 4000000 in
theorem X11_things_b168_ok {g : gx} (hg : EC g cX11_things RX11 2) {a1 : Int32} {a2 : Int32} {a3 : Int32} {r : Int32 × mm} (hr : RT g (some .int) (0, 0) (some (.int r.1)) (cells r.2)) {R69 : Int32 → Int32 → mm → Option (Int32 × mm)} (hR69 : ∀ (x4 : Int32) (x5 : Int32) (o6 : Option Value) (M : mm), R69 x4 x5 M = some r → E g (0, 0) 69 [some (.ref 82), some (.int a1), some (.int a2), some (.int a3), some (.int x4), some (.int x5), o6] [] (cells M)) {x4 : Int32} {x6 : Int32} {s0 : Int32} {o5 : Option Value} {M : mm} (h : X11_things_b168 a1 a2 a3 R69 x4 x6 s0 M = some r) : E g (0, 0) 168 [some (.ref 82), some (.int a1), some (.int a2), some (.int a3), some (.int x4), o5, some (.int x6)] [.int s0] (cells M) := by
  unfold X11_things_b168 at h
  refine e_istore (ls' := [some (.ref 82), some (.int a1), some (.int a2), some (.int a3), some (.int x4), some (.int s0), some (.int x6)]) hg dX11_things_168 rfl ?_
  refine e_iload hg dX11_things_170 rfl ?_
  refine e_ifeq hg 210 dX11_things_172 (by decide) (fun c19 => ?_) (fun c19 => ?_)
  · have h := o_pos c19 h
    exact X11_things_b210_ok hg hr hR69 h
  · have h := o_neg c19 h
    refine e_aload_n hg dX11_things_175 rfl ?_
    refine e_aload_n hg dX11_things_176 rfl ?_
    refine m_getR (q := 115) hg ciX11 61 lk_1047 dX11_things_177 io_82 (Nat.le_of_ble_eq_true rfl) rfl rf_82_61 ?_
    refine e_iload hg dX11_things_180 rfl ?_
    obtain ⟨hi20, h⟩ := o_gd h
    refine m_lald hg sh_115 hi20 dX11_things_182 ?_
    refine e_l2i hg dX11_things_183 ?_
    refine e_aload_n hg dX11_things_184 rfl ?_
    refine m_getR (q := 115) hg ciX11 61 lk_1047 dX11_things_185 io_82 (Nat.le_of_ble_eq_true rfl) rfl rf_82_61 ?_
    refine e_iload hg dX11_things_188 rfl ?_
    refine e_iconst (v := 1) hg dX11_things_190 (by decide) ?_
    refine e_iadd hg dX11_things_191 ?_
    obtain ⟨hi21, h⟩ := o_gd h
    refine m_lald hg sh_115 hi21 dX11_things_192 ?_
    refine e_l2i hg dX11_things_193 ?_
    refine e_aload_n hg dX11_things_194 rfl ?_
    refine m_getR (q := 115) hg ciX11 61 lk_1047 dX11_things_195 io_82 (Nat.le_of_ble_eq_true rfl) rfl rf_82_61 ?_
    refine e_iload hg dX11_things_198 rfl ?_
    refine e_iconst (v := 2) hg dX11_things_200 (by decide) ?_
    refine e_iadd hg dX11_things_201 ?_
    obtain ⟨hi22, h⟩ := o_gd h
    refine m_lald hg sh_115 hi22 dX11_things_202 ?_
    refine e_l2i hg dX11_things_203 ?_
    obtain ⟨u23, M24, hc25, h⟩ := o_bd h
    refine m_callVV (rest := []) (M' := M24) (ci := 11) hg mfX11_adds mvX11_adds (X11_adds_ok (r := (u23, M24)) hc25) lk_1202 dX11_things_204 io_82 rfl rfl rfl (by omega) (Nat.le_of_ble_eq_true rfl) ?_
    refine e_iinc (v := (x4 + 1)) (ls' := [some (.ref 82), some (.int a1), some (.int a2), some (.int a3), some (.int (x4 + 1)), some (.int s0), some (.int x6)]) hg dX11_things_207 rfl rfl rfl ?_
    exact X11_things_b210_ok hg hr hR69 h

def X11_things_b167 (a1 : Int32) (a2 : Int32) (a3 : Int32) (R69 : Int32 → Int32 → mm → Option (Int32 × mm)) (x4 : Int32) (x6 : Int32) (M : mm) : Option (Int32 × mm) :=
  X11_things_b168 a1 a2 a3 R69 x4 x6 0 M
set_option maxRecDepth 100000 in
set_option maxHeartbeats 4000000 in
theorem X11_things_b167_ok {g : gx} (hg : EC g cX11_things RX11 2) {a1 : Int32} {a2 : Int32} {a3 : Int32} {r : Int32 × mm} (hr : RT g (some .int) (0, 0) (some (.int r.1)) (cells r.2)) {R69 : Int32 → Int32 → mm → Option (Int32 × mm)} (hR69 : ∀ (x4 : Int32) (x5 : Int32) (o6 : Option Value) (M : mm), R69 x4 x5 M = some r → E g (0, 0) 69 [some (.ref 82), some (.int a1), some (.int a2), some (.int a3), some (.int x4), some (.int x5), o6] [] (cells M)) {x4 : Int32} {x6 : Int32} {o5 : Option Value} {M : mm} (h : X11_things_b167 a1 a2 a3 R69 x4 x6 M = some r) : E g (0, 0) 167 [some (.ref 82), some (.int a1), some (.int a2), some (.int a3), some (.int x4), o5, some (.int x6)] [] (cells M) := by
  unfold X11_things_b167 at h
  refine e_iconst (v := 0) hg dX11_things_167 (by decide) ?_
  exact X11_things_b168_ok hg hr hR69 h

def X11_things_b111 (a1 : Int32) (a2 : Int32) (a3 : Int32) (R69 : Int32 → Int32 → mm → Option (Int32 × mm)) (x4 : Int32) (s0 : Int32) (M : mm) : Option (Int32 × mm) :=
  if s0 = 0 then
    X11_things_b167 a1 a2 a3 R69 x4 (((60 * a1) + a2) + (3 * x4)) M
  else
    gd (inb (((60 * a1) + a2) + (3 * x4)) 360) <|
    gd (inb ((((60 * a1) + a2) + (3 * x4)) + 1) 360) <|
    gd (inb ((((60 * a1) + a2) + (3 * x4)) + 2) 360) <|
    bd (X11_isOne (M.2.1 115 (((60 * a1) + a2) + (3 * x4)).toNatClampNeg) (M.2.1 115 ((((60 * a1) + a2) + (3 * x4)) + 1).toNatClampNeg) (M.2.1 115 ((((60 * a1) + a2) + (3 * x4)) + 2).toNatClampNeg) M) fun v29 M30 =>
    if v29 = 0 then
      X11_things_b167 a1 a2 a3 R69 x4 (((60 * a1) + a2) + (3 * x4)) M30
    else
      X11_things_b168 a1 a2 a3 R69 x4 (((60 * a1) + a2) + (3 * x4)) 1 M30
set_option maxRecDepth 100000 in
set_option maxHeartbeats 4000000 in
theorem X11_things_b111_ok {g : gx} (hg : EC g cX11_things RX11 2) {a1 : Int32} {a2 : Int32} {a3 : Int32} {r : Int32 × mm} (hr : RT g (some .int) (0, 0) (some (.int r.1)) (cells r.2)) {R69 : Int32 → Int32 → mm → Option (Int32 × mm)} (hR69 : ∀ (x4 : Int32) (x5 : Int32) (o6 : Option Value) (M : mm), R69 x4 x5 M = some r → E g (0, 0) 69 [some (.ref 82), some (.int a1), some (.int a2), some (.int a3), some (.int x4), some (.int x5), o6] [] (cells M)) {x4 : Int32} {s0 : Int32} {o5 : Option Value} {o6 : Option Value} {M : mm} (h : X11_things_b111 a1 a2 a3 R69 x4 s0 M = some r) : E g (0, 0) 111 [some (.ref 82), some (.int a1), some (.int a2), some (.int a3), some (.int x4), o5, o6] [.int s0] (cells M) := by
  unfold X11_things_b111 at h
  refine e_istore (ls' := [some (.ref 82), some (.int a1), some (.int a2), some (.int a3), some (.int x4), some (.int s0), o6]) hg dX11_things_111 rfl ?_
  refine e_bipush (v := 60) hg dX11_things_113 (by decide) ?_
  refine e_iload_n hg dX11_things_115 rfl ?_
  refine e_imul hg dX11_things_116 ?_
  refine e_iload_n hg dX11_things_117 rfl ?_
  refine e_iadd hg dX11_things_118 ?_
  refine e_iconst (v := 3) hg dX11_things_119 (by decide) ?_
  refine e_iload hg dX11_things_120 rfl ?_
  refine e_imul hg dX11_things_122 ?_
  refine e_iadd hg dX11_things_123 ?_
  refine e_istore (ls' := [some (.ref 82), some (.int a1), some (.int a2), some (.int a3), some (.int x4), some (.int s0), some (.int (((60 * a1) + a2) + (3 * x4)))]) hg dX11_things_124 rfl ?_
  refine e_iload hg dX11_things_126 rfl ?_
  refine e_ifeq hg 167 dX11_things_128 (by decide) (fun c18 => ?_) (fun c18 => ?_)
  · have h := o_pos c18 h
    exact X11_things_b167_ok hg hr hR69 h
  · have h := o_neg c18 h
    refine e_aload_n hg dX11_things_131 rfl ?_
    refine e_aload_n hg dX11_things_132 rfl ?_
    refine m_getR (q := 115) hg ciX11 61 lk_1047 dX11_things_133 io_82 (Nat.le_of_ble_eq_true rfl) rfl rf_82_61 ?_
    refine e_iload hg dX11_things_136 rfl ?_
    obtain ⟨hi26, h⟩ := o_gd h
    refine m_lald hg sh_115 hi26 dX11_things_138 ?_
    refine e_aload_n hg dX11_things_139 rfl ?_
    refine m_getR (q := 115) hg ciX11 61 lk_1047 dX11_things_140 io_82 (Nat.le_of_ble_eq_true rfl) rfl rf_82_61 ?_
    refine e_iload hg dX11_things_143 rfl ?_
    refine e_iconst (v := 1) hg dX11_things_145 (by decide) ?_
    refine e_iadd hg dX11_things_146 ?_
    obtain ⟨hi27, h⟩ := o_gd h
    refine m_lald hg sh_115 hi27 dX11_things_147 ?_
    refine e_aload_n hg dX11_things_148 rfl ?_
    refine m_getR (q := 115) hg ciX11 61 lk_1047 dX11_things_149 io_82 (Nat.le_of_ble_eq_true rfl) rfl rf_82_61 ?_
    refine e_iload hg dX11_things_152 rfl ?_
    refine e_iconst (v := 2) hg dX11_things_154 (by decide) ?_
    refine e_iadd hg dX11_things_155 ?_
    obtain ⟨hi28, h⟩ := o_gd h
    refine m_lald hg sh_115 hi28 dX11_things_156 ?_
    obtain ⟨v29, M30, hc31, h⟩ := o_bd h
    refine m_callVI (rest := []) (v := v29) (M' := M30) (ci := 11) hg mfX11_isOne mvX11_isOne (X11_isOne_ok (r := (v29, M30)) hc31) lk_1198 dX11_things_157 io_82 rfl rfl rfl (by omega) (Nat.le_of_ble_eq_true rfl) ?_
    refine e_ifeq hg 167 dX11_things_160 (by decide) (fun c32 => ?_) (fun c32 => ?_)
    · have h := o_pos c32 h
      exact X11_things_b167_ok hg hr hR69 h
    · have h := o_neg c32 h
      refine e_iconst (v := 1) hg dX11_things_163 (by decide) ?_
      refine e_goto hg 168 dX11_things_164 (by decide) ?_
      exact X11_things_b168_ok hg hr hR69 h

def X11_things_b110 (a1 : Int32) (a2 : Int32) (a3 : Int32) (R69 : Int32 → Int32 → mm → Option (Int32 × mm)) (x4 : Int32) (M : mm) : Option (Int32 × mm) :=
  X11_things_b111 a1 a2 a3 R69 x4 0 M
set_option maxRecDepth 100000 in
set_option maxHeartbeats 4000000 in
theorem X11_things_b110_ok {g : gx} (hg : EC g cX11_things RX11 2) {a1 : Int32} {a2 : Int32} {a3 : Int32} {r : Int32 × mm} (hr : RT g (some .int) (0, 0) (some (.int r.1)) (cells r.2)) {R69 : Int32 → Int32 → mm → Option (Int32 × mm)} (hR69 : ∀ (x4 : Int32) (x5 : Int32) (o6 : Option Value) (M : mm), R69 x4 x5 M = some r → E g (0, 0) 69 [some (.ref 82), some (.int a1), some (.int a2), some (.int a3), some (.int x4), some (.int x5), o6] [] (cells M)) {x4 : Int32} {o5 : Option Value} {o6 : Option Value} {M : mm} (h : X11_things_b110 a1 a2 a3 R69 x4 M = some r) : E g (0, 0) 110 [some (.ref 82), some (.int a1), some (.int a2), some (.int a3), some (.int x4), o5, o6] [] (cells M) := by
  unfold X11_things_b110 at h
  refine e_iconst (v := 0) hg dX11_things_110 (by decide) ?_
  exact X11_things_b111_ok hg hr hR69 h

def X11_things_L69 (a1 : Int32) (a2 : Int32) (a3 : Int32) : Nat → Int32 → Int32 → mm → Option (Int32 × mm)
  | 0, _, _, _ => none
  | n_ + 1, x4, x5, M =>
    if x5 = 0 then
      some (x4, M)
    else
      if x4 < a3 then
        gd (inb a1 6) <|
        if (((M.1 114 a1.toNatClampNeg) - 3) - (3 * x4)) < a2 then
          X11_things_b110 a1 a2 a3 (X11_things_L69 a1 a2 a3 n_) x4 M
        else
          if (M.1 82 7) < 6 then
            X11_things_b111 a1 a2 a3 (X11_things_L69 a1 a2 a3 n_) x4 1 M
          else
            X11_things_b110 a1 a2 a3 (X11_things_L69 a1 a2 a3 n_) x4 M
      else
        some (x4, M)
set_option maxRecDepth 100000 in
set_option maxHeartbeats 4000000 in
theorem X11_things_L69_ok {g : gx} (hg : EC g cX11_things RX11 2) {a1 : Int32} {a2 : Int32} {a3 : Int32} {r : Int32 × mm} (hr : RT g (some .int) (0, 0) (some (.int r.1)) (cells r.2)) : ∀ (n_ : Nat) (x4 : Int32) (x5 : Int32) (o6 : Option Value) (M : mm), X11_things_L69 a1 a2 a3 n_ x4 x5 M = some r → E g (0, 0) 69 [some (.ref 82), some (.int a1), some (.int a2), some (.int a3), some (.int x4), some (.int x5), o6] [] (cells M) := by
  intro n_
  induction n_ with
  | zero => intro x4 x5 o6 M h; exact o_no h
  | succ n_ ih =>
    intro x4 x5 o6 M h
    rw [X11_things_L69] at h
    refine e_iload hg dX11_things_69 rfl ?_
    refine e_ifeq hg 213 dX11_things_71 (by decide) (fun c14 => ?_) (fun c14 => ?_)
    · have h := o_pos c14 h
      refine e_iload hg dX11_things_213 rfl ?_
      exact m_iret hg hr dX11_things_215 h
    · have h := o_neg c14 h
      refine e_iload hg dX11_things_74 rfl ?_
      refine e_iload_n hg dX11_things_76 rfl ?_
      refine e_icmpge hg 213 dX11_things_77 (by decide) (fun c15 => ?_) (fun c15 => ?_)
      · have h := o_pos c15 h
        refine e_iload_n hg dX11_things_80 rfl ?_
        refine e_aload_n hg dX11_things_81 rfl ?_
        refine m_getR (q := 114) hg ciX11 60 lk_1046 dX11_things_82 io_82 (Nat.le_of_ble_eq_true rfl) rfl rf_82_60 ?_
        refine e_iload_n hg dX11_things_85 rfl ?_
        obtain ⟨hi16, h⟩ := o_gd h
        refine m_iald hg sh_114 hi16 dX11_things_86 ?_
        refine e_iconst (v := 3) hg dX11_things_87 (by decide) ?_
        refine e_isub hg dX11_things_88 ?_
        refine e_iconst (v := 3) hg dX11_things_89 (by decide) ?_
        refine e_iload hg dX11_things_90 rfl ?_
        refine e_imul hg dX11_things_92 ?_
        refine e_isub hg dX11_things_93 ?_
        refine e_icmpgt hg 110 dX11_things_94 (by decide) (fun c17 => ?_) (fun c17 => ?_)
        · have h := o_pos c17 h
          exact X11_things_b110_ok hg hr ih h
        · have h := o_neg c17 h
          refine e_aload_n hg dX11_things_97 rfl ?_
          refine m_getI hg ciX11 7 lk_993 dX11_things_98 io_82 (Nat.le_of_ble_eq_true rfl) rfl ?_
          refine e_bipush (v := 6) hg dX11_things_101 (by decide) ?_
          refine e_icmpge hg 110 dX11_things_103 (by decide) (fun c33 => ?_) (fun c33 => ?_)
          · have h := o_pos c33 h
            refine e_iconst (v := 1) hg dX11_things_106 (by decide) ?_
            refine e_goto hg 111 dX11_things_107 (by decide) ?_
            exact X11_things_b111_ok hg hr ih h
          · have h := o_neg c33 h
            exact X11_things_b110_ok hg hr ih h
      · have h := o_neg c15 h
        refine e_iload hg dX11_things_213 rfl ?_
        exact m_iret hg hr dX11_things_215 h

def X11_things_b67 (a1 : Int32) (a2 : Int32) (a3 : Int32) (x4 : Int32) (s0 : Int32) (M : mm) : Option (Int32 × mm) :=
  X11_things_L69 a1 a2 a3 10000 x4 s0 M
set_option maxRecDepth 100000 in
set_option maxHeartbeats 4000000 in
theorem X11_things_b67_ok {g : gx} (hg : EC g cX11_things RX11 2) {a1 : Int32} {a2 : Int32} {a3 : Int32} {r : Int32 × mm} (hr : RT g (some .int) (0, 0) (some (.int r.1)) (cells r.2)) {x4 : Int32} {s0 : Int32} {o5 : Option Value} {o6 : Option Value} {M : mm} (h : X11_things_b67 a1 a2 a3 x4 s0 M = some r) : E g (0, 0) 67 [some (.ref 82), some (.int a1), some (.int a2), some (.int a3), some (.int x4), o5, o6] [.int s0] (cells M) := by
  unfold X11_things_b67 at h
  refine e_istore (ls' := [some (.ref 82), some (.int a1), some (.int a2), some (.int a3), some (.int x4), some (.int s0), o6]) hg dX11_things_67 rfl ?_
  exact X11_things_L69_ok hg hr  10000 _ _ _ _ h

def X11_things_b66 (a1 : Int32) (a2 : Int32) (a3 : Int32) (x4 : Int32) (M : mm) : Option (Int32 × mm) :=
  X11_things_b67 a1 a2 a3 x4 0 M
set_option maxRecDepth 100000 in
set_option maxHeartbeats 4000000 in
theorem X11_things_b66_ok {g : gx} (hg : EC g cX11_things RX11 2) {a1 : Int32} {a2 : Int32} {a3 : Int32} {r : Int32 × mm} (hr : RT g (some .int) (0, 0) (some (.int r.1)) (cells r.2)) {x4 : Int32} {o5 : Option Value} {o6 : Option Value} {M : mm} (h : X11_things_b66 a1 a2 a3 x4 M = some r) : E g (0, 0) 66 [some (.ref 82), some (.int a1), some (.int a2), some (.int a3), some (.int x4), o5, o6] [] (cells M) := by
  unfold X11_things_b66 at h
  refine e_iconst (v := 0) hg dX11_things_66 (by decide) ?_
  exact X11_things_b67_ok hg hr  h

def X11_things_b44 (a1 : Int32) (a2 : Int32) (a3 : Int32) (M : mm) : Option (Int32 × mm) :=
  gd (inb a1 6) <|
  if (M.1 113 a1.toNatClampNeg) = 50 then
    if a2 < 0 then
      X11_things_b66 a1 a2 a3 0 M
    else
      X11_things_b67 a1 a2 a3 0 1 M
  else
    X11_things_b66 a1 a2 a3 0 M
set_option maxRecDepth 100000 in
set_option maxHeartbeats 4000000 in
theorem X11_things_b44_ok {g : gx} (hg : EC g cX11_things RX11 2) {a1 : Int32} {a2 : Int32} {a3 : Int32} {r : Int32 × mm} (hr : RT g (some .int) (0, 0) (some (.int r.1)) (cells r.2)) {o4 : Option Value} {o5 : Option Value} {o6 : Option Value} {M : mm} (h : X11_things_b44 a1 a2 a3 M = some r) : E g (0, 0) 44 [some (.ref 82), some (.int a1), some (.int a2), some (.int a3), o4, o5, o6] [] (cells M) := by
  unfold X11_things_b44 at h
  refine e_iconst (v := 0) hg dX11_things_44 (by decide) ?_
  refine e_istore (ls' := [some (.ref 82), some (.int a1), some (.int a2), some (.int a3), some (.int 0), o5, o6]) hg dX11_things_45 rfl ?_
  refine e_aload_n hg dX11_things_47 rfl ?_
  refine m_getR (q := 113) hg ciX11 59 lk_1045 dX11_things_48 io_82 (Nat.le_of_ble_eq_true rfl) rfl rf_82_59 ?_
  refine e_iload_n hg dX11_things_51 rfl ?_
  obtain ⟨hi11, h⟩ := o_gd h
  refine m_iald hg sh_113 hi11 dX11_things_52 ?_
  refine e_bipush (v := 50) hg dX11_things_53 (by decide) ?_
  refine e_icmpne hg 66 dX11_things_55 (by decide) (fun c12 => ?_) (fun c12 => ?_)
  · have h := o_pos c12 h
    refine e_iload_n hg dX11_things_58 rfl ?_
    refine e_iflt hg 66 dX11_things_59 (by decide) (fun c13 => ?_) (fun c13 => ?_)
    · have h := o_pos c13 h
      exact X11_things_b66_ok hg hr  h
    · have h := o_neg c13 h
      refine e_iconst (v := 1) hg dX11_things_62 (by decide) ?_
      refine e_goto hg 67 dX11_things_63 (by decide) ?_
      exact X11_things_b67_ok hg hr  h
  · have h := o_neg c12 h
    exact X11_things_b66_ok hg hr  h

def X11_things (a1 : Int32) (a2 : Int32) (a3 : Int32) (M : mm) : Option (Int32 × mm) :=
  bd (X11_isShelf a1 M) fun v1 M2 =>
  if v1 = 0 then
    some ((-1), M2)
  else
    bd (X11_within (a3.toInt64) 1 6 M2) fun v5 M6 =>
    if v5 = 0 then
      some ((-1), M6)
    else
      gd (inb a1 6) <|
      if (M6.1 113 a1.toNatClampNeg) < 0 then
        X11_things_b44 a1 a2 a3 M6
      else
        gd (inb a1 6) <|
        if (M6.1 113 a1.toNatClampNeg) = 50 then
          X11_things_b44 a1 a2 a3 M6
        else
          some ((-12), M6)
set_option maxRecDepth 100000 in
set_option maxHeartbeats 4000000 in
theorem X11_things_ok {a1 : Int32} {a2 : Int32} {a3 : Int32} {M : mm} {r : Int32 × mm} (h : X11_things a1 a2 a3 M = some r) : CM yX11_things cX11_things 7 (some .int) 2 [.ref 82, .int a1, .int a2, .int a3] (cells M) (some (.int r.1)) (cells r.2) := by
  refine cm_of (ls := [some (.ref 82), some (.int a1), some (.int a2), some (.int a3), none, none, none]) mfX11_things rfl (Nat.le_of_ble_eq_true rfl) (fun g hg hr => ?_)
  unfold X11_things at h
  refine e_iload_n hg dX11_things_0 rfl ?_
  obtain ⟨v1, M2, hc3, h⟩ := o_bd h
  refine m_callSI (rest := []) (v := v1) (M' := M2) hg mfX11_isShelf mvX11_isShelf (X11_isShelf_ok (r := (v1, M2)) hc3) lk_1210 dX11_things_1 rfl rfl (by omega) (Nat.le_of_ble_eq_true rfl) ?_
  refine e_ifeq hg 19 dX11_things_4 (by decide) (fun c4 => ?_) (fun c4 => ?_)
  · have h := o_pos c4 h
    refine e_iconst (v := -1) hg dX11_things_19 (by decide) ?_
    exact m_iret hg hr dX11_things_20 h
  · have h := o_neg c4 h
    refine e_iload_n hg dX11_things_7 rfl ?_
    refine e_i2l hg dX11_things_8 ?_
    refine e_lconst (v := 1) hg dX11_things_9 (by decide) ?_
    refine e_ldc2 hg dX11_things_10 lk_1214 ?_
    obtain ⟨v5, M6, hc7, h⟩ := o_bd h
    refine m_callSI (rest := []) (v := v5) (M' := M6) hg mfX11_within mvX11_within (X11_within_ok (r := (v5, M6)) hc7) lk_1190 dX11_things_13 rfl rfl (by omega) (Nat.le_of_ble_eq_true rfl) ?_
    refine e_ifne hg 21 dX11_things_16 (by decide) (fun c8 => ?_) (fun c8 => ?_)
    · have h := o_pos c8 h
      refine e_iconst (v := -1) hg dX11_things_19 (by decide) ?_
      exact m_iret hg hr dX11_things_20 h
    · have h := o_neg c8 h
      refine e_aload_n hg dX11_things_21 rfl ?_
      refine m_getR (q := 113) hg ciX11 59 lk_1045 dX11_things_22 io_82 (Nat.le_of_ble_eq_true rfl) rfl rf_82_59 ?_
      refine e_iload_n hg dX11_things_25 rfl ?_
      obtain ⟨hi9, h⟩ := o_gd h
      refine m_iald hg sh_113 hi9 dX11_things_26 ?_
      refine e_iflt hg 44 dX11_things_27 (by decide) (fun c10 => ?_) (fun c10 => ?_)
      · have h := o_pos c10 h
        exact X11_things_b44_ok hg hr  h
      · have h := o_neg c10 h
        refine e_aload_n hg dX11_things_30 rfl ?_
        refine m_getR (q := 113) hg ciX11 59 lk_1045 dX11_things_31 io_82 (Nat.le_of_ble_eq_true rfl) rfl rf_82_59 ?_
        refine e_iload_n hg dX11_things_34 rfl ?_
        obtain ⟨hi34, h⟩ := o_gd h
        refine m_iald hg sh_113 hi34 dX11_things_35 ?_
        refine e_bipush (v := 50) hg dX11_things_36 (by decide) ?_
        refine e_icmpeq hg 44 dX11_things_38 (by decide) (fun c35 => ?_) (fun c35 => ?_)
        · have h := o_pos c35 h
          exact X11_things_b44_ok hg hr  h
        · have h := o_neg c35 h
          refine e_bipush (v := -12) hg dX11_things_41 (by decide) ?_
          exact m_iret hg hr dX11_things_43 h

def X11_rule_b78 (a1 : Int32) (a2 : Int32) (x3 : Int32) (s1 : Int32) (M : mm) : Option (Int32 × mm) :=
  lt_ (sA M 82 (upd (M.1 82) 20 s1)) fun M14 =>
  some (x3, M14)
set_option maxRecDepth 100000 in
set_option maxHeartbeats 4000000 in
theorem X11_rule_b78_ok {g : gx} (hg : EC g cX11_rule RX11 1) {a1 : Int32} {a2 : Int32} {r : Int32 × mm} (hr : RT g (some .int) (0, 0) (some (.int r.1)) (cells r.2)) {x3 : Int32} {s1 : Int32} {M : mm} (h : X11_rule_b78 a1 a2 x3 s1 M = some r) : E g (0, 0) 78 [some (.ref 82), some (.int a1), some (.int a2), some (.int x3)] [.int s1, .ref 82] (cells M) := by
  unfold X11_rule_b78 at h
  obtain ⟨M14, hM14, h⟩ := o_lt h
  refine m_putI hg ciX11 20 lk_1006 dX11_rule_78 io_82 (Nat.le_of_ble_eq_true rfl) rfl rfl rfl rfl ?_
  rw [← hM14]
  refine e_iload_n hg dX11_rule_81 rfl ?_
  exact m_iret hg hr dX11_rule_82 h

def X11_rule_b61 (a1 : Int32) (a2 : Int32) (x3 : Int32) (s1 : Int32) (M : mm) : Option (Int32 × mm) :=
  lt_ (sA M 82 (upd (M.1 82) 19 s1)) fun M12 =>
  X11_rule_b78 a1 a2 x3 (if a1 = 1 then a2 else (M12.1 82 20)) M12
set_option maxRecDepth 100000 in
set_option maxHeartbeats 4000000 in
theorem X11_rule_b61_ok {g : gx} (hg : EC g cX11_rule RX11 1) {a1 : Int32} {a2 : Int32} {r : Int32 × mm} (hr : RT g (some .int) (0, 0) (some (.int r.1)) (cells r.2)) {x3 : Int32} {s1 : Int32} {M : mm} (h : X11_rule_b61 a1 a2 x3 s1 M = some r) : E g (0, 0) 61 [some (.ref 82), some (.int a1), some (.int a2), some (.int x3)] [.int s1, .ref 82] (cells M) := by
  unfold X11_rule_b61 at h
  obtain ⟨M12, hM12, h⟩ := o_lt h
  refine m_putI hg ciX11 19 lk_1005 dX11_rule_61 io_82 (Nat.le_of_ble_eq_true rfl) rfl rfl rfl rfl ?_
  rw [← hM12]
  refine e_aload_n hg dX11_rule_64 rfl ?_
  refine e_iload_n hg dX11_rule_65 rfl ?_
  refine e_iconst (v := 1) hg dX11_rule_66 (by decide) ?_
  refine e_icmpne hg 74 dX11_rule_67 (by decide) (fun c13 => ?_) (fun c13 => ?_)
  · simp only [if_pos c13] at h
    refine e_iload_n hg dX11_rule_70 rfl ?_
    refine e_goto hg 78 dX11_rule_71 (by decide) ?_
    exact X11_rule_b78_ok hg hr  h
  · simp only [if_neg c13] at h
    refine e_aload_n hg dX11_rule_74 rfl ?_
    refine m_getI hg ciX11 20 lk_1006 dX11_rule_75 io_82 (Nat.le_of_ble_eq_true rfl) rfl ?_
    exact X11_rule_b78_ok hg hr  h

def X11_rule_b47 (a1 : Int32) (a2 : Int32) (s0 : Int32) (M : mm) : Option (Int32 × mm) :=
  X11_rule_b61 a1 a2 s0 (if a1 = 0 then a2 else (M.1 82 19)) M
set_option maxRecDepth 100000 in
set_option maxHeartbeats 4000000 in
theorem X11_rule_b47_ok {g : gx} (hg : EC g cX11_rule RX11 1) {a1 : Int32} {a2 : Int32} {r : Int32 × mm} (hr : RT g (some .int) (0, 0) (some (.int r.1)) (cells r.2)) {s0 : Int32} {o3 : Option Value} {M : mm} (h : X11_rule_b47 a1 a2 s0 M = some r) : E g (0, 0) 47 [some (.ref 82), some (.int a1), some (.int a2), o3] [.int s0] (cells M) := by
  unfold X11_rule_b47 at h
  refine e_istore_n (ls' := [some (.ref 82), some (.int a1), some (.int a2), some (.int s0)]) hg dX11_rule_47 rfl ?_
  refine e_aload_n hg dX11_rule_48 rfl ?_
  refine e_iload_n hg dX11_rule_49 rfl ?_
  refine e_ifne hg 57 dX11_rule_50 (by decide) (fun c11 => ?_) (fun c11 => ?_)
  · simp only [if_pos c11] at h
    refine e_iload_n hg dX11_rule_53 rfl ?_
    refine e_goto hg 61 dX11_rule_54 (by decide) ?_
    exact X11_rule_b61_ok hg hr  h
  · simp only [if_neg c11] at h
    refine e_aload_n hg dX11_rule_57 rfl ?_
    refine m_getI hg ciX11 19 lk_1005 dX11_rule_58 io_82 (Nat.le_of_ble_eq_true rfl) rfl ?_
    exact X11_rule_b61_ok hg hr  h

def X11_rule_b24 (a1 : Int32) (a2 : Int32) (s0 : Int64) (s1 : Int64) (s2 : Int64) (M : mm) : Option (Int32 × mm) :=
  bd (X11_within s0 s1 s2 M) fun v6 M7 =>
  if v6 = 0 then
    some ((-1), M7)
  else
    X11_rule_b47 a1 a2 (if a1 = 0 then (M7.1 82 19) else (M7.1 82 20)) M7
set_option maxRecDepth 100000 in
set_option maxHeartbeats 4000000 in
theorem X11_rule_b24_ok {g : gx} (hg : EC g cX11_rule RX11 1) {a1 : Int32} {a2 : Int32} {r : Int32 × mm} (hr : RT g (some .int) (0, 0) (some (.int r.1)) (cells r.2)) {s0 : Int64} {s1 : Int64} {s2 : Int64} {o3 : Option Value} {M : mm} (h : X11_rule_b24 a1 a2 s0 s1 s2 M = some r) : E g (0, 0) 24 [some (.ref 82), some (.int a1), some (.int a2), o3] [.long s2, .long s1, .long s0] (cells M) := by
  unfold X11_rule_b24 at h
  obtain ⟨v6, M7, hc8, h⟩ := o_bd h
  refine m_callSI (rest := []) (v := v6) (M' := M7) hg mfX11_within mvX11_within (X11_within_ok (r := (v6, M7)) hc8) lk_1190 dX11_rule_24 rfl rfl (by omega) (Nat.le_of_ble_eq_true rfl) ?_
  refine e_ifne hg 32 dX11_rule_27 (by decide) (fun c9 => ?_) (fun c9 => ?_)
  · have h := o_pos c9 h
    refine e_iconst (v := -1) hg dX11_rule_30 (by decide) ?_
    exact m_iret hg hr dX11_rule_31 h
  · have h := o_neg c9 h
    refine e_iload_n hg dX11_rule_32 rfl ?_
    refine e_ifne hg 43 dX11_rule_33 (by decide) (fun c10 => ?_) (fun c10 => ?_)
    · simp only [if_pos c10] at h
      refine e_aload_n hg dX11_rule_36 rfl ?_
      refine m_getI hg ciX11 19 lk_1005 dX11_rule_37 io_82 (Nat.le_of_ble_eq_true rfl) rfl ?_
      refine e_goto hg 47 dX11_rule_40 (by decide) ?_
      exact X11_rule_b47_ok hg hr  h
    · simp only [if_neg c10] at h
      refine e_aload_n hg dX11_rule_43 rfl ?_
      refine m_getI hg ciX11 20 lk_1006 dX11_rule_44 io_82 (Nat.le_of_ble_eq_true rfl) rfl ?_
      exact X11_rule_b47_ok hg hr  h

def X11_rule (a1 : Int32) (a2 : Int32) (M : mm) : Option (Int32 × mm) :=
  bd (X11_within (a1.toInt64) 0 1 M) fun v1 M2 =>
  if v1 = 0 then
    some ((-1), M2)
  else
    X11_rule_b24 a1 a2 (a2.toInt64) 0 (if a1 = 0 then 9 else 1) M2
set_option maxRecDepth 100000 in
set_option maxHeartbeats 4000000 in
theorem X11_rule_ok {a1 : Int32} {a2 : Int32} {M : mm} {r : Int32 × mm} (h : X11_rule a1 a2 M = some r) : CM yX11_rule cX11_rule 4 (some .int) 1 [.ref 82, .int a1, .int a2] (cells M) (some (.int r.1)) (cells r.2) := by
  refine cm_of (ls := [some (.ref 82), some (.int a1), some (.int a2), none]) mfX11_rule rfl (Nat.le_of_ble_eq_true rfl) (fun g hg hr => ?_)
  unfold X11_rule at h
  refine e_iload_n hg dX11_rule_0 rfl ?_
  refine e_i2l hg dX11_rule_1 ?_
  refine e_lconst (v := 0) hg dX11_rule_2 (by decide) ?_
  refine e_lconst (v := 1) hg dX11_rule_3 (by decide) ?_
  obtain ⟨v1, M2, hc3, h⟩ := o_bd h
  refine m_callSI (rest := []) (v := v1) (M' := M2) hg mfX11_within mvX11_within (X11_within_ok (r := (v1, M2)) hc3) lk_1190 dX11_rule_4 rfl rfl (by omega) (Nat.le_of_ble_eq_true rfl) ?_
  refine e_ifeq hg 30 dX11_rule_7 (by decide) (fun c4 => ?_) (fun c4 => ?_)
  · have h := o_pos c4 h
    refine e_iconst (v := -1) hg dX11_rule_30 (by decide) ?_
    exact m_iret hg hr dX11_rule_31 h
  · have h := o_neg c4 h
    refine e_iload_n hg dX11_rule_10 rfl ?_
    refine e_i2l hg dX11_rule_11 ?_
    refine e_lconst (v := 0) hg dX11_rule_12 (by decide) ?_
    refine e_iload_n hg dX11_rule_13 rfl ?_
    refine e_ifne hg 23 dX11_rule_14 (by decide) (fun c5 => ?_) (fun c5 => ?_)
    · simp only [if_pos c5] at h
      refine e_ldc2 hg dX11_rule_17 lk_1219 ?_
      refine e_goto hg 24 dX11_rule_20 (by decide) ?_
      exact X11_rule_b24_ok hg hr  h
    · simp only [if_neg c5] at h
      refine e_lconst (v := 1) hg dX11_rule_23 (by decide) ?_
      exact X11_rule_b24_ok hg hr  h

def X11_mend (a1 : Int32) (a2 : Int32) (a3 : Int32) (M : mm) : Option (Int32 × mm) :=
  if a2 = 0 then
    bd (X11_isPerson a1 M) fun v2 M3 =>
    if v2 = 0 then
      some ((-1), M3)
    else
      bd (X11_within (a3.toInt64) 1 3 M3) fun v6 M7 =>
      if v6 = 0 then
        some ((-1), M7)
      else
        bd (X11_becomes a1 a3 M7) fun v10 M11 =>
        some (v10, M11)
  else
  if a2 = 1 then
    bd (X11_isPerson a1 M) fun v14 M15 =>
    if v14 = 0 then
      some ((-1), M15)
    else
      bd (X11_within (a3.toInt64) 0 99 M15) fun v18 M19 =>
      if v18 = 0 then
        some ((-1), M19)
      else
        bd (X11_becomes (5 + a1) a3 M19) fun v22 M23 =>
        some (v22, M23)
  else
  if a2 = 2 then
    bd (X11_isPerson a1 M) fun v26 M27 =>
    if v26 = 0 then
      some ((-1), M27)
    else
      bd (X11_within (a3.toInt64) 0 4 M27) fun v30 M31 =>
      if v30 = 0 then
        some ((-1), M31)
      else
        bd (X11_becomes (10 + a1) a3 M31) fun v34 M35 =>
        some (v34, M35)
  else
  if a2 = 3 then
    bd (X11_isThing a1 M) fun v38 M39 =>
    if v38 = 0 then
      some ((-1), M39)
    else
      bd (X11_within (a3.toInt64) 0 99 M39) fun v42 M43 =>
      if v42 = 0 then
        some ((-1), M43)
      else
        bd (X11_becomes (15 + a1) a3 M43) fun v46 M47 =>
        some (v46, M47)
  else
  if a2 = 4 then
    bd (X11_isThing a1 M) fun v50 M51 =>
    if v50 = 0 then
      some ((-1), M51)
    else
      bd (X11_within (a3.toInt64) 0 99 M51) fun v54 M55 =>
      if v54 = 0 then
        some ((-1), M55)
      else
        bd (X11_becomes (21 + a1) a3 M55) fun v58 M59 =>
        some (v58, M59)
  else
  if a2 = 5 then
    bd (X11_isThing a1 M) fun v62 M63 =>
    if v62 = 0 then
      some ((-1), M63)
    else
      bd (X11_within (a3.toInt64) 0 5 M63) fun v66 M67 =>
      if v66 = 0 then
        some ((-1), M67)
      else
        bd (X11_becomes (27 + a1) a3 M67) fun v70 M71 =>
        some (v70, M71)
  else
  some ((-1), M)
set_option maxRecDepth 100000 in
set_option maxHeartbeats 4000000 in
theorem X11_mend_ok {a1 : Int32} {a2 : Int32} {a3 : Int32} {M : mm} {r : Int32 × mm} (h : X11_mend a1 a2 a3 M = some r) : CM yX11_mend cX11_mend 4 (some .int) 2 [.ref 82, .int a1, .int a2, .int a3] (cells M) (some (.int r.1)) (cells r.2) := by
  refine cm_of (ls := [some (.ref 82), some (.int a1), some (.int a2), some (.int a3)]) mfX11_mend rfl (Nat.le_of_ble_eq_true rfl) (fun g hg hr => ?_)
  unfold X11_mend at h
  refine e_iload_n hg dX11_mend_0 rfl ?_
  by_cases c1 : a2 = 0
  · have h := o_pos c1 h
    refine e_tabIn (v := 0) hg 40 dX11_mend_1 c1 (by decide) (by decide) rfl (by decide) ?_
    refine e_aload_n hg dX11_mend_40 rfl ?_
    refine e_iload_n hg dX11_mend_41 rfl ?_
    obtain ⟨v2, M3, hc4, h⟩ := o_bd h
    refine m_callVI (rest := []) (v := v2) (M' := M3) (ci := 11) hg mfX11_isPerson mvX11_isPerson (X11_isPerson_ok (r := (v2, M3)) hc4) lk_1224 dX11_mend_42 io_82 rfl rfl rfl (by omega) (Nat.le_of_ble_eq_true rfl) ?_
    refine e_ifeq hg 69 dX11_mend_45 (by decide) (fun c5 => ?_) (fun c5 => ?_)
    · have h := o_pos c5 h
      refine e_iconst (v := -1) hg dX11_mend_69 (by decide) ?_
      exact m_iret hg hr dX11_mend_70 h
    · have h := o_neg c5 h
      refine e_iload_n hg dX11_mend_48 rfl ?_
      refine e_i2l hg dX11_mend_49 ?_
      refine e_lconst (v := 1) hg dX11_mend_50 (by decide) ?_
      refine e_ldc2 hg dX11_mend_51 lk_1189 ?_
      obtain ⟨v6, M7, hc8, h⟩ := o_bd h
      refine m_callSI (rest := []) (v := v6) (M' := M7) hg mfX11_within mvX11_within (X11_within_ok (r := (v6, M7)) hc8) lk_1190 dX11_mend_54 rfl rfl (by omega) (Nat.le_of_ble_eq_true rfl) ?_
      refine e_ifeq hg 69 dX11_mend_57 (by decide) (fun c9 => ?_) (fun c9 => ?_)
      · have h := o_pos c9 h
        refine e_iconst (v := -1) hg dX11_mend_69 (by decide) ?_
        exact m_iret hg hr dX11_mend_70 h
      · have h := o_neg c9 h
        refine e_aload_n hg dX11_mend_60 rfl ?_
        refine e_iload_n hg dX11_mend_61 rfl ?_
        refine e_iload_n hg dX11_mend_62 rfl ?_
        obtain ⟨v10, M11, hc12, h⟩ := o_bd h
        refine m_callVI (rest := []) (v := v10) (M' := M11) (ci := 11) hg mfX11_becomes mvX11_becomes (X11_becomes_ok (r := (v10, M11)) hc12) lk_1228 dX11_mend_63 io_82 rfl rfl rfl (by omega) (Nat.le_of_ble_eq_true rfl) ?_
        refine e_goto hg 70 dX11_mend_66 (by decide) ?_
        exact m_iret hg hr dX11_mend_70 h
  have h := o_neg c1 h
  by_cases c13 : a2 = 1
  · have h := o_pos c13 h
    refine e_tabIn (v := 1) hg 71 dX11_mend_1 c13 (by decide) (by decide) rfl (by decide) ?_
    refine e_aload_n hg dX11_mend_71 rfl ?_
    refine e_iload_n hg dX11_mend_72 rfl ?_
    obtain ⟨v14, M15, hc16, h⟩ := o_bd h
    refine m_callVI (rest := []) (v := v14) (M' := M15) (ci := 11) hg mfX11_isPerson mvX11_isPerson (X11_isPerson_ok (r := (v14, M15)) hc16) lk_1224 dX11_mend_73 io_82 rfl rfl rfl (by omega) (Nat.le_of_ble_eq_true rfl) ?_
    refine e_ifeq hg 102 dX11_mend_76 (by decide) (fun c17 => ?_) (fun c17 => ?_)
    · have h := o_pos c17 h
      refine e_iconst (v := -1) hg dX11_mend_102 (by decide) ?_
      exact m_iret hg hr dX11_mend_103 h
    · have h := o_neg c17 h
      refine e_iload_n hg dX11_mend_79 rfl ?_
      refine e_i2l hg dX11_mend_80 ?_
      refine e_lconst (v := 0) hg dX11_mend_81 (by decide) ?_
      refine e_ldc2 hg dX11_mend_82 lk_1193 ?_
      obtain ⟨v18, M19, hc20, h⟩ := o_bd h
      refine m_callSI (rest := []) (v := v18) (M' := M19) hg mfX11_within mvX11_within (X11_within_ok (r := (v18, M19)) hc20) lk_1190 dX11_mend_85 rfl rfl (by omega) (Nat.le_of_ble_eq_true rfl) ?_
      refine e_ifeq hg 102 dX11_mend_88 (by decide) (fun c21 => ?_) (fun c21 => ?_)
      · have h := o_pos c21 h
        refine e_iconst (v := -1) hg dX11_mend_102 (by decide) ?_
        exact m_iret hg hr dX11_mend_103 h
      · have h := o_neg c21 h
        refine e_aload_n hg dX11_mend_91 rfl ?_
        refine e_iconst (v := 5) hg dX11_mend_92 (by decide) ?_
        refine e_iload_n hg dX11_mend_93 rfl ?_
        refine e_iadd hg dX11_mend_94 ?_
        refine e_iload_n hg dX11_mend_95 rfl ?_
        obtain ⟨v22, M23, hc24, h⟩ := o_bd h
        refine m_callVI (rest := []) (v := v22) (M' := M23) (ci := 11) hg mfX11_becomes mvX11_becomes (X11_becomes_ok (r := (v22, M23)) hc24) lk_1228 dX11_mend_96 io_82 rfl rfl rfl (by omega) (Nat.le_of_ble_eq_true rfl) ?_
        refine e_goto hg 103 dX11_mend_99 (by decide) ?_
        exact m_iret hg hr dX11_mend_103 h
  have h := o_neg c13 h
  by_cases c25 : a2 = 2
  · have h := o_pos c25 h
    refine e_tabIn (v := 2) hg 104 dX11_mend_1 c25 (by decide) (by decide) rfl (by decide) ?_
    refine e_aload_n hg dX11_mend_104 rfl ?_
    refine e_iload_n hg dX11_mend_105 rfl ?_
    obtain ⟨v26, M27, hc28, h⟩ := o_bd h
    refine m_callVI (rest := []) (v := v26) (M' := M27) (ci := 11) hg mfX11_isPerson mvX11_isPerson (X11_isPerson_ok (r := (v26, M27)) hc28) lk_1224 dX11_mend_106 io_82 rfl rfl rfl (by omega) (Nat.le_of_ble_eq_true rfl) ?_
    refine e_ifeq hg 136 dX11_mend_109 (by decide) (fun c29 => ?_) (fun c29 => ?_)
    · have h := o_pos c29 h
      refine e_iconst (v := -1) hg dX11_mend_136 (by decide) ?_
      exact m_iret hg hr dX11_mend_137 h
    · have h := o_neg c29 h
      refine e_iload_n hg dX11_mend_112 rfl ?_
      refine e_i2l hg dX11_mend_113 ?_
      refine e_lconst (v := 0) hg dX11_mend_114 (by decide) ?_
      refine e_ldc2 hg dX11_mend_115 lk_1232 ?_
      obtain ⟨v30, M31, hc32, h⟩ := o_bd h
      refine m_callSI (rest := []) (v := v30) (M' := M31) hg mfX11_within mvX11_within (X11_within_ok (r := (v30, M31)) hc32) lk_1190 dX11_mend_118 rfl rfl (by omega) (Nat.le_of_ble_eq_true rfl) ?_
      refine e_ifeq hg 136 dX11_mend_121 (by decide) (fun c33 => ?_) (fun c33 => ?_)
      · have h := o_pos c33 h
        refine e_iconst (v := -1) hg dX11_mend_136 (by decide) ?_
        exact m_iret hg hr dX11_mend_137 h
      · have h := o_neg c33 h
        refine e_aload_n hg dX11_mend_124 rfl ?_
        refine e_bipush (v := 10) hg dX11_mend_125 (by decide) ?_
        refine e_iload_n hg dX11_mend_127 rfl ?_
        refine e_iadd hg dX11_mend_128 ?_
        refine e_iload_n hg dX11_mend_129 rfl ?_
        obtain ⟨v34, M35, hc36, h⟩ := o_bd h
        refine m_callVI (rest := []) (v := v34) (M' := M35) (ci := 11) hg mfX11_becomes mvX11_becomes (X11_becomes_ok (r := (v34, M35)) hc36) lk_1228 dX11_mend_130 io_82 rfl rfl rfl (by omega) (Nat.le_of_ble_eq_true rfl) ?_
        refine e_goto hg 137 dX11_mend_133 (by decide) ?_
        exact m_iret hg hr dX11_mend_137 h
  have h := o_neg c25 h
  by_cases c37 : a2 = 3
  · have h := o_pos c37 h
    refine e_tabIn (v := 3) hg 138 dX11_mend_1 c37 (by decide) (by decide) rfl (by decide) ?_
    refine e_aload_n hg dX11_mend_138 rfl ?_
    refine e_iload_n hg dX11_mend_139 rfl ?_
    obtain ⟨v38, M39, hc40, h⟩ := o_bd h
    refine m_callVI (rest := []) (v := v38) (M' := M39) (ci := 11) hg mfX11_isThing mvX11_isThing (X11_isThing_ok (r := (v38, M39)) hc40) lk_1233 dX11_mend_140 io_82 rfl rfl rfl (by omega) (Nat.le_of_ble_eq_true rfl) ?_
    refine e_ifeq hg 170 dX11_mend_143 (by decide) (fun c41 => ?_) (fun c41 => ?_)
    · have h := o_pos c41 h
      refine e_iconst (v := -1) hg dX11_mend_170 (by decide) ?_
      exact m_iret hg hr dX11_mend_171 h
    · have h := o_neg c41 h
      refine e_iload_n hg dX11_mend_146 rfl ?_
      refine e_i2l hg dX11_mend_147 ?_
      refine e_lconst (v := 0) hg dX11_mend_148 (by decide) ?_
      refine e_ldc2 hg dX11_mend_149 lk_1193 ?_
      obtain ⟨v42, M43, hc44, h⟩ := o_bd h
      refine m_callSI (rest := []) (v := v42) (M' := M43) hg mfX11_within mvX11_within (X11_within_ok (r := (v42, M43)) hc44) lk_1190 dX11_mend_152 rfl rfl (by omega) (Nat.le_of_ble_eq_true rfl) ?_
      refine e_ifeq hg 170 dX11_mend_155 (by decide) (fun c45 => ?_) (fun c45 => ?_)
      · have h := o_pos c45 h
        refine e_iconst (v := -1) hg dX11_mend_170 (by decide) ?_
        exact m_iret hg hr dX11_mend_171 h
      · have h := o_neg c45 h
        refine e_aload_n hg dX11_mend_158 rfl ?_
        refine e_bipush (v := 15) hg dX11_mend_159 (by decide) ?_
        refine e_iload_n hg dX11_mend_161 rfl ?_
        refine e_iadd hg dX11_mend_162 ?_
        refine e_iload_n hg dX11_mend_163 rfl ?_
        obtain ⟨v46, M47, hc48, h⟩ := o_bd h
        refine m_callVI (rest := []) (v := v46) (M' := M47) (ci := 11) hg mfX11_becomes mvX11_becomes (X11_becomes_ok (r := (v46, M47)) hc48) lk_1228 dX11_mend_164 io_82 rfl rfl rfl (by omega) (Nat.le_of_ble_eq_true rfl) ?_
        refine e_goto hg 171 dX11_mend_167 (by decide) ?_
        exact m_iret hg hr dX11_mend_171 h
  have h := o_neg c37 h
  by_cases c49 : a2 = 4
  · have h := o_pos c49 h
    refine e_tabIn (v := 4) hg 172 dX11_mend_1 c49 (by decide) (by decide) rfl (by decide) ?_
    refine e_aload_n hg dX11_mend_172 rfl ?_
    refine e_iload_n hg dX11_mend_173 rfl ?_
    obtain ⟨v50, M51, hc52, h⟩ := o_bd h
    refine m_callVI (rest := []) (v := v50) (M' := M51) (ci := 11) hg mfX11_isThing mvX11_isThing (X11_isThing_ok (r := (v50, M51)) hc52) lk_1233 dX11_mend_174 io_82 rfl rfl rfl (by omega) (Nat.le_of_ble_eq_true rfl) ?_
    refine e_ifeq hg 204 dX11_mend_177 (by decide) (fun c53 => ?_) (fun c53 => ?_)
    · have h := o_pos c53 h
      refine e_iconst (v := -1) hg dX11_mend_204 (by decide) ?_
      exact m_iret hg hr dX11_mend_205 h
    · have h := o_neg c53 h
      refine e_iload_n hg dX11_mend_180 rfl ?_
      refine e_i2l hg dX11_mend_181 ?_
      refine e_lconst (v := 0) hg dX11_mend_182 (by decide) ?_
      refine e_ldc2 hg dX11_mend_183 lk_1193 ?_
      obtain ⟨v54, M55, hc56, h⟩ := o_bd h
      refine m_callSI (rest := []) (v := v54) (M' := M55) hg mfX11_within mvX11_within (X11_within_ok (r := (v54, M55)) hc56) lk_1190 dX11_mend_186 rfl rfl (by omega) (Nat.le_of_ble_eq_true rfl) ?_
      refine e_ifeq hg 204 dX11_mend_189 (by decide) (fun c57 => ?_) (fun c57 => ?_)
      · have h := o_pos c57 h
        refine e_iconst (v := -1) hg dX11_mend_204 (by decide) ?_
        exact m_iret hg hr dX11_mend_205 h
      · have h := o_neg c57 h
        refine e_aload_n hg dX11_mend_192 rfl ?_
        refine e_bipush (v := 21) hg dX11_mend_193 (by decide) ?_
        refine e_iload_n hg dX11_mend_195 rfl ?_
        refine e_iadd hg dX11_mend_196 ?_
        refine e_iload_n hg dX11_mend_197 rfl ?_
        obtain ⟨v58, M59, hc60, h⟩ := o_bd h
        refine m_callVI (rest := []) (v := v58) (M' := M59) (ci := 11) hg mfX11_becomes mvX11_becomes (X11_becomes_ok (r := (v58, M59)) hc60) lk_1228 dX11_mend_198 io_82 rfl rfl rfl (by omega) (Nat.le_of_ble_eq_true rfl) ?_
        refine e_goto hg 205 dX11_mend_201 (by decide) ?_
        exact m_iret hg hr dX11_mend_205 h
  have h := o_neg c49 h
  by_cases c61 : a2 = 5
  · have h := o_pos c61 h
    refine e_tabIn (v := 5) hg 206 dX11_mend_1 c61 (by decide) (by decide) rfl (by decide) ?_
    refine e_aload_n hg dX11_mend_206 rfl ?_
    refine e_iload_n hg dX11_mend_207 rfl ?_
    obtain ⟨v62, M63, hc64, h⟩ := o_bd h
    refine m_callVI (rest := []) (v := v62) (M' := M63) (ci := 11) hg mfX11_isThing mvX11_isThing (X11_isThing_ok (r := (v62, M63)) hc64) lk_1233 dX11_mend_208 io_82 rfl rfl rfl (by omega) (Nat.le_of_ble_eq_true rfl) ?_
    refine e_ifeq hg 238 dX11_mend_211 (by decide) (fun c65 => ?_) (fun c65 => ?_)
    · have h := o_pos c65 h
      refine e_iconst (v := -1) hg dX11_mend_238 (by decide) ?_
      exact m_iret hg hr dX11_mend_239 h
    · have h := o_neg c65 h
      refine e_iload_n hg dX11_mend_214 rfl ?_
      refine e_i2l hg dX11_mend_215 ?_
      refine e_lconst (v := 0) hg dX11_mend_216 (by decide) ?_
      refine e_ldc2 hg dX11_mend_217 lk_1213 ?_
      obtain ⟨v66, M67, hc68, h⟩ := o_bd h
      refine m_callSI (rest := []) (v := v66) (M' := M67) hg mfX11_within mvX11_within (X11_within_ok (r := (v66, M67)) hc68) lk_1190 dX11_mend_220 rfl rfl (by omega) (Nat.le_of_ble_eq_true rfl) ?_
      refine e_ifeq hg 238 dX11_mend_223 (by decide) (fun c69 => ?_) (fun c69 => ?_)
      · have h := o_pos c69 h
        refine e_iconst (v := -1) hg dX11_mend_238 (by decide) ?_
        exact m_iret hg hr dX11_mend_239 h
      · have h := o_neg c69 h
        refine e_aload_n hg dX11_mend_226 rfl ?_
        refine e_bipush (v := 27) hg dX11_mend_227 (by decide) ?_
        refine e_iload_n hg dX11_mend_229 rfl ?_
        refine e_iadd hg dX11_mend_230 ?_
        refine e_iload_n hg dX11_mend_231 rfl ?_
        obtain ⟨v70, M71, hc72, h⟩ := o_bd h
        refine m_callVI (rest := []) (v := v70) (M' := M71) (ci := 11) hg mfX11_becomes mvX11_becomes (X11_becomes_ok (r := (v70, M71)) hc72) lk_1228 dX11_mend_232 io_82 rfl rfl rfl (by omega) (Nat.le_of_ble_eq_true rfl) ?_
        refine e_goto hg 239 dX11_mend_235 (by decide) ?_
        exact m_iret hg hr dX11_mend_239 h
  have h := o_neg c61 h
  refine e_tabOut hg 240 dX11_mend_1 (by have e_c1 := ne_toIntL (n := 0) (by decide) c1; have e_c13 := ne_toIntL (n := 1) (by decide) c13; have e_c25 := ne_toIntL (n := 2) (by decide) c25; have e_c37 := ne_toIntL (n := 3) (by decide) c37; have e_c49 := ne_toIntL (n := 4) (by decide) c49; have e_c61 := ne_toIntL (n := 5) (by decide) c61; omega) (by decide) ?_
  refine e_iconst (v := -1) hg dX11_mend_240 (by decide) ?_
  exact m_iret hg hr dX11_mend_241 h

