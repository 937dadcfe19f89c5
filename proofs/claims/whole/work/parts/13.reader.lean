def X5_levelOf (a0 : Int32) (M : mm) : Option (Int32 × mm) :=
  if a0 = 37 then
    some (4, M)
  else
  if a0 = 38 then
    some (1, M)
  else
  if a0 = 42 then
    some (4, M)
  else
  if a0 = 43 then
    some (3, M)
  else
  if a0 = 45 then
    some (3, M)
  else
  if a0 = 47 then
    some (4, M)
  else
  if a0 = 60 then
    some (2, M)
  else
  if a0 = 61 then
    some (2, M)
  else
  if a0 = 62 then
    some (2, M)
  else
  if a0 = 124 then
    some (0, M)
  else
  some (5, M)
set_option maxRecDepth 100000 in
set_option maxHeartbeats 4000000 in
theorem X5_levelOf_ok {a0 : Int32} {M : mm} {r : Int32 × mm} (h : X5_levelOf a0 M = some r) : CM yX5_levelOf cX5_levelOf 1 (some .int) 0 [.int a0] (cells M) (some (.int r.1)) (cells r.2) := by
  refine cm_of (ls := [some (.int a0)]) mfX5_levelOf rfl (Nat.le_of_ble_eq_true rfl) (fun g hg hr => ?_)
  unfold X5_levelOf at h
  refine e_iload_n hg dX5_levelOf_0 rfl ?_
  by_cases c1 : a0 = 37
  · have h := o_pos c1 h
    refine e_lookup hg 100 dX5_levelOf_1 (by decide) (by rw [c1] <;> decide) (by decide) ?_
    refine e_iconst (v := 4) hg dX5_levelOf_100 (by decide) ?_
    exact m_iret hg hr dX5_levelOf_101 h
  have h := o_neg c1 h
  by_cases c2 : a0 = 38
  · have h := o_pos c2 h
    refine e_lookup hg 94 dX5_levelOf_1 (by decide) (by rw [c2] <;> decide) (by decide) ?_
    refine e_iconst (v := 1) hg dX5_levelOf_94 (by decide) ?_
    exact m_iret hg hr dX5_levelOf_95 h
  have h := o_neg c2 h
  by_cases c3 : a0 = 42
  · have h := o_pos c3 h
    refine e_lookup hg 100 dX5_levelOf_1 (by decide) (by rw [c3] <;> decide) (by decide) ?_
    refine e_iconst (v := 4) hg dX5_levelOf_100 (by decide) ?_
    exact m_iret hg hr dX5_levelOf_101 h
  have h := o_neg c3 h
  by_cases c4 : a0 = 43
  · have h := o_pos c4 h
    refine e_lookup hg 98 dX5_levelOf_1 (by decide) (by rw [c4] <;> decide) (by decide) ?_
    refine e_iconst (v := 3) hg dX5_levelOf_98 (by decide) ?_
    exact m_iret hg hr dX5_levelOf_99 h
  have h := o_neg c4 h
  by_cases c5 : a0 = 45
  · have h := o_pos c5 h
    refine e_lookup hg 98 dX5_levelOf_1 (by decide) (by rw [c5] <;> decide) (by decide) ?_
    refine e_iconst (v := 3) hg dX5_levelOf_98 (by decide) ?_
    exact m_iret hg hr dX5_levelOf_99 h
  have h := o_neg c5 h
  by_cases c6 : a0 = 47
  · have h := o_pos c6 h
    refine e_lookup hg 100 dX5_levelOf_1 (by decide) (by rw [c6] <;> decide) (by decide) ?_
    refine e_iconst (v := 4) hg dX5_levelOf_100 (by decide) ?_
    exact m_iret hg hr dX5_levelOf_101 h
  have h := o_neg c6 h
  by_cases c7 : a0 = 60
  · have h := o_pos c7 h
    refine e_lookup hg 96 dX5_levelOf_1 (by decide) (by rw [c7] <;> decide) (by decide) ?_
    refine e_iconst (v := 2) hg dX5_levelOf_96 (by decide) ?_
    exact m_iret hg hr dX5_levelOf_97 h
  have h := o_neg c7 h
  by_cases c8 : a0 = 61
  · have h := o_pos c8 h
    refine e_lookup hg 96 dX5_levelOf_1 (by decide) (by rw [c8] <;> decide) (by decide) ?_
    refine e_iconst (v := 2) hg dX5_levelOf_96 (by decide) ?_
    exact m_iret hg hr dX5_levelOf_97 h
  have h := o_neg c8 h
  by_cases c9 : a0 = 62
  · have h := o_pos c9 h
    refine e_lookup hg 96 dX5_levelOf_1 (by decide) (by rw [c9] <;> decide) (by decide) ?_
    refine e_iconst (v := 2) hg dX5_levelOf_96 (by decide) ?_
    exact m_iret hg hr dX5_levelOf_97 h
  have h := o_neg c9 h
  by_cases c10 : a0 = 124
  · have h := o_pos c10 h
    refine e_lookup hg 92 dX5_levelOf_1 (by decide) (by rw [c10] <;> decide) (by decide) ?_
    refine e_iconst (v := 0) hg dX5_levelOf_92 (by decide) ?_
    exact m_iret hg hr dX5_levelOf_93 h
  have h := o_neg c10 h
  refine e_lookup (off := 101) hg 102 dX5_levelOf_1 (by decide) (by have e_c1 := Ne.symm (ne_toIntL (n := 37) (by decide) c1); have e_c2 := Ne.symm (ne_toIntL (n := 38) (by decide) c2); have e_c3 := Ne.symm (ne_toIntL (n := 42) (by decide) c3); have e_c4 := Ne.symm (ne_toIntL (n := 43) (by decide) c4); have e_c5 := Ne.symm (ne_toIntL (n := 45) (by decide) c5); have e_c6 := Ne.symm (ne_toIntL (n := 47) (by decide) c6); have e_c7 := Ne.symm (ne_toIntL (n := 60) (by decide) c7); have e_c8 := Ne.symm (ne_toIntL (n := 61) (by decide) c8); have e_c9 := Ne.symm (ne_toIntL (n := 62) (by decide) c9); have e_c10 := Ne.symm (ne_toIntL (n := 124) (by decide) c10); simp [Op.lookupswitch.offset, e_c1, e_c2, e_c3, e_c4, e_c5, e_c6, e_c7, e_c8, e_c9, e_c10]) (by decide) ?_
  refine e_iconst (v := 5) hg dX5_levelOf_102 (by decide) ?_
  exact m_iret hg hr dX5_levelOf_103 h

def X5_next  (M : mm) : Option (Int32 × mm) :=
  if (M.1 11 2) < 0 then
    some ((-1), M)
  else
    if (M.1 11 2) < (M.1 11 1) then
      gd (isA 0 (M.2.2 0)) <|
      gd (inb (M.1 11 2) (alN (M.2.2 0))) <|
      some ((M.1 (M.2.2 0) (M.1 11 2).toNatClampNeg), M)
    else
      some ((-1), M)
set_option maxRecDepth 100000 in
set_option maxHeartbeats 4000000 in
theorem X5_next_ok  {M : mm} {r : Int32 × mm} (h : X5_next  M = some r) : CM yX5_next cX5_next 1 (some .int) 0 [.ref 11] (cells M) (some (.int r.1)) (cells r.2) := by
  refine cm_of (ls := [some (.ref 11)]) mfX5_next rfl (Nat.le_of_ble_eq_true rfl) (fun g hg hr => ?_)
  unfold X5_next at h
  refine e_aload_n hg dX5_next_0 rfl ?_
  refine m_getI hg ciX5 2 lk_195 dX5_next_1 io_11 (Nat.le_of_ble_eq_true rfl) rfl ?_
  refine e_iflt hg 30 dX5_next_4 (by decide) (fun c1 => ?_) (fun c1 => ?_)
  · have h := o_pos c1 h
    refine e_iconst (v := -1) hg dX5_next_30 (by decide) ?_
    exact m_iret hg hr dX5_next_31 h
  · have h := o_neg c1 h
    refine e_aload_n hg dX5_next_7 rfl ?_
    refine m_getI hg ciX5 2 lk_195 dX5_next_8 io_11 (Nat.le_of_ble_eq_true rfl) rfl ?_
    refine e_aload_n hg dX5_next_11 rfl ?_
    refine m_getI hg ciX5 1 lk_194 dX5_next_12 io_11 (Nat.le_of_ble_eq_true rfl) rfl ?_
    refine e_icmpge hg 30 dX5_next_15 (by decide) (fun c2 => ?_) (fun c2 => ?_)
    · have h := o_pos c2 h
      refine e_aload_n hg dX5_next_18 rfl ?_
      refine m_getV (i := 0) hg ciX5 0 lk_193 dX5_next_19 io_11 (Nat.le_of_ble_eq_true rfl) rfl (by decide) ?_
      refine e_aload_n hg dX5_next_22 rfl ?_
      refine m_getI hg ciX5 2 lk_195 dX5_next_23 io_11 (Nat.le_of_ble_eq_true rfl) rfl ?_
      obtain ⟨hA3, h⟩ := o_gd h
      obtain ⟨hi4, h⟩ := o_gd h
      refine m_iald hg (isA_spec hA3) hi4 dX5_next_26 ?_
      refine e_goto hg 31 dX5_next_27 (by decide) ?_
      exact m_iret hg hr dX5_next_31 h
    · have h := o_neg c2 h
      refine e_iconst (v := -1) hg dX5_next_30 (by decide) ?_
      exact m_iret hg hr dX5_next_31 h

def X5_number_L4 (K56 : Int32 → mm → Option (Int32 × mm)) : Nat → Int32 → Int32 → mm → Option (Int32 × mm)
  | 0, _, _, _ => none
  | n_ + 1, x1, x2, M =>
    if x2 < 4 then
      bd (X5_next M) fun v2 M3 =>
      if v2 < 48 then
        K56 x1 M3
      else
        bd (X5_next M3) fun v6 M7 =>
        if 57 < v6 then
          K56 x1 M7
        else
          bd (X5_next M7) fun v10 M11 =>
          lt_ (sA M11 11 (upd (M11.1 11) 2 ((M11.1 11 2) + 1))) fun M13 =>
          (X5_number_L4 K56 n_) (((x1 * 10) + v10) - 48) (x2 + 1) M13
    else
      K56 x1 M
set_option maxRecDepth 100000 in
set_option maxHeartbeats 4000000 in
theorem X5_number_L4_ok {g : gx} (hg : EC g cX5_number RX5 1) {r : Int32 × mm} (hr : RT g (some .boolean) (0, 0) (some (.int r.1)) (cells r.2)) {K56 : Int32 → mm → Option (Int32 × mm)} (hK56 : ∀ (x1 : Int32) (o2 : Option Value) (M : mm), K56 x1 M = some r → E g (0, 0) 56 [some (.ref 11), some (.int x1), o2] [] (cells M)) : ∀ (n_ : Nat) (x1 : Int32) (x2 : Int32) (M : mm), X5_number_L4 K56 n_ x1 x2 M = some r → E g (0, 0) 4 [some (.ref 11), some (.int x1), some (.int x2)] [] (cells M) := by
  intro n_
  induction n_ with
  | zero => intro x1 x2 M h; exact o_no h
  | succ n_ ih =>
    intro x1 x2 M h
    rw [X5_number_L4] at h
    refine e_iload_n hg dX5_number_4 rfl ?_
    refine e_iconst (v := 4) hg dX5_number_5 (by decide) ?_
    refine e_icmpge hg 56 dX5_number_6 (by decide) (fun c1 => ?_) (fun c1 => ?_)
    · have h := o_pos c1 h
      refine e_aload_n hg dX5_number_9 rfl ?_
      obtain ⟨v2, M3, hc4, h⟩ := o_bd h
      refine m_callVI (rest := []) (v := v2) (M' := M3) (ci := 5) hg mfX5_next mvX5_next (X5_next_ok (r := (v2, M3)) hc4) lk_632 dX5_number_10 io_11 rfl rfl rfl (by omega) (Nat.le_of_ble_eq_true rfl) ?_
      refine e_bipush (v := 48) hg dX5_number_13 (by decide) ?_
      refine e_icmplt hg 56 dX5_number_15 (by decide) (fun c5 => ?_) (fun c5 => ?_)
      · have h := o_pos c5 h
        exact hK56 _ _ _ h
      · have h := o_neg c5 h
        refine e_aload_n hg dX5_number_18 rfl ?_
        obtain ⟨v6, M7, hc8, h⟩ := o_bd h
        refine m_callVI (rest := []) (v := v6) (M' := M7) (ci := 5) hg mfX5_next mvX5_next (X5_next_ok (r := (v6, M7)) hc8) lk_632 dX5_number_19 io_11 rfl rfl rfl (by omega) (Nat.le_of_ble_eq_true rfl) ?_
        refine e_bipush (v := 57) hg dX5_number_22 (by decide) ?_
        refine e_icmpgt hg 56 dX5_number_24 (by decide) (fun c9 => ?_) (fun c9 => ?_)
        · have h := o_pos c9 h
          exact hK56 _ _ _ h
        · have h := o_neg c9 h
          refine e_iload_n hg dX5_number_27 rfl ?_
          refine e_bipush (v := 10) hg dX5_number_28 (by decide) ?_
          refine e_imul hg dX5_number_30 ?_
          refine e_aload_n hg dX5_number_31 rfl ?_
          obtain ⟨v10, M11, hc12, h⟩ := o_bd h
          refine m_callVI (rest := [.int (x1 * 10)]) (v := v10) (M' := M11) (ci := 5) hg mfX5_next mvX5_next (X5_next_ok (r := (v10, M11)) hc12) lk_632 dX5_number_32 io_11 rfl rfl rfl (by omega) (Nat.le_of_ble_eq_true rfl) ?_
          refine e_iadd hg dX5_number_35 ?_
          refine e_bipush (v := 48) hg dX5_number_36 (by decide) ?_
          refine e_isub hg dX5_number_38 ?_
          refine e_istore_n (ls' := [some (.ref 11), some (.int (((x1 * 10) + v10) - 48)), some (.int x2)]) hg dX5_number_39 rfl ?_
          refine e_aload_n hg dX5_number_40 rfl ?_
          refine e_dup hg dX5_number_41 rfl ?_
          refine m_getI hg ciX5 2 lk_195 dX5_number_42 io_11 (Nat.le_of_ble_eq_true rfl) rfl ?_
          refine e_iconst (v := 1) hg dX5_number_45 (by decide) ?_
          refine e_iadd hg dX5_number_46 ?_
          obtain ⟨M13, hM13, h⟩ := o_lt h
          refine m_putI hg ciX5 2 lk_195 dX5_number_47 io_11 (Nat.le_of_ble_eq_true rfl) rfl rfl rfl rfl ?_
          rw [← hM13]
          refine e_iinc (v := (x2 + 1)) (ls' := [some (.ref 11), some (.int (((x1 * 10) + v10) - 48)), some (.int (x2 + 1))]) hg dX5_number_50 rfl rfl rfl ?_
          refine e_goto hg 4 dX5_number_53 (by decide) ?_
          exact ih _ _ _ h
    · have h := o_neg c1 h
      exact hK56 _ _ _ h

def X5_number_b56 (x1 : Int32) (M : mm) : Option (Int32 × mm) :=
  bd (X7_add 13 48 x1 M) fun u14 M15 =>
  some (1, M15)
set_option maxRecDepth 100000 in
set_option maxHeartbeats 4000000 in
theorem X5_number_b56_ok {g : gx} (hg : EC g cX5_number RX5 1) {r : Int32 × mm} (hr : RT g (some .boolean) (0, 0) (some (.int r.1)) (cells r.2)) {x1 : Int32} {o2 : Option Value} {M : mm} (h : X5_number_b56 x1 M = some r) : E g (0, 0) 56 [some (.ref 11), some (.int x1), o2] [] (cells M) := by
  unfold X5_number_b56 at h
  refine e_aload_n hg dX5_number_56 rfl ?_
  refine m_getR (q := 13) hg ciX5 3 lk_196 dX5_number_57 io_11 (Nat.le_of_ble_eq_true rfl) rfl rf_11_3 ?_
  refine e_bipush (v := 48) hg dX5_number_60 (by decide) ?_
  refine e_iload_n hg dX5_number_62 rfl ?_
  obtain ⟨u14, M15, hc16, h⟩ := o_bd h
  refine m_callVV (rest := []) (M' := M15) (ci := 7) hg mfX7_add mvX7_add (X7_add_ok (r := (u14, M15)) hc16) lk_640 dX5_number_63 io_13 rfl rfl rfl (by omega) (Nat.le_of_ble_eq_true rfl) ?_
  refine e_iconst (v := 1) hg dX5_number_66 (by decide) ?_
  exact m_zret hg hr rfl dX5_number_67 h

def X5_number  (M : mm) : Option (Int32 × mm) :=
  X5_number_L4 (fun x1 M =>
      X5_number_b56 x1 M) 10000 0 0 M
set_option maxRecDepth 100000 in
set_option maxHeartbeats 4000000 in
theorem X5_number_ok  {M : mm} {r : Int32 × mm} (h : X5_number  M = some r) : CM yX5_number cX5_number 3 (some .boolean) 1 [.ref 11] (cells M) (some (.int r.1)) (cells r.2) := by
  refine cm_of (ls := [some (.ref 11), none, none]) mfX5_number rfl (Nat.le_of_ble_eq_true rfl) (fun g hg hr => ?_)
  unfold X5_number at h
  refine e_iconst (v := 0) hg dX5_number_0 (by decide) ?_
  refine e_istore_n (ls' := [some (.ref 11), some (.int 0), none]) hg dX5_number_1 rfl ?_
  refine e_iconst (v := 0) hg dX5_number_2 (by decide) ?_
  refine e_istore_n (ls' := [some (.ref 11), some (.int 0), some (.int 0)]) hg dX5_number_3 rfl ?_
  refine X5_number_L4_ok hg hr (fun x1 o2 M h => ?_) 10000 _ _ _ h
  exact X5_number_b56_ok hg hr  h

def X5_binary_L41 (rec : Nat → Int32 → Int32 → mm → Option (Int32 × mm)) (a1 : Int32) (a2 : Int32) : Nat → Int32 → Int32 → mm → Option (Int32 × mm)
  | 0, _, _, _ => none
  | n_ + 1, x3, x4, M =>
    if x4 < x3 then
      bd (X5_next M) fun v8 M9 =>
      bd (X5_levelOf v8 M9) fun v11 M12 =>
      if v11 = a1 then
        lt_ (sA M12 11 (upd (M12.1 11) 2 ((M12.1 11 2) + 1))) fun M15 =>
        bd (rec 0 (a1 + 1) a2 M15) fun v16 M17 =>
        if v16 = 0 then
          some (0, M17)
        else
          bd (X7_add 13 v8 0 M17) fun u20 M21 =>
          (X5_binary_L41 rec a1 a2 n_) x3 (x4 + 1) M21
      else
        some (1, M12)
    else
      some (1, M)
set_option maxRecDepth 100000 in
set_option maxHeartbeats 4000000 in
theorem X5_binary_L41_ok {dd : Nat} {g : gx} (hg : EC g cX5_binary RX5 (dd + 1)) (hdd : 2 ≤ dd) {rec : Nat → Int32 → Int32 → mm → Option (Int32 × mm)} (hrec0 : ∀ (y0 y1 : Int32) (M : mm) (q : Int32 × mm), rec 0 y0 y1 M = some q → CM yX5_binary cX5_binary 6 (some .boolean) dd [.ref 11, .int y0, .int y1] (cells M) (some (.int q.1)) (cells q.2)) (hrec1 : ∀ (y0 y1 : Int32) (M : mm) (q : Int32 × mm), rec 1 y0 y1 M = some q → CM yX5_operand cX5_operand 3 (some .boolean) dd [.ref 11, .int y0] (cells M) (some (.int q.1)) (cells q.2)) {a1 : Int32} {a2 : Int32} {r : Int32 × mm} (hr : RT g (some .boolean) (0, 0) (some (.int r.1)) (cells r.2)) : ∀ (n_ : Nat) (x3 : Int32) (x4 : Int32) (o5 : Option Value) (M : mm), X5_binary_L41 rec a1 a2 n_ x3 x4 M = some r → E g (0, 0) 41 [some (.ref 11), some (.int a1), some (.int a2), some (.int x3), some (.int x4), o5] [] (cells M) := by
  intro n_
  induction n_ with
  | zero => intro x3 x4 o5 M h; exact o_no h
  | succ n_ ih =>
    intro x3 x4 o5 M h
    rw [X5_binary_L41] at h
    refine e_iload hg dX5_binary_41 rfl ?_
    refine e_iload_n hg dX5_binary_43 rfl ?_
    refine e_icmpge hg 103 dX5_binary_44 (by decide) (fun c7 => ?_) (fun c7 => ?_)
    · have h := o_pos c7 h
      refine e_aload_n hg dX5_binary_47 rfl ?_
      obtain ⟨v8, M9, hc10, h⟩ := o_bd h
      refine m_callVI (rest := []) (v := v8) (M' := M9) (ci := 5) hg mfX5_next mvX5_next (X5_next_ok (r := (v8, M9)) hc10) lk_632 dX5_binary_48 io_11 rfl rfl rfl (by omega) (Nat.le_of_ble_eq_true rfl) ?_
      refine e_istore (ls' := [some (.ref 11), some (.int a1), some (.int a2), some (.int x3), some (.int x4), some (.int v8)]) hg dX5_binary_51 rfl ?_
      refine e_iload hg dX5_binary_53 rfl ?_
      obtain ⟨v11, M12, hc13, h⟩ := o_bd h
      refine m_callSI (rest := []) (v := v11) (M' := M12) hg mfX5_levelOf mvX5_levelOf (X5_levelOf_ok (r := (v11, M12)) hc13) lk_644 dX5_binary_55 rfl rfl (by omega) (Nat.le_of_ble_eq_true rfl) ?_
      refine e_iload_n hg dX5_binary_58 rfl ?_
      refine e_icmpeq hg 64 dX5_binary_59 (by decide) (fun c14 => ?_) (fun c14 => ?_)
      · have h := o_pos c14 h
        refine e_aload_n hg dX5_binary_64 rfl ?_
        refine e_dup hg dX5_binary_65 rfl ?_
        refine m_getI hg ciX5 2 lk_195 dX5_binary_66 io_11 (Nat.le_of_ble_eq_true rfl) rfl ?_
        refine e_iconst (v := 1) hg dX5_binary_69 (by decide) ?_
        refine e_iadd hg dX5_binary_70 ?_
        obtain ⟨M15, hM15, h⟩ := o_lt h
        refine m_putI hg ciX5 2 lk_195 dX5_binary_71 io_11 (Nat.le_of_ble_eq_true rfl) rfl rfl rfl rfl ?_
        rw [← hM15]
        refine e_aload_n hg dX5_binary_74 rfl ?_
        refine e_iload_n hg dX5_binary_75 rfl ?_
        refine e_iconst (v := 1) hg dX5_binary_76 (by decide) ?_
        refine e_iadd hg dX5_binary_77 ?_
        refine e_iload_n hg dX5_binary_78 rfl ?_
        obtain ⟨v16, M17, hc18, h⟩ := o_bd h
        refine m_callVI (rest := []) (v := v16) (M' := M17) (ci := 5) hg mfX5_binary mvX5_binary (hrec0 _ _ _ (v16, M17) hc18) lk_624 dX5_binary_79 io_11 rfl rfl rfl (by omega) (Nat.le_of_ble_eq_true rfl) ?_
        refine e_ifne hg 87 dX5_binary_82 (by decide) (fun c19 => ?_) (fun c19 => ?_)
        · have h := o_pos c19 h
          refine e_iconst (v := 0) hg dX5_binary_85 (by decide) ?_
          exact m_zret hg hr rfl dX5_binary_86 h
        · have h := o_neg c19 h
          refine e_aload_n hg dX5_binary_87 rfl ?_
          refine m_getR (q := 13) hg ciX5 3 lk_196 dX5_binary_88 io_11 (Nat.le_of_ble_eq_true rfl) rfl rf_11_3 ?_
          refine e_iload hg dX5_binary_91 rfl ?_
          refine e_iconst (v := 0) hg dX5_binary_93 (by decide) ?_
          obtain ⟨u20, M21, hc22, h⟩ := o_bd h
          refine m_callVV (rest := []) (M' := M21) (ci := 7) hg mfX7_add mvX7_add (X7_add_ok (r := (u20, M21)) hc22) lk_640 dX5_binary_94 io_13 rfl rfl rfl (by omega) (Nat.le_of_ble_eq_true rfl) ?_
          refine e_iinc (v := (x4 + 1)) (ls' := [some (.ref 11), some (.int a1), some (.int a2), some (.int x3), some (.int (x4 + 1)), some (.int v8)]) hg dX5_binary_97 rfl rfl rfl ?_
          refine e_goto hg 41 dX5_binary_100 (by decide) ?_
          exact ih _ _ _ _ h
      · have h := o_neg c14 h
        refine e_iconst (v := 1) hg dX5_binary_62 (by decide) ?_
        exact m_zret hg hr rfl dX5_binary_63 h
    · have h := o_neg c7 h
      refine e_iconst (v := 1) hg dX5_binary_103 (by decide) ?_
      exact m_zret hg hr rfl dX5_binary_104 h

def X5_binary_b37 (rec : Nat → Int32 → Int32 → mm → Option (Int32 × mm)) (a1 : Int32) (a2 : Int32) (s0 : Int32) (M : mm) : Option (Int32 × mm) :=
  X5_binary_L41 rec a1 a2 10000 s0 0 M
set_option maxRecDepth 100000 in
set_option maxHeartbeats 4000000 in
theorem X5_binary_b37_ok {dd : Nat} {g : gx} (hg : EC g cX5_binary RX5 (dd + 1)) (hdd : 2 ≤ dd) {rec : Nat → Int32 → Int32 → mm → Option (Int32 × mm)} (hrec0 : ∀ (y0 y1 : Int32) (M : mm) (q : Int32 × mm), rec 0 y0 y1 M = some q → CM yX5_binary cX5_binary 6 (some .boolean) dd [.ref 11, .int y0, .int y1] (cells M) (some (.int q.1)) (cells q.2)) (hrec1 : ∀ (y0 y1 : Int32) (M : mm) (q : Int32 × mm), rec 1 y0 y1 M = some q → CM yX5_operand cX5_operand 3 (some .boolean) dd [.ref 11, .int y0] (cells M) (some (.int q.1)) (cells q.2)) {a1 : Int32} {a2 : Int32} {r : Int32 × mm} (hr : RT g (some .boolean) (0, 0) (some (.int r.1)) (cells r.2)) {s0 : Int32} {o3 : Option Value} {o4 : Option Value} {o5 : Option Value} {M : mm} (h : X5_binary_b37 rec a1 a2 s0 M = some r) : E g (0, 0) 37 [some (.ref 11), some (.int a1), some (.int a2), o3, o4, o5] [.int s0] (cells M) := by
  unfold X5_binary_b37 at h
  refine e_istore_n (ls' := [some (.ref 11), some (.int a1), some (.int a2), some (.int s0), o4, o5]) hg dX5_binary_37 rfl ?_
  refine e_iconst (v := 0) hg dX5_binary_38 (by decide) ?_
  refine e_istore (ls' := [some (.ref 11), some (.int a1), some (.int a2), some (.int s0), some (.int 0), o5]) hg dX5_binary_39 rfl ?_
  exact X5_binary_L41_ok hg hdd hrec0 hrec1 hr  10000 _ _ _ _ h

def X5_binary_B (rec : Nat → Int32 → Int32 → mm → Option (Int32 × mm)) (a1 : Int32) (a2 : Int32) (M : mm) : Option (Int32 × mm) :=
  if a1 < 5 then
    bd (rec 0 (a1 + 1) a2 M) fun v2 M3 =>
    if v2 = 0 then
      some (0, M3)
    else
      X5_binary_b37 rec a1 a2 (if a1 = 2 then 1 else (M3.1 11 1)) M3
  else
    bd (rec 1 a2 0 M) fun v23 M24 =>
    gd (decide (v23 = 0 ∨ v23 = 1)) <|
    some (v23, M24)
set_option maxRecDepth 100000 in
set_option maxHeartbeats 4000000 in
theorem X5_binary_B_ok {dd : Nat} (hdd : 2 ≤ dd) {rec : Nat → Int32 → Int32 → mm → Option (Int32 × mm)} (hrec0 : ∀ (y0 y1 : Int32) (M : mm) (q : Int32 × mm), rec 0 y0 y1 M = some q → CM yX5_binary cX5_binary 6 (some .boolean) dd [.ref 11, .int y0, .int y1] (cells M) (some (.int q.1)) (cells q.2)) (hrec1 : ∀ (y0 y1 : Int32) (M : mm) (q : Int32 × mm), rec 1 y0 y1 M = some q → CM yX5_operand cX5_operand 3 (some .boolean) dd [.ref 11, .int y0] (cells M) (some (.int q.1)) (cells q.2)) {a1 : Int32} {a2 : Int32} {M : mm} {r : Int32 × mm} (h : X5_binary_B rec a1 a2 M = some r) : CM yX5_binary cX5_binary 6 (some .boolean) (dd + 1) [.ref 11, .int a1, .int a2] (cells M) (some (.int r.1)) (cells r.2) := by
  refine cm_of (ls := [some (.ref 11), some (.int a1), some (.int a2), none, none, none]) mfX5_binary rfl (Nat.le_of_ble_eq_true rfl) (fun g hg hr => ?_)
  unfold X5_binary_B at h
  refine e_iload_n hg dX5_binary_0 rfl ?_
  refine e_iconst (v := 5) hg dX5_binary_1 (by decide) ?_
  refine e_icmplt hg 11 dX5_binary_2 (by decide) (fun c1 => ?_) (fun c1 => ?_)
  · have h := o_pos c1 h
    refine e_aload_n hg dX5_binary_11 rfl ?_
    refine e_iload_n hg dX5_binary_12 rfl ?_
    refine e_iconst (v := 1) hg dX5_binary_13 (by decide) ?_
    refine e_iadd hg dX5_binary_14 ?_
    refine e_iload_n hg dX5_binary_15 rfl ?_
    obtain ⟨v2, M3, hc4, h⟩ := o_bd h
    refine m_callVI (rest := []) (v := v2) (M' := M3) (ci := 5) hg mfX5_binary mvX5_binary (hrec0 _ _ _ (v2, M3) hc4) lk_624 dX5_binary_16 io_11 rfl rfl rfl (by omega) (Nat.le_of_ble_eq_true rfl) ?_
    refine e_ifne hg 24 dX5_binary_19 (by decide) (fun c5 => ?_) (fun c5 => ?_)
    · have h := o_pos c5 h
      refine e_iconst (v := 0) hg dX5_binary_22 (by decide) ?_
      exact m_zret hg hr rfl dX5_binary_23 h
    · have h := o_neg c5 h
      refine e_iload_n hg dX5_binary_24 rfl ?_
      refine e_iconst (v := 2) hg dX5_binary_25 (by decide) ?_
      refine e_icmpne hg 33 dX5_binary_26 (by decide) (fun c6 => ?_) (fun c6 => ?_)
      · simp only [if_pos c6] at h
        refine e_iconst (v := 1) hg dX5_binary_29 (by decide) ?_
        refine e_goto hg 37 dX5_binary_30 (by decide) ?_
        exact X5_binary_b37_ok hg hdd hrec0 hrec1 hr  h
      · simp only [if_neg c6] at h
        refine e_aload_n hg dX5_binary_33 rfl ?_
        refine m_getI hg ciX5 1 lk_194 dX5_binary_34 io_11 (Nat.le_of_ble_eq_true rfl) rfl ?_
        exact X5_binary_b37_ok hg hdd hrec0 hrec1 hr  h
  · have h := o_neg c1 h
    refine e_aload_n hg dX5_binary_5 rfl ?_
    refine e_iload_n hg dX5_binary_6 rfl ?_
    obtain ⟨v23, M24, hc25, h⟩ := o_bd h
    refine m_callVI (rest := []) (v := v23) (M' := M24) (ci := 5) hg mfX5_operand mvX5_operand (hrec1 _ _ _ (v23, M24) hc25) lk_628 dX5_binary_7 io_11 rfl rfl rfl (by omega) (Nat.le_of_ble_eq_true rfl) ?_
    obtain ⟨hb26, h⟩ := o_gd h
    exact m_zret hg hr (nb_of (of_decide_eq_true hb26)) dX5_binary_10 h

def X5_operand_b46 (rec : Nat → Int32 → Int32 → mm → Option (Int32 × mm)) (a1 : Int32) (x2 : Int32) (M : mm) : Option (Int32 × mm) :=
  lt_ (sA M 11 (upd (M.1 11) 2 ((M.1 11 2) + 1))) fun M6 =>
  bd (X7_add 13 x2 0 M6) fun u7 M8 =>
  some (1, M8)
set_option maxRecDepth 100000 in
set_option maxHeartbeats 4000000 in
theorem X5_operand_b46_ok {dd : Nat} {g : gx} (hg : EC g cX5_operand RX5 (dd + 1)) (hdd : 2 ≤ dd) {rec : Nat → Int32 → Int32 → mm → Option (Int32 × mm)} (hrec0 : ∀ (y0 y1 : Int32) (M : mm) (q : Int32 × mm), rec 0 y0 y1 M = some q → CM yX5_binary cX5_binary 6 (some .boolean) dd [.ref 11, .int y0, .int y1] (cells M) (some (.int q.1)) (cells q.2)) (hrec1 : ∀ (y0 y1 : Int32) (M : mm) (q : Int32 × mm), rec 1 y0 y1 M = some q → CM yX5_operand cX5_operand 3 (some .boolean) dd [.ref 11, .int y0] (cells M) (some (.int q.1)) (cells q.2)) {a1 : Int32} {r : Int32 × mm} (hr : RT g (some .boolean) (0, 0) (some (.int r.1)) (cells r.2)) {x2 : Int32} {M : mm} (h : X5_operand_b46 rec a1 x2 M = some r) : E g (0, 0) 46 [some (.ref 11), some (.int a1), some (.int x2)] [] (cells M) := by
  unfold X5_operand_b46 at h
  refine e_aload_n hg dX5_operand_46 rfl ?_
  refine e_dup hg dX5_operand_47 rfl ?_
  refine m_getI hg ciX5 2 lk_195 dX5_operand_48 io_11 (Nat.le_of_ble_eq_true rfl) rfl ?_
  refine e_iconst (v := 1) hg dX5_operand_51 (by decide) ?_
  refine e_iadd hg dX5_operand_52 ?_
  obtain ⟨M6, hM6, h⟩ := o_lt h
  refine m_putI hg ciX5 2 lk_195 dX5_operand_53 io_11 (Nat.le_of_ble_eq_true rfl) rfl rfl rfl rfl ?_
  rw [← hM6]
  refine e_aload_n hg dX5_operand_56 rfl ?_
  refine m_getR (q := 13) hg ciX5 3 lk_196 dX5_operand_57 io_11 (Nat.le_of_ble_eq_true rfl) rfl rf_11_3 ?_
  refine e_iload_n hg dX5_operand_60 rfl ?_
  refine e_iconst (v := 0) hg dX5_operand_61 (by decide) ?_
  obtain ⟨u7, M8, hc9, h⟩ := o_bd h
  refine m_callVV (rest := []) (M' := M8) (ci := 7) hg mfX7_add mvX7_add (X7_add_ok (r := (u7, M8)) hc9) lk_640 dX5_operand_62 io_13 rfl rfl rfl (by omega) (Nat.le_of_ble_eq_true rfl) ?_
  refine e_iconst (v := 1) hg dX5_operand_65 (by decide) ?_
  exact m_zret hg hr rfl dX5_operand_66 h

def X5_operand_b171 (rec : Nat → Int32 → Int32 → mm → Option (Int32 × mm)) (a1 : Int32) (s1 : Int32) (M : mm) : Option (Int32 × mm) :=
  bd (X7_add 13 s1 0 M) fun u31 M32 =>
  some (1, M32)
set_option maxRecDepth 100000 in
set_option maxHeartbeats 4000000 in
theorem X5_operand_b171_ok {dd : Nat} {g : gx} (hg : EC g cX5_operand RX5 (dd + 1)) (hdd : 2 ≤ dd) {rec : Nat → Int32 → Int32 → mm → Option (Int32 × mm)} (hrec0 : ∀ (y0 y1 : Int32) (M : mm) (q : Int32 × mm), rec 0 y0 y1 M = some q → CM yX5_binary cX5_binary 6 (some .boolean) dd [.ref 11, .int y0, .int y1] (cells M) (some (.int q.1)) (cells q.2)) (hrec1 : ∀ (y0 y1 : Int32) (M : mm) (q : Int32 × mm), rec 1 y0 y1 M = some q → CM yX5_operand cX5_operand 3 (some .boolean) dd [.ref 11, .int y0] (cells M) (some (.int q.1)) (cells q.2)) {a1 : Int32} {r : Int32 × mm} (hr : RT g (some .boolean) (0, 0) (some (.int r.1)) (cells r.2)) {s1 : Int32} {o2 : Option Value} {M : mm} (h : X5_operand_b171 rec a1 s1 M = some r) : E g (0, 0) 171 [some (.ref 11), some (.int a1), o2] [.int s1, .ref 13] (cells M) := by
  unfold X5_operand_b171 at h
  refine e_iconst (v := 0) hg dX5_operand_171 (by decide) ?_
  obtain ⟨u31, M32, hc33, h⟩ := o_bd h
  refine m_callVV (rest := []) (M' := M32) (ci := 7) hg mfX7_add mvX7_add (X7_add_ok (r := (u31, M32)) hc33) lk_640 dX5_operand_172 io_13 rfl rfl rfl (by omega) (Nat.le_of_ble_eq_true rfl) ?_
  refine e_iconst (v := 1) hg dX5_operand_175 (by decide) ?_
  exact m_zret hg hr rfl dX5_operand_176 h

def X5_operand_b93 (rec : Nat → Int32 → Int32 → mm → Option (Int32 × mm)) (a1 : Int32) (x2 : Int32) (M : mm) : Option (Int32 × mm) :=
  lt_ (sA M 11 (upd (M.1 11) 2 ((M.1 11 2) + 1))) fun M15 =>
  if x2 = 40 then
    bd (rec 0 0 (a1 + 1) M15) fun v17 M18 =>
    if v17 = 0 then
      some (0, M18)
    else
      bd (X5_next M18) fun v21 M22 =>
      if v21 = 41 then
        lt_ (sA M22 11 (upd (M22.1 11) 2 ((M22.1 11 2) + 1))) fun M25 =>
        some (1, M25)
      else
        some (0, M22)
  else
    bd (rec 1 (a1 + 1) 0 M15) fun v26 M27 =>
    if v26 = 0 then
      some (0, M27)
    else
      X5_operand_b171 rec a1 (if x2 = 45 then 126 else x2) M27
set_option maxRecDepth 100000 in
set_option maxHeartbeats 4000000 in
theorem X5_operand_b93_ok {dd : Nat} {g : gx} (hg : EC g cX5_operand RX5 (dd + 1)) (hdd : 2 ≤ dd) {rec : Nat → Int32 → Int32 → mm → Option (Int32 × mm)} (hrec0 : ∀ (y0 y1 : Int32) (M : mm) (q : Int32 × mm), rec 0 y0 y1 M = some q → CM yX5_binary cX5_binary 6 (some .boolean) dd [.ref 11, .int y0, .int y1] (cells M) (some (.int q.1)) (cells q.2)) (hrec1 : ∀ (y0 y1 : Int32) (M : mm) (q : Int32 × mm), rec 1 y0 y1 M = some q → CM yX5_operand cX5_operand 3 (some .boolean) dd [.ref 11, .int y0] (cells M) (some (.int q.1)) (cells q.2)) {a1 : Int32} {r : Int32 × mm} (hr : RT g (some .boolean) (0, 0) (some (.int r.1)) (cells r.2)) {x2 : Int32} {M : mm} (h : X5_operand_b93 rec a1 x2 M = some r) : E g (0, 0) 93 [some (.ref 11), some (.int a1), some (.int x2)] [] (cells M) := by
  unfold X5_operand_b93 at h
  refine e_aload_n hg dX5_operand_93 rfl ?_
  refine e_dup hg dX5_operand_94 rfl ?_
  refine m_getI hg ciX5 2 lk_195 dX5_operand_95 io_11 (Nat.le_of_ble_eq_true rfl) rfl ?_
  refine e_iconst (v := 1) hg dX5_operand_98 (by decide) ?_
  refine e_iadd hg dX5_operand_99 ?_
  obtain ⟨M15, hM15, h⟩ := o_lt h
  refine m_putI hg ciX5 2 lk_195 dX5_operand_100 io_11 (Nat.le_of_ble_eq_true rfl) rfl rfl rfl rfl ?_
  rw [← hM15]
  refine e_iload_n hg dX5_operand_103 rfl ?_
  refine e_bipush (v := 40) hg dX5_operand_104 (by decide) ?_
  refine e_icmpne hg 143 dX5_operand_106 (by decide) (fun c16 => ?_) (fun c16 => ?_)
  · have h := o_pos c16 h
    refine e_aload_n hg dX5_operand_109 rfl ?_
    refine e_iconst (v := 0) hg dX5_operand_110 (by decide) ?_
    refine e_iload_n hg dX5_operand_111 rfl ?_
    refine e_iconst (v := 1) hg dX5_operand_112 (by decide) ?_
    refine e_iadd hg dX5_operand_113 ?_
    obtain ⟨v17, M18, hc19, h⟩ := o_bd h
    refine m_callVI (rest := []) (v := v17) (M' := M18) (ci := 5) hg mfX5_binary mvX5_binary (hrec0 _ _ _ (v17, M18) hc19) lk_624 dX5_operand_114 io_11 rfl rfl rfl (by omega) (Nat.le_of_ble_eq_true rfl) ?_
    refine e_ifeq hg 129 dX5_operand_117 (by decide) (fun c20 => ?_) (fun c20 => ?_)
    · have h := o_pos c20 h
      refine e_iconst (v := 0) hg dX5_operand_129 (by decide) ?_
      exact m_zret hg hr rfl dX5_operand_130 h
    · have h := o_neg c20 h
      refine e_aload_n hg dX5_operand_120 rfl ?_
      obtain ⟨v21, M22, hc23, h⟩ := o_bd h
      refine m_callVI (rest := []) (v := v21) (M' := M22) (ci := 5) hg mfX5_next mvX5_next (X5_next_ok (r := (v21, M22)) hc23) lk_632 dX5_operand_121 io_11 rfl rfl rfl (by omega) (Nat.le_of_ble_eq_true rfl) ?_
      refine e_bipush (v := 41) hg dX5_operand_124 (by decide) ?_
      refine e_icmpeq hg 131 dX5_operand_126 (by decide) (fun c24 => ?_) (fun c24 => ?_)
      · have h := o_pos c24 h
        refine e_aload_n hg dX5_operand_131 rfl ?_
        refine e_dup hg dX5_operand_132 rfl ?_
        refine m_getI hg ciX5 2 lk_195 dX5_operand_133 io_11 (Nat.le_of_ble_eq_true rfl) rfl ?_
        refine e_iconst (v := 1) hg dX5_operand_136 (by decide) ?_
        refine e_iadd hg dX5_operand_137 ?_
        obtain ⟨M25, hM25, h⟩ := o_lt h
        refine m_putI hg ciX5 2 lk_195 dX5_operand_138 io_11 (Nat.le_of_ble_eq_true rfl) rfl rfl rfl rfl ?_
        rw [← hM25]
        refine e_iconst (v := 1) hg dX5_operand_141 (by decide) ?_
        exact m_zret hg hr rfl dX5_operand_142 h
      · have h := o_neg c24 h
        refine e_iconst (v := 0) hg dX5_operand_129 (by decide) ?_
        exact m_zret hg hr rfl dX5_operand_130 h
  · have h := o_neg c16 h
    refine e_aload_n hg dX5_operand_143 rfl ?_
    refine e_iload_n hg dX5_operand_144 rfl ?_
    refine e_iconst (v := 1) hg dX5_operand_145 (by decide) ?_
    refine e_iadd hg dX5_operand_146 ?_
    obtain ⟨v26, M27, hc28, h⟩ := o_bd h
    refine m_callVI (rest := []) (v := v26) (M' := M27) (ci := 5) hg mfX5_operand mvX5_operand (hrec1 _ _ _ (v26, M27) hc28) lk_628 dX5_operand_147 io_11 rfl rfl rfl (by omega) (Nat.le_of_ble_eq_true rfl) ?_
    refine e_ifne hg 155 dX5_operand_150 (by decide) (fun c29 => ?_) (fun c29 => ?_)
    · have h := o_pos c29 h
      refine e_iconst (v := 0) hg dX5_operand_153 (by decide) ?_
      exact m_zret hg hr rfl dX5_operand_154 h
    · have h := o_neg c29 h
      refine e_aload_n hg dX5_operand_155 rfl ?_
      refine m_getR (q := 13) hg ciX5 3 lk_196 dX5_operand_156 io_11 (Nat.le_of_ble_eq_true rfl) rfl rf_11_3 ?_
      refine e_iload_n hg dX5_operand_159 rfl ?_
      refine e_bipush (v := 45) hg dX5_operand_160 (by decide) ?_
      refine e_icmpne hg 170 dX5_operand_162 (by decide) (fun c30 => ?_) (fun c30 => ?_)
      · simp only [if_pos c30] at h
        refine e_bipush (v := 126) hg dX5_operand_165 (by decide) ?_
        refine e_goto hg 171 dX5_operand_167 (by decide) ?_
        exact X5_operand_b171_ok hg hdd hrec0 hrec1 hr  h
      · simp only [if_neg c30] at h
        refine e_iload_n hg dX5_operand_170 rfl ?_
        exact X5_operand_b171_ok hg hdd hrec0 hrec1 hr  h

def X5_operand_b22 (rec : Nat → Int32 → Int32 → mm → Option (Int32 × mm)) (a1 : Int32) (x2 : Int32) (M : mm) : Option (Int32 × mm) :=
  if x2 = 115 then
    X5_operand_b46 rec a1 x2 M
  else
    if x2 = 116 then
      X5_operand_b46 rec a1 x2 M
    else
      if x2 = 97 then
        X5_operand_b46 rec a1 x2 M
      else
        if x2 = 108 then
          X5_operand_b46 rec a1 x2 M
        else
          if a1 < 6 then
            if x2 = 40 then
              X5_operand_b93 rec a1 x2 M
            else
              if x2 = 33 then
                X5_operand_b93 rec a1 x2 M
              else
                if x2 = 45 then
                  X5_operand_b93 rec a1 x2 M
                else
                  some (0, M)
          else
            some (0, M)
set_option maxRecDepth 100000 in
set_option maxHeartbeats 4000000 in
theorem X5_operand_b22_ok {dd : Nat} {g : gx} (hg : EC g cX5_operand RX5 (dd + 1)) (hdd : 2 ≤ dd) {rec : Nat → Int32 → Int32 → mm → Option (Int32 × mm)} (hrec0 : ∀ (y0 y1 : Int32) (M : mm) (q : Int32 × mm), rec 0 y0 y1 M = some q → CM yX5_binary cX5_binary 6 (some .boolean) dd [.ref 11, .int y0, .int y1] (cells M) (some (.int q.1)) (cells q.2)) (hrec1 : ∀ (y0 y1 : Int32) (M : mm) (q : Int32 × mm), rec 1 y0 y1 M = some q → CM yX5_operand cX5_operand 3 (some .boolean) dd [.ref 11, .int y0] (cells M) (some (.int q.1)) (cells q.2)) {a1 : Int32} {r : Int32 × mm} (hr : RT g (some .boolean) (0, 0) (some (.int r.1)) (cells r.2)) {x2 : Int32} {M : mm} (h : X5_operand_b22 rec a1 x2 M = some r) : E g (0, 0) 22 [some (.ref 11), some (.int a1), some (.int x2)] [] (cells M) := by
  unfold X5_operand_b22 at h
  refine e_iload_n hg dX5_operand_22 rfl ?_
  refine e_bipush (v := 115) hg dX5_operand_23 (by decide) ?_
  refine e_icmpeq hg 46 dX5_operand_25 (by decide) (fun c5 => ?_) (fun c5 => ?_)
  · have h := o_pos c5 h
    exact X5_operand_b46_ok hg hdd hrec0 hrec1 hr  h
  · have h := o_neg c5 h
    refine e_iload_n hg dX5_operand_28 rfl ?_
    refine e_bipush (v := 116) hg dX5_operand_29 (by decide) ?_
    refine e_icmpeq hg 46 dX5_operand_31 (by decide) (fun c10 => ?_) (fun c10 => ?_)
    · have h := o_pos c10 h
      exact X5_operand_b46_ok hg hdd hrec0 hrec1 hr  h
    · have h := o_neg c10 h
      refine e_iload_n hg dX5_operand_34 rfl ?_
      refine e_bipush (v := 97) hg dX5_operand_35 (by decide) ?_
      refine e_icmpeq hg 46 dX5_operand_37 (by decide) (fun c11 => ?_) (fun c11 => ?_)
      · have h := o_pos c11 h
        exact X5_operand_b46_ok hg hdd hrec0 hrec1 hr  h
      · have h := o_neg c11 h
        refine e_iload_n hg dX5_operand_40 rfl ?_
        refine e_bipush (v := 108) hg dX5_operand_41 (by decide) ?_
        refine e_icmpne hg 67 dX5_operand_43 (by decide) (fun c12 => ?_) (fun c12 => ?_)
        · have h := o_pos c12 h
          exact X5_operand_b46_ok hg hdd hrec0 hrec1 hr  h
        · have h := o_neg c12 h
          refine e_iload_n hg dX5_operand_67 rfl ?_
          refine e_bipush (v := 6) hg dX5_operand_68 (by decide) ?_
          refine e_icmpge hg 91 dX5_operand_70 (by decide) (fun c13 => ?_) (fun c13 => ?_)
          · have h := o_pos c13 h
            refine e_iload_n hg dX5_operand_73 rfl ?_
            refine e_bipush (v := 40) hg dX5_operand_74 (by decide) ?_
            refine e_icmpeq hg 93 dX5_operand_76 (by decide) (fun c14 => ?_) (fun c14 => ?_)
            · have h := o_pos c14 h
              exact X5_operand_b93_ok hg hdd hrec0 hrec1 hr  h
            · have h := o_neg c14 h
              refine e_iload_n hg dX5_operand_79 rfl ?_
              refine e_bipush (v := 33) hg dX5_operand_80 (by decide) ?_
              refine e_icmpeq hg 93 dX5_operand_82 (by decide) (fun c34 => ?_) (fun c34 => ?_)
              · have h := o_pos c34 h
                exact X5_operand_b93_ok hg hdd hrec0 hrec1 hr  h
              · have h := o_neg c34 h
                refine e_iload_n hg dX5_operand_85 rfl ?_
                refine e_bipush (v := 45) hg dX5_operand_86 (by decide) ?_
                refine e_icmpeq hg 93 dX5_operand_88 (by decide) (fun c35 => ?_) (fun c35 => ?_)
                · have h := o_pos c35 h
                  exact X5_operand_b93_ok hg hdd hrec0 hrec1 hr  h
                · have h := o_neg c35 h
                  refine e_iconst (v := 0) hg dX5_operand_91 (by decide) ?_
                  exact m_zret hg hr rfl dX5_operand_92 h
          · have h := o_neg c13 h
            refine e_iconst (v := 0) hg dX5_operand_91 (by decide) ?_
            exact m_zret hg hr rfl dX5_operand_92 h

def X5_operand_B (rec : Nat → Int32 → Int32 → mm → Option (Int32 × mm)) (a1 : Int32) (M : mm) : Option (Int32 × mm) :=
  bd (X5_next M) fun v1 M2 =>
  if v1 < 48 then
    X5_operand_b22 rec a1 v1 M2
  else
    if 57 < v1 then
      X5_operand_b22 rec a1 v1 M2
    else
      bd (X5_number M2) fun v37 M38 =>
      gd (decide (v37 = 0 ∨ v37 = 1)) <|
      some (v37, M38)
set_option maxRecDepth 100000 in
set_option maxHeartbeats 4000000 in
theorem X5_operand_B_ok {dd : Nat} (hdd : 2 ≤ dd) {rec : Nat → Int32 → Int32 → mm → Option (Int32 × mm)} (hrec0 : ∀ (y0 y1 : Int32) (M : mm) (q : Int32 × mm), rec 0 y0 y1 M = some q → CM yX5_binary cX5_binary 6 (some .boolean) dd [.ref 11, .int y0, .int y1] (cells M) (some (.int q.1)) (cells q.2)) (hrec1 : ∀ (y0 y1 : Int32) (M : mm) (q : Int32 × mm), rec 1 y0 y1 M = some q → CM yX5_operand cX5_operand 3 (some .boolean) dd [.ref 11, .int y0] (cells M) (some (.int q.1)) (cells q.2)) {a1 : Int32} {M : mm} {r : Int32 × mm} (h : X5_operand_B rec a1 M = some r) : CM yX5_operand cX5_operand 3 (some .boolean) (dd + 1) [.ref 11, .int a1] (cells M) (some (.int r.1)) (cells r.2) := by
  refine cm_of (ls := [some (.ref 11), some (.int a1), none]) mfX5_operand rfl (Nat.le_of_ble_eq_true rfl) (fun g hg hr => ?_)
  unfold X5_operand_B at h
  refine e_aload_n hg dX5_operand_0 rfl ?_
  obtain ⟨v1, M2, hc3, h⟩ := o_bd h
  refine m_callVI (rest := []) (v := v1) (M' := M2) (ci := 5) hg mfX5_next mvX5_next (X5_next_ok (r := (v1, M2)) hc3) lk_632 dX5_operand_1 io_11 rfl rfl rfl (by omega) (Nat.le_of_ble_eq_true rfl) ?_
  refine e_istore_n (ls' := [some (.ref 11), some (.int a1), some (.int v1)]) hg dX5_operand_4 rfl ?_
  refine e_iload_n hg dX5_operand_5 rfl ?_
  refine e_bipush (v := 48) hg dX5_operand_6 (by decide) ?_
  refine e_icmplt hg 22 dX5_operand_8 (by decide) (fun c4 => ?_) (fun c4 => ?_)
  · have h := o_pos c4 h
    exact X5_operand_b22_ok hg hdd hrec0 hrec1 hr  h
  · have h := o_neg c4 h
    refine e_iload_n hg dX5_operand_11 rfl ?_
    refine e_bipush (v := 57) hg dX5_operand_12 (by decide) ?_
    refine e_icmpgt hg 22 dX5_operand_14 (by decide) (fun c36 => ?_) (fun c36 => ?_)
    · have h := o_pos c36 h
      exact X5_operand_b22_ok hg hdd hrec0 hrec1 hr  h
    · have h := o_neg c36 h
      refine e_aload_n hg dX5_operand_17 rfl ?_
      obtain ⟨v37, M38, hc39, h⟩ := o_bd h
      refine m_callVI (rest := []) (v := v37) (M' := M38) (ci := 5) hg mfX5_number mvX5_number (X5_number_ok (r := (v37, M38)) hc39) lk_636 dX5_operand_18 io_11 rfl rfl rfl (by omega) (Nat.le_of_ble_eq_true rfl) ?_
      obtain ⟨hb40, h⟩ := o_gd h
      exact m_zret hg hr (nb_of (of_decide_eq_true hb40)) dX5_operand_21 h

def G_X5_binary : Nat → Nat → Int32 → Int32 → mm → Option (Int32 × mm)
  | 0, _, _, _, _ => none
  | n_ + 1, t_, y0, y1, M => match t_ with
    | 0 => X5_binary_B (G_X5_binary n_) y0 y1 M
    | _ => X5_operand_B (G_X5_binary n_) y0 M
set_option maxRecDepth 100000 in
set_option maxHeartbeats 4000000 in
theorem G_X5_binary_ok : ∀ n_ : Nat, (∀ (y0 y1 : Int32) (M : mm) (q : Int32 × mm), G_X5_binary n_ 0 y0 y1 M = some q → CM yX5_binary cX5_binary 6 (some .boolean) (2 + n_) [.ref 11, .int y0, .int y1] (cells M) (some (.int q.1)) (cells q.2)) ∧ (∀ (y0 y1 : Int32) (M : mm) (q : Int32 × mm), G_X5_binary n_ 1 y0 y1 M = some q → CM yX5_operand cX5_operand 3 (some .boolean) (2 + n_) [.ref 11, .int y0] (cells M) (some (.int q.1)) (cells q.2)) := by
  intro n_
  induction n_ with
  | zero => exact ⟨fun _ _ _ _ h => o_no h, fun _ _ _ _ h => o_no h⟩
  | succ n_ ih =>
    exact ⟨fun _ _ _ _ h => X5_binary_B_ok (by omega) ih.1 ih.2 h, fun _ _ _ _ h => X5_operand_B_ok (by omega) ih.1 ih.2 h⟩
def X5_binary (a1 : Int32) (a2 : Int32) (M : mm) : Option (Int32 × mm) := G_X5_binary 100 0 a1 a2 M
theorem X5_binary_ok {a1 : Int32} {a2 : Int32} {M : mm} {r : Int32 × mm} (h : X5_binary a1 a2 M = some r) : CM yX5_binary cX5_binary 6 (some .boolean) 102 [.ref 11, .int a1, .int a2] (cells M) (some (.int r.1)) (cells r.2) := (G_X5_binary_ok 100).1 _ _ _ _ h
def X5_operand (a1 : Int32) (M : mm) : Option (Int32 × mm) := G_X5_binary 100 1 a1 0 M
theorem X5_operand_ok {a1 : Int32} {M : mm} {r : Int32 × mm} (h : X5_operand a1 M = some r) : CM yX5_operand cX5_operand 3 (some .boolean) 102 [.ref 11, .int a1] (cells M) (some (.int r.1)) (cells r.2) := (G_X5_binary_ok 100).2 _ _ _ _ h
def X5_line_b51 (M : mm) : Option (Int32 × mm) :=
  bd (X7_add 13 59 0 M) fun u17 M18 =>
  some (1, M18)
set_option maxRecDepth 100000 in
set_option maxHeartbeats 4000000 in
theorem X5_line_b51_ok {g : gx} (hg : EC g cX5_line RX5 103) {r : Int32 × mm} (hr : RT g (some .boolean) (0, 0) (some (.int r.1)) (cells r.2)) {M : mm} (h : X5_line_b51 M = some r) : E g (0, 0) 51 [some (.ref 11)] [] (cells M) := by
  unfold X5_line_b51 at h
  refine e_aload_n hg dX5_line_51 rfl ?_
  refine m_getR (q := 13) hg ciX5 3 lk_196 dX5_line_52 io_11 (Nat.le_of_ble_eq_true rfl) rfl rf_11_3 ?_
  refine e_bipush (v := 59) hg dX5_line_55 (by decide) ?_
  refine e_iconst (v := 0) hg dX5_line_57 (by decide) ?_
  obtain ⟨u17, M18, hc19, h⟩ := o_bd h
  refine m_callVV (rest := []) (M' := M18) (ci := 7) hg mfX7_add mvX7_add (X7_add_ok (r := (u17, M18)) hc19) lk_640 dX5_line_58 io_13 rfl rfl rfl (by omega) (Nat.le_of_ble_eq_true rfl) ?_
  refine e_iconst (v := 1) hg dX5_line_61 (by decide) ?_
  exact m_zret hg hr rfl dX5_line_62 h

def X5_line  (M : mm) : Option (Int32 × mm) :=
  bd (X5_binary 0 0 M) fun v1 M2 =>
  if v1 = 0 then
    some (0, M2)
  else
    bd (X5_next M2) fun v5 M6 =>
    if v5 = 63 then
      lt_ (sA M6 11 (upd (M6.1 11) 2 ((M6.1 11 2) + 1))) fun M9 =>
      bd (X7_add 13 63 0 M9) fun u10 M11 =>
      bd (X5_binary 0 0 M11) fun v13 M14 =>
      if v13 = 0 then
        some (0, M14)
      else
        X5_line_b51 M14
    else
      X5_line_b51 M6
set_option maxRecDepth 100000 in
set_option maxHeartbeats 4000000 in
theorem X5_line_ok  {M : mm} {r : Int32 × mm} (h : X5_line  M = some r) : CM yX5_line cX5_line 1 (some .boolean) 103 [.ref 11] (cells M) (some (.int r.1)) (cells r.2) := by
  refine cm_of (ls := [some (.ref 11)]) mfX5_line rfl (Nat.le_of_ble_eq_true rfl) (fun g hg hr => ?_)
  unfold X5_line at h
  refine e_aload_n hg dX5_line_0 rfl ?_
  refine e_iconst (v := 0) hg dX5_line_1 (by decide) ?_
  refine e_iconst (v := 0) hg dX5_line_2 (by decide) ?_
  obtain ⟨v1, M2, hc3, h⟩ := o_bd h
  refine m_callVI (rest := []) (v := v1) (M' := M2) (ci := 5) hg mfX5_binary mvX5_binary (X5_binary_ok (r := (v1, M2)) hc3) lk_624 dX5_line_3 io_11 rfl rfl rfl (by omega) (Nat.le_of_ble_eq_true rfl) ?_
  refine e_ifne hg 11 dX5_line_6 (by decide) (fun c4 => ?_) (fun c4 => ?_)
  · have h := o_pos c4 h
    refine e_iconst (v := 0) hg dX5_line_9 (by decide) ?_
    exact m_zret hg hr rfl dX5_line_10 h
  · have h := o_neg c4 h
    refine e_aload_n hg dX5_line_11 rfl ?_
    obtain ⟨v5, M6, hc7, h⟩ := o_bd h
    refine m_callVI (rest := []) (v := v5) (M' := M6) (ci := 5) hg mfX5_next mvX5_next (X5_next_ok (r := (v5, M6)) hc7) lk_632 dX5_line_12 io_11 rfl rfl rfl (by omega) (Nat.le_of_ble_eq_true rfl) ?_
    refine e_bipush (v := 63) hg dX5_line_15 (by decide) ?_
    refine e_icmpne hg 51 dX5_line_17 (by decide) (fun c8 => ?_) (fun c8 => ?_)
    · have h := o_pos c8 h
      refine e_aload_n hg dX5_line_20 rfl ?_
      refine e_dup hg dX5_line_21 rfl ?_
      refine m_getI hg ciX5 2 lk_195 dX5_line_22 io_11 (Nat.le_of_ble_eq_true rfl) rfl ?_
      refine e_iconst (v := 1) hg dX5_line_25 (by decide) ?_
      refine e_iadd hg dX5_line_26 ?_
      obtain ⟨M9, hM9, h⟩ := o_lt h
      refine m_putI hg ciX5 2 lk_195 dX5_line_27 io_11 (Nat.le_of_ble_eq_true rfl) rfl rfl rfl rfl ?_
      rw [← hM9]
      refine e_aload_n hg dX5_line_30 rfl ?_
      refine m_getR (q := 13) hg ciX5 3 lk_196 dX5_line_31 io_11 (Nat.le_of_ble_eq_true rfl) rfl rf_11_3 ?_
      refine e_bipush (v := 63) hg dX5_line_34 (by decide) ?_
      refine e_iconst (v := 0) hg dX5_line_36 (by decide) ?_
      obtain ⟨u10, M11, hc12, h⟩ := o_bd h
      refine m_callVV (rest := []) (M' := M11) (ci := 7) hg mfX7_add mvX7_add (X7_add_ok (r := (u10, M11)) hc12) lk_640 dX5_line_37 io_13 rfl rfl rfl (by omega) (Nat.le_of_ble_eq_true rfl) ?_
      refine e_aload_n hg dX5_line_40 rfl ?_
      refine e_iconst (v := 0) hg dX5_line_41 (by decide) ?_
      refine e_iconst (v := 0) hg dX5_line_42 (by decide) ?_
      obtain ⟨v13, M14, hc15, h⟩ := o_bd h
      refine m_callVI (rest := []) (v := v13) (M' := M14) (ci := 5) hg mfX5_binary mvX5_binary (X5_binary_ok (r := (v13, M14)) hc15) lk_624 dX5_line_43 io_11 rfl rfl rfl (by omega) (Nat.le_of_ble_eq_true rfl) ?_
      refine e_ifne hg 51 dX5_line_46 (by decide) (fun c16 => ?_) (fun c16 => ?_)
      · have h := o_pos c16 h
        refine e_iconst (v := 0) hg dX5_line_49 (by decide) ?_
        exact m_zret hg hr rfl dX5_line_50 h
      · have h := o_neg c16 h
        exact X5_line_b51_ok hg hr  h
    · have h := o_neg c8 h
      exact X5_line_b51_ok hg hr  h

def X5_read_L30 (a1 : Nat) (a2 : Int32) : Nat → Int32 → mm → Option (Int32 × mm)
  | 0, _, _ => none
  | n_ + 1, x3, M =>
    if (M.1 11 1) < x3 then
      some ((M.1 11 2), M)
    else
      bd (X5_line M) fun v7 M8 =>
      if v7 = 0 then
        some ((M8.1 11 2), M8)
      else
        if (M8.1 11 2) < (M8.1 11 1) then
          bd (X5_next M8) fun v12 M13 =>
          if v12 = 59 then
            lt_ (sA M13 11 (upd (M13.1 11) 2 ((M13.1 11 2) + 1))) fun M16 =>
            (X5_read_L30 a1 a2 n_) (x3 + 1) M16
          else
            some ((M13.1 11 2), M13)
        else
          some ((-1), M8)
set_option maxRecDepth 100000 in
set_option maxHeartbeats 4000000 in
theorem X5_read_L30_ok {g : gx} (hg : EC g cX5_read RX5 104) {a1 : Nat} {a2 : Int32} {r : Int32 × mm} (hr : RT g (some .int) (0, 0) (some (.int r.1)) (cells r.2)) : ∀ (n_ : Nat) (x3 : Int32) (M : mm), X5_read_L30 a1 a2 n_ x3 M = some r → E g (0, 0) 30 [some (.ref 11), some (.ref a1), some (.int a2), some (.int x3)] [] (cells M) := by
  intro n_
  induction n_ with
  | zero => intro x3 M h; exact o_no h
  | succ n_ ih =>
    intro x3 M h
    rw [X5_read_L30] at h
    refine e_iload_n hg dX5_read_30 rfl ?_
    refine e_aload_n hg dX5_read_31 rfl ?_
    refine m_getI hg ciX5 1 lk_194 dX5_read_32 io_11 (Nat.le_of_ble_eq_true rfl) rfl ?_
    refine e_icmpgt hg 93 dX5_read_35 (by decide) (fun c6 => ?_) (fun c6 => ?_)
    · have h := o_pos c6 h
      refine e_aload_n hg dX5_read_93 rfl ?_
      refine m_getI hg ciX5 2 lk_195 dX5_read_94 io_11 (Nat.le_of_ble_eq_true rfl) rfl ?_
      exact m_iret hg hr dX5_read_97 h
    · have h := o_neg c6 h
      refine e_aload_n hg dX5_read_38 rfl ?_
      obtain ⟨v7, M8, hc9, h⟩ := o_bd h
      refine m_callVI (rest := []) (v := v7) (M' := M8) (ci := 5) hg mfX5_line mvX5_line (X5_line_ok (r := (v7, M8)) hc9) lk_620 dX5_read_39 io_11 rfl rfl rfl (by omega) (Nat.le_of_ble_eq_true rfl) ?_
      refine e_ifne hg 50 dX5_read_42 (by decide) (fun c10 => ?_) (fun c10 => ?_)
      · have h := o_pos c10 h
        refine e_aload_n hg dX5_read_45 rfl ?_
        refine m_getI hg ciX5 2 lk_195 dX5_read_46 io_11 (Nat.le_of_ble_eq_true rfl) rfl ?_
        exact m_iret hg hr dX5_read_49 h
      · have h := o_neg c10 h
        refine e_aload_n hg dX5_read_50 rfl ?_
        refine m_getI hg ciX5 2 lk_195 dX5_read_51 io_11 (Nat.le_of_ble_eq_true rfl) rfl ?_
        refine e_aload_n hg dX5_read_54 rfl ?_
        refine m_getI hg ciX5 1 lk_194 dX5_read_55 io_11 (Nat.le_of_ble_eq_true rfl) rfl ?_
        refine e_icmplt hg 63 dX5_read_58 (by decide) (fun c11 => ?_) (fun c11 => ?_)
        · have h := o_pos c11 h
          refine e_aload_n hg dX5_read_63 rfl ?_
          obtain ⟨v12, M13, hc14, h⟩ := o_bd h
          refine m_callVI (rest := []) (v := v12) (M' := M13) (ci := 5) hg mfX5_next mvX5_next (X5_next_ok (r := (v12, M13)) hc14) lk_632 dX5_read_64 io_11 rfl rfl rfl (by omega) (Nat.le_of_ble_eq_true rfl) ?_
          refine e_bipush (v := 59) hg dX5_read_67 (by decide) ?_
          refine e_icmpeq hg 77 dX5_read_69 (by decide) (fun c15 => ?_) (fun c15 => ?_)
          · have h := o_pos c15 h
            refine e_aload_n hg dX5_read_77 rfl ?_
            refine e_dup hg dX5_read_78 rfl ?_
            refine m_getI hg ciX5 2 lk_195 dX5_read_79 io_11 (Nat.le_of_ble_eq_true rfl) rfl ?_
            refine e_iconst (v := 1) hg dX5_read_82 (by decide) ?_
            refine e_iadd hg dX5_read_83 ?_
            obtain ⟨M16, hM16, h⟩ := o_lt h
            refine m_putI hg ciX5 2 lk_195 dX5_read_84 io_11 (Nat.le_of_ble_eq_true rfl) rfl rfl rfl rfl ?_
            rw [← hM16]
            refine e_iinc (v := (x3 + 1)) (ls' := [some (.ref 11), some (.ref a1), some (.int a2), some (.int (x3 + 1))]) hg dX5_read_87 rfl rfl rfl ?_
            refine e_goto hg 30 dX5_read_90 (by decide) ?_
            exact ih _ _ h
          · have h := o_neg c15 h
            refine e_aload_n hg dX5_read_72 rfl ?_
            refine m_getI hg ciX5 2 lk_195 dX5_read_73 io_11 (Nat.le_of_ble_eq_true rfl) rfl ?_
            exact m_iret hg hr dX5_read_76 h
        · have h := o_neg c11 h
          refine e_iconst (v := -1) hg dX5_read_61 (by decide) ?_
          exact m_iret hg hr dX5_read_62 h

def X5_read (a1 : Nat) (a2 : Int32) (M : mm) : Option (Int32 × mm) :=
  lt_ (sR M 0 a1) fun M1 =>
  gd (isA 0 a1) <|
  lt_ (sA M1 11 (upd (M1.1 11) 1 (if (Int32.ofNat (alN a1)) < a2 then (Int32.ofNat (alN a1)) else a2))) fun M3 =>
  lt_ (sA M3 11 (upd (M3.1 11) 2 0)) fun M4 =>
  lt_ (sA M4 13 (upd (M4.1 13) 0 0)) fun M5 =>
  X5_read_L30 a1 a2 10000 0 M5
set_option maxRecDepth 100000 in
set_option maxHeartbeats 4000000 in
theorem X5_read_ok {a1 : Nat} {a2 : Int32} {M : mm} {r : Int32 × mm} (h : X5_read a1 a2 M = some r) : CM yX5_read cX5_read 4 (some .int) 104 [.ref 11, .ref a1, .int a2] (cells M) (some (.int r.1)) (cells r.2) := by
  refine cm_of (ls := [some (.ref 11), some (.ref a1), some (.int a2), none]) mfX5_read rfl (Nat.le_of_ble_eq_true rfl) (fun g hg hr => ?_)
  unfold X5_read at h
  refine e_aload_n hg dX5_read_0 rfl ?_
  refine e_aload_n hg dX5_read_1 rfl ?_
  obtain ⟨M1, hM1, h⟩ := o_lt h
  refine m_putV (i := 0) hg ciX5 0 lk_193 dX5_read_2 io_11 (Nat.le_of_ble_eq_true rfl) rfl rfl (by decide) (by decide +kernel) (fun _ => rfl) (fun _ => rfl) ?_
  rw [← hM1]
  refine e_aload_n hg dX5_read_5 rfl ?_
  refine e_iload_n hg dX5_read_6 rfl ?_
  refine e_aload_n hg dX5_read_7 rfl ?_
  obtain ⟨hA2, h⟩ := o_gd h
  refine m_alen (v := (Int32.ofNat (alN a1))) hg (isA_spec hA2) (by decide) rfl dX5_read_8 ?_
  refine e_mmin hg lk_619 (Nat.le_of_ble_eq_true rfl) (by omega) (cs0 g) dX5_read_9 ?_
  obtain ⟨M3, hM3, h⟩ := o_lt h
  refine m_putI hg ciX5 1 lk_194 dX5_read_12 io_11 (Nat.le_of_ble_eq_true rfl) rfl rfl rfl rfl ?_
  rw [← hM3]
  refine e_aload_n hg dX5_read_15 rfl ?_
  refine e_iconst (v := 0) hg dX5_read_16 (by decide) ?_
  obtain ⟨M4, hM4, h⟩ := o_lt h
  refine m_putI hg ciX5 2 lk_195 dX5_read_17 io_11 (Nat.le_of_ble_eq_true rfl) rfl rfl rfl rfl ?_
  rw [← hM4]
  refine e_aload_n hg dX5_read_20 rfl ?_
  refine m_getR (q := 13) hg ciX5 3 lk_196 dX5_read_21 io_11 (Nat.le_of_ble_eq_true rfl) rfl rf_11_3 ?_
  refine e_iconst (v := 0) hg dX5_read_24 (by decide) ?_
  obtain ⟨M5, hM5, h⟩ := o_lt h
  refine m_putI hg ciX7 0 lk_180 dX5_read_25 io_13 (Nat.le_of_ble_eq_true rfl) rfl rfl rfl rfl ?_
  rw [← hM5]
  refine e_iconst (v := 0) hg dX5_read_28 (by decide) ?_
  refine e_istore_n (ls' := [some (.ref 11), some (.ref a1), some (.int a2), some (.int 0)]) hg dX5_read_29 rfl ?_
  exact X5_read_L30_ok hg hr  10000 _ _ h

