def X0_add (a1 : Int32) (M : mm) : Option (Int32 × mm) :=
  gd (inb (M.1 66 0) 50) <|
  lt_ (sA M 68 (upd (M.1 68) (M.1 66 0).toNatClampNeg a1)) fun M2 =>
  lt_ (sA M2 66 (upd (M2.1 66) 0 ((M2.1 66 0) + 1))) fun M3 =>
  some ((M2.1 66 0), M3)
set_option maxRecDepth 100000 in
set_option maxHeartbeats 4000000 in
theorem X0_add_ok {a1 : Int32} {M : mm} {r : Int32 × mm} (h : X0_add a1 M = some r) : CM yX0_add cX0_add 2 (some .int) 0 [.ref 66, .int a1] (cells M) (some (.int r.1)) (cells r.2) := by
  refine cm_of (ls := [some (.ref 66), some (.int a1)]) mfX0_add rfl (Nat.le_of_ble_eq_true rfl) (fun g hg hr => ?_)
  unfold X0_add at h
  refine e_aload_n hg dX0_add_0 rfl ?_
  refine m_getR (q := 68) hg ciX0 3 lk_408 dX0_add_1 io_66 (Nat.le_of_ble_eq_true rfl) rfl rf_66_3 ?_
  refine e_aload_n hg dX0_add_4 rfl ?_
  refine m_getI hg ciX0 0 lk_402 dX0_add_5 io_66 (Nat.le_of_ble_eq_true rfl) rfl ?_
  refine e_iload_n hg dX0_add_8 rfl ?_
  obtain ⟨hi1, h⟩ := o_gd h
  obtain ⟨M2, hM2, h⟩ := o_lt h
  refine m_iast hg sh_68 hi1 dX0_add_9 ?_
  rw [← hM2]
  refine e_aload_n hg dX0_add_10 rfl ?_
  refine e_dup hg dX0_add_11 rfl ?_
  refine m_getI hg ciX0 0 lk_402 dX0_add_12 io_66 (Nat.le_of_ble_eq_true rfl) rfl ?_
  refine e_dup_x1 hg dX0_add_15 rfl rfl ?_
  refine e_iconst (v := 1) hg dX0_add_16 (by decide) ?_
  refine e_iadd hg dX0_add_17 ?_
  obtain ⟨M3, hM3, h⟩ := o_lt h
  refine m_putI hg ciX0 0 lk_402 dX0_add_18 io_66 (Nat.le_of_ble_eq_true rfl) rfl rfl rfl rfl ?_
  rw [← hM3]
  exact m_iret hg hr dX0_add_21 h

def X0_kindOf (a1 : Int32) (M : mm) : Option (Int32 × mm) :=
  if a1 < 0 then
    some (0, M)
  else
    if a1 < (M.1 66 0) then
      gd (inb a1 50) <|
      some ((M.1 68 a1.toNatClampNeg), M)
    else
      some (0, M)
set_option maxRecDepth 100000 in
set_option maxHeartbeats 4000000 in
theorem X0_kindOf_ok {a1 : Int32} {M : mm} {r : Int32 × mm} (h : X0_kindOf a1 M = some r) : CM yX0_kindOf cX0_kindOf 2 (some .int) 0 [.ref 66, .int a1] (cells M) (some (.int r.1)) (cells r.2) := by
  refine cm_of (ls := [some (.ref 66), some (.int a1)]) mfX0_kindOf rfl (Nat.le_of_ble_eq_true rfl) (fun g hg hr => ?_)
  unfold X0_kindOf at h
  refine e_iload_n hg dX0_kindOf_0 rfl ?_
  refine e_iflt hg 21 dX0_kindOf_1 (by decide) (fun c1 => ?_) (fun c1 => ?_)
  · have h := o_pos c1 h
    refine e_iconst (v := 0) hg dX0_kindOf_21 (by decide) ?_
    exact m_iret hg hr dX0_kindOf_22 h
  · have h := o_neg c1 h
    refine e_iload_n hg dX0_kindOf_4 rfl ?_
    refine e_aload_n hg dX0_kindOf_5 rfl ?_
    refine m_getI hg ciX0 0 lk_402 dX0_kindOf_6 io_66 (Nat.le_of_ble_eq_true rfl) rfl ?_
    refine e_icmpge hg 21 dX0_kindOf_9 (by decide) (fun c2 => ?_) (fun c2 => ?_)
    · have h := o_pos c2 h
      refine e_aload_n hg dX0_kindOf_12 rfl ?_
      refine m_getR (q := 68) hg ciX0 3 lk_408 dX0_kindOf_13 io_66 (Nat.le_of_ble_eq_true rfl) rfl rf_66_3 ?_
      refine e_iload_n hg dX0_kindOf_16 rfl ?_
      obtain ⟨hi3, h⟩ := o_gd h
      refine m_iald hg sh_68 hi3 dX0_kindOf_17 ?_
      refine e_goto hg 22 dX0_kindOf_18 (by decide) ?_
      exact m_iret hg hr dX0_kindOf_22 h
    · have h := o_neg c2 h
      refine e_iconst (v := 0) hg dX0_kindOf_21 (by decide) ?_
      exact m_iret hg hr dX0_kindOf_22 h

def X0_isOfKind_L9 (a1 : Int32) (a2 : Int32) : Nat → Int32 → Int32 → mm → Option (Int32 × mm)
  | 0, _, _, _ => none
  | n_ + 1, x3, x4, M =>
    if x4 < 8 then
      if x3 < 0 then
        some (0, M)
      else
        if x3 = a2 then
          some (1, M)
        else
          gd (inb x3 8) <|
          (X0_isOfKind_L9 a1 a2 n_) (sAB x3.toNatClampNeg) (x4 + 1) M
    else
      some (0, M)
set_option maxRecDepth 100000 in
set_option maxHeartbeats 4000000 in
theorem X0_isOfKind_L9_ok {g : gx} (hg : EC g cX0_isOfKind RX0 1) {a1 : Int32} {a2 : Int32} {r : Int32 × mm} (hr : RT g (some .boolean) (0, 0) (some (.int r.1)) (cells r.2)) : ∀ (n_ : Nat) (x3 : Int32) (x4 : Int32) (M : mm), X0_isOfKind_L9 a1 a2 n_ x3 x4 M = some r → E g (0, 0) 9 [some (.ref 66), some (.int a1), some (.int a2), some (.int x3), some (.int x4)] [] (cells M) := by
  intro n_
  induction n_ with
  | zero => intro x3 x4 M h; exact o_no h
  | succ n_ ih =>
    intro x3 x4 M h
    rw [X0_isOfKind_L9] at h
    refine e_iload hg dX0_isOfKind_9 rfl ?_
    refine e_bipush (v := 8) hg dX0_isOfKind_11 (by decide) ?_
    refine e_icmpge hg 39 dX0_isOfKind_13 (by decide) (fun c4 => ?_) (fun c4 => ?_)
    · have h := o_pos c4 h
      refine e_iload_n hg dX0_isOfKind_16 rfl ?_
      refine e_iflt hg 39 dX0_isOfKind_17 (by decide) (fun c5 => ?_) (fun c5 => ?_)
      · have h := o_pos c5 h
        refine e_iconst (v := 0) hg dX0_isOfKind_39 (by decide) ?_
        exact m_zret hg hr rfl dX0_isOfKind_40 h
      · have h := o_neg c5 h
        refine e_iload_n hg dX0_isOfKind_20 rfl ?_
        refine e_iload_n hg dX0_isOfKind_21 rfl ?_
        refine e_icmpne hg 27 dX0_isOfKind_22 (by decide) (fun c6 => ?_) (fun c6 => ?_)
        · have h := o_pos c6 h
          refine e_iconst (v := 1) hg dX0_isOfKind_25 (by decide) ?_
          exact m_zret hg hr rfl dX0_isOfKind_26 h
        · have h := o_neg c6 h
          refine e_gets1 hg lk_902 dX0_isOfKind_27 ?_
          refine e_iload_n hg dX0_isOfKind_30 rfl ?_
          obtain ⟨hi7, h⟩ := o_gd h
          refine e_ti1 hg hi7 dX0_isOfKind_31 ?_
          refine e_istore_n (ls' := [some (.ref 66), some (.int a1), some (.int a2), some (.int (sAB x3.toNatClampNeg)), some (.int x4)]) hg dX0_isOfKind_32 rfl ?_
          refine e_iinc (v := (x4 + 1)) (ls' := [some (.ref 66), some (.int a1), some (.int a2), some (.int (sAB x3.toNatClampNeg)), some (.int (x4 + 1))]) hg dX0_isOfKind_33 rfl rfl rfl ?_
          refine e_goto hg 9 dX0_isOfKind_36 (by decide) ?_
          exact ih _ _ _ h
    · have h := o_neg c4 h
      refine e_iconst (v := 0) hg dX0_isOfKind_39 (by decide) ?_
      exact m_zret hg hr rfl dX0_isOfKind_40 h

def X0_isOfKind (a1 : Int32) (a2 : Int32) (M : mm) : Option (Int32 × mm) :=
  bd (X0_kindOf a1 M) fun v1 M2 =>
  X0_isOfKind_L9 a1 a2 10000 v1 0 M2
set_option maxRecDepth 100000 in
set_option maxHeartbeats 4000000 in
theorem X0_isOfKind_ok {a1 : Int32} {a2 : Int32} {M : mm} {r : Int32 × mm} (h : X0_isOfKind a1 a2 M = some r) : CM yX0_isOfKind cX0_isOfKind 5 (some .boolean) 1 [.ref 66, .int a1, .int a2] (cells M) (some (.int r.1)) (cells r.2) := by
  refine cm_of (ls := [some (.ref 66), some (.int a1), some (.int a2), none, none]) mfX0_isOfKind rfl (Nat.le_of_ble_eq_true rfl) (fun g hg hr => ?_)
  unfold X0_isOfKind at h
  refine e_aload_n hg dX0_isOfKind_0 rfl ?_
  refine e_iload_n hg dX0_isOfKind_1 rfl ?_
  obtain ⟨v1, M2, hc3, h⟩ := o_bd h
  refine m_callVI (rest := []) (v := v1) (M' := M2) (ci := 0) hg mfX0_kindOf mvX0_kindOf (X0_kindOf_ok (r := (v1, M2)) hc3) lk_971 dX0_isOfKind_2 io_66 rfl rfl rfl (by omega) (Nat.le_of_ble_eq_true rfl) ?_
  refine e_istore_n (ls' := [some (.ref 66), some (.int a1), some (.int a2), some (.int v1), none]) hg dX0_isOfKind_5 rfl ?_
  refine e_iconst (v := 0) hg dX0_isOfKind_6 (by decide) ?_
  refine e_istore (ls' := [some (.ref 66), some (.int a1), some (.int a2), some (.int v1), some (.int 0)]) hg dX0_isOfKind_7 rfl ?_
  exact X0_isOfKind_L9_ok hg hr  10000 _ _ _ h

def X0_keptOfTrace  (M : mm) : Option (Int32 × mm) :=
  some ((if 24 < (M.1 66 1) then 24 else (M.1 66 1)), M)
set_option maxRecDepth 100000 in
set_option maxHeartbeats 4000000 in
theorem X0_keptOfTrace_ok  {M : mm} {r : Int32 × mm} (h : X0_keptOfTrace  M = some r) : CM yX0_keptOfTrace cX0_keptOfTrace 1 (some .int) 1 [.ref 66] (cells M) (some (.int r.1)) (cells r.2) := by
  refine cm_of (ls := [some (.ref 66)]) mfX0_keptOfTrace rfl (Nat.le_of_ble_eq_true rfl) (fun g hg hr => ?_)
  unfold X0_keptOfTrace at h
  refine e_aload_n hg dX0_keptOfTrace_0 rfl ?_
  refine m_getI hg ciX0 1 lk_404 dX0_keptOfTrace_1 io_66 (Nat.le_of_ble_eq_true rfl) rfl ?_
  refine e_bipush (v := 24) hg dX0_keptOfTrace_4 (by decide) ?_
  refine e_mmin hg lk_916 (Nat.le_of_ble_eq_true rfl) (by omega) (cs0 g) dX0_keptOfTrace_6 ?_
  exact m_iret hg hr dX0_keptOfTrace_9 h

def X0_begin_b19 (a1 : Int32) (M : mm) : Option (Unit × mm) :=
  lt_ (sA M 66 (upd (M.1 66) 1 ((M.1 66 1) + 1))) fun M4 =>
  some ((), M4)
set_option maxRecDepth 100000 in
set_option maxHeartbeats 4000000 in
theorem X0_begin_b19_ok {g : gx} (hg : EC g cX0_begin RX0 0) {a1 : Int32} {r : Unit × mm} (hr : RT g (none) (0, 0) none (cells r.2)) {M : mm} (h : X0_begin_b19 a1 M = some r) : E g (0, 0) 19 [some (.ref 66), some (.int a1)] [] (cells M) := by
  unfold X0_begin_b19 at h
  refine e_aload_n hg dX0_begin_19 rfl ?_
  refine e_dup hg dX0_begin_20 rfl ?_
  refine m_getI hg ciX0 1 lk_404 dX0_begin_21 io_66 (Nat.le_of_ble_eq_true rfl) rfl ?_
  refine e_iconst (v := 1) hg dX0_begin_24 (by decide) ?_
  refine e_iadd hg dX0_begin_25 ?_
  obtain ⟨M4, hM4, h⟩ := o_lt h
  refine m_putI hg ciX0 1 lk_404 dX0_begin_26 io_66 (Nat.le_of_ble_eq_true rfl) rfl rfl rfl rfl ?_
  rw [← hM4]
  exact m_vret hg hr dX0_begin_29 h

def X0_begin (a1 : Int32) (M : mm) : Option (Unit × mm) :=
  if (M.1 66 1) < 24 then
    gd (inb (M.1 66 1) 24) <|
    lt_ (sA M 67 (upd (M.1 67) (M.1 66 1).toNatClampNeg a1)) fun M3 =>
    X0_begin_b19 a1 M3
  else
    X0_begin_b19 a1 M
set_option maxRecDepth 100000 in
set_option maxHeartbeats 4000000 in
theorem X0_begin_ok {a1 : Int32} {M : mm} {r : Unit × mm} (h : X0_begin a1 M = some r) : CM yX0_begin cX0_begin 2 (none) 0 [.ref 66, .int a1] (cells M) none (cells r.2) := by
  refine cm_of (ls := [some (.ref 66), some (.int a1)]) mfX0_begin rfl (Nat.le_of_ble_eq_true rfl) (fun g hg hr => ?_)
  unfold X0_begin at h
  refine e_aload_n hg dX0_begin_0 rfl ?_
  refine m_getI hg ciX0 1 lk_404 dX0_begin_1 io_66 (Nat.le_of_ble_eq_true rfl) rfl ?_
  refine e_bipush (v := 24) hg dX0_begin_4 (by decide) ?_
  refine e_icmpge hg 19 dX0_begin_6 (by decide) (fun c1 => ?_) (fun c1 => ?_)
  · have h := o_pos c1 h
    refine e_aload_n hg dX0_begin_9 rfl ?_
    refine m_getR (q := 67) hg ciX0 2 lk_406 dX0_begin_10 io_66 (Nat.le_of_ble_eq_true rfl) rfl rf_66_2 ?_
    refine e_aload_n hg dX0_begin_13 rfl ?_
    refine m_getI hg ciX0 1 lk_404 dX0_begin_14 io_66 (Nat.le_of_ble_eq_true rfl) rfl ?_
    refine e_iload_n hg dX0_begin_17 rfl ?_
    obtain ⟨hi2, h⟩ := o_gd h
    obtain ⟨M3, hM3, h⟩ := o_lt h
    refine m_iast hg sh_67 hi2 dX0_begin_18 ?_
    rw [← hM3]
    exact X0_begin_b19_ok hg hr  h
  · have h := o_neg c1 h
    exact X0_begin_b19_ok hg hr  h

def X0_run_L6 (rec : Nat → Int32 → Int32 → Int32 → Int32 → mm → Option (Int32 × mm)) (a1 : Int32) (a2 : Int32) (a3 : Int32) (a4 : Int32) (K45 : Int32 → mm → Option (Int32 × mm)) : Nat → Int32 → Int32 → mm → Option (Int32 × mm)
  | 0, _, _, _ => none
  | n_ + 1, x5, x6, M =>
    if x6 < 8 then
      if x5 < 0 then
        K45 x5 M
      else
        gd (inb ((x5 * 4) + a2) 32) <|
        if (sOB ((x5 * 4) + a2).toNatClampNeg) = 0 then
          gd (inb x5 8) <|
          (X0_run_L6 rec a1 a2 a3 a4 K45 n_) (sAB x5.toNatClampNeg) (x6 + 1) M
        else
          K45 x5 M
    else
      K45 x5 M
set_option maxRecDepth 100000 in
set_option maxHeartbeats 4000000 in
theorem X0_run_L6_ok {dd : Nat} {g : gx} (hg : EC g cX0_run RX0 (dd + 1)) (hdd : 1 ≤ dd) {rec : Nat → Int32 → Int32 → Int32 → Int32 → mm → Option (Int32 × mm)} (hrec0 : ∀ (y0 y1 y2 y3 : Int32) (M : mm) (q : Int32 × mm), rec 0 y0 y1 y2 y3 M = some q → CM yX0_run cX0_run 9 (some .int) dd [.ref 66, .int y0, .int y1, .int y2, .int y3] (cells M) (some (.int q.1)) (cells q.2)) {a1 : Int32} {a2 : Int32} {a3 : Int32} {a4 : Int32} {r : Int32 × mm} (hr : RT g (some .int) (0, 0) (some (.int r.1)) (cells r.2)) {K45 : Int32 → mm → Option (Int32 × mm)} (hK45 : ∀ (x5 : Int32) (o6 : Option Value) (o7 : Option Value) (o8 : Option Value) (M : mm), K45 x5 M = some r → E g (0, 0) 45 [some (.ref 66), some (.int a1), some (.int a2), some (.int a3), some (.int a4), some (.int x5), o6, o7, o8] [] (cells M)) : ∀ (n_ : Nat) (x5 : Int32) (x6 : Int32) (o7 : Option Value) (o8 : Option Value) (M : mm), X0_run_L6 rec a1 a2 a3 a4 K45 n_ x5 x6 M = some r → E g (0, 0) 6 [some (.ref 66), some (.int a1), some (.int a2), some (.int a3), some (.int a4), some (.int x5), some (.int x6), o7, o8] [] (cells M) := by
  intro n_
  induction n_ with
  | zero => intro x5 x6 o7 o8 M h; exact o_no h
  | succ n_ ih =>
    intro x5 x6 o7 o8 M h
    rw [X0_run_L6] at h
    refine e_iload hg dX0_run_6 rfl ?_
    refine e_bipush (v := 8) hg dX0_run_8 (by decide) ?_
    refine e_icmpge hg 45 dX0_run_10 (by decide) (fun c1 => ?_) (fun c1 => ?_)
    · have h := o_pos c1 h
      refine e_iload hg dX0_run_13 rfl ?_
      refine e_iflt hg 45 dX0_run_15 (by decide) (fun c2 => ?_) (fun c2 => ?_)
      · have h := o_pos c2 h
        exact hK45 _ _ _ _ _ h
      · have h := o_neg c2 h
        refine e_gets hg lk_900 dX0_run_18 ?_
        refine e_iload hg dX0_run_21 rfl ?_
        refine e_iconst (v := 4) hg dX0_run_23 (by decide) ?_
        refine e_imul hg dX0_run_24 ?_
        refine e_iload_n hg dX0_run_25 rfl ?_
        refine e_iadd hg dX0_run_26 ?_
        obtain ⟨hi3, h⟩ := o_gd h
        refine e_ti hg hi3 dX0_run_27 ?_
        refine e_ifne hg 45 dX0_run_28 (by decide) (fun c4 => ?_) (fun c4 => ?_)
        · have h := o_pos c4 h
          refine e_gets1 hg lk_902 dX0_run_31 ?_
          refine e_iload hg dX0_run_34 rfl ?_
          obtain ⟨hi5, h⟩ := o_gd h
          refine e_ti1 hg hi5 dX0_run_36 ?_
          refine e_istore (ls' := [some (.ref 66), some (.int a1), some (.int a2), some (.int a3), some (.int a4), some (.int (sAB x5.toNatClampNeg)), some (.int x6), o7, o8]) hg dX0_run_37 rfl ?_
          refine e_iinc (v := (x6 + 1)) (ls' := [some (.ref 66), some (.int a1), some (.int a2), some (.int a3), some (.int a4), some (.int (sAB x5.toNatClampNeg)), some (.int (x6 + 1)), o7, o8]) hg dX0_run_39 rfl rfl rfl ?_
          refine e_goto hg 6 dX0_run_42 (by decide) ?_
          exact ih _ _ _ _ _ h
        · have h := o_neg c4 h
          exact hK45 _ _ _ _ _ h
    · have h := o_neg c1 h
      exact hK45 _ _ _ _ _ h

def X0_run_b45 (rec : Nat → Int32 → Int32 → Int32 → Int32 → mm → Option (Int32 × mm)) (a1 : Int32) (a2 : Int32) (a3 : Int32) (a4 : Int32) (x5 : Int32) (M : mm) : Option (Int32 × mm) :=
  if x5 < 0 then
    some (0, M)
  else
    if 40 < a4 then
      some (0, M)
    else
      gd (inb ((x5 * 4) + a2) 32) <|
      gd (inb x5 8) <|
      bd (X0_begin (sOB ((x5 * 4) + a2).toNatClampNeg) M) fun u10 M11 =>
      if (sOB ((x5 * 4) + a2).toNatClampNeg) = 1 then
        some ((a3 + (M11.1 66 4)), M11)
      else
      if (sOB ((x5 * 4) + a2).toNatClampNeg) = 2 then
        bd (rec 0 (M11.1 66 5) 1 a3 (a4 + 1) M11) fun v15 M16 =>
        bd (rec 0 (M16.1 66 5) 2 1 (a4 + 1) M16) fun v18 M19 =>
        some ((v15 - v18), M19)
      else
      if (sOB ((x5 * 4) + a2).toNatClampNeg) = 10 then
        bd (rec 0 (M11.1 66 5) 0 a3 (a4 + 1) M11) fun v22 M23 =>
        some ((v22 * 2), M23)
      else
      if (sOB ((x5 * 4) + a2).toNatClampNeg) = 11 then
        some ((a3 ^^^ (M11.1 66 4)), M11)
      else
      if (sOB ((x5 * 4) + a2).toNatClampNeg) = 20 then
        bd (rec 0 (sAB x5.toNatClampNeg) 0 a3 (a4 + 1) M11) fun v27 M28 =>
        some ((v27 + 3), M28)
      else
      if (sOB ((x5 * 4) + a2).toNatClampNeg) = 30 then
        bd (rec 0 (sAB x5.toNatClampNeg) 1 a3 (a4 + 1) M11) fun v31 M32 =>
        some ((-v31), M32)
      else
      if (sOB ((x5 * 4) + a2).toNatClampNeg) = 40 then
        bd (rec 0 (sAB x5.toNatClampNeg) 2 a3 (a4 + 1) M11) fun v35 M36 =>
        some ((v35 * 3), M36)
      else
      if (sOB ((x5 * 4) + a2).toNatClampNeg) = 41 then
        bd (rec 0 (sAB x5.toNatClampNeg) 1 (a3 + 1) (a4 + 1) M11) fun v39 M40 =>
        some (v39, M40)
      else
      if (sOB ((x5 * 4) + a2).toNatClampNeg) = 50 then
        bd (rec 0 (sAB x5.toNatClampNeg) 2 a3 (a4 + 1) M11) fun v43 M44 =>
        bd (rec 0 (M44.1 66 5) 0 2 (a4 + 1) M44) fun v46 M47 =>
        some ((v43 - v46), M47)
      else
      if (sOB ((x5 * 4) + a2).toNatClampNeg) = 60 then
        bd (rec 0 (sAB x5.toNatClampNeg) 3 a3 (a4 + 1) M11) fun v50 M51 =>
        some ((v50 ^^^ 5), M51)
      else
      if (sOB ((x5 * 4) + a2).toNatClampNeg) = 70 then
        bd (rec 0 (sAB x5.toNatClampNeg) 0 a3 (a4 + 1) M11) fun v54 M55 =>
        some ((v54 * 2), M55)
      else
      if (sOB ((x5 * 4) + a2).toNatClampNeg) = 80 then
        bd (rec 0 (sAB x5.toNatClampNeg) 1 a3 (a4 + 1) M11) fun v58 M59 =>
        bd (rec 0 (M59.1 66 5) 2 2 (a4 + 1) M59) fun v61 M62 =>
        some ((v58 + v61), M62)
      else
      if (sOB ((x5 * 4) + a2).toNatClampNeg) = 81 then
        bd (rec 0 (sAB x5.toNatClampNeg) 3 a3 (a4 + 1) M11) fun v65 M66 =>
        some ((v65 - 1), M66)
      else
      some (0, M11)
set_option maxRecDepth 100000 in
set_option maxHeartbeats 4000000 in
theorem X0_run_b45_ok {dd : Nat} {g : gx} (hg : EC g cX0_run RX0 (dd + 1)) (hdd : 1 ≤ dd) {rec : Nat → Int32 → Int32 → Int32 → Int32 → mm → Option (Int32 × mm)} (hrec0 : ∀ (y0 y1 y2 y3 : Int32) (M : mm) (q : Int32 × mm), rec 0 y0 y1 y2 y3 M = some q → CM yX0_run cX0_run 9 (some .int) dd [.ref 66, .int y0, .int y1, .int y2, .int y3] (cells M) (some (.int q.1)) (cells q.2)) {a1 : Int32} {a2 : Int32} {a3 : Int32} {a4 : Int32} {r : Int32 × mm} (hr : RT g (some .int) (0, 0) (some (.int r.1)) (cells r.2)) {x5 : Int32} {o6 : Option Value} {o7 : Option Value} {o8 : Option Value} {M : mm} (h : X0_run_b45 rec a1 a2 a3 a4 x5 M = some r) : E g (0, 0) 45 [some (.ref 66), some (.int a1), some (.int a2), some (.int a3), some (.int a4), some (.int x5), o6, o7, o8] [] (cells M) := by
  unfold X0_run_b45 at h
  refine e_iload hg dX0_run_45 rfl ?_
  refine e_iflt hg 57 dX0_run_47 (by decide) (fun c6 => ?_) (fun c6 => ?_)
  · have h := o_pos c6 h
    refine e_iconst (v := 0) hg dX0_run_57 (by decide) ?_
    exact m_iret hg hr dX0_run_58 h
  · have h := o_neg c6 h
    refine e_iload hg dX0_run_50 rfl ?_
    refine e_bipush (v := 40) hg dX0_run_52 (by decide) ?_
    refine e_icmple hg 59 dX0_run_54 (by decide) (fun c7 => ?_) (fun c7 => ?_)
    · have h := o_pos c7 h
      refine e_iconst (v := 0) hg dX0_run_57 (by decide) ?_
      exact m_iret hg hr dX0_run_58 h
    · have h := o_neg c7 h
      refine e_gets hg lk_900 dX0_run_59 ?_
      refine e_iload hg dX0_run_62 rfl ?_
      refine e_iconst (v := 4) hg dX0_run_64 (by decide) ?_
      refine e_imul hg dX0_run_65 ?_
      refine e_iload_n hg dX0_run_66 rfl ?_
      refine e_iadd hg dX0_run_67 ?_
      obtain ⟨hi8, h⟩ := o_gd h
      refine e_ti hg hi8 dX0_run_68 ?_
      refine e_istore (ls' := [some (.ref 66), some (.int a1), some (.int a2), some (.int a3), some (.int a4), some (.int x5), some (.int (sOB ((x5 * 4) + a2).toNatClampNeg)), o7, o8]) hg dX0_run_69 rfl ?_
      refine e_gets1 hg lk_902 dX0_run_71 ?_
      refine e_iload hg dX0_run_74 rfl ?_
      obtain ⟨hi9, h⟩ := o_gd h
      refine e_ti1 hg hi9 dX0_run_76 ?_
      refine e_istore (ls' := [some (.ref 66), some (.int a1), some (.int a2), some (.int a3), some (.int a4), some (.int x5), some (.int (sOB ((x5 * 4) + a2).toNatClampNeg)), some (.int (sAB x5.toNatClampNeg)), o8]) hg dX0_run_77 rfl ?_
      refine e_iload hg dX0_run_79 rfl ?_
      refine e_iconst (v := 1) hg dX0_run_81 (by decide) ?_
      refine e_iadd hg dX0_run_82 ?_
      refine e_istore (ls' := [some (.ref 66), some (.int a1), some (.int a2), some (.int a3), some (.int a4), some (.int x5), some (.int (sOB ((x5 * 4) + a2).toNatClampNeg)), some (.int (sAB x5.toNatClampNeg)), some (.int (a4 + 1))]) hg dX0_run_83 rfl ?_
      refine e_aload_n hg dX0_run_85 rfl ?_
      refine e_iload hg dX0_run_86 rfl ?_
      obtain ⟨u10, M11, hc12, h⟩ := o_bd h
      refine m_callVV (rest := []) (M' := M11) (ci := 0) hg mfX0_begin mvX0_begin (X0_begin_ok (r := (u10, M11)) hc12) lk_904 dX0_run_88 io_66 rfl rfl rfl (by omega) (Nat.le_of_ble_eq_true rfl) ?_
      refine e_iload hg dX0_run_91 rfl ?_
      by_cases c13 : (sOB ((x5 * 4) + a2).toNatClampNeg) = 1
      · have h := o_pos c13 h
        refine e_lookup hg 208 dX0_run_93 (by decide) (by rw [c13] <;> decide) (by decide) ?_
        refine e_iload_n hg dX0_run_208 rfl ?_
        refine e_aload_n hg dX0_run_209 rfl ?_
        refine m_getI hg ciX0 4 lk_409 dX0_run_210 io_66 (Nat.le_of_ble_eq_true rfl) rfl ?_
        refine e_iadd hg dX0_run_213 ?_
        exact m_iret hg hr dX0_run_214 h
      have h := o_neg c13 h
      by_cases c14 : (sOB ((x5 * 4) + a2).toNatClampNeg) = 2
      · have h := o_pos c14 h
        refine e_lookup hg 237 dX0_run_93 (by decide) (by rw [c14] <;> decide) (by decide) ?_
        refine e_aload_n hg dX0_run_237 rfl ?_
        refine e_aload_n hg dX0_run_238 rfl ?_
        refine m_getI hg ciX0 5 lk_410 dX0_run_239 io_66 (Nat.le_of_ble_eq_true rfl) rfl ?_
        refine e_iconst (v := 1) hg dX0_run_242 (by decide) ?_
        refine e_iload_n hg dX0_run_243 rfl ?_
        refine e_iload hg dX0_run_244 rfl ?_
        obtain ⟨v15, M16, hc17, h⟩ := o_bd h
        refine m_callVI (rest := []) (v := v15) (M' := M16) (ci := 0) hg mfX0_run mvX0_run (hrec0 _ _ _ _ _ (v15, M16) hc17) lk_896 dX0_run_246 io_66 rfl rfl rfl (by omega) (Nat.le_of_ble_eq_true rfl) ?_
        refine e_aload_n hg dX0_run_249 rfl ?_
        refine e_aload_n hg dX0_run_250 rfl ?_
        refine m_getI hg ciX0 5 lk_410 dX0_run_251 io_66 (Nat.le_of_ble_eq_true rfl) rfl ?_
        refine e_iconst (v := 2) hg dX0_run_254 (by decide) ?_
        refine e_iconst (v := 1) hg dX0_run_255 (by decide) ?_
        refine e_iload hg dX0_run_256 rfl ?_
        obtain ⟨v18, M19, hc20, h⟩ := o_bd h
        refine m_callVI (rest := [.int v15]) (v := v18) (M' := M19) (ci := 0) hg mfX0_run mvX0_run (hrec0 _ _ _ _ _ (v18, M19) hc20) lk_896 dX0_run_258 io_66 rfl rfl rfl (by omega) (Nat.le_of_ble_eq_true rfl) ?_
        refine e_isub hg dX0_run_261 ?_
        exact m_iret hg hr dX0_run_262 h
      have h := o_neg c14 h
      by_cases c21 : (sOB ((x5 * 4) + a2).toNatClampNeg) = 10
      · have h := o_pos c21 h
        refine e_lookup hg 215 dX0_run_93 (by decide) (by rw [c21] <;> decide) (by decide) ?_
        refine e_aload_n hg dX0_run_215 rfl ?_
        refine e_aload_n hg dX0_run_216 rfl ?_
        refine m_getI hg ciX0 5 lk_410 dX0_run_217 io_66 (Nat.le_of_ble_eq_true rfl) rfl ?_
        refine e_iconst (v := 0) hg dX0_run_220 (by decide) ?_
        refine e_iload_n hg dX0_run_221 rfl ?_
        refine e_iload hg dX0_run_222 rfl ?_
        obtain ⟨v22, M23, hc24, h⟩ := o_bd h
        refine m_callVI (rest := []) (v := v22) (M' := M23) (ci := 0) hg mfX0_run mvX0_run (hrec0 _ _ _ _ _ (v22, M23) hc24) lk_896 dX0_run_224 io_66 rfl rfl rfl (by omega) (Nat.le_of_ble_eq_true rfl) ?_
        refine e_iconst (v := 2) hg dX0_run_227 (by decide) ?_
        refine e_imul hg dX0_run_228 ?_
        exact m_iret hg hr dX0_run_229 h
      have h := o_neg c21 h
      by_cases c25 : (sOB ((x5 * 4) + a2).toNatClampNeg) = 11
      · have h := o_pos c25 h
        refine e_lookup hg 230 dX0_run_93 (by decide) (by rw [c25] <;> decide) (by decide) ?_
        refine e_iload_n hg dX0_run_230 rfl ?_
        refine e_aload_n hg dX0_run_231 rfl ?_
        refine m_getI hg ciX0 4 lk_409 dX0_run_232 io_66 (Nat.le_of_ble_eq_true rfl) rfl ?_
        refine e_ixor hg dX0_run_235 ?_
        exact m_iret hg hr dX0_run_236 h
      have h := o_neg c25 h
      by_cases c26 : (sOB ((x5 * 4) + a2).toNatClampNeg) = 20
      · have h := o_pos c26 h
        refine e_lookup hg 263 dX0_run_93 (by decide) (by rw [c26] <;> decide) (by decide) ?_
        refine e_aload_n hg dX0_run_263 rfl ?_
        refine e_iload hg dX0_run_264 rfl ?_
        refine e_iconst (v := 0) hg dX0_run_266 (by decide) ?_
        refine e_iload_n hg dX0_run_267 rfl ?_
        refine e_iload hg dX0_run_268 rfl ?_
        obtain ⟨v27, M28, hc29, h⟩ := o_bd h
        refine m_callVI (rest := []) (v := v27) (M' := M28) (ci := 0) hg mfX0_run mvX0_run (hrec0 _ _ _ _ _ (v27, M28) hc29) lk_896 dX0_run_270 io_66 rfl rfl rfl (by omega) (Nat.le_of_ble_eq_true rfl) ?_
        refine e_iconst (v := 3) hg dX0_run_273 (by decide) ?_
        refine e_iadd hg dX0_run_274 ?_
        exact m_iret hg hr dX0_run_275 h
      have h := o_neg c26 h
      by_cases c30 : (sOB ((x5 * 4) + a2).toNatClampNeg) = 30
      · have h := o_pos c30 h
        refine e_lookup hg 276 dX0_run_93 (by decide) (by rw [c30] <;> decide) (by decide) ?_
        refine e_aload_n hg dX0_run_276 rfl ?_
        refine e_iload hg dX0_run_277 rfl ?_
        refine e_iconst (v := 1) hg dX0_run_279 (by decide) ?_
        refine e_iload_n hg dX0_run_280 rfl ?_
        refine e_iload hg dX0_run_281 rfl ?_
        obtain ⟨v31, M32, hc33, h⟩ := o_bd h
        refine m_callVI (rest := []) (v := v31) (M' := M32) (ci := 0) hg mfX0_run mvX0_run (hrec0 _ _ _ _ _ (v31, M32) hc33) lk_896 dX0_run_283 io_66 rfl rfl rfl (by omega) (Nat.le_of_ble_eq_true rfl) ?_
        refine e_ineg hg dX0_run_286 ?_
        exact m_iret hg hr dX0_run_287 h
      have h := o_neg c30 h
      by_cases c34 : (sOB ((x5 * 4) + a2).toNatClampNeg) = 40
      · have h := o_pos c34 h
        refine e_lookup hg 288 dX0_run_93 (by decide) (by rw [c34] <;> decide) (by decide) ?_
        refine e_aload_n hg dX0_run_288 rfl ?_
        refine e_iload hg dX0_run_289 rfl ?_
        refine e_iconst (v := 2) hg dX0_run_291 (by decide) ?_
        refine e_iload_n hg dX0_run_292 rfl ?_
        refine e_iload hg dX0_run_293 rfl ?_
        obtain ⟨v35, M36, hc37, h⟩ := o_bd h
        refine m_callVI (rest := []) (v := v35) (M' := M36) (ci := 0) hg mfX0_run mvX0_run (hrec0 _ _ _ _ _ (v35, M36) hc37) lk_896 dX0_run_295 io_66 rfl rfl rfl (by omega) (Nat.le_of_ble_eq_true rfl) ?_
        refine e_iconst (v := 3) hg dX0_run_298 (by decide) ?_
        refine e_imul hg dX0_run_299 ?_
        exact m_iret hg hr dX0_run_300 h
      have h := o_neg c34 h
      by_cases c38 : (sOB ((x5 * 4) + a2).toNatClampNeg) = 41
      · have h := o_pos c38 h
        refine e_lookup hg 301 dX0_run_93 (by decide) (by rw [c38] <;> decide) (by decide) ?_
        refine e_aload_n hg dX0_run_301 rfl ?_
        refine e_iload hg dX0_run_302 rfl ?_
        refine e_iconst (v := 1) hg dX0_run_304 (by decide) ?_
        refine e_iload_n hg dX0_run_305 rfl ?_
        refine e_iconst (v := 1) hg dX0_run_306 (by decide) ?_
        refine e_iadd hg dX0_run_307 ?_
        refine e_iload hg dX0_run_308 rfl ?_
        obtain ⟨v39, M40, hc41, h⟩ := o_bd h
        refine m_callVI (rest := []) (v := v39) (M' := M40) (ci := 0) hg mfX0_run mvX0_run (hrec0 _ _ _ _ _ (v39, M40) hc41) lk_896 dX0_run_310 io_66 rfl rfl rfl (by omega) (Nat.le_of_ble_eq_true rfl) ?_
        exact m_iret hg hr dX0_run_313 h
      have h := o_neg c38 h
      by_cases c42 : (sOB ((x5 * 4) + a2).toNatClampNeg) = 50
      · have h := o_pos c42 h
        refine e_lookup hg 314 dX0_run_93 (by decide) (by rw [c42] <;> decide) (by decide) ?_
        refine e_aload_n hg dX0_run_314 rfl ?_
        refine e_iload hg dX0_run_315 rfl ?_
        refine e_iconst (v := 2) hg dX0_run_317 (by decide) ?_
        refine e_iload_n hg dX0_run_318 rfl ?_
        refine e_iload hg dX0_run_319 rfl ?_
        obtain ⟨v43, M44, hc45, h⟩ := o_bd h
        refine m_callVI (rest := []) (v := v43) (M' := M44) (ci := 0) hg mfX0_run mvX0_run (hrec0 _ _ _ _ _ (v43, M44) hc45) lk_896 dX0_run_321 io_66 rfl rfl rfl (by omega) (Nat.le_of_ble_eq_true rfl) ?_
        refine e_aload_n hg dX0_run_324 rfl ?_
        refine e_aload_n hg dX0_run_325 rfl ?_
        refine m_getI hg ciX0 5 lk_410 dX0_run_326 io_66 (Nat.le_of_ble_eq_true rfl) rfl ?_
        refine e_iconst (v := 0) hg dX0_run_329 (by decide) ?_
        refine e_iconst (v := 2) hg dX0_run_330 (by decide) ?_
        refine e_iload hg dX0_run_331 rfl ?_
        obtain ⟨v46, M47, hc48, h⟩ := o_bd h
        refine m_callVI (rest := [.int v43]) (v := v46) (M' := M47) (ci := 0) hg mfX0_run mvX0_run (hrec0 _ _ _ _ _ (v46, M47) hc48) lk_896 dX0_run_333 io_66 rfl rfl rfl (by omega) (Nat.le_of_ble_eq_true rfl) ?_
        refine e_isub hg dX0_run_336 ?_
        exact m_iret hg hr dX0_run_337 h
      have h := o_neg c42 h
      by_cases c49 : (sOB ((x5 * 4) + a2).toNatClampNeg) = 60
      · have h := o_pos c49 h
        refine e_lookup hg 338 dX0_run_93 (by decide) (by rw [c49] <;> decide) (by decide) ?_
        refine e_aload_n hg dX0_run_338 rfl ?_
        refine e_iload hg dX0_run_339 rfl ?_
        refine e_iconst (v := 3) hg dX0_run_341 (by decide) ?_
        refine e_iload_n hg dX0_run_342 rfl ?_
        refine e_iload hg dX0_run_343 rfl ?_
        obtain ⟨v50, M51, hc52, h⟩ := o_bd h
        refine m_callVI (rest := []) (v := v50) (M' := M51) (ci := 0) hg mfX0_run mvX0_run (hrec0 _ _ _ _ _ (v50, M51) hc52) lk_896 dX0_run_345 io_66 rfl rfl rfl (by omega) (Nat.le_of_ble_eq_true rfl) ?_
        refine e_iconst (v := 5) hg dX0_run_348 (by decide) ?_
        refine e_ixor hg dX0_run_349 ?_
        exact m_iret hg hr dX0_run_350 h
      have h := o_neg c49 h
      by_cases c53 : (sOB ((x5 * 4) + a2).toNatClampNeg) = 70
      · have h := o_pos c53 h
        refine e_lookup hg 351 dX0_run_93 (by decide) (by rw [c53] <;> decide) (by decide) ?_
        refine e_aload_n hg dX0_run_351 rfl ?_
        refine e_iload hg dX0_run_352 rfl ?_
        refine e_iconst (v := 0) hg dX0_run_354 (by decide) ?_
        refine e_iload_n hg dX0_run_355 rfl ?_
        refine e_iload hg dX0_run_356 rfl ?_
        obtain ⟨v54, M55, hc56, h⟩ := o_bd h
        refine m_callVI (rest := []) (v := v54) (M' := M55) (ci := 0) hg mfX0_run mvX0_run (hrec0 _ _ _ _ _ (v54, M55) hc56) lk_896 dX0_run_358 io_66 rfl rfl rfl (by omega) (Nat.le_of_ble_eq_true rfl) ?_
        refine e_iconst (v := 2) hg dX0_run_361 (by decide) ?_
        refine e_imul hg dX0_run_362 ?_
        exact m_iret hg hr dX0_run_363 h
      have h := o_neg c53 h
      by_cases c57 : (sOB ((x5 * 4) + a2).toNatClampNeg) = 80
      · have h := o_pos c57 h
        refine e_lookup hg 364 dX0_run_93 (by decide) (by rw [c57] <;> decide) (by decide) ?_
        refine e_aload_n hg dX0_run_364 rfl ?_
        refine e_iload hg dX0_run_365 rfl ?_
        refine e_iconst (v := 1) hg dX0_run_367 (by decide) ?_
        refine e_iload_n hg dX0_run_368 rfl ?_
        refine e_iload hg dX0_run_369 rfl ?_
        obtain ⟨v58, M59, hc60, h⟩ := o_bd h
        refine m_callVI (rest := []) (v := v58) (M' := M59) (ci := 0) hg mfX0_run mvX0_run (hrec0 _ _ _ _ _ (v58, M59) hc60) lk_896 dX0_run_371 io_66 rfl rfl rfl (by omega) (Nat.le_of_ble_eq_true rfl) ?_
        refine e_aload_n hg dX0_run_374 rfl ?_
        refine e_aload_n hg dX0_run_375 rfl ?_
        refine m_getI hg ciX0 5 lk_410 dX0_run_376 io_66 (Nat.le_of_ble_eq_true rfl) rfl ?_
        refine e_iconst (v := 2) hg dX0_run_379 (by decide) ?_
        refine e_iconst (v := 2) hg dX0_run_380 (by decide) ?_
        refine e_iload hg dX0_run_381 rfl ?_
        obtain ⟨v61, M62, hc63, h⟩ := o_bd h
        refine m_callVI (rest := [.int v58]) (v := v61) (M' := M62) (ci := 0) hg mfX0_run mvX0_run (hrec0 _ _ _ _ _ (v61, M62) hc63) lk_896 dX0_run_383 io_66 rfl rfl rfl (by omega) (Nat.le_of_ble_eq_true rfl) ?_
        refine e_iadd hg dX0_run_386 ?_
        exact m_iret hg hr dX0_run_387 h
      have h := o_neg c57 h
      by_cases c64 : (sOB ((x5 * 4) + a2).toNatClampNeg) = 81
      · have h := o_pos c64 h
        refine e_lookup hg 388 dX0_run_93 (by decide) (by rw [c64] <;> decide) (by decide) ?_
        refine e_aload_n hg dX0_run_388 rfl ?_
        refine e_iload hg dX0_run_389 rfl ?_
        refine e_iconst (v := 3) hg dX0_run_391 (by decide) ?_
        refine e_iload_n hg dX0_run_392 rfl ?_
        refine e_iload hg dX0_run_393 rfl ?_
        obtain ⟨v65, M66, hc67, h⟩ := o_bd h
        refine m_callVI (rest := []) (v := v65) (M' := M66) (ci := 0) hg mfX0_run mvX0_run (hrec0 _ _ _ _ _ (v65, M66) hc67) lk_896 dX0_run_395 io_66 rfl rfl rfl (by omega) (Nat.le_of_ble_eq_true rfl) ?_
        refine e_iconst (v := 1) hg dX0_run_398 (by decide) ?_
        refine e_isub hg dX0_run_399 ?_
        exact m_iret hg hr dX0_run_400 h
      have h := o_neg c64 h
      refine e_lookup (off := 308) hg 401 dX0_run_93 (by decide) (by have e_c13 := Ne.symm (ne_toIntL (n := 1) (by decide) c13); have e_c14 := Ne.symm (ne_toIntL (n := 2) (by decide) c14); have e_c21 := Ne.symm (ne_toIntL (n := 10) (by decide) c21); have e_c25 := Ne.symm (ne_toIntL (n := 11) (by decide) c25); have e_c26 := Ne.symm (ne_toIntL (n := 20) (by decide) c26); have e_c30 := Ne.symm (ne_toIntL (n := 30) (by decide) c30); have e_c34 := Ne.symm (ne_toIntL (n := 40) (by decide) c34); have e_c38 := Ne.symm (ne_toIntL (n := 41) (by decide) c38); have e_c42 := Ne.symm (ne_toIntL (n := 50) (by decide) c42); have e_c49 := Ne.symm (ne_toIntL (n := 60) (by decide) c49); have e_c53 := Ne.symm (ne_toIntL (n := 70) (by decide) c53); have e_c57 := Ne.symm (ne_toIntL (n := 80) (by decide) c57); have e_c64 := Ne.symm (ne_toIntL (n := 81) (by decide) c64); simp [Op.lookupswitch.offset, e_c13, e_c14, e_c21, e_c25, e_c26, e_c30, e_c34, e_c38, e_c42, e_c49, e_c53, e_c57, e_c64]) (by decide) ?_
      refine e_iconst (v := 0) hg dX0_run_401 (by decide) ?_
      exact m_iret hg hr dX0_run_402 h

def X0_run_B (rec : Nat → Int32 → Int32 → Int32 → Int32 → mm → Option (Int32 × mm)) (a1 : Int32) (a2 : Int32) (a3 : Int32) (a4 : Int32) (M : mm) : Option (Int32 × mm) :=
  X0_run_L6 rec a1 a2 a3 a4 (fun x5 M =>
      X0_run_b45 rec a1 a2 a3 a4 x5 M) 10000 a1 0 M
set_option maxRecDepth 100000 in
set_option maxHeartbeats 4000000 in
theorem X0_run_B_ok {dd : Nat} (hdd : 1 ≤ dd) {rec : Nat → Int32 → Int32 → Int32 → Int32 → mm → Option (Int32 × mm)} (hrec0 : ∀ (y0 y1 y2 y3 : Int32) (M : mm) (q : Int32 × mm), rec 0 y0 y1 y2 y3 M = some q → CM yX0_run cX0_run 9 (some .int) dd [.ref 66, .int y0, .int y1, .int y2, .int y3] (cells M) (some (.int q.1)) (cells q.2)) {a1 : Int32} {a2 : Int32} {a3 : Int32} {a4 : Int32} {M : mm} {r : Int32 × mm} (h : X0_run_B rec a1 a2 a3 a4 M = some r) : CM yX0_run cX0_run 9 (some .int) (dd + 1) [.ref 66, .int a1, .int a2, .int a3, .int a4] (cells M) (some (.int r.1)) (cells r.2) := by
  refine cm_of (ls := [some (.ref 66), some (.int a1), some (.int a2), some (.int a3), some (.int a4), none, none, none, none]) mfX0_run rfl (Nat.le_of_ble_eq_true rfl) (fun g hg hr => ?_)
  unfold X0_run_B at h
  refine e_iload_n hg dX0_run_0 rfl ?_
  refine e_istore (ls' := [some (.ref 66), some (.int a1), some (.int a2), some (.int a3), some (.int a4), some (.int a1), none, none, none]) hg dX0_run_1 rfl ?_
  refine e_iconst (v := 0) hg dX0_run_3 (by decide) ?_
  refine e_istore (ls' := [some (.ref 66), some (.int a1), some (.int a2), some (.int a3), some (.int a4), some (.int a1), some (.int 0), none, none]) hg dX0_run_4 rfl ?_
  refine X0_run_L6_ok hg hdd hrec0 hr (fun x5 o6 o7 o8 M h => ?_) 10000 _ _ _ _ _ h
  exact X0_run_b45_ok hg hdd hrec0 hr  h

def G_X0_run : Nat → Nat → Int32 → Int32 → Int32 → Int32 → mm → Option (Int32 × mm)
  | 0, _, _, _, _, _, _ => none
  | n_ + 1, t_, y0, y1, y2, y3, M => match t_ with
    | _ => X0_run_B (G_X0_run n_) y0 y1 y2 y3 M
set_option maxRecDepth 100000 in
set_option maxHeartbeats 4000000 in
theorem G_X0_run_ok : ∀ n_ : Nat, (∀ (y0 y1 y2 y3 : Int32) (M : mm) (q : Int32 × mm), G_X0_run n_ 0 y0 y1 y2 y3 M = some q → CM yX0_run cX0_run 9 (some .int) (1 + n_) [.ref 66, .int y0, .int y1, .int y2, .int y3] (cells M) (some (.int q.1)) (cells q.2)) := by
  intro n_
  induction n_ with
  | zero => exact fun _ _ _ _ _ _ h => o_no h
  | succ n_ ih =>
    exact fun _ _ _ _ _ _ h => X0_run_B_ok (by omega) ih h
def X0_run (a1 : Int32) (a2 : Int32) (a3 : Int32) (a4 : Int32) (M : mm) : Option (Int32 × mm) := G_X0_run 60 0 a1 a2 a3 a4 M
theorem X0_run_ok {a1 : Int32} {a2 : Int32} {a3 : Int32} {a4 : Int32} {M : mm} {r : Int32 × mm} (h : X0_run a1 a2 a3 a4 M = some r) : CM yX0_run cX0_run 9 (some .int) 61 [.ref 66, .int a1, .int a2, .int a3, .int a4] (cells M) (some (.int r.1)) (cells r.2) := (G_X0_run_ok 60) _ _ _ _ _ _ h
def X0_perform (a1 : Int32) (a2 : Int32) (a3 : Int32) (M : mm) : Option (Int32 × mm) :=
  lt_ (sA M 66 (upd (M.1 66) 1 0)) fun M1 =>
  if a1 < 0 then
    some (0, M1)
  else
    if a1 < (M1.1 66 0) then
      if a2 < 0 then
        some (0, M1)
      else
        if a2 < 4 then
          lt_ (sA M1 66 (upd (M1.1 66) 4 a1)) fun M6 =>
          gd (inb a1 50) <|
          lt_ (sA M6 66 (upd (M6.1 66) 5 (M6.1 68 a1.toNatClampNeg))) fun M8 =>
          bd (X0_run (M8.1 66 5) a2 a3 0 M8) fun v9 M10 =>
          some (v9, M10)
        else
          some (0, M1)
    else
      some (0, M1)
set_option maxRecDepth 100000 in
set_option maxHeartbeats 4000000 in
theorem X0_perform_ok {a1 : Int32} {a2 : Int32} {a3 : Int32} {M : mm} {r : Int32 × mm} (h : X0_perform a1 a2 a3 M = some r) : CM yX0_perform cX0_perform 4 (some .int) 62 [.ref 66, .int a1, .int a2, .int a3] (cells M) (some (.int r.1)) (cells r.2) := by
  refine cm_of (ls := [some (.ref 66), some (.int a1), some (.int a2), some (.int a3)]) mfX0_perform rfl (Nat.le_of_ble_eq_true rfl) (fun g hg hr => ?_)
  unfold X0_perform at h
  refine e_aload_n hg dX0_perform_0 rfl ?_
  refine e_iconst (v := 0) hg dX0_perform_1 (by decide) ?_
  obtain ⟨M1, hM1, h⟩ := o_lt h
  refine m_putI hg ciX0 1 lk_404 dX0_perform_2 io_66 (Nat.le_of_ble_eq_true rfl) rfl rfl rfl rfl ?_
  rw [← hM1]
  refine e_iload_n hg dX0_perform_5 rfl ?_
  refine e_iflt hg 26 dX0_perform_6 (by decide) (fun c2 => ?_) (fun c2 => ?_)
  · have h := o_pos c2 h
    refine e_iconst (v := 0) hg dX0_perform_26 (by decide) ?_
    exact m_iret hg hr dX0_perform_27 h
  · have h := o_neg c2 h
    refine e_iload_n hg dX0_perform_9 rfl ?_
    refine e_aload_n hg dX0_perform_10 rfl ?_
    refine m_getI hg ciX0 0 lk_402 dX0_perform_11 io_66 (Nat.le_of_ble_eq_true rfl) rfl ?_
    refine e_icmpge hg 26 dX0_perform_14 (by decide) (fun c3 => ?_) (fun c3 => ?_)
    · have h := o_pos c3 h
      refine e_iload_n hg dX0_perform_17 rfl ?_
      refine e_iflt hg 26 dX0_perform_18 (by decide) (fun c4 => ?_) (fun c4 => ?_)
      · have h := o_pos c4 h
        refine e_iconst (v := 0) hg dX0_perform_26 (by decide) ?_
        exact m_iret hg hr dX0_perform_27 h
      · have h := o_neg c4 h
        refine e_iload_n hg dX0_perform_21 rfl ?_
        refine e_iconst (v := 4) hg dX0_perform_22 (by decide) ?_
        refine e_icmplt hg 28 dX0_perform_23 (by decide) (fun c5 => ?_) (fun c5 => ?_)
        · have h := o_pos c5 h
          refine e_aload_n hg dX0_perform_28 rfl ?_
          refine e_iload_n hg dX0_perform_29 rfl ?_
          obtain ⟨M6, hM6, h⟩ := o_lt h
          refine m_putI hg ciX0 4 lk_409 dX0_perform_30 io_66 (Nat.le_of_ble_eq_true rfl) rfl rfl rfl rfl ?_
          rw [← hM6]
          refine e_aload_n hg dX0_perform_33 rfl ?_
          refine e_aload_n hg dX0_perform_34 rfl ?_
          refine m_getR (q := 68) hg ciX0 3 lk_408 dX0_perform_35 io_66 (Nat.le_of_ble_eq_true rfl) rfl rf_66_3 ?_
          refine e_iload_n hg dX0_perform_38 rfl ?_
          obtain ⟨hi7, h⟩ := o_gd h
          refine m_iald hg sh_68 hi7 dX0_perform_39 ?_
          obtain ⟨M8, hM8, h⟩ := o_lt h
          refine m_putI hg ciX0 5 lk_410 dX0_perform_40 io_66 (Nat.le_of_ble_eq_true rfl) rfl rfl rfl rfl ?_
          rw [← hM8]
          refine e_aload_n hg dX0_perform_43 rfl ?_
          refine e_aload_n hg dX0_perform_44 rfl ?_
          refine m_getI hg ciX0 5 lk_410 dX0_perform_45 io_66 (Nat.le_of_ble_eq_true rfl) rfl ?_
          refine e_iload_n hg dX0_perform_48 rfl ?_
          refine e_iload_n hg dX0_perform_49 rfl ?_
          refine e_iconst (v := 0) hg dX0_perform_50 (by decide) ?_
          obtain ⟨v9, M10, hc11, h⟩ := o_bd h
          refine m_callVI (rest := []) (v := v9) (M' := M10) (ci := 0) hg mfX0_run mvX0_run (X0_run_ok (r := (v9, M10)) hc11) lk_896 dX0_perform_51 io_66 rfl rfl rfl (by omega) (Nat.le_of_ble_eq_true rfl) ?_
          exact m_iret hg hr dX0_perform_54 h
        · have h := o_neg c5 h
          refine e_iconst (v := 0) hg dX0_perform_26 (by decide) ?_
          exact m_iret hg hr dX0_perform_27 h
    · have h := o_neg c3 h
      refine e_iconst (v := 0) hg dX0_perform_26 (by decide) ?_
      exact m_iret hg hr dX0_perform_27 h

