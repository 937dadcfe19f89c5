def X11_paysAs_b10 (rec : Nat → Int32 → Int32 → mm → Option (Int32 × mm)) (a1 : Int32) (a2 : Int32) (M : mm) : Option (Int32 × mm) :=
  bd (X11_begins 41 M) fun u2 M3 =>
  bd (rec 0 2 (a2 + 1) M3) fun v5 M6 =>
  some (v5, M6)
set_option maxRecDepth 100000 in
set_option maxHeartbeats 4000000 in
theorem X11_paysAs_b10_ok {dd : Nat} {g : gx} (hg : EC g cX11_paysAs RX11 (dd + 1)) (hdd : 43 ≤ dd) {rec : Nat → Int32 → Int32 → mm → Option (Int32 × mm)} (hrec0 : ∀ (y0 y1 : Int32) (M : mm) (q : Int32 × mm), rec 0 y0 y1 M = some q → CM yX11_paysAs cX11_paysAs 4 (some .int) dd [.ref 82, .int y0, .int y1] (cells M) (some (.int q.1)) (cells q.2)) {a1 : Int32} {a2 : Int32} {r : Int32 × mm} (hr : RT g (some .int) (0, 0) (some (.int r.1)) (cells r.2)) {o3 : Option Value} {M : mm} (h : X11_paysAs_b10 rec a1 a2 M = some r) : E g (0, 0) 10 [some (.ref 82), some (.int a1), some (.int a2), o3] [] (cells M) := by
  unfold X11_paysAs_b10 at h
  refine e_aload_n hg dX11_paysAs_10 rfl ?_
  refine e_bipush (v := 41) hg dX11_paysAs_11 (by decide) ?_
  obtain ⟨u2, M3, hc4, h⟩ := o_bd h
  refine m_callVV (rest := []) (M' := M3) (ci := 11) hg mfX11_begins mvX11_begins (X11_begins_ok (r := (u2, M3)) hc4) lk_1476 dX11_paysAs_13 io_82 rfl rfl rfl (by omega) (Nat.le_of_ble_eq_true rfl) ?_
  refine e_aload_n hg dX11_paysAs_16 rfl ?_
  refine e_iconst (v := 2) hg dX11_paysAs_17 (by decide) ?_
  refine e_iload_n hg dX11_paysAs_18 rfl ?_
  refine e_iconst (v := 1) hg dX11_paysAs_19 (by decide) ?_
  refine e_iadd hg dX11_paysAs_20 ?_
  obtain ⟨v5, M6, hc7, h⟩ := o_bd h
  refine m_callVI (rest := []) (v := v5) (M' := M6) (ci := 11) hg mfX11_paysAs mvX11_paysAs (hrec0 _ _ _ (v5, M6) hc7) lk_1480 dX11_paysAs_21 io_82 rfl rfl rfl (by omega) (Nat.le_of_ble_eq_true rfl) ?_
  exact m_iret hg hr dX11_paysAs_24 h

def X11_paysAs_B (rec : Nat → Int32 → Int32 → mm → Option (Int32 × mm)) (a1 : Int32) (a2 : Int32) (M : mm) : Option (Int32 × mm) :=
  if a1 = 3 then
    X11_paysAs_b10 rec a1 a2 M
  else
    if a1 = 5 then
      X11_paysAs_b10 rec a1 a2 M
    else
      if a1 = 2 then
        bd (X11_begins 30 M) fun u10 M11 =>
        bd (rec 0 0 a2 M11) fun v13 M14 =>
        some ((-v13), M14)
      else
        if a1 = 7 then
          bd (X11_begins 80 M) fun u17 M18 =>
          bd (rec 0 4 a2 M18) fun v20 M21 =>
          bd (X11_leavesAs (M21.1 82 57) 2 M21) fun v23 M24 =>
          some ((v20 + v23), M24)
        else
          bd (X11_begins 10 M) fun u26 M27 =>
          bd (X11_mendsAs (M27.1 82 57) a2 M27) fun v29 M30 =>
          some ((v29 * 2), M30)
set_option maxRecDepth 100000 in
set_option maxHeartbeats 4000000 in
theorem X11_paysAs_B_ok {dd : Nat} (hdd : 43 ≤ dd) {rec : Nat → Int32 → Int32 → mm → Option (Int32 × mm)} (hrec0 : ∀ (y0 y1 : Int32) (M : mm) (q : Int32 × mm), rec 0 y0 y1 M = some q → CM yX11_paysAs cX11_paysAs 4 (some .int) dd [.ref 82, .int y0, .int y1] (cells M) (some (.int q.1)) (cells q.2)) {a1 : Int32} {a2 : Int32} {M : mm} {r : Int32 × mm} (h : X11_paysAs_B rec a1 a2 M = some r) : CM yX11_paysAs cX11_paysAs 4 (some .int) (dd + 1) [.ref 82, .int a1, .int a2] (cells M) (some (.int r.1)) (cells r.2) := by
  refine cm_of (ls := [some (.ref 82), some (.int a1), some (.int a2), none]) mfX11_paysAs rfl (Nat.le_of_ble_eq_true rfl) (fun g hg hr => ?_)
  unfold X11_paysAs_B at h
  refine e_iload_n hg dX11_paysAs_0 rfl ?_
  refine e_iconst (v := 3) hg dX11_paysAs_1 (by decide) ?_
  refine e_icmpeq hg 10 dX11_paysAs_2 (by decide) (fun c1 => ?_) (fun c1 => ?_)
  · have h := o_pos c1 h
    exact X11_paysAs_b10_ok hg hdd hrec0 hr  h
  · have h := o_neg c1 h
    refine e_iload_n hg dX11_paysAs_5 rfl ?_
    refine e_iconst (v := 5) hg dX11_paysAs_6 (by decide) ?_
    refine e_icmpne hg 25 dX11_paysAs_7 (by decide) (fun c8 => ?_) (fun c8 => ?_)
    · have h := o_pos c8 h
      exact X11_paysAs_b10_ok hg hdd hrec0 hr  h
    · have h := o_neg c8 h
      refine e_iload_n hg dX11_paysAs_25 rfl ?_
      refine e_iconst (v := 2) hg dX11_paysAs_26 (by decide) ?_
      refine e_icmpne hg 44 dX11_paysAs_27 (by decide) (fun c9 => ?_) (fun c9 => ?_)
      · have h := o_pos c9 h
        refine e_aload_n hg dX11_paysAs_30 rfl ?_
        refine e_bipush (v := 30) hg dX11_paysAs_31 (by decide) ?_
        obtain ⟨u10, M11, hc12, h⟩ := o_bd h
        refine m_callVV (rest := []) (M' := M11) (ci := 11) hg mfX11_begins mvX11_begins (X11_begins_ok (r := (u10, M11)) hc12) lk_1476 dX11_paysAs_33 io_82 rfl rfl rfl (by omega) (Nat.le_of_ble_eq_true rfl) ?_
        refine e_aload_n hg dX11_paysAs_36 rfl ?_
        refine e_iconst (v := 0) hg dX11_paysAs_37 (by decide) ?_
        refine e_iload_n hg dX11_paysAs_38 rfl ?_
        obtain ⟨v13, M14, hc15, h⟩ := o_bd h
        refine m_callVI (rest := []) (v := v13) (M' := M14) (ci := 11) hg mfX11_paysAs mvX11_paysAs (hrec0 _ _ _ (v13, M14) hc15) lk_1480 dX11_paysAs_39 io_82 rfl rfl rfl (by omega) (Nat.le_of_ble_eq_true rfl) ?_
        refine e_ineg hg dX11_paysAs_42 ?_
        exact m_iret hg hr dX11_paysAs_43 h
      · have h := o_neg c9 h
        refine e_iload_n hg dX11_paysAs_44 rfl ?_
        refine e_bipush (v := 7) hg dX11_paysAs_45 (by decide) ?_
        refine e_icmpne hg 75 dX11_paysAs_47 (by decide) (fun c16 => ?_) (fun c16 => ?_)
        · have h := o_pos c16 h
          refine e_aload_n hg dX11_paysAs_50 rfl ?_
          refine e_bipush (v := 80) hg dX11_paysAs_51 (by decide) ?_
          obtain ⟨u17, M18, hc19, h⟩ := o_bd h
          refine m_callVV (rest := []) (M' := M18) (ci := 11) hg mfX11_begins mvX11_begins (X11_begins_ok (r := (u17, M18)) hc19) lk_1476 dX11_paysAs_53 io_82 rfl rfl rfl (by omega) (Nat.le_of_ble_eq_true rfl) ?_
          refine e_aload_n hg dX11_paysAs_56 rfl ?_
          refine e_iconst (v := 4) hg dX11_paysAs_57 (by decide) ?_
          refine e_iload_n hg dX11_paysAs_58 rfl ?_
          obtain ⟨v20, M21, hc22, h⟩ := o_bd h
          refine m_callVI (rest := []) (v := v20) (M' := M21) (ci := 11) hg mfX11_paysAs mvX11_paysAs (hrec0 _ _ _ (v20, M21) hc22) lk_1480 dX11_paysAs_59 io_82 rfl rfl rfl (by omega) (Nat.le_of_ble_eq_true rfl) ?_
          refine e_istore_n (ls' := [some (.ref 82), some (.int a1), some (.int a2), some (.int v20)]) hg dX11_paysAs_62 rfl ?_
          refine e_iload_n hg dX11_paysAs_63 rfl ?_
          refine e_aload_n hg dX11_paysAs_64 rfl ?_
          refine e_aload_n hg dX11_paysAs_65 rfl ?_
          refine m_getI hg ciX11 57 lk_1043 dX11_paysAs_66 io_82 (Nat.le_of_ble_eq_true rfl) rfl ?_
          refine e_iconst (v := 2) hg dX11_paysAs_69 (by decide) ?_
          obtain ⟨v23, M24, hc25, h⟩ := o_bd h
          refine m_callVI (rest := [.int v20]) (v := v23) (M' := M24) (ci := 11) hg mfX11_leavesAs mvX11_leavesAs (X11_leavesAs_ok (r := (v23, M24)) hc25) lk_1484 dX11_paysAs_70 io_82 rfl rfl rfl (by omega) (Nat.le_of_ble_eq_true rfl) ?_
          refine e_iadd hg dX11_paysAs_73 ?_
          exact m_iret hg hr dX11_paysAs_74 h
        · have h := o_neg c16 h
          refine e_aload_n hg dX11_paysAs_75 rfl ?_
          refine e_bipush (v := 10) hg dX11_paysAs_76 (by decide) ?_
          obtain ⟨u26, M27, hc28, h⟩ := o_bd h
          refine m_callVV (rest := []) (M' := M27) (ci := 11) hg mfX11_begins mvX11_begins (X11_begins_ok (r := (u26, M27)) hc28) lk_1476 dX11_paysAs_78 io_82 rfl rfl rfl (by omega) (Nat.le_of_ble_eq_true rfl) ?_
          refine e_aload_n hg dX11_paysAs_81 rfl ?_
          refine e_aload_n hg dX11_paysAs_82 rfl ?_
          refine m_getI hg ciX11 57 lk_1043 dX11_paysAs_83 io_82 (Nat.le_of_ble_eq_true rfl) rfl ?_
          refine e_iload_n hg dX11_paysAs_86 rfl ?_
          obtain ⟨v29, M30, hc31, h⟩ := o_bd h
          refine m_callVI (rest := []) (v := v29) (M' := M30) (ci := 11) hg mfX11_mendsAs mvX11_mendsAs (X11_mendsAs_ok (r := (v29, M30)) hc31) lk_1472 dX11_paysAs_87 io_82 rfl rfl rfl (by omega) (Nat.le_of_ble_eq_true rfl) ?_
          refine e_iconst (v := 2) hg dX11_paysAs_90 (by decide) ?_
          refine e_imul hg dX11_paysAs_91 ?_
          exact m_iret hg hr dX11_paysAs_92 h

def G_X11_paysAs : Nat → Nat → Int32 → Int32 → mm → Option (Int32 × mm)
  | 0, _, _, _, _ => none
  | n_ + 1, t_, y0, y1, M => match t_ with
    | _ => X11_paysAs_B (G_X11_paysAs n_) y0 y1 M
set_option maxRecDepth 100000 in
set_option maxHeartbeats 4000000 in
theorem G_X11_paysAs_ok : ∀ n_ : Nat, (∀ (y0 y1 : Int32) (M : mm) (q : Int32 × mm), G_X11_paysAs n_ 0 y0 y1 M = some q → CM yX11_paysAs cX11_paysAs 4 (some .int) (43 + n_) [.ref 82, .int y0, .int y1] (cells M) (some (.int q.1)) (cells q.2)) := by
  intro n_
  induction n_ with
  | zero => exact fun _ _ _ _ h => o_no h
  | succ n_ ih =>
    exact fun _ _ _ _ h => X11_paysAs_B_ok (by omega) ih h
def X11_paysAs (a1 : Int32) (a2 : Int32) (M : mm) : Option (Int32 × mm) := G_X11_paysAs 20 0 a1 a2 M
theorem X11_paysAs_ok {a1 : Int32} {a2 : Int32} {M : mm} {r : Int32 × mm} (h : X11_paysAs a1 a2 M = some r) : CM yX11_paysAs cX11_paysAs 4 (some .int) 63 [.ref 82, .int a1, .int a2] (cells M) (some (.int r.1)) (cells r.2) := (G_X11_paysAs_ok 20) _ _ _ _ h
def X11_tellsAs_B (rec : Nat → Int32 → Int32 → mm → Option (Int32 × mm)) (a1 : Int32) (a2 : Int32) (M : mm) : Option (Int32 × mm) :=
  if a1 = 5 then
    bd (X11_begins 60 M) fun u2 M3 =>
    bd (rec 0 3 a2 M3) fun v5 M6 =>
    some ((v5 ^^^ 5), M6)
  else
    if a1 = 7 then
      bd (X11_begins 81 M) fun u9 M10 =>
      bd (rec 0 4 a2 M10) fun v12 M13 =>
      some ((v12 - 1), M13)
    else
      bd (X11_begins 2 M) fun u15 M16 =>
      bd (X11_paysAs (M16.1 82 57) a2 M16) fun v18 M19 =>
      bd (X11_leavesAs (M19.1 82 57) 1 M19) fun v21 M22 =>
      some ((v18 - v21), M22)
set_option maxRecDepth 100000 in
set_option maxHeartbeats 4000000 in
theorem X11_tellsAs_B_ok {dd : Nat} (hdd : 64 ≤ dd) {rec : Nat → Int32 → Int32 → mm → Option (Int32 × mm)} (hrec0 : ∀ (y0 y1 : Int32) (M : mm) (q : Int32 × mm), rec 0 y0 y1 M = some q → CM yX11_tellsAs cX11_tellsAs 4 (some .int) dd [.ref 82, .int y0, .int y1] (cells M) (some (.int q.1)) (cells q.2)) {a1 : Int32} {a2 : Int32} {M : mm} {r : Int32 × mm} (h : X11_tellsAs_B rec a1 a2 M = some r) : CM yX11_tellsAs cX11_tellsAs 4 (some .int) (dd + 1) [.ref 82, .int a1, .int a2] (cells M) (some (.int r.1)) (cells r.2) := by
  refine cm_of (ls := [some (.ref 82), some (.int a1), some (.int a2), none]) mfX11_tellsAs rfl (Nat.le_of_ble_eq_true rfl) (fun g hg hr => ?_)
  unfold X11_tellsAs_B at h
  refine e_iload_n hg dX11_tellsAs_0 rfl ?_
  refine e_iconst (v := 5) hg dX11_tellsAs_1 (by decide) ?_
  refine e_icmpne hg 20 dX11_tellsAs_2 (by decide) (fun c1 => ?_) (fun c1 => ?_)
  · have h := o_pos c1 h
    refine e_aload_n hg dX11_tellsAs_5 rfl ?_
    refine e_bipush (v := 60) hg dX11_tellsAs_6 (by decide) ?_
    obtain ⟨u2, M3, hc4, h⟩ := o_bd h
    refine m_callVV (rest := []) (M' := M3) (ci := 11) hg mfX11_begins mvX11_begins (X11_begins_ok (r := (u2, M3)) hc4) lk_1476 dX11_tellsAs_8 io_82 rfl rfl rfl (by omega) (Nat.le_of_ble_eq_true rfl) ?_
    refine e_aload_n hg dX11_tellsAs_11 rfl ?_
    refine e_iconst (v := 3) hg dX11_tellsAs_12 (by decide) ?_
    refine e_iload_n hg dX11_tellsAs_13 rfl ?_
    obtain ⟨v5, M6, hc7, h⟩ := o_bd h
    refine m_callVI (rest := []) (v := v5) (M' := M6) (ci := 11) hg mfX11_tellsAs mvX11_tellsAs (hrec0 _ _ _ (v5, M6) hc7) lk_1488 dX11_tellsAs_14 io_82 rfl rfl rfl (by omega) (Nat.le_of_ble_eq_true rfl) ?_
    refine e_iconst (v := 5) hg dX11_tellsAs_17 (by decide) ?_
    refine e_ixor hg dX11_tellsAs_18 ?_
    exact m_iret hg hr dX11_tellsAs_19 h
  · have h := o_neg c1 h
    refine e_iload_n hg dX11_tellsAs_20 rfl ?_
    refine e_bipush (v := 7) hg dX11_tellsAs_21 (by decide) ?_
    refine e_icmpne hg 41 dX11_tellsAs_23 (by decide) (fun c8 => ?_) (fun c8 => ?_)
    · have h := o_pos c8 h
      refine e_aload_n hg dX11_tellsAs_26 rfl ?_
      refine e_bipush (v := 81) hg dX11_tellsAs_27 (by decide) ?_
      obtain ⟨u9, M10, hc11, h⟩ := o_bd h
      refine m_callVV (rest := []) (M' := M10) (ci := 11) hg mfX11_begins mvX11_begins (X11_begins_ok (r := (u9, M10)) hc11) lk_1476 dX11_tellsAs_29 io_82 rfl rfl rfl (by omega) (Nat.le_of_ble_eq_true rfl) ?_
      refine e_aload_n hg dX11_tellsAs_32 rfl ?_
      refine e_iconst (v := 4) hg dX11_tellsAs_33 (by decide) ?_
      refine e_iload_n hg dX11_tellsAs_34 rfl ?_
      obtain ⟨v12, M13, hc14, h⟩ := o_bd h
      refine m_callVI (rest := []) (v := v12) (M' := M13) (ci := 11) hg mfX11_tellsAs mvX11_tellsAs (hrec0 _ _ _ (v12, M13) hc14) lk_1488 dX11_tellsAs_35 io_82 rfl rfl rfl (by omega) (Nat.le_of_ble_eq_true rfl) ?_
      refine e_iconst (v := 1) hg dX11_tellsAs_38 (by decide) ?_
      refine e_isub hg dX11_tellsAs_39 ?_
      exact m_iret hg hr dX11_tellsAs_40 h
    · have h := o_neg c8 h
      refine e_aload_n hg dX11_tellsAs_41 rfl ?_
      refine e_iconst (v := 2) hg dX11_tellsAs_42 (by decide) ?_
      obtain ⟨u15, M16, hc17, h⟩ := o_bd h
      refine m_callVV (rest := []) (M' := M16) (ci := 11) hg mfX11_begins mvX11_begins (X11_begins_ok (r := (u15, M16)) hc17) lk_1476 dX11_tellsAs_43 io_82 rfl rfl rfl (by omega) (Nat.le_of_ble_eq_true rfl) ?_
      refine e_aload_n hg dX11_tellsAs_46 rfl ?_
      refine e_aload_n hg dX11_tellsAs_47 rfl ?_
      refine m_getI hg ciX11 57 lk_1043 dX11_tellsAs_48 io_82 (Nat.le_of_ble_eq_true rfl) rfl ?_
      refine e_iload_n hg dX11_tellsAs_51 rfl ?_
      obtain ⟨v18, M19, hc20, h⟩ := o_bd h
      refine m_callVI (rest := []) (v := v18) (M' := M19) (ci := 11) hg mfX11_paysAs mvX11_paysAs (X11_paysAs_ok (r := (v18, M19)) hc20) lk_1480 dX11_tellsAs_52 io_82 rfl rfl rfl (by omega) (Nat.le_of_ble_eq_true rfl) ?_
      refine e_istore_n (ls' := [some (.ref 82), some (.int a1), some (.int a2), some (.int v18)]) hg dX11_tellsAs_55 rfl ?_
      refine e_iload_n hg dX11_tellsAs_56 rfl ?_
      refine e_aload_n hg dX11_tellsAs_57 rfl ?_
      refine e_aload_n hg dX11_tellsAs_58 rfl ?_
      refine m_getI hg ciX11 57 lk_1043 dX11_tellsAs_59 io_82 (Nat.le_of_ble_eq_true rfl) rfl ?_
      refine e_iconst (v := 1) hg dX11_tellsAs_62 (by decide) ?_
      obtain ⟨v21, M22, hc23, h⟩ := o_bd h
      refine m_callVI (rest := [.int v18]) (v := v21) (M' := M22) (ci := 11) hg mfX11_leavesAs mvX11_leavesAs (X11_leavesAs_ok (r := (v21, M22)) hc23) lk_1484 dX11_tellsAs_63 io_82 rfl rfl rfl (by omega) (Nat.le_of_ble_eq_true rfl) ?_
      refine e_isub hg dX11_tellsAs_66 ?_
      exact m_iret hg hr dX11_tellsAs_67 h

def G_X11_tellsAs : Nat → Nat → Int32 → Int32 → mm → Option (Int32 × mm)
  | 0, _, _, _, _ => none
  | n_ + 1, t_, y0, y1, M => match t_ with
    | _ => X11_tellsAs_B (G_X11_tellsAs n_) y0 y1 M
set_option maxRecDepth 100000 in
set_option maxHeartbeats 4000000 in
theorem G_X11_tellsAs_ok : ∀ n_ : Nat, (∀ (y0 y1 : Int32) (M : mm) (q : Int32 × mm), G_X11_tellsAs n_ 0 y0 y1 M = some q → CM yX11_tellsAs cX11_tellsAs 4 (some .int) (64 + n_) [.ref 82, .int y0, .int y1] (cells M) (some (.int q.1)) (cells q.2)) := by
  intro n_
  induction n_ with
  | zero => exact fun _ _ _ _ h => o_no h
  | succ n_ ih =>
    exact fun _ _ _ _ h => X11_tellsAs_B_ok (by omega) ih h
def X11_tellsAs (a1 : Int32) (a2 : Int32) (M : mm) : Option (Int32 × mm) := G_X11_tellsAs 20 0 a1 a2 M
theorem X11_tellsAs_ok {a1 : Int32} {a2 : Int32} {M : mm} {r : Int32 × mm} (h : X11_tellsAs a1 a2 M = some r) : CM yX11_tellsAs cX11_tellsAs 4 (some .int) 84 [.ref 82, .int a1, .int a2] (cells M) (some (.int r.1)) (cells r.2) := (G_X11_tellsAs_ok 20) _ _ _ _ h
def X11_act (a1 : Int32) (a2 : Int32) (a3 : Int32) (M : mm) : Option (Int32 × mm) :=
  lt_ (sA M 82 (upd (M.1 82) 56 0)) fun M1 =>
  bd (X11_isBody a1 M1) fun v2 M3 =>
  if v2 = 0 then
    some (0, M3)
  else
    gd (inb a1 50) <|
    lt_ (sA M3 82 (upd (M3.1 82) 57 (M3.1 111 a1.toNatClampNeg))) fun M7 =>
    lt_ (sA M7 82 (upd (M7.1 82) 58 a1)) fun M8 =>
    if a2 = 0 then
      bd (X11_mendsAs (M8.1 82 57) a3 M8) fun v10 M11 =>
      some (v10, M11)
    else
    if a2 = 1 then
      bd (X11_paysAs (M8.1 82 57) a3 M8) fun v14 M15 =>
      some (v14, M15)
    else
    if a2 = 2 then
      bd (X11_leavesAs (M8.1 82 57) a3 M8) fun v18 M19 =>
      some (v18, M19)
    else
    if a2 = 3 then
      bd (X11_tellsAs (M8.1 82 57) a3 M8) fun v22 M23 =>
      some (v22, M23)
    else
    some (0, M8)
set_option maxRecDepth 100000 in
set_option maxHeartbeats 4000000 in
theorem X11_act_ok {a1 : Int32} {a2 : Int32} {a3 : Int32} {M : mm} {r : Int32 × mm} (h : X11_act a1 a2 a3 M = some r) : CM yX11_act cX11_act 4 (some .int) 85 [.ref 82, .int a1, .int a2, .int a3] (cells M) (some (.int r.1)) (cells r.2) := by
  refine cm_of (ls := [some (.ref 82), some (.int a1), some (.int a2), some (.int a3)]) mfX11_act rfl (Nat.le_of_ble_eq_true rfl) (fun g hg hr => ?_)
  unfold X11_act at h
  refine e_aload_n hg dX11_act_0 rfl ?_
  refine e_iconst (v := 0) hg dX11_act_1 (by decide) ?_
  obtain ⟨M1, hM1, h⟩ := o_lt h
  refine m_putI hg ciX11 56 lk_1042 dX11_act_2 io_82 (Nat.le_of_ble_eq_true rfl) rfl rfl rfl rfl ?_
  rw [← hM1]
  refine e_aload_n hg dX11_act_5 rfl ?_
  refine e_iload_n hg dX11_act_6 rfl ?_
  obtain ⟨v2, M3, hc4, h⟩ := o_bd h
  refine m_callVI (rest := []) (v := v2) (M' := M3) (ci := 11) hg mfX11_isBody mvX11_isBody (X11_isBody_ok (r := (v2, M3)) hc4) lk_1468 dX11_act_7 io_82 rfl rfl rfl (by omega) (Nat.le_of_ble_eq_true rfl) ?_
  refine e_ifne hg 15 dX11_act_10 (by decide) (fun c5 => ?_) (fun c5 => ?_)
  · have h := o_pos c5 h
    refine e_iconst (v := 0) hg dX11_act_13 (by decide) ?_
    exact m_iret hg hr dX11_act_14 h
  · have h := o_neg c5 h
    refine e_aload_n hg dX11_act_15 rfl ?_
    refine e_aload_n hg dX11_act_16 rfl ?_
    refine m_getR (q := 111) hg ciX11 54 lk_1040 dX11_act_17 io_82 (Nat.le_of_ble_eq_true rfl) rfl rf_82_54 ?_
    refine e_iload_n hg dX11_act_20 rfl ?_
    obtain ⟨hi6, h⟩ := o_gd h
    refine m_iald hg sh_111 hi6 dX11_act_21 ?_
    obtain ⟨M7, hM7, h⟩ := o_lt h
    refine m_putI hg ciX11 57 lk_1043 dX11_act_22 io_82 (Nat.le_of_ble_eq_true rfl) rfl rfl rfl rfl ?_
    rw [← hM7]
    refine e_aload_n hg dX11_act_25 rfl ?_
    refine e_iload_n hg dX11_act_26 rfl ?_
    obtain ⟨M8, hM8, h⟩ := o_lt h
    refine m_putI hg ciX11 58 lk_1044 dX11_act_27 io_82 (Nat.le_of_ble_eq_true rfl) rfl rfl rfl rfl ?_
    rw [← hM8]
    refine e_iload_n hg dX11_act_30 rfl ?_
    by_cases c9 : a2 = 0
    · have h := o_pos c9 h
      refine e_tabIn (v := 0) hg 60 dX11_act_31 c9 (by decide) (by decide) rfl (by decide) ?_
      refine e_aload_n hg dX11_act_60 rfl ?_
      refine e_aload_n hg dX11_act_61 rfl ?_
      refine m_getI hg ciX11 57 lk_1043 dX11_act_62 io_82 (Nat.le_of_ble_eq_true rfl) rfl ?_
      refine e_iload_n hg dX11_act_65 rfl ?_
      obtain ⟨v10, M11, hc12, h⟩ := o_bd h
      refine m_callVI (rest := []) (v := v10) (M' := M11) (ci := 11) hg mfX11_mendsAs mvX11_mendsAs (X11_mendsAs_ok (r := (v10, M11)) hc12) lk_1472 dX11_act_66 io_82 rfl rfl rfl (by omega) (Nat.le_of_ble_eq_true rfl) ?_
      exact m_iret hg hr dX11_act_69 h
    have h := o_neg c9 h
    by_cases c13 : a2 = 1
    · have h := o_pos c13 h
      refine e_tabIn (v := 1) hg 70 dX11_act_31 c13 (by decide) (by decide) rfl (by decide) ?_
      refine e_aload_n hg dX11_act_70 rfl ?_
      refine e_aload_n hg dX11_act_71 rfl ?_
      refine m_getI hg ciX11 57 lk_1043 dX11_act_72 io_82 (Nat.le_of_ble_eq_true rfl) rfl ?_
      refine e_iload_n hg dX11_act_75 rfl ?_
      obtain ⟨v14, M15, hc16, h⟩ := o_bd h
      refine m_callVI (rest := []) (v := v14) (M' := M15) (ci := 11) hg mfX11_paysAs mvX11_paysAs (X11_paysAs_ok (r := (v14, M15)) hc16) lk_1480 dX11_act_76 io_82 rfl rfl rfl (by omega) (Nat.le_of_ble_eq_true rfl) ?_
      exact m_iret hg hr dX11_act_79 h
    have h := o_neg c13 h
    by_cases c17 : a2 = 2
    · have h := o_pos c17 h
      refine e_tabIn (v := 2) hg 80 dX11_act_31 c17 (by decide) (by decide) rfl (by decide) ?_
      refine e_aload_n hg dX11_act_80 rfl ?_
      refine e_aload_n hg dX11_act_81 rfl ?_
      refine m_getI hg ciX11 57 lk_1043 dX11_act_82 io_82 (Nat.le_of_ble_eq_true rfl) rfl ?_
      refine e_iload_n hg dX11_act_85 rfl ?_
      obtain ⟨v18, M19, hc20, h⟩ := o_bd h
      refine m_callVI (rest := []) (v := v18) (M' := M19) (ci := 11) hg mfX11_leavesAs mvX11_leavesAs (X11_leavesAs_ok (r := (v18, M19)) hc20) lk_1484 dX11_act_86 io_82 rfl rfl rfl (by omega) (Nat.le_of_ble_eq_true rfl) ?_
      exact m_iret hg hr dX11_act_89 h
    have h := o_neg c17 h
    by_cases c21 : a2 = 3
    · have h := o_pos c21 h
      refine e_tabIn (v := 3) hg 90 dX11_act_31 c21 (by decide) (by decide) rfl (by decide) ?_
      refine e_aload_n hg dX11_act_90 rfl ?_
      refine e_aload_n hg dX11_act_91 rfl ?_
      refine m_getI hg ciX11 57 lk_1043 dX11_act_92 io_82 (Nat.le_of_ble_eq_true rfl) rfl ?_
      refine e_iload_n hg dX11_act_95 rfl ?_
      obtain ⟨v22, M23, hc24, h⟩ := o_bd h
      refine m_callVI (rest := []) (v := v22) (M' := M23) (ci := 11) hg mfX11_tellsAs mvX11_tellsAs (X11_tellsAs_ok (r := (v22, M23)) hc24) lk_1488 dX11_act_96 io_82 rfl rfl rfl (by omega) (Nat.le_of_ble_eq_true rfl) ?_
      exact m_iret hg hr dX11_act_99 h
    have h := o_neg c21 h
    refine e_tabOut hg 100 dX11_act_31 (by have e_c9 := ne_toIntL (n := 0) (by decide) c9; have e_c13 := ne_toIntL (n := 1) (by decide) c13; have e_c17 := ne_toIntL (n := 2) (by decide) c17; have e_c21 := ne_toIntL (n := 3) (by decide) c21; omega) (by decide) ?_
    refine e_iconst (v := 0) hg dX11_act_100 (by decide) ?_
    exact m_iret hg hr dX11_act_101 h

def X11_trace (a1 : Int32) (M : mm) : Option (Int32 × mm) :=
  if a1 < 0 then
    some ((-1), M)
  else
    if a1 < (M.1 82 56) then
      if a1 < 24 then
        gd (inb a1 24) <|
        some ((M.1 112 a1.toNatClampNeg), M)
      else
        some ((-1), M)
    else
      some ((-1), M)
set_option maxRecDepth 100000 in
set_option maxHeartbeats 4000000 in
theorem X11_trace_ok {a1 : Int32} {M : mm} {r : Int32 × mm} (h : X11_trace a1 M = some r) : CM yX11_trace cX11_trace 2 (some .int) 0 [.ref 82, .int a1] (cells M) (some (.int r.1)) (cells r.2) := by
  refine cm_of (ls := [some (.ref 82), some (.int a1)]) mfX11_trace rfl (Nat.le_of_ble_eq_true rfl) (fun g hg hr => ?_)
  unfold X11_trace at h
  refine e_iload_n hg dX11_trace_0 rfl ?_
  refine e_iflt hg 27 dX11_trace_1 (by decide) (fun c1 => ?_) (fun c1 => ?_)
  · have h := o_pos c1 h
    refine e_iconst (v := -1) hg dX11_trace_27 (by decide) ?_
    exact m_iret hg hr dX11_trace_28 h
  · have h := o_neg c1 h
    refine e_iload_n hg dX11_trace_4 rfl ?_
    refine e_aload_n hg dX11_trace_5 rfl ?_
    refine m_getI hg ciX11 56 lk_1042 dX11_trace_6 io_82 (Nat.le_of_ble_eq_true rfl) rfl ?_
    refine e_icmpge hg 27 dX11_trace_9 (by decide) (fun c2 => ?_) (fun c2 => ?_)
    · have h := o_pos c2 h
      refine e_iload_n hg dX11_trace_12 rfl ?_
      refine e_bipush (v := 24) hg dX11_trace_13 (by decide) ?_
      refine e_icmpge hg 27 dX11_trace_15 (by decide) (fun c3 => ?_) (fun c3 => ?_)
      · have h := o_pos c3 h
        refine e_aload_n hg dX11_trace_18 rfl ?_
        refine m_getR (q := 112) hg ciX11 55 lk_1041 dX11_trace_19 io_82 (Nat.le_of_ble_eq_true rfl) rfl rf_82_55 ?_
        refine e_iload_n hg dX11_trace_22 rfl ?_
        obtain ⟨hi4, h⟩ := o_gd h
        refine m_iald hg sh_112 hi4 dX11_trace_23 ?_
        refine e_goto hg 28 dX11_trace_24 (by decide) ?_
        exact m_iret hg hr dX11_trace_28 h
      · have h := o_neg c3 h
        refine e_iconst (v := -1) hg dX11_trace_27 (by decide) ?_
        exact m_iret hg hr dX11_trace_28 h
    · have h := o_neg c2 h
      refine e_iconst (v := -1) hg dX11_trace_27 (by decide) ?_
      exact m_iret hg hr dX11_trace_28 h

def X11_keep_b22 (a1 : Int32) (a2 : Int32) (M : mm) : Option (Int32 × mm) :=
  gd (inb a1 6) <|
  lt_ (sA M 113 (upd (M.1 113) a1.toNatClampNeg a2)) fun M7 =>
  gd (inb a1 6) <|
  lt_ (sA M7 114 (upd (M7.1 114) a1.toNatClampNeg 0)) fun M9 =>
  some (1, M9)
set_option maxRecDepth 100000 in
set_option maxHeartbeats 4000000 in
theorem X11_keep_b22_ok {g : gx} (hg : EC g cX11_keep RX11 2) {a1 : Int32} {a2 : Int32} {r : Int32 × mm} (hr : RT g (some .int) (0, 0) (some (.int r.1)) (cells r.2)) {M : mm} (h : X11_keep_b22 a1 a2 M = some r) : E g (0, 0) 22 [some (.ref 82), some (.int a1), some (.int a2)] [] (cells M) := by
  unfold X11_keep_b22 at h
  refine e_aload_n hg dX11_keep_22 rfl ?_
  refine m_getR (q := 113) hg ciX11 59 lk_1045 dX11_keep_23 io_82 (Nat.le_of_ble_eq_true rfl) rfl rf_82_59 ?_
  refine e_iload_n hg dX11_keep_26 rfl ?_
  refine e_iload_n hg dX11_keep_27 rfl ?_
  obtain ⟨hi6, h⟩ := o_gd h
  obtain ⟨M7, hM7, h⟩ := o_lt h
  refine m_iast hg sh_113 hi6 dX11_keep_28 ?_
  rw [← hM7]
  refine e_aload_n hg dX11_keep_29 rfl ?_
  refine m_getR (q := 114) hg ciX11 60 lk_1046 dX11_keep_30 io_82 (Nat.le_of_ble_eq_true rfl) rfl rf_82_60 ?_
  refine e_iload_n hg dX11_keep_33 rfl ?_
  refine e_iconst (v := 0) hg dX11_keep_34 (by decide) ?_
  obtain ⟨hi8, h⟩ := o_gd h
  obtain ⟨M9, hM9, h⟩ := o_lt h
  refine m_iast hg sh_114 hi8 dX11_keep_35 ?_
  rw [← hM9]
  refine e_iconst (v := 1) hg dX11_keep_36 (by decide) ?_
  exact m_iret hg hr dX11_keep_37 h

def X11_keep (a1 : Int32) (a2 : Int32) (M : mm) : Option (Int32 × mm) :=
  bd (X11_isShelf a1 M) fun v1 M2 =>
  if v1 = 0 then
    some ((-1), M2)
  else
    if a2 = (-1) then
      X11_keep_b22 a1 a2 M2
    else
      bd (X11_isBody a2 M2) fun v10 M11 =>
      if v10 = 0 then
        some ((-1), M11)
      else
        X11_keep_b22 a1 a2 M11
set_option maxRecDepth 100000 in
set_option maxHeartbeats 4000000 in
theorem X11_keep_ok {a1 : Int32} {a2 : Int32} {M : mm} {r : Int32 × mm} (h : X11_keep a1 a2 M = some r) : CM yX11_keep cX11_keep 3 (some .int) 2 [.ref 82, .int a1, .int a2] (cells M) (some (.int r.1)) (cells r.2) := by
  refine cm_of (ls := [some (.ref 82), some (.int a1), some (.int a2)]) mfX11_keep rfl (Nat.le_of_ble_eq_true rfl) (fun g hg hr => ?_)
  unfold X11_keep at h
  refine e_iload_n hg dX11_keep_0 rfl ?_
  obtain ⟨v1, M2, hc3, h⟩ := o_bd h
  refine m_callSI (rest := []) (v := v1) (M' := M2) hg mfX11_isShelf mvX11_isShelf (X11_isShelf_ok (r := (v1, M2)) hc3) lk_1210 dX11_keep_1 rfl rfl (by omega) (Nat.le_of_ble_eq_true rfl) ?_
  refine e_ifeq hg 20 dX11_keep_4 (by decide) (fun c4 => ?_) (fun c4 => ?_)
  · have h := o_pos c4 h
    refine e_iconst (v := -1) hg dX11_keep_20 (by decide) ?_
    exact m_iret hg hr dX11_keep_21 h
  · have h := o_neg c4 h
    refine e_iload_n hg dX11_keep_7 rfl ?_
    refine e_iconst (v := -1) hg dX11_keep_8 (by decide) ?_
    refine e_icmpeq hg 22 dX11_keep_9 (by decide) (fun c5 => ?_) (fun c5 => ?_)
    · have h := o_pos c5 h
      exact X11_keep_b22_ok hg hr  h
    · have h := o_neg c5 h
      refine e_aload_n hg dX11_keep_12 rfl ?_
      refine e_iload_n hg dX11_keep_13 rfl ?_
      obtain ⟨v10, M11, hc12, h⟩ := o_bd h
      refine m_callVI (rest := []) (v := v10) (M' := M11) (ci := 11) hg mfX11_isBody mvX11_isBody (X11_isBody_ok (r := (v10, M11)) hc12) lk_1468 dX11_keep_14 io_82 rfl rfl rfl (by omega) (Nat.le_of_ble_eq_true rfl) ?_
      refine e_ifne hg 22 dX11_keep_17 (by decide) (fun c13 => ?_) (fun c13 => ?_)
      · have h := o_pos c13 h
        refine e_iconst (v := -1) hg dX11_keep_20 (by decide) ?_
        exact m_iret hg hr dX11_keep_21 h
      · have h := o_neg c13 h
        exact X11_keep_b22_ok hg hr  h

def X11_row_L57 (a1 : Int32) (a2 : Int32) (a3 : Int32) : Nat → Int32 → mm → Option (Int32 × mm)
  | 0, _, _ => none
  | n_ + 1, x4, M =>
    if x4 < ((60 * a1) + 60) then
      gd (inb x4 360) <|
      lt_ (sL M 115 (vp_updL (M.2.1 115) x4.toNatClampNeg 0)) fun M17 =>
      (X11_row_L57 a1 a2 a3 n_) (x4 + 1) M17
    else
      some (1, M)
set_option maxRecDepth 100000 in
set_option maxHeartbeats 4000000 in
theorem X11_row_L57_ok {g : gx} (hg : EC g cX11_row RX11 2) {a1 : Int32} {a2 : Int32} {a3 : Int32} {r : Int32 × mm} (hr : RT g (some .int) (0, 0) (some (.int r.1)) (cells r.2)) : ∀ (n_ : Nat) (x4 : Int32) (M : mm), X11_row_L57 a1 a2 a3 n_ x4 M = some r → E g (0, 0) 57 [some (.ref 82), some (.int a1), some (.int a2), some (.int a3), some (.int x4)] [] (cells M) := by
  intro n_
  induction n_ with
  | zero => intro x4 M h; exact o_no h
  | succ n_ ih =>
    intro x4 M h
    rw [X11_row_L57] at h
    refine e_iload hg dX11_row_57 rfl ?_
    refine e_bipush (v := 60) hg dX11_row_59 (by decide) ?_
    refine e_iload_n hg dX11_row_61 rfl ?_
    refine e_imul hg dX11_row_62 ?_
    refine e_bipush (v := 60) hg dX11_row_63 (by decide) ?_
    refine e_iadd hg dX11_row_65 ?_
    refine e_icmpge hg 83 dX11_row_66 (by decide) (fun c15 => ?_) (fun c15 => ?_)
    · have h := o_pos c15 h
      refine e_aload_n hg dX11_row_69 rfl ?_
      refine m_getR (q := 115) hg ciX11 61 lk_1047 dX11_row_70 io_82 (Nat.le_of_ble_eq_true rfl) rfl rf_82_61 ?_
      refine e_iload hg dX11_row_73 rfl ?_
      refine e_lconst (v := 0) hg dX11_row_75 (by decide) ?_
      obtain ⟨hi16, h⟩ := o_gd h
      obtain ⟨M17, hM17, h⟩ := o_lt h
      refine m_last hg sh_115 hi16 dX11_row_76 ?_
      rw [← hM17]
      refine e_iinc (v := (x4 + 1)) (ls' := [some (.ref 82), some (.int a1), some (.int a2), some (.int a3), some (.int (x4 + 1))]) hg dX11_row_77 rfl rfl rfl ?_
      refine e_goto hg 57 dX11_row_80 (by decide) ?_
      exact ih _ _ h
    · have h := o_neg c15 h
      refine e_iconst (v := 1) hg dX11_row_83 (by decide) ?_
      exact m_iret hg hr dX11_row_84 h

def X11_row (a1 : Int32) (a2 : Int32) (a3 : Int32) (M : mm) : Option (Int32 × mm) :=
  bd (X11_isShelf a1 M) fun v1 M2 =>
  if v1 = 0 then
    some ((-1), M2)
  else
    bd (X11_within (a2.toInt64) 0 4 M2) fun v5 M6 =>
    if v5 = 0 then
      some ((-1), M6)
    else
      if 60 < a3 then
        some ((-1), M6)
      else
        if a3 < 0 then
          some ((-14), M6)
        else
          gd (inb a1 6) <|
          lt_ (sA M6 113 (upd (M6.1 113) a1.toNatClampNeg (50 + a2))) fun M12 =>
          gd (inb a1 6) <|
          lt_ (sA M12 114 (upd (M12.1 114) a1.toNatClampNeg a3)) fun M14 =>
          X11_row_L57 a1 a2 a3 10000 (60 * a1) M14
set_option maxRecDepth 100000 in
set_option maxHeartbeats 4000000 in
theorem X11_row_ok {a1 : Int32} {a2 : Int32} {a3 : Int32} {M : mm} {r : Int32 × mm} (h : X11_row a1 a2 a3 M = some r) : CM yX11_row cX11_row 5 (some .int) 2 [.ref 82, .int a1, .int a2, .int a3] (cells M) (some (.int r.1)) (cells r.2) := by
  refine cm_of (ls := [some (.ref 82), some (.int a1), some (.int a2), some (.int a3), none]) mfX11_row rfl (Nat.le_of_ble_eq_true rfl) (fun g hg hr => ?_)
  unfold X11_row at h
  refine e_iload_n hg dX11_row_0 rfl ?_
  obtain ⟨v1, M2, hc3, h⟩ := o_bd h
  refine m_callSI (rest := []) (v := v1) (M' := M2) hg mfX11_isShelf mvX11_isShelf (X11_isShelf_ok (r := (v1, M2)) hc3) lk_1210 dX11_row_1 rfl rfl (by omega) (Nat.le_of_ble_eq_true rfl) ?_
  refine e_ifeq hg 25 dX11_row_4 (by decide) (fun c4 => ?_) (fun c4 => ?_)
  · have h := o_pos c4 h
    refine e_iconst (v := -1) hg dX11_row_25 (by decide) ?_
    exact m_iret hg hr dX11_row_26 h
  · have h := o_neg c4 h
    refine e_iload_n hg dX11_row_7 rfl ?_
    refine e_i2l hg dX11_row_8 ?_
    refine e_lconst (v := 0) hg dX11_row_9 (by decide) ?_
    refine e_ldc2 hg dX11_row_10 lk_1232 ?_
    obtain ⟨v5, M6, hc7, h⟩ := o_bd h
    refine m_callSI (rest := []) (v := v5) (M' := M6) hg mfX11_within mvX11_within (X11_within_ok (r := (v5, M6)) hc7) lk_1190 dX11_row_13 rfl rfl (by omega) (Nat.le_of_ble_eq_true rfl) ?_
    refine e_ifeq hg 25 dX11_row_16 (by decide) (fun c8 => ?_) (fun c8 => ?_)
    · have h := o_pos c8 h
      refine e_iconst (v := -1) hg dX11_row_25 (by decide) ?_
      exact m_iret hg hr dX11_row_26 h
    · have h := o_neg c8 h
      refine e_iload_n hg dX11_row_19 rfl ?_
      refine e_bipush (v := 60) hg dX11_row_20 (by decide) ?_
      refine e_icmple hg 27 dX11_row_22 (by decide) (fun c9 => ?_) (fun c9 => ?_)
      · have h := o_pos c9 h
        refine e_iconst (v := -1) hg dX11_row_25 (by decide) ?_
        exact m_iret hg hr dX11_row_26 h
      · have h := o_neg c9 h
        refine e_iload_n hg dX11_row_27 rfl ?_
        refine e_ifge hg 34 dX11_row_28 (by decide) (fun c10 => ?_) (fun c10 => ?_)
        · have h := o_pos c10 h
          refine e_bipush (v := -14) hg dX11_row_31 (by decide) ?_
          exact m_iret hg hr dX11_row_33 h
        · have h := o_neg c10 h
          refine e_aload_n hg dX11_row_34 rfl ?_
          refine m_getR (q := 113) hg ciX11 59 lk_1045 dX11_row_35 io_82 (Nat.le_of_ble_eq_true rfl) rfl rf_82_59 ?_
          refine e_iload_n hg dX11_row_38 rfl ?_
          refine e_bipush (v := 50) hg dX11_row_39 (by decide) ?_
          refine e_iload_n hg dX11_row_41 rfl ?_
          refine e_iadd hg dX11_row_42 ?_
          obtain ⟨hi11, h⟩ := o_gd h
          obtain ⟨M12, hM12, h⟩ := o_lt h
          refine m_iast hg sh_113 hi11 dX11_row_43 ?_
          rw [← hM12]
          refine e_aload_n hg dX11_row_44 rfl ?_
          refine m_getR (q := 114) hg ciX11 60 lk_1046 dX11_row_45 io_82 (Nat.le_of_ble_eq_true rfl) rfl rf_82_60 ?_
          refine e_iload_n hg dX11_row_48 rfl ?_
          refine e_iload_n hg dX11_row_49 rfl ?_
          obtain ⟨hi13, h⟩ := o_gd h
          obtain ⟨M14, hM14, h⟩ := o_lt h
          refine m_iast hg sh_114 hi13 dX11_row_50 ?_
          rw [← hM14]
          refine e_bipush (v := 60) hg dX11_row_51 (by decide) ?_
          refine e_iload_n hg dX11_row_53 rfl ?_
          refine e_imul hg dX11_row_54 ?_
          refine e_istore (ls' := [some (.ref 82), some (.int a1), some (.int a2), some (.int a3), some (.int (60 * a1))]) hg dX11_row_55 rfl ?_
          exact X11_row_L57_ok hg hr  10000 _ _ h

def X11_refusal (a1 : Int32) (a2 : Int32) (M : mm) : Option (Int32 × mm) :=
  bd (X11_isShelf a1 M) fun v1 M2 =>
  if v1 = 0 then
    some ((-1), M2)
  else
    gd (inb a1 6) <|
    if (M2.1 113 a1.toNatClampNeg) < 0 then
      some ((-11), M2)
    else
      gd (inb a1 6) <|
      if (M2.1 113 a1.toNatClampNeg) < 50 then
        some ((-12), M2)
      else
        if a2 < 0 then
          some ((-13), M2)
        else
          gd (inb a1 6) <|
          if a2 < (M2.1 114 a1.toNatClampNeg) then
            some (0, M2)
          else
            some ((-13), M2)
set_option maxRecDepth 100000 in
set_option maxHeartbeats 4000000 in
theorem X11_refusal_ok {a1 : Int32} {a2 : Int32} {M : mm} {r : Int32 × mm} (h : X11_refusal a1 a2 M = some r) : CM yX11_refusal cX11_refusal 3 (some .int) 2 [.ref 82, .int a1, .int a2] (cells M) (some (.int r.1)) (cells r.2) := by
  refine cm_of (ls := [some (.ref 82), some (.int a1), some (.int a2)]) mfX11_refusal rfl (Nat.le_of_ble_eq_true rfl) (fun g hg hr => ?_)
  unfold X11_refusal at h
  refine e_iload_n hg dX11_refusal_0 rfl ?_
  obtain ⟨v1, M2, hc3, h⟩ := o_bd h
  refine m_callSI (rest := []) (v := v1) (M' := M2) hg mfX11_isShelf mvX11_isShelf (X11_isShelf_ok (r := (v1, M2)) hc3) lk_1210 dX11_refusal_1 rfl rfl (by omega) (Nat.le_of_ble_eq_true rfl) ?_
  refine e_ifne hg 9 dX11_refusal_4 (by decide) (fun c4 => ?_) (fun c4 => ?_)
  · have h := o_pos c4 h
    refine e_iconst (v := -1) hg dX11_refusal_7 (by decide) ?_
    exact m_iret hg hr dX11_refusal_8 h
  · have h := o_neg c4 h
    refine e_aload_n hg dX11_refusal_9 rfl ?_
    refine m_getR (q := 113) hg ciX11 59 lk_1045 dX11_refusal_10 io_82 (Nat.le_of_ble_eq_true rfl) rfl rf_82_59 ?_
    refine e_iload_n hg dX11_refusal_13 rfl ?_
    obtain ⟨hi5, h⟩ := o_gd h
    refine m_iald hg sh_113 hi5 dX11_refusal_14 ?_
    refine e_ifge hg 21 dX11_refusal_15 (by decide) (fun c6 => ?_) (fun c6 => ?_)
    · have h := o_pos c6 h
      refine e_bipush (v := -11) hg dX11_refusal_18 (by decide) ?_
      exact m_iret hg hr dX11_refusal_20 h
    · have h := o_neg c6 h
      refine e_aload_n hg dX11_refusal_21 rfl ?_
      refine m_getR (q := 113) hg ciX11 59 lk_1045 dX11_refusal_22 io_82 (Nat.le_of_ble_eq_true rfl) rfl rf_82_59 ?_
      refine e_iload_n hg dX11_refusal_25 rfl ?_
      obtain ⟨hi7, h⟩ := o_gd h
      refine m_iald hg sh_113 hi7 dX11_refusal_26 ?_
      refine e_bipush (v := 50) hg dX11_refusal_27 (by decide) ?_
      refine e_icmpge hg 35 dX11_refusal_29 (by decide) (fun c8 => ?_) (fun c8 => ?_)
      · have h := o_pos c8 h
        refine e_bipush (v := -12) hg dX11_refusal_32 (by decide) ?_
        exact m_iret hg hr dX11_refusal_34 h
      · have h := o_neg c8 h
        refine e_iload_n hg dX11_refusal_35 rfl ?_
        refine e_iflt hg 53 dX11_refusal_36 (by decide) (fun c9 => ?_) (fun c9 => ?_)
        · have h := o_pos c9 h
          refine e_bipush (v := -13) hg dX11_refusal_53 (by decide) ?_
          exact m_iret hg hr dX11_refusal_55 h
        · have h := o_neg c9 h
          refine e_iload_n hg dX11_refusal_39 rfl ?_
          refine e_aload_n hg dX11_refusal_40 rfl ?_
          refine m_getR (q := 114) hg ciX11 60 lk_1046 dX11_refusal_41 io_82 (Nat.le_of_ble_eq_true rfl) rfl rf_82_60 ?_
          refine e_iload_n hg dX11_refusal_44 rfl ?_
          obtain ⟨hi10, h⟩ := o_gd h
          refine m_iald hg sh_114 hi10 dX11_refusal_45 ?_
          refine e_icmpge hg 53 dX11_refusal_46 (by decide) (fun c11 => ?_) (fun c11 => ?_)
          · have h := o_pos c11 h
            refine e_iconst (v := 0) hg dX11_refusal_49 (by decide) ?_
            refine e_goto hg 55 dX11_refusal_50 (by decide) ?_
            exact m_iret hg hr dX11_refusal_55 h
          · have h := o_neg c11 h
            refine e_bipush (v := -13) hg dX11_refusal_53 (by decide) ?_
            exact m_iret hg hr dX11_refusal_55 h

def X11_asSort (a0 : Int32) (a1 : Int64) (M : mm) : Option (Int64 × mm) :=
  if a0 = 0 then
    some (((a1.toInt32).toInt8.toInt32).toInt64, M)
  else
    if a0 = 1 then
      some (((a1.toInt32).toInt16.toInt32).toInt64, M)
    else
      if a0 = 2 then
        some ((a1.toInt32).toInt64, M)
      else
        if a0 = 4 then
          if (lg_cmp a1 0) = 0 then
            some (0, M)
          else
            some (1, M)
        else
          some (a1, M)
set_option maxRecDepth 100000 in
set_option maxHeartbeats 4000000 in
theorem X11_asSort_ok {a0 : Int32} {a1 : Int64} {M : mm} {r : Int64 × mm} (h : X11_asSort a0 a1 M = some r) : CM yX11_asSort cX11_asSort 3 (some .long) 0 [.int a0, .long a1] (cells M) (some (.long r.1)) (cells r.2) := by
  refine cm_of (ls := [some (.int a0), some (.long a1), none]) mfX11_asSort rfl (Nat.le_of_ble_eq_true rfl) (fun g hg hr => ?_)
  unfold X11_asSort at h
  refine e_iload_n hg dX11_asSort_0 rfl ?_
  refine e_ifne hg 11 dX11_asSort_1 (by decide) (fun c1 => ?_) (fun c1 => ?_)
  · have h := o_pos c1 h
    refine e_lload_n hg dX11_asSort_4 rfl ?_
    refine e_l2i hg dX11_asSort_5 ?_
    refine e_i2b hg dX11_asSort_6 ?_
    refine e_i2l hg dX11_asSort_7 ?_
    refine e_goto hg 54 dX11_asSort_8 (by decide) ?_
    exact m_lret hg hr dX11_asSort_54 h
  · have h := o_neg c1 h
    refine e_iload_n hg dX11_asSort_11 rfl ?_
    refine e_iconst (v := 1) hg dX11_asSort_12 (by decide) ?_
    refine e_icmpne hg 23 dX11_asSort_13 (by decide) (fun c2 => ?_) (fun c2 => ?_)
    · have h := o_pos c2 h
      refine e_lload_n hg dX11_asSort_16 rfl ?_
      refine e_l2i hg dX11_asSort_17 ?_
      refine e_i2s hg dX11_asSort_18 ?_
      refine e_i2l hg dX11_asSort_19 ?_
      refine e_goto hg 54 dX11_asSort_20 (by decide) ?_
      exact m_lret hg hr dX11_asSort_54 h
    · have h := o_neg c2 h
      refine e_iload_n hg dX11_asSort_23 rfl ?_
      refine e_iconst (v := 2) hg dX11_asSort_24 (by decide) ?_
      refine e_icmpne hg 34 dX11_asSort_25 (by decide) (fun c3 => ?_) (fun c3 => ?_)
      · have h := o_pos c3 h
        refine e_lload_n hg dX11_asSort_28 rfl ?_
        refine e_l2i hg dX11_asSort_29 ?_
        refine e_i2l hg dX11_asSort_30 ?_
        refine e_goto hg 54 dX11_asSort_31 (by decide) ?_
        exact m_lret hg hr dX11_asSort_54 h
      · have h := o_neg c3 h
        refine e_iload_n hg dX11_asSort_34 rfl ?_
        refine e_iconst (v := 4) hg dX11_asSort_35 (by decide) ?_
        refine e_icmpne hg 53 dX11_asSort_36 (by decide) (fun c4 => ?_) (fun c4 => ?_)
        · have h := o_pos c4 h
          refine e_lload_n hg dX11_asSort_39 rfl ?_
          refine e_lconst (v := 0) hg dX11_asSort_40 (by decide) ?_
          refine e_lcmp hg dX11_asSort_41 ?_
          refine e_ifeq hg 49 dX11_asSort_42 (by decide) (fun c5 => ?_) (fun c5 => ?_)
          · have h := o_pos c5 h
            refine e_lconst (v := 0) hg dX11_asSort_49 (by decide) ?_
            refine e_goto hg 54 dX11_asSort_50 (by decide) ?_
            exact m_lret hg hr dX11_asSort_54 h
          · have h := o_neg c5 h
            refine e_lconst (v := 1) hg dX11_asSort_45 (by decide) ?_
            refine e_goto hg 54 dX11_asSort_46 (by decide) ?_
            exact m_lret hg hr dX11_asSort_54 h
        · have h := o_neg c4 h
          refine e_lload_n hg dX11_asSort_53 rfl ?_
          exact m_lret hg hr dX11_asSort_54 h

def X11_put_b37 (a1 : Int32) (a2 : Int32) (a3 : Int64) (x5 : Int32) (M : mm) : Option (Int32 × mm) :=
  if x5 = 0 then
    some (1, M)
  else
    some (x5, M)
set_option maxRecDepth 100000 in
set_option maxHeartbeats 4000000 in
theorem X11_put_b37_ok {g : gx} (hg : EC g cX11_put RX11 3) {a1 : Int32} {a2 : Int32} {a3 : Int64} {r : Int32 × mm} (hr : RT g (some .int) (0, 0) (some (.int r.1)) (cells r.2)) {x5 : Int32} {M : mm} (h : X11_put_b37 a1 a2 a3 x5 M = some r) : E g (0, 0) 37 [some (.ref 82), some (.int a1), some (.int a2), some (.long a3), none, some (.int x5)] [] (cells M) := by
  unfold X11_put_b37 at h
  refine e_iload hg dX11_put_37 rfl ?_
  refine e_ifne hg 46 dX11_put_39 (by decide) (fun c11 => ?_) (fun c11 => ?_)
  · have h := o_pos c11 h
    refine e_iconst (v := 1) hg dX11_put_42 (by decide) ?_
    refine e_goto hg 48 dX11_put_43 (by decide) ?_
    exact m_iret hg hr dX11_put_48 h
  · have h := o_neg c11 h
    refine e_iload hg dX11_put_46 rfl ?_
    exact m_iret hg hr dX11_put_48 h

def X11_put (a1 : Int32) (a2 : Int32) (a3 : Int64) (M : mm) : Option (Int32 × mm) :=
  bd (X11_refusal a1 a2 M) fun v1 M2 =>
  if v1 = 0 then
    gd (inb a1 6) <|
    bd (X11_asSort ((M2.1 113 a1.toNatClampNeg) - 50) a3 M2) fun v6 M7 =>
    gd (inb ((60 * a1) + a2) 360) <|
    lt_ (sL M7 115 (vp_updL (M7.2.1 115) ((60 * a1) + a2).toNatClampNeg v6)) fun M10 =>
    X11_put_b37 a1 a2 a3 v1 M10
  else
    X11_put_b37 a1 a2 a3 v1 M2
set_option maxRecDepth 100000 in
set_option maxHeartbeats 4000000 in
theorem X11_put_ok {a1 : Int32} {a2 : Int32} {a3 : Int64} {M : mm} {r : Int32 × mm} (h : X11_put a1 a2 a3 M = some r) : CM yX11_put cX11_put 6 (some .int) 3 [.ref 82, .int a1, .int a2, .long a3] (cells M) (some (.int r.1)) (cells r.2) := by
  refine cm_of (ls := [some (.ref 82), some (.int a1), some (.int a2), some (.long a3), none, none]) mfX11_put rfl (Nat.le_of_ble_eq_true rfl) (fun g hg hr => ?_)
  unfold X11_put at h
  refine e_aload_n hg dX11_put_0 rfl ?_
  refine e_iload_n hg dX11_put_1 rfl ?_
  refine e_iload_n hg dX11_put_2 rfl ?_
  obtain ⟨v1, M2, hc3, h⟩ := o_bd h
  refine m_callVI (rest := []) (v := v1) (M' := M2) (ci := 11) hg mfX11_refusal mvX11_refusal (X11_refusal_ok (r := (v1, M2)) hc3) lk_1508 dX11_put_3 io_82 rfl rfl rfl (by omega) (Nat.le_of_ble_eq_true rfl) ?_
  refine e_istore (ls' := [some (.ref 82), some (.int a1), some (.int a2), some (.long a3), none, some (.int v1)]) hg dX11_put_6 rfl ?_
  refine e_iload hg dX11_put_8 rfl ?_
  refine e_ifne hg 37 dX11_put_10 (by decide) (fun c4 => ?_) (fun c4 => ?_)
  · have h := o_pos c4 h
    refine e_aload_n hg dX11_put_13 rfl ?_
    refine m_getR (q := 115) hg ciX11 61 lk_1047 dX11_put_14 io_82 (Nat.le_of_ble_eq_true rfl) rfl rf_82_61 ?_
    refine e_bipush (v := 60) hg dX11_put_17 (by decide) ?_
    refine e_iload_n hg dX11_put_19 rfl ?_
    refine e_imul hg dX11_put_20 ?_
    refine e_iload_n hg dX11_put_21 rfl ?_
    refine e_iadd hg dX11_put_22 ?_
    refine e_aload_n hg dX11_put_23 rfl ?_
    refine m_getR (q := 113) hg ciX11 59 lk_1045 dX11_put_24 io_82 (Nat.le_of_ble_eq_true rfl) rfl rf_82_59 ?_
    refine e_iload_n hg dX11_put_27 rfl ?_
    obtain ⟨hi5, h⟩ := o_gd h
    refine m_iald hg sh_113 hi5 dX11_put_28 ?_
    refine e_bipush (v := 50) hg dX11_put_29 (by decide) ?_
    refine e_isub hg dX11_put_31 ?_
    refine e_lload_n hg dX11_put_32 rfl ?_
    obtain ⟨v6, M7, hc8, h⟩ := o_bd h
    refine m_callSJ (rest := [.int ((60 * a1) + a2), .ref 115]) (v := v6) (M' := M7) hg mfX11_asSort mvX11_asSort (X11_asSort_ok (r := (v6, M7)) hc8) lk_1512 dX11_put_33 rfl rfl (by omega) (Nat.le_of_ble_eq_true rfl) ?_
    obtain ⟨hi9, h⟩ := o_gd h
    obtain ⟨M10, hM10, h⟩ := o_lt h
    refine m_last hg sh_115 hi9 dX11_put_36 ?_
    rw [← hM10]
    exact X11_put_b37_ok hg hr  h
  · have h := o_neg c4 h
    exact X11_put_b37_ok hg hr  h

def X11_element (a1 : Int32) (a2 : Int32) (M : mm) : Option (Int64 × mm) :=
  bd (X11_refusal a1 a2 M) fun v1 M2 =>
  if v1 = 0 then
    gd (inb ((60 * a1) + a2) 360) <|
    some ((M2.2.1 115 ((60 * a1) + a2).toNatClampNeg), M2)
  else
    some ((-9223372036854775808), M2)
set_option maxRecDepth 100000 in
set_option maxHeartbeats 4000000 in
theorem X11_element_ok {a1 : Int32} {a2 : Int32} {M : mm} {r : Int64 × mm} (h : X11_element a1 a2 M = some r) : CM yX11_element cX11_element 3 (some .long) 3 [.ref 82, .int a1, .int a2] (cells M) (some (.long r.1)) (cells r.2) := by
  refine cm_of (ls := [some (.ref 82), some (.int a1), some (.int a2)]) mfX11_element rfl (Nat.le_of_ble_eq_true rfl) (fun g hg hr => ?_)
  unfold X11_element at h
  refine e_aload_n hg dX11_element_0 rfl ?_
  refine e_iload_n hg dX11_element_1 rfl ?_
  refine e_iload_n hg dX11_element_2 rfl ?_
  obtain ⟨v1, M2, hc3, h⟩ := o_bd h
  refine m_callVI (rest := []) (v := v1) (M' := M2) (ci := 11) hg mfX11_refusal mvX11_refusal (X11_refusal_ok (r := (v1, M2)) hc3) lk_1508 dX11_element_3 io_82 rfl rfl rfl (by omega) (Nat.le_of_ble_eq_true rfl) ?_
  refine e_ifeq hg 15 dX11_element_6 (by decide) (fun c4 => ?_) (fun c4 => ?_)
  · have h := o_pos c4 h
    refine e_aload_n hg dX11_element_15 rfl ?_
    refine m_getR (q := 115) hg ciX11 61 lk_1047 dX11_element_16 io_82 (Nat.le_of_ble_eq_true rfl) rfl rf_82_61 ?_
    refine e_bipush (v := 60) hg dX11_element_19 (by decide) ?_
    refine e_iload_n hg dX11_element_21 rfl ?_
    refine e_imul hg dX11_element_22 ?_
    refine e_iload_n hg dX11_element_23 rfl ?_
    refine e_iadd hg dX11_element_24 ?_
    obtain ⟨hi5, h⟩ := o_gd h
    refine m_lald hg sh_115 hi5 dX11_element_25 ?_
    exact m_lret hg hr dX11_element_26 h
  · have h := o_neg c4 h
    refine e_ldc2 hg dX11_element_9 lk_1316 ?_
    refine e_goto hg 26 dX11_element_12 (by decide) ?_
    exact m_lret hg hr dX11_element_26 h

def X11_shift_L113 (a1 : Int32) (a2 : Int32) (a3 : Int32) (a4 : Int32) (a5 : Int32) (K147 : mm → Option (Int32 × mm)) : Nat → Int32 → mm → Option (Int32 × mm)
  | 0, _, _ => none
  | n_ + 1, x6, M =>
    if x6 < a5 then
      gd (inb (((60 * a1) + a2) + x6) 360) <|
      gd (inb x6 60) <|
      lt_ (sL M 116 (vp_updL (M.2.1 116) x6.toNatClampNeg (M.2.1 115 (((60 * a1) + a2) + x6).toNatClampNeg))) fun M28 =>
      (X11_shift_L113 a1 a2 a3 a4 a5 K147 n_) (x6 + 1) M28
    else
      K147 M
set_option maxRecDepth 100000 in
set_option maxHeartbeats 4000000 in
theorem X11_shift_L113_ok {g : gx} (hg : EC g cX11_shift RX11 2) {a1 : Int32} {a2 : Int32} {a3 : Int32} {a4 : Int32} {a5 : Int32} {r : Int32 × mm} (hr : RT g (some .int) (0, 0) (some (.int r.1)) (cells r.2)) {K147 : mm → Option (Int32 × mm)} (hK147 : ∀ (o6 : Option Value) (M : mm), K147 M = some r → E g (0, 0) 147 [some (.ref 82), some (.int a1), some (.int a2), some (.int a3), some (.int a4), some (.int a5), o6] [] (cells M)) : ∀ (n_ : Nat) (x6 : Int32) (M : mm), X11_shift_L113 a1 a2 a3 a4 a5 K147 n_ x6 M = some r → E g (0, 0) 113 [some (.ref 82), some (.int a1), some (.int a2), some (.int a3), some (.int a4), some (.int a5), some (.int x6)] [] (cells M) := by
  intro n_
  induction n_ with
  | zero => intro x6 M h; exact o_no h
  | succ n_ ih =>
    intro x6 M h
    rw [X11_shift_L113] at h
    refine e_iload hg dX11_shift_113 rfl ?_
    refine e_iload hg dX11_shift_115 rfl ?_
    refine e_icmpge hg 147 dX11_shift_117 (by decide) (fun c25 => ?_) (fun c25 => ?_)
    · have h := o_pos c25 h
      refine e_aload_n hg dX11_shift_120 rfl ?_
      refine m_getR (q := 116) hg ciX11 62 lk_1048 dX11_shift_121 io_82 (Nat.le_of_ble_eq_true rfl) rfl rf_82_62 ?_
      refine e_iload hg dX11_shift_124 rfl ?_
      refine e_aload_n hg dX11_shift_126 rfl ?_
      refine m_getR (q := 115) hg ciX11 61 lk_1047 dX11_shift_127 io_82 (Nat.le_of_ble_eq_true rfl) rfl rf_82_61 ?_
      refine e_bipush (v := 60) hg dX11_shift_130 (by decide) ?_
      refine e_iload_n hg dX11_shift_132 rfl ?_
      refine e_imul hg dX11_shift_133 ?_
      refine e_iload_n hg dX11_shift_134 rfl ?_
      refine e_iadd hg dX11_shift_135 ?_
      refine e_iload hg dX11_shift_136 rfl ?_
      refine e_iadd hg dX11_shift_138 ?_
      obtain ⟨hi26, h⟩ := o_gd h
      refine m_lald hg sh_115 hi26 dX11_shift_139 ?_
      obtain ⟨hi27, h⟩ := o_gd h
      obtain ⟨M28, hM28, h⟩ := o_lt h
      refine m_last hg sh_116 hi27 dX11_shift_140 ?_
      rw [← hM28]
      refine e_iinc (v := (x6 + 1)) (ls' := [some (.ref 82), some (.int a1), some (.int a2), some (.int a3), some (.int a4), some (.int a5), some (.int (x6 + 1))]) hg dX11_shift_141 rfl rfl rfl ?_
      refine e_goto hg 113 dX11_shift_144 (by decide) ?_
      exact ih _ _ h
    · have h := o_neg c25 h
      exact hK147 _ _ h

def X11_shift_L150 (a1 : Int32) (a2 : Int32) (a3 : Int32) (a4 : Int32) (a5 : Int32) : Nat → Int32 → mm → Option (Int32 × mm)
  | 0, _, _ => none
  | n_ + 1, x6, M =>
    if x6 < a5 then
      gd (inb x6 60) <|
      gd (inb (((60 * a3) + a4) + x6) 360) <|
      lt_ (sL M 115 (vp_updL (M.2.1 115) (((60 * a3) + a4) + x6).toNatClampNeg (M.2.1 116 x6.toNatClampNeg))) fun M32 =>
      (X11_shift_L150 a1 a2 a3 a4 a5 n_) (x6 + 1) M32
    else
      some (a5, M)
set_option maxRecDepth 100000 in
set_option maxHeartbeats 4000000 in
theorem X11_shift_L150_ok {g : gx} (hg : EC g cX11_shift RX11 2) {a1 : Int32} {a2 : Int32} {a3 : Int32} {a4 : Int32} {a5 : Int32} {r : Int32 × mm} (hr : RT g (some .int) (0, 0) (some (.int r.1)) (cells r.2)) : ∀ (n_ : Nat) (x6 : Int32) (M : mm), X11_shift_L150 a1 a2 a3 a4 a5 n_ x6 M = some r → E g (0, 0) 150 [some (.ref 82), some (.int a1), some (.int a2), some (.int a3), some (.int a4), some (.int a5), some (.int x6)] [] (cells M) := by
  intro n_
  induction n_ with
  | zero => intro x6 M h; exact o_no h
  | succ n_ ih =>
    intro x6 M h
    rw [X11_shift_L150] at h
    refine e_iload hg dX11_shift_150 rfl ?_
    refine e_iload hg dX11_shift_152 rfl ?_
    refine e_icmpge hg 185 dX11_shift_154 (by decide) (fun c29 => ?_) (fun c29 => ?_)
    · have h := o_pos c29 h
      refine e_aload_n hg dX11_shift_157 rfl ?_
      refine m_getR (q := 115) hg ciX11 61 lk_1047 dX11_shift_158 io_82 (Nat.le_of_ble_eq_true rfl) rfl rf_82_61 ?_
      refine e_bipush (v := 60) hg dX11_shift_161 (by decide) ?_
      refine e_iload_n hg dX11_shift_163 rfl ?_
      refine e_imul hg dX11_shift_164 ?_
      refine e_iload hg dX11_shift_165 rfl ?_
      refine e_iadd hg dX11_shift_167 ?_
      refine e_iload hg dX11_shift_168 rfl ?_
      refine e_iadd hg dX11_shift_170 ?_
      refine e_aload_n hg dX11_shift_171 rfl ?_
      refine m_getR (q := 116) hg ciX11 62 lk_1048 dX11_shift_172 io_82 (Nat.le_of_ble_eq_true rfl) rfl rf_82_62 ?_
      refine e_iload hg dX11_shift_175 rfl ?_
      obtain ⟨hi30, h⟩ := o_gd h
      refine m_lald hg sh_116 hi30 dX11_shift_177 ?_
      obtain ⟨hi31, h⟩ := o_gd h
      obtain ⟨M32, hM32, h⟩ := o_lt h
      refine m_last hg sh_115 hi31 dX11_shift_178 ?_
      rw [← hM32]
      refine e_iinc (v := (x6 + 1)) (ls' := [some (.ref 82), some (.int a1), some (.int a2), some (.int a3), some (.int a4), some (.int a5), some (.int (x6 + 1))]) hg dX11_shift_179 rfl rfl rfl ?_
      refine e_goto hg 150 dX11_shift_182 (by decide) ?_
      exact ih _ _ h
    · have h := o_neg c29 h
      refine e_iload hg dX11_shift_185 rfl ?_
      exact m_iret hg hr dX11_shift_187 h

def X11_shift (a1 : Int32) (a2 : Int32) (a3 : Int32) (a4 : Int32) (a5 : Int32) (M : mm) : Option (Int32 × mm) :=
  bd (X11_isShelf a1 M) fun v1 M2 =>
  if v1 = 0 then
    some ((-1), M2)
  else
    bd (X11_isShelf a3 M2) fun v5 M6 =>
    if v5 = 0 then
      some ((-1), M6)
    else
      gd (inb a1 6) <|
      if (M6.1 113 a1.toNatClampNeg) < 0 then
        some ((-11), M6)
      else
        gd (inb a3 6) <|
        if (M6.1 113 a3.toNatClampNeg) < 0 then
          some ((-11), M6)
        else
          gd (inb a1 6) <|
          if (M6.1 113 a1.toNatClampNeg) < 50 then
            some ((-12), M6)
          else
            gd (inb a1 6) <|
            gd (inb a3 6) <|
            if (M6.1 113 a1.toNatClampNeg) = (M6.1 113 a3.toNatClampNeg) then
              if a5 < 0 then
                some ((-13), M6)
              else
                if a2 < 0 then
                  some ((-13), M6)
                else
                  if a4 < 0 then
                    some ((-13), M6)
                  else
                    gd (inb a1 6) <|
                    if ((M6.1 114 a1.toNatClampNeg) - a5) < a2 then
                      some ((-13), M6)
                    else
                      gd (inb a3 6) <|
                      if ((M6.1 114 a3.toNatClampNeg) - a5) < a4 then
                        some ((-13), M6)
                      else
                        X11_shift_L113 a1 a2 a3 a4 a5 (fun M =>
                            X11_shift_L150 a1 a2 a3 a4 a5 10000 0 M) 10000 0 M6
            else
              some ((-12), M6)
set_option maxRecDepth 100000 in
set_option maxHeartbeats 4000000 in
theorem X11_shift_ok {a1 : Int32} {a2 : Int32} {a3 : Int32} {a4 : Int32} {a5 : Int32} {M : mm} {r : Int32 × mm} (h : X11_shift a1 a2 a3 a4 a5 M = some r) : CM yX11_shift cX11_shift 7 (some .int) 2 [.ref 82, .int a1, .int a2, .int a3, .int a4, .int a5] (cells M) (some (.int r.1)) (cells r.2) := by
  refine cm_of (ls := [some (.ref 82), some (.int a1), some (.int a2), some (.int a3), some (.int a4), some (.int a5), none]) mfX11_shift rfl (Nat.le_of_ble_eq_true rfl) (fun g hg hr => ?_)
  unfold X11_shift at h
  refine e_iload_n hg dX11_shift_0 rfl ?_
  obtain ⟨v1, M2, hc3, h⟩ := o_bd h
  refine m_callSI (rest := []) (v := v1) (M' := M2) hg mfX11_isShelf mvX11_isShelf (X11_isShelf_ok (r := (v1, M2)) hc3) lk_1210 dX11_shift_1 rfl rfl (by omega) (Nat.le_of_ble_eq_true rfl) ?_
  refine e_ifeq hg 14 dX11_shift_4 (by decide) (fun c4 => ?_) (fun c4 => ?_)
  · have h := o_pos c4 h
    refine e_iconst (v := -1) hg dX11_shift_14 (by decide) ?_
    exact m_iret hg hr dX11_shift_15 h
  · have h := o_neg c4 h
    refine e_iload_n hg dX11_shift_7 rfl ?_
    obtain ⟨v5, M6, hc7, h⟩ := o_bd h
    refine m_callSI (rest := []) (v := v5) (M' := M6) hg mfX11_isShelf mvX11_isShelf (X11_isShelf_ok (r := (v5, M6)) hc7) lk_1210 dX11_shift_8 rfl rfl (by omega) (Nat.le_of_ble_eq_true rfl) ?_
    refine e_ifne hg 16 dX11_shift_11 (by decide) (fun c8 => ?_) (fun c8 => ?_)
    · have h := o_pos c8 h
      refine e_iconst (v := -1) hg dX11_shift_14 (by decide) ?_
      exact m_iret hg hr dX11_shift_15 h
    · have h := o_neg c8 h
      refine e_aload_n hg dX11_shift_16 rfl ?_
      refine m_getR (q := 113) hg ciX11 59 lk_1045 dX11_shift_17 io_82 (Nat.le_of_ble_eq_true rfl) rfl rf_82_59 ?_
      refine e_iload_n hg dX11_shift_20 rfl ?_
      obtain ⟨hi9, h⟩ := o_gd h
      refine m_iald hg sh_113 hi9 dX11_shift_21 ?_
      refine e_iflt hg 34 dX11_shift_22 (by decide) (fun c10 => ?_) (fun c10 => ?_)
      · have h := o_pos c10 h
        refine e_bipush (v := -11) hg dX11_shift_34 (by decide) ?_
        exact m_iret hg hr dX11_shift_36 h
      · have h := o_neg c10 h
        refine e_aload_n hg dX11_shift_25 rfl ?_
        refine m_getR (q := 113) hg ciX11 59 lk_1045 dX11_shift_26 io_82 (Nat.le_of_ble_eq_true rfl) rfl rf_82_59 ?_
        refine e_iload_n hg dX11_shift_29 rfl ?_
        obtain ⟨hi11, h⟩ := o_gd h
        refine m_iald hg sh_113 hi11 dX11_shift_30 ?_
        refine e_ifge hg 37 dX11_shift_31 (by decide) (fun c12 => ?_) (fun c12 => ?_)
        · have h := o_pos c12 h
          refine e_bipush (v := -11) hg dX11_shift_34 (by decide) ?_
          exact m_iret hg hr dX11_shift_36 h
        · have h := o_neg c12 h
          refine e_aload_n hg dX11_shift_37 rfl ?_
          refine m_getR (q := 113) hg ciX11 59 lk_1045 dX11_shift_38 io_82 (Nat.le_of_ble_eq_true rfl) rfl rf_82_59 ?_
          refine e_iload_n hg dX11_shift_41 rfl ?_
          obtain ⟨hi13, h⟩ := o_gd h
          refine m_iald hg sh_113 hi13 dX11_shift_42 ?_
          refine e_bipush (v := 50) hg dX11_shift_43 (by decide) ?_
          refine e_icmplt hg 63 dX11_shift_45 (by decide) (fun c14 => ?_) (fun c14 => ?_)
          · have h := o_pos c14 h
            refine e_bipush (v := -12) hg dX11_shift_63 (by decide) ?_
            exact m_iret hg hr dX11_shift_65 h
          · have h := o_neg c14 h
            refine e_aload_n hg dX11_shift_48 rfl ?_
            refine m_getR (q := 113) hg ciX11 59 lk_1045 dX11_shift_49 io_82 (Nat.le_of_ble_eq_true rfl) rfl rf_82_59 ?_
            refine e_iload_n hg dX11_shift_52 rfl ?_
            obtain ⟨hi15, h⟩ := o_gd h
            refine m_iald hg sh_113 hi15 dX11_shift_53 ?_
            refine e_aload_n hg dX11_shift_54 rfl ?_
            refine m_getR (q := 113) hg ciX11 59 lk_1045 dX11_shift_55 io_82 (Nat.le_of_ble_eq_true rfl) rfl rf_82_59 ?_
            refine e_iload_n hg dX11_shift_58 rfl ?_
            obtain ⟨hi16, h⟩ := o_gd h
            refine m_iald hg sh_113 hi16 dX11_shift_59 ?_
            refine e_icmpeq hg 66 dX11_shift_60 (by decide) (fun c17 => ?_) (fun c17 => ?_)
            · have h := o_pos c17 h
              refine e_iload hg dX11_shift_66 rfl ?_
              refine e_iflt hg 107 dX11_shift_68 (by decide) (fun c18 => ?_) (fun c18 => ?_)
              · have h := o_pos c18 h
                refine e_bipush (v := -13) hg dX11_shift_107 (by decide) ?_
                exact m_iret hg hr dX11_shift_109 h
              · have h := o_neg c18 h
                refine e_iload_n hg dX11_shift_71 rfl ?_
                refine e_iflt hg 107 dX11_shift_72 (by decide) (fun c19 => ?_) (fun c19 => ?_)
                · have h := o_pos c19 h
                  refine e_bipush (v := -13) hg dX11_shift_107 (by decide) ?_
                  exact m_iret hg hr dX11_shift_109 h
                · have h := o_neg c19 h
                  refine e_iload hg dX11_shift_75 rfl ?_
                  refine e_iflt hg 107 dX11_shift_77 (by decide) (fun c20 => ?_) (fun c20 => ?_)
                  · have h := o_pos c20 h
                    refine e_bipush (v := -13) hg dX11_shift_107 (by decide) ?_
                    exact m_iret hg hr dX11_shift_109 h
                  · have h := o_neg c20 h
                    refine e_iload_n hg dX11_shift_80 rfl ?_
                    refine e_aload_n hg dX11_shift_81 rfl ?_
                    refine m_getR (q := 114) hg ciX11 60 lk_1046 dX11_shift_82 io_82 (Nat.le_of_ble_eq_true rfl) rfl rf_82_60 ?_
                    refine e_iload_n hg dX11_shift_85 rfl ?_
                    obtain ⟨hi21, h⟩ := o_gd h
                    refine m_iald hg sh_114 hi21 dX11_shift_86 ?_
                    refine e_iload hg dX11_shift_87 rfl ?_
                    refine e_isub hg dX11_shift_89 ?_
                    refine e_icmpgt hg 107 dX11_shift_90 (by decide) (fun c22 => ?_) (fun c22 => ?_)
                    · have h := o_pos c22 h
                      refine e_bipush (v := -13) hg dX11_shift_107 (by decide) ?_
                      exact m_iret hg hr dX11_shift_109 h
                    · have h := o_neg c22 h
                      refine e_iload hg dX11_shift_93 rfl ?_
                      refine e_aload_n hg dX11_shift_95 rfl ?_
                      refine m_getR (q := 114) hg ciX11 60 lk_1046 dX11_shift_96 io_82 (Nat.le_of_ble_eq_true rfl) rfl rf_82_60 ?_
                      refine e_iload_n hg dX11_shift_99 rfl ?_
                      obtain ⟨hi23, h⟩ := o_gd h
                      refine m_iald hg sh_114 hi23 dX11_shift_100 ?_
                      refine e_iload hg dX11_shift_101 rfl ?_
                      refine e_isub hg dX11_shift_103 ?_
                      refine e_icmple hg 110 dX11_shift_104 (by decide) (fun c24 => ?_) (fun c24 => ?_)
                      · have h := o_pos c24 h
                        refine e_bipush (v := -13) hg dX11_shift_107 (by decide) ?_
                        exact m_iret hg hr dX11_shift_109 h
                      · have h := o_neg c24 h
                        refine e_iconst (v := 0) hg dX11_shift_110 (by decide) ?_
                        refine e_istore (ls' := [some (.ref 82), some (.int a1), some (.int a2), some (.int a3), some (.int a4), some (.int a5), some (.int 0)]) hg dX11_shift_111 rfl ?_
                        refine X11_shift_L113_ok hg hr (fun o6 M h => ?_) 10000 _ _ h
                        refine e_iconst (v := 0) hg dX11_shift_147 (by decide) ?_
                        refine e_istore (ls' := [some (.ref 82), some (.int a1), some (.int a2), some (.int a3), some (.int a4), some (.int a5), some (.int 0)]) hg dX11_shift_148 rfl ?_
                        exact X11_shift_L150_ok hg hr  10000 _ _ h
            · have h := o_neg c17 h
              refine e_bipush (v := -12) hg dX11_shift_63 (by decide) ?_
              exact m_iret hg hr dX11_shift_65 h

def X11_taken_L58 (a1 : Int32) (a2 : Int32) (K75 : Int32 → mm → Option (Int32 × mm)) : Nat → Int32 → mm → Option (Int32 × mm)
  | 0, _, _ => none
  | n_ + 1, x3, M =>
    if x3 = a2 then
      K75 x3 M
    else
      if 0 < x3 then
        bd (X11_above x3 M) fun v19 M20 =>
        (X11_taken_L58 a1 a2 K75 n_) v19 M20
      else
        K75 x3 M
set_option maxRecDepth 100000 in
set_option maxHeartbeats 4000000 in
theorem X11_taken_L58_ok {g : gx} (hg : EC g cX11_taken RX11 2) {a1 : Int32} {a2 : Int32} {r : Int32 × mm} (hr : RT g (some .int) (0, 0) (some (.int r.1)) (cells r.2)) {K75 : Int32 → mm → Option (Int32 × mm)} (hK75 : ∀ (x3 : Int32) (M : mm), K75 x3 M = some r → E g (0, 0) 75 [some (.ref 82), some (.int a1), some (.int a2), some (.int x3)] [] (cells M)) : ∀ (n_ : Nat) (x3 : Int32) (M : mm), X11_taken_L58 a1 a2 K75 n_ x3 M = some r → E g (0, 0) 58 [some (.ref 82), some (.int a1), some (.int a2), some (.int x3)] [] (cells M) := by
  intro n_
  induction n_ with
  | zero => intro x3 M h; exact o_no h
  | succ n_ ih =>
    intro x3 M h
    rw [X11_taken_L58] at h
    refine e_iload_n hg dX11_taken_58 rfl ?_
    refine e_iload_n hg dX11_taken_59 rfl ?_
    refine e_icmpeq hg 75 dX11_taken_60 (by decide) (fun c17 => ?_) (fun c17 => ?_)
    · have h := o_pos c17 h
      exact hK75 _ _ h
    · have h := o_neg c17 h
      refine e_iload_n hg dX11_taken_63 rfl ?_
      refine e_ifle hg 75 dX11_taken_64 (by decide) (fun c18 => ?_) (fun c18 => ?_)
      · have h := o_pos c18 h
        refine e_iload_n hg dX11_taken_67 rfl ?_
        obtain ⟨v19, M20, hc21, h⟩ := o_bd h
        refine m_callSI (rest := []) (v := v19) (M' := M20) hg mfX11_above mvX11_above (X11_above_ok (r := (v19, M20)) hc21) lk_1531 dX11_taken_68 rfl rfl (by omega) (Nat.le_of_ble_eq_true rfl) ?_
        refine e_istore_n (ls' := [some (.ref 82), some (.int a1), some (.int a2), some (.int v19)]) hg dX11_taken_71 rfl ?_
        refine e_goto hg 58 dX11_taken_72 (by decide) ?_
        exact ih _ _ h
      · have h := o_neg c18 h
        exact hK75 _ _ h

def X11_taken_b75 (a1 : Int32) (a2 : Int32) (x3 : Int32) (M : mm) : Option (Int32 × mm) :=
  if x3 = a2 then
    gd (inb a1 6) <|
    bd (X11_kindOf (M.1 113 a1.toNatClampNeg) M) fun v24 M25 =>
    some (v24, M25)
  else
    some ((-12), M)
set_option maxRecDepth 100000 in
set_option maxHeartbeats 4000000 in
theorem X11_taken_b75_ok {g : gx} (hg : EC g cX11_taken RX11 2) {a1 : Int32} {a2 : Int32} {r : Int32 × mm} (hr : RT g (some .int) (0, 0) (some (.int r.1)) (cells r.2)) {x3 : Int32} {M : mm} (h : X11_taken_b75 a1 a2 x3 M = some r) : E g (0, 0) 75 [some (.ref 82), some (.int a1), some (.int a2), some (.int x3)] [] (cells M) := by
  unfold X11_taken_b75 at h
  refine e_iload_n hg dX11_taken_75 rfl ?_
  refine e_iload_n hg dX11_taken_76 rfl ?_
  refine e_icmpne hg 93 dX11_taken_77 (by decide) (fun c22 => ?_) (fun c22 => ?_)
  · have h := o_pos c22 h
    refine e_aload_n hg dX11_taken_80 rfl ?_
    refine e_aload_n hg dX11_taken_81 rfl ?_
    refine m_getR (q := 113) hg ciX11 59 lk_1045 dX11_taken_82 io_82 (Nat.le_of_ble_eq_true rfl) rfl rf_82_59 ?_
    refine e_iload_n hg dX11_taken_85 rfl ?_
    obtain ⟨hi23, h⟩ := o_gd h
    refine m_iald hg sh_113 hi23 dX11_taken_86 ?_
    obtain ⟨v24, M25, hc26, h⟩ := o_bd h
    refine m_callVI (rest := []) (v := v24) (M' := M25) (ci := 11) hg mfX11_kindOf mvX11_kindOf (X11_kindOf_ok (r := (v24, M25)) hc26) lk_1527 dX11_taken_87 io_82 rfl rfl rfl (by omega) (Nat.le_of_ble_eq_true rfl) ?_
    refine e_goto hg 95 dX11_taken_90 (by decide) ?_
    exact m_iret hg hr dX11_taken_95 h
  · have h := o_neg c22 h
    refine e_bipush (v := -12) hg dX11_taken_93 (by decide) ?_
    exact m_iret hg hr dX11_taken_95 h

def X11_taken (a1 : Int32) (a2 : Int32) (M : mm) : Option (Int32 × mm) :=
  bd (X11_isShelf a1 M) fun v1 M2 =>
  if v1 = 0 then
    some ((-1), M2)
  else
    bd (X11_within (a2.toInt64) 0 7 M2) fun v5 M6 =>
    if v5 = 0 then
      some ((-1), M6)
    else
      gd (inb a1 6) <|
      if (M6.1 113 a1.toNatClampNeg) < 0 then
        some ((-11), M6)
      else
        gd (inb a1 6) <|
        if (M6.1 113 a1.toNatClampNeg) < 50 then
          gd (inb a1 6) <|
          bd (X11_kindOf (M6.1 113 a1.toNatClampNeg) M6) fun v14 M15 =>
          X11_taken_L58 a1 a2 (fun x3 M =>
              X11_taken_b75 a1 a2 x3 M) 10000 v14 M15
        else
          some ((-12), M6)
set_option maxRecDepth 100000 in
set_option maxHeartbeats 4000000 in
theorem X11_taken_ok {a1 : Int32} {a2 : Int32} {M : mm} {r : Int32 × mm} (h : X11_taken a1 a2 M = some r) : CM yX11_taken cX11_taken 4 (some .int) 2 [.ref 82, .int a1, .int a2] (cells M) (some (.int r.1)) (cells r.2) := by
  refine cm_of (ls := [some (.ref 82), some (.int a1), some (.int a2), none]) mfX11_taken rfl (Nat.le_of_ble_eq_true rfl) (fun g hg hr => ?_)
  unfold X11_taken at h
  refine e_iload_n hg dX11_taken_0 rfl ?_
  obtain ⟨v1, M2, hc3, h⟩ := o_bd h
  refine m_callSI (rest := []) (v := v1) (M' := M2) hg mfX11_isShelf mvX11_isShelf (X11_isShelf_ok (r := (v1, M2)) hc3) lk_1210 dX11_taken_1 rfl rfl (by omega) (Nat.le_of_ble_eq_true rfl) ?_
  refine e_ifeq hg 19 dX11_taken_4 (by decide) (fun c4 => ?_) (fun c4 => ?_)
  · have h := o_pos c4 h
    refine e_iconst (v := -1) hg dX11_taken_19 (by decide) ?_
    exact m_iret hg hr dX11_taken_20 h
  · have h := o_neg c4 h
    refine e_iload_n hg dX11_taken_7 rfl ?_
    refine e_i2l hg dX11_taken_8 ?_
    refine e_lconst (v := 0) hg dX11_taken_9 (by decide) ?_
    refine e_ldc2 hg dX11_taken_10 lk_1463 ?_
    obtain ⟨v5, M6, hc7, h⟩ := o_bd h
    refine m_callSI (rest := []) (v := v5) (M' := M6) hg mfX11_within mvX11_within (X11_within_ok (r := (v5, M6)) hc7) lk_1190 dX11_taken_13 rfl rfl (by omega) (Nat.le_of_ble_eq_true rfl) ?_
    refine e_ifne hg 21 dX11_taken_16 (by decide) (fun c8 => ?_) (fun c8 => ?_)
    · have h := o_pos c8 h
      refine e_iconst (v := -1) hg dX11_taken_19 (by decide) ?_
      exact m_iret hg hr dX11_taken_20 h
    · have h := o_neg c8 h
      refine e_aload_n hg dX11_taken_21 rfl ?_
      refine m_getR (q := 113) hg ciX11 59 lk_1045 dX11_taken_22 io_82 (Nat.le_of_ble_eq_true rfl) rfl rf_82_59 ?_
      refine e_iload_n hg dX11_taken_25 rfl ?_
      obtain ⟨hi9, h⟩ := o_gd h
      refine m_iald hg sh_113 hi9 dX11_taken_26 ?_
      refine e_ifge hg 33 dX11_taken_27 (by decide) (fun c10 => ?_) (fun c10 => ?_)
      · have h := o_pos c10 h
        refine e_bipush (v := -11) hg dX11_taken_30 (by decide) ?_
        exact m_iret hg hr dX11_taken_32 h
      · have h := o_neg c10 h
        refine e_aload_n hg dX11_taken_33 rfl ?_
        refine m_getR (q := 113) hg ciX11 59 lk_1045 dX11_taken_34 io_82 (Nat.le_of_ble_eq_true rfl) rfl rf_82_59 ?_
        refine e_iload_n hg dX11_taken_37 rfl ?_
        obtain ⟨hi11, h⟩ := o_gd h
        refine m_iald hg sh_113 hi11 dX11_taken_38 ?_
        refine e_bipush (v := 50) hg dX11_taken_39 (by decide) ?_
        refine e_icmplt hg 47 dX11_taken_41 (by decide) (fun c12 => ?_) (fun c12 => ?_)
        · have h := o_pos c12 h
          refine e_aload_n hg dX11_taken_47 rfl ?_
          refine e_aload_n hg dX11_taken_48 rfl ?_
          refine m_getR (q := 113) hg ciX11 59 lk_1045 dX11_taken_49 io_82 (Nat.le_of_ble_eq_true rfl) rfl rf_82_59 ?_
          refine e_iload_n hg dX11_taken_52 rfl ?_
          obtain ⟨hi13, h⟩ := o_gd h
          refine m_iald hg sh_113 hi13 dX11_taken_53 ?_
          obtain ⟨v14, M15, hc16, h⟩ := o_bd h
          refine m_callVI (rest := []) (v := v14) (M' := M15) (ci := 11) hg mfX11_kindOf mvX11_kindOf (X11_kindOf_ok (r := (v14, M15)) hc16) lk_1527 dX11_taken_54 io_82 rfl rfl rfl (by omega) (Nat.le_of_ble_eq_true rfl) ?_
          refine e_istore_n (ls' := [some (.ref 82), some (.int a1), some (.int a2), some (.int v14)]) hg dX11_taken_57 rfl ?_
          refine X11_taken_L58_ok hg hr (fun x3 M h => ?_) 10000 _ _ h
          exact X11_taken_b75_ok hg hr  h
        · have h := o_neg c12 h
          refine e_bipush (v := -12) hg dX11_taken_44 (by decide) ?_
          exact m_iret hg hr dX11_taken_46 h

def X11_count (a1 : Int32) (M : mm) : Option (Int32 × mm) :=
  if a1 = 0 then
    some ((M.1 82 6), M)
  else
  if a1 = 1 then
    some ((M.1 82 7), M)
  else
  if a1 = 2 then
    some ((M.1 82 21), M)
  else
  if a1 = 3 then
    some ((M.1 82 22), M)
  else
  if a1 = 4 then
    some ((M.1 82 24), M)
  else
  if a1 = 5 then
    some ((M.1 82 5), M)
  else
  if a1 = 6 then
    some ((M.1 82 53), M)
  else
  if a1 = 7 then
    some ((M.1 82 56), M)
  else
  some ((-1), M)
set_option maxRecDepth 100000 in
set_option maxHeartbeats 4000000 in
theorem X11_count_ok {a1 : Int32} {M : mm} {r : Int32 × mm} (h : X11_count a1 M = some r) : CM yX11_count cX11_count 2 (some .int) 0 [.ref 82, .int a1] (cells M) (some (.int r.1)) (cells r.2) := by
  refine cm_of (ls := [some (.ref 82), some (.int a1)]) mfX11_count rfl (Nat.le_of_ble_eq_true rfl) (fun g hg hr => ?_)
  unfold X11_count at h
  refine e_iload_n hg dX11_count_0 rfl ?_
  by_cases c1 : a1 = 0
  · have h := o_pos c1 h
    refine e_tabIn (v := 0) hg 48 dX11_count_1 c1 (by decide) (by decide) rfl (by decide) ?_
    refine e_aload_n hg dX11_count_48 rfl ?_
    refine m_getI hg ciX11 6 lk_992 dX11_count_49 io_82 (Nat.le_of_ble_eq_true rfl) rfl ?_
    exact m_iret hg hr dX11_count_52 h
  have h := o_neg c1 h
  by_cases c2 : a1 = 1
  · have h := o_pos c2 h
    refine e_tabIn (v := 1) hg 53 dX11_count_1 c2 (by decide) (by decide) rfl (by decide) ?_
    refine e_aload_n hg dX11_count_53 rfl ?_
    refine m_getI hg ciX11 7 lk_993 dX11_count_54 io_82 (Nat.le_of_ble_eq_true rfl) rfl ?_
    exact m_iret hg hr dX11_count_57 h
  have h := o_neg c2 h
  by_cases c3 : a1 = 2
  · have h := o_pos c3 h
    refine e_tabIn (v := 2) hg 58 dX11_count_1 c3 (by decide) (by decide) rfl (by decide) ?_
    refine e_aload_n hg dX11_count_58 rfl ?_
    refine m_getI hg ciX11 21 lk_1007 dX11_count_59 io_82 (Nat.le_of_ble_eq_true rfl) rfl ?_
    exact m_iret hg hr dX11_count_62 h
  have h := o_neg c3 h
  by_cases c4 : a1 = 3
  · have h := o_pos c4 h
    refine e_tabIn (v := 3) hg 63 dX11_count_1 c4 (by decide) (by decide) rfl (by decide) ?_
    refine e_aload_n hg dX11_count_63 rfl ?_
    refine m_getI hg ciX11 22 lk_1008 dX11_count_64 io_82 (Nat.le_of_ble_eq_true rfl) rfl ?_
    exact m_iret hg hr dX11_count_67 h
  have h := o_neg c4 h
  by_cases c5 : a1 = 4
  · have h := o_pos c5 h
    refine e_tabIn (v := 4) hg 68 dX11_count_1 c5 (by decide) (by decide) rfl (by decide) ?_
    refine e_aload_n hg dX11_count_68 rfl ?_
    refine m_getI hg ciX11 24 lk_1010 dX11_count_69 io_82 (Nat.le_of_ble_eq_true rfl) rfl ?_
    exact m_iret hg hr dX11_count_72 h
  have h := o_neg c5 h
  by_cases c6 : a1 = 5
  · have h := o_pos c6 h
    refine e_tabIn (v := 5) hg 73 dX11_count_1 c6 (by decide) (by decide) rfl (by decide) ?_
    refine e_aload_n hg dX11_count_73 rfl ?_
    refine m_getI hg ciX11 5 lk_991 dX11_count_74 io_82 (Nat.le_of_ble_eq_true rfl) rfl ?_
    exact m_iret hg hr dX11_count_77 h
  have h := o_neg c6 h
  by_cases c7 : a1 = 6
  · have h := o_pos c7 h
    refine e_tabIn (v := 6) hg 78 dX11_count_1 c7 (by decide) (by decide) rfl (by decide) ?_
    refine e_aload_n hg dX11_count_78 rfl ?_
    refine m_getI hg ciX11 53 lk_1039 dX11_count_79 io_82 (Nat.le_of_ble_eq_true rfl) rfl ?_
    exact m_iret hg hr dX11_count_82 h
  have h := o_neg c7 h
  by_cases c8 : a1 = 7
  · have h := o_pos c8 h
    refine e_tabIn (v := 7) hg 83 dX11_count_1 c8 (by decide) (by decide) rfl (by decide) ?_
    refine e_aload_n hg dX11_count_83 rfl ?_
    refine m_getI hg ciX11 56 lk_1042 dX11_count_84 io_82 (Nat.le_of_ble_eq_true rfl) rfl ?_
    exact m_iret hg hr dX11_count_87 h
  have h := o_neg c8 h
  refine e_tabOut hg 88 dX11_count_1 (by have e_c1 := ne_toIntL (n := 0) (by decide) c1; have e_c2 := ne_toIntL (n := 1) (by decide) c2; have e_c3 := ne_toIntL (n := 2) (by decide) c3; have e_c4 := ne_toIntL (n := 3) (by decide) c4; have e_c5 := ne_toIntL (n := 4) (by decide) c5; have e_c6 := ne_toIntL (n := 5) (by decide) c6; have e_c7 := ne_toIntL (n := 6) (by decide) c7; have e_c8 := ne_toIntL (n := 7) (by decide) c8; omega) (by decide) ?_
  refine e_iconst (v := -1) hg dX11_count_88 (by decide) ?_
  exact m_iret hg hr dX11_count_89 h

