def X11_ofPerson (a1 : Int32) (a2 : Int32) (M : mm) : Option (Int32 × mm) :=
  if a2 < 3 then
    gd (inb ((5 * a2) + a1) 33) <|
    some ((M.1 83 ((5 * a2) + a1).toNatClampNeg), M)
  else
    if a2 = 3 then
      gd (inb a1 5) <|
      some ((M.1 87 a1.toNatClampNeg), M)
    else
      if a2 = 4 then
        gd (inb a1 5) <|
        some ((M.1 88 a1.toNatClampNeg), M)
      else
        gd (inb a1 5) <|
        some ((M.1 89 a1.toNatClampNeg), M)
set_option maxRecDepth 100000 in
set_option maxHeartbeats 4000000 in
theorem X11_ofPerson_ok {a1 : Int32} {a2 : Int32} {M : mm} {r : Int32 × mm} (h : X11_ofPerson a1 a2 M = some r) : CM yX11_ofPerson cX11_ofPerson 3 (some .int) 0 [.ref 82, .int a1, .int a2] (cells M) (some (.int r.1)) (cells r.2) := by
  refine cm_of (ls := [some (.ref 82), some (.int a1), some (.int a2)]) mfX11_ofPerson rfl (Nat.le_of_ble_eq_true rfl) (fun g hg hr => ?_)
  unfold X11_ofPerson at h
  refine e_iload_n hg dX11_ofPerson_0 rfl ?_
  refine e_iconst (v := 3) hg dX11_ofPerson_1 (by decide) ?_
  refine e_icmpge hg 16 dX11_ofPerson_2 (by decide) (fun c1 => ?_) (fun c1 => ?_)
  · have h := o_pos c1 h
    refine e_aload_n hg dX11_ofPerson_5 rfl ?_
    refine m_getR (q := 83) hg ciX11 0 lk_986 dX11_ofPerson_6 io_82 (Nat.le_of_ble_eq_true rfl) rfl rf_82_0 ?_
    refine e_iconst (v := 5) hg dX11_ofPerson_9 (by decide) ?_
    refine e_iload_n hg dX11_ofPerson_10 rfl ?_
    refine e_imul hg dX11_ofPerson_11 ?_
    refine e_iload_n hg dX11_ofPerson_12 rfl ?_
    refine e_iadd hg dX11_ofPerson_13 ?_
    obtain ⟨hi2, h⟩ := o_gd h
    refine m_iald hg sh_83 hi2 dX11_ofPerson_14 ?_
    exact m_iret hg hr dX11_ofPerson_15 h
  · have h := o_neg c1 h
    refine e_iload_n hg dX11_ofPerson_16 rfl ?_
    refine e_iconst (v := 3) hg dX11_ofPerson_17 (by decide) ?_
    refine e_icmpne hg 30 dX11_ofPerson_18 (by decide) (fun c3 => ?_) (fun c3 => ?_)
    · have h := o_pos c3 h
      refine e_aload_n hg dX11_ofPerson_21 rfl ?_
      refine m_getR (q := 87) hg ciX11 8 lk_994 dX11_ofPerson_22 io_82 (Nat.le_of_ble_eq_true rfl) rfl rf_82_8 ?_
      refine e_iload_n hg dX11_ofPerson_25 rfl ?_
      obtain ⟨hi4, h⟩ := o_gd h
      refine m_iald hg sh_87 hi4 dX11_ofPerson_26 ?_
      refine e_goto hg 50 dX11_ofPerson_27 (by decide) ?_
      exact m_iret hg hr dX11_ofPerson_50 h
    · have h := o_neg c3 h
      refine e_iload_n hg dX11_ofPerson_30 rfl ?_
      refine e_iconst (v := 4) hg dX11_ofPerson_31 (by decide) ?_
      refine e_icmpne hg 44 dX11_ofPerson_32 (by decide) (fun c5 => ?_) (fun c5 => ?_)
      · have h := o_pos c5 h
        refine e_aload_n hg dX11_ofPerson_35 rfl ?_
        refine m_getR (q := 88) hg ciX11 9 lk_995 dX11_ofPerson_36 io_82 (Nat.le_of_ble_eq_true rfl) rfl rf_82_9 ?_
        refine e_iload_n hg dX11_ofPerson_39 rfl ?_
        obtain ⟨hi6, h⟩ := o_gd h
        refine m_iald hg sh_88 hi6 dX11_ofPerson_40 ?_
        refine e_goto hg 50 dX11_ofPerson_41 (by decide) ?_
        exact m_iret hg hr dX11_ofPerson_50 h
      · have h := o_neg c5 h
        refine e_aload_n hg dX11_ofPerson_44 rfl ?_
        refine m_getR (q := 89) hg ciX11 10 lk_996 dX11_ofPerson_45 io_82 (Nat.le_of_ble_eq_true rfl) rfl rf_82_10 ?_
        refine e_iload_n hg dX11_ofPerson_48 rfl ?_
        obtain ⟨hi7, h⟩ := o_gd h
        refine m_iald hg sh_89 hi7 dX11_ofPerson_49 ?_
        exact m_iret hg hr dX11_ofPerson_50 h

def X11_byteAt  (M : mm) : Option (Int32 × mm) :=
  if (M.1 82 28) < (M.1 82 29) then
    if (M.1 82 27) < 0 then
      gd (inb (M.1 82 28) 120) <|
      some ((M.1 98 (M.1 82 28).toNatClampNeg), M)
    else
      gd (inb ((M.1 82 27) + (M.1 82 28)) 120) <|
      some ((M.1 99 ((M.1 82 27) + (M.1 82 28)).toNatClampNeg), M)
  else
    some (0, M)
set_option maxRecDepth 100000 in
set_option maxHeartbeats 4000000 in
theorem X11_byteAt_ok  {M : mm} {r : Int32 × mm} (h : X11_byteAt  M = some r) : CM yX11_byteAt cX11_byteAt 1 (some .int) 0 [.ref 82] (cells M) (some (.int r.1)) (cells r.2) := by
  refine cm_of (ls := [some (.ref 82)]) mfX11_byteAt rfl (Nat.le_of_ble_eq_true rfl) (fun g hg hr => ?_)
  unfold X11_byteAt at h
  refine e_aload_n hg dX11_byteAt_0 rfl ?_
  refine m_getI hg ciX11 28 lk_1014 dX11_byteAt_1 io_82 (Nat.le_of_ble_eq_true rfl) rfl ?_
  refine e_aload_n hg dX11_byteAt_4 rfl ?_
  refine m_getI hg ciX11 29 lk_1015 dX11_byteAt_5 io_82 (Nat.le_of_ble_eq_true rfl) rfl ?_
  refine e_icmpge hg 47 dX11_byteAt_8 (by decide) (fun c1 => ?_) (fun c1 => ?_)
  · have h := o_pos c1 h
    refine e_aload_n hg dX11_byteAt_11 rfl ?_
    refine m_getI hg ciX11 27 lk_1013 dX11_byteAt_12 io_82 (Nat.le_of_ble_eq_true rfl) rfl ?_
    refine e_ifge hg 30 dX11_byteAt_15 (by decide) (fun c2 => ?_) (fun c2 => ?_)
    · have h := o_pos c2 h
      refine e_aload_n hg dX11_byteAt_18 rfl ?_
      refine m_getR (q := 98) hg ciX11 23 lk_1009 dX11_byteAt_19 io_82 (Nat.le_of_ble_eq_true rfl) rfl rf_82_23 ?_
      refine e_aload_n hg dX11_byteAt_22 rfl ?_
      refine m_getI hg ciX11 28 lk_1014 dX11_byteAt_23 io_82 (Nat.le_of_ble_eq_true rfl) rfl ?_
      obtain ⟨hi3, h⟩ := o_gd h
      refine m_iald hg sh_98 hi3 dX11_byteAt_26 ?_
      refine e_goto hg 48 dX11_byteAt_27 (by decide) ?_
      exact m_iret hg hr dX11_byteAt_48 h
    · have h := o_neg c2 h
      refine e_aload_n hg dX11_byteAt_30 rfl ?_
      refine m_getR (q := 99) hg ciX11 25 lk_1011 dX11_byteAt_31 io_82 (Nat.le_of_ble_eq_true rfl) rfl rf_82_25 ?_
      refine e_aload_n hg dX11_byteAt_34 rfl ?_
      refine m_getI hg ciX11 27 lk_1013 dX11_byteAt_35 io_82 (Nat.le_of_ble_eq_true rfl) rfl ?_
      refine e_aload_n hg dX11_byteAt_38 rfl ?_
      refine m_getI hg ciX11 28 lk_1014 dX11_byteAt_39 io_82 (Nat.le_of_ble_eq_true rfl) rfl ?_
      refine e_iadd hg dX11_byteAt_42 ?_
      obtain ⟨hi4, h⟩ := o_gd h
      refine m_iald hg sh_99 hi4 dX11_byteAt_43 ?_
      refine e_goto hg 48 dX11_byteAt_44 (by decide) ?_
      exact m_iret hg hr dX11_byteAt_48 h
  · have h := o_neg c1 h
    refine e_iconst (v := 0) hg dX11_byteAt_47 (by decide) ?_
    exact m_iret hg hr dX11_byteAt_48 h

def X11_nameOf (a0 : Int32) (M : mm) : Option (Int32 × mm) :=
  if a0 = 97 then
    some (2, M)
  else
  if a0 = 108 then
    some (3, M)
  else
  if a0 = 115 then
    some (0, M)
  else
  if a0 = 116 then
    some (1, M)
  else
  some ((-1), M)
set_option maxRecDepth 100000 in
set_option maxHeartbeats 4000000 in
theorem X11_nameOf_ok {a0 : Int32} {M : mm} {r : Int32 × mm} (h : X11_nameOf a0 M = some r) : CM yX11_nameOf cX11_nameOf 1 (some .int) 0 [.int a0] (cells M) (some (.int r.1)) (cells r.2) := by
  refine cm_of (ls := [some (.int a0)]) mfX11_nameOf rfl (Nat.le_of_ble_eq_true rfl) (fun g hg hr => ?_)
  unfold X11_nameOf at h
  refine e_iload_n hg dX11_nameOf_0 rfl ?_
  by_cases c1 : a0 = 97
  · have h := o_pos c1 h
    refine e_lookup hg 48 dX11_nameOf_1 (by decide) (by rw [c1] <;> decide) (by decide) ?_
    refine e_iconst (v := 2) hg dX11_nameOf_48 (by decide) ?_
    exact m_iret hg hr dX11_nameOf_49 h
  have h := o_neg c1 h
  by_cases c2 : a0 = 108
  · have h := o_pos c2 h
    refine e_lookup hg 50 dX11_nameOf_1 (by decide) (by rw [c2] <;> decide) (by decide) ?_
    refine e_iconst (v := 3) hg dX11_nameOf_50 (by decide) ?_
    exact m_iret hg hr dX11_nameOf_51 h
  have h := o_neg c2 h
  by_cases c3 : a0 = 115
  · have h := o_pos c3 h
    refine e_lookup hg 44 dX11_nameOf_1 (by decide) (by rw [c3] <;> decide) (by decide) ?_
    refine e_iconst (v := 0) hg dX11_nameOf_44 (by decide) ?_
    exact m_iret hg hr dX11_nameOf_45 h
  have h := o_neg c3 h
  by_cases c4 : a0 = 116
  · have h := o_pos c4 h
    refine e_lookup hg 46 dX11_nameOf_1 (by decide) (by rw [c4] <;> decide) (by decide) ?_
    refine e_iconst (v := 1) hg dX11_nameOf_46 (by decide) ?_
    exact m_iret hg hr dX11_nameOf_47 h
  have h := o_neg c4 h
  refine e_lookup (off := 51) hg 52 dX11_nameOf_1 (by decide) (by have e_c1 := Ne.symm (ne_toIntL (n := 97) (by decide) c1); have e_c2 := Ne.symm (ne_toIntL (n := 108) (by decide) c2); have e_c3 := Ne.symm (ne_toIntL (n := 115) (by decide) c3); have e_c4 := Ne.symm (ne_toIntL (n := 116) (by decide) c4); simp [Op.lookupswitch.offset, e_c1, e_c2, e_c3, e_c4]) (by decide) ?_
  refine e_iconst (v := -1) hg dX11_nameOf_52 (by decide) ?_
  exact m_iret hg hr dX11_nameOf_53 h

def X11_takes (a1 : Int32) (M : mm) : Option (Int32 × mm) :=
  if (M.1 82 30) < 0 then
    bd (X11_byteAt M) fun v2 M3 =>
    if v2 = a1 then
      lt_ (sA M3 82 (upd (M3.1 82) 28 ((M3.1 82 28) + 1))) fun M6 =>
      some (1, M6)
    else
      some (0, M3)
  else
    some (0, M)
set_option maxRecDepth 100000 in
set_option maxHeartbeats 4000000 in
theorem X11_takes_ok {a1 : Int32} {M : mm} {r : Int32 × mm} (h : X11_takes a1 M = some r) : CM yX11_takes cX11_takes 2 (some .boolean) 1 [.ref 82, .int a1] (cells M) (some (.int r.1)) (cells r.2) := by
  refine cm_of (ls := [some (.ref 82), some (.int a1)]) mfX11_takes rfl (Nat.le_of_ble_eq_true rfl) (fun g hg hr => ?_)
  unfold X11_takes at h
  refine e_aload_n hg dX11_takes_0 rfl ?_
  refine m_getI hg ciX11 30 lk_1016 dX11_takes_1 io_82 (Nat.le_of_ble_eq_true rfl) rfl ?_
  refine e_ifge hg 15 dX11_takes_4 (by decide) (fun c1 => ?_) (fun c1 => ?_)
  · have h := o_pos c1 h
    refine e_aload_n hg dX11_takes_7 rfl ?_
    obtain ⟨v2, M3, hc4, h⟩ := o_bd h
    refine m_callVI (rest := []) (v := v2) (M' := M3) (ci := 11) hg mfX11_byteAt mvX11_byteAt (X11_byteAt_ok (r := (v2, M3)) hc4) lk_1284 dX11_takes_8 io_82 rfl rfl rfl (by omega) (Nat.le_of_ble_eq_true rfl) ?_
    refine e_iload_n hg dX11_takes_11 rfl ?_
    refine e_icmpeq hg 17 dX11_takes_12 (by decide) (fun c5 => ?_) (fun c5 => ?_)
    · have h := o_pos c5 h
      refine e_aload_n hg dX11_takes_17 rfl ?_
      refine e_dup hg dX11_takes_18 rfl ?_
      refine m_getI hg ciX11 28 lk_1014 dX11_takes_19 io_82 (Nat.le_of_ble_eq_true rfl) rfl ?_
      refine e_iconst (v := 1) hg dX11_takes_22 (by decide) ?_
      refine e_iadd hg dX11_takes_23 ?_
      obtain ⟨M6, hM6, h⟩ := o_lt h
      refine m_putI hg ciX11 28 lk_1014 dX11_takes_24 io_82 (Nat.le_of_ble_eq_true rfl) rfl rfl rfl rfl ?_
      rw [← hM6]
      refine e_iconst (v := 1) hg dX11_takes_27 (by decide) ?_
      exact m_zret hg hr rfl dX11_takes_28 h
    · have h := o_neg c5 h
      refine e_iconst (v := 0) hg dX11_takes_15 (by decide) ?_
      exact m_zret hg hr rfl dX11_takes_16 h
  · have h := o_neg c1 h
    refine e_iconst (v := 0) hg dX11_takes_15 (by decide) ?_
    exact m_zret hg hr rfl dX11_takes_16 h

def X11_wrong_b19 (s1 : Int32) (M : mm) : Option (Int32 × mm) :=
  lt_ (sA M 82 (upd (M.1 82) 30 s1)) fun M2 =>
  some (0, M2)
set_option maxRecDepth 100000 in
set_option maxHeartbeats 4000000 in
theorem X11_wrong_b19_ok {g : gx} (hg : EC g cX11_wrong RX11 0) {r : Int32 × mm} (hr : RT g (some .int) (0, 0) (some (.int r.1)) (cells r.2)) {s1 : Int32} {M : mm} (h : X11_wrong_b19 s1 M = some r) : E g (0, 0) 19 [some (.ref 82)] [.int s1, .ref 82] (cells M) := by
  unfold X11_wrong_b19 at h
  obtain ⟨M2, hM2, h⟩ := o_lt h
  refine m_putI hg ciX11 30 lk_1016 dX11_wrong_19 io_82 (Nat.le_of_ble_eq_true rfl) rfl rfl rfl rfl ?_
  rw [← hM2]
  refine e_iconst (v := 0) hg dX11_wrong_22 (by decide) ?_
  exact m_iret hg hr dX11_wrong_23 h

def X11_wrong  (M : mm) : Option (Int32 × mm) :=
  X11_wrong_b19 (if (M.1 82 30) < 0 then (M.1 82 28) else (M.1 82 30)) M
set_option maxRecDepth 100000 in
set_option maxHeartbeats 4000000 in
theorem X11_wrong_ok  {M : mm} {r : Int32 × mm} (h : X11_wrong  M = some r) : CM yX11_wrong cX11_wrong 1 (some .int) 0 [.ref 82] (cells M) (some (.int r.1)) (cells r.2) := by
  refine cm_of (ls := [some (.ref 82)]) mfX11_wrong rfl (Nat.le_of_ble_eq_true rfl) (fun g hg hr => ?_)
  unfold X11_wrong at h
  refine e_aload_n hg dX11_wrong_0 rfl ?_
  refine e_aload_n hg dX11_wrong_1 rfl ?_
  refine m_getI hg ciX11 30 lk_1016 dX11_wrong_2 io_82 (Nat.le_of_ble_eq_true rfl) rfl ?_
  refine e_ifge hg 15 dX11_wrong_5 (by decide) (fun c1 => ?_) (fun c1 => ?_)
  · simp only [if_pos c1] at h
    refine e_aload_n hg dX11_wrong_8 rfl ?_
    refine m_getI hg ciX11 28 lk_1014 dX11_wrong_9 io_82 (Nat.le_of_ble_eq_true rfl) rfl ?_
    refine e_goto hg 19 dX11_wrong_12 (by decide) ?_
    exact X11_wrong_b19_ok hg hr  h
  · simp only [if_neg c1] at h
    refine e_aload_n hg dX11_wrong_15 rfl ?_
    refine m_getI hg ciX11 30 lk_1016 dX11_wrong_16 io_82 (Nat.le_of_ble_eq_true rfl) rfl ?_
    exact X11_wrong_b19_ok hg hr  h

def X11_both_b32 (rec : Nat → mm → Option (Int32 × mm)) (R5 : Int32 → mm → Option (Int32 × mm)) (s0 : Int32) (M : mm) : Option (Int32 × mm) :=
  R5 s0 M
set_option maxRecDepth 100000 in
set_option maxHeartbeats 4000000 in
theorem X11_both_b32_ok {dd : Nat} {g : gx} (hg : EC g cX11_both RX11 (dd + 1)) (hdd : 2 ≤ dd) {rec : Nat → mm → Option (Int32 × mm)} (hrec0 : ∀ (M : mm) (q : Int32 × mm), rec 0  M = some q → CM yX11_both cX11_both 3 (some .int) dd [.ref 82] (cells M) (some (.int q.1)) (cells q.2)) (hrec1 : ∀ (M : mm) (q : Int32 × mm), rec 1  M = some q → CM yX11_compared cX11_compared 4 (some .int) dd [.ref 82] (cells M) (some (.int q.1)) (cells q.2)) (hrec2 : ∀ (M : mm) (q : Int32 × mm), rec 2  M = some q → CM yX11_either cX11_either 3 (some .int) dd [.ref 82] (cells M) (some (.int q.1)) (cells q.2)) (hrec3 : ∀ (M : mm) (q : Int32 × mm), rec 3  M = some q → CM yX11_one cX11_one 5 (some .int) dd [.ref 82] (cells M) (some (.int q.1)) (cells q.2)) (hrec4 : ∀ (M : mm) (q : Int32 × mm), rec 4  M = some q → CM yX11_product cX11_product 4 (some .int) dd [.ref 82] (cells M) (some (.int q.1)) (cells q.2)) (hrec5 : ∀ (M : mm) (q : Int32 × mm), rec 5  M = some q → CM yX11_sums cX11_sums 4 (some .int) dd [.ref 82] (cells M) (some (.int q.1)) (cells q.2)) {r : Int32 × mm} (hr : RT g (some .int) (0, 0) (some (.int r.1)) (cells r.2)) {R5 : Int32 → mm → Option (Int32 × mm)} (hR5 : ∀ (x1 : Int32) (o2 : Option Value) (M : mm), R5 x1 M = some r → E g (0, 0) 5 [some (.ref 82), some (.int x1), o2] [] (cells M)) {s0 : Int32} {o1 : Option Value} {o2 : Option Value} {M : mm} (h : X11_both_b32 rec R5 s0 M = some r) : E g (0, 0) 32 [some (.ref 82), o1, o2] [.int s0] (cells M) := by
  unfold X11_both_b32 at h
  refine e_istore_n (ls' := [some (.ref 82), some (.int s0), o2]) hg dX11_both_32 rfl ?_
  refine e_goto hg 5 dX11_both_33 (by decide) ?_
  exact hR5 _ _ _ h

def X11_both_b31 (rec : Nat → mm → Option (Int32 × mm)) (R5 : Int32 → mm → Option (Int32 × mm)) (M : mm) : Option (Int32 × mm) :=
  X11_both_b32 rec R5 0 M
set_option maxRecDepth 100000 in
set_option maxHeartbeats 4000000 in
theorem X11_both_b31_ok {dd : Nat} {g : gx} (hg : EC g cX11_both RX11 (dd + 1)) (hdd : 2 ≤ dd) {rec : Nat → mm → Option (Int32 × mm)} (hrec0 : ∀ (M : mm) (q : Int32 × mm), rec 0  M = some q → CM yX11_both cX11_both 3 (some .int) dd [.ref 82] (cells M) (some (.int q.1)) (cells q.2)) (hrec1 : ∀ (M : mm) (q : Int32 × mm), rec 1  M = some q → CM yX11_compared cX11_compared 4 (some .int) dd [.ref 82] (cells M) (some (.int q.1)) (cells q.2)) (hrec2 : ∀ (M : mm) (q : Int32 × mm), rec 2  M = some q → CM yX11_either cX11_either 3 (some .int) dd [.ref 82] (cells M) (some (.int q.1)) (cells q.2)) (hrec3 : ∀ (M : mm) (q : Int32 × mm), rec 3  M = some q → CM yX11_one cX11_one 5 (some .int) dd [.ref 82] (cells M) (some (.int q.1)) (cells q.2)) (hrec4 : ∀ (M : mm) (q : Int32 × mm), rec 4  M = some q → CM yX11_product cX11_product 4 (some .int) dd [.ref 82] (cells M) (some (.int q.1)) (cells q.2)) (hrec5 : ∀ (M : mm) (q : Int32 × mm), rec 5  M = some q → CM yX11_sums cX11_sums 4 (some .int) dd [.ref 82] (cells M) (some (.int q.1)) (cells q.2)) {r : Int32 × mm} (hr : RT g (some .int) (0, 0) (some (.int r.1)) (cells r.2)) {R5 : Int32 → mm → Option (Int32 × mm)} (hR5 : ∀ (x1 : Int32) (o2 : Option Value) (M : mm), R5 x1 M = some r → E g (0, 0) 5 [some (.ref 82), some (.int x1), o2] [] (cells M)) {o1 : Option Value} {o2 : Option Value} {M : mm} (h : X11_both_b31 rec R5 M = some r) : E g (0, 0) 31 [some (.ref 82), o1, o2] [] (cells M) := by
  unfold X11_both_b31 at h
  refine e_iconst (v := 0) hg dX11_both_31 (by decide) ?_
  exact X11_both_b32_ok hg hdd hrec0 hrec1 hrec2 hrec3 hrec4 hrec5 hr hR5 h

def X11_both_L5 (rec : Nat → mm → Option (Int32 × mm)) : Nat → Int32 → mm → Option (Int32 × mm)
  | 0, _, _ => none
  | n_ + 1, x1, M =>
    bd (X11_takes 38 M) fun v4 M5 =>
    if v4 = 0 then
      some (x1, M5)
    else
      bd (rec 1 M5) fun v8 M9 =>
      if x1 = 0 then
        X11_both_b31 rec (X11_both_L5 rec n_) M9
      else
        if v8 = 0 then
          X11_both_b31 rec (X11_both_L5 rec n_) M9
        else
          X11_both_b32 rec (X11_both_L5 rec n_) 1 M9
set_option maxRecDepth 100000 in
set_option maxHeartbeats 4000000 in
theorem X11_both_L5_ok {dd : Nat} {g : gx} (hg : EC g cX11_both RX11 (dd + 1)) (hdd : 2 ≤ dd) {rec : Nat → mm → Option (Int32 × mm)} (hrec0 : ∀ (M : mm) (q : Int32 × mm), rec 0  M = some q → CM yX11_both cX11_both 3 (some .int) dd [.ref 82] (cells M) (some (.int q.1)) (cells q.2)) (hrec1 : ∀ (M : mm) (q : Int32 × mm), rec 1  M = some q → CM yX11_compared cX11_compared 4 (some .int) dd [.ref 82] (cells M) (some (.int q.1)) (cells q.2)) (hrec2 : ∀ (M : mm) (q : Int32 × mm), rec 2  M = some q → CM yX11_either cX11_either 3 (some .int) dd [.ref 82] (cells M) (some (.int q.1)) (cells q.2)) (hrec3 : ∀ (M : mm) (q : Int32 × mm), rec 3  M = some q → CM yX11_one cX11_one 5 (some .int) dd [.ref 82] (cells M) (some (.int q.1)) (cells q.2)) (hrec4 : ∀ (M : mm) (q : Int32 × mm), rec 4  M = some q → CM yX11_product cX11_product 4 (some .int) dd [.ref 82] (cells M) (some (.int q.1)) (cells q.2)) (hrec5 : ∀ (M : mm) (q : Int32 × mm), rec 5  M = some q → CM yX11_sums cX11_sums 4 (some .int) dd [.ref 82] (cells M) (some (.int q.1)) (cells q.2)) {r : Int32 × mm} (hr : RT g (some .int) (0, 0) (some (.int r.1)) (cells r.2)) : ∀ (n_ : Nat) (x1 : Int32) (o2 : Option Value) (M : mm), X11_both_L5 rec n_ x1 M = some r → E g (0, 0) 5 [some (.ref 82), some (.int x1), o2] [] (cells M) := by
  intro n_
  induction n_ with
  | zero => intro x1 o2 M h; exact o_no h
  | succ n_ ih =>
    intro x1 o2 M h
    rw [X11_both_L5] at h
    refine e_aload_n hg dX11_both_5 rfl ?_
    refine e_bipush (v := 38) hg dX11_both_6 (by decide) ?_
    obtain ⟨v4, M5, hc6, h⟩ := o_bd h
    refine m_callVI (rest := []) (v := v4) (M' := M5) (ci := 11) hg mfX11_takes mvX11_takes (X11_takes_ok (r := (v4, M5)) hc6) lk_1292 dX11_both_8 io_82 rfl rfl rfl (by omega) (Nat.le_of_ble_eq_true rfl) ?_
    refine e_ifeq hg 36 dX11_both_11 (by decide) (fun c7 => ?_) (fun c7 => ?_)
    · have h := o_pos c7 h
      refine e_iload_n hg dX11_both_36 rfl ?_
      exact m_iret hg hr dX11_both_37 h
    · have h := o_neg c7 h
      refine e_aload_n hg dX11_both_14 rfl ?_
      obtain ⟨v8, M9, hc10, h⟩ := o_bd h
      refine m_callVI (rest := []) (v := v8) (M' := M9) (ci := 11) hg mfX11_compared mvX11_compared (hrec1 _ (v8, M9) hc10) lk_1268 dX11_both_15 io_82 rfl rfl rfl (by omega) (Nat.le_of_ble_eq_true rfl) ?_
      refine e_istore_n (ls' := [some (.ref 82), some (.int x1), some (.int v8)]) hg dX11_both_18 rfl ?_
      refine e_iload_n hg dX11_both_19 rfl ?_
      refine e_ifeq hg 31 dX11_both_20 (by decide) (fun c11 => ?_) (fun c11 => ?_)
      · have h := o_pos c11 h
        exact X11_both_b31_ok hg hdd hrec0 hrec1 hrec2 hrec3 hrec4 hrec5 hr ih h
      · have h := o_neg c11 h
        refine e_iload_n hg dX11_both_23 rfl ?_
        refine e_ifeq hg 31 dX11_both_24 (by decide) (fun c12 => ?_) (fun c12 => ?_)
        · have h := o_pos c12 h
          exact X11_both_b31_ok hg hdd hrec0 hrec1 hrec2 hrec3 hrec4 hrec5 hr ih h
        · have h := o_neg c12 h
          refine e_iconst (v := 1) hg dX11_both_27 (by decide) ?_
          refine e_goto hg 32 dX11_both_28 (by decide) ?_
          exact X11_both_b32_ok hg hdd hrec0 hrec1 hrec2 hrec3 hrec4 hrec5 hr ih h

def X11_both_B (rec : Nat → mm → Option (Int32 × mm))  (M : mm) : Option (Int32 × mm) :=
  bd (rec 1 M) fun v1 M2 =>
  X11_both_L5 rec 10000 v1 M2
set_option maxRecDepth 100000 in
set_option maxHeartbeats 4000000 in
theorem X11_both_B_ok {dd : Nat} (hdd : 2 ≤ dd) {rec : Nat → mm → Option (Int32 × mm)} (hrec0 : ∀ (M : mm) (q : Int32 × mm), rec 0  M = some q → CM yX11_both cX11_both 3 (some .int) dd [.ref 82] (cells M) (some (.int q.1)) (cells q.2)) (hrec1 : ∀ (M : mm) (q : Int32 × mm), rec 1  M = some q → CM yX11_compared cX11_compared 4 (some .int) dd [.ref 82] (cells M) (some (.int q.1)) (cells q.2)) (hrec2 : ∀ (M : mm) (q : Int32 × mm), rec 2  M = some q → CM yX11_either cX11_either 3 (some .int) dd [.ref 82] (cells M) (some (.int q.1)) (cells q.2)) (hrec3 : ∀ (M : mm) (q : Int32 × mm), rec 3  M = some q → CM yX11_one cX11_one 5 (some .int) dd [.ref 82] (cells M) (some (.int q.1)) (cells q.2)) (hrec4 : ∀ (M : mm) (q : Int32 × mm), rec 4  M = some q → CM yX11_product cX11_product 4 (some .int) dd [.ref 82] (cells M) (some (.int q.1)) (cells q.2)) (hrec5 : ∀ (M : mm) (q : Int32 × mm), rec 5  M = some q → CM yX11_sums cX11_sums 4 (some .int) dd [.ref 82] (cells M) (some (.int q.1)) (cells q.2))  {M : mm} {r : Int32 × mm} (h : X11_both_B rec  M = some r) : CM yX11_both cX11_both 3 (some .int) (dd + 1) [.ref 82] (cells M) (some (.int r.1)) (cells r.2) := by
  refine cm_of (ls := [some (.ref 82), none, none]) mfX11_both rfl (Nat.le_of_ble_eq_true rfl) (fun g hg hr => ?_)
  unfold X11_both_B at h
  refine e_aload_n hg dX11_both_0 rfl ?_
  obtain ⟨v1, M2, hc3, h⟩ := o_bd h
  refine m_callVI (rest := []) (v := v1) (M' := M2) (ci := 11) hg mfX11_compared mvX11_compared (hrec1 _ (v1, M2) hc3) lk_1268 dX11_both_1 io_82 rfl rfl rfl (by omega) (Nat.le_of_ble_eq_true rfl) ?_
  refine e_istore_n (ls' := [some (.ref 82), some (.int v1), none]) hg dX11_both_4 rfl ?_
  exact X11_both_L5_ok hg hdd hrec0 hrec1 hrec2 hrec3 hrec4 hrec5 hr  10000 _ _ _ h

def X11_compared_b85 (rec : Nat → mm → Option (Int32 × mm)) (M : mm) : Option (Int32 × mm) :=
  some (1, M)
set_option maxRecDepth 100000 in
set_option maxHeartbeats 4000000 in
theorem X11_compared_b85_ok {dd : Nat} {g : gx} (hg : EC g cX11_compared RX11 (dd + 1)) (hdd : 2 ≤ dd) {rec : Nat → mm → Option (Int32 × mm)} (hrec0 : ∀ (M : mm) (q : Int32 × mm), rec 0  M = some q → CM yX11_both cX11_both 3 (some .int) dd [.ref 82] (cells M) (some (.int q.1)) (cells q.2)) (hrec1 : ∀ (M : mm) (q : Int32 × mm), rec 1  M = some q → CM yX11_compared cX11_compared 4 (some .int) dd [.ref 82] (cells M) (some (.int q.1)) (cells q.2)) (hrec2 : ∀ (M : mm) (q : Int32 × mm), rec 2  M = some q → CM yX11_either cX11_either 3 (some .int) dd [.ref 82] (cells M) (some (.int q.1)) (cells q.2)) (hrec3 : ∀ (M : mm) (q : Int32 × mm), rec 3  M = some q → CM yX11_one cX11_one 5 (some .int) dd [.ref 82] (cells M) (some (.int q.1)) (cells q.2)) (hrec4 : ∀ (M : mm) (q : Int32 × mm), rec 4  M = some q → CM yX11_product cX11_product 4 (some .int) dd [.ref 82] (cells M) (some (.int q.1)) (cells q.2)) (hrec5 : ∀ (M : mm) (q : Int32 × mm), rec 5  M = some q → CM yX11_sums cX11_sums 4 (some .int) dd [.ref 82] (cells M) (some (.int q.1)) (cells q.2)) {r : Int32 × mm} (hr : RT g (some .int) (0, 0) (some (.int r.1)) (cells r.2)) {o1 : Option Value} {o2 : Option Value} {o3 : Option Value} {M : mm} (h : X11_compared_b85 rec M = some r) : E g (0, 0) 85 [some (.ref 82), o1, o2, o3] [] (cells M) := by
  unfold X11_compared_b85 at h
  refine e_iconst (v := 1) hg dX11_compared_85 (by decide) ?_
  refine e_goto hg 90 dX11_compared_86 (by decide) ?_
  exact m_iret hg hr dX11_compared_90 h

def X11_compared_b37 (rec : Nat → mm → Option (Int32 × mm)) (x1 : Int32) (x2 : Int32) (M : mm) : Option (Int32 × mm) :=
  lt_ (sA M 82 (upd (M.1 82) 28 ((M.1 82 28) + 1))) fun M9 =>
  bd (rec 5 M9) fun v10 M11 =>
  if x2 = 60 then
    if x1 < v10 then
      X11_compared_b85 rec M11
    else
      some (0, M11)
  else
    if x2 = 61 then
      if x1 = v10 then
        X11_compared_b85 rec M11
      else
        some (0, M11)
    else
      if v10 < x1 then
        X11_compared_b85 rec M11
      else
        some (0, M11)
set_option maxRecDepth 100000 in
set_option maxHeartbeats 4000000 in
theorem X11_compared_b37_ok {dd : Nat} {g : gx} (hg : EC g cX11_compared RX11 (dd + 1)) (hdd : 2 ≤ dd) {rec : Nat → mm → Option (Int32 × mm)} (hrec0 : ∀ (M : mm) (q : Int32 × mm), rec 0  M = some q → CM yX11_both cX11_both 3 (some .int) dd [.ref 82] (cells M) (some (.int q.1)) (cells q.2)) (hrec1 : ∀ (M : mm) (q : Int32 × mm), rec 1  M = some q → CM yX11_compared cX11_compared 4 (some .int) dd [.ref 82] (cells M) (some (.int q.1)) (cells q.2)) (hrec2 : ∀ (M : mm) (q : Int32 × mm), rec 2  M = some q → CM yX11_either cX11_either 3 (some .int) dd [.ref 82] (cells M) (some (.int q.1)) (cells q.2)) (hrec3 : ∀ (M : mm) (q : Int32 × mm), rec 3  M = some q → CM yX11_one cX11_one 5 (some .int) dd [.ref 82] (cells M) (some (.int q.1)) (cells q.2)) (hrec4 : ∀ (M : mm) (q : Int32 × mm), rec 4  M = some q → CM yX11_product cX11_product 4 (some .int) dd [.ref 82] (cells M) (some (.int q.1)) (cells q.2)) (hrec5 : ∀ (M : mm) (q : Int32 × mm), rec 5  M = some q → CM yX11_sums cX11_sums 4 (some .int) dd [.ref 82] (cells M) (some (.int q.1)) (cells q.2)) {r : Int32 × mm} (hr : RT g (some .int) (0, 0) (some (.int r.1)) (cells r.2)) {x1 : Int32} {x2 : Int32} {o3 : Option Value} {M : mm} (h : X11_compared_b37 rec x1 x2 M = some r) : E g (0, 0) 37 [some (.ref 82), some (.int x1), some (.int x2), o3] [] (cells M) := by
  unfold X11_compared_b37 at h
  refine e_aload_n hg dX11_compared_37 rfl ?_
  refine e_dup hg dX11_compared_38 rfl ?_
  refine m_getI hg ciX11 28 lk_1014 dX11_compared_39 io_82 (Nat.le_of_ble_eq_true rfl) rfl ?_
  refine e_iconst (v := 1) hg dX11_compared_42 (by decide) ?_
  refine e_iadd hg dX11_compared_43 ?_
  obtain ⟨M9, hM9, h⟩ := o_lt h
  refine m_putI hg ciX11 28 lk_1014 dX11_compared_44 io_82 (Nat.le_of_ble_eq_true rfl) rfl rfl rfl rfl ?_
  rw [← hM9]
  refine e_aload_n hg dX11_compared_47 rfl ?_
  obtain ⟨v10, M11, hc12, h⟩ := o_bd h
  refine m_callVI (rest := []) (v := v10) (M' := M11) (ci := 11) hg mfX11_sums mvX11_sums (hrec5 _ (v10, M11) hc12) lk_1272 dX11_compared_48 io_82 rfl rfl rfl (by omega) (Nat.le_of_ble_eq_true rfl) ?_
  refine e_istore_n (ls' := [some (.ref 82), some (.int x1), some (.int x2), some (.int v10)]) hg dX11_compared_51 rfl ?_
  refine e_iload_n hg dX11_compared_52 rfl ?_
  refine e_bipush (v := 60) hg dX11_compared_53 (by decide) ?_
  refine e_icmpne hg 66 dX11_compared_55 (by decide) (fun c13 => ?_) (fun c13 => ?_)
  · have h := o_pos c13 h
    refine e_iload_n hg dX11_compared_58 rfl ?_
    refine e_iload_n hg dX11_compared_59 rfl ?_
    refine e_icmpge hg 89 dX11_compared_60 (by decide) (fun c14 => ?_) (fun c14 => ?_)
    · have h := o_pos c14 h
      refine e_goto hg 85 dX11_compared_63 (by decide) ?_
      exact X11_compared_b85_ok hg hdd hrec0 hrec1 hrec2 hrec3 hrec4 hrec5 hr  h
    · have h := o_neg c14 h
      refine e_iconst (v := 0) hg dX11_compared_89 (by decide) ?_
      exact m_iret hg hr dX11_compared_90 h
  · have h := o_neg c13 h
    refine e_iload_n hg dX11_compared_66 rfl ?_
    refine e_bipush (v := 61) hg dX11_compared_67 (by decide) ?_
    refine e_icmpne hg 80 dX11_compared_69 (by decide) (fun c15 => ?_) (fun c15 => ?_)
    · have h := o_pos c15 h
      refine e_iload_n hg dX11_compared_72 rfl ?_
      refine e_iload_n hg dX11_compared_73 rfl ?_
      refine e_icmpne hg 89 dX11_compared_74 (by decide) (fun c16 => ?_) (fun c16 => ?_)
      · have h := o_pos c16 h
        refine e_goto hg 85 dX11_compared_77 (by decide) ?_
        exact X11_compared_b85_ok hg hdd hrec0 hrec1 hrec2 hrec3 hrec4 hrec5 hr  h
      · have h := o_neg c16 h
        refine e_iconst (v := 0) hg dX11_compared_89 (by decide) ?_
        exact m_iret hg hr dX11_compared_90 h
    · have h := o_neg c15 h
      refine e_iload_n hg dX11_compared_80 rfl ?_
      refine e_iload_n hg dX11_compared_81 rfl ?_
      refine e_icmple hg 89 dX11_compared_82 (by decide) (fun c17 => ?_) (fun c17 => ?_)
      · have h := o_pos c17 h
        exact X11_compared_b85_ok hg hdd hrec0 hrec1 hrec2 hrec3 hrec4 hrec5 hr  h
      · have h := o_neg c17 h
        refine e_iconst (v := 0) hg dX11_compared_89 (by decide) ?_
        exact m_iret hg hr dX11_compared_90 h

def X11_compared_B (rec : Nat → mm → Option (Int32 × mm))  (M : mm) : Option (Int32 × mm) :=
  bd (rec 5 M) fun v1 M2 =>
  bd (X11_byteAt M2) fun v4 M5 =>
  if (M5.1 82 30) < 0 then
    if v4 = 60 then
      X11_compared_b37 rec v1 v4 M5
    else
      if v4 = 61 then
        X11_compared_b37 rec v1 v4 M5
      else
        if v4 = 62 then
          X11_compared_b37 rec v1 v4 M5
        else
          some (v1, M5)
  else
    some (v1, M5)
set_option maxRecDepth 100000 in
set_option maxHeartbeats 4000000 in
theorem X11_compared_B_ok {dd : Nat} (hdd : 2 ≤ dd) {rec : Nat → mm → Option (Int32 × mm)} (hrec0 : ∀ (M : mm) (q : Int32 × mm), rec 0  M = some q → CM yX11_both cX11_both 3 (some .int) dd [.ref 82] (cells M) (some (.int q.1)) (cells q.2)) (hrec1 : ∀ (M : mm) (q : Int32 × mm), rec 1  M = some q → CM yX11_compared cX11_compared 4 (some .int) dd [.ref 82] (cells M) (some (.int q.1)) (cells q.2)) (hrec2 : ∀ (M : mm) (q : Int32 × mm), rec 2  M = some q → CM yX11_either cX11_either 3 (some .int) dd [.ref 82] (cells M) (some (.int q.1)) (cells q.2)) (hrec3 : ∀ (M : mm) (q : Int32 × mm), rec 3  M = some q → CM yX11_one cX11_one 5 (some .int) dd [.ref 82] (cells M) (some (.int q.1)) (cells q.2)) (hrec4 : ∀ (M : mm) (q : Int32 × mm), rec 4  M = some q → CM yX11_product cX11_product 4 (some .int) dd [.ref 82] (cells M) (some (.int q.1)) (cells q.2)) (hrec5 : ∀ (M : mm) (q : Int32 × mm), rec 5  M = some q → CM yX11_sums cX11_sums 4 (some .int) dd [.ref 82] (cells M) (some (.int q.1)) (cells q.2))  {M : mm} {r : Int32 × mm} (h : X11_compared_B rec  M = some r) : CM yX11_compared cX11_compared 4 (some .int) (dd + 1) [.ref 82] (cells M) (some (.int r.1)) (cells r.2) := by
  refine cm_of (ls := [some (.ref 82), none, none, none]) mfX11_compared rfl (Nat.le_of_ble_eq_true rfl) (fun g hg hr => ?_)
  unfold X11_compared_B at h
  refine e_aload_n hg dX11_compared_0 rfl ?_
  obtain ⟨v1, M2, hc3, h⟩ := o_bd h
  refine m_callVI (rest := []) (v := v1) (M' := M2) (ci := 11) hg mfX11_sums mvX11_sums (hrec5 _ (v1, M2) hc3) lk_1272 dX11_compared_1 io_82 rfl rfl rfl (by omega) (Nat.le_of_ble_eq_true rfl) ?_
  refine e_istore_n (ls' := [some (.ref 82), some (.int v1), none, none]) hg dX11_compared_4 rfl ?_
  refine e_aload_n hg dX11_compared_5 rfl ?_
  obtain ⟨v4, M5, hc6, h⟩ := o_bd h
  refine m_callVI (rest := []) (v := v4) (M' := M5) (ci := 11) hg mfX11_byteAt mvX11_byteAt (X11_byteAt_ok (r := (v4, M5)) hc6) lk_1284 dX11_compared_6 io_82 rfl rfl rfl (by omega) (Nat.le_of_ble_eq_true rfl) ?_
  refine e_istore_n (ls' := [some (.ref 82), some (.int v1), some (.int v4), none]) hg dX11_compared_9 rfl ?_
  refine e_aload_n hg dX11_compared_10 rfl ?_
  refine m_getI hg ciX11 30 lk_1016 dX11_compared_11 io_82 (Nat.le_of_ble_eq_true rfl) rfl ?_
  refine e_ifge hg 35 dX11_compared_14 (by decide) (fun c7 => ?_) (fun c7 => ?_)
  · have h := o_pos c7 h
    refine e_iload_n hg dX11_compared_17 rfl ?_
    refine e_bipush (v := 60) hg dX11_compared_18 (by decide) ?_
    refine e_icmpeq hg 37 dX11_compared_20 (by decide) (fun c8 => ?_) (fun c8 => ?_)
    · have h := o_pos c8 h
      exact X11_compared_b37_ok hg hdd hrec0 hrec1 hrec2 hrec3 hrec4 hrec5 hr  h
    · have h := o_neg c8 h
      refine e_iload_n hg dX11_compared_23 rfl ?_
      refine e_bipush (v := 61) hg dX11_compared_24 (by decide) ?_
      refine e_icmpeq hg 37 dX11_compared_26 (by decide) (fun c18 => ?_) (fun c18 => ?_)
      · have h := o_pos c18 h
        exact X11_compared_b37_ok hg hdd hrec0 hrec1 hrec2 hrec3 hrec4 hrec5 hr  h
      · have h := o_neg c18 h
        refine e_iload_n hg dX11_compared_29 rfl ?_
        refine e_bipush (v := 62) hg dX11_compared_30 (by decide) ?_
        refine e_icmpeq hg 37 dX11_compared_32 (by decide) (fun c19 => ?_) (fun c19 => ?_)
        · have h := o_pos c19 h
          exact X11_compared_b37_ok hg hdd hrec0 hrec1 hrec2 hrec3 hrec4 hrec5 hr  h
        · have h := o_neg c19 h
          refine e_iload_n hg dX11_compared_35 rfl ?_
          exact m_iret hg hr dX11_compared_36 h
  · have h := o_neg c7 h
    refine e_iload_n hg dX11_compared_35 rfl ?_
    exact m_iret hg hr dX11_compared_36 h

def X11_either_b32 (rec : Nat → mm → Option (Int32 × mm)) (R5 : Int32 → mm → Option (Int32 × mm)) (s0 : Int32) (M : mm) : Option (Int32 × mm) :=
  R5 s0 M
set_option maxRecDepth 100000 in
set_option maxHeartbeats 4000000 in
theorem X11_either_b32_ok {dd : Nat} {g : gx} (hg : EC g cX11_either RX11 (dd + 1)) (hdd : 2 ≤ dd) {rec : Nat → mm → Option (Int32 × mm)} (hrec0 : ∀ (M : mm) (q : Int32 × mm), rec 0  M = some q → CM yX11_both cX11_both 3 (some .int) dd [.ref 82] (cells M) (some (.int q.1)) (cells q.2)) (hrec1 : ∀ (M : mm) (q : Int32 × mm), rec 1  M = some q → CM yX11_compared cX11_compared 4 (some .int) dd [.ref 82] (cells M) (some (.int q.1)) (cells q.2)) (hrec2 : ∀ (M : mm) (q : Int32 × mm), rec 2  M = some q → CM yX11_either cX11_either 3 (some .int) dd [.ref 82] (cells M) (some (.int q.1)) (cells q.2)) (hrec3 : ∀ (M : mm) (q : Int32 × mm), rec 3  M = some q → CM yX11_one cX11_one 5 (some .int) dd [.ref 82] (cells M) (some (.int q.1)) (cells q.2)) (hrec4 : ∀ (M : mm) (q : Int32 × mm), rec 4  M = some q → CM yX11_product cX11_product 4 (some .int) dd [.ref 82] (cells M) (some (.int q.1)) (cells q.2)) (hrec5 : ∀ (M : mm) (q : Int32 × mm), rec 5  M = some q → CM yX11_sums cX11_sums 4 (some .int) dd [.ref 82] (cells M) (some (.int q.1)) (cells q.2)) {r : Int32 × mm} (hr : RT g (some .int) (0, 0) (some (.int r.1)) (cells r.2)) {R5 : Int32 → mm → Option (Int32 × mm)} (hR5 : ∀ (x1 : Int32) (o2 : Option Value) (M : mm), R5 x1 M = some r → E g (0, 0) 5 [some (.ref 82), some (.int x1), o2] [] (cells M)) {s0 : Int32} {o1 : Option Value} {o2 : Option Value} {M : mm} (h : X11_either_b32 rec R5 s0 M = some r) : E g (0, 0) 32 [some (.ref 82), o1, o2] [.int s0] (cells M) := by
  unfold X11_either_b32 at h
  refine e_istore_n (ls' := [some (.ref 82), some (.int s0), o2]) hg dX11_either_32 rfl ?_
  refine e_goto hg 5 dX11_either_33 (by decide) ?_
  exact hR5 _ _ _ h

def X11_either_b27 (rec : Nat → mm → Option (Int32 × mm)) (R5 : Int32 → mm → Option (Int32 × mm)) (M : mm) : Option (Int32 × mm) :=
  X11_either_b32 rec R5 1 M
set_option maxRecDepth 100000 in
set_option maxHeartbeats 4000000 in
theorem X11_either_b27_ok {dd : Nat} {g : gx} (hg : EC g cX11_either RX11 (dd + 1)) (hdd : 2 ≤ dd) {rec : Nat → mm → Option (Int32 × mm)} (hrec0 : ∀ (M : mm) (q : Int32 × mm), rec 0  M = some q → CM yX11_both cX11_both 3 (some .int) dd [.ref 82] (cells M) (some (.int q.1)) (cells q.2)) (hrec1 : ∀ (M : mm) (q : Int32 × mm), rec 1  M = some q → CM yX11_compared cX11_compared 4 (some .int) dd [.ref 82] (cells M) (some (.int q.1)) (cells q.2)) (hrec2 : ∀ (M : mm) (q : Int32 × mm), rec 2  M = some q → CM yX11_either cX11_either 3 (some .int) dd [.ref 82] (cells M) (some (.int q.1)) (cells q.2)) (hrec3 : ∀ (M : mm) (q : Int32 × mm), rec 3  M = some q → CM yX11_one cX11_one 5 (some .int) dd [.ref 82] (cells M) (some (.int q.1)) (cells q.2)) (hrec4 : ∀ (M : mm) (q : Int32 × mm), rec 4  M = some q → CM yX11_product cX11_product 4 (some .int) dd [.ref 82] (cells M) (some (.int q.1)) (cells q.2)) (hrec5 : ∀ (M : mm) (q : Int32 × mm), rec 5  M = some q → CM yX11_sums cX11_sums 4 (some .int) dd [.ref 82] (cells M) (some (.int q.1)) (cells q.2)) {r : Int32 × mm} (hr : RT g (some .int) (0, 0) (some (.int r.1)) (cells r.2)) {R5 : Int32 → mm → Option (Int32 × mm)} (hR5 : ∀ (x1 : Int32) (o2 : Option Value) (M : mm), R5 x1 M = some r → E g (0, 0) 5 [some (.ref 82), some (.int x1), o2] [] (cells M)) {o1 : Option Value} {o2 : Option Value} {M : mm} (h : X11_either_b27 rec R5 M = some r) : E g (0, 0) 27 [some (.ref 82), o1, o2] [] (cells M) := by
  unfold X11_either_b27 at h
  refine e_iconst (v := 1) hg dX11_either_27 (by decide) ?_
  refine e_goto hg 32 dX11_either_28 (by decide) ?_
  exact X11_either_b32_ok hg hdd hrec0 hrec1 hrec2 hrec3 hrec4 hrec5 hr hR5 h

def X11_either_L5 (rec : Nat → mm → Option (Int32 × mm)) : Nat → Int32 → mm → Option (Int32 × mm)
  | 0, _, _ => none
  | n_ + 1, x1, M =>
    bd (X11_takes 124 M) fun v4 M5 =>
    if v4 = 0 then
      some (x1, M5)
    else
      bd (rec 0 M5) fun v8 M9 =>
      if x1 = 0 then
        if v8 = 0 then
          X11_either_b32 rec (X11_either_L5 rec n_) 0 M9
        else
          X11_either_b27 rec (X11_either_L5 rec n_) M9
      else
        X11_either_b27 rec (X11_either_L5 rec n_) M9
set_option maxRecDepth 100000 in
set_option maxHeartbeats 4000000 in
theorem X11_either_L5_ok {dd : Nat} {g : gx} (hg : EC g cX11_either RX11 (dd + 1)) (hdd : 2 ≤ dd) {rec : Nat → mm → Option (Int32 × mm)} (hrec0 : ∀ (M : mm) (q : Int32 × mm), rec 0  M = some q → CM yX11_both cX11_both 3 (some .int) dd [.ref 82] (cells M) (some (.int q.1)) (cells q.2)) (hrec1 : ∀ (M : mm) (q : Int32 × mm), rec 1  M = some q → CM yX11_compared cX11_compared 4 (some .int) dd [.ref 82] (cells M) (some (.int q.1)) (cells q.2)) (hrec2 : ∀ (M : mm) (q : Int32 × mm), rec 2  M = some q → CM yX11_either cX11_either 3 (some .int) dd [.ref 82] (cells M) (some (.int q.1)) (cells q.2)) (hrec3 : ∀ (M : mm) (q : Int32 × mm), rec 3  M = some q → CM yX11_one cX11_one 5 (some .int) dd [.ref 82] (cells M) (some (.int q.1)) (cells q.2)) (hrec4 : ∀ (M : mm) (q : Int32 × mm), rec 4  M = some q → CM yX11_product cX11_product 4 (some .int) dd [.ref 82] (cells M) (some (.int q.1)) (cells q.2)) (hrec5 : ∀ (M : mm) (q : Int32 × mm), rec 5  M = some q → CM yX11_sums cX11_sums 4 (some .int) dd [.ref 82] (cells M) (some (.int q.1)) (cells q.2)) {r : Int32 × mm} (hr : RT g (some .int) (0, 0) (some (.int r.1)) (cells r.2)) : ∀ (n_ : Nat) (x1 : Int32) (o2 : Option Value) (M : mm), X11_either_L5 rec n_ x1 M = some r → E g (0, 0) 5 [some (.ref 82), some (.int x1), o2] [] (cells M) := by
  intro n_
  induction n_ with
  | zero => intro x1 o2 M h; exact o_no h
  | succ n_ ih =>
    intro x1 o2 M h
    rw [X11_either_L5] at h
    refine e_aload_n hg dX11_either_5 rfl ?_
    refine e_bipush (v := 124) hg dX11_either_6 (by decide) ?_
    obtain ⟨v4, M5, hc6, h⟩ := o_bd h
    refine m_callVI (rest := []) (v := v4) (M' := M5) (ci := 11) hg mfX11_takes mvX11_takes (X11_takes_ok (r := (v4, M5)) hc6) lk_1292 dX11_either_8 io_82 rfl rfl rfl (by omega) (Nat.le_of_ble_eq_true rfl) ?_
    refine e_ifeq hg 36 dX11_either_11 (by decide) (fun c7 => ?_) (fun c7 => ?_)
    · have h := o_pos c7 h
      refine e_iload_n hg dX11_either_36 rfl ?_
      exact m_iret hg hr dX11_either_37 h
    · have h := o_neg c7 h
      refine e_aload_n hg dX11_either_14 rfl ?_
      obtain ⟨v8, M9, hc10, h⟩ := o_bd h
      refine m_callVI (rest := []) (v := v8) (M' := M9) (ci := 11) hg mfX11_both mvX11_both (hrec0 _ (v8, M9) hc10) lk_1264 dX11_either_15 io_82 rfl rfl rfl (by omega) (Nat.le_of_ble_eq_true rfl) ?_
      refine e_istore_n (ls' := [some (.ref 82), some (.int x1), some (.int v8)]) hg dX11_either_18 rfl ?_
      refine e_iload_n hg dX11_either_19 rfl ?_
      refine e_ifne hg 27 dX11_either_20 (by decide) (fun c11 => ?_) (fun c11 => ?_)
      · have h := o_pos c11 h
        refine e_iload_n hg dX11_either_23 rfl ?_
        refine e_ifeq hg 31 dX11_either_24 (by decide) (fun c12 => ?_) (fun c12 => ?_)
        · have h := o_pos c12 h
          refine e_iconst (v := 0) hg dX11_either_31 (by decide) ?_
          exact X11_either_b32_ok hg hdd hrec0 hrec1 hrec2 hrec3 hrec4 hrec5 hr ih h
        · have h := o_neg c12 h
          exact X11_either_b27_ok hg hdd hrec0 hrec1 hrec2 hrec3 hrec4 hrec5 hr ih h
      · have h := o_neg c11 h
        exact X11_either_b27_ok hg hdd hrec0 hrec1 hrec2 hrec3 hrec4 hrec5 hr ih h

def X11_either_B (rec : Nat → mm → Option (Int32 × mm))  (M : mm) : Option (Int32 × mm) :=
  bd (rec 0 M) fun v1 M2 =>
  X11_either_L5 rec 10000 v1 M2
set_option maxRecDepth 100000 in
set_option maxHeartbeats 4000000 in
theorem X11_either_B_ok {dd : Nat} (hdd : 2 ≤ dd) {rec : Nat → mm → Option (Int32 × mm)} (hrec0 : ∀ (M : mm) (q : Int32 × mm), rec 0  M = some q → CM yX11_both cX11_both 3 (some .int) dd [.ref 82] (cells M) (some (.int q.1)) (cells q.2)) (hrec1 : ∀ (M : mm) (q : Int32 × mm), rec 1  M = some q → CM yX11_compared cX11_compared 4 (some .int) dd [.ref 82] (cells M) (some (.int q.1)) (cells q.2)) (hrec2 : ∀ (M : mm) (q : Int32 × mm), rec 2  M = some q → CM yX11_either cX11_either 3 (some .int) dd [.ref 82] (cells M) (some (.int q.1)) (cells q.2)) (hrec3 : ∀ (M : mm) (q : Int32 × mm), rec 3  M = some q → CM yX11_one cX11_one 5 (some .int) dd [.ref 82] (cells M) (some (.int q.1)) (cells q.2)) (hrec4 : ∀ (M : mm) (q : Int32 × mm), rec 4  M = some q → CM yX11_product cX11_product 4 (some .int) dd [.ref 82] (cells M) (some (.int q.1)) (cells q.2)) (hrec5 : ∀ (M : mm) (q : Int32 × mm), rec 5  M = some q → CM yX11_sums cX11_sums 4 (some .int) dd [.ref 82] (cells M) (some (.int q.1)) (cells q.2))  {M : mm} {r : Int32 × mm} (h : X11_either_B rec  M = some r) : CM yX11_either cX11_either 3 (some .int) (dd + 1) [.ref 82] (cells M) (some (.int r.1)) (cells r.2) := by
  refine cm_of (ls := [some (.ref 82), none, none]) mfX11_either rfl (Nat.le_of_ble_eq_true rfl) (fun g hg hr => ?_)
  unfold X11_either_B at h
  refine e_aload_n hg dX11_either_0 rfl ?_
  obtain ⟨v1, M2, hc3, h⟩ := o_bd h
  refine m_callVI (rest := []) (v := v1) (M' := M2) (ci := 11) hg mfX11_both mvX11_both (hrec0 _ (v1, M2) hc3) lk_1264 dX11_either_1 io_82 rfl rfl rfl (by omega) (Nat.le_of_ble_eq_true rfl) ?_
  refine e_istore_n (ls' := [some (.ref 82), some (.int v1), none]) hg dX11_either_4 rfl ?_
  exact X11_either_L5_ok hg hdd hrec0 hrec1 hrec2 hrec3 hrec4 hrec5 hr  10000 _ _ _ h

def X11_one_b104 (rec : Nat → mm → Option (Int32 × mm)) (x1 : Int32) (x2 : Int32) (M : mm) : Option (Int32 × mm) :=
  lt_ (sA M 82 (upd (M.1 82) 31 ((M.1 82 31) - 1))) fun M24 =>
  if x1 = 40 then
    some (x2, M24)
  else
    if x1 = 45 then
      some ((-x2), M24)
    else
      if x2 = 0 then
        some (1, M24)
      else
        some (0, M24)
set_option maxRecDepth 100000 in
set_option maxHeartbeats 4000000 in
theorem X11_one_b104_ok {dd : Nat} {g : gx} (hg : EC g cX11_one RX11 (dd + 1)) (hdd : 2 ≤ dd) {rec : Nat → mm → Option (Int32 × mm)} (hrec0 : ∀ (M : mm) (q : Int32 × mm), rec 0  M = some q → CM yX11_both cX11_both 3 (some .int) dd [.ref 82] (cells M) (some (.int q.1)) (cells q.2)) (hrec1 : ∀ (M : mm) (q : Int32 × mm), rec 1  M = some q → CM yX11_compared cX11_compared 4 (some .int) dd [.ref 82] (cells M) (some (.int q.1)) (cells q.2)) (hrec2 : ∀ (M : mm) (q : Int32 × mm), rec 2  M = some q → CM yX11_either cX11_either 3 (some .int) dd [.ref 82] (cells M) (some (.int q.1)) (cells q.2)) (hrec3 : ∀ (M : mm) (q : Int32 × mm), rec 3  M = some q → CM yX11_one cX11_one 5 (some .int) dd [.ref 82] (cells M) (some (.int q.1)) (cells q.2)) (hrec4 : ∀ (M : mm) (q : Int32 × mm), rec 4  M = some q → CM yX11_product cX11_product 4 (some .int) dd [.ref 82] (cells M) (some (.int q.1)) (cells q.2)) (hrec5 : ∀ (M : mm) (q : Int32 × mm), rec 5  M = some q → CM yX11_sums cX11_sums 4 (some .int) dd [.ref 82] (cells M) (some (.int q.1)) (cells q.2)) {r : Int32 × mm} (hr : RT g (some .int) (0, 0) (some (.int r.1)) (cells r.2)) {x1 : Int32} {x2 : Int32} {o3 : Option Value} {o4 : Option Value} {M : mm} (h : X11_one_b104 rec x1 x2 M = some r) : E g (0, 0) 104 [some (.ref 82), some (.int x1), some (.int x2), o3, o4] [] (cells M) := by
  unfold X11_one_b104 at h
  refine e_aload_n hg dX11_one_104 rfl ?_
  refine e_dup hg dX11_one_105 rfl ?_
  refine m_getI hg ciX11 31 lk_1017 dX11_one_106 io_82 (Nat.le_of_ble_eq_true rfl) rfl ?_
  refine e_iconst (v := 1) hg dX11_one_109 (by decide) ?_
  refine e_isub hg dX11_one_110 ?_
  obtain ⟨M24, hM24, h⟩ := o_lt h
  refine m_putI hg ciX11 31 lk_1017 dX11_one_111 io_82 (Nat.le_of_ble_eq_true rfl) rfl rfl rfl rfl ?_
  rw [← hM24]
  refine e_iload_n hg dX11_one_114 rfl ?_
  refine e_bipush (v := 40) hg dX11_one_115 (by decide) ?_
  refine e_icmpne hg 124 dX11_one_117 (by decide) (fun c25 => ?_) (fun c25 => ?_)
  · have h := o_pos c25 h
    refine e_iload_n hg dX11_one_120 rfl ?_
    refine e_goto hg 144 dX11_one_121 (by decide) ?_
    exact m_iret hg hr dX11_one_144 h
  · have h := o_neg c25 h
    refine e_iload_n hg dX11_one_124 rfl ?_
    refine e_bipush (v := 45) hg dX11_one_125 (by decide) ?_
    refine e_icmpne hg 135 dX11_one_127 (by decide) (fun c26 => ?_) (fun c26 => ?_)
    · have h := o_pos c26 h
      refine e_iload_n hg dX11_one_130 rfl ?_
      refine e_ineg hg dX11_one_131 ?_
      refine e_goto hg 144 dX11_one_132 (by decide) ?_
      exact m_iret hg hr dX11_one_144 h
    · have h := o_neg c26 h
      refine e_iload_n hg dX11_one_135 rfl ?_
      refine e_ifne hg 143 dX11_one_136 (by decide) (fun c27 => ?_) (fun c27 => ?_)
      · have h := o_pos c27 h
        refine e_iconst (v := 1) hg dX11_one_139 (by decide) ?_
        refine e_goto hg 144 dX11_one_140 (by decide) ?_
        exact m_iret hg hr dX11_one_144 h
      · have h := o_neg c27 h
        refine e_iconst (v := 0) hg dX11_one_143 (by decide) ?_
        exact m_iret hg hr dX11_one_144 h

def X11_one_b83 (rec : Nat → mm → Option (Int32 × mm)) (x1 : Int32) (s0 : Int32) (M : mm) : Option (Int32 × mm) :=
  if x1 = 40 then
    bd (X11_takes 41 M) fun v17 M18 =>
    if v17 = 0 then
      bd (X11_wrong M18) fun v21 M22 =>
      some (v21, M22)
    else
      X11_one_b104 rec x1 s0 M18
  else
    X11_one_b104 rec x1 s0 M
set_option maxRecDepth 100000 in
set_option maxHeartbeats 4000000 in
theorem X11_one_b83_ok {dd : Nat} {g : gx} (hg : EC g cX11_one RX11 (dd + 1)) (hdd : 2 ≤ dd) {rec : Nat → mm → Option (Int32 × mm)} (hrec0 : ∀ (M : mm) (q : Int32 × mm), rec 0  M = some q → CM yX11_both cX11_both 3 (some .int) dd [.ref 82] (cells M) (some (.int q.1)) (cells q.2)) (hrec1 : ∀ (M : mm) (q : Int32 × mm), rec 1  M = some q → CM yX11_compared cX11_compared 4 (some .int) dd [.ref 82] (cells M) (some (.int q.1)) (cells q.2)) (hrec2 : ∀ (M : mm) (q : Int32 × mm), rec 2  M = some q → CM yX11_either cX11_either 3 (some .int) dd [.ref 82] (cells M) (some (.int q.1)) (cells q.2)) (hrec3 : ∀ (M : mm) (q : Int32 × mm), rec 3  M = some q → CM yX11_one cX11_one 5 (some .int) dd [.ref 82] (cells M) (some (.int q.1)) (cells q.2)) (hrec4 : ∀ (M : mm) (q : Int32 × mm), rec 4  M = some q → CM yX11_product cX11_product 4 (some .int) dd [.ref 82] (cells M) (some (.int q.1)) (cells q.2)) (hrec5 : ∀ (M : mm) (q : Int32 × mm), rec 5  M = some q → CM yX11_sums cX11_sums 4 (some .int) dd [.ref 82] (cells M) (some (.int q.1)) (cells q.2)) {r : Int32 × mm} (hr : RT g (some .int) (0, 0) (some (.int r.1)) (cells r.2)) {x1 : Int32} {s0 : Int32} {o2 : Option Value} {o3 : Option Value} {o4 : Option Value} {M : mm} (h : X11_one_b83 rec x1 s0 M = some r) : E g (0, 0) 83 [some (.ref 82), some (.int x1), o2, o3, o4] [.int s0] (cells M) := by
  unfold X11_one_b83 at h
  refine e_istore_n (ls' := [some (.ref 82), some (.int x1), some (.int s0), o3, o4]) hg dX11_one_83 rfl ?_
  refine e_iload_n hg dX11_one_84 rfl ?_
  refine e_bipush (v := 40) hg dX11_one_85 (by decide) ?_
  refine e_icmpne hg 104 dX11_one_87 (by decide) (fun c16 => ?_) (fun c16 => ?_)
  · have h := o_pos c16 h
    refine e_aload_n hg dX11_one_90 rfl ?_
    refine e_bipush (v := 41) hg dX11_one_91 (by decide) ?_
    obtain ⟨v17, M18, hc19, h⟩ := o_bd h
    refine m_callVI (rest := []) (v := v17) (M' := M18) (ci := 11) hg mfX11_takes mvX11_takes (X11_takes_ok (r := (v17, M18)) hc19) lk_1292 dX11_one_93 io_82 rfl rfl rfl (by omega) (Nat.le_of_ble_eq_true rfl) ?_
    refine e_ifne hg 104 dX11_one_96 (by decide) (fun c20 => ?_) (fun c20 => ?_)
    · have h := o_pos c20 h
      refine e_aload_n hg dX11_one_99 rfl ?_
      obtain ⟨v21, M22, hc23, h⟩ := o_bd h
      refine m_callVI (rest := []) (v := v21) (M' := M22) (ci := 11) hg mfX11_wrong mvX11_wrong (X11_wrong_ok (r := (v21, M22)) hc23) lk_1288 dX11_one_100 io_82 rfl rfl rfl (by omega) (Nat.le_of_ble_eq_true rfl) ?_
      exact m_iret hg hr dX11_one_103 h
    · have h := o_neg c20 h
      exact X11_one_b104_ok hg hdd hrec0 hrec1 hrec2 hrec3 hrec4 hrec5 hr  h
  · have h := o_neg c16 h
    exact X11_one_b104_ok hg hdd hrec0 hrec1 hrec2 hrec3 hrec4 hrec5 hr  h

def X11_one_b32 (rec : Nat → mm → Option (Int32 × mm)) (x1 : Int32) (M : mm) : Option (Int32 × mm) :=
  if (M.1 82 31) = 6 then
    bd (X11_wrong M) fun v7 M8 =>
    some (v7, M8)
  else
    lt_ (sA M 82 (upd (M.1 82) 31 ((M.1 82 31) + 1))) fun M10 =>
    lt_ (sA M10 82 (upd (M10.1 82) 28 ((M10.1 82 28) + 1))) fun M11 =>
    if x1 = 40 then
      bd (rec 2 M11) fun v13 M14 =>
      X11_one_b83 rec x1 v13 M14
    else
      bd (rec 3 M11) fun v28 M29 =>
      X11_one_b83 rec x1 v28 M29
set_option maxRecDepth 100000 in
set_option maxHeartbeats 4000000 in
theorem X11_one_b32_ok {dd : Nat} {g : gx} (hg : EC g cX11_one RX11 (dd + 1)) (hdd : 2 ≤ dd) {rec : Nat → mm → Option (Int32 × mm)} (hrec0 : ∀ (M : mm) (q : Int32 × mm), rec 0  M = some q → CM yX11_both cX11_both 3 (some .int) dd [.ref 82] (cells M) (some (.int q.1)) (cells q.2)) (hrec1 : ∀ (M : mm) (q : Int32 × mm), rec 1  M = some q → CM yX11_compared cX11_compared 4 (some .int) dd [.ref 82] (cells M) (some (.int q.1)) (cells q.2)) (hrec2 : ∀ (M : mm) (q : Int32 × mm), rec 2  M = some q → CM yX11_either cX11_either 3 (some .int) dd [.ref 82] (cells M) (some (.int q.1)) (cells q.2)) (hrec3 : ∀ (M : mm) (q : Int32 × mm), rec 3  M = some q → CM yX11_one cX11_one 5 (some .int) dd [.ref 82] (cells M) (some (.int q.1)) (cells q.2)) (hrec4 : ∀ (M : mm) (q : Int32 × mm), rec 4  M = some q → CM yX11_product cX11_product 4 (some .int) dd [.ref 82] (cells M) (some (.int q.1)) (cells q.2)) (hrec5 : ∀ (M : mm) (q : Int32 × mm), rec 5  M = some q → CM yX11_sums cX11_sums 4 (some .int) dd [.ref 82] (cells M) (some (.int q.1)) (cells q.2)) {r : Int32 × mm} (hr : RT g (some .int) (0, 0) (some (.int r.1)) (cells r.2)) {x1 : Int32} {o2 : Option Value} {o3 : Option Value} {o4 : Option Value} {M : mm} (h : X11_one_b32 rec x1 M = some r) : E g (0, 0) 32 [some (.ref 82), some (.int x1), o2, o3, o4] [] (cells M) := by
  unfold X11_one_b32 at h
  refine e_aload_n hg dX11_one_32 rfl ?_
  refine m_getI hg ciX11 31 lk_1017 dX11_one_33 io_82 (Nat.le_of_ble_eq_true rfl) rfl ?_
  refine e_bipush (v := 6) hg dX11_one_36 (by decide) ?_
  refine e_icmpne hg 46 dX11_one_38 (by decide) (fun c6 => ?_) (fun c6 => ?_)
  · have h := o_pos c6 h
    refine e_aload_n hg dX11_one_41 rfl ?_
    obtain ⟨v7, M8, hc9, h⟩ := o_bd h
    refine m_callVI (rest := []) (v := v7) (M' := M8) (ci := 11) hg mfX11_wrong mvX11_wrong (X11_wrong_ok (r := (v7, M8)) hc9) lk_1288 dX11_one_42 io_82 rfl rfl rfl (by omega) (Nat.le_of_ble_eq_true rfl) ?_
    exact m_iret hg hr dX11_one_45 h
  · have h := o_neg c6 h
    refine e_aload_n hg dX11_one_46 rfl ?_
    refine e_dup hg dX11_one_47 rfl ?_
    refine m_getI hg ciX11 31 lk_1017 dX11_one_48 io_82 (Nat.le_of_ble_eq_true rfl) rfl ?_
    refine e_iconst (v := 1) hg dX11_one_51 (by decide) ?_
    refine e_iadd hg dX11_one_52 ?_
    obtain ⟨M10, hM10, h⟩ := o_lt h
    refine m_putI hg ciX11 31 lk_1017 dX11_one_53 io_82 (Nat.le_of_ble_eq_true rfl) rfl rfl rfl rfl ?_
    rw [← hM10]
    refine e_aload_n hg dX11_one_56 rfl ?_
    refine e_dup hg dX11_one_57 rfl ?_
    refine m_getI hg ciX11 28 lk_1014 dX11_one_58 io_82 (Nat.le_of_ble_eq_true rfl) rfl ?_
    refine e_iconst (v := 1) hg dX11_one_61 (by decide) ?_
    refine e_iadd hg dX11_one_62 ?_
    obtain ⟨M11, hM11, h⟩ := o_lt h
    refine m_putI hg ciX11 28 lk_1014 dX11_one_63 io_82 (Nat.le_of_ble_eq_true rfl) rfl rfl rfl rfl ?_
    rw [← hM11]
    refine e_iload_n hg dX11_one_66 rfl ?_
    refine e_bipush (v := 40) hg dX11_one_67 (by decide) ?_
    refine e_icmpne hg 79 dX11_one_69 (by decide) (fun c12 => ?_) (fun c12 => ?_)
    · have h := o_pos c12 h
      refine e_aload_n hg dX11_one_72 rfl ?_
      obtain ⟨v13, M14, hc15, h⟩ := o_bd h
      refine m_callVI (rest := []) (v := v13) (M' := M14) (ci := 11) hg mfX11_either mvX11_either (hrec2 _ (v13, M14) hc15) lk_1260 dX11_one_73 io_82 rfl rfl rfl (by omega) (Nat.le_of_ble_eq_true rfl) ?_
      refine e_goto hg 83 dX11_one_76 (by decide) ?_
      exact X11_one_b83_ok hg hdd hrec0 hrec1 hrec2 hrec3 hrec4 hrec5 hr  h
    · have h := o_neg c12 h
      refine e_aload_n hg dX11_one_79 rfl ?_
      obtain ⟨v28, M29, hc30, h⟩ := o_bd h
      refine m_callVI (rest := []) (v := v28) (M' := M29) (ci := 11) hg mfX11_one mvX11_one (hrec3 _ (v28, M29) hc30) lk_1280 dX11_one_80 io_82 rfl rfl rfl (by omega) (Nat.le_of_ble_eq_true rfl) ?_
      exact X11_one_b83_ok hg hdd hrec0 hrec1 hrec2 hrec3 hrec4 hrec5 hr  h

def X11_one_L176 (rec : Nat → mm → Option (Int32 × mm)) (K229 : Int32 → Int32 → mm → Option (Int32 × mm)) : Nat → Int32 → Int32 → mm → Option (Int32 × mm)
  | 0, _, _, _ => none
  | n_ + 1, x3, x4, M =>
    if x4 < 4 then
      bd (X11_byteAt M) fun v38 M39 =>
      if v38 < 48 then
        K229 x3 x4 M39
      else
        bd (X11_byteAt M39) fun v42 M43 =>
        if 57 < v42 then
          K229 x3 x4 M43
        else
          bd (X11_byteAt M43) fun v46 M47 =>
          lt_ (sA M47 82 (upd (M47.1 82) 28 ((M47.1 82 28) + 1))) fun M49 =>
          (X11_one_L176 rec K229 n_) (((10 * x3) + v46) - 48) (x4 + 1) M49
    else
      K229 x3 x4 M
set_option maxRecDepth 100000 in
set_option maxHeartbeats 4000000 in
theorem X11_one_L176_ok {dd : Nat} {g : gx} (hg : EC g cX11_one RX11 (dd + 1)) (hdd : 2 ≤ dd) {rec : Nat → mm → Option (Int32 × mm)} (hrec0 : ∀ (M : mm) (q : Int32 × mm), rec 0  M = some q → CM yX11_both cX11_both 3 (some .int) dd [.ref 82] (cells M) (some (.int q.1)) (cells q.2)) (hrec1 : ∀ (M : mm) (q : Int32 × mm), rec 1  M = some q → CM yX11_compared cX11_compared 4 (some .int) dd [.ref 82] (cells M) (some (.int q.1)) (cells q.2)) (hrec2 : ∀ (M : mm) (q : Int32 × mm), rec 2  M = some q → CM yX11_either cX11_either 3 (some .int) dd [.ref 82] (cells M) (some (.int q.1)) (cells q.2)) (hrec3 : ∀ (M : mm) (q : Int32 × mm), rec 3  M = some q → CM yX11_one cX11_one 5 (some .int) dd [.ref 82] (cells M) (some (.int q.1)) (cells q.2)) (hrec4 : ∀ (M : mm) (q : Int32 × mm), rec 4  M = some q → CM yX11_product cX11_product 4 (some .int) dd [.ref 82] (cells M) (some (.int q.1)) (cells q.2)) (hrec5 : ∀ (M : mm) (q : Int32 × mm), rec 5  M = some q → CM yX11_sums cX11_sums 4 (some .int) dd [.ref 82] (cells M) (some (.int q.1)) (cells q.2)) {r : Int32 × mm} (hr : RT g (some .int) (0, 0) (some (.int r.1)) (cells r.2)) {K229 : Int32 → Int32 → mm → Option (Int32 × mm)} (hK229 : ∀ (x3 : Int32) (x4 : Int32) (o1 : Option Value) (o2 : Option Value) (M : mm), K229 x3 x4 M = some r → E g (0, 0) 229 [some (.ref 82), o1, o2, some (.int x3), some (.int x4)] [] (cells M)) : ∀ (n_ : Nat) (x3 : Int32) (x4 : Int32) (o1 : Option Value) (o2 : Option Value) (M : mm), X11_one_L176 rec K229 n_ x3 x4 M = some r → E g (0, 0) 176 [some (.ref 82), o1, o2, some (.int x3), some (.int x4)] [] (cells M) := by
  intro n_
  induction n_ with
  | zero => intro x3 x4 o1 o2 M h; exact o_no h
  | succ n_ ih =>
    intro x3 x4 o1 o2 M h
    rw [X11_one_L176] at h
    refine e_iload hg dX11_one_176 rfl ?_
    refine e_iconst (v := 4) hg dX11_one_178 (by decide) ?_
    refine e_icmpge hg 229 dX11_one_179 (by decide) (fun c37 => ?_) (fun c37 => ?_)
    · have h := o_pos c37 h
      refine e_aload_n hg dX11_one_182 rfl ?_
      obtain ⟨v38, M39, hc40, h⟩ := o_bd h
      refine m_callVI (rest := []) (v := v38) (M' := M39) (ci := 11) hg mfX11_byteAt mvX11_byteAt (X11_byteAt_ok (r := (v38, M39)) hc40) lk_1284 dX11_one_183 io_82 rfl rfl rfl (by omega) (Nat.le_of_ble_eq_true rfl) ?_
      refine e_bipush (v := 48) hg dX11_one_186 (by decide) ?_
      refine e_icmplt hg 229 dX11_one_188 (by decide) (fun c41 => ?_) (fun c41 => ?_)
      · have h := o_pos c41 h
        exact hK229 _ _ _ _ _ h
      · have h := o_neg c41 h
        refine e_aload_n hg dX11_one_191 rfl ?_
        obtain ⟨v42, M43, hc44, h⟩ := o_bd h
        refine m_callVI (rest := []) (v := v42) (M' := M43) (ci := 11) hg mfX11_byteAt mvX11_byteAt (X11_byteAt_ok (r := (v42, M43)) hc44) lk_1284 dX11_one_192 io_82 rfl rfl rfl (by omega) (Nat.le_of_ble_eq_true rfl) ?_
        refine e_bipush (v := 57) hg dX11_one_195 (by decide) ?_
        refine e_icmpgt hg 229 dX11_one_197 (by decide) (fun c45 => ?_) (fun c45 => ?_)
        · have h := o_pos c45 h
          exact hK229 _ _ _ _ _ h
        · have h := o_neg c45 h
          refine e_bipush (v := 10) hg dX11_one_200 (by decide) ?_
          refine e_iload_n hg dX11_one_202 rfl ?_
          refine e_imul hg dX11_one_203 ?_
          refine e_aload_n hg dX11_one_204 rfl ?_
          obtain ⟨v46, M47, hc48, h⟩ := o_bd h
          refine m_callVI (rest := [.int (10 * x3)]) (v := v46) (M' := M47) (ci := 11) hg mfX11_byteAt mvX11_byteAt (X11_byteAt_ok (r := (v46, M47)) hc48) lk_1284 dX11_one_205 io_82 rfl rfl rfl (by omega) (Nat.le_of_ble_eq_true rfl) ?_
          refine e_iadd hg dX11_one_208 ?_
          refine e_bipush (v := 48) hg dX11_one_209 (by decide) ?_
          refine e_isub hg dX11_one_211 ?_
          refine e_drop (ls2 := [some (.ref 82), o1, none, some (.int x3), some (.int x4)]) 2 rfl ?_
          refine e_istore_n (ls' := [some (.ref 82), o1, none, some (.int (((10 * x3) + v46) - 48)), some (.int x4)]) hg dX11_one_212 rfl ?_
          refine e_iinc (v := (x4 + 1)) (ls' := [some (.ref 82), o1, none, some (.int (((10 * x3) + v46) - 48)), some (.int (x4 + 1))]) hg dX11_one_213 rfl rfl rfl ?_
          refine e_aload_n hg dX11_one_216 rfl ?_
          refine e_dup hg dX11_one_217 rfl ?_
          refine m_getI hg ciX11 28 lk_1014 dX11_one_218 io_82 (Nat.le_of_ble_eq_true rfl) rfl ?_
          refine e_iconst (v := 1) hg dX11_one_221 (by decide) ?_
          refine e_iadd hg dX11_one_222 ?_
          obtain ⟨M49, hM49, h⟩ := o_lt h
          refine m_putI hg ciX11 28 lk_1014 dX11_one_223 io_82 (Nat.le_of_ble_eq_true rfl) rfl rfl rfl rfl ?_
          rw [← hM49]
          refine e_goto hg 176 dX11_one_226 (by decide) ?_
          exact ih _ _ _ _ _ h
    · have h := o_neg c37 h
      exact hK229 _ _ _ _ _ h

def X11_one_b229 (rec : Nat → mm → Option (Int32 × mm)) (x3 : Int32) (x4 : Int32) (M : mm) : Option (Int32 × mm) :=
  if x4 = 0 then
    bd (X11_wrong M) fun v51 M52 =>
    some (v51, M52)
  else
    some (x3, M)
set_option maxRecDepth 100000 in
set_option maxHeartbeats 4000000 in
theorem X11_one_b229_ok {dd : Nat} {g : gx} (hg : EC g cX11_one RX11 (dd + 1)) (hdd : 2 ≤ dd) {rec : Nat → mm → Option (Int32 × mm)} (hrec0 : ∀ (M : mm) (q : Int32 × mm), rec 0  M = some q → CM yX11_both cX11_both 3 (some .int) dd [.ref 82] (cells M) (some (.int q.1)) (cells q.2)) (hrec1 : ∀ (M : mm) (q : Int32 × mm), rec 1  M = some q → CM yX11_compared cX11_compared 4 (some .int) dd [.ref 82] (cells M) (some (.int q.1)) (cells q.2)) (hrec2 : ∀ (M : mm) (q : Int32 × mm), rec 2  M = some q → CM yX11_either cX11_either 3 (some .int) dd [.ref 82] (cells M) (some (.int q.1)) (cells q.2)) (hrec3 : ∀ (M : mm) (q : Int32 × mm), rec 3  M = some q → CM yX11_one cX11_one 5 (some .int) dd [.ref 82] (cells M) (some (.int q.1)) (cells q.2)) (hrec4 : ∀ (M : mm) (q : Int32 × mm), rec 4  M = some q → CM yX11_product cX11_product 4 (some .int) dd [.ref 82] (cells M) (some (.int q.1)) (cells q.2)) (hrec5 : ∀ (M : mm) (q : Int32 × mm), rec 5  M = some q → CM yX11_sums cX11_sums 4 (some .int) dd [.ref 82] (cells M) (some (.int q.1)) (cells q.2)) {r : Int32 × mm} (hr : RT g (some .int) (0, 0) (some (.int r.1)) (cells r.2)) {x3 : Int32} {x4 : Int32} {o1 : Option Value} {o2 : Option Value} {M : mm} (h : X11_one_b229 rec x3 x4 M = some r) : E g (0, 0) 229 [some (.ref 82), o1, o2, some (.int x3), some (.int x4)] [] (cells M) := by
  unfold X11_one_b229 at h
  refine e_iload hg dX11_one_229 rfl ?_
  refine e_ifne hg 241 dX11_one_231 (by decide) (fun c50 => ?_) (fun c50 => ?_)
  · have h := o_pos c50 h
    refine e_aload_n hg dX11_one_234 rfl ?_
    obtain ⟨v51, M52, hc53, h⟩ := o_bd h
    refine m_callVI (rest := []) (v := v51) (M' := M52) (ci := 11) hg mfX11_wrong mvX11_wrong (X11_wrong_ok (r := (v51, M52)) hc53) lk_1288 dX11_one_235 io_82 rfl rfl rfl (by omega) (Nat.le_of_ble_eq_true rfl) ?_
    refine e_goto hg 242 dX11_one_238 (by decide) ?_
    exact m_iret hg hr dX11_one_242 h
  · have h := o_neg c50 h
    refine e_iload_n hg dX11_one_241 rfl ?_
    exact m_iret hg hr dX11_one_242 h

def X11_one_B (rec : Nat → mm → Option (Int32 × mm))  (M : mm) : Option (Int32 × mm) :=
  if (M.1 82 30) < 0 then
    bd (X11_byteAt M) fun v2 M3 =>
    if v2 = 33 then
      X11_one_b32 rec v2 M3
    else
      if v2 = 45 then
        X11_one_b32 rec v2 M3
      else
        if v2 = 40 then
          X11_one_b32 rec v2 M3
        else
          bd (X11_nameOf v2 M3) fun v33 M34 =>
          if v33 < 0 then
            X11_one_L176 rec (fun x3 x4 M =>
                X11_one_b229 rec x3 x4 M) 10000 0 0 M34
          else
            lt_ (sA M34 82 (upd (M34.1 82) 28 ((M34.1 82 28) + 1))) fun M54 =>
            gd (inb v33 4) <|
            some ((M54.1 100 v33.toNatClampNeg), M54)
  else
    some (0, M)
set_option maxRecDepth 100000 in
set_option maxHeartbeats 4000000 in
theorem X11_one_B_ok {dd : Nat} (hdd : 2 ≤ dd) {rec : Nat → mm → Option (Int32 × mm)} (hrec0 : ∀ (M : mm) (q : Int32 × mm), rec 0  M = some q → CM yX11_both cX11_both 3 (some .int) dd [.ref 82] (cells M) (some (.int q.1)) (cells q.2)) (hrec1 : ∀ (M : mm) (q : Int32 × mm), rec 1  M = some q → CM yX11_compared cX11_compared 4 (some .int) dd [.ref 82] (cells M) (some (.int q.1)) (cells q.2)) (hrec2 : ∀ (M : mm) (q : Int32 × mm), rec 2  M = some q → CM yX11_either cX11_either 3 (some .int) dd [.ref 82] (cells M) (some (.int q.1)) (cells q.2)) (hrec3 : ∀ (M : mm) (q : Int32 × mm), rec 3  M = some q → CM yX11_one cX11_one 5 (some .int) dd [.ref 82] (cells M) (some (.int q.1)) (cells q.2)) (hrec4 : ∀ (M : mm) (q : Int32 × mm), rec 4  M = some q → CM yX11_product cX11_product 4 (some .int) dd [.ref 82] (cells M) (some (.int q.1)) (cells q.2)) (hrec5 : ∀ (M : mm) (q : Int32 × mm), rec 5  M = some q → CM yX11_sums cX11_sums 4 (some .int) dd [.ref 82] (cells M) (some (.int q.1)) (cells q.2))  {M : mm} {r : Int32 × mm} (h : X11_one_B rec  M = some r) : CM yX11_one cX11_one 5 (some .int) (dd + 1) [.ref 82] (cells M) (some (.int r.1)) (cells r.2) := by
  refine cm_of (ls := [some (.ref 82), none, none, none, none]) mfX11_one rfl (Nat.le_of_ble_eq_true rfl) (fun g hg hr => ?_)
  unfold X11_one_B at h
  refine e_aload_n hg dX11_one_0 rfl ?_
  refine m_getI hg ciX11 30 lk_1016 dX11_one_1 io_82 (Nat.le_of_ble_eq_true rfl) rfl ?_
  refine e_iflt hg 9 dX11_one_4 (by decide) (fun c1 => ?_) (fun c1 => ?_)
  · have h := o_pos c1 h
    refine e_aload_n hg dX11_one_9 rfl ?_
    obtain ⟨v2, M3, hc4, h⟩ := o_bd h
    refine m_callVI (rest := []) (v := v2) (M' := M3) (ci := 11) hg mfX11_byteAt mvX11_byteAt (X11_byteAt_ok (r := (v2, M3)) hc4) lk_1284 dX11_one_10 io_82 rfl rfl rfl (by omega) (Nat.le_of_ble_eq_true rfl) ?_
    refine e_istore_n (ls' := [some (.ref 82), some (.int v2), none, none, none]) hg dX11_one_13 rfl ?_
    refine e_iload_n hg dX11_one_14 rfl ?_
    refine e_bipush (v := 33) hg dX11_one_15 (by decide) ?_
    refine e_icmpeq hg 32 dX11_one_17 (by decide) (fun c5 => ?_) (fun c5 => ?_)
    · have h := o_pos c5 h
      exact X11_one_b32_ok hg hdd hrec0 hrec1 hrec2 hrec3 hrec4 hrec5 hr  h
    · have h := o_neg c5 h
      refine e_iload_n hg dX11_one_20 rfl ?_
      refine e_bipush (v := 45) hg dX11_one_21 (by decide) ?_
      refine e_icmpeq hg 32 dX11_one_23 (by decide) (fun c31 => ?_) (fun c31 => ?_)
      · have h := o_pos c31 h
        exact X11_one_b32_ok hg hdd hrec0 hrec1 hrec2 hrec3 hrec4 hrec5 hr  h
      · have h := o_neg c31 h
        refine e_iload_n hg dX11_one_26 rfl ?_
        refine e_bipush (v := 40) hg dX11_one_27 (by decide) ?_
        refine e_icmpne hg 145 dX11_one_29 (by decide) (fun c32 => ?_) (fun c32 => ?_)
        · have h := o_pos c32 h
          exact X11_one_b32_ok hg hdd hrec0 hrec1 hrec2 hrec3 hrec4 hrec5 hr  h
        · have h := o_neg c32 h
          refine e_iload_n hg dX11_one_145 rfl ?_
          obtain ⟨v33, M34, hc35, h⟩ := o_bd h
          refine m_callSI (rest := []) (v := v33) (M' := M34) hg mfX11_nameOf mvX11_nameOf (X11_nameOf_ok (r := (v33, M34)) hc35) lk_1296 dX11_one_146 rfl rfl (by omega) (Nat.le_of_ble_eq_true rfl) ?_
          refine e_istore_n (ls' := [some (.ref 82), some (.int v2), some (.int v33), none, none]) hg dX11_one_149 rfl ?_
          refine e_iload_n hg dX11_one_150 rfl ?_
          refine e_iflt hg 171 dX11_one_151 (by decide) (fun c36 => ?_) (fun c36 => ?_)
          · have h := o_pos c36 h
            refine e_iconst (v := 0) hg dX11_one_171 (by decide) ?_
            refine e_istore_n (ls' := [some (.ref 82), some (.int v2), some (.int v33), some (.int 0), none]) hg dX11_one_172 rfl ?_
            refine e_iconst (v := 0) hg dX11_one_173 (by decide) ?_
            refine e_istore (ls' := [some (.ref 82), some (.int v2), some (.int v33), some (.int 0), some (.int 0)]) hg dX11_one_174 rfl ?_
            refine X11_one_L176_ok hg hdd hrec0 hrec1 hrec2 hrec3 hrec4 hrec5 hr (fun x3 x4 o1 o2 M h => ?_) 10000 _ _ _ _ _ h
            exact X11_one_b229_ok hg hdd hrec0 hrec1 hrec2 hrec3 hrec4 hrec5 hr  h
          · have h := o_neg c36 h
            refine e_aload_n hg dX11_one_154 rfl ?_
            refine e_dup hg dX11_one_155 rfl ?_
            refine m_getI hg ciX11 28 lk_1014 dX11_one_156 io_82 (Nat.le_of_ble_eq_true rfl) rfl ?_
            refine e_iconst (v := 1) hg dX11_one_159 (by decide) ?_
            refine e_iadd hg dX11_one_160 ?_
            obtain ⟨M54, hM54, h⟩ := o_lt h
            refine m_putI hg ciX11 28 lk_1014 dX11_one_161 io_82 (Nat.le_of_ble_eq_true rfl) rfl rfl rfl rfl ?_
            rw [← hM54]
            refine e_aload_n hg dX11_one_164 rfl ?_
            refine m_getR (q := 100) hg ciX11 32 lk_1018 dX11_one_165 io_82 (Nat.le_of_ble_eq_true rfl) rfl rf_82_32 ?_
            refine e_iload_n hg dX11_one_168 rfl ?_
            obtain ⟨hi55, h⟩ := o_gd h
            refine m_iald hg sh_100 hi55 dX11_one_169 ?_
            exact m_iret hg hr dX11_one_170 h
  · have h := o_neg c1 h
    refine e_iconst (v := 0) hg dX11_one_7 (by decide) ?_
    exact m_iret hg hr dX11_one_8 h

def X11_product_b85 (rec : Nat → mm → Option (Int32 × mm)) (R10 : Int32 → Int32 → mm → Option (Int32 × mm)) (s0 : Int32) (M : mm) : Option (Int32 × mm) :=
  bd (X11_byteAt M) fun v14 M15 =>
  R10 s0 v14 M15
set_option maxRecDepth 100000 in
set_option maxHeartbeats 4000000 in
theorem X11_product_b85_ok {dd : Nat} {g : gx} (hg : EC g cX11_product RX11 (dd + 1)) (hdd : 2 ≤ dd) {rec : Nat → mm → Option (Int32 × mm)} (hrec0 : ∀ (M : mm) (q : Int32 × mm), rec 0  M = some q → CM yX11_both cX11_both 3 (some .int) dd [.ref 82] (cells M) (some (.int q.1)) (cells q.2)) (hrec1 : ∀ (M : mm) (q : Int32 × mm), rec 1  M = some q → CM yX11_compared cX11_compared 4 (some .int) dd [.ref 82] (cells M) (some (.int q.1)) (cells q.2)) (hrec2 : ∀ (M : mm) (q : Int32 × mm), rec 2  M = some q → CM yX11_either cX11_either 3 (some .int) dd [.ref 82] (cells M) (some (.int q.1)) (cells q.2)) (hrec3 : ∀ (M : mm) (q : Int32 × mm), rec 3  M = some q → CM yX11_one cX11_one 5 (some .int) dd [.ref 82] (cells M) (some (.int q.1)) (cells q.2)) (hrec4 : ∀ (M : mm) (q : Int32 × mm), rec 4  M = some q → CM yX11_product cX11_product 4 (some .int) dd [.ref 82] (cells M) (some (.int q.1)) (cells q.2)) (hrec5 : ∀ (M : mm) (q : Int32 × mm), rec 5  M = some q → CM yX11_sums cX11_sums 4 (some .int) dd [.ref 82] (cells M) (some (.int q.1)) (cells q.2)) {r : Int32 × mm} (hr : RT g (some .int) (0, 0) (some (.int r.1)) (cells r.2)) {R10 : Int32 → Int32 → mm → Option (Int32 × mm)} (hR10 : ∀ (x1 : Int32) (x2 : Int32) (o3 : Option Value) (M : mm), R10 x1 x2 M = some r → E g (0, 0) 10 [some (.ref 82), some (.int x1), some (.int x2), o3] [] (cells M)) {s0 : Int32} {o1 : Option Value} {o2 : Option Value} {o3 : Option Value} {M : mm} (h : X11_product_b85 rec R10 s0 M = some r) : E g (0, 0) 85 [some (.ref 82), o1, o2, o3] [.int s0] (cells M) := by
  unfold X11_product_b85 at h
  refine e_istore_n (ls' := [some (.ref 82), some (.int s0), o2, o3]) hg dX11_product_85 rfl ?_
  refine e_aload_n hg dX11_product_86 rfl ?_
  obtain ⟨v14, M15, hc16, h⟩ := o_bd h
  refine m_callVI (rest := []) (v := v14) (M' := M15) (ci := 11) hg mfX11_byteAt mvX11_byteAt (X11_byteAt_ok (r := (v14, M15)) hc16) lk_1284 dX11_product_87 io_82 rfl rfl rfl (by omega) (Nat.le_of_ble_eq_true rfl) ?_
  refine e_istore_n (ls' := [some (.ref 82), some (.int s0), some (.int v14), o3]) hg dX11_product_90 rfl ?_
  refine e_goto hg 10 dX11_product_91 (by decide) ?_
  exact hR10 _ _ _ _ h

def X11_product_b35 (rec : Nat → mm → Option (Int32 × mm)) (R10 : Int32 → Int32 → mm → Option (Int32 × mm)) (x1 : Int32) (x2 : Int32) (M : mm) : Option (Int32 × mm) :=
  lt_ (sA M 82 (upd (M.1 82) 28 ((M.1 82 28) + 1))) fun M9 =>
  bd (rec 3 M9) fun v10 M11 =>
  if x2 = 42 then
    X11_product_b85 rec R10 (x1 * v10) M11
  else
    if v10 = 0 then
      X11_product_b85 rec R10 0 M11
    else
      if x2 = 47 then
        gd (decide (¬ v10 = 0)) <|
        X11_product_b85 rec R10 (x1 / v10) M11
      else
        gd (decide (¬ v10 = 0)) <|
        X11_product_b85 rec R10 (x1 - x1 / v10 * v10) M11
set_option maxRecDepth 100000 in
set_option maxHeartbeats 4000000 in
theorem X11_product_b35_ok {dd : Nat} {g : gx} (hg : EC g cX11_product RX11 (dd + 1)) (hdd : 2 ≤ dd) {rec : Nat → mm → Option (Int32 × mm)} (hrec0 : ∀ (M : mm) (q : Int32 × mm), rec 0  M = some q → CM yX11_both cX11_both 3 (some .int) dd [.ref 82] (cells M) (some (.int q.1)) (cells q.2)) (hrec1 : ∀ (M : mm) (q : Int32 × mm), rec 1  M = some q → CM yX11_compared cX11_compared 4 (some .int) dd [.ref 82] (cells M) (some (.int q.1)) (cells q.2)) (hrec2 : ∀ (M : mm) (q : Int32 × mm), rec 2  M = some q → CM yX11_either cX11_either 3 (some .int) dd [.ref 82] (cells M) (some (.int q.1)) (cells q.2)) (hrec3 : ∀ (M : mm) (q : Int32 × mm), rec 3  M = some q → CM yX11_one cX11_one 5 (some .int) dd [.ref 82] (cells M) (some (.int q.1)) (cells q.2)) (hrec4 : ∀ (M : mm) (q : Int32 × mm), rec 4  M = some q → CM yX11_product cX11_product 4 (some .int) dd [.ref 82] (cells M) (some (.int q.1)) (cells q.2)) (hrec5 : ∀ (M : mm) (q : Int32 × mm), rec 5  M = some q → CM yX11_sums cX11_sums 4 (some .int) dd [.ref 82] (cells M) (some (.int q.1)) (cells q.2)) {r : Int32 × mm} (hr : RT g (some .int) (0, 0) (some (.int r.1)) (cells r.2)) {R10 : Int32 → Int32 → mm → Option (Int32 × mm)} (hR10 : ∀ (x1 : Int32) (x2 : Int32) (o3 : Option Value) (M : mm), R10 x1 x2 M = some r → E g (0, 0) 10 [some (.ref 82), some (.int x1), some (.int x2), o3] [] (cells M)) {x1 : Int32} {x2 : Int32} {o3 : Option Value} {M : mm} (h : X11_product_b35 rec R10 x1 x2 M = some r) : E g (0, 0) 35 [some (.ref 82), some (.int x1), some (.int x2), o3] [] (cells M) := by
  unfold X11_product_b35 at h
  refine e_aload_n hg dX11_product_35 rfl ?_
  refine e_dup hg dX11_product_36 rfl ?_
  refine m_getI hg ciX11 28 lk_1014 dX11_product_37 io_82 (Nat.le_of_ble_eq_true rfl) rfl ?_
  refine e_iconst (v := 1) hg dX11_product_40 (by decide) ?_
  refine e_iadd hg dX11_product_41 ?_
  obtain ⟨M9, hM9, h⟩ := o_lt h
  refine m_putI hg ciX11 28 lk_1014 dX11_product_42 io_82 (Nat.le_of_ble_eq_true rfl) rfl rfl rfl rfl ?_
  rw [← hM9]
  refine e_aload_n hg dX11_product_45 rfl ?_
  obtain ⟨v10, M11, hc12, h⟩ := o_bd h
  refine m_callVI (rest := []) (v := v10) (M' := M11) (ci := 11) hg mfX11_one mvX11_one (hrec3 _ (v10, M11) hc12) lk_1280 dX11_product_46 io_82 rfl rfl rfl (by omega) (Nat.le_of_ble_eq_true rfl) ?_
  refine e_istore_n (ls' := [some (.ref 82), some (.int x1), some (.int x2), some (.int v10)]) hg dX11_product_49 rfl ?_
  refine e_iload_n hg dX11_product_50 rfl ?_
  refine e_bipush (v := 42) hg dX11_product_51 (by decide) ?_
  refine e_icmpne hg 62 dX11_product_53 (by decide) (fun c13 => ?_) (fun c13 => ?_)
  · have h := o_pos c13 h
    refine e_iload_n hg dX11_product_56 rfl ?_
    refine e_iload_n hg dX11_product_57 rfl ?_
    refine e_imul hg dX11_product_58 ?_
    refine e_goto hg 85 dX11_product_59 (by decide) ?_
    exact X11_product_b85_ok hg hdd hrec0 hrec1 hrec2 hrec3 hrec4 hrec5 hr hR10 h
  · have h := o_neg c13 h
    refine e_iload_n hg dX11_product_62 rfl ?_
    refine e_ifne hg 70 dX11_product_63 (by decide) (fun c17 => ?_) (fun c17 => ?_)
    · have h := o_pos c17 h
      refine e_iconst (v := 0) hg dX11_product_66 (by decide) ?_
      refine e_goto hg 85 dX11_product_67 (by decide) ?_
      exact X11_product_b85_ok hg hdd hrec0 hrec1 hrec2 hrec3 hrec4 hrec5 hr hR10 h
    · have h := o_neg c17 h
      refine e_iload_n hg dX11_product_70 rfl ?_
      refine e_bipush (v := 47) hg dX11_product_71 (by decide) ?_
      refine e_icmpne hg 82 dX11_product_73 (by decide) (fun c18 => ?_) (fun c18 => ?_)
      · have h := o_pos c18 h
        refine e_iload_n hg dX11_product_76 rfl ?_
        refine e_iload_n hg dX11_product_77 rfl ?_
        obtain ⟨hz19, h⟩ := o_gd h
        refine e_idiv hg dX11_product_78 (of_decide_eq_true hz19) ?_
        refine e_goto hg 85 dX11_product_79 (by decide) ?_
        exact X11_product_b85_ok hg hdd hrec0 hrec1 hrec2 hrec3 hrec4 hrec5 hr hR10 h
      · have h := o_neg c18 h
        refine e_iload_n hg dX11_product_82 rfl ?_
        refine e_iload_n hg dX11_product_83 rfl ?_
        obtain ⟨hz20, h⟩ := o_gd h
        refine e_irem hg dX11_product_84 (of_decide_eq_true hz20) ?_
        exact X11_product_b85_ok hg hdd hrec0 hrec1 hrec2 hrec3 hrec4 hrec5 hr hR10 h

def X11_product_L10 (rec : Nat → mm → Option (Int32 × mm)) : Nat → Int32 → Int32 → mm → Option (Int32 × mm)
  | 0, _, _, _ => none
  | n_ + 1, x1, x2, M =>
    if (M.1 82 30) < 0 then
      if x2 = 42 then
        X11_product_b35 rec (X11_product_L10 rec n_) x1 x2 M
      else
        if x2 = 47 then
          X11_product_b35 rec (X11_product_L10 rec n_) x1 x2 M
        else
          if x2 = 37 then
            X11_product_b35 rec (X11_product_L10 rec n_) x1 x2 M
          else
            some (x1, M)
    else
      some (x1, M)
set_option maxRecDepth 100000 in
set_option maxHeartbeats 4000000 in
theorem X11_product_L10_ok {dd : Nat} {g : gx} (hg : EC g cX11_product RX11 (dd + 1)) (hdd : 2 ≤ dd) {rec : Nat → mm → Option (Int32 × mm)} (hrec0 : ∀ (M : mm) (q : Int32 × mm), rec 0  M = some q → CM yX11_both cX11_both 3 (some .int) dd [.ref 82] (cells M) (some (.int q.1)) (cells q.2)) (hrec1 : ∀ (M : mm) (q : Int32 × mm), rec 1  M = some q → CM yX11_compared cX11_compared 4 (some .int) dd [.ref 82] (cells M) (some (.int q.1)) (cells q.2)) (hrec2 : ∀ (M : mm) (q : Int32 × mm), rec 2  M = some q → CM yX11_either cX11_either 3 (some .int) dd [.ref 82] (cells M) (some (.int q.1)) (cells q.2)) (hrec3 : ∀ (M : mm) (q : Int32 × mm), rec 3  M = some q → CM yX11_one cX11_one 5 (some .int) dd [.ref 82] (cells M) (some (.int q.1)) (cells q.2)) (hrec4 : ∀ (M : mm) (q : Int32 × mm), rec 4  M = some q → CM yX11_product cX11_product 4 (some .int) dd [.ref 82] (cells M) (some (.int q.1)) (cells q.2)) (hrec5 : ∀ (M : mm) (q : Int32 × mm), rec 5  M = some q → CM yX11_sums cX11_sums 4 (some .int) dd [.ref 82] (cells M) (some (.int q.1)) (cells q.2)) {r : Int32 × mm} (hr : RT g (some .int) (0, 0) (some (.int r.1)) (cells r.2)) : ∀ (n_ : Nat) (x1 : Int32) (x2 : Int32) (o3 : Option Value) (M : mm), X11_product_L10 rec n_ x1 x2 M = some r → E g (0, 0) 10 [some (.ref 82), some (.int x1), some (.int x2), o3] [] (cells M) := by
  intro n_
  induction n_ with
  | zero => intro x1 x2 o3 M h; exact o_no h
  | succ n_ ih =>
    intro x1 x2 o3 M h
    rw [X11_product_L10] at h
    refine e_aload_n hg dX11_product_10 rfl ?_
    refine m_getI hg ciX11 30 lk_1016 dX11_product_11 io_82 (Nat.le_of_ble_eq_true rfl) rfl ?_
    refine e_ifge hg 94 dX11_product_14 (by decide) (fun c7 => ?_) (fun c7 => ?_)
    · have h := o_pos c7 h
      refine e_iload_n hg dX11_product_17 rfl ?_
      refine e_bipush (v := 42) hg dX11_product_18 (by decide) ?_
      refine e_icmpeq hg 35 dX11_product_20 (by decide) (fun c8 => ?_) (fun c8 => ?_)
      · have h := o_pos c8 h
        exact X11_product_b35_ok hg hdd hrec0 hrec1 hrec2 hrec3 hrec4 hrec5 hr ih h
      · have h := o_neg c8 h
        refine e_iload_n hg dX11_product_23 rfl ?_
        refine e_bipush (v := 47) hg dX11_product_24 (by decide) ?_
        refine e_icmpeq hg 35 dX11_product_26 (by decide) (fun c21 => ?_) (fun c21 => ?_)
        · have h := o_pos c21 h
          exact X11_product_b35_ok hg hdd hrec0 hrec1 hrec2 hrec3 hrec4 hrec5 hr ih h
        · have h := o_neg c21 h
          refine e_iload_n hg dX11_product_29 rfl ?_
          refine e_bipush (v := 37) hg dX11_product_30 (by decide) ?_
          refine e_icmpne hg 94 dX11_product_32 (by decide) (fun c22 => ?_) (fun c22 => ?_)
          · have h := o_pos c22 h
            exact X11_product_b35_ok hg hdd hrec0 hrec1 hrec2 hrec3 hrec4 hrec5 hr ih h
          · have h := o_neg c22 h
            refine e_iload_n hg dX11_product_94 rfl ?_
            exact m_iret hg hr dX11_product_95 h
    · have h := o_neg c7 h
      refine e_iload_n hg dX11_product_94 rfl ?_
      exact m_iret hg hr dX11_product_95 h

def X11_product_B (rec : Nat → mm → Option (Int32 × mm))  (M : mm) : Option (Int32 × mm) :=
  bd (rec 3 M) fun v1 M2 =>
  bd (X11_byteAt M2) fun v4 M5 =>
  X11_product_L10 rec 10000 v1 v4 M5
set_option maxRecDepth 100000 in
set_option maxHeartbeats 4000000 in
theorem X11_product_B_ok {dd : Nat} (hdd : 2 ≤ dd) {rec : Nat → mm → Option (Int32 × mm)} (hrec0 : ∀ (M : mm) (q : Int32 × mm), rec 0  M = some q → CM yX11_both cX11_both 3 (some .int) dd [.ref 82] (cells M) (some (.int q.1)) (cells q.2)) (hrec1 : ∀ (M : mm) (q : Int32 × mm), rec 1  M = some q → CM yX11_compared cX11_compared 4 (some .int) dd [.ref 82] (cells M) (some (.int q.1)) (cells q.2)) (hrec2 : ∀ (M : mm) (q : Int32 × mm), rec 2  M = some q → CM yX11_either cX11_either 3 (some .int) dd [.ref 82] (cells M) (some (.int q.1)) (cells q.2)) (hrec3 : ∀ (M : mm) (q : Int32 × mm), rec 3  M = some q → CM yX11_one cX11_one 5 (some .int) dd [.ref 82] (cells M) (some (.int q.1)) (cells q.2)) (hrec4 : ∀ (M : mm) (q : Int32 × mm), rec 4  M = some q → CM yX11_product cX11_product 4 (some .int) dd [.ref 82] (cells M) (some (.int q.1)) (cells q.2)) (hrec5 : ∀ (M : mm) (q : Int32 × mm), rec 5  M = some q → CM yX11_sums cX11_sums 4 (some .int) dd [.ref 82] (cells M) (some (.int q.1)) (cells q.2))  {M : mm} {r : Int32 × mm} (h : X11_product_B rec  M = some r) : CM yX11_product cX11_product 4 (some .int) (dd + 1) [.ref 82] (cells M) (some (.int r.1)) (cells r.2) := by
  refine cm_of (ls := [some (.ref 82), none, none, none]) mfX11_product rfl (Nat.le_of_ble_eq_true rfl) (fun g hg hr => ?_)
  unfold X11_product_B at h
  refine e_aload_n hg dX11_product_0 rfl ?_
  obtain ⟨v1, M2, hc3, h⟩ := o_bd h
  refine m_callVI (rest := []) (v := v1) (M' := M2) (ci := 11) hg mfX11_one mvX11_one (hrec3 _ (v1, M2) hc3) lk_1280 dX11_product_1 io_82 rfl rfl rfl (by omega) (Nat.le_of_ble_eq_true rfl) ?_
  refine e_istore_n (ls' := [some (.ref 82), some (.int v1), none, none]) hg dX11_product_4 rfl ?_
  refine e_aload_n hg dX11_product_5 rfl ?_
  obtain ⟨v4, M5, hc6, h⟩ := o_bd h
  refine m_callVI (rest := []) (v := v4) (M' := M5) (ci := 11) hg mfX11_byteAt mvX11_byteAt (X11_byteAt_ok (r := (v4, M5)) hc6) lk_1284 dX11_product_6 io_82 rfl rfl rfl (by omega) (Nat.le_of_ble_eq_true rfl) ?_
  refine e_istore_n (ls' := [some (.ref 82), some (.int v1), some (.int v4), none]) hg dX11_product_9 rfl ?_
  exact X11_product_L10_ok hg hdd hrec0 hrec1 hrec2 hrec3 hrec4 hrec5 hr  10000 _ _ _ _ h

def X11_sums_b73 (rec : Nat → mm → Option (Int32 × mm)) (R5 : Int32 → mm → Option (Int32 × mm)) (s0 : Int32) (M : mm) : Option (Int32 × mm) :=
  R5 s0 M
set_option maxRecDepth 100000 in
set_option maxHeartbeats 4000000 in
theorem X11_sums_b73_ok {dd : Nat} {g : gx} (hg : EC g cX11_sums RX11 (dd + 1)) (hdd : 2 ≤ dd) {rec : Nat → mm → Option (Int32 × mm)} (hrec0 : ∀ (M : mm) (q : Int32 × mm), rec 0  M = some q → CM yX11_both cX11_both 3 (some .int) dd [.ref 82] (cells M) (some (.int q.1)) (cells q.2)) (hrec1 : ∀ (M : mm) (q : Int32 × mm), rec 1  M = some q → CM yX11_compared cX11_compared 4 (some .int) dd [.ref 82] (cells M) (some (.int q.1)) (cells q.2)) (hrec2 : ∀ (M : mm) (q : Int32 × mm), rec 2  M = some q → CM yX11_either cX11_either 3 (some .int) dd [.ref 82] (cells M) (some (.int q.1)) (cells q.2)) (hrec3 : ∀ (M : mm) (q : Int32 × mm), rec 3  M = some q → CM yX11_one cX11_one 5 (some .int) dd [.ref 82] (cells M) (some (.int q.1)) (cells q.2)) (hrec4 : ∀ (M : mm) (q : Int32 × mm), rec 4  M = some q → CM yX11_product cX11_product 4 (some .int) dd [.ref 82] (cells M) (some (.int q.1)) (cells q.2)) (hrec5 : ∀ (M : mm) (q : Int32 × mm), rec 5  M = some q → CM yX11_sums cX11_sums 4 (some .int) dd [.ref 82] (cells M) (some (.int q.1)) (cells q.2)) {r : Int32 × mm} (hr : RT g (some .int) (0, 0) (some (.int r.1)) (cells r.2)) {R5 : Int32 → mm → Option (Int32 × mm)} (hR5 : ∀ (x1 : Int32) (o2 : Option Value) (o3 : Option Value) (M : mm), R5 x1 M = some r → E g (0, 0) 5 [some (.ref 82), some (.int x1), o2, o3] [] (cells M)) {s0 : Int32} {o1 : Option Value} {o2 : Option Value} {o3 : Option Value} {M : mm} (h : X11_sums_b73 rec R5 s0 M = some r) : E g (0, 0) 73 [some (.ref 82), o1, o2, o3] [.int s0] (cells M) := by
  unfold X11_sums_b73 at h
  refine e_istore_n (ls' := [some (.ref 82), some (.int s0), o2, o3]) hg dX11_sums_73 rfl ?_
  refine e_goto hg 5 dX11_sums_74 (by decide) ?_
  exact hR5 _ _ _ _ h

def X11_sums_b44 (rec : Nat → mm → Option (Int32 × mm)) (R5 : Int32 → mm → Option (Int32 × mm)) (x1 : Int32) (s0 : Int32) (M : mm) : Option (Int32 × mm) :=
  lt_ (sA M 82 (upd (M.1 82) 28 ((M.1 82 28) + 1))) fun M13 =>
  bd (rec 4 M13) fun v14 M15 =>
  X11_sums_b73 rec R5 (if s0 = 0 then (x1 - v14) else (x1 + v14)) M15
set_option maxRecDepth 100000 in
set_option maxHeartbeats 4000000 in
theorem X11_sums_b44_ok {dd : Nat} {g : gx} (hg : EC g cX11_sums RX11 (dd + 1)) (hdd : 2 ≤ dd) {rec : Nat → mm → Option (Int32 × mm)} (hrec0 : ∀ (M : mm) (q : Int32 × mm), rec 0  M = some q → CM yX11_both cX11_both 3 (some .int) dd [.ref 82] (cells M) (some (.int q.1)) (cells q.2)) (hrec1 : ∀ (M : mm) (q : Int32 × mm), rec 1  M = some q → CM yX11_compared cX11_compared 4 (some .int) dd [.ref 82] (cells M) (some (.int q.1)) (cells q.2)) (hrec2 : ∀ (M : mm) (q : Int32 × mm), rec 2  M = some q → CM yX11_either cX11_either 3 (some .int) dd [.ref 82] (cells M) (some (.int q.1)) (cells q.2)) (hrec3 : ∀ (M : mm) (q : Int32 × mm), rec 3  M = some q → CM yX11_one cX11_one 5 (some .int) dd [.ref 82] (cells M) (some (.int q.1)) (cells q.2)) (hrec4 : ∀ (M : mm) (q : Int32 × mm), rec 4  M = some q → CM yX11_product cX11_product 4 (some .int) dd [.ref 82] (cells M) (some (.int q.1)) (cells q.2)) (hrec5 : ∀ (M : mm) (q : Int32 × mm), rec 5  M = some q → CM yX11_sums cX11_sums 4 (some .int) dd [.ref 82] (cells M) (some (.int q.1)) (cells q.2)) {r : Int32 × mm} (hr : RT g (some .int) (0, 0) (some (.int r.1)) (cells r.2)) {R5 : Int32 → mm → Option (Int32 × mm)} (hR5 : ∀ (x1 : Int32) (o2 : Option Value) (o3 : Option Value) (M : mm), R5 x1 M = some r → E g (0, 0) 5 [some (.ref 82), some (.int x1), o2, o3] [] (cells M)) {x1 : Int32} {s0 : Int32} {o2 : Option Value} {o3 : Option Value} {M : mm} (h : X11_sums_b44 rec R5 x1 s0 M = some r) : E g (0, 0) 44 [some (.ref 82), some (.int x1), o2, o3] [.int s0] (cells M) := by
  unfold X11_sums_b44 at h
  refine e_istore_n (ls' := [some (.ref 82), some (.int x1), some (.int s0), o3]) hg dX11_sums_44 rfl ?_
  refine e_aload_n hg dX11_sums_45 rfl ?_
  refine e_dup hg dX11_sums_46 rfl ?_
  refine m_getI hg ciX11 28 lk_1014 dX11_sums_47 io_82 (Nat.le_of_ble_eq_true rfl) rfl ?_
  refine e_iconst (v := 1) hg dX11_sums_50 (by decide) ?_
  refine e_iadd hg dX11_sums_51 ?_
  obtain ⟨M13, hM13, h⟩ := o_lt h
  refine m_putI hg ciX11 28 lk_1014 dX11_sums_52 io_82 (Nat.le_of_ble_eq_true rfl) rfl rfl rfl rfl ?_
  rw [← hM13]
  refine e_aload_n hg dX11_sums_55 rfl ?_
  obtain ⟨v14, M15, hc16, h⟩ := o_bd h
  refine m_callVI (rest := []) (v := v14) (M' := M15) (ci := 11) hg mfX11_product mvX11_product (hrec4 _ (v14, M15) hc16) lk_1276 dX11_sums_56 io_82 rfl rfl rfl (by omega) (Nat.le_of_ble_eq_true rfl) ?_
  refine e_istore_n (ls' := [some (.ref 82), some (.int x1), some (.int s0), some (.int v14)]) hg dX11_sums_59 rfl ?_
  refine e_iload_n hg dX11_sums_60 rfl ?_
  refine e_ifeq hg 70 dX11_sums_61 (by decide) (fun c17 => ?_) (fun c17 => ?_)
  · simp only [if_pos c17] at h
    refine e_iload_n hg dX11_sums_70 rfl ?_
    refine e_iload_n hg dX11_sums_71 rfl ?_
    refine e_isub hg dX11_sums_72 ?_
    exact X11_sums_b73_ok hg hdd hrec0 hrec1 hrec2 hrec3 hrec4 hrec5 hr hR5 h
  · simp only [if_neg c17] at h
    refine e_iload_n hg dX11_sums_64 rfl ?_
    refine e_iload_n hg dX11_sums_65 rfl ?_
    refine e_iadd hg dX11_sums_66 ?_
    refine e_goto hg 73 dX11_sums_67 (by decide) ?_
    exact X11_sums_b73_ok hg hdd hrec0 hrec1 hrec2 hrec3 hrec4 hrec5 hr hR5 h

def X11_sums_b30 (rec : Nat → mm → Option (Int32 × mm)) (R5 : Int32 → mm → Option (Int32 × mm)) (x1 : Int32) (M : mm) : Option (Int32 × mm) :=
  bd (X11_byteAt M) fun v9 M10 =>
  X11_sums_b44 rec R5 x1 (if v9 = 43 then 1 else 0) M10
set_option maxRecDepth 100000 in
set_option maxHeartbeats 4000000 in
theorem X11_sums_b30_ok {dd : Nat} {g : gx} (hg : EC g cX11_sums RX11 (dd + 1)) (hdd : 2 ≤ dd) {rec : Nat → mm → Option (Int32 × mm)} (hrec0 : ∀ (M : mm) (q : Int32 × mm), rec 0  M = some q → CM yX11_both cX11_both 3 (some .int) dd [.ref 82] (cells M) (some (.int q.1)) (cells q.2)) (hrec1 : ∀ (M : mm) (q : Int32 × mm), rec 1  M = some q → CM yX11_compared cX11_compared 4 (some .int) dd [.ref 82] (cells M) (some (.int q.1)) (cells q.2)) (hrec2 : ∀ (M : mm) (q : Int32 × mm), rec 2  M = some q → CM yX11_either cX11_either 3 (some .int) dd [.ref 82] (cells M) (some (.int q.1)) (cells q.2)) (hrec3 : ∀ (M : mm) (q : Int32 × mm), rec 3  M = some q → CM yX11_one cX11_one 5 (some .int) dd [.ref 82] (cells M) (some (.int q.1)) (cells q.2)) (hrec4 : ∀ (M : mm) (q : Int32 × mm), rec 4  M = some q → CM yX11_product cX11_product 4 (some .int) dd [.ref 82] (cells M) (some (.int q.1)) (cells q.2)) (hrec5 : ∀ (M : mm) (q : Int32 × mm), rec 5  M = some q → CM yX11_sums cX11_sums 4 (some .int) dd [.ref 82] (cells M) (some (.int q.1)) (cells q.2)) {r : Int32 × mm} (hr : RT g (some .int) (0, 0) (some (.int r.1)) (cells r.2)) {R5 : Int32 → mm → Option (Int32 × mm)} (hR5 : ∀ (x1 : Int32) (o2 : Option Value) (o3 : Option Value) (M : mm), R5 x1 M = some r → E g (0, 0) 5 [some (.ref 82), some (.int x1), o2, o3] [] (cells M)) {x1 : Int32} {o2 : Option Value} {o3 : Option Value} {M : mm} (h : X11_sums_b30 rec R5 x1 M = some r) : E g (0, 0) 30 [some (.ref 82), some (.int x1), o2, o3] [] (cells M) := by
  unfold X11_sums_b30 at h
  refine e_aload_n hg dX11_sums_30 rfl ?_
  obtain ⟨v9, M10, hc11, h⟩ := o_bd h
  refine m_callVI (rest := []) (v := v9) (M' := M10) (ci := 11) hg mfX11_byteAt mvX11_byteAt (X11_byteAt_ok (r := (v9, M10)) hc11) lk_1284 dX11_sums_31 io_82 rfl rfl rfl (by omega) (Nat.le_of_ble_eq_true rfl) ?_
  refine e_bipush (v := 43) hg dX11_sums_34 (by decide) ?_
  refine e_icmpne hg 43 dX11_sums_36 (by decide) (fun c12 => ?_) (fun c12 => ?_)
  · simp only [if_pos c12] at h
    refine e_iconst (v := 1) hg dX11_sums_39 (by decide) ?_
    refine e_goto hg 44 dX11_sums_40 (by decide) ?_
    exact X11_sums_b44_ok hg hdd hrec0 hrec1 hrec2 hrec3 hrec4 hrec5 hr hR5 h
  · simp only [if_neg c12] at h
    refine e_iconst (v := 0) hg dX11_sums_43 (by decide) ?_
    exact X11_sums_b44_ok hg hdd hrec0 hrec1 hrec2 hrec3 hrec4 hrec5 hr hR5 h

def X11_sums_L5 (rec : Nat → mm → Option (Int32 × mm)) : Nat → Int32 → mm → Option (Int32 × mm)
  | 0, _, _ => none
  | n_ + 1, x1, M =>
    if (M.1 82 30) < 0 then
      bd (X11_byteAt M) fun v5 M6 =>
      if v5 = 43 then
        X11_sums_b30 rec (X11_sums_L5 rec n_) x1 M6
      else
        bd (X11_byteAt M6) fun v18 M19 =>
        if v18 = 45 then
          X11_sums_b30 rec (X11_sums_L5 rec n_) x1 M19
        else
          some (x1, M19)
    else
      some (x1, M)
set_option maxRecDepth 100000 in
set_option maxHeartbeats 4000000 in
theorem X11_sums_L5_ok {dd : Nat} {g : gx} (hg : EC g cX11_sums RX11 (dd + 1)) (hdd : 2 ≤ dd) {rec : Nat → mm → Option (Int32 × mm)} (hrec0 : ∀ (M : mm) (q : Int32 × mm), rec 0  M = some q → CM yX11_both cX11_both 3 (some .int) dd [.ref 82] (cells M) (some (.int q.1)) (cells q.2)) (hrec1 : ∀ (M : mm) (q : Int32 × mm), rec 1  M = some q → CM yX11_compared cX11_compared 4 (some .int) dd [.ref 82] (cells M) (some (.int q.1)) (cells q.2)) (hrec2 : ∀ (M : mm) (q : Int32 × mm), rec 2  M = some q → CM yX11_either cX11_either 3 (some .int) dd [.ref 82] (cells M) (some (.int q.1)) (cells q.2)) (hrec3 : ∀ (M : mm) (q : Int32 × mm), rec 3  M = some q → CM yX11_one cX11_one 5 (some .int) dd [.ref 82] (cells M) (some (.int q.1)) (cells q.2)) (hrec4 : ∀ (M : mm) (q : Int32 × mm), rec 4  M = some q → CM yX11_product cX11_product 4 (some .int) dd [.ref 82] (cells M) (some (.int q.1)) (cells q.2)) (hrec5 : ∀ (M : mm) (q : Int32 × mm), rec 5  M = some q → CM yX11_sums cX11_sums 4 (some .int) dd [.ref 82] (cells M) (some (.int q.1)) (cells q.2)) {r : Int32 × mm} (hr : RT g (some .int) (0, 0) (some (.int r.1)) (cells r.2)) : ∀ (n_ : Nat) (x1 : Int32) (o2 : Option Value) (o3 : Option Value) (M : mm), X11_sums_L5 rec n_ x1 M = some r → E g (0, 0) 5 [some (.ref 82), some (.int x1), o2, o3] [] (cells M) := by
  intro n_
  induction n_ with
  | zero => intro x1 o2 o3 M h; exact o_no h
  | succ n_ ih =>
    intro x1 o2 o3 M h
    rw [X11_sums_L5] at h
    refine e_aload_n hg dX11_sums_5 rfl ?_
    refine m_getI hg ciX11 30 lk_1016 dX11_sums_6 io_82 (Nat.le_of_ble_eq_true rfl) rfl ?_
    refine e_ifge hg 77 dX11_sums_9 (by decide) (fun c4 => ?_) (fun c4 => ?_)
    · have h := o_pos c4 h
      refine e_aload_n hg dX11_sums_12 rfl ?_
      obtain ⟨v5, M6, hc7, h⟩ := o_bd h
      refine m_callVI (rest := []) (v := v5) (M' := M6) (ci := 11) hg mfX11_byteAt mvX11_byteAt (X11_byteAt_ok (r := (v5, M6)) hc7) lk_1284 dX11_sums_13 io_82 rfl rfl rfl (by omega) (Nat.le_of_ble_eq_true rfl) ?_
      refine e_bipush (v := 43) hg dX11_sums_16 (by decide) ?_
      refine e_icmpeq hg 30 dX11_sums_18 (by decide) (fun c8 => ?_) (fun c8 => ?_)
      · have h := o_pos c8 h
        exact X11_sums_b30_ok hg hdd hrec0 hrec1 hrec2 hrec3 hrec4 hrec5 hr ih h
      · have h := o_neg c8 h
        refine e_aload_n hg dX11_sums_21 rfl ?_
        obtain ⟨v18, M19, hc20, h⟩ := o_bd h
        refine m_callVI (rest := []) (v := v18) (M' := M19) (ci := 11) hg mfX11_byteAt mvX11_byteAt (X11_byteAt_ok (r := (v18, M19)) hc20) lk_1284 dX11_sums_22 io_82 rfl rfl rfl (by omega) (Nat.le_of_ble_eq_true rfl) ?_
        refine e_bipush (v := 45) hg dX11_sums_25 (by decide) ?_
        refine e_icmpne hg 77 dX11_sums_27 (by decide) (fun c21 => ?_) (fun c21 => ?_)
        · have h := o_pos c21 h
          exact X11_sums_b30_ok hg hdd hrec0 hrec1 hrec2 hrec3 hrec4 hrec5 hr ih h
        · have h := o_neg c21 h
          refine e_iload_n hg dX11_sums_77 rfl ?_
          exact m_iret hg hr dX11_sums_78 h
    · have h := o_neg c4 h
      refine e_iload_n hg dX11_sums_77 rfl ?_
      exact m_iret hg hr dX11_sums_78 h

def X11_sums_B (rec : Nat → mm → Option (Int32 × mm))  (M : mm) : Option (Int32 × mm) :=
  bd (rec 4 M) fun v1 M2 =>
  X11_sums_L5 rec 10000 v1 M2
set_option maxRecDepth 100000 in
set_option maxHeartbeats 4000000 in
theorem X11_sums_B_ok {dd : Nat} (hdd : 2 ≤ dd) {rec : Nat → mm → Option (Int32 × mm)} (hrec0 : ∀ (M : mm) (q : Int32 × mm), rec 0  M = some q → CM yX11_both cX11_both 3 (some .int) dd [.ref 82] (cells M) (some (.int q.1)) (cells q.2)) (hrec1 : ∀ (M : mm) (q : Int32 × mm), rec 1  M = some q → CM yX11_compared cX11_compared 4 (some .int) dd [.ref 82] (cells M) (some (.int q.1)) (cells q.2)) (hrec2 : ∀ (M : mm) (q : Int32 × mm), rec 2  M = some q → CM yX11_either cX11_either 3 (some .int) dd [.ref 82] (cells M) (some (.int q.1)) (cells q.2)) (hrec3 : ∀ (M : mm) (q : Int32 × mm), rec 3  M = some q → CM yX11_one cX11_one 5 (some .int) dd [.ref 82] (cells M) (some (.int q.1)) (cells q.2)) (hrec4 : ∀ (M : mm) (q : Int32 × mm), rec 4  M = some q → CM yX11_product cX11_product 4 (some .int) dd [.ref 82] (cells M) (some (.int q.1)) (cells q.2)) (hrec5 : ∀ (M : mm) (q : Int32 × mm), rec 5  M = some q → CM yX11_sums cX11_sums 4 (some .int) dd [.ref 82] (cells M) (some (.int q.1)) (cells q.2))  {M : mm} {r : Int32 × mm} (h : X11_sums_B rec  M = some r) : CM yX11_sums cX11_sums 4 (some .int) (dd + 1) [.ref 82] (cells M) (some (.int r.1)) (cells r.2) := by
  refine cm_of (ls := [some (.ref 82), none, none, none]) mfX11_sums rfl (Nat.le_of_ble_eq_true rfl) (fun g hg hr => ?_)
  unfold X11_sums_B at h
  refine e_aload_n hg dX11_sums_0 rfl ?_
  obtain ⟨v1, M2, hc3, h⟩ := o_bd h
  refine m_callVI (rest := []) (v := v1) (M' := M2) (ci := 11) hg mfX11_product mvX11_product (hrec4 _ (v1, M2) hc3) lk_1276 dX11_sums_1 io_82 rfl rfl rfl (by omega) (Nat.le_of_ble_eq_true rfl) ?_
  refine e_istore_n (ls' := [some (.ref 82), some (.int v1), none, none]) hg dX11_sums_4 rfl ?_
  exact X11_sums_L5_ok hg hdd hrec0 hrec1 hrec2 hrec3 hrec4 hrec5 hr  10000 _ _ _ _ h

def G_X11_both : Nat → Nat → mm → Option (Int32 × mm)
  | 0, _, _ => none
  | n_ + 1, t_, M => match t_ with
    | 0 => X11_both_B (G_X11_both n_)  M
    | 1 => X11_compared_B (G_X11_both n_)  M
    | 2 => X11_either_B (G_X11_both n_)  M
    | 3 => X11_one_B (G_X11_both n_)  M
    | 4 => X11_product_B (G_X11_both n_)  M
    | _ => X11_sums_B (G_X11_both n_)  M
set_option maxRecDepth 100000 in
set_option maxHeartbeats 4000000 in
theorem G_X11_both_ok : ∀ n_ : Nat, (∀ (M : mm) (q : Int32 × mm), G_X11_both n_ 0  M = some q → CM yX11_both cX11_both 3 (some .int) (2 + n_) [.ref 82] (cells M) (some (.int q.1)) (cells q.2)) ∧ (∀ (M : mm) (q : Int32 × mm), G_X11_both n_ 1  M = some q → CM yX11_compared cX11_compared 4 (some .int) (2 + n_) [.ref 82] (cells M) (some (.int q.1)) (cells q.2)) ∧ (∀ (M : mm) (q : Int32 × mm), G_X11_both n_ 2  M = some q → CM yX11_either cX11_either 3 (some .int) (2 + n_) [.ref 82] (cells M) (some (.int q.1)) (cells q.2)) ∧ (∀ (M : mm) (q : Int32 × mm), G_X11_both n_ 3  M = some q → CM yX11_one cX11_one 5 (some .int) (2 + n_) [.ref 82] (cells M) (some (.int q.1)) (cells q.2)) ∧ (∀ (M : mm) (q : Int32 × mm), G_X11_both n_ 4  M = some q → CM yX11_product cX11_product 4 (some .int) (2 + n_) [.ref 82] (cells M) (some (.int q.1)) (cells q.2)) ∧ (∀ (M : mm) (q : Int32 × mm), G_X11_both n_ 5  M = some q → CM yX11_sums cX11_sums 4 (some .int) (2 + n_) [.ref 82] (cells M) (some (.int q.1)) (cells q.2)) := by
  intro n_
  induction n_ with
  | zero => exact ⟨fun _ _ h => o_no h, fun _ _ h => o_no h, fun _ _ h => o_no h, fun _ _ h => o_no h, fun _ _ h => o_no h, fun _ _ h => o_no h⟩
  | succ n_ ih =>
    exact ⟨fun _ _ h => X11_both_B_ok (by omega) ih.1 ih.2.1 ih.2.2.1 ih.2.2.2.1 ih.2.2.2.2.1 ih.2.2.2.2.2 h, fun _ _ h => X11_compared_B_ok (by omega) ih.1 ih.2.1 ih.2.2.1 ih.2.2.2.1 ih.2.2.2.2.1 ih.2.2.2.2.2 h, fun _ _ h => X11_either_B_ok (by omega) ih.1 ih.2.1 ih.2.2.1 ih.2.2.2.1 ih.2.2.2.2.1 ih.2.2.2.2.2 h, fun _ _ h => X11_one_B_ok (by omega) ih.1 ih.2.1 ih.2.2.1 ih.2.2.2.1 ih.2.2.2.2.1 ih.2.2.2.2.2 h, fun _ _ h => X11_product_B_ok (by omega) ih.1 ih.2.1 ih.2.2.1 ih.2.2.2.1 ih.2.2.2.2.1 ih.2.2.2.2.2 h, fun _ _ h => X11_sums_B_ok (by omega) ih.1 ih.2.1 ih.2.2.1 ih.2.2.2.1 ih.2.2.2.2.1 ih.2.2.2.2.2 h⟩
def X11_both  (M : mm) : Option (Int32 × mm) := G_X11_both 100 0  M
theorem X11_both_ok  {M : mm} {r : Int32 × mm} (h : X11_both  M = some r) : CM yX11_both cX11_both 3 (some .int) 102 [.ref 82] (cells M) (some (.int r.1)) (cells r.2) := (G_X11_both_ok 100).1 _ _ h
def X11_compared  (M : mm) : Option (Int32 × mm) := G_X11_both 100 1  M
theorem X11_compared_ok  {M : mm} {r : Int32 × mm} (h : X11_compared  M = some r) : CM yX11_compared cX11_compared 4 (some .int) 102 [.ref 82] (cells M) (some (.int r.1)) (cells r.2) := (G_X11_both_ok 100).2.1 _ _ h
def X11_either  (M : mm) : Option (Int32 × mm) := G_X11_both 100 2  M
theorem X11_either_ok  {M : mm} {r : Int32 × mm} (h : X11_either  M = some r) : CM yX11_either cX11_either 3 (some .int) 102 [.ref 82] (cells M) (some (.int r.1)) (cells r.2) := (G_X11_both_ok 100).2.2.1 _ _ h
def X11_one  (M : mm) : Option (Int32 × mm) := G_X11_both 100 3  M
theorem X11_one_ok  {M : mm} {r : Int32 × mm} (h : X11_one  M = some r) : CM yX11_one cX11_one 5 (some .int) 102 [.ref 82] (cells M) (some (.int r.1)) (cells r.2) := (G_X11_both_ok 100).2.2.2.1 _ _ h
def X11_product  (M : mm) : Option (Int32 × mm) := G_X11_both 100 4  M
theorem X11_product_ok  {M : mm} {r : Int32 × mm} (h : X11_product  M = some r) : CM yX11_product cX11_product 4 (some .int) 102 [.ref 82] (cells M) (some (.int r.1)) (cells r.2) := (G_X11_both_ok 100).2.2.2.2.1 _ _ h
def X11_sums  (M : mm) : Option (Int32 × mm) := G_X11_both 100 5  M
theorem X11_sums_ok  {M : mm} {r : Int32 × mm} (h : X11_sums  M = some r) : CM yX11_sums cX11_sums 4 (some .int) 102 [.ref 82] (cells M) (some (.int r.1)) (cells r.2) := (G_X11_both_ok 100).2.2.2.2.2 _ _ h
def X11_workOut_b96 (a1 : Int32) (a2 : Int32) (R33 : Int32 → Int32 → Int32 → mm → Option (Int32 × mm)) (K107 : Int32 → mm → Option (Int32 × mm)) (x3 : Int32) (x4 : Int32) (M : mm) : Option (Int32 × mm) :=
  bd (X11_takes 59 M) fun v16 M17 =>
  R33 x3 x4 v16 M17
set_option maxRecDepth 100000 in
set_option maxHeartbeats 4000000 in
theorem X11_workOut_b96_ok {g : gx} (hg : EC g cX11_workOut RX11 103) {a1 : Int32} {a2 : Int32} {r : Int32 × mm} (hr : RT g (some .int) (0, 0) (some (.int r.1)) (cells r.2)) {R33 : Int32 → Int32 → Int32 → mm → Option (Int32 × mm)} (hR33 : ∀ (x3 : Int32) (x4 : Int32) (x5 : Int32) (o6 : Option Value) (o7 : Option Value) (M : mm), R33 x3 x4 x5 M = some r → E g (0, 0) 33 [some (.ref 82), some (.int a1), some (.int a2), some (.int x3), some (.int x4), some (.int x5), o6, o7] [] (cells M)) {K107 : Int32 → mm → Option (Int32 × mm)} (hK107 : ∀ (x4 : Int32) (o3 : Option Value) (o5 : Option Value) (o6 : Option Value) (o7 : Option Value) (M : mm), K107 x4 M = some r → E g (0, 0) 107 [some (.ref 82), some (.int a1), some (.int a2), o3, some (.int x4), o5, o6, o7] [] (cells M)) {x3 : Int32} {x4 : Int32} {o5 : Option Value} {o6 : Option Value} {o7 : Option Value} {M : mm} (h : X11_workOut_b96 a1 a2 R33 K107 x3 x4 M = some r) : E g (0, 0) 96 [some (.ref 82), some (.int a1), some (.int a2), some (.int x3), some (.int x4), o5, o6, o7] [] (cells M) := by
  unfold X11_workOut_b96 at h
  refine e_aload_n hg dX11_workOut_96 rfl ?_
  refine e_bipush (v := 59) hg dX11_workOut_97 (by decide) ?_
  obtain ⟨v16, M17, hc18, h⟩ := o_bd h
  refine m_callVI (rest := []) (v := v16) (M' := M17) (ci := 11) hg mfX11_takes mvX11_takes (X11_takes_ok (r := (v16, M17)) hc18) lk_1292 dX11_workOut_99 io_82 rfl rfl rfl (by omega) (Nat.le_of_ble_eq_true rfl) ?_
  refine e_istore (ls' := [some (.ref 82), some (.int a1), some (.int a2), some (.int x3), some (.int x4), some (.int v16), o6, o7]) hg dX11_workOut_102 rfl ?_
  refine e_goto hg 33 dX11_workOut_104 (by decide) ?_
  exact hR33 _ _ _ _ _ _ h

def X11_workOut_b74 (a1 : Int32) (a2 : Int32) (R33 : Int32 → Int32 → Int32 → mm → Option (Int32 × mm)) (K107 : Int32 → mm → Option (Int32 × mm)) (x3 : Int32) (x4 : Int32) (x6 : Int32) (x7 : Int32) (M : mm) : Option (Int32 × mm) :=
  X11_workOut_b96 a1 a2 R33 K107 (if (M.1 82 30) < 0 then (if x7 = 0 then x3 else (if x3 = 0 then 1 else x3)) else x3) (if (M.1 82 30) < 0 then (if x7 = 0 then x4 else (if x3 = 0 then x6 else x4)) else x4) M
set_option maxRecDepth 100000 in
set_option maxHeartbeats 4000000 in
theorem X11_workOut_b74_ok {g : gx} (hg : EC g cX11_workOut RX11 103) {a1 : Int32} {a2 : Int32} {r : Int32 × mm} (hr : RT g (some .int) (0, 0) (some (.int r.1)) (cells r.2)) {R33 : Int32 → Int32 → Int32 → mm → Option (Int32 × mm)} (hR33 : ∀ (x3 : Int32) (x4 : Int32) (x5 : Int32) (o6 : Option Value) (o7 : Option Value) (M : mm), R33 x3 x4 x5 M = some r → E g (0, 0) 33 [some (.ref 82), some (.int a1), some (.int a2), some (.int x3), some (.int x4), some (.int x5), o6, o7] [] (cells M)) {K107 : Int32 → mm → Option (Int32 × mm)} (hK107 : ∀ (x4 : Int32) (o3 : Option Value) (o5 : Option Value) (o6 : Option Value) (o7 : Option Value) (M : mm), K107 x4 M = some r → E g (0, 0) 107 [some (.ref 82), some (.int a1), some (.int a2), o3, some (.int x4), o5, o6, o7] [] (cells M)) {x3 : Int32} {x4 : Int32} {x6 : Int32} {x7 : Int32} {o5 : Option Value} {M : mm} (h : X11_workOut_b74 a1 a2 R33 K107 x3 x4 x6 x7 M = some r) : E g (0, 0) 74 [some (.ref 82), some (.int a1), some (.int a2), some (.int x3), some (.int x4), o5, some (.int x6), some (.int x7)] [] (cells M) := by
  unfold X11_workOut_b74 at h
  refine e_aload_n hg dX11_workOut_74 rfl ?_
  refine m_getI hg ciX11 30 lk_1016 dX11_workOut_75 io_82 (Nat.le_of_ble_eq_true rfl) rfl ?_
  refine e_ifge hg 96 dX11_workOut_78 (by decide) (fun c14 => ?_) (fun c14 => ?_)
  · simp only [if_pos c14] at h
    refine e_iload hg dX11_workOut_81 rfl ?_
    refine e_ifeq hg 96 dX11_workOut_83 (by decide) (fun c15 => ?_) (fun c15 => ?_)
    · simp only [if_pos c15] at h
      exact X11_workOut_b96_ok hg hr hR33 hK107 h
    · simp only [if_neg c15] at h
      refine e_iload_n hg dX11_workOut_86 rfl ?_
      refine e_ifne hg 96 dX11_workOut_87 (by decide) (fun c19 => ?_) (fun c19 => ?_)
      · simp only [if_pos c19] at h
        refine e_iconst (v := 1) hg dX11_workOut_90 (by decide) ?_
        refine e_istore_n (ls' := [some (.ref 82), some (.int a1), some (.int a2), some (.int 1), some (.int x4), o5, some (.int x6), some (.int x7)]) hg dX11_workOut_91 rfl ?_
        refine e_iload hg dX11_workOut_92 rfl ?_
        refine e_istore (ls' := [some (.ref 82), some (.int a1), some (.int a2), some (.int 1), some (.int x6), o5, some (.int x6), some (.int x7)]) hg dX11_workOut_94 rfl ?_
        exact X11_workOut_b96_ok hg hr hR33 hK107 h
      · simp only [if_neg c19] at h
        exact X11_workOut_b96_ok hg hr hR33 hK107 h
  · simp only [if_neg c14] at h
    exact X11_workOut_b96_ok hg hr hR33 hK107 h

def X11_workOut_b66 (a1 : Int32) (a2 : Int32) (R33 : Int32 → Int32 → Int32 → mm → Option (Int32 × mm)) (K107 : Int32 → mm → Option (Int32 × mm)) (x3 : Int32) (x4 : Int32) (s0 : Int32) (M : mm) : Option (Int32 × mm) :=
  bd (X11_either M) fun v21 M22 =>
  X11_workOut_b74 a1 a2 R33 K107 x3 x4 v21 s0 M22
set_option maxRecDepth 100000 in
set_option maxHeartbeats 4000000 in
theorem X11_workOut_b66_ok {g : gx} (hg : EC g cX11_workOut RX11 103) {a1 : Int32} {a2 : Int32} {r : Int32 × mm} (hr : RT g (some .int) (0, 0) (some (.int r.1)) (cells r.2)) {R33 : Int32 → Int32 → Int32 → mm → Option (Int32 × mm)} (hR33 : ∀ (x3 : Int32) (x4 : Int32) (x5 : Int32) (o6 : Option Value) (o7 : Option Value) (M : mm), R33 x3 x4 x5 M = some r → E g (0, 0) 33 [some (.ref 82), some (.int a1), some (.int a2), some (.int x3), some (.int x4), some (.int x5), o6, o7] [] (cells M)) {K107 : Int32 → mm → Option (Int32 × mm)} (hK107 : ∀ (x4 : Int32) (o3 : Option Value) (o5 : Option Value) (o6 : Option Value) (o7 : Option Value) (M : mm), K107 x4 M = some r → E g (0, 0) 107 [some (.ref 82), some (.int a1), some (.int a2), o3, some (.int x4), o5, o6, o7] [] (cells M)) {x3 : Int32} {x4 : Int32} {s0 : Int32} {o5 : Option Value} {o6 : Option Value} {o7 : Option Value} {M : mm} (h : X11_workOut_b66 a1 a2 R33 K107 x3 x4 s0 M = some r) : E g (0, 0) 66 [some (.ref 82), some (.int a1), some (.int a2), some (.int x3), some (.int x4), o5, o6, o7] [.int s0] (cells M) := by
  unfold X11_workOut_b66 at h
  refine e_drop (ls2 := [some (.ref 82), some (.int a1), some (.int a2), some (.int x3), some (.int x4), o5, none, o7]) 6 rfl ?_
  refine e_istore (ls' := [some (.ref 82), some (.int a1), some (.int a2), some (.int x3), some (.int x4), o5, none, some (.int s0)]) hg dX11_workOut_66 rfl ?_
  refine e_aload_n hg dX11_workOut_68 rfl ?_
  obtain ⟨v21, M22, hc23, h⟩ := o_bd h
  refine m_callVI (rest := []) (v := v21) (M' := M22) (ci := 11) hg mfX11_either mvX11_either (X11_either_ok (r := (v21, M22)) hc23) lk_1260 dX11_workOut_69 io_82 rfl rfl rfl (by omega) (Nat.le_of_ble_eq_true rfl) ?_
  refine e_drop (ls2 := [some (.ref 82), some (.int a1), some (.int a2), some (.int x3), some (.int x4), none, none, some (.int s0)]) 5 rfl ?_
  refine e_istore (ls' := [some (.ref 82), some (.int a1), some (.int a2), some (.int x3), some (.int x4), none, some (.int v21), some (.int s0)]) hg dX11_workOut_72 rfl ?_
  exact X11_workOut_b74_ok hg hr hR33 hK107 h

def X11_workOut_L33 (a1 : Int32) (a2 : Int32) (K107 : Int32 → mm → Option (Int32 × mm)) : Nat → Int32 → Int32 → Int32 → mm → Option (Int32 × mm)
  | 0, _, _, _, _ => none
  | n_ + 1, x3, x4, x5, M =>
    if x5 = 0 then
      K107 x4 M
    else
      bd (X11_either M) fun v7 M8 =>
      bd (X11_takes 63 M8) fun v10 M11 =>
      if v10 = 0 then
        X11_workOut_b74 a1 a2 (X11_workOut_L33 a1 a2 K107 n_) K107 x3 x4 v7 1 M11
      else
        X11_workOut_b66 a1 a2 (X11_workOut_L33 a1 a2 K107 n_) K107 x3 x4 (if v7 = 0 then 0 else 1) M11
set_option maxRecDepth 100000 in
set_option maxHeartbeats 4000000 in
theorem X11_workOut_L33_ok {g : gx} (hg : EC g cX11_workOut RX11 103) {a1 : Int32} {a2 : Int32} {r : Int32 × mm} (hr : RT g (some .int) (0, 0) (some (.int r.1)) (cells r.2)) {K107 : Int32 → mm → Option (Int32 × mm)} (hK107 : ∀ (x4 : Int32) (o3 : Option Value) (o5 : Option Value) (o6 : Option Value) (o7 : Option Value) (M : mm), K107 x4 M = some r → E g (0, 0) 107 [some (.ref 82), some (.int a1), some (.int a2), o3, some (.int x4), o5, o6, o7] [] (cells M)) : ∀ (n_ : Nat) (x3 : Int32) (x4 : Int32) (x5 : Int32) (o6 : Option Value) (o7 : Option Value) (M : mm), X11_workOut_L33 a1 a2 K107 n_ x3 x4 x5 M = some r → E g (0, 0) 33 [some (.ref 82), some (.int a1), some (.int a2), some (.int x3), some (.int x4), some (.int x5), o6, o7] [] (cells M) := by
  intro n_
  induction n_ with
  | zero => intro x3 x4 x5 o6 o7 M h; exact o_no h
  | succ n_ ih =>
    intro x3 x4 x5 o6 o7 M h
    rw [X11_workOut_L33] at h
    refine e_iload hg dX11_workOut_33 rfl ?_
    refine e_ifeq hg 107 dX11_workOut_35 (by decide) (fun c6 => ?_) (fun c6 => ?_)
    · have h := o_pos c6 h
      exact hK107 _ _ _ _ _ _ h
    · have h := o_neg c6 h
      refine e_aload_n hg dX11_workOut_38 rfl ?_
      obtain ⟨v7, M8, hc9, h⟩ := o_bd h
      refine m_callVI (rest := []) (v := v7) (M' := M8) (ci := 11) hg mfX11_either mvX11_either (X11_either_ok (r := (v7, M8)) hc9) lk_1260 dX11_workOut_39 io_82 rfl rfl rfl (by omega) (Nat.le_of_ble_eq_true rfl) ?_
      refine e_istore (ls' := [some (.ref 82), some (.int a1), some (.int a2), some (.int x3), some (.int x4), some (.int x5), some (.int v7), o7]) hg dX11_workOut_42 rfl ?_
      refine e_iconst (v := 1) hg dX11_workOut_44 (by decide) ?_
      refine e_istore (ls' := [some (.ref 82), some (.int a1), some (.int a2), some (.int x3), some (.int x4), some (.int x5), some (.int v7), some (.int 1)]) hg dX11_workOut_45 rfl ?_
      refine e_aload_n hg dX11_workOut_47 rfl ?_
      refine e_bipush (v := 63) hg dX11_workOut_48 (by decide) ?_
      obtain ⟨v10, M11, hc12, h⟩ := o_bd h
      refine m_callVI (rest := []) (v := v10) (M' := M11) (ci := 11) hg mfX11_takes mvX11_takes (X11_takes_ok (r := (v10, M11)) hc12) lk_1292 dX11_workOut_50 io_82 rfl rfl rfl (by omega) (Nat.le_of_ble_eq_true rfl) ?_
      refine e_ifeq hg 74 dX11_workOut_53 (by decide) (fun c13 => ?_) (fun c13 => ?_)
      · have h := o_pos c13 h
        exact X11_workOut_b74_ok hg hr ih hK107 h
      · have h := o_neg c13 h
        refine e_iload hg dX11_workOut_56 rfl ?_
        refine e_ifeq hg 65 dX11_workOut_58 (by decide) (fun c20 => ?_) (fun c20 => ?_)
        · simp only [if_pos c20] at h
          refine e_iconst (v := 0) hg dX11_workOut_65 (by decide) ?_
          exact X11_workOut_b66_ok hg hr ih hK107 h
        · simp only [if_neg c20] at h
          refine e_iconst (v := 1) hg dX11_workOut_61 (by decide) ?_
          refine e_goto hg 66 dX11_workOut_62 (by decide) ?_
          exact X11_workOut_b66_ok hg hr ih hK107 h

def X11_workOut (a1 : Int32) (a2 : Int32) (M : mm) : Option (Int32 × mm) :=
  lt_ (sA M 82 (upd (M.1 82) 27 a1)) fun M1 =>
  lt_ (sA M1 82 (upd (M1.1 82) 28 0)) fun M2 =>
  lt_ (sA M2 82 (upd (M2.1 82) 29 a2)) fun M3 =>
  lt_ (sA M3 82 (upd (M3.1 82) 30 (-1))) fun M4 =>
  lt_ (sA M4 82 (upd (M4.1 82) 31 0)) fun M5 =>
  X11_workOut_L33 a1 a2 (fun x4 M =>
      if (M.1 82 30) < 0 then
        if (M.1 82 28) < (M.1 82 29) then
          bd (X11_wrong M) fun v26 M27 =>
          some (v26, M27)
        else
          some (x4, M)
      else
        some (x4, M)) 10000 0 0 1 M5
set_option maxRecDepth 100000 in
set_option maxHeartbeats 4000000 in
theorem X11_workOut_ok {a1 : Int32} {a2 : Int32} {M : mm} {r : Int32 × mm} (h : X11_workOut a1 a2 M = some r) : CM yX11_workOut cX11_workOut 8 (some .int) 103 [.ref 82, .int a1, .int a2] (cells M) (some (.int r.1)) (cells r.2) := by
  refine cm_of (ls := [some (.ref 82), some (.int a1), some (.int a2), none, none, none, none, none]) mfX11_workOut rfl (Nat.le_of_ble_eq_true rfl) (fun g hg hr => ?_)
  unfold X11_workOut at h
  refine e_aload_n hg dX11_workOut_0 rfl ?_
  refine e_iload_n hg dX11_workOut_1 rfl ?_
  obtain ⟨M1, hM1, h⟩ := o_lt h
  refine m_putI hg ciX11 27 lk_1013 dX11_workOut_2 io_82 (Nat.le_of_ble_eq_true rfl) rfl rfl rfl rfl ?_
  rw [← hM1]
  refine e_aload_n hg dX11_workOut_5 rfl ?_
  refine e_iconst (v := 0) hg dX11_workOut_6 (by decide) ?_
  obtain ⟨M2, hM2, h⟩ := o_lt h
  refine m_putI hg ciX11 28 lk_1014 dX11_workOut_7 io_82 (Nat.le_of_ble_eq_true rfl) rfl rfl rfl rfl ?_
  rw [← hM2]
  refine e_aload_n hg dX11_workOut_10 rfl ?_
  refine e_iload_n hg dX11_workOut_11 rfl ?_
  obtain ⟨M3, hM3, h⟩ := o_lt h
  refine m_putI hg ciX11 29 lk_1015 dX11_workOut_12 io_82 (Nat.le_of_ble_eq_true rfl) rfl rfl rfl rfl ?_
  rw [← hM3]
  refine e_aload_n hg dX11_workOut_15 rfl ?_
  refine e_iconst (v := -1) hg dX11_workOut_16 (by decide) ?_
  obtain ⟨M4, hM4, h⟩ := o_lt h
  refine m_putI hg ciX11 30 lk_1016 dX11_workOut_17 io_82 (Nat.le_of_ble_eq_true rfl) rfl rfl rfl rfl ?_
  rw [← hM4]
  refine e_aload_n hg dX11_workOut_20 rfl ?_
  refine e_iconst (v := 0) hg dX11_workOut_21 (by decide) ?_
  obtain ⟨M5, hM5, h⟩ := o_lt h
  refine m_putI hg ciX11 31 lk_1017 dX11_workOut_22 io_82 (Nat.le_of_ble_eq_true rfl) rfl rfl rfl rfl ?_
  rw [← hM5]
  refine e_iconst (v := 0) hg dX11_workOut_25 (by decide) ?_
  refine e_istore_n (ls' := [some (.ref 82), some (.int a1), some (.int a2), some (.int 0), none, none, none, none]) hg dX11_workOut_26 rfl ?_
  refine e_iconst (v := 0) hg dX11_workOut_27 (by decide) ?_
  refine e_istore (ls' := [some (.ref 82), some (.int a1), some (.int a2), some (.int 0), some (.int 0), none, none, none]) hg dX11_workOut_28 rfl ?_
  refine e_iconst (v := 1) hg dX11_workOut_30 (by decide) ?_
  refine e_istore (ls' := [some (.ref 82), some (.int a1), some (.int a2), some (.int 0), some (.int 0), some (.int 1), none, none]) hg dX11_workOut_31 rfl ?_
  refine X11_workOut_L33_ok hg hr (fun x4 o3 o5 o6 o7 M h => ?_) 10000 _ _ _ _ _ _ h
  refine e_aload_n hg dX11_workOut_107 rfl ?_
  refine m_getI hg ciX11 30 lk_1016 dX11_workOut_108 io_82 (Nat.le_of_ble_eq_true rfl) rfl ?_
  refine e_ifge hg 130 dX11_workOut_111 (by decide) (fun c24 => ?_) (fun c24 => ?_)
  · have h := o_pos c24 h
    refine e_aload_n hg dX11_workOut_114 rfl ?_
    refine m_getI hg ciX11 28 lk_1014 dX11_workOut_115 io_82 (Nat.le_of_ble_eq_true rfl) rfl ?_
    refine e_aload_n hg dX11_workOut_118 rfl ?_
    refine m_getI hg ciX11 29 lk_1015 dX11_workOut_119 io_82 (Nat.le_of_ble_eq_true rfl) rfl ?_
    refine e_icmpge hg 130 dX11_workOut_122 (by decide) (fun c25 => ?_) (fun c25 => ?_)
    · have h := o_pos c25 h
      refine e_aload_n hg dX11_workOut_125 rfl ?_
      obtain ⟨v26, M27, hc28, h⟩ := o_bd h
      refine m_callVI (rest := []) (v := v26) (M' := M27) (ci := 11) hg mfX11_wrong mvX11_wrong (X11_wrong_ok (r := (v26, M27)) hc28) lk_1288 dX11_workOut_126 io_82 rfl rfl rfl (by omega) (Nat.le_of_ble_eq_true rfl) ?_
      exact m_iret hg hr dX11_workOut_129 h
    · have h := o_neg c25 h
      refine e_iload hg dX11_workOut_130 rfl ?_
      exact m_iret hg hr dX11_workOut_132 h
  · have h := o_neg c24 h
    refine e_iload hg dX11_workOut_130 rfl ?_
    exact m_iret hg hr dX11_workOut_132 h

def X11_numberOf_b55 (a1 : Int32) (a2 : Int32) (a3 : Int32) (a4 : Int32) (x5 : Int32) (M : mm) : Option (Int32 × mm) :=
  if x5 < 0 then
    some (0, M)
  else
    if 12 < x5 then
      some (12, M)
    else
      some (x5, M)
set_option maxRecDepth 100000 in
set_option maxHeartbeats 4000000 in
theorem X11_numberOf_b55_ok {g : gx} (hg : EC g cX11_numberOf RX11 104) {a1 : Int32} {a2 : Int32} {a3 : Int32} {a4 : Int32} {r : Int32 × mm} (hr : RT g (some .int) (0, 0) (some (.int r.1)) (cells r.2)) {x5 : Int32} {M : mm} (h : X11_numberOf_b55 a1 a2 a3 a4 x5 M = some r) : E g (0, 0) 55 [some (.ref 82), some (.int a1), some (.int a2), some (.int a3), some (.int a4), some (.int x5)] [] (cells M) := by
  unfold X11_numberOf_b55 at h
  refine e_iload hg dX11_numberOf_55 rfl ?_
  refine e_ifge hg 64 dX11_numberOf_57 (by decide) (fun c2 => ?_) (fun c2 => ?_)
  · have h := o_pos c2 h
    refine e_iconst (v := 0) hg dX11_numberOf_60 (by decide) ?_
    refine e_goto hg 78 dX11_numberOf_61 (by decide) ?_
    exact m_iret hg hr dX11_numberOf_78 h
  · have h := o_neg c2 h
    refine e_iload hg dX11_numberOf_64 rfl ?_
    refine e_bipush (v := 12) hg dX11_numberOf_66 (by decide) ?_
    refine e_icmple hg 76 dX11_numberOf_68 (by decide) (fun c3 => ?_) (fun c3 => ?_)
    · have h := o_pos c3 h
      refine e_bipush (v := 12) hg dX11_numberOf_71 (by decide) ?_
      refine e_goto hg 78 dX11_numberOf_73 (by decide) ?_
      exact m_iret hg hr dX11_numberOf_78 h
    · have h := o_neg c3 h
      refine e_iload hg dX11_numberOf_76 rfl ?_
      exact m_iret hg hr dX11_numberOf_78 h

def X11_numberOf (a1 : Int32) (a2 : Int32) (a3 : Int32) (a4 : Int32) (M : mm) : Option (Int32 × mm) :=
  if (M.1 82 26) < 0 then
    X11_numberOf_b55 a1 a2 a3 a4 (7 - (2 * a1)) M
  else
    gd (inb 0 4) <|
    lt_ (sA M 100 (upd (M.1 100) (0 : Int32).toNatClampNeg a1)) fun M5 =>
    gd (inb 1 4) <|
    lt_ (sA M5 100 (upd (M5.1 100) (1 : Int32).toNatClampNeg a2)) fun M7 =>
    gd (inb 2 4) <|
    lt_ (sA M7 100 (upd (M7.1 100) (2 : Int32).toNatClampNeg a3)) fun M9 =>
    gd (inb 3 4) <|
    lt_ (sA M9 100 (upd (M9.1 100) (3 : Int32).toNatClampNeg a4)) fun M11 =>
    bd (X11_workOut 0 (M11.1 82 26) M11) fun v12 M13 =>
    X11_numberOf_b55 a1 a2 a3 a4 v12 M13
set_option maxRecDepth 100000 in
set_option maxHeartbeats 4000000 in
theorem X11_numberOf_ok {a1 : Int32} {a2 : Int32} {a3 : Int32} {a4 : Int32} {M : mm} {r : Int32 × mm} (h : X11_numberOf a1 a2 a3 a4 M = some r) : CM yX11_numberOf cX11_numberOf 6 (some .int) 104 [.ref 82, .int a1, .int a2, .int a3, .int a4] (cells M) (some (.int r.1)) (cells r.2) := by
  refine cm_of (ls := [some (.ref 82), some (.int a1), some (.int a2), some (.int a3), some (.int a4), none]) mfX11_numberOf rfl (Nat.le_of_ble_eq_true rfl) (fun g hg hr => ?_)
  unfold X11_numberOf at h
  refine e_bipush (v := 7) hg dX11_numberOf_0 (by decide) ?_
  refine e_iconst (v := 2) hg dX11_numberOf_2 (by decide) ?_
  refine e_iload_n hg dX11_numberOf_3 rfl ?_
  refine e_imul hg dX11_numberOf_4 ?_
  refine e_isub hg dX11_numberOf_5 ?_
  refine e_istore (ls' := [some (.ref 82), some (.int a1), some (.int a2), some (.int a3), some (.int a4), some (.int (7 - (2 * a1)))]) hg dX11_numberOf_6 rfl ?_
  refine e_aload_n hg dX11_numberOf_8 rfl ?_
  refine m_getI hg ciX11 26 lk_1012 dX11_numberOf_9 io_82 (Nat.le_of_ble_eq_true rfl) rfl ?_
  refine e_iflt hg 55 dX11_numberOf_12 (by decide) (fun c1 => ?_) (fun c1 => ?_)
  · have h := o_pos c1 h
    exact X11_numberOf_b55_ok hg hr  h
  · have h := o_neg c1 h
    refine e_aload_n hg dX11_numberOf_15 rfl ?_
    refine m_getR (q := 100) hg ciX11 32 lk_1018 dX11_numberOf_16 io_82 (Nat.le_of_ble_eq_true rfl) rfl rf_82_32 ?_
    refine e_iconst (v := 0) hg dX11_numberOf_19 (by decide) ?_
    refine e_iload_n hg dX11_numberOf_20 rfl ?_
    obtain ⟨hi4, h⟩ := o_gd h
    obtain ⟨M5, hM5, h⟩ := o_lt h
    refine m_iast hg sh_100 hi4 dX11_numberOf_21 ?_
    rw [← hM5]
    refine e_aload_n hg dX11_numberOf_22 rfl ?_
    refine m_getR (q := 100) hg ciX11 32 lk_1018 dX11_numberOf_23 io_82 (Nat.le_of_ble_eq_true rfl) rfl rf_82_32 ?_
    refine e_iconst (v := 1) hg dX11_numberOf_26 (by decide) ?_
    refine e_iload_n hg dX11_numberOf_27 rfl ?_
    obtain ⟨hi6, h⟩ := o_gd h
    obtain ⟨M7, hM7, h⟩ := o_lt h
    refine m_iast hg sh_100 hi6 dX11_numberOf_28 ?_
    rw [← hM7]
    refine e_aload_n hg dX11_numberOf_29 rfl ?_
    refine m_getR (q := 100) hg ciX11 32 lk_1018 dX11_numberOf_30 io_82 (Nat.le_of_ble_eq_true rfl) rfl rf_82_32 ?_
    refine e_iconst (v := 2) hg dX11_numberOf_33 (by decide) ?_
    refine e_iload_n hg dX11_numberOf_34 rfl ?_
    obtain ⟨hi8, h⟩ := o_gd h
    obtain ⟨M9, hM9, h⟩ := o_lt h
    refine m_iast hg sh_100 hi8 dX11_numberOf_35 ?_
    rw [← hM9]
    refine e_aload_n hg dX11_numberOf_36 rfl ?_
    refine m_getR (q := 100) hg ciX11 32 lk_1018 dX11_numberOf_37 io_82 (Nat.le_of_ble_eq_true rfl) rfl rf_82_32 ?_
    refine e_iconst (v := 3) hg dX11_numberOf_40 (by decide) ?_
    refine e_iload hg dX11_numberOf_41 rfl ?_
    obtain ⟨hi10, h⟩ := o_gd h
    obtain ⟨M11, hM11, h⟩ := o_lt h
    refine m_iast hg sh_100 hi10 dX11_numberOf_43 ?_
    rw [← hM11]
    refine e_aload_n hg dX11_numberOf_44 rfl ?_
    refine e_iconst (v := 0) hg dX11_numberOf_45 (by decide) ?_
    refine e_aload_n hg dX11_numberOf_46 rfl ?_
    refine m_getI hg ciX11 26 lk_1012 dX11_numberOf_47 io_82 (Nat.le_of_ble_eq_true rfl) rfl ?_
    obtain ⟨v12, M13, hc14, h⟩ := o_bd h
    refine m_callVI (rest := []) (v := v12) (M' := M13) (ci := 11) hg mfX11_workOut mvX11_workOut (X11_workOut_ok (r := (v12, M13)) hc14) lk_1256 dX11_numberOf_50 io_82 rfl rfl rfl (by omega) (Nat.le_of_ble_eq_true rfl) ?_
    refine e_istore (ls' := [some (.ref 82), some (.int a1), some (.int a2), some (.int a3), some (.int a4), some (.int v12)]) hg dX11_numberOf_53 rfl ?_
    exact X11_numberOf_b55_ok hg hr  h

def X11_ofThing_b152 (a1 : Int32) (a2 : Int32) (s1 : Int32) (s2 : Int32) (s3 : Int32) (s4 : Int32) (M : mm) : Option (Int32 × mm) :=
  bd (X11_numberOf s1 s2 s3 s4 M) fun v23 M24 =>
  some (v23, M24)
set_option maxRecDepth 100000 in
set_option maxHeartbeats 4000000 in
theorem X11_ofThing_b152_ok {g : gx} (hg : EC g cX11_ofThing RX11 105) {a1 : Int32} {a2 : Int32} {r : Int32 × mm} (hr : RT g (some .int) (0, 0) (some (.int r.1)) (cells r.2)) {s1 : Int32} {s2 : Int32} {s3 : Int32} {s4 : Int32} {M : mm} (h : X11_ofThing_b152 a1 a2 s1 s2 s3 s4 M = some r) : E g (0, 0) 152 [some (.ref 82), some (.int a1), some (.int a2)] [.int s4, .int s3, .int s2, .int s1, .ref 82] (cells M) := by
  unfold X11_ofThing_b152 at h
  obtain ⟨v23, M24, hc25, h⟩ := o_bd h
  refine m_callVI (rest := []) (v := v23) (M' := M24) (ci := 11) hg mfX11_numberOf mvX11_numberOf (X11_numberOf_ok (r := (v23, M24)) hc25) lk_1252 dX11_ofThing_152 io_82 rfl rfl rfl (by omega) (Nat.le_of_ble_eq_true rfl) ?_
  exact m_iret hg hr dX11_ofThing_155 h

def X11_ofThing (a1 : Int32) (a2 : Int32) (M : mm) : Option (Int32 × mm) :=
  if a2 = 10 then
    gd (inb a1 6) <|
    some ((M.1 90 a1.toNatClampNeg), M)
  else
  if a2 = 11 then
    gd (inb (15 + a1) 33) <|
    some ((M.1 83 (15 + a1).toNatClampNeg), M)
  else
  if a2 = 12 then
    gd (inb (21 + a1) 33) <|
    some ((M.1 83 (21 + a1).toNatClampNeg), M)
  else
  if a2 = 13 then
    gd (inb a1 6) <|
    some ((M.1 91 a1.toNatClampNeg), M)
  else
  if a2 = 14 then
    gd (inb (27 + a1) 33) <|
    some ((M.1 83 (27 + a1).toNatClampNeg), M)
  else
  if a2 = 15 then
    gd (inb a1 6) <|
    some ((M.1 92 a1.toNatClampNeg), M)
  else
  if a2 = 16 then
    gd (inb a1 6) <|
    some ((M.1 93 a1.toNatClampNeg), M)
  else
  if a2 = 17 then
    gd (inb a1 6) <|
    some ((M.1 94 a1.toNatClampNeg), M)
  else
  if a2 = 18 then
    gd (inb a1 6) <|
    some ((M.1 96 a1.toNatClampNeg), M)
  else
  gd (inb a1 6) <|
  gd (inb a1 6) <|
  gd (inb a1 6) <|
  X11_ofThing_b152 a1 a2 (M.1 91 a1.toNatClampNeg) a1 (M.1 94 a1.toNatClampNeg) (if (M.1 92 a1.toNatClampNeg) < 0 then 0 else 1) M
set_option maxRecDepth 100000 in
set_option maxHeartbeats 4000000 in
theorem X11_ofThing_ok {a1 : Int32} {a2 : Int32} {M : mm} {r : Int32 × mm} (h : X11_ofThing a1 a2 M = some r) : CM yX11_ofThing cX11_ofThing 3 (some .int) 105 [.ref 82, .int a1, .int a2] (cells M) (some (.int r.1)) (cells r.2) := by
  refine cm_of (ls := [some (.ref 82), some (.int a1), some (.int a2)]) mfX11_ofThing rfl (Nat.le_of_ble_eq_true rfl) (fun g hg hr => ?_)
  unfold X11_ofThing at h
  refine e_iload_n hg dX11_ofThing_0 rfl ?_
  by_cases c1 : a2 = 10
  · have h := o_pos c1 h
    refine e_tabIn (v := 10) hg 52 dX11_ofThing_1 c1 (by decide) (by decide) rfl (by decide) ?_
    refine e_aload_n hg dX11_ofThing_52 rfl ?_
    refine m_getR (q := 90) hg ciX11 11 lk_997 dX11_ofThing_53 io_82 (Nat.le_of_ble_eq_true rfl) rfl rf_82_11 ?_
    refine e_iload_n hg dX11_ofThing_56 rfl ?_
    obtain ⟨hi2, h⟩ := o_gd h
    refine m_iald hg sh_90 hi2 dX11_ofThing_57 ?_
    exact m_iret hg hr dX11_ofThing_58 h
  have h := o_neg c1 h
  by_cases c3 : a2 = 11
  · have h := o_pos c3 h
    refine e_tabIn (v := 11) hg 59 dX11_ofThing_1 c3 (by decide) (by decide) rfl (by decide) ?_
    refine e_aload_n hg dX11_ofThing_59 rfl ?_
    refine m_getR (q := 83) hg ciX11 0 lk_986 dX11_ofThing_60 io_82 (Nat.le_of_ble_eq_true rfl) rfl rf_82_0 ?_
    refine e_bipush (v := 15) hg dX11_ofThing_63 (by decide) ?_
    refine e_iload_n hg dX11_ofThing_65 rfl ?_
    refine e_iadd hg dX11_ofThing_66 ?_
    obtain ⟨hi4, h⟩ := o_gd h
    refine m_iald hg sh_83 hi4 dX11_ofThing_67 ?_
    exact m_iret hg hr dX11_ofThing_68 h
  have h := o_neg c3 h
  by_cases c5 : a2 = 12
  · have h := o_pos c5 h
    refine e_tabIn (v := 12) hg 69 dX11_ofThing_1 c5 (by decide) (by decide) rfl (by decide) ?_
    refine e_aload_n hg dX11_ofThing_69 rfl ?_
    refine m_getR (q := 83) hg ciX11 0 lk_986 dX11_ofThing_70 io_82 (Nat.le_of_ble_eq_true rfl) rfl rf_82_0 ?_
    refine e_bipush (v := 21) hg dX11_ofThing_73 (by decide) ?_
    refine e_iload_n hg dX11_ofThing_75 rfl ?_
    refine e_iadd hg dX11_ofThing_76 ?_
    obtain ⟨hi6, h⟩ := o_gd h
    refine m_iald hg sh_83 hi6 dX11_ofThing_77 ?_
    exact m_iret hg hr dX11_ofThing_78 h
  have h := o_neg c5 h
  by_cases c7 : a2 = 13
  · have h := o_pos c7 h
    refine e_tabIn (v := 13) hg 79 dX11_ofThing_1 c7 (by decide) (by decide) rfl (by decide) ?_
    refine e_aload_n hg dX11_ofThing_79 rfl ?_
    refine m_getR (q := 91) hg ciX11 12 lk_998 dX11_ofThing_80 io_82 (Nat.le_of_ble_eq_true rfl) rfl rf_82_12 ?_
    refine e_iload_n hg dX11_ofThing_83 rfl ?_
    obtain ⟨hi8, h⟩ := o_gd h
    refine m_iald hg sh_91 hi8 dX11_ofThing_84 ?_
    exact m_iret hg hr dX11_ofThing_85 h
  have h := o_neg c7 h
  by_cases c9 : a2 = 14
  · have h := o_pos c9 h
    refine e_tabIn (v := 14) hg 86 dX11_ofThing_1 c9 (by decide) (by decide) rfl (by decide) ?_
    refine e_aload_n hg dX11_ofThing_86 rfl ?_
    refine m_getR (q := 83) hg ciX11 0 lk_986 dX11_ofThing_87 io_82 (Nat.le_of_ble_eq_true rfl) rfl rf_82_0 ?_
    refine e_bipush (v := 27) hg dX11_ofThing_90 (by decide) ?_
    refine e_iload_n hg dX11_ofThing_92 rfl ?_
    refine e_iadd hg dX11_ofThing_93 ?_
    obtain ⟨hi10, h⟩ := o_gd h
    refine m_iald hg sh_83 hi10 dX11_ofThing_94 ?_
    exact m_iret hg hr dX11_ofThing_95 h
  have h := o_neg c9 h
  by_cases c11 : a2 = 15
  · have h := o_pos c11 h
    refine e_tabIn (v := 15) hg 96 dX11_ofThing_1 c11 (by decide) (by decide) rfl (by decide) ?_
    refine e_aload_n hg dX11_ofThing_96 rfl ?_
    refine m_getR (q := 92) hg ciX11 13 lk_999 dX11_ofThing_97 io_82 (Nat.le_of_ble_eq_true rfl) rfl rf_82_13 ?_
    refine e_iload_n hg dX11_ofThing_100 rfl ?_
    obtain ⟨hi12, h⟩ := o_gd h
    refine m_iald hg sh_92 hi12 dX11_ofThing_101 ?_
    exact m_iret hg hr dX11_ofThing_102 h
  have h := o_neg c11 h
  by_cases c13 : a2 = 16
  · have h := o_pos c13 h
    refine e_tabIn (v := 16) hg 103 dX11_ofThing_1 c13 (by decide) (by decide) rfl (by decide) ?_
    refine e_aload_n hg dX11_ofThing_103 rfl ?_
    refine m_getR (q := 93) hg ciX11 14 lk_1000 dX11_ofThing_104 io_82 (Nat.le_of_ble_eq_true rfl) rfl rf_82_14 ?_
    refine e_iload_n hg dX11_ofThing_107 rfl ?_
    obtain ⟨hi14, h⟩ := o_gd h
    refine m_iald hg sh_93 hi14 dX11_ofThing_108 ?_
    exact m_iret hg hr dX11_ofThing_109 h
  have h := o_neg c13 h
  by_cases c15 : a2 = 17
  · have h := o_pos c15 h
    refine e_tabIn (v := 17) hg 110 dX11_ofThing_1 c15 (by decide) (by decide) rfl (by decide) ?_
    refine e_aload_n hg dX11_ofThing_110 rfl ?_
    refine m_getR (q := 94) hg ciX11 15 lk_1001 dX11_ofThing_111 io_82 (Nat.le_of_ble_eq_true rfl) rfl rf_82_15 ?_
    refine e_iload_n hg dX11_ofThing_114 rfl ?_
    obtain ⟨hi16, h⟩ := o_gd h
    refine m_iald hg sh_94 hi16 dX11_ofThing_115 ?_
    exact m_iret hg hr dX11_ofThing_116 h
  have h := o_neg c15 h
  by_cases c17 : a2 = 18
  · have h := o_pos c17 h
    refine e_tabIn (v := 18) hg 117 dX11_ofThing_1 c17 (by decide) (by decide) rfl (by decide) ?_
    refine e_aload_n hg dX11_ofThing_117 rfl ?_
    refine m_getR (q := 96) hg ciX11 17 lk_1003 dX11_ofThing_118 io_82 (Nat.le_of_ble_eq_true rfl) rfl rf_82_17 ?_
    refine e_iload_n hg dX11_ofThing_121 rfl ?_
    obtain ⟨hi18, h⟩ := o_gd h
    refine m_iald hg sh_96 hi18 dX11_ofThing_122 ?_
    exact m_iret hg hr dX11_ofThing_123 h
  have h := o_neg c17 h
  refine e_tabOut hg 124 dX11_ofThing_1 (by have e_c1 := ne_toIntL (n := 10) (by decide) c1; have e_c3 := ne_toIntL (n := 11) (by decide) c3; have e_c5 := ne_toIntL (n := 12) (by decide) c5; have e_c7 := ne_toIntL (n := 13) (by decide) c7; have e_c9 := ne_toIntL (n := 14) (by decide) c9; have e_c11 := ne_toIntL (n := 15) (by decide) c11; have e_c13 := ne_toIntL (n := 16) (by decide) c13; have e_c15 := ne_toIntL (n := 17) (by decide) c15; have e_c17 := ne_toIntL (n := 18) (by decide) c17; omega) (by decide) ?_
  refine e_aload_n hg dX11_ofThing_124 rfl ?_
  refine e_aload_n hg dX11_ofThing_125 rfl ?_
  refine m_getR (q := 91) hg ciX11 12 lk_998 dX11_ofThing_126 io_82 (Nat.le_of_ble_eq_true rfl) rfl rf_82_12 ?_
  refine e_iload_n hg dX11_ofThing_129 rfl ?_
  obtain ⟨hi19, h⟩ := o_gd h
  refine m_iald hg sh_91 hi19 dX11_ofThing_130 ?_
  refine e_iload_n hg dX11_ofThing_131 rfl ?_
  refine e_aload_n hg dX11_ofThing_132 rfl ?_
  refine m_getR (q := 94) hg ciX11 15 lk_1001 dX11_ofThing_133 io_82 (Nat.le_of_ble_eq_true rfl) rfl rf_82_15 ?_
  refine e_iload_n hg dX11_ofThing_136 rfl ?_
  obtain ⟨hi20, h⟩ := o_gd h
  refine m_iald hg sh_94 hi20 dX11_ofThing_137 ?_
  refine e_aload_n hg dX11_ofThing_138 rfl ?_
  refine m_getR (q := 92) hg ciX11 13 lk_999 dX11_ofThing_139 io_82 (Nat.le_of_ble_eq_true rfl) rfl rf_82_13 ?_
  refine e_iload_n hg dX11_ofThing_142 rfl ?_
  obtain ⟨hi21, h⟩ := o_gd h
  refine m_iald hg sh_92 hi21 dX11_ofThing_143 ?_
  refine e_iflt hg 151 dX11_ofThing_144 (by decide) (fun c22 => ?_) (fun c22 => ?_)
  · simp only [if_pos c22] at h
    refine e_iconst (v := 0) hg dX11_ofThing_151 (by decide) ?_
    exact X11_ofThing_b152_ok hg hr  h
  · simp only [if_neg c22] at h
    refine e_iconst (v := 1) hg dX11_ofThing_147 (by decide) ?_
    refine e_goto hg 152 dX11_ofThing_148 (by decide) ?_
    exact X11_ofThing_b152_ok hg hr  h

def X11_of (a1 : Int32) (a2 : Int32) (M : mm) : Option (Int32 × mm) :=
  bd (X11_within (a2.toInt64) 0 5 M) fun v1 M2 =>
  if v1 = 0 then
    bd (X11_within (a2.toInt64) 10 19 M2) fun v5 M6 =>
    if v5 = 0 then
      some ((-2000000000), M6)
    else
      bd (X11_isThing a1 M6) fun v9 M10 =>
      if v9 = 0 then
        some ((-2000000000), M10)
      else
        bd (X11_ofThing a1 a2 M10) fun v13 M14 =>
        some (v13, M14)
  else
    bd (X11_isPerson a1 M2) fun v16 M17 =>
    if v16 = 0 then
      some ((-2000000000), M17)
    else
      bd (X11_ofPerson a1 a2 M17) fun v20 M21 =>
      some (v20, M21)
set_option maxRecDepth 100000 in
set_option maxHeartbeats 4000000 in
theorem X11_of_ok {a1 : Int32} {a2 : Int32} {M : mm} {r : Int32 × mm} (h : X11_of a1 a2 M = some r) : CM yX11_of cX11_of 3 (some .int) 106 [.ref 82, .int a1, .int a2] (cells M) (some (.int r.1)) (cells r.2) := by
  refine cm_of (ls := [some (.ref 82), some (.int a1), some (.int a2)]) mfX11_of rfl (Nat.le_of_ble_eq_true rfl) (fun g hg hr => ?_)
  unfold X11_of at h
  refine e_iload_n hg dX11_of_0 rfl ?_
  refine e_i2l hg dX11_of_1 ?_
  refine e_lconst (v := 0) hg dX11_of_2 (by decide) ?_
  refine e_ldc2 hg dX11_of_3 lk_1213 ?_
  obtain ⟨v1, M2, hc3, h⟩ := o_bd h
  refine m_callSI (rest := []) (v := v1) (M' := M2) hg mfX11_within mvX11_within (X11_within_ok (r := (v1, M2)) hc3) lk_1190 dX11_of_6 rfl rfl (by omega) (Nat.le_of_ble_eq_true rfl) ?_
  refine e_ifeq hg 32 dX11_of_9 (by decide) (fun c4 => ?_) (fun c4 => ?_)
  · have h := o_pos c4 h
    refine e_iload_n hg dX11_of_32 rfl ?_
    refine e_i2l hg dX11_of_33 ?_
    refine e_ldc2 hg dX11_of_34 lk_1246 ?_
    refine e_ldc2 hg dX11_of_37 lk_1247 ?_
    obtain ⟨v5, M6, hc7, h⟩ := o_bd h
    refine m_callSI (rest := []) (v := v5) (M' := M6) hg mfX11_within mvX11_within (X11_within_ok (r := (v5, M6)) hc7) lk_1190 dX11_of_40 rfl rfl (by omega) (Nat.le_of_ble_eq_true rfl) ?_
    refine e_ifeq hg 63 dX11_of_43 (by decide) (fun c8 => ?_) (fun c8 => ?_)
    · have h := o_pos c8 h
      refine e_ldc hg dX11_of_63 lk_1245 ?_
      exact m_iret hg hr dX11_of_65 h
    · have h := o_neg c8 h
      refine e_aload_n hg dX11_of_46 rfl ?_
      refine e_iload_n hg dX11_of_47 rfl ?_
      obtain ⟨v9, M10, hc11, h⟩ := o_bd h
      refine m_callVI (rest := []) (v := v9) (M' := M10) (ci := 11) hg mfX11_isThing mvX11_isThing (X11_isThing_ok (r := (v9, M10)) hc11) lk_1233 dX11_of_48 io_82 rfl rfl rfl (by omega) (Nat.le_of_ble_eq_true rfl) ?_
      refine e_ifeq hg 63 dX11_of_51 (by decide) (fun c12 => ?_) (fun c12 => ?_)
      · have h := o_pos c12 h
        refine e_ldc hg dX11_of_63 lk_1245 ?_
        exact m_iret hg hr dX11_of_65 h
      · have h := o_neg c12 h
        refine e_aload_n hg dX11_of_54 rfl ?_
        refine e_iload_n hg dX11_of_55 rfl ?_
        refine e_iload_n hg dX11_of_56 rfl ?_
        obtain ⟨v13, M14, hc15, h⟩ := o_bd h
        refine m_callVI (rest := []) (v := v13) (M' := M14) (ci := 11) hg mfX11_ofThing mvX11_ofThing (X11_ofThing_ok (r := (v13, M14)) hc15) lk_1248 dX11_of_57 io_82 rfl rfl rfl (by omega) (Nat.le_of_ble_eq_true rfl) ?_
        refine e_goto hg 65 dX11_of_60 (by decide) ?_
        exact m_iret hg hr dX11_of_65 h
  · have h := o_neg c4 h
    refine e_aload_n hg dX11_of_12 rfl ?_
    refine e_iload_n hg dX11_of_13 rfl ?_
    obtain ⟨v16, M17, hc18, h⟩ := o_bd h
    refine m_callVI (rest := []) (v := v16) (M' := M17) (ci := 11) hg mfX11_isPerson mvX11_isPerson (X11_isPerson_ok (r := (v16, M17)) hc18) lk_1224 dX11_of_14 io_82 rfl rfl rfl (by omega) (Nat.le_of_ble_eq_true rfl) ?_
    refine e_ifeq hg 29 dX11_of_17 (by decide) (fun c19 => ?_) (fun c19 => ?_)
    · have h := o_pos c19 h
      refine e_ldc hg dX11_of_29 lk_1245 ?_
      exact m_iret hg hr dX11_of_31 h
    · have h := o_neg c19 h
      refine e_aload_n hg dX11_of_20 rfl ?_
      refine e_iload_n hg dX11_of_21 rfl ?_
      refine e_iload_n hg dX11_of_22 rfl ?_
      obtain ⟨v20, M21, hc22, h⟩ := o_bd h
      refine m_callVI (rest := []) (v := v20) (M' := M21) (ci := 11) hg mfX11_ofPerson mvX11_ofPerson (X11_ofPerson_ok (r := (v20, M21)) hc22) lk_1241 dX11_of_23 io_82 rfl rfl rfl (by omega) (Nat.le_of_ble_eq_true rfl) ?_
      refine e_goto hg 31 dX11_of_26 (by decide) ?_
      exact m_iret hg hr dX11_of_31 h

def X11_feed (a1 : Int32) (M : mm) : Option (Int32 × mm) :=
  bd (X11_within (a1.toInt64) 0 255 M) fun v1 M2 =>
  if v1 = 0 then
    some ((-1), M2)
  else
    if (M2.1 82 24) = 120 then
      some ((-3), M2)
    else
      gd (inb (M2.1 82 24) 120) <|
      lt_ (sA M2 98 (upd (M2.1 98) (M2.1 82 24).toNatClampNeg a1)) fun M7 =>
      lt_ (sA M7 82 (upd (M7.1 82) 24 ((M7.1 82 24) + 1))) fun M8 =>
      some ((M8.1 82 24), M8)
set_option maxRecDepth 100000 in
set_option maxHeartbeats 4000000 in
theorem X11_feed_ok {a1 : Int32} {M : mm} {r : Int32 × mm} (h : X11_feed a1 M = some r) : CM yX11_feed cX11_feed 2 (some .int) 1 [.ref 82, .int a1] (cells M) (some (.int r.1)) (cells r.2) := by
  refine cm_of (ls := [some (.ref 82), some (.int a1)]) mfX11_feed rfl (Nat.le_of_ble_eq_true rfl) (fun g hg hr => ?_)
  unfold X11_feed at h
  refine e_iload_n hg dX11_feed_0 rfl ?_
  refine e_i2l hg dX11_feed_1 ?_
  refine e_lconst (v := 0) hg dX11_feed_2 (by decide) ?_
  refine e_ldc2 hg dX11_feed_3 lk_1303 ?_
  obtain ⟨v1, M2, hc3, h⟩ := o_bd h
  refine m_callSI (rest := []) (v := v1) (M' := M2) hg mfX11_within mvX11_within (X11_within_ok (r := (v1, M2)) hc3) lk_1190 dX11_feed_6 rfl rfl (by omega) (Nat.le_of_ble_eq_true rfl) ?_
  refine e_ifne hg 14 dX11_feed_9 (by decide) (fun c4 => ?_) (fun c4 => ?_)
  · have h := o_pos c4 h
    refine e_iconst (v := -1) hg dX11_feed_12 (by decide) ?_
    exact m_iret hg hr dX11_feed_13 h
  · have h := o_neg c4 h
    refine e_aload_n hg dX11_feed_14 rfl ?_
    refine m_getI hg ciX11 24 lk_1010 dX11_feed_15 io_82 (Nat.le_of_ble_eq_true rfl) rfl ?_
    refine e_bipush (v := 120) hg dX11_feed_18 (by decide) ?_
    refine e_icmpne hg 26 dX11_feed_20 (by decide) (fun c5 => ?_) (fun c5 => ?_)
    · have h := o_pos c5 h
      refine e_bipush (v := -3) hg dX11_feed_23 (by decide) ?_
      exact m_iret hg hr dX11_feed_25 h
    · have h := o_neg c5 h
      refine e_aload_n hg dX11_feed_26 rfl ?_
      refine m_getR (q := 98) hg ciX11 23 lk_1009 dX11_feed_27 io_82 (Nat.le_of_ble_eq_true rfl) rfl rf_82_23 ?_
      refine e_aload_n hg dX11_feed_30 rfl ?_
      refine m_getI hg ciX11 24 lk_1010 dX11_feed_31 io_82 (Nat.le_of_ble_eq_true rfl) rfl ?_
      refine e_iload_n hg dX11_feed_34 rfl ?_
      obtain ⟨hi6, h⟩ := o_gd h
      obtain ⟨M7, hM7, h⟩ := o_lt h
      refine m_iast hg sh_98 hi6 dX11_feed_35 ?_
      rw [← hM7]
      refine e_aload_n hg dX11_feed_36 rfl ?_
      refine e_dup hg dX11_feed_37 rfl ?_
      refine m_getI hg ciX11 24 lk_1010 dX11_feed_38 io_82 (Nat.le_of_ble_eq_true rfl) rfl ?_
      refine e_iconst (v := 1) hg dX11_feed_41 (by decide) ?_
      refine e_iadd hg dX11_feed_42 ?_
      obtain ⟨M8, hM8, h⟩ := o_lt h
      refine m_putI hg ciX11 24 lk_1010 dX11_feed_43 io_82 (Nat.le_of_ble_eq_true rfl) rfl rfl rfl rfl ?_
      rw [← hM8]
      refine e_aload_n hg dX11_feed_46 rfl ?_
      refine m_getI hg ciX11 24 lk_1010 dX11_feed_47 io_82 (Nat.le_of_ble_eq_true rfl) rfl ?_
      exact m_iret hg hr dX11_feed_50 h

def X11_law_L37 (K60 : Int32 → mm → Option (Int32 × mm)) : Nat → Int32 → Int32 → mm → Option (Int32 × mm)
  | 0, _, _, _ => none
  | n_ + 1, x2, x3, M =>
    if x3 < x2 then
      gd (inb x3 120) <|
      gd (inb x3 120) <|
      lt_ (sA M 99 (upd (M.1 99) x3.toNatClampNeg (M.1 98 x3.toNatClampNeg))) fun M9 =>
      (X11_law_L37 K60 n_) x2 (x3 + 1) M9
    else
      K60 x2 M
set_option maxRecDepth 100000 in
set_option maxHeartbeats 4000000 in
theorem X11_law_L37_ok {g : gx} (hg : EC g cX11_law RX11 104) {r : Int32 × mm} (hr : RT g (some .int) (0, 0) (some (.int r.1)) (cells r.2)) {K60 : Int32 → mm → Option (Int32 × mm)} (hK60 : ∀ (x2 : Int32) (o1 : Option Value) (o3 : Option Value) (M : mm), K60 x2 M = some r → E g (0, 0) 60 [some (.ref 82), o1, some (.int x2), o3] [] (cells M)) : ∀ (n_ : Nat) (x2 : Int32) (x3 : Int32) (o1 : Option Value) (M : mm), X11_law_L37 K60 n_ x2 x3 M = some r → E g (0, 0) 37 [some (.ref 82), o1, some (.int x2), some (.int x3)] [] (cells M) := by
  intro n_
  induction n_ with
  | zero => intro x2 x3 o1 M h; exact o_no h
  | succ n_ ih =>
    intro x2 x3 o1 M h
    rw [X11_law_L37] at h
    refine e_iload_n hg dX11_law_37 rfl ?_
    refine e_iload_n hg dX11_law_38 rfl ?_
    refine e_icmpge hg 60 dX11_law_39 (by decide) (fun c6 => ?_) (fun c6 => ?_)
    · have h := o_pos c6 h
      refine e_aload_n hg dX11_law_42 rfl ?_
      refine m_getR (q := 99) hg ciX11 25 lk_1011 dX11_law_43 io_82 (Nat.le_of_ble_eq_true rfl) rfl rf_82_25 ?_
      refine e_iload_n hg dX11_law_46 rfl ?_
      refine e_aload_n hg dX11_law_47 rfl ?_
      refine m_getR (q := 98) hg ciX11 23 lk_1009 dX11_law_48 io_82 (Nat.le_of_ble_eq_true rfl) rfl rf_82_23 ?_
      refine e_iload_n hg dX11_law_51 rfl ?_
      obtain ⟨hi7, h⟩ := o_gd h
      refine m_iald hg sh_98 hi7 dX11_law_52 ?_
      obtain ⟨hi8, h⟩ := o_gd h
      obtain ⟨M9, hM9, h⟩ := o_lt h
      refine m_iast hg sh_99 hi8 dX11_law_53 ?_
      rw [← hM9]
      refine e_iinc (v := (x3 + 1)) (ls' := [some (.ref 82), o1, some (.int x2), some (.int (x3 + 1))]) hg dX11_law_54 rfl rfl rfl ?_
      refine e_goto hg 37 dX11_law_57 (by decide) ?_
      exact ih _ _ _ _ h
    · have h := o_neg c6 h
      exact hK60 _ _ _ _ h

def X11_law  (M : mm) : Option (Int32 × mm) :=
  bd (X11_workOut (-1) (M.1 82 24) M) fun v1 M2 =>
  lt_ (sA M2 82 (upd (M2.1 82) 24 0)) fun M4 =>
  if (M4.1 82 30) < 0 then
    X11_law_L37 (fun x2 M =>
        lt_ (sA M 82 (upd (M.1 82) 26 x2)) fun M10 =>
        some (1, M10)) 10000 (M2.1 82 24) 0 M4
  else
    some (((-100) - (M4.1 82 30)), M4)
set_option maxRecDepth 100000 in
set_option maxHeartbeats 4000000 in
theorem X11_law_ok  {M : mm} {r : Int32 × mm} (h : X11_law  M = some r) : CM yX11_law cX11_law 4 (some .int) 104 [.ref 82] (cells M) (some (.int r.1)) (cells r.2) := by
  refine cm_of (ls := [some (.ref 82), none, none, none]) mfX11_law rfl (Nat.le_of_ble_eq_true rfl) (fun g hg hr => ?_)
  unfold X11_law at h
  refine e_aload_n hg dX11_law_0 rfl ?_
  refine e_iconst (v := -1) hg dX11_law_1 (by decide) ?_
  refine e_aload_n hg dX11_law_2 rfl ?_
  refine m_getI hg ciX11 24 lk_1010 dX11_law_3 io_82 (Nat.le_of_ble_eq_true rfl) rfl ?_
  obtain ⟨v1, M2, hc3, h⟩ := o_bd h
  refine m_callVI (rest := []) (v := v1) (M' := M2) (ci := 11) hg mfX11_workOut mvX11_workOut (X11_workOut_ok (r := (v1, M2)) hc3) lk_1256 dX11_law_6 io_82 rfl rfl rfl (by omega) (Nat.le_of_ble_eq_true rfl) ?_
  refine e_istore_n (ls' := [some (.ref 82), some (.int v1), none, none]) hg dX11_law_9 rfl ?_
  refine e_aload_n hg dX11_law_10 rfl ?_
  refine m_getI hg ciX11 24 lk_1010 dX11_law_11 io_82 (Nat.le_of_ble_eq_true rfl) rfl ?_
  refine e_istore_n (ls' := [some (.ref 82), some (.int v1), some (.int (M2.1 82 24)), none]) hg dX11_law_14 rfl ?_
  refine e_aload_n hg dX11_law_15 rfl ?_
  refine e_iconst (v := 0) hg dX11_law_16 (by decide) ?_
  obtain ⟨M4, hM4, h⟩ := o_lt h
  refine m_putI hg ciX11 24 lk_1010 dX11_law_17 io_82 (Nat.le_of_ble_eq_true rfl) rfl rfl rfl rfl ?_
  rw [← hM4]
  refine e_aload_n hg dX11_law_20 rfl ?_
  refine m_getI hg ciX11 30 lk_1016 dX11_law_21 io_82 (Nat.le_of_ble_eq_true rfl) rfl ?_
  refine e_iflt hg 35 dX11_law_24 (by decide) (fun c5 => ?_) (fun c5 => ?_)
  · have h := o_pos c5 h
    refine e_iconst (v := 0) hg dX11_law_35 (by decide) ?_
    refine e_istore_n (ls' := [some (.ref 82), some (.int v1), some (.int (M2.1 82 24)), some (.int 0)]) hg dX11_law_36 rfl ?_
    refine X11_law_L37_ok hg hr (fun x2 o1 o3 M h => ?_) 10000 _ _ _ _ h
    refine e_aload_n hg dX11_law_60 rfl ?_
    refine e_iload_n hg dX11_law_61 rfl ?_
    obtain ⟨M10, hM10, h⟩ := o_lt h
    refine m_putI hg ciX11 26 lk_1012 dX11_law_62 io_82 (Nat.le_of_ble_eq_true rfl) rfl rfl rfl rfl ?_
    rw [← hM10]
    refine e_iconst (v := 1) hg dX11_law_65 (by decide) ?_
    exact m_iret hg hr dX11_law_66 h
  · have h := o_neg c5 h
    refine e_bipush (v := -100) hg dX11_law_27 (by decide) ?_
    refine e_aload_n hg dX11_law_29 rfl ?_
    refine m_getI hg ciX11 30 lk_1016 dX11_law_30 io_82 (Nat.le_of_ble_eq_true rfl) rfl ?_
    refine e_isub hg dX11_law_33 ?_
    exact m_iret hg hr dX11_law_34 h

def X11_placeOf (a0 : Int32) (a1 : Int32) (a2 : Int32) (a3 : Int32) (M : mm) : Option (Int32 × mm) :=
  some (((((((a0 * 4) + a1) * 3) + a2) * 100) + a3), M)
set_option maxRecDepth 100000 in
set_option maxHeartbeats 4000000 in
theorem X11_placeOf_ok {a0 : Int32} {a1 : Int32} {a2 : Int32} {a3 : Int32} {M : mm} {r : Int32 × mm} (h : X11_placeOf a0 a1 a2 a3 M = some r) : CM yX11_placeOf cX11_placeOf 4 (some .int) 0 [.int a0, .int a1, .int a2, .int a3] (cells M) (some (.int r.1)) (cells r.2) := by
  refine cm_of (ls := [some (.int a0), some (.int a1), some (.int a2), some (.int a3)]) mfX11_placeOf rfl (Nat.le_of_ble_eq_true rfl) (fun g hg hr => ?_)
  unfold X11_placeOf at h
  refine e_iload_n hg dX11_placeOf_0 rfl ?_
  refine e_iconst (v := 4) hg dX11_placeOf_1 (by decide) ?_
  refine e_imul hg dX11_placeOf_2 ?_
  refine e_iload_n hg dX11_placeOf_3 rfl ?_
  refine e_iadd hg dX11_placeOf_4 ?_
  refine e_iconst (v := 3) hg dX11_placeOf_5 (by decide) ?_
  refine e_imul hg dX11_placeOf_6 ?_
  refine e_iload_n hg dX11_placeOf_7 rfl ?_
  refine e_iadd hg dX11_placeOf_8 ?_
  refine e_bipush (v := 100) hg dX11_placeOf_9 (by decide) ?_
  refine e_imul hg dX11_placeOf_11 ?_
  refine e_iload_n hg dX11_placeOf_12 rfl ?_
  refine e_iadd hg dX11_placeOf_13 ?_
  exact m_iret hg hr dX11_placeOf_14 h

def X11_wearsAt (a1 : Int32) (a2 : Int32) (a3 : Int32) (M : mm) : Option (Int32 × mm) :=
  if a2 = 2 then
    gd (inb ((((a1 * 2) + 0) * 100) + a3) 800) <|
    some ((M.1 102 ((((a1 * 2) + 0) * 100) + a3).toNatClampNeg), M)
  else
    gd (inb ((((a1 * 2) + 1) * 100) + a3) 800) <|
    some ((M.1 102 ((((a1 * 2) + 1) * 100) + a3).toNatClampNeg), M)
set_option maxRecDepth 100000 in
set_option maxHeartbeats 4000000 in
theorem X11_wearsAt_ok {a1 : Int32} {a2 : Int32} {a3 : Int32} {M : mm} {r : Int32 × mm} (h : X11_wearsAt a1 a2 a3 M = some r) : CM yX11_wearsAt cX11_wearsAt 4 (some .int) 0 [.ref 82, .int a1, .int a2, .int a3] (cells M) (some (.int r.1)) (cells r.2) := by
  refine cm_of (ls := [some (.ref 82), some (.int a1), some (.int a2), some (.int a3)]) mfX11_wearsAt rfl (Nat.le_of_ble_eq_true rfl) (fun g hg hr => ?_)
  unfold X11_wearsAt at h
  refine e_aload_n hg dX11_wearsAt_0 rfl ?_
  refine m_getR (q := 102) hg ciX11 34 lk_1020 dX11_wearsAt_1 io_82 (Nat.le_of_ble_eq_true rfl) rfl rf_82_34 ?_
  refine e_iload_n hg dX11_wearsAt_4 rfl ?_
  refine e_iconst (v := 2) hg dX11_wearsAt_5 (by decide) ?_
  refine e_imul hg dX11_wearsAt_6 ?_
  refine e_iload_n hg dX11_wearsAt_7 rfl ?_
  refine e_iconst (v := 2) hg dX11_wearsAt_8 (by decide) ?_
  refine e_icmpne hg 16 dX11_wearsAt_9 (by decide) (fun c1 => ?_) (fun c1 => ?_)
  · have h := o_pos c1 h
    refine e_iconst (v := 0) hg dX11_wearsAt_12 (by decide) ?_
    refine e_goto hg 17 dX11_wearsAt_13 (by decide) ?_
    refine e_iadd hg dX11_wearsAt_17 ?_
    refine e_bipush (v := 100) hg dX11_wearsAt_18 (by decide) ?_
    refine e_imul hg dX11_wearsAt_20 ?_
    refine e_iload_n hg dX11_wearsAt_21 rfl ?_
    refine e_iadd hg dX11_wearsAt_22 ?_
    obtain ⟨hi2, h⟩ := o_gd h
    refine m_iald hg sh_102 hi2 dX11_wearsAt_23 ?_
    exact m_iret hg hr dX11_wearsAt_24 h
  · have h := o_neg c1 h
    refine e_iconst (v := 1) hg dX11_wearsAt_16 (by decide) ?_
    refine e_iadd hg dX11_wearsAt_17 ?_
    refine e_bipush (v := 100) hg dX11_wearsAt_18 (by decide) ?_
    refine e_imul hg dX11_wearsAt_20 ?_
    refine e_iload_n hg dX11_wearsAt_21 rfl ?_
    refine e_iadd hg dX11_wearsAt_22 ?_
    obtain ⟨hi3, h⟩ := o_gd h
    refine m_iald hg sh_102 hi3 dX11_wearsAt_23 ?_
    exact m_iret hg hr dX11_wearsAt_24 h

