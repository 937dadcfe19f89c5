def X10_person (a1 : Int32) (a2 : Int32) (M : mm) : Option (Int32 × mm) :=
  if a1 < 1 then
    some ((-1), M)
  else
    if 3 < a1 then
      some ((-1), M)
    else
      if a2 < 0 then
        some ((-1), M)
      else
        if 99 < a2 then
          some ((-1), M)
        else
          if (M.1 1 0) < 5 then
            bd (X3_addPerson a1 a2 M) fun v6 M7 =>
            some (v6, M7)
          else
            some ((-3), M)
set_option maxRecDepth 100000 in
set_option maxHeartbeats 4000000 in
theorem X10_person_ok {a1 : Int32} {a2 : Int32} {M : mm} {r : Int32 × mm} (h : X10_person a1 a2 M = some r) : CM yX10_person cX10_person 3 (some .int) 1 [.ref 0, .int a1, .int a2] (cells M) (some (.int r.1)) (cells r.2) := by
  refine cm_of (ls := [some (.ref 0), some (.int a1), some (.int a2)]) mfX10_person rfl (Nat.le_of_ble_eq_true rfl) (fun g hg hr => ?_)
  unfold X10_person at h
  refine e_iload_n hg dX10_person_0 rfl ?_
  refine e_iconst (v := 1) hg dX10_person_1 (by decide) ?_
  refine e_icmplt hg 20 dX10_person_2 (by decide) (fun c1 => ?_) (fun c1 => ?_)
  · have h := o_pos c1 h
    refine e_iconst (v := -1) hg dX10_person_20 (by decide) ?_
    exact m_iret hg hr dX10_person_21 h
  · have h := o_neg c1 h
    refine e_iload_n hg dX10_person_5 rfl ?_
    refine e_iconst (v := 3) hg dX10_person_6 (by decide) ?_
    refine e_icmpgt hg 20 dX10_person_7 (by decide) (fun c2 => ?_) (fun c2 => ?_)
    · have h := o_pos c2 h
      refine e_iconst (v := -1) hg dX10_person_20 (by decide) ?_
      exact m_iret hg hr dX10_person_21 h
    · have h := o_neg c2 h
      refine e_iload_n hg dX10_person_10 rfl ?_
      refine e_iflt hg 20 dX10_person_11 (by decide) (fun c3 => ?_) (fun c3 => ?_)
      · have h := o_pos c3 h
        refine e_iconst (v := -1) hg dX10_person_20 (by decide) ?_
        exact m_iret hg hr dX10_person_21 h
      · have h := o_neg c3 h
        refine e_iload_n hg dX10_person_14 rfl ?_
        refine e_bipush (v := 99) hg dX10_person_15 (by decide) ?_
        refine e_icmple hg 22 dX10_person_17 (by decide) (fun c4 => ?_) (fun c4 => ?_)
        · have h := o_pos c4 h
          refine e_iconst (v := -1) hg dX10_person_20 (by decide) ?_
          exact m_iret hg hr dX10_person_21 h
        · have h := o_neg c4 h
          refine e_aload_n hg dX10_person_22 rfl ?_
          refine m_getR (q := 1) hg ciX10 0 lk_452 dX10_person_23 io_0 (Nat.le_of_ble_eq_true rfl) rfl rf_0_0 ?_
          refine m_getI hg ciX3 0 lk_97 dX10_person_26 io_1 (Nat.le_of_ble_eq_true rfl) rfl ?_
          refine e_iconst (v := 5) hg dX10_person_29 (by decide) ?_
          refine e_icmplt hg 36 dX10_person_30 (by decide) (fun c5 => ?_) (fun c5 => ?_)
          · have h := o_pos c5 h
            refine e_aload_n hg dX10_person_36 rfl ?_
            refine m_getR (q := 1) hg ciX10 0 lk_452 dX10_person_37 io_0 (Nat.le_of_ble_eq_true rfl) rfl rf_0_0 ?_
            refine e_iload_n hg dX10_person_40 rfl ?_
            refine e_iload_n hg dX10_person_41 rfl ?_
            obtain ⟨v6, M7, hc8, h⟩ := o_bd h
            refine m_callVI (rest := []) (v := v6) (M' := M7) (ci := 3) hg mfX3_addPerson mvX3_addPerson (X3_addPerson_ok (r := (v6, M7)) hc8) lk_496 dX10_person_42 io_1 rfl rfl rfl (by omega) (Nat.le_of_ble_eq_true rfl) ?_
            exact m_iret hg hr dX10_person_45 h
          · have h := o_neg c5 h
            refine e_bipush (v := -3) hg dX10_person_33 (by decide) ?_
            exact m_iret hg hr dX10_person_35 h

def X10_addThing (a1 : Int32) (a2 : Int32) (a3 : Int32) (M : mm) : Option (Int32 × mm) :=
  bd (X3_hasPerson a1 M) fun v1 M2 =>
  if v1 = 0 then
    some ((-1), M2)
  else
    if a2 < 0 then
      some ((-1), M2)
    else
      if 99 < a2 then
        some ((-1), M2)
      else
        if a3 < 0 then
          some ((-1), M2)
        else
          if 99 < a3 then
            some ((-1), M2)
          else
            if (M2.1 1 1) < 6 then
              bd (X3_addThing a1 a2 a3 M2) fun v10 M11 =>
              bd (X9_makeWhole 28 v10 M11) fun u13 M14 =>
              some (v10, M14)
            else
              some ((-3), M2)
set_option maxRecDepth 100000 in
set_option maxHeartbeats 4000000 in
theorem X10_addThing_ok {a1 : Int32} {a2 : Int32} {a3 : Int32} {M : mm} {r : Int32 × mm} (h : X10_addThing a1 a2 a3 M = some r) : CM yX10_addThing cX10_addThing 5 (some .int) 1 [.ref 0, .int a1, .int a2, .int a3] (cells M) (some (.int r.1)) (cells r.2) := by
  refine cm_of (ls := [some (.ref 0), some (.int a1), some (.int a2), some (.int a3), none]) mfX10_addThing rfl (Nat.le_of_ble_eq_true rfl) (fun g hg hr => ?_)
  unfold X10_addThing at h
  refine e_aload_n hg dX10_addThing_0 rfl ?_
  refine m_getR (q := 1) hg ciX10 0 lk_452 dX10_addThing_1 io_0 (Nat.le_of_ble_eq_true rfl) rfl rf_0_0 ?_
  refine e_iload_n hg dX10_addThing_4 rfl ?_
  obtain ⟨v1, M2, hc3, h⟩ := o_bd h
  refine m_callVI (rest := []) (v := v1) (M' := M2) (ci := 3) hg mfX3_hasPerson mvX3_hasPerson (X3_hasPerson_ok (r := (v1, M2)) hc3) lk_508 dX10_addThing_5 io_1 rfl rfl rfl (by omega) (Nat.le_of_ble_eq_true rfl) ?_
  refine e_ifeq hg 31 dX10_addThing_8 (by decide) (fun c4 => ?_) (fun c4 => ?_)
  · have h := o_pos c4 h
    refine e_iconst (v := -1) hg dX10_addThing_31 (by decide) ?_
    exact m_iret hg hr dX10_addThing_32 h
  · have h := o_neg c4 h
    refine e_iload_n hg dX10_addThing_11 rfl ?_
    refine e_iflt hg 31 dX10_addThing_12 (by decide) (fun c5 => ?_) (fun c5 => ?_)
    · have h := o_pos c5 h
      refine e_iconst (v := -1) hg dX10_addThing_31 (by decide) ?_
      exact m_iret hg hr dX10_addThing_32 h
    · have h := o_neg c5 h
      refine e_iload_n hg dX10_addThing_15 rfl ?_
      refine e_bipush (v := 99) hg dX10_addThing_16 (by decide) ?_
      refine e_icmpgt hg 31 dX10_addThing_18 (by decide) (fun c6 => ?_) (fun c6 => ?_)
      · have h := o_pos c6 h
        refine e_iconst (v := -1) hg dX10_addThing_31 (by decide) ?_
        exact m_iret hg hr dX10_addThing_32 h
      · have h := o_neg c6 h
        refine e_iload_n hg dX10_addThing_21 rfl ?_
        refine e_iflt hg 31 dX10_addThing_22 (by decide) (fun c7 => ?_) (fun c7 => ?_)
        · have h := o_pos c7 h
          refine e_iconst (v := -1) hg dX10_addThing_31 (by decide) ?_
          exact m_iret hg hr dX10_addThing_32 h
        · have h := o_neg c7 h
          refine e_iload_n hg dX10_addThing_25 rfl ?_
          refine e_bipush (v := 99) hg dX10_addThing_26 (by decide) ?_
          refine e_icmple hg 33 dX10_addThing_28 (by decide) (fun c8 => ?_) (fun c8 => ?_)
          · have h := o_pos c8 h
            refine e_iconst (v := -1) hg dX10_addThing_31 (by decide) ?_
            exact m_iret hg hr dX10_addThing_32 h
          · have h := o_neg c8 h
            refine e_aload_n hg dX10_addThing_33 rfl ?_
            refine m_getR (q := 1) hg ciX10 0 lk_452 dX10_addThing_34 io_0 (Nat.le_of_ble_eq_true rfl) rfl rf_0_0 ?_
            refine m_getI hg ciX3 1 lk_100 dX10_addThing_37 io_1 (Nat.le_of_ble_eq_true rfl) rfl ?_
            refine e_bipush (v := 6) hg dX10_addThing_40 (by decide) ?_
            refine e_icmplt hg 48 dX10_addThing_42 (by decide) (fun c9 => ?_) (fun c9 => ?_)
            · have h := o_pos c9 h
              refine e_aload_n hg dX10_addThing_48 rfl ?_
              refine m_getR (q := 1) hg ciX10 0 lk_452 dX10_addThing_49 io_0 (Nat.le_of_ble_eq_true rfl) rfl rf_0_0 ?_
              refine e_iload_n hg dX10_addThing_52 rfl ?_
              refine e_iload_n hg dX10_addThing_53 rfl ?_
              refine e_iload_n hg dX10_addThing_54 rfl ?_
              obtain ⟨v10, M11, hc12, h⟩ := o_bd h
              refine m_callVI (rest := []) (v := v10) (M' := M11) (ci := 3) hg mfX3_addThing mvX3_addThing (X3_addThing_ok (r := (v10, M11)) hc12) lk_512 dX10_addThing_55 io_1 rfl rfl rfl (by omega) (Nat.le_of_ble_eq_true rfl) ?_
              refine e_istore (ls' := [some (.ref 0), some (.int a1), some (.int a2), some (.int a3), some (.int v10)]) hg dX10_addThing_58 rfl ?_
              refine e_aload_n hg dX10_addThing_60 rfl ?_
              refine m_getR (q := 28) hg ciX10 4 lk_456 dX10_addThing_61 io_0 (Nat.le_of_ble_eq_true rfl) rfl rf_0_4 ?_
              refine e_iload hg dX10_addThing_64 rfl ?_
              obtain ⟨u13, M14, hc15, h⟩ := o_bd h
              refine m_callVV (rest := []) (M' := M14) (ci := 9) hg mfX9_makeWhole mvX9_makeWhole (X9_makeWhole_ok (r := (u13, M14)) hc15) lk_516 dX10_addThing_66 io_28 rfl rfl rfl (by omega) (Nat.le_of_ble_eq_true rfl) ?_
              refine e_iload hg dX10_addThing_69 rfl ?_
              exact m_iret hg hr dX10_addThing_71 h
            · have h := o_neg c9 h
              refine e_bipush (v := -3) hg dX10_addThing_45 (by decide) ?_
              exact m_iret hg hr dX10_addThing_47 h

def X10_thing (a1 : Int32) (a2 : Int32) (M : mm) : Option (Int32 × mm) :=
  bd (X10_addThing a1 (a2 / 100) (a2 - a2 / 100 * 100) M) fun v1 M2 =>
  some (v1, M2)
set_option maxRecDepth 100000 in
set_option maxHeartbeats 4000000 in
theorem X10_thing_ok {a1 : Int32} {a2 : Int32} {M : mm} {r : Int32 × mm} (h : X10_thing a1 a2 M = some r) : CM yX10_thing cX10_thing 3 (some .int) 2 [.ref 0, .int a1, .int a2] (cells M) (some (.int r.1)) (cells r.2) := by
  refine cm_of (ls := [some (.ref 0), some (.int a1), some (.int a2)]) mfX10_thing rfl (Nat.le_of_ble_eq_true rfl) (fun g hg hr => ?_)
  unfold X10_thing at h
  refine e_aload_n hg dX10_thing_0 rfl ?_
  refine e_iload_n hg dX10_thing_1 rfl ?_
  refine e_iload_n hg dX10_thing_2 rfl ?_
  refine e_bipush (v := 100) hg dX10_thing_3 (by decide) ?_
  refine e_idiv hg dX10_thing_5 (by decide) ?_
  refine e_iload_n hg dX10_thing_6 rfl ?_
  refine e_bipush (v := 100) hg dX10_thing_7 (by decide) ?_
  refine e_irem hg dX10_thing_9 (by decide) ?_
  obtain ⟨v1, M2, hc3, h⟩ := o_bd h
  refine m_callVI (rest := []) (v := v1) (M' := M2) (ci := 10) hg mfX10_addThing mvX10_addThing (X10_addThing_ok (r := (v1, M2)) hc3) lk_504 dX10_thing_10 io_0 rfl rfl rfl (by omega) (Nat.le_of_ble_eq_true rfl) ?_
  exact m_iret hg hr dX10_thing_13 h

def X10_shelfAt (a1 : Int32) (M : mm) : Option (Option Nat × mm) :=
  if a1 < 0 then
    some (none, M)
  else
    if a1 < 6 then
      gd (inb a1 6) <|
      some ((some (70 + 2 * a1.toNatClampNeg)), M)
    else
      some (none, M)
set_option maxRecDepth 100000 in
set_option maxHeartbeats 4000000 in
theorem X10_shelfAt_ok {a1 : Int32} {M : mm} {r : Option Nat × mm} (h : X10_shelfAt a1 M = some r) : CM yX10_shelfAt cX10_shelfAt 2 (some (.object "LastMender$Shelf")) 0 [.ref 0, .int a1] (cells M) (some (vo r.1)) (cells r.2) := by
  refine cm_of (ls := [some (.ref 0), some (.int a1)]) mfX10_shelfAt rfl (Nat.le_of_ble_eq_true rfl) (fun g hg hr => ?_)
  unfold X10_shelfAt at h
  refine e_iload_n hg dX10_shelfAt_0 rfl ?_
  refine e_iflt hg 19 dX10_shelfAt_1 (by decide) (fun c1 => ?_) (fun c1 => ?_)
  · have h := o_pos c1 h
    refine e_null hg dX10_shelfAt_19 ?_
    exact m_aret (v := none) hg (Or.inl ⟨_, rfl⟩) hr dX10_shelfAt_20 h
  · have h := o_neg c1 h
    refine e_iload_n hg dX10_shelfAt_4 rfl ?_
    refine e_bipush (v := 6) hg dX10_shelfAt_5 (by decide) ?_
    refine e_icmpge hg 19 dX10_shelfAt_7 (by decide) (fun c2 => ?_) (fun c2 => ?_)
    · have h := o_pos c2 h
      refine e_aload_n hg dX10_shelfAt_10 rfl ?_
      refine m_getR (q := 69) hg ciX10 9 lk_461 dX10_shelfAt_11 io_0 (Nat.le_of_ble_eq_true rfl) rfl rf_0_9 ?_
      refine e_iload_n hg dX10_shelfAt_14 rfl ?_
      obtain ⟨hi3, h⟩ := o_gd h
      refine m_aald hg hi3 dX10_shelfAt_15 ?_
      refine e_goto hg 20 dX10_shelfAt_16 (by decide) ?_
      exact m_aret (v := (some (70 + 2 * a1.toNatClampNeg))) hg (Or.inl ⟨_, rfl⟩) hr dX10_shelfAt_20 h
    · have h := o_neg c2 h
      refine e_null hg dX10_shelfAt_19 ?_
      exact m_aret (v := none) hg (Or.inl ⟨_, rfl⟩) hr dX10_shelfAt_20 h

def X10_things_L59 (a1 : Int32) (a2 : Int32) (a3 : Int32) (K115 : Int32 → mm → Option (Int32 × mm)) : Nat → Nat → Int32 → Int32 → mm → Option (Int32 × mm)
  | 0, _, _, _, _ => none
  | n_ + 1, x4, x5, x6, M =>
    if x5 < a3 then
      gd (isO 6 x4) <|
      if ((M.1 x4 3) - 3) < x6 then
        some (x5, M)
      else
        gd (inb x6 60) <|
        gd (inb (x6 + 1) 60) <|
        gd (inb (x6 + 2) 60) <|
        bd (X10_addThing ((M.2.1 (x4 + 1) x6.toNatClampNeg).toInt32) ((M.2.1 (x4 + 1) (x6 + 1).toNatClampNeg).toInt32) ((M.2.1 (x4 + 1) (x6 + 2).toNatClampNeg).toInt32) M) fun v20 M21 =>
        if v20 < 0 then
          K115 x5 M21
        else
          (X10_things_L59 a1 a2 a3 K115 n_) x4 (x5 + 1) (x6 + 3) M21
    else
      some (x5, M)
set_option maxRecDepth 100000 in
set_option maxHeartbeats 4000000 in
theorem X10_things_L59_ok {g : gx} (hg : EC g cX10_things RX10 2) {a1 : Int32} {a2 : Int32} {a3 : Int32} {r : Int32 × mm} (hr : RT g (some .int) (0, 0) (some (.int r.1)) (cells r.2)) {K115 : Int32 → mm → Option (Int32 × mm)} (hK115 : ∀ (x5 : Int32) (o4 : Option Value) (o6 : Option Value) (M : mm), K115 x5 M = some r → E g (0, 0) 115 [some (.ref 0), some (.int a1), some (.int a2), some (.int a3), o4, some (.int x5), o6] [] (cells M)) : ∀ (n_ : Nat) (x4 : Nat) (x5 : Int32) (x6 : Int32) (M : mm), X10_things_L59 a1 a2 a3 K115 n_ x4 x5 x6 M = some r → E g (0, 0) 59 [some (.ref 0), some (.int a1), some (.int a2), some (.int a3), some (.ref x4), some (.int x5), some (.int x6)] [] (cells M) := by
  intro n_
  induction n_ with
  | zero => intro x4 x5 x6 M h; exact o_no h
  | succ n_ ih =>
    intro x4 x5 x6 M h
    rw [X10_things_L59] at h
    refine e_iload hg dX10_things_59 rfl ?_
    refine e_iload_n hg dX10_things_61 rfl ?_
    refine e_icmpge hg 127 dX10_things_62 (by decide) (fun c14 => ?_) (fun c14 => ?_)
    · have h := o_pos c14 h
      refine e_iload hg dX10_things_65 rfl ?_
      refine e_aload hg dX10_things_67 rfl ?_
      obtain ⟨ho15, h⟩ := o_gd h
      refine m_getI hg ciX6 3 lk_438 dX10_things_69 ho15 (Nat.le_of_ble_eq_true rfl) rfl ?_
      refine e_iconst (v := 3) hg dX10_things_72 (by decide) ?_
      refine e_isub hg dX10_things_73 ?_
      refine e_icmpgt hg 127 dX10_things_74 (by decide) (fun c16 => ?_) (fun c16 => ?_)
      · have h := o_pos c16 h
        refine e_iload hg dX10_things_127 rfl ?_
        exact m_iret hg hr dX10_things_129 h
      · have h := o_neg c16 h
        refine e_aload_n hg dX10_things_77 rfl ?_
        refine e_aload hg dX10_things_78 rfl ?_
        refine m_getR (q := (x4 + 1)) hg ciX6 4 lk_440 dX10_things_80 ho15 (Nat.le_of_ble_eq_true rfl) rfl (rfF6_4 ho15) ?_
        refine e_iload hg dX10_things_83 rfl ?_
        obtain ⟨hi17, h⟩ := o_gd h
        refine m_lald hg (shF6_1 ho15) hi17 dX10_things_85 ?_
        refine e_l2i hg dX10_things_86 ?_
        refine e_aload hg dX10_things_87 rfl ?_
        refine m_getR (q := (x4 + 1)) hg ciX6 4 lk_440 dX10_things_89 ho15 (Nat.le_of_ble_eq_true rfl) rfl (rfF6_4 ho15) ?_
        refine e_iload hg dX10_things_92 rfl ?_
        refine e_iconst (v := 1) hg dX10_things_94 (by decide) ?_
        refine e_iadd hg dX10_things_95 ?_
        obtain ⟨hi18, h⟩ := o_gd h
        refine m_lald hg (shF6_1 ho15) hi18 dX10_things_96 ?_
        refine e_l2i hg dX10_things_97 ?_
        refine e_aload hg dX10_things_98 rfl ?_
        refine m_getR (q := (x4 + 1)) hg ciX6 4 lk_440 dX10_things_100 ho15 (Nat.le_of_ble_eq_true rfl) rfl (rfF6_4 ho15) ?_
        refine e_iload hg dX10_things_103 rfl ?_
        refine e_iconst (v := 2) hg dX10_things_105 (by decide) ?_
        refine e_iadd hg dX10_things_106 ?_
        obtain ⟨hi19, h⟩ := o_gd h
        refine m_lald hg (shF6_1 ho15) hi19 dX10_things_107 ?_
        refine e_l2i hg dX10_things_108 ?_
        obtain ⟨v20, M21, hc22, h⟩ := o_bd h
        refine m_callVI (rest := []) (v := v20) (M' := M21) (ci := 10) hg mfX10_addThing mvX10_addThing (X10_addThing_ok (r := (v20, M21)) hc22) lk_504 dX10_things_109 io_0 rfl rfl rfl (by omega) (Nat.le_of_ble_eq_true rfl) ?_
        refine e_ifge hg 118 dX10_things_112 (by decide) (fun c23 => ?_) (fun c23 => ?_)
        · have h := o_pos c23 h
          exact hK115 _ _ _ _ h
        · have h := o_neg c23 h
          refine e_iinc (v := (x5 + 1)) (ls' := [some (.ref 0), some (.int a1), some (.int a2), some (.int a3), some (.ref x4), some (.int (x5 + 1)), some (.int x6)]) hg dX10_things_118 rfl rfl rfl ?_
          refine e_iinc (v := (x6 + 3)) (ls' := [some (.ref 0), some (.int a1), some (.int a2), some (.int a3), some (.ref x4), some (.int (x5 + 1)), some (.int (x6 + 3))]) hg dX10_things_121 rfl rfl rfl ?_
          refine e_goto hg 59 dX10_things_124 (by decide) ?_
          exact ih _ _ _ _ h
    · have h := o_neg c14 h
      refine e_iload hg dX10_things_127 rfl ?_
      exact m_iret hg hr dX10_things_129 h

def X10_things (a1 : Int32) (a2 : Int32) (a3 : Int32) (M : mm) : Option (Int32 × mm) :=
  bd (X10_shelfAt a1 M) fun v1 M2 =>
  opt v1 (
    some ((-1), M2)) fun k4 =>
  if a3 < 1 then
    some ((-1), M2)
  else
    if 6 < a3 then
      some ((-1), M2)
    else
      gd (isO 6 k4) <|
      if (M2.1 k4 0) = 0 then
        some (0, M2)
      else
        bd (X6_isRowOf k4 0 M2) fun v9 M10 =>
        if v9 = 0 then
          some ((-12), M10)
        else
          if a2 < 0 then
            some (0, M10)
          else
            X10_things_L59 a1 a2 a3 (fun x5 M =>
                some (x5, M)) 10000 k4 0 a2 M10
set_option maxRecDepth 100000 in
set_option maxHeartbeats 4000000 in
theorem X10_things_ok {a1 : Int32} {a2 : Int32} {a3 : Int32} {M : mm} {r : Int32 × mm} (h : X10_things a1 a2 a3 M = some r) : CM yX10_things cX10_things 7 (some .int) 2 [.ref 0, .int a1, .int a2, .int a3] (cells M) (some (.int r.1)) (cells r.2) := by
  refine cm_of (ls := [some (.ref 0), some (.int a1), some (.int a2), some (.int a3), none, none, none]) mfX10_things rfl (Nat.le_of_ble_eq_true rfl) (fun g hg hr => ?_)
  unfold X10_things at h
  refine e_aload_n hg dX10_things_0 rfl ?_
  refine e_iload_n hg dX10_things_1 rfl ?_
  obtain ⟨v1, M2, hc3, h⟩ := o_bd h
  refine m_callVO (rest := []) (v := v1) (M' := M2) (ci := 10) hg mfX10_shelfAt mvX10_shelfAt (X10_shelfAt_ok (r := (v1, M2)) hc3) lk_524 dX10_things_2 io_0 rfl rfl rfl (by omega) (Nat.le_of_ble_eq_true rfl) ?_
  refine e_astoreV (ls' := [some (.ref 0), some (.int a1), some (.int a2), some (.int a3), some (vo v1), none, none]) hg dX10_things_5 rfl ?_
  refine e_aloadV hg dX10_things_7 rfl ?_
  rcases v1 with _ | k4
  · have h := o_opt0 h
    refine e_ifnull0 hg 23 dX10_things_9 (by decide) ?_
    refine e_iconst (v := -1) hg dX10_things_23 (by decide) ?_
    exact m_iret hg hr dX10_things_24 h
  · have h := o_opt1 h
    refine e_ifnull hg dX10_things_9 ?_
    refine e_iload_n hg dX10_things_12 rfl ?_
    refine e_iconst (v := 1) hg dX10_things_13 (by decide) ?_
    refine e_icmplt hg 23 dX10_things_14 (by decide) (fun c5 => ?_) (fun c5 => ?_)
    · have h := o_pos c5 h
      refine e_iconst (v := -1) hg dX10_things_23 (by decide) ?_
      exact m_iret hg hr dX10_things_24 h
    · have h := o_neg c5 h
      refine e_iload_n hg dX10_things_17 rfl ?_
      refine e_bipush (v := 6) hg dX10_things_18 (by decide) ?_
      refine e_icmple hg 25 dX10_things_20 (by decide) (fun c6 => ?_) (fun c6 => ?_)
      · have h := o_pos c6 h
        refine e_iconst (v := -1) hg dX10_things_23 (by decide) ?_
        exact m_iret hg hr dX10_things_24 h
      · have h := o_neg c6 h
        refine e_aload hg dX10_things_25 rfl ?_
        obtain ⟨ho7, h⟩ := o_gd h
        refine m_getI hg ciX6 0 lk_432 dX10_things_27 ho7 (Nat.le_of_ble_eq_true rfl) rfl ?_
        refine e_ifne hg 35 dX10_things_30 (by decide) (fun c8 => ?_) (fun c8 => ?_)
        · have h := o_pos c8 h
          refine e_iconst (v := 0) hg dX10_things_33 (by decide) ?_
          exact m_iret hg hr dX10_things_34 h
        · have h := o_neg c8 h
          refine e_aload hg dX10_things_35 rfl ?_
          refine e_iconst (v := 0) hg dX10_things_37 (by decide) ?_
          obtain ⟨v9, M10, hc11, h⟩ := o_bd h
          refine m_callVI (rest := []) (v := v9) (M' := M10) (ci := 6) hg mfX6_isRowOf mvX6_isRowOf (X6_isRowOf_ok (r := (v9, M10)) hc11) lk_528 dX10_things_38 ho7 rfl rfl rfl (by omega) (Nat.le_of_ble_eq_true rfl) ?_
          refine e_ifne hg 47 dX10_things_41 (by decide) (fun c12 => ?_) (fun c12 => ?_)
          · have h := o_pos c12 h
            refine e_bipush (v := -12) hg dX10_things_44 (by decide) ?_
            exact m_iret hg hr dX10_things_46 h
          · have h := o_neg c12 h
            refine e_iload_n hg dX10_things_47 rfl ?_
            refine e_ifge hg 53 dX10_things_48 (by decide) (fun c13 => ?_) (fun c13 => ?_)
            · have h := o_pos c13 h
              refine e_iconst (v := 0) hg dX10_things_51 (by decide) ?_
              exact m_iret hg hr dX10_things_52 h
            · have h := o_neg c13 h
              refine e_iconst (v := 0) hg dX10_things_53 (by decide) ?_
              refine e_istore (ls' := [some (.ref 0), some (.int a1), some (.int a2), some (.int a3), some (.ref k4), some (.int 0), none]) hg dX10_things_54 rfl ?_
              refine e_iload_n hg dX10_things_56 rfl ?_
              refine e_istore (ls' := [some (.ref 0), some (.int a1), some (.int a2), some (.int a3), some (.ref k4), some (.int 0), some (.int a2)]) hg dX10_things_57 rfl ?_
              refine X10_things_L59_ok hg hr (fun x5 o4 o6 M h => ?_) 10000 _ _ _ _ h
              refine e_goto hg 127 dX10_things_115 (by decide) ?_
              refine e_iload hg dX10_things_127 rfl ?_
              exact m_iret hg hr dX10_things_129 h

def X10_rule_b50 (a1 : Int32) (a2 : Int32) (s0 : Int32) (M : mm) : Option (Int32 × mm) :=
  if a1 = 0 then
    lt_ (sA M 1 (upd (M.1 1) 2 a2)) fun M8 =>
    some (s0, M8)
  else
    lt_ (sA M 1 (upd (M.1 1) 3 a2)) fun M9 =>
    some (s0, M9)
set_option maxRecDepth 100000 in
set_option maxHeartbeats 4000000 in
theorem X10_rule_b50_ok {g : gx} (hg : EC g cX10_rule RX10 0) {a1 : Int32} {a2 : Int32} {r : Int32 × mm} (hr : RT g (some .int) (0, 0) (some (.int r.1)) (cells r.2)) {s0 : Int32} {o3 : Option Value} {M : mm} (h : X10_rule_b50 a1 a2 s0 M = some r) : E g (0, 0) 50 [some (.ref 0), some (.int a1), some (.int a2), o3] [.int s0] (cells M) := by
  unfold X10_rule_b50 at h
  refine e_istore_n (ls' := [some (.ref 0), some (.int a1), some (.int a2), some (.int s0)]) hg dX10_rule_50 rfl ?_
  refine e_iload_n hg dX10_rule_51 rfl ?_
  refine e_ifne hg 66 dX10_rule_52 (by decide) (fun c7 => ?_) (fun c7 => ?_)
  · have h := o_pos c7 h
    refine e_aload_n hg dX10_rule_55 rfl ?_
    refine m_getR (q := 1) hg ciX10 0 lk_452 dX10_rule_56 io_0 (Nat.le_of_ble_eq_true rfl) rfl rf_0_0 ?_
    refine e_iload_n hg dX10_rule_59 rfl ?_
    obtain ⟨M8, hM8, h⟩ := o_lt h
    refine m_putI hg ciX3 2 lk_101 dX10_rule_60 io_1 (Nat.le_of_ble_eq_true rfl) rfl rfl rfl rfl ?_
    rw [← hM8]
    refine e_goto hg 74 dX10_rule_63 (by decide) ?_
    refine e_iload_n hg dX10_rule_74 rfl ?_
    exact m_iret hg hr dX10_rule_75 h
  · have h := o_neg c7 h
    refine e_aload_n hg dX10_rule_66 rfl ?_
    refine m_getR (q := 1) hg ciX10 0 lk_452 dX10_rule_67 io_0 (Nat.le_of_ble_eq_true rfl) rfl rf_0_0 ?_
    refine e_iload_n hg dX10_rule_70 rfl ?_
    obtain ⟨M9, hM9, h⟩ := o_lt h
    refine m_putI hg ciX3 3 lk_105 dX10_rule_71 io_1 (Nat.le_of_ble_eq_true rfl) rfl rfl rfl rfl ?_
    rw [← hM9]
    refine e_iload_n hg dX10_rule_74 rfl ?_
    exact m_iret hg hr dX10_rule_75 h

def X10_rule_b24 (a1 : Int32) (a2 : Int32) (s0 : Int32) (s1 : Int32) (M : mm) : Option (Int32 × mm) :=
  if s1 < s0 then
    some ((-1), M)
  else
    X10_rule_b50 a1 a2 (if a1 = 0 then (M.1 1 2) else (M.1 1 3)) M
set_option maxRecDepth 100000 in
set_option maxHeartbeats 4000000 in
theorem X10_rule_b24_ok {g : gx} (hg : EC g cX10_rule RX10 0) {a1 : Int32} {a2 : Int32} {r : Int32 × mm} (hr : RT g (some .int) (0, 0) (some (.int r.1)) (cells r.2)) {s0 : Int32} {s1 : Int32} {o3 : Option Value} {M : mm} (h : X10_rule_b24 a1 a2 s0 s1 M = some r) : E g (0, 0) 24 [some (.ref 0), some (.int a1), some (.int a2), o3] [.int s1, .int s0] (cells M) := by
  unfold X10_rule_b24 at h
  refine e_icmple hg 29 dX10_rule_24 (by decide) (fun c5 => ?_) (fun c5 => ?_)
  · have h := o_pos c5 h
    refine e_iconst (v := -1) hg dX10_rule_27 (by decide) ?_
    exact m_iret hg hr dX10_rule_28 h
  · have h := o_neg c5 h
    refine e_iload_n hg dX10_rule_29 rfl ?_
    refine e_ifne hg 43 dX10_rule_30 (by decide) (fun c6 => ?_) (fun c6 => ?_)
    · simp only [if_pos c6] at h
      refine e_aload_n hg dX10_rule_33 rfl ?_
      refine m_getR (q := 1) hg ciX10 0 lk_452 dX10_rule_34 io_0 (Nat.le_of_ble_eq_true rfl) rfl rf_0_0 ?_
      refine m_getI hg ciX3 2 lk_101 dX10_rule_37 io_1 (Nat.le_of_ble_eq_true rfl) rfl ?_
      refine e_goto hg 50 dX10_rule_40 (by decide) ?_
      exact X10_rule_b50_ok hg hr  h
    · simp only [if_neg c6] at h
      refine e_aload_n hg dX10_rule_43 rfl ?_
      refine m_getR (q := 1) hg ciX10 0 lk_452 dX10_rule_44 io_0 (Nat.le_of_ble_eq_true rfl) rfl rf_0_0 ?_
      refine m_getI hg ciX3 3 lk_105 dX10_rule_47 io_1 (Nat.le_of_ble_eq_true rfl) rfl ?_
      exact X10_rule_b50_ok hg hr  h

def X10_rule (a1 : Int32) (a2 : Int32) (M : mm) : Option (Int32 × mm) :=
  if a1 < 0 then
    some ((-1), M)
  else
    if 1 < a1 then
      some ((-1), M)
    else
      if a2 < 0 then
        some ((-1), M)
      else
        X10_rule_b24 a1 a2 a2 (if a1 = 0 then 9 else 1) M
set_option maxRecDepth 100000 in
set_option maxHeartbeats 4000000 in
theorem X10_rule_ok {a1 : Int32} {a2 : Int32} {M : mm} {r : Int32 × mm} (h : X10_rule a1 a2 M = some r) : CM yX10_rule cX10_rule 4 (some .int) 0 [.ref 0, .int a1, .int a2] (cells M) (some (.int r.1)) (cells r.2) := by
  refine cm_of (ls := [some (.ref 0), some (.int a1), some (.int a2), none]) mfX10_rule rfl (Nat.le_of_ble_eq_true rfl) (fun g hg hr => ?_)
  unfold X10_rule at h
  refine e_iload_n hg dX10_rule_0 rfl ?_
  refine e_iflt hg 27 dX10_rule_1 (by decide) (fun c1 => ?_) (fun c1 => ?_)
  · have h := o_pos c1 h
    refine e_iconst (v := -1) hg dX10_rule_27 (by decide) ?_
    exact m_iret hg hr dX10_rule_28 h
  · have h := o_neg c1 h
    refine e_iload_n hg dX10_rule_4 rfl ?_
    refine e_iconst (v := 1) hg dX10_rule_5 (by decide) ?_
    refine e_icmpgt hg 27 dX10_rule_6 (by decide) (fun c2 => ?_) (fun c2 => ?_)
    · have h := o_pos c2 h
      refine e_iconst (v := -1) hg dX10_rule_27 (by decide) ?_
      exact m_iret hg hr dX10_rule_28 h
    · have h := o_neg c2 h
      refine e_iload_n hg dX10_rule_9 rfl ?_
      refine e_iflt hg 27 dX10_rule_10 (by decide) (fun c3 => ?_) (fun c3 => ?_)
      · have h := o_pos c3 h
        refine e_iconst (v := -1) hg dX10_rule_27 (by decide) ?_
        exact m_iret hg hr dX10_rule_28 h
      · have h := o_neg c3 h
        refine e_iload_n hg dX10_rule_13 rfl ?_
        refine e_iload_n hg dX10_rule_14 rfl ?_
        refine e_ifne hg 23 dX10_rule_15 (by decide) (fun c4 => ?_) (fun c4 => ?_)
        · simp only [if_pos c4] at h
          refine e_bipush (v := 9) hg dX10_rule_18 (by decide) ?_
          refine e_goto hg 24 dX10_rule_20 (by decide) ?_
          exact X10_rule_b24_ok hg hr  h
        · simp only [if_neg c4] at h
          refine e_iconst (v := 1) hg dX10_rule_23 (by decide) ?_
          exact X10_rule_b24_ok hg hr  h

def X10_mend (a1 : Int32) (a2 : Int32) (a3 : Int32) (M : mm) : Option (Int32 × mm) :=
  bd (X3_mayTell a1 a2 a3 M) fun v1 M2 =>
  if v1 = 0 then
    some ((-1), M2)
  else
    bd (X3_tell a1 a2 a3 M2) fun v5 M6 =>
    if v5 = a3 then
      some (v5, M6)
    else
      bd (X1_note a1 a2 v5 a3 M6) fun u9 M10 =>
      some (v5, M10)
set_option maxRecDepth 100000 in
set_option maxHeartbeats 4000000 in
theorem X10_mend_ok {a1 : Int32} {a2 : Int32} {a3 : Int32} {M : mm} {r : Int32 × mm} (h : X10_mend a1 a2 a3 M = some r) : CM yX10_mend cX10_mend 5 (some .int) 3 [.ref 0, .int a1, .int a2, .int a3] (cells M) (some (.int r.1)) (cells r.2) := by
  refine cm_of (ls := [some (.ref 0), some (.int a1), some (.int a2), some (.int a3), none]) mfX10_mend rfl (Nat.le_of_ble_eq_true rfl) (fun g hg hr => ?_)
  unfold X10_mend at h
  refine e_aload_n hg dX10_mend_0 rfl ?_
  refine m_getR (q := 1) hg ciX10 0 lk_452 dX10_mend_1 io_0 (Nat.le_of_ble_eq_true rfl) rfl rf_0_0 ?_
  refine e_iload_n hg dX10_mend_4 rfl ?_
  refine e_iload_n hg dX10_mend_5 rfl ?_
  refine e_iload_n hg dX10_mend_6 rfl ?_
  obtain ⟨v1, M2, hc3, h⟩ := o_bd h
  refine m_callVI (rest := []) (v := v1) (M' := M2) (ci := 3) hg mfX3_mayTell mvX3_mayTell (X3_mayTell_ok (r := (v1, M2)) hc3) lk_540 dX10_mend_7 io_1 rfl rfl rfl (by omega) (Nat.le_of_ble_eq_true rfl) ?_
  refine e_ifne hg 15 dX10_mend_10 (by decide) (fun c4 => ?_) (fun c4 => ?_)
  · have h := o_pos c4 h
    refine e_iconst (v := -1) hg dX10_mend_13 (by decide) ?_
    exact m_iret hg hr dX10_mend_14 h
  · have h := o_neg c4 h
    refine e_aload_n hg dX10_mend_15 rfl ?_
    refine m_getR (q := 1) hg ciX10 0 lk_452 dX10_mend_16 io_0 (Nat.le_of_ble_eq_true rfl) rfl rf_0_0 ?_
    refine e_iload_n hg dX10_mend_19 rfl ?_
    refine e_iload_n hg dX10_mend_20 rfl ?_
    refine e_iload_n hg dX10_mend_21 rfl ?_
    obtain ⟨v5, M6, hc7, h⟩ := o_bd h
    refine m_callVI (rest := []) (v := v5) (M' := M6) (ci := 3) hg mfX3_tell mvX3_tell (X3_tell_ok (r := (v5, M6)) hc7) lk_549 dX10_mend_22 io_1 rfl rfl rfl (by omega) (Nat.le_of_ble_eq_true rfl) ?_
    refine e_istore (ls' := [some (.ref 0), some (.int a1), some (.int a2), some (.int a3), some (.int v5)]) hg dX10_mend_25 rfl ?_
    refine e_iload hg dX10_mend_27 rfl ?_
    refine e_iload_n hg dX10_mend_29 rfl ?_
    refine e_icmpeq hg 45 dX10_mend_30 (by decide) (fun c8 => ?_) (fun c8 => ?_)
    · have h := o_pos c8 h
      refine e_iload hg dX10_mend_45 rfl ?_
      exact m_iret hg hr dX10_mend_47 h
    · have h := o_neg c8 h
      refine e_aload_n hg dX10_mend_33 rfl ?_
      refine m_getR (q := 61) hg ciX10 7 lk_459 dX10_mend_34 io_0 (Nat.le_of_ble_eq_true rfl) rfl rf_0_7 ?_
      refine e_iload_n hg dX10_mend_37 rfl ?_
      refine e_iload_n hg dX10_mend_38 rfl ?_
      refine e_iload hg dX10_mend_39 rfl ?_
      refine e_iload_n hg dX10_mend_41 rfl ?_
      obtain ⟨u9, M10, hc11, h⟩ := o_bd h
      refine m_callVV (rest := []) (M' := M10) (ci := 1) hg mfX1_note mvX1_note (X1_note_ok (r := (u9, M10)) hc11) lk_557 dX10_mend_42 io_61 rfl rfl rfl (by omega) (Nat.le_of_ble_eq_true rfl) ?_
      refine e_iload hg dX10_mend_45 rfl ?_
      exact m_iret hg hr dX10_mend_47 h

def X10_ofPerson (a1 : Int32) (a2 : Int32) (M : mm) : Option (Int32 × mm) :=
  if a2 = 0 then
    gd (inb a1 5) <|
    some ((M.1 2 a1.toNatClampNeg), M)
  else
  if a2 = 1 then
    gd (inb a1 5) <|
    some ((M.1 3 a1.toNatClampNeg), M)
  else
  if a2 = 2 then
    gd (inb a1 5) <|
    some ((M.1 4 a1.toNatClampNeg), M)
  else
  if a2 = 3 then
    gd (inb a1 5) <|
    some ((M.1 (28 + 7) a1.toNatClampNeg), M)
  else
  if a2 = 4 then
    gd (inb a1 5) <|
    some ((M.1 (28 + 8) a1.toNatClampNeg), M)
  else
  gd (inb a1 5) <|
  some ((M.1 (28 + 9) a1.toNatClampNeg), M)
set_option maxRecDepth 100000 in
set_option maxHeartbeats 4000000 in
theorem X10_ofPerson_ok {a1 : Int32} {a2 : Int32} {M : mm} {r : Int32 × mm} (h : X10_ofPerson a1 a2 M = some r) : CM yX10_ofPerson cX10_ofPerson 3 (some .int) 0 [.ref 0, .int a1, .int a2] (cells M) (some (.int r.1)) (cells r.2) := by
  refine cm_of (ls := [some (.ref 0), some (.int a1), some (.int a2)]) mfX10_ofPerson rfl (Nat.le_of_ble_eq_true rfl) (fun g hg hr => ?_)
  unfold X10_ofPerson at h
  refine e_iload_n hg dX10_ofPerson_0 rfl ?_
  by_cases c1 : a2 = 0
  · have h := o_pos c1 h
    refine e_tabIn (v := 0) hg 36 dX10_ofPerson_1 c1 (by decide) (by decide) rfl (by decide) ?_
    refine e_aload_n hg dX10_ofPerson_36 rfl ?_
    refine m_getR (q := 1) hg ciX10 0 lk_452 dX10_ofPerson_37 io_0 (Nat.le_of_ble_eq_true rfl) rfl rf_0_0 ?_
    refine m_getR (q := 2) hg ciX3 5 lk_111 dX10_ofPerson_40 io_1 (Nat.le_of_ble_eq_true rfl) rfl rf_1_5 ?_
    refine e_iload_n hg dX10_ofPerson_43 rfl ?_
    obtain ⟨hi2, h⟩ := o_gd h
    refine m_iald hg sh_2 hi2 dX10_ofPerson_44 ?_
    exact m_iret hg hr dX10_ofPerson_45 h
  have h := o_neg c1 h
  by_cases c3 : a2 = 1
  · have h := o_pos c3 h
    refine e_tabIn (v := 1) hg 46 dX10_ofPerson_1 c3 (by decide) (by decide) rfl (by decide) ?_
    refine e_aload_n hg dX10_ofPerson_46 rfl ?_
    refine m_getR (q := 1) hg ciX10 0 lk_452 dX10_ofPerson_47 io_0 (Nat.le_of_ble_eq_true rfl) rfl rf_0_0 ?_
    refine m_getR (q := 3) hg ciX3 6 lk_116 dX10_ofPerson_50 io_1 (Nat.le_of_ble_eq_true rfl) rfl rf_1_6 ?_
    refine e_iload_n hg dX10_ofPerson_53 rfl ?_
    obtain ⟨hi4, h⟩ := o_gd h
    refine m_iald hg sh_3 hi4 dX10_ofPerson_54 ?_
    exact m_iret hg hr dX10_ofPerson_55 h
  have h := o_neg c3 h
  by_cases c5 : a2 = 2
  · have h := o_pos c5 h
    refine e_tabIn (v := 2) hg 56 dX10_ofPerson_1 c5 (by decide) (by decide) rfl (by decide) ?_
    refine e_aload_n hg dX10_ofPerson_56 rfl ?_
    refine m_getR (q := 1) hg ciX10 0 lk_452 dX10_ofPerson_57 io_0 (Nat.le_of_ble_eq_true rfl) rfl rf_0_0 ?_
    refine m_getR (q := 4) hg ciX3 7 lk_119 dX10_ofPerson_60 io_1 (Nat.le_of_ble_eq_true rfl) rfl rf_1_7 ?_
    refine e_iload_n hg dX10_ofPerson_63 rfl ?_
    obtain ⟨hi6, h⟩ := o_gd h
    refine m_iald hg sh_4 hi6 dX10_ofPerson_64 ?_
    exact m_iret hg hr dX10_ofPerson_65 h
  have h := o_neg c5 h
  by_cases c7 : a2 = 3
  · have h := o_pos c7 h
    refine e_tabIn (v := 3) hg 66 dX10_ofPerson_1 c7 (by decide) (by decide) rfl (by decide) ?_
    refine e_aload_n hg dX10_ofPerson_66 rfl ?_
    refine m_getR (q := 28) hg ciX10 4 lk_456 dX10_ofPerson_67 io_0 (Nat.le_of_ble_eq_true rfl) rfl rf_0_4 ?_
    refine m_getR (q := (28 + 7)) hg ciX9 8 lk_337 dX10_ofPerson_70 io_28 (Nat.le_of_ble_eq_true rfl) rfl (rfF9_8 io_28) ?_
    refine e_iload_n hg dX10_ofPerson_73 rfl ?_
    obtain ⟨hi8, h⟩ := o_gd h
    refine m_iald hg (shF9_7 io_28) hi8 dX10_ofPerson_74 ?_
    exact m_iret hg hr dX10_ofPerson_75 h
  have h := o_neg c7 h
  by_cases c9 : a2 = 4
  · have h := o_pos c9 h
    refine e_tabIn (v := 4) hg 76 dX10_ofPerson_1 c9 (by decide) (by decide) rfl (by decide) ?_
    refine e_aload_n hg dX10_ofPerson_76 rfl ?_
    refine m_getR (q := 28) hg ciX10 4 lk_456 dX10_ofPerson_77 io_0 (Nat.le_of_ble_eq_true rfl) rfl rf_0_4 ?_
    refine m_getR (q := (28 + 8)) hg ciX9 9 lk_339 dX10_ofPerson_80 io_28 (Nat.le_of_ble_eq_true rfl) rfl (rfF9_9 io_28) ?_
    refine e_iload_n hg dX10_ofPerson_83 rfl ?_
    obtain ⟨hi10, h⟩ := o_gd h
    refine m_iald hg (shF9_8 io_28) hi10 dX10_ofPerson_84 ?_
    exact m_iret hg hr dX10_ofPerson_85 h
  have h := o_neg c9 h
  refine e_tabOut hg 86 dX10_ofPerson_1 (by have e_c1 := ne_toIntL (n := 0) (by decide) c1; have e_c3 := ne_toIntL (n := 1) (by decide) c3; have e_c5 := ne_toIntL (n := 2) (by decide) c5; have e_c7 := ne_toIntL (n := 3) (by decide) c7; have e_c9 := ne_toIntL (n := 4) (by decide) c9; omega) (by decide) ?_
  refine e_aload_n hg dX10_ofPerson_86 rfl ?_
  refine m_getR (q := 28) hg ciX10 4 lk_456 dX10_ofPerson_87 io_0 (Nat.le_of_ble_eq_true rfl) rfl rf_0_4 ?_
  refine m_getR (q := (28 + 9)) hg ciX9 10 lk_341 dX10_ofPerson_90 io_28 (Nat.le_of_ble_eq_true rfl) rfl (rfF9_10 io_28) ?_
  refine e_iload_n hg dX10_ofPerson_93 rfl ?_
  obtain ⟨hi11, h⟩ := o_gd h
  refine m_iald hg (shF9_9 io_28) hi11 dX10_ofPerson_94 ?_
  exact m_iret hg hr dX10_ofPerson_95 h

def X10_ofThing_b184 (a1 : Int32) (a2 : Int32) (s1 : Int32) (s2 : Int32) (s3 : Int32) (s4 : Int32) (M : mm) : Option (Int32 × mm) :=
  bd (X8_number s1 s2 s3 s4 M) fun v23 M24 =>
  some (v23, M24)
set_option maxRecDepth 100000 in
set_option maxHeartbeats 4000000 in
theorem X10_ofThing_b184_ok {g : gx} (hg : EC g cX10_ofThing RX10 3) {a1 : Int32} {a2 : Int32} {r : Int32 × mm} (hr : RT g (some .int) (0, 0) (some (.int r.1)) (cells r.2)) {s1 : Int32} {s2 : Int32} {s3 : Int32} {s4 : Int32} {M : mm} (h : X10_ofThing_b184 a1 a2 s1 s2 s3 s4 M = some r) : E g (0, 0) 184 [some (.ref 0), some (.int a1), some (.int a2)] [.int s4, .int s3, .int s2, .int s1, .ref 9] (cells M) := by
  unfold X10_ofThing_b184 at h
  obtain ⟨v23, M24, hc25, h⟩ := o_bd h
  refine m_callVI (rest := []) (v := v23) (M' := M24) (ci := 8) hg mfX8_number mvX8_number (X8_number_ok (r := (v23, M24)) hc25) lk_582 dX10_ofThing_184 io_9 rfl rfl rfl (by omega) (Nat.le_of_ble_eq_true rfl) ?_
  exact m_iret hg hr dX10_ofThing_187 h

def X10_ofThing (a1 : Int32) (a2 : Int32) (M : mm) : Option (Int32 × mm) :=
  if a2 = 10 then
    gd (inb a1 6) <|
    some ((M.1 5 a1.toNatClampNeg), M)
  else
  if a2 = 11 then
    gd (inb a1 6) <|
    some ((M.1 6 a1.toNatClampNeg), M)
  else
  if a2 = 12 then
    gd (inb a1 6) <|
    some ((M.1 7 a1.toNatClampNeg), M)
  else
  if a2 = 13 then
    gd (inb a1 6) <|
    some ((M.1 (28 + 1) a1.toNatClampNeg), M)
  else
  if a2 = 14 then
    gd (inb a1 6) <|
    some ((M.1 8 a1.toNatClampNeg), M)
  else
  if a2 = 15 then
    gd (inb a1 6) <|
    some ((M.1 (28 + 2) a1.toNatClampNeg), M)
  else
  if a2 = 16 then
    gd (inb a1 6) <|
    some ((M.1 (28 + 3) a1.toNatClampNeg), M)
  else
  if a2 = 17 then
    gd (inb a1 6) <|
    some ((M.1 (28 + 4) a1.toNatClampNeg), M)
  else
  if a2 = 18 then
    gd (inb a1 6) <|
    some ((M.1 (28 + 5) a1.toNatClampNeg), M)
  else
  gd (inb a1 6) <|
  gd (inb a1 6) <|
  gd (inb a1 6) <|
  X10_ofThing_b184 a1 a2 a1 (M.1 (28 + 1) a1.toNatClampNeg) (M.1 (28 + 4) a1.toNatClampNeg) (if (M.1 (28 + 2) a1.toNatClampNeg) = (-2) then 0 else 1) M
set_option maxRecDepth 100000 in
set_option maxHeartbeats 4000000 in
theorem X10_ofThing_ok {a1 : Int32} {a2 : Int32} {M : mm} {r : Int32 × mm} (h : X10_ofThing a1 a2 M = some r) : CM yX10_ofThing cX10_ofThing 3 (some .int) 3 [.ref 0, .int a1, .int a2] (cells M) (some (.int r.1)) (cells r.2) := by
  refine cm_of (ls := [some (.ref 0), some (.int a1), some (.int a2)]) mfX10_ofThing rfl (Nat.le_of_ble_eq_true rfl) (fun g hg hr => ?_)
  unfold X10_ofThing at h
  refine e_iload_n hg dX10_ofThing_0 rfl ?_
  by_cases c1 : a2 = 10
  · have h := o_pos c1 h
    refine e_tabIn (v := 10) hg 52 dX10_ofThing_1 c1 (by decide) (by decide) rfl (by decide) ?_
    refine e_aload_n hg dX10_ofThing_52 rfl ?_
    refine m_getR (q := 1) hg ciX10 0 lk_452 dX10_ofThing_53 io_0 (Nat.le_of_ble_eq_true rfl) rfl rf_0_0 ?_
    refine m_getR (q := 5) hg ciX3 8 lk_122 dX10_ofThing_56 io_1 (Nat.le_of_ble_eq_true rfl) rfl rf_1_8 ?_
    refine e_iload_n hg dX10_ofThing_59 rfl ?_
    obtain ⟨hi2, h⟩ := o_gd h
    refine m_iald hg sh_5 hi2 dX10_ofThing_60 ?_
    exact m_iret hg hr dX10_ofThing_61 h
  have h := o_neg c1 h
  by_cases c3 : a2 = 11
  · have h := o_pos c3 h
    refine e_tabIn (v := 11) hg 62 dX10_ofThing_1 c3 (by decide) (by decide) rfl (by decide) ?_
    refine e_aload_n hg dX10_ofThing_62 rfl ?_
    refine m_getR (q := 1) hg ciX10 0 lk_452 dX10_ofThing_63 io_0 (Nat.le_of_ble_eq_true rfl) rfl rf_0_0 ?_
    refine m_getR (q := 6) hg ciX3 9 lk_127 dX10_ofThing_66 io_1 (Nat.le_of_ble_eq_true rfl) rfl rf_1_9 ?_
    refine e_iload_n hg dX10_ofThing_69 rfl ?_
    obtain ⟨hi4, h⟩ := o_gd h
    refine m_iald hg sh_6 hi4 dX10_ofThing_70 ?_
    exact m_iret hg hr dX10_ofThing_71 h
  have h := o_neg c3 h
  by_cases c5 : a2 = 12
  · have h := o_pos c5 h
    refine e_tabIn (v := 12) hg 72 dX10_ofThing_1 c5 (by decide) (by decide) rfl (by decide) ?_
    refine e_aload_n hg dX10_ofThing_72 rfl ?_
    refine m_getR (q := 1) hg ciX10 0 lk_452 dX10_ofThing_73 io_0 (Nat.le_of_ble_eq_true rfl) rfl rf_0_0 ?_
    refine m_getR (q := 7) hg ciX3 10 lk_131 dX10_ofThing_76 io_1 (Nat.le_of_ble_eq_true rfl) rfl rf_1_10 ?_
    refine e_iload_n hg dX10_ofThing_79 rfl ?_
    obtain ⟨hi6, h⟩ := o_gd h
    refine m_iald hg sh_7 hi6 dX10_ofThing_80 ?_
    exact m_iret hg hr dX10_ofThing_81 h
  have h := o_neg c5 h
  by_cases c7 : a2 = 13
  · have h := o_pos c7 h
    refine e_tabIn (v := 13) hg 82 dX10_ofThing_1 c7 (by decide) (by decide) rfl (by decide) ?_
    refine e_aload_n hg dX10_ofThing_82 rfl ?_
    refine m_getR (q := 28) hg ciX10 4 lk_456 dX10_ofThing_83 io_0 (Nat.le_of_ble_eq_true rfl) rfl rf_0_4 ?_
    refine m_getR (q := (28 + 1)) hg ciX9 2 lk_319 dX10_ofThing_86 io_28 (Nat.le_of_ble_eq_true rfl) rfl (rfF9_2 io_28) ?_
    refine e_iload_n hg dX10_ofThing_89 rfl ?_
    obtain ⟨hi8, h⟩ := o_gd h
    refine m_iald hg (shF9_1 io_28) hi8 dX10_ofThing_90 ?_
    exact m_iret hg hr dX10_ofThing_91 h
  have h := o_neg c7 h
  by_cases c9 : a2 = 14
  · have h := o_pos c9 h
    refine e_tabIn (v := 14) hg 92 dX10_ofThing_1 c9 (by decide) (by decide) rfl (by decide) ?_
    refine e_aload_n hg dX10_ofThing_92 rfl ?_
    refine m_getR (q := 1) hg ciX10 0 lk_452 dX10_ofThing_93 io_0 (Nat.le_of_ble_eq_true rfl) rfl rf_0_0 ?_
    refine m_getR (q := 8) hg ciX3 11 lk_134 dX10_ofThing_96 io_1 (Nat.le_of_ble_eq_true rfl) rfl rf_1_11 ?_
    refine e_iload_n hg dX10_ofThing_99 rfl ?_
    obtain ⟨hi10, h⟩ := o_gd h
    refine m_iald hg sh_8 hi10 dX10_ofThing_100 ?_
    exact m_iret hg hr dX10_ofThing_101 h
  have h := o_neg c9 h
  by_cases c11 : a2 = 15
  · have h := o_pos c11 h
    refine e_tabIn (v := 15) hg 102 dX10_ofThing_1 c11 (by decide) (by decide) rfl (by decide) ?_
    refine e_aload_n hg dX10_ofThing_102 rfl ?_
    refine m_getR (q := 28) hg ciX10 4 lk_456 dX10_ofThing_103 io_0 (Nat.le_of_ble_eq_true rfl) rfl rf_0_4 ?_
    refine m_getR (q := (28 + 2)) hg ciX9 3 lk_323 dX10_ofThing_106 io_28 (Nat.le_of_ble_eq_true rfl) rfl (rfF9_3 io_28) ?_
    refine e_iload_n hg dX10_ofThing_109 rfl ?_
    obtain ⟨hi12, h⟩ := o_gd h
    refine m_iald hg (shF9_2 io_28) hi12 dX10_ofThing_110 ?_
    exact m_iret hg hr dX10_ofThing_111 h
  have h := o_neg c11 h
  by_cases c13 : a2 = 16
  · have h := o_pos c13 h
    refine e_tabIn (v := 16) hg 112 dX10_ofThing_1 c13 (by decide) (by decide) rfl (by decide) ?_
    refine e_aload_n hg dX10_ofThing_112 rfl ?_
    refine m_getR (q := 28) hg ciX10 4 lk_456 dX10_ofThing_113 io_0 (Nat.le_of_ble_eq_true rfl) rfl rf_0_4 ?_
    refine m_getR (q := (28 + 3)) hg ciX9 4 lk_327 dX10_ofThing_116 io_28 (Nat.le_of_ble_eq_true rfl) rfl (rfF9_4 io_28) ?_
    refine e_iload_n hg dX10_ofThing_119 rfl ?_
    obtain ⟨hi14, h⟩ := o_gd h
    refine m_iald hg (shF9_3 io_28) hi14 dX10_ofThing_120 ?_
    exact m_iret hg hr dX10_ofThing_121 h
  have h := o_neg c13 h
  by_cases c15 : a2 = 17
  · have h := o_pos c15 h
    refine e_tabIn (v := 17) hg 122 dX10_ofThing_1 c15 (by decide) (by decide) rfl (by decide) ?_
    refine e_aload_n hg dX10_ofThing_122 rfl ?_
    refine m_getR (q := 28) hg ciX10 4 lk_456 dX10_ofThing_123 io_0 (Nat.le_of_ble_eq_true rfl) rfl rf_0_4 ?_
    refine m_getR (q := (28 + 4)) hg ciX9 5 lk_330 dX10_ofThing_126 io_28 (Nat.le_of_ble_eq_true rfl) rfl (rfF9_5 io_28) ?_
    refine e_iload_n hg dX10_ofThing_129 rfl ?_
    obtain ⟨hi16, h⟩ := o_gd h
    refine m_iald hg (shF9_4 io_28) hi16 dX10_ofThing_130 ?_
    exact m_iret hg hr dX10_ofThing_131 h
  have h := o_neg c15 h
  by_cases c17 : a2 = 18
  · have h := o_pos c17 h
    refine e_tabIn (v := 18) hg 132 dX10_ofThing_1 c17 (by decide) (by decide) rfl (by decide) ?_
    refine e_aload_n hg dX10_ofThing_132 rfl ?_
    refine m_getR (q := 28) hg ciX10 4 lk_456 dX10_ofThing_133 io_0 (Nat.le_of_ble_eq_true rfl) rfl rf_0_4 ?_
    refine m_getR (q := (28 + 5)) hg ciX9 6 lk_333 dX10_ofThing_136 io_28 (Nat.le_of_ble_eq_true rfl) rfl (rfF9_6 io_28) ?_
    refine e_iload_n hg dX10_ofThing_139 rfl ?_
    obtain ⟨hi18, h⟩ := o_gd h
    refine m_iald hg (shF9_5 io_28) hi18 dX10_ofThing_140 ?_
    exact m_iret hg hr dX10_ofThing_141 h
  have h := o_neg c17 h
  refine e_tabOut hg 142 dX10_ofThing_1 (by have e_c1 := ne_toIntL (n := 10) (by decide) c1; have e_c3 := ne_toIntL (n := 11) (by decide) c3; have e_c5 := ne_toIntL (n := 12) (by decide) c5; have e_c7 := ne_toIntL (n := 13) (by decide) c7; have e_c9 := ne_toIntL (n := 14) (by decide) c9; have e_c11 := ne_toIntL (n := 15) (by decide) c11; have e_c13 := ne_toIntL (n := 16) (by decide) c13; have e_c15 := ne_toIntL (n := 17) (by decide) c15; have e_c17 := ne_toIntL (n := 18) (by decide) c17; omega) (by decide) ?_
  refine e_aload_n hg dX10_ofThing_142 rfl ?_
  refine m_getR (q := 9) hg ciX10 1 lk_453 dX10_ofThing_143 io_0 (Nat.le_of_ble_eq_true rfl) rfl rf_0_1 ?_
  refine e_iload_n hg dX10_ofThing_146 rfl ?_
  refine e_aload_n hg dX10_ofThing_147 rfl ?_
  refine m_getR (q := 28) hg ciX10 4 lk_456 dX10_ofThing_148 io_0 (Nat.le_of_ble_eq_true rfl) rfl rf_0_4 ?_
  refine m_getR (q := (28 + 1)) hg ciX9 2 lk_319 dX10_ofThing_151 io_28 (Nat.le_of_ble_eq_true rfl) rfl (rfF9_2 io_28) ?_
  refine e_iload_n hg dX10_ofThing_154 rfl ?_
  obtain ⟨hi19, h⟩ := o_gd h
  refine m_iald hg (shF9_1 io_28) hi19 dX10_ofThing_155 ?_
  refine e_aload_n hg dX10_ofThing_156 rfl ?_
  refine m_getR (q := 28) hg ciX10 4 lk_456 dX10_ofThing_157 io_0 (Nat.le_of_ble_eq_true rfl) rfl rf_0_4 ?_
  refine m_getR (q := (28 + 4)) hg ciX9 5 lk_330 dX10_ofThing_160 io_28 (Nat.le_of_ble_eq_true rfl) rfl (rfF9_5 io_28) ?_
  refine e_iload_n hg dX10_ofThing_163 rfl ?_
  obtain ⟨hi20, h⟩ := o_gd h
  refine m_iald hg (shF9_4 io_28) hi20 dX10_ofThing_164 ?_
  refine e_aload_n hg dX10_ofThing_165 rfl ?_
  refine m_getR (q := 28) hg ciX10 4 lk_456 dX10_ofThing_166 io_0 (Nat.le_of_ble_eq_true rfl) rfl rf_0_4 ?_
  refine m_getR (q := (28 + 2)) hg ciX9 3 lk_323 dX10_ofThing_169 io_28 (Nat.le_of_ble_eq_true rfl) rfl (rfF9_3 io_28) ?_
  refine e_iload_n hg dX10_ofThing_172 rfl ?_
  obtain ⟨hi21, h⟩ := o_gd h
  refine m_iald hg (shF9_2 io_28) hi21 dX10_ofThing_173 ?_
  refine e_bipush (v := -2) hg dX10_ofThing_174 (by decide) ?_
  refine e_icmpeq hg 183 dX10_ofThing_176 (by decide) (fun c22 => ?_) (fun c22 => ?_)
  · simp only [if_pos c22] at h
    refine e_iconst (v := 0) hg dX10_ofThing_183 (by decide) ?_
    exact X10_ofThing_b184_ok hg hr  h
  · simp only [if_neg c22] at h
    refine e_iconst (v := 1) hg dX10_ofThing_179 (by decide) ?_
    refine e_goto hg 184 dX10_ofThing_180 (by decide) ?_
    exact X10_ofThing_b184_ok hg hr  h

def X10_of_b32 (a1 : Int32) (a2 : Int32) (M : mm) : Option (Int32 × mm) :=
  if a2 < 10 then
    some ((-2000000000), M)
  else
    if 19 < a2 then
      some ((-2000000000), M)
    else
      bd (X3_hasThing a1 M) fun v4 M5 =>
      if v4 = 0 then
        some ((-2000000000), M5)
      else
        bd (X10_ofThing a1 a2 M5) fun v8 M9 =>
        some (v8, M9)
set_option maxRecDepth 100000 in
set_option maxHeartbeats 4000000 in
theorem X10_of_b32_ok {g : gx} (hg : EC g cX10_of RX10 4) {a1 : Int32} {a2 : Int32} {r : Int32 × mm} (hr : RT g (some .int) (0, 0) (some (.int r.1)) (cells r.2)) {M : mm} (h : X10_of_b32 a1 a2 M = some r) : E g (0, 0) 32 [some (.ref 0), some (.int a1), some (.int a2)] [] (cells M) := by
  unfold X10_of_b32 at h
  refine e_iload_n hg dX10_of_32 rfl ?_
  refine e_bipush (v := 10) hg dX10_of_33 (by decide) ?_
  refine e_icmplt hg 67 dX10_of_35 (by decide) (fun c2 => ?_) (fun c2 => ?_)
  · have h := o_pos c2 h
    refine e_ldc hg dX10_of_67 lk_576 ?_
    exact m_iret hg hr dX10_of_69 h
  · have h := o_neg c2 h
    refine e_iload_n hg dX10_of_38 rfl ?_
    refine e_bipush (v := 19) hg dX10_of_39 (by decide) ?_
    refine e_icmpgt hg 67 dX10_of_41 (by decide) (fun c3 => ?_) (fun c3 => ?_)
    · have h := o_pos c3 h
      refine e_ldc hg dX10_of_67 lk_576 ?_
      exact m_iret hg hr dX10_of_69 h
    · have h := o_neg c3 h
      refine e_aload_n hg dX10_of_44 rfl ?_
      refine m_getR (q := 1) hg ciX10 0 lk_452 dX10_of_45 io_0 (Nat.le_of_ble_eq_true rfl) rfl rf_0_0 ?_
      refine e_iload_n hg dX10_of_48 rfl ?_
      obtain ⟨v4, M5, hc6, h⟩ := o_bd h
      refine m_callVI (rest := []) (v := v4) (M' := M5) (ci := 3) hg mfX3_hasThing mvX3_hasThing (X3_hasThing_ok (r := (v4, M5)) hc6) lk_577 dX10_of_49 io_1 rfl rfl rfl (by omega) (Nat.le_of_ble_eq_true rfl) ?_
      refine e_ifeq hg 64 dX10_of_52 (by decide) (fun c7 => ?_) (fun c7 => ?_)
      · have h := o_pos c7 h
        refine e_ldc hg dX10_of_64 lk_576 ?_
        exact m_iret hg hr dX10_of_66 h
      · have h := o_neg c7 h
        refine e_aload_n hg dX10_of_55 rfl ?_
        refine e_iload_n hg dX10_of_56 rfl ?_
        refine e_iload_n hg dX10_of_57 rfl ?_
        obtain ⟨v8, M9, hc10, h⟩ := o_bd h
        refine m_callVI (rest := []) (v := v8) (M' := M9) (ci := 10) hg mfX10_ofThing mvX10_ofThing (X10_ofThing_ok (r := (v8, M9)) hc10) lk_578 dX10_of_58 io_0 rfl rfl rfl (by omega) (Nat.le_of_ble_eq_true rfl) ?_
        refine e_goto hg 66 dX10_of_61 (by decide) ?_
        exact m_iret hg hr dX10_of_66 h

def X10_of (a1 : Int32) (a2 : Int32) (M : mm) : Option (Int32 × mm) :=
  if a2 < 0 then
    X10_of_b32 a1 a2 M
  else
    if 5 < a2 then
      X10_of_b32 a1 a2 M
    else
      bd (X3_hasPerson a1 M) fun v12 M13 =>
      if v12 = 0 then
        some ((-2000000000), M13)
      else
        bd (X10_ofPerson a1 a2 M13) fun v16 M17 =>
        some (v16, M17)
set_option maxRecDepth 100000 in
set_option maxHeartbeats 4000000 in
theorem X10_of_ok {a1 : Int32} {a2 : Int32} {M : mm} {r : Int32 × mm} (h : X10_of a1 a2 M = some r) : CM yX10_of cX10_of 3 (some .int) 4 [.ref 0, .int a1, .int a2] (cells M) (some (.int r.1)) (cells r.2) := by
  refine cm_of (ls := [some (.ref 0), some (.int a1), some (.int a2)]) mfX10_of rfl (Nat.le_of_ble_eq_true rfl) (fun g hg hr => ?_)
  unfold X10_of at h
  refine e_iload_n hg dX10_of_0 rfl ?_
  refine e_iflt hg 32 dX10_of_1 (by decide) (fun c1 => ?_) (fun c1 => ?_)
  · have h := o_pos c1 h
    exact X10_of_b32_ok hg hr  h
  · have h := o_neg c1 h
    refine e_iload_n hg dX10_of_4 rfl ?_
    refine e_iconst (v := 5) hg dX10_of_5 (by decide) ?_
    refine e_icmpgt hg 32 dX10_of_6 (by decide) (fun c11 => ?_) (fun c11 => ?_)
    · have h := o_pos c11 h
      exact X10_of_b32_ok hg hr  h
    · have h := o_neg c11 h
      refine e_aload_n hg dX10_of_9 rfl ?_
      refine m_getR (q := 1) hg ciX10 0 lk_452 dX10_of_10 io_0 (Nat.le_of_ble_eq_true rfl) rfl rf_0_0 ?_
      refine e_iload_n hg dX10_of_13 rfl ?_
      obtain ⟨v12, M13, hc14, h⟩ := o_bd h
      refine m_callVI (rest := []) (v := v12) (M' := M13) (ci := 3) hg mfX3_hasPerson mvX3_hasPerson (X3_hasPerson_ok (r := (v12, M13)) hc14) lk_508 dX10_of_14 io_1 rfl rfl rfl (by omega) (Nat.le_of_ble_eq_true rfl) ?_
      refine e_ifeq hg 29 dX10_of_17 (by decide) (fun c15 => ?_) (fun c15 => ?_)
      · have h := o_pos c15 h
        refine e_ldc hg dX10_of_29 lk_576 ?_
        exact m_iret hg hr dX10_of_31 h
      · have h := o_neg c15 h
        refine e_aload_n hg dX10_of_20 rfl ?_
        refine e_iload_n hg dX10_of_21 rfl ?_
        refine e_iload_n hg dX10_of_22 rfl ?_
        obtain ⟨v16, M17, hc18, h⟩ := o_bd h
        refine m_callVI (rest := []) (v := v16) (M' := M17) (ci := 10) hg mfX10_ofPerson mvX10_ofPerson (X10_ofPerson_ok (r := (v16, M17)) hc18) lk_572 dX10_of_23 io_0 rfl rfl rfl (by omega) (Nat.le_of_ble_eq_true rfl) ?_
        refine e_goto hg 31 dX10_of_26 (by decide) ?_
        exact m_iret hg hr dX10_of_31 h

def X10_feed (a1 : Int32) (M : mm) : Option (Int32 × mm) :=
  if a1 < 0 then
    some ((-1), M)
  else
    if 255 < a1 then
      some ((-1), M)
    else
      bd (X8_take a1 M) fun v3 M4 =>
      if v3 = 0 then
        some ((-3), M4)
      else
        some ((M4.1 9 0), M4)
set_option maxRecDepth 100000 in
set_option maxHeartbeats 4000000 in
theorem X10_feed_ok {a1 : Int32} {M : mm} {r : Int32 × mm} (h : X10_feed a1 M = some r) : CM yX10_feed cX10_feed 2 (some .int) 1 [.ref 0, .int a1] (cells M) (some (.int r.1)) (cells r.2) := by
  refine cm_of (ls := [some (.ref 0), some (.int a1)]) mfX10_feed rfl (Nat.le_of_ble_eq_true rfl) (fun g hg hr => ?_)
  unfold X10_feed at h
  refine e_iload_n hg dX10_feed_0 rfl ?_
  refine e_iflt hg 11 dX10_feed_1 (by decide) (fun c1 => ?_) (fun c1 => ?_)
  · have h := o_pos c1 h
    refine e_iconst (v := -1) hg dX10_feed_11 (by decide) ?_
    exact m_iret hg hr dX10_feed_12 h
  · have h := o_neg c1 h
    refine e_iload_n hg dX10_feed_4 rfl ?_
    refine e_sipush (v := 255) hg dX10_feed_5 (by decide) ?_
    refine e_icmple hg 13 dX10_feed_8 (by decide) (fun c2 => ?_) (fun c2 => ?_)
    · have h := o_pos c2 h
      refine e_iconst (v := -1) hg dX10_feed_11 (by decide) ?_
      exact m_iret hg hr dX10_feed_12 h
    · have h := o_neg c2 h
      refine e_aload_n hg dX10_feed_13 rfl ?_
      refine m_getR (q := 9) hg ciX10 1 lk_453 dX10_feed_14 io_0 (Nat.le_of_ble_eq_true rfl) rfl rf_0_1 ?_
      refine e_iload_n hg dX10_feed_17 rfl ?_
      obtain ⟨v3, M4, hc5, h⟩ := o_bd h
      refine m_callVI (rest := []) (v := v3) (M' := M4) (ci := 8) hg mfX8_take mvX8_take (X8_take_ok (r := (v3, M4)) hc5) lk_603 dX10_feed_18 io_9 rfl rfl rfl (by omega) (Nat.le_of_ble_eq_true rfl) ?_
      refine e_ifeq hg 34 dX10_feed_21 (by decide) (fun c6 => ?_) (fun c6 => ?_)
      · have h := o_pos c6 h
        refine e_bipush (v := -3) hg dX10_feed_34 (by decide) ?_
        exact m_iret hg hr dX10_feed_36 h
      · have h := o_neg c6 h
        refine e_aload_n hg dX10_feed_24 rfl ?_
        refine m_getR (q := 9) hg ciX10 1 lk_453 dX10_feed_25 io_0 (Nat.le_of_ble_eq_true rfl) rfl rf_0_1 ?_
        refine m_getI hg ciX8 0 lk_210 dX10_feed_28 io_9 (Nat.le_of_ble_eq_true rfl) rfl ?_
        refine e_goto hg 36 dX10_feed_31 (by decide) ?_
        exact m_iret hg hr dX10_feed_36 h

def X10_law  (M : mm) : Option (Int32 × mm) :=
  bd (X8_becomeTape M) fun v1 M2 =>
  if v1 < 0 then
    lt_ (sA M2 1 (upd (M2.1 1) 4 ((M2.1 1 4) + 1))) fun M5 =>
    some (1, M5)
  else
    some (((-100) - v1), M2)
set_option maxRecDepth 100000 in
set_option maxHeartbeats 4000000 in
theorem X10_law_ok  {M : mm} {r : Int32 × mm} (h : X10_law  M = some r) : CM yX10_law cX10_law 2 (some .int) 106 [.ref 0] (cells M) (some (.int r.1)) (cells r.2) := by
  refine cm_of (ls := [some (.ref 0), none]) mfX10_law rfl (Nat.le_of_ble_eq_true rfl) (fun g hg hr => ?_)
  unfold X10_law at h
  refine e_aload_n hg dX10_law_0 rfl ?_
  refine m_getR (q := 9) hg ciX10 1 lk_453 dX10_law_1 io_0 (Nat.le_of_ble_eq_true rfl) rfl rf_0_1 ?_
  obtain ⟨v1, M2, hc3, h⟩ := o_bd h
  refine m_callVI (rest := []) (v := v1) (M' := M2) (ci := 8) hg mfX8_becomeTape mvX8_becomeTape (X8_becomeTape_ok (r := (v1, M2)) hc3) lk_611 dX10_law_4 io_9 rfl rfl rfl (by omega) (Nat.le_of_ble_eq_true rfl) ?_
  refine e_istore_n (ls' := [some (.ref 0), some (.int v1)]) hg dX10_law_7 rfl ?_
  refine e_iload_n hg dX10_law_8 rfl ?_
  refine e_iflt hg 17 dX10_law_9 (by decide) (fun c4 => ?_) (fun c4 => ?_)
  · have h := o_pos c4 h
    refine e_aload_n hg dX10_law_17 rfl ?_
    refine m_getR (q := 1) hg ciX10 0 lk_452 dX10_law_18 io_0 (Nat.le_of_ble_eq_true rfl) rfl rf_0_0 ?_
    refine e_dup hg dX10_law_21 rfl ?_
    refine m_getI hg ciX3 4 lk_108 dX10_law_22 io_1 (Nat.le_of_ble_eq_true rfl) rfl ?_
    refine e_iconst (v := 1) hg dX10_law_25 (by decide) ?_
    refine e_iadd hg dX10_law_26 ?_
    obtain ⟨M5, hM5, h⟩ := o_lt h
    refine m_putI hg ciX3 4 lk_108 dX10_law_27 io_1 (Nat.le_of_ble_eq_true rfl) rfl rfl rfl rfl ?_
    rw [← hM5]
    refine e_iconst (v := 1) hg dX10_law_30 (by decide) ?_
    exact m_iret hg hr dX10_law_31 h
  · have h := o_neg c4 h
    refine e_bipush (v := -100) hg dX10_law_12 (by decide) ?_
    refine e_iload_n hg dX10_law_14 rfl ?_
    refine e_isub hg dX10_law_15 ?_
    exact m_iret hg hr dX10_law_16 h

def X10_fix (a1 : Int32) (M : mm) : Option (Int32 × mm) :=
  if a1 < 0 then
    some ((-1), M)
  else
    bd (X3_hasThing (a1 / 10) M) fun v2 M3 =>
    if v2 = 0 then
      some ((-1), M3)
    else
      bd (X3_hasPerson (a1 - a1 / 10 * 10) M3) fun v6 M7 =>
      if v6 = 0 then
        some ((-1), M7)
      else
        gd (inb (a1 - a1 / 10 * 10) 5) <|
        gd (inb (a1 - a1 / 10 * 10) 5) <|
        bd (X9_mendedBy 28 (a1 / 10) (a1 - a1 / 10 * 10) (M7.1 2 (a1 - a1 / 10 * 10).toNatClampNeg) (M7.1 3 (a1 - a1 / 10 * 10).toNatClampNeg) M7) fun u12 M13 =>
        gd (inb (a1 / 10) 6) <|
        some ((M13.1 (28 + 1) (a1 / 10).toNatClampNeg), M13)
set_option maxRecDepth 100000 in
set_option maxHeartbeats 4000000 in
theorem X10_fix_ok {a1 : Int32} {M : mm} {r : Int32 × mm} (h : X10_fix a1 M = some r) : CM yX10_fix cX10_fix 4 (some .int) 3 [.ref 0, .int a1] (cells M) (some (.int r.1)) (cells r.2) := by
  refine cm_of (ls := [some (.ref 0), some (.int a1), none, none]) mfX10_fix rfl (Nat.le_of_ble_eq_true rfl) (fun g hg hr => ?_)
  unfold X10_fix at h
  refine e_iload_n hg dX10_fix_0 rfl ?_
  refine e_iflt hg 32 dX10_fix_1 (by decide) (fun c1 => ?_) (fun c1 => ?_)
  · have h := o_pos c1 h
    refine e_iconst (v := -1) hg dX10_fix_32 (by decide) ?_
    exact m_iret hg hr dX10_fix_33 h
  · have h := o_neg c1 h
    refine e_aload_n hg dX10_fix_4 rfl ?_
    refine m_getR (q := 1) hg ciX10 0 lk_452 dX10_fix_5 io_0 (Nat.le_of_ble_eq_true rfl) rfl rf_0_0 ?_
    refine e_iload_n hg dX10_fix_8 rfl ?_
    refine e_bipush (v := 10) hg dX10_fix_9 (by decide) ?_
    refine e_idiv hg dX10_fix_11 (by decide) ?_
    obtain ⟨v2, M3, hc4, h⟩ := o_bd h
    refine m_callVI (rest := []) (v := v2) (M' := M3) (ci := 3) hg mfX3_hasThing mvX3_hasThing (X3_hasThing_ok (r := (v2, M3)) hc4) lk_577 dX10_fix_12 io_1 rfl rfl rfl (by omega) (Nat.le_of_ble_eq_true rfl) ?_
    refine e_ifeq hg 32 dX10_fix_15 (by decide) (fun c5 => ?_) (fun c5 => ?_)
    · have h := o_pos c5 h
      refine e_iconst (v := -1) hg dX10_fix_32 (by decide) ?_
      exact m_iret hg hr dX10_fix_33 h
    · have h := o_neg c5 h
      refine e_aload_n hg dX10_fix_18 rfl ?_
      refine m_getR (q := 1) hg ciX10 0 lk_452 dX10_fix_19 io_0 (Nat.le_of_ble_eq_true rfl) rfl rf_0_0 ?_
      refine e_iload_n hg dX10_fix_22 rfl ?_
      refine e_bipush (v := 10) hg dX10_fix_23 (by decide) ?_
      refine e_irem hg dX10_fix_25 (by decide) ?_
      obtain ⟨v6, M7, hc8, h⟩ := o_bd h
      refine m_callVI (rest := []) (v := v6) (M' := M7) (ci := 3) hg mfX3_hasPerson mvX3_hasPerson (X3_hasPerson_ok (r := (v6, M7)) hc8) lk_508 dX10_fix_26 io_1 rfl rfl rfl (by omega) (Nat.le_of_ble_eq_true rfl) ?_
      refine e_ifne hg 34 dX10_fix_29 (by decide) (fun c9 => ?_) (fun c9 => ?_)
      · have h := o_pos c9 h
        refine e_iconst (v := -1) hg dX10_fix_32 (by decide) ?_
        exact m_iret hg hr dX10_fix_33 h
      · have h := o_neg c9 h
        refine e_iload_n hg dX10_fix_34 rfl ?_
        refine e_bipush (v := 10) hg dX10_fix_35 (by decide) ?_
        refine e_idiv hg dX10_fix_37 (by decide) ?_
        refine e_istore_n (ls' := [some (.ref 0), some (.int a1), some (.int (a1 / 10)), none]) hg dX10_fix_38 rfl ?_
        refine e_iload_n hg dX10_fix_39 rfl ?_
        refine e_bipush (v := 10) hg dX10_fix_40 (by decide) ?_
        refine e_irem hg dX10_fix_42 (by decide) ?_
        refine e_istore_n (ls' := [some (.ref 0), some (.int a1), some (.int (a1 / 10)), some (.int (a1 - a1 / 10 * 10))]) hg dX10_fix_43 rfl ?_
        refine e_aload_n hg dX10_fix_44 rfl ?_
        refine m_getR (q := 28) hg ciX10 4 lk_456 dX10_fix_45 io_0 (Nat.le_of_ble_eq_true rfl) rfl rf_0_4 ?_
        refine e_iload_n hg dX10_fix_48 rfl ?_
        refine e_iload_n hg dX10_fix_49 rfl ?_
        refine e_aload_n hg dX10_fix_50 rfl ?_
        refine m_getR (q := 1) hg ciX10 0 lk_452 dX10_fix_51 io_0 (Nat.le_of_ble_eq_true rfl) rfl rf_0_0 ?_
        refine m_getR (q := 2) hg ciX3 5 lk_111 dX10_fix_54 io_1 (Nat.le_of_ble_eq_true rfl) rfl rf_1_5 ?_
        refine e_iload_n hg dX10_fix_57 rfl ?_
        obtain ⟨hi10, h⟩ := o_gd h
        refine m_iald hg sh_2 hi10 dX10_fix_58 ?_
        refine e_aload_n hg dX10_fix_59 rfl ?_
        refine m_getR (q := 1) hg ciX10 0 lk_452 dX10_fix_60 io_0 (Nat.le_of_ble_eq_true rfl) rfl rf_0_0 ?_
        refine m_getR (q := 3) hg ciX3 6 lk_116 dX10_fix_63 io_1 (Nat.le_of_ble_eq_true rfl) rfl rf_1_6 ?_
        refine e_iload_n hg dX10_fix_66 rfl ?_
        obtain ⟨hi11, h⟩ := o_gd h
        refine m_iald hg sh_3 hi11 dX10_fix_67 ?_
        obtain ⟨u12, M13, hc14, h⟩ := o_bd h
        refine m_callVV (rest := []) (M' := M13) (ci := 9) hg mfX9_mendedBy mvX9_mendedBy (X9_mendedBy_ok (r := (u12, M13)) hc14) lk_659 dX10_fix_68 io_28 rfl rfl rfl (by omega) (Nat.le_of_ble_eq_true rfl) ?_
        refine e_aload_n hg dX10_fix_71 rfl ?_
        refine m_getR (q := 28) hg ciX10 4 lk_456 dX10_fix_72 io_0 (Nat.le_of_ble_eq_true rfl) rfl rf_0_4 ?_
        refine m_getR (q := (28 + 1)) hg ciX9 2 lk_319 dX10_fix_75 io_28 (Nat.le_of_ble_eq_true rfl) rfl (rfF9_2 io_28) ?_
        refine e_iload_n hg dX10_fix_78 rfl ?_
        obtain ⟨hi15, h⟩ := o_gd h
        refine m_iald hg (shF9_1 io_28) hi15 dX10_fix_79 ?_
        exact m_iret hg hr dX10_fix_80 h

def X10_years_L26 (a1 : Int32) (a2 : Int32) (K52 : Int32 → mm → Option (Int32 × mm)) : Nat → Int32 → Int32 → mm → Option (Int32 × mm)
  | 0, _, _, _ => none
  | n_ + 1, x3, x4, M =>
    if x4 < a2 then
      bd (X2_year 28 M) fun v7 M8 =>
      (X10_years_L26 a1 a2 K52 n_) (x3 + v7) (x4 + 1) M8
    else
      K52 x3 M
set_option maxRecDepth 100000 in
set_option maxHeartbeats 4000000 in
theorem X10_years_L26_ok {g : gx} (hg : EC g cX10_years RX10 7) {a1 : Int32} {a2 : Int32} {r : Int32 × mm} (hr : RT g (some .int) (0, 0) (some (.int r.1)) (cells r.2)) {K52 : Int32 → mm → Option (Int32 × mm)} (hK52 : ∀ (x3 : Int32) (o4 : Option Value) (M : mm), K52 x3 M = some r → E g (0, 0) 52 [some (.ref 0), some (.int a1), some (.int a2), some (.int x3), o4] [] (cells M)) : ∀ (n_ : Nat) (x3 : Int32) (x4 : Int32) (M : mm), X10_years_L26 a1 a2 K52 n_ x3 x4 M = some r → E g (0, 0) 26 [some (.ref 0), some (.int a1), some (.int a2), some (.int x3), some (.int x4)] [] (cells M) := by
  intro n_
  induction n_ with
  | zero => intro x3 x4 M h; exact o_no h
  | succ n_ ih =>
    intro x3 x4 M h
    rw [X10_years_L26] at h
    refine e_iload hg dX10_years_26 rfl ?_
    refine e_iload_n hg dX10_years_28 rfl ?_
    refine e_icmpge hg 52 dX10_years_29 (by decide) (fun c6 => ?_) (fun c6 => ?_)
    · have h := o_pos c6 h
      refine e_iload_n hg dX10_years_32 rfl ?_
      refine e_aload_n hg dX10_years_33 rfl ?_
      refine m_getR (q := 27) hg ciX10 3 lk_455 dX10_years_34 io_0 (Nat.le_of_ble_eq_true rfl) rfl rf_0_3 ?_
      refine e_aload_n hg dX10_years_37 rfl ?_
      refine m_getR (q := 28) hg ciX10 4 lk_456 dX10_years_38 io_0 (Nat.le_of_ble_eq_true rfl) rfl rf_0_4 ?_
      obtain ⟨v7, M8, hc9, h⟩ := o_bd h
      refine m_callVI (rest := [.int x3]) (v := v7) (M' := M8) (ci := 2) hg mfX2_year mvX2_year (X2_year_ok (r := (v7, M8)) hc9) lk_677 dX10_years_41 io_27 rfl rfl rfl (by omega) (Nat.le_of_ble_eq_true rfl) ?_
      refine e_iadd hg dX10_years_44 ?_
      refine e_istore_n (ls' := [some (.ref 0), some (.int a1), some (.int a2), some (.int (x3 + v7)), some (.int x4)]) hg dX10_years_45 rfl ?_
      refine e_iinc (v := (x4 + 1)) (ls' := [some (.ref 0), some (.int a1), some (.int a2), some (.int (x3 + v7)), some (.int (x4 + 1))]) hg dX10_years_46 rfl rfl rfl ?_
      refine e_goto hg 26 dX10_years_49 (by decide) ?_
      exact ih _ _ _ h
    · have h := o_neg c6 h
      exact hK52 _ _ _ h

def X10_years (a1 : Int32) (a2 : Int32) (M : mm) : Option (Int32 × mm) :=
  if a2 < 1 then
    some ((-1), M)
  else
    if 30 < a2 then
      some ((-1), M)
    else
      bd (X2_sow a1 M) fun u3 M4 =>
      X10_years_L26 a1 a2 (fun x3 M =>
          lt_ (sA M 0 (upd (M.1 0) 10 (M.1 1 1))) fun M10 =>
          some (x3, M10)) 10000 0 0 M4
set_option maxRecDepth 100000 in
set_option maxHeartbeats 4000000 in
theorem X10_years_ok {a1 : Int32} {a2 : Int32} {M : mm} {r : Int32 × mm} (h : X10_years a1 a2 M = some r) : CM yX10_years cX10_years 5 (some .int) 7 [.ref 0, .int a1, .int a2] (cells M) (some (.int r.1)) (cells r.2) := by
  refine cm_of (ls := [some (.ref 0), some (.int a1), some (.int a2), none, none]) mfX10_years rfl (Nat.le_of_ble_eq_true rfl) (fun g hg hr => ?_)
  unfold X10_years at h
  refine e_iload_n hg dX10_years_0 rfl ?_
  refine e_iconst (v := 1) hg dX10_years_1 (by decide) ?_
  refine e_icmplt hg 11 dX10_years_2 (by decide) (fun c1 => ?_) (fun c1 => ?_)
  · have h := o_pos c1 h
    refine e_iconst (v := -1) hg dX10_years_11 (by decide) ?_
    exact m_iret hg hr dX10_years_12 h
  · have h := o_neg c1 h
    refine e_iload_n hg dX10_years_5 rfl ?_
    refine e_bipush (v := 30) hg dX10_years_6 (by decide) ?_
    refine e_icmple hg 13 dX10_years_8 (by decide) (fun c2 => ?_) (fun c2 => ?_)
    · have h := o_pos c2 h
      refine e_iconst (v := -1) hg dX10_years_11 (by decide) ?_
      exact m_iret hg hr dX10_years_12 h
    · have h := o_neg c2 h
      refine e_aload_n hg dX10_years_13 rfl ?_
      refine m_getR (q := 27) hg ciX10 3 lk_455 dX10_years_14 io_0 (Nat.le_of_ble_eq_true rfl) rfl rf_0_3 ?_
      refine e_iload_n hg dX10_years_17 rfl ?_
      obtain ⟨u3, M4, hc5, h⟩ := o_bd h
      refine m_callVV (rest := []) (M' := M4) (ci := 2) hg mfX2_sow mvX2_sow (X2_sow_ok (r := (u3, M4)) hc5) lk_673 dX10_years_18 io_27 rfl rfl rfl (by omega) (Nat.le_of_ble_eq_true rfl) ?_
      refine e_iconst (v := 0) hg dX10_years_21 (by decide) ?_
      refine e_istore_n (ls' := [some (.ref 0), some (.int a1), some (.int a2), some (.int 0), none]) hg dX10_years_22 rfl ?_
      refine e_iconst (v := 0) hg dX10_years_23 (by decide) ?_
      refine e_istore (ls' := [some (.ref 0), some (.int a1), some (.int a2), some (.int 0), some (.int 0)]) hg dX10_years_24 rfl ?_
      refine X10_years_L26_ok hg hr (fun x3 o4 M h => ?_) 10000 _ _ _ h
      refine e_aload_n hg dX10_years_52 rfl ?_
      refine e_aload_n hg dX10_years_53 rfl ?_
      refine m_getR (q := 1) hg ciX10 0 lk_452 dX10_years_54 io_0 (Nat.le_of_ble_eq_true rfl) rfl rf_0_0 ?_
      refine m_getI hg ciX3 1 lk_100 dX10_years_57 io_1 (Nat.le_of_ble_eq_true rfl) rfl ?_
      obtain ⟨M10, hM10, h⟩ := o_lt h
      refine m_putI hg ciX10 10 lk_462 dX10_years_60 io_0 (Nat.le_of_ble_eq_true rfl) rfl rfl rfl rfl ?_
      rw [← hM10]
      refine e_iload_n hg dX10_years_63 rfl ?_
      exact m_iret hg hr dX10_years_64 h

def X10_paid (a1 : Int32) (M : mm) : Option (Int32 × mm) :=
  bd (X3_hasThing a1 M) fun v1 M2 =>
  if v1 = 0 then
    some ((-1), M2)
  else
    if a1 < (M2.1 0 10) then
      gd (inb a1 6) <|
      some ((M2.1 (28 + 10) a1.toNatClampNeg), M2)
    else
      some ((-5), M2)
set_option maxRecDepth 100000 in
set_option maxHeartbeats 4000000 in
theorem X10_paid_ok {a1 : Int32} {M : mm} {r : Int32 × mm} (h : X10_paid a1 M = some r) : CM yX10_paid cX10_paid 2 (some .int) 1 [.ref 0, .int a1] (cells M) (some (.int r.1)) (cells r.2) := by
  refine cm_of (ls := [some (.ref 0), some (.int a1)]) mfX10_paid rfl (Nat.le_of_ble_eq_true rfl) (fun g hg hr => ?_)
  unfold X10_paid at h
  refine e_aload_n hg dX10_paid_0 rfl ?_
  refine m_getR (q := 1) hg ciX10 0 lk_452 dX10_paid_1 io_0 (Nat.le_of_ble_eq_true rfl) rfl rf_0_0 ?_
  refine e_iload_n hg dX10_paid_4 rfl ?_
  obtain ⟨v1, M2, hc3, h⟩ := o_bd h
  refine m_callVI (rest := []) (v := v1) (M' := M2) (ci := 3) hg mfX3_hasThing mvX3_hasThing (X3_hasThing_ok (r := (v1, M2)) hc3) lk_577 dX10_paid_5 io_1 rfl rfl rfl (by omega) (Nat.le_of_ble_eq_true rfl) ?_
  refine e_ifne hg 13 dX10_paid_8 (by decide) (fun c4 => ?_) (fun c4 => ?_)
  · have h := o_pos c4 h
    refine e_iconst (v := -1) hg dX10_paid_11 (by decide) ?_
    exact m_iret hg hr dX10_paid_12 h
  · have h := o_neg c4 h
    refine e_iload_n hg dX10_paid_13 rfl ?_
    refine e_aload_n hg dX10_paid_14 rfl ?_
    refine m_getI hg ciX10 10 lk_462 dX10_paid_15 io_0 (Nat.le_of_ble_eq_true rfl) rfl ?_
    refine e_icmpge hg 33 dX10_paid_18 (by decide) (fun c5 => ?_) (fun c5 => ?_)
    · have h := o_pos c5 h
      refine e_aload_n hg dX10_paid_21 rfl ?_
      refine m_getR (q := 28) hg ciX10 4 lk_456 dX10_paid_22 io_0 (Nat.le_of_ble_eq_true rfl) rfl rf_0_4 ?_
      refine m_getR (q := (28 + 10)) hg ciX9 11 lk_344 dX10_paid_25 io_28 (Nat.le_of_ble_eq_true rfl) rfl (rfF9_11 io_28) ?_
      refine e_iload_n hg dX10_paid_28 rfl ?_
      obtain ⟨hi6, h⟩ := o_gd h
      refine m_iald hg (shF9_10 io_28) hi6 dX10_paid_29 ?_
      refine e_goto hg 35 dX10_paid_30 (by decide) ?_
      exact m_iret hg hr dX10_paid_35 h
    · have h := o_neg c5 h
      refine e_bipush (v := -5) hg dX10_paid_33 (by decide) ?_
      exact m_iret hg hr dX10_paid_35 h

