def X4_consider (a1 : Int32) (a2 : Int32) (a3 : Int32) (M : mm) : Option (Unit × mm) :=
  lt_ (sA M 21 (upd (M.1 21) 2 a1)) fun M1 =>
  lt_ (sA M1 21 (upd (M1.1 21) 3 a2)) fun M2 =>
  lt_ (sA M2 21 (upd (M2.1 21) 4 a3)) fun M3 =>
  gd (inb a2 5) <|
  lt_ (sA M3 21 (upd (M3.1 21) 5 (M3.1 3 a2.toNatClampNeg))) fun M5 =>
  some ((), M5)
set_option maxRecDepth 100000 in
set_option maxHeartbeats 4000000 in
theorem X4_consider_ok {a1 : Int32} {a2 : Int32} {a3 : Int32} {M : mm} {r : Unit × mm} (h : X4_consider a1 a2 a3 M = some r) : CM yX4_consider cX4_consider 4 (none) 0 [.ref 21, .int a1, .int a2, .int a3] (cells M) none (cells r.2) := by
  refine cm_of (ls := [some (.ref 21), some (.int a1), some (.int a2), some (.int a3)]) mfX4_consider rfl (Nat.le_of_ble_eq_true rfl) (fun g hg hr => ?_)
  unfold X4_consider at h
  refine e_aload_n hg dX4_consider_0 rfl ?_
  refine e_iload_n hg dX4_consider_1 rfl ?_
  obtain ⟨M1, hM1, h⟩ := o_lt h
  refine m_putI hg ciX4 2 lk_238 dX4_consider_2 io_21 (Nat.le_of_ble_eq_true rfl) rfl rfl rfl rfl ?_
  rw [← hM1]
  refine e_aload_n hg dX4_consider_5 rfl ?_
  refine e_iload_n hg dX4_consider_6 rfl ?_
  obtain ⟨M2, hM2, h⟩ := o_lt h
  refine m_putI hg ciX4 3 lk_239 dX4_consider_7 io_21 (Nat.le_of_ble_eq_true rfl) rfl rfl rfl rfl ?_
  rw [← hM2]
  refine e_aload_n hg dX4_consider_10 rfl ?_
  refine e_iload_n hg dX4_consider_11 rfl ?_
  obtain ⟨M3, hM3, h⟩ := o_lt h
  refine m_putI hg ciX4 4 lk_240 dX4_consider_12 io_21 (Nat.le_of_ble_eq_true rfl) rfl rfl rfl rfl ?_
  rw [← hM3]
  refine e_aload_n hg dX4_consider_15 rfl ?_
  refine e_aload_n hg dX4_consider_16 rfl ?_
  refine m_getR (q := 1) hg ciX4 0 lk_236 dX4_consider_17 io_21 (Nat.le_of_ble_eq_true rfl) rfl rf_21_0 ?_
  refine m_getR (q := 3) hg ciX3 6 lk_114 dX4_consider_20 io_1 (Nat.le_of_ble_eq_true rfl) rfl rf_1_6 ?_
  refine e_iload_n hg dX4_consider_23 rfl ?_
  obtain ⟨hi4, h⟩ := o_gd h
  refine m_iald hg sh_3 hi4 dX4_consider_24 ?_
  obtain ⟨M5, hM5, h⟩ := o_lt h
  refine m_putI hg ciX4 5 lk_241 dX4_consider_25 io_21 (Nat.le_of_ble_eq_true rfl) rfl rfl rfl rfl ?_
  rw [← hM5]
  exact m_vret hg hr dX4_consider_28 h

def X4_mendsAt (a1 : Int32) (M : mm) : Option (Int32 × mm) :=
  if (M.1 21 8) = 4 then
    gd (inb a1 4) <|
    gd (inb a1 4) <|
    if 0 < (lg_cmp (M.2.1 25 a1.toNatClampNeg) (M.2.1 24 a1.toNatClampNeg)) then
      some (1, M)
    else
      some (0, M)
  else
    if (M.1 21 8) < a1 then
      some (0, M)
    else
      some (1, M)
set_option maxRecDepth 100000 in
set_option maxHeartbeats 4000000 in
theorem X4_mendsAt_ok {a1 : Int32} {M : mm} {r : Int32 × mm} (h : X4_mendsAt a1 M = some r) : CM yX4_mendsAt cX4_mendsAt 2 (some .boolean) 0 [.ref 21, .int a1] (cells M) (some (.int r.1)) (cells r.2) := by
  refine cm_of (ls := [some (.ref 21), some (.int a1)]) mfX4_mendsAt rfl (Nat.le_of_ble_eq_true rfl) (fun g hg hr => ?_)
  unfold X4_mendsAt at h
  refine e_aload_n hg dX4_mendsAt_0 rfl ?_
  refine m_getI hg ciX4 8 lk_244 dX4_mendsAt_1 io_21 (Nat.le_of_ble_eq_true rfl) rfl ?_
  refine e_iconst (v := 4) hg dX4_mendsAt_4 (by decide) ?_
  refine e_icmpne hg 32 dX4_mendsAt_5 (by decide) (fun c1 => ?_) (fun c1 => ?_)
  · have h := o_pos c1 h
    refine e_aload_n hg dX4_mendsAt_8 rfl ?_
    refine m_getR (q := 25) hg ciX4 14 lk_250 dX4_mendsAt_9 io_21 (Nat.le_of_ble_eq_true rfl) rfl rf_21_14 ?_
    refine e_iload_n hg dX4_mendsAt_12 rfl ?_
    obtain ⟨hi2, h⟩ := o_gd h
    refine m_lald hg sh_25 hi2 dX4_mendsAt_13 ?_
    refine e_aload_n hg dX4_mendsAt_14 rfl ?_
    refine m_getR (q := 24) hg ciX4 13 lk_249 dX4_mendsAt_15 io_21 (Nat.le_of_ble_eq_true rfl) rfl rf_21_13 ?_
    refine e_iload_n hg dX4_mendsAt_18 rfl ?_
    obtain ⟨hi3, h⟩ := o_gd h
    refine m_lald hg sh_24 hi3 dX4_mendsAt_19 ?_
    refine e_lcmp hg dX4_mendsAt_20 ?_
    refine e_ifle hg 28 dX4_mendsAt_21 (by decide) (fun c4 => ?_) (fun c4 => ?_)
    · have h := o_pos c4 h
      refine e_iconst (v := 1) hg dX4_mendsAt_24 (by decide) ?_
      refine e_goto hg 45 dX4_mendsAt_25 (by decide) ?_
      exact m_zret hg hr rfl dX4_mendsAt_45 h
    · have h := o_neg c4 h
      refine e_iconst (v := 0) hg dX4_mendsAt_28 (by decide) ?_
      refine e_goto hg 45 dX4_mendsAt_29 (by decide) ?_
      exact m_zret hg hr rfl dX4_mendsAt_45 h
  · have h := o_neg c1 h
    refine e_iload_n hg dX4_mendsAt_32 rfl ?_
    refine e_aload_n hg dX4_mendsAt_33 rfl ?_
    refine m_getI hg ciX4 8 lk_244 dX4_mendsAt_34 io_21 (Nat.le_of_ble_eq_true rfl) rfl ?_
    refine e_icmpgt hg 44 dX4_mendsAt_37 (by decide) (fun c5 => ?_) (fun c5 => ?_)
    · have h := o_pos c5 h
      refine e_iconst (v := 0) hg dX4_mendsAt_44 (by decide) ?_
      exact m_zret hg hr rfl dX4_mendsAt_45 h
    · have h := o_neg c5 h
      refine e_iconst (v := 1) hg dX4_mendsAt_40 (by decide) ?_
      refine e_goto hg 45 dX4_mendsAt_41 (by decide) ?_
      exact m_zret hg hr rfl dX4_mendsAt_45 h

def X4_sideOf (a0 : Int32) (a1 : Int32) (M : mm) : Option (Int32 × mm) :=
  if a0 = (-2) then
    some (0, M)
  else
    if a0 = a1 then
      some (2, M)
    else
      some (1, M)
set_option maxRecDepth 100000 in
set_option maxHeartbeats 4000000 in
theorem X4_sideOf_ok {a0 : Int32} {a1 : Int32} {M : mm} {r : Int32 × mm} (h : X4_sideOf a0 a1 M = some r) : CM yX4_sideOf cX4_sideOf 2 (some .int) 0 [.int a0, .int a1] (cells M) (some (.int r.1)) (cells r.2) := by
  refine cm_of (ls := [some (.int a0), some (.int a1)]) mfX4_sideOf rfl (Nat.le_of_ble_eq_true rfl) (fun g hg hr => ?_)
  unfold X4_sideOf at h
  refine e_iload_n hg dX4_sideOf_0 rfl ?_
  refine e_bipush (v := -2) hg dX4_sideOf_1 (by decide) ?_
  refine e_icmpne hg 8 dX4_sideOf_3 (by decide) (fun c1 => ?_) (fun c1 => ?_)
  · have h := o_pos c1 h
    refine e_iconst (v := 0) hg dX4_sideOf_6 (by decide) ?_
    exact m_iret hg hr dX4_sideOf_7 h
  · have h := o_neg c1 h
    refine e_iload_n hg dX4_sideOf_8 rfl ?_
    refine e_iload_n hg dX4_sideOf_9 rfl ?_
    refine e_icmpne hg 17 dX4_sideOf_10 (by decide) (fun c2 => ?_) (fun c2 => ?_)
    · have h := o_pos c2 h
      refine e_iconst (v := 2) hg dX4_sideOf_13 (by decide) ?_
      refine e_goto hg 18 dX4_sideOf_14 (by decide) ?_
      exact m_iret hg hr dX4_sideOf_18 h
    · have h := o_neg c2 h
      refine e_iconst (v := 1) hg dX4_sideOf_17 (by decide) ?_
      exact m_iret hg hr dX4_sideOf_18 h

def X4_start (a1 : Int32) (a2 : Int32) (M : mm) : Option (Unit × mm) :=
  bd (X4_sideOf a1 (M.1 21 3) M) fun v1 M2 =>
  lt_ (sA M2 21 (upd (M2.1 21) 6 v1)) fun M4 =>
  lt_ (sA M4 21 (upd (M4.1 21) 7 a2)) fun M5 =>
  some ((), M5)
set_option maxRecDepth 100000 in
set_option maxHeartbeats 4000000 in
theorem X4_start_ok {a1 : Int32} {a2 : Int32} {M : mm} {r : Unit × mm} (h : X4_start a1 a2 M = some r) : CM yX4_start cX4_start 3 (none) 1 [.ref 21, .int a1, .int a2] (cells M) none (cells r.2) := by
  refine cm_of (ls := [some (.ref 21), some (.int a1), some (.int a2)]) mfX4_start rfl (Nat.le_of_ble_eq_true rfl) (fun g hg hr => ?_)
  unfold X4_start at h
  refine e_aload_n hg dX4_start_0 rfl ?_
  refine e_iload_n hg dX4_start_1 rfl ?_
  refine e_aload_n hg dX4_start_2 rfl ?_
  refine m_getI hg ciX4 3 lk_239 dX4_start_3 io_21 (Nat.le_of_ble_eq_true rfl) rfl ?_
  obtain ⟨v1, M2, hc3, h⟩ := o_bd h
  refine m_callSI (rest := [.ref 21]) (v := v1) (M' := M2) hg mfX4_sideOf mvX4_sideOf (X4_sideOf_ok (r := (v1, M2)) hc3) lk_688 dX4_start_6 rfl rfl (by omega) (Nat.le_of_ble_eq_true rfl) ?_
  obtain ⟨M4, hM4, h⟩ := o_lt h
  refine m_putI hg ciX4 6 lk_242 dX4_start_9 io_21 (Nat.le_of_ble_eq_true rfl) rfl rfl rfl rfl ?_
  rw [← hM4]
  refine e_aload_n hg dX4_start_12 rfl ?_
  refine e_iload_n hg dX4_start_13 rfl ?_
  obtain ⟨M5, hM5, h⟩ := o_lt h
  refine m_putI hg ciX4 7 lk_243 dX4_start_14 io_21 (Nat.le_of_ble_eq_true rfl) rfl rfl rfl rfl ?_
  rw [← hM5]
  exact m_vret hg hr dX4_start_17 h

def X4_goOn_b196 (a1 : Int32) (a2 : Int32) (x8 : Int64) (x10 : Int64) (s1 : Int32) (s2 : Int32) (s3 : Int32) (s4 : Int32) (M : mm) : Option (Int64 × mm) :=
  bd (X8_number s1 s2 s3 s4 M) fun v13 M14 =>
  some (((v13.toInt64 * x10) + ((12 - v13).toInt64 * x8)), M14)
set_option maxRecDepth 100000 in
set_option maxHeartbeats 4000000 in
theorem X4_goOn_b196_ok {g : gx} (hg : EC g cX4_goOn RX4 3) {a1 : Int32} {a2 : Int32} {r : Int64 × mm} (hr : RT g (some .long) (0, 0) (some (.long r.1)) (cells r.2)) {x8 : Int64} {x10 : Int64} {s1 : Int32} {s2 : Int32} {s3 : Int32} {s4 : Int32} {o3 : Option Value} {o4 : Option Value} {o5 : Option Value} {o6 : Option Value} {o7 : Option Value} {o12 : Option Value} {M : mm} (h : X4_goOn_b196 a1 a2 x8 x10 s1 s2 s3 s4 M = some r) : E g (0, 0) 196 [some (.ref 21), some (.int a1), some (.int a2), o3, o4, o5, o6, o7, some (.long x8), none, some (.long x10), none, o12] [.int s4, .int s3, .int s2, .int s1, .ref 9] (cells M) := by
  unfold X4_goOn_b196 at h
  obtain ⟨v13, M14, hc15, h⟩ := o_bd h
  refine m_callVI (rest := []) (v := v13) (M' := M14) (ci := 8) hg mfX8_number mvX8_number (X8_number_ok (r := (v13, M14)) hc15) lk_717 dX4_goOn_196 io_9 rfl rfl rfl (by omega) (Nat.le_of_ble_eq_true rfl) ?_
  refine e_istore (ls' := [some (.ref 21), some (.int a1), some (.int a2), o3, o4, o5, o6, o7, some (.long x8), none, some (.long x10), none, some (.int v13)]) hg dX4_goOn_199 rfl ?_
  refine e_iload hg dX4_goOn_201 rfl ?_
  refine e_i2l hg dX4_goOn_203 ?_
  refine e_lload hg dX4_goOn_204 rfl ?_
  refine e_lmul hg dX4_goOn_206 ?_
  refine e_bipush (v := 12) hg dX4_goOn_207 (by decide) ?_
  refine e_iload hg dX4_goOn_209 rfl ?_
  refine e_isub hg dX4_goOn_211 ?_
  refine e_i2l hg dX4_goOn_212 ?_
  refine e_lload hg dX4_goOn_213 rfl ?_
  refine e_lmul hg dX4_goOn_215 ?_
  refine e_ladd hg dX4_goOn_216 ?_
  exact m_lret hg hr dX4_goOn_217 h

def X4_goOn_b176 (a1 : Int32) (a2 : Int32) (x3 : Int32) (x4 : Int32) (x8 : Int64) (x10 : Int64) (M : mm) : Option (Int64 × mm) :=
  X4_goOn_b196 a1 a2 x8 x10 (M.1 21 2) a2 x4 (if x3 = 0 then 0 else 1) M
set_option maxRecDepth 100000 in
set_option maxHeartbeats 4000000 in
theorem X4_goOn_b176_ok {g : gx} (hg : EC g cX4_goOn RX4 3) {a1 : Int32} {a2 : Int32} {r : Int64 × mm} (hr : RT g (some .long) (0, 0) (some (.long r.1)) (cells r.2)) {x3 : Int32} {x4 : Int32} {x8 : Int64} {x10 : Int64} {o5 : Option Value} {o6 : Option Value} {o7 : Option Value} {o12 : Option Value} {M : mm} (h : X4_goOn_b176 a1 a2 x3 x4 x8 x10 M = some r) : E g (0, 0) 176 [some (.ref 21), some (.int a1), some (.int a2), some (.int x3), some (.int x4), o5, o6, o7, some (.long x8), none, some (.long x10), none, o12] [] (cells M) := by
  unfold X4_goOn_b176 at h
  refine e_aload_n hg dX4_goOn_176 rfl ?_
  refine m_getR (q := 9) hg ciX4 1 lk_237 dX4_goOn_177 io_21 (Nat.le_of_ble_eq_true rfl) rfl rf_21_1 ?_
  refine e_aload_n hg dX4_goOn_180 rfl ?_
  refine m_getI hg ciX4 2 lk_238 dX4_goOn_181 io_21 (Nat.le_of_ble_eq_true rfl) rfl ?_
  refine e_iload_n hg dX4_goOn_184 rfl ?_
  refine e_iload hg dX4_goOn_185 rfl ?_
  refine e_iload_n hg dX4_goOn_187 rfl ?_
  refine e_ifeq hg 195 dX4_goOn_188 (by decide) (fun c12 => ?_) (fun c12 => ?_)
  · simp only [if_pos c12] at h
    refine e_iconst (v := 0) hg dX4_goOn_195 (by decide) ?_
    exact X4_goOn_b196_ok hg hr  h
  · simp only [if_neg c12] at h
    refine e_iconst (v := 1) hg dX4_goOn_191 (by decide) ?_
    refine e_goto hg 196 dX4_goOn_192 (by decide) ?_
    exact X4_goOn_b196_ok hg hr  h

def X4_goOn_b173 (a1 : Int32) (a2 : Int32) (x3 : Int32) (x4 : Int32) (x8 : Int64) (s0 : Int64) (s1 : Int64) (M : mm) : Option (Int64 × mm) :=
  X4_goOn_b176 a1 a2 x3 x4 x8 (s0 - s1) M
set_option maxRecDepth 100000 in
set_option maxHeartbeats 4000000 in
theorem X4_goOn_b173_ok {g : gx} (hg : EC g cX4_goOn RX4 3) {a1 : Int32} {a2 : Int32} {r : Int64 × mm} (hr : RT g (some .long) (0, 0) (some (.long r.1)) (cells r.2)) {x3 : Int32} {x4 : Int32} {x8 : Int64} {s0 : Int64} {s1 : Int64} {o5 : Option Value} {o6 : Option Value} {o7 : Option Value} {o10 : Option Value} {o11 : Option Value} {o12 : Option Value} {M : mm} (h : X4_goOn_b173 a1 a2 x3 x4 x8 s0 s1 M = some r) : E g (0, 0) 173 [some (.ref 21), some (.int a1), some (.int a2), some (.int x3), some (.int x4), o5, o6, o7, some (.long x8), none, o10, o11, o12] [.long s1, .long s0] (cells M) := by
  unfold X4_goOn_b173 at h
  refine e_lsub hg dX4_goOn_173 ?_
  refine e_lstore (ls' := [some (.ref 21), some (.int a1), some (.int a2), some (.int x3), some (.int x4), o5, o6, o7, some (.long x8), none, some (.long (s0 - s1)), none, o12]) hg dX4_goOn_174 rfl ?_
  exact X4_goOn_b176_ok hg hr  h

def X4_goOn_b137 (a1 : Int32) (a2 : Int32) (x3 : Int32) (x4 : Int32) (x8 : Int64) (s0 : Int32) (M : mm) : Option (Int64 × mm) :=
  gd (isA 1 (M.2.2 2)) <|
  gd (inb 11 (alN (M.2.2 2))) <|
  if s0 = 0 then
    gd (inb (M.1 21 2) 6) <|
    X4_goOn_b173 a1 a2 x3 x4 x8 (M.2.1 (M.2.2 2) (11 : Int32).toNatClampNeg) ((M.2.1 21 10) * (M.1 7 (M.1 21 2).toNatClampNeg).toInt64) M
  else
    X4_goOn_b173 a1 a2 x3 x4 x8 (M.2.1 (M.2.2 2) (11 : Int32).toNatClampNeg) 0 M
set_option maxRecDepth 100000 in
set_option maxHeartbeats 4000000 in
theorem X4_goOn_b137_ok {g : gx} (hg : EC g cX4_goOn RX4 3) {a1 : Int32} {a2 : Int32} {r : Int64 × mm} (hr : RT g (some .long) (0, 0) (some (.long r.1)) (cells r.2)) {x3 : Int32} {x4 : Int32} {x8 : Int64} {s0 : Int32} {o5 : Option Value} {o6 : Option Value} {o7 : Option Value} {o10 : Option Value} {o11 : Option Value} {o12 : Option Value} {M : mm} (h : X4_goOn_b137 a1 a2 x3 x4 x8 s0 M = some r) : E g (0, 0) 137 [some (.ref 21), some (.int a1), some (.int a2), some (.int x3), some (.int x4), o5, o6, o7, some (.long x8), none, o10, o11, o12] [.int s0] (cells M) := by
  unfold X4_goOn_b137 at h
  refine e_drop (ls2 := [some (.ref 21), some (.int a1), some (.int a2), some (.int x3), some (.int x4), o5, o6, o7, some (.long x8), none, o10, none, o12]) 11 rfl ?_
  refine e_istore (ls' := [some (.ref 21), some (.int a1), some (.int a2), some (.int x3), some (.int x4), o5, o6, o7, some (.long x8), none, o10, none, some (.int s0)]) hg dX4_goOn_137 rfl ?_
  refine e_aload_n hg dX4_goOn_139 rfl ?_
  refine m_getV (i := 2) hg ciX4 12 lk_248 dX4_goOn_140 io_21 (Nat.le_of_ble_eq_true rfl) rfl (by decide) ?_
  refine e_bipush (v := 11) hg dX4_goOn_143 (by decide) ?_
  obtain ⟨hA21, h⟩ := o_gd h
  obtain ⟨hi22, h⟩ := o_gd h
  refine m_lald hg (isA_spec hA21) hi22 dX4_goOn_145 ?_
  refine e_iload hg dX4_goOn_146 rfl ?_
  refine e_ifeq hg 155 dX4_goOn_148 (by decide) (fun c23 => ?_) (fun c23 => ?_)
  · have h := o_pos c23 h
    refine e_aload_n hg dX4_goOn_155 rfl ?_
    refine m_getJ hg ciX4 10 lk_246 dX4_goOn_156 io_21 (Nat.le_of_ble_eq_true rfl) rfl ?_
    refine e_aload_n hg dX4_goOn_159 rfl ?_
    refine m_getR (q := 1) hg ciX4 0 lk_236 dX4_goOn_160 io_21 (Nat.le_of_ble_eq_true rfl) rfl rf_21_0 ?_
    refine m_getR (q := 7) hg ciX3 10 lk_130 dX4_goOn_163 io_1 (Nat.le_of_ble_eq_true rfl) rfl rf_1_10 ?_
    refine e_aload_n hg dX4_goOn_166 rfl ?_
    refine m_getI hg ciX4 2 lk_238 dX4_goOn_167 io_21 (Nat.le_of_ble_eq_true rfl) rfl ?_
    obtain ⟨hi24, h⟩ := o_gd h
    refine m_iald hg sh_7 hi24 dX4_goOn_170 ?_
    refine e_i2l hg dX4_goOn_171 ?_
    refine e_lmul hg dX4_goOn_172 ?_
    exact X4_goOn_b173_ok hg hr  h
  · have h := o_neg c23 h
    refine e_lconst (v := 0) hg dX4_goOn_151 (by decide) ?_
    refine e_goto hg 173 dX4_goOn_152 (by decide) ?_
    exact X4_goOn_b173_ok hg hr  h

def X4_goOn_b136 (a1 : Int32) (a2 : Int32) (x3 : Int32) (x4 : Int32) (x8 : Int64) (M : mm) : Option (Int64 × mm) :=
  X4_goOn_b137 a1 a2 x3 x4 x8 0 M
set_option maxRecDepth 100000 in
set_option maxHeartbeats 4000000 in
theorem X4_goOn_b136_ok {g : gx} (hg : EC g cX4_goOn RX4 3) {a1 : Int32} {a2 : Int32} {r : Int64 × mm} (hr : RT g (some .long) (0, 0) (some (.long r.1)) (cells r.2)) {x3 : Int32} {x4 : Int32} {x8 : Int64} {o5 : Option Value} {o6 : Option Value} {o7 : Option Value} {o10 : Option Value} {o11 : Option Value} {o12 : Option Value} {M : mm} (h : X4_goOn_b136 a1 a2 x3 x4 x8 M = some r) : E g (0, 0) 136 [some (.ref 21), some (.int a1), some (.int a2), some (.int x3), some (.int x4), o5, o6, o7, some (.long x8), none, o10, o11, o12] [] (cells M) := by
  unfold X4_goOn_b136 at h
  refine e_iconst (v := 0) hg dX4_goOn_136 (by decide) ?_
  exact X4_goOn_b137_ok hg hr  h

def X4_goOn_b53 (a1 : Int32) (a2 : Int32) (x3 : Int32) (x4 : Int32) (x5 : Int32) (M : mm) : Option (Int64 × mm) :=
  gd (inb (M.1 21 2) 6) <|
  lt_ (((M.2.1 21 10) * (M.1 6 (M.1 21 2).toNatClampNeg).toInt64)) fun z4 =>
  gd (isA 1 (M.2.2 2)) <|
  gd (inb ((x5 * 4) + a2) (alN (M.2.2 2))) <|
  lt_ ((z4 + (M.2.1 (M.2.2 2) ((x5 * 4) + a2).toNatClampNeg))) fun z7 =>
  if 1 < a2 then
    gd (isA 1 (M.2.2 2)) <|
    gd (inb (((x5 * 4) + a2) - 1) (alN (M.2.2 2))) <|
    lt_ ((z4 + (M.2.1 (M.2.2 2) (((x5 * 4) + a2) - 1).toNatClampNeg))) fun z11 =>
    X4_goOn_b176 a1 a2 x3 x4 z7 z11 M
  else
    if x3 = 1 then
      bd (X3_isForgotten x4 M) fun v17 M18 =>
      if v17 = 0 then
        X4_goOn_b137 a1 a2 x3 x4 z7 1 M18
      else
        X4_goOn_b136 a1 a2 x3 x4 z7 M18
    else
      X4_goOn_b136 a1 a2 x3 x4 z7 M
set_option maxRecDepth 100000 in
set_option maxHeartbeats 4000000 in
theorem X4_goOn_b53_ok {g : gx} (hg : EC g cX4_goOn RX4 3) {a1 : Int32} {a2 : Int32} {r : Int64 × mm} (hr : RT g (some .long) (0, 0) (some (.long r.1)) (cells r.2)) {x3 : Int32} {x4 : Int32} {x5 : Int32} {o6 : Option Value} {o7 : Option Value} {o8 : Option Value} {o9 : Option Value} {o10 : Option Value} {o11 : Option Value} {o12 : Option Value} {M : mm} (h : X4_goOn_b53 a1 a2 x3 x4 x5 M = some r) : E g (0, 0) 53 [some (.ref 21), some (.int a1), some (.int a2), some (.int x3), some (.int x4), some (.int x5), o6, o7, o8, o9, o10, o11, o12] [] (cells M) := by
  unfold X4_goOn_b53 at h
  refine e_aload_n hg dX4_goOn_53 rfl ?_
  refine m_getJ hg ciX4 10 lk_246 dX4_goOn_54 io_21 (Nat.le_of_ble_eq_true rfl) rfl ?_
  refine e_aload_n hg dX4_goOn_57 rfl ?_
  refine m_getR (q := 1) hg ciX4 0 lk_236 dX4_goOn_58 io_21 (Nat.le_of_ble_eq_true rfl) rfl rf_21_0 ?_
  refine m_getR (q := 6) hg ciX3 9 lk_126 dX4_goOn_61 io_1 (Nat.le_of_ble_eq_true rfl) rfl rf_1_9 ?_
  refine e_aload_n hg dX4_goOn_64 rfl ?_
  refine m_getI hg ciX4 2 lk_238 dX4_goOn_65 io_21 (Nat.le_of_ble_eq_true rfl) rfl ?_
  obtain ⟨hi3, h⟩ := o_gd h
  refine m_iald hg sh_6 hi3 dX4_goOn_68 ?_
  refine e_i2l hg dX4_goOn_69 ?_
  refine e_lmul hg dX4_goOn_70 ?_
  obtain ⟨z4, hz4, h⟩ := o_lt h
  refine e_lstore (ls' := [some (.ref 21), some (.int a1), some (.int a2), some (.int x3), some (.int x4), some (.int x5), some (.long ((M.2.1 21 10) * (M.1 6 (M.1 21 2).toNatClampNeg).toInt64)), none, o8, o9, o10, o11, o12]) hg dX4_goOn_71 rfl ?_
  rw [← hz4]
  refine e_lload hg dX4_goOn_73 rfl ?_
  refine e_aload_n hg dX4_goOn_75 rfl ?_
  refine m_getV (i := 2) hg ciX4 12 lk_248 dX4_goOn_76 io_21 (Nat.le_of_ble_eq_true rfl) rfl (by decide) ?_
  refine e_iload hg dX4_goOn_79 rfl ?_
  refine e_iconst (v := 4) hg dX4_goOn_81 (by decide) ?_
  refine e_imul hg dX4_goOn_82 ?_
  refine e_iload_n hg dX4_goOn_83 rfl ?_
  refine e_iadd hg dX4_goOn_84 ?_
  obtain ⟨hA5, h⟩ := o_gd h
  obtain ⟨hi6, h⟩ := o_gd h
  refine m_lald hg (isA_spec hA5) hi6 dX4_goOn_85 ?_
  refine e_ladd hg dX4_goOn_86 ?_
  obtain ⟨z7, hz7, h⟩ := o_lt h
  refine e_lstore (ls' := [some (.ref 21), some (.int a1), some (.int a2), some (.int x3), some (.int x4), some (.int x5), some (.long z4), none, some (.long (z4 + (M.2.1 (M.2.2 2) ((x5 * 4) + a2).toNatClampNeg))), none, o10, o11, o12]) hg dX4_goOn_87 rfl ?_
  rw [← hz7]
  refine e_iload_n hg dX4_goOn_89 rfl ?_
  refine e_iconst (v := 1) hg dX4_goOn_90 (by decide) ?_
  refine e_icmple hg 115 dX4_goOn_91 (by decide) (fun c8 => ?_) (fun c8 => ?_)
  · have h := o_pos c8 h
    refine e_lload hg dX4_goOn_94 rfl ?_
    refine e_aload_n hg dX4_goOn_96 rfl ?_
    refine m_getV (i := 2) hg ciX4 12 lk_248 dX4_goOn_97 io_21 (Nat.le_of_ble_eq_true rfl) rfl (by decide) ?_
    refine e_iload hg dX4_goOn_100 rfl ?_
    refine e_iconst (v := 4) hg dX4_goOn_102 (by decide) ?_
    refine e_imul hg dX4_goOn_103 ?_
    refine e_iload_n hg dX4_goOn_104 rfl ?_
    refine e_iadd hg dX4_goOn_105 ?_
    refine e_iconst (v := 1) hg dX4_goOn_106 (by decide) ?_
    refine e_isub hg dX4_goOn_107 ?_
    obtain ⟨hA9, h⟩ := o_gd h
    obtain ⟨hi10, h⟩ := o_gd h
    refine m_lald hg (isA_spec hA9) hi10 dX4_goOn_108 ?_
    refine e_ladd hg dX4_goOn_109 ?_
    obtain ⟨z11, hz11, h⟩ := o_lt h
    refine e_lstore (ls' := [some (.ref 21), some (.int a1), some (.int a2), some (.int x3), some (.int x4), some (.int x5), some (.long z4), none, some (.long z7), none, some (.long (z4 + (M.2.1 (M.2.2 2) (((x5 * 4) + a2) - 1).toNatClampNeg))), none, o12]) hg dX4_goOn_110 rfl ?_
    rw [← hz11]
    refine e_goto hg 176 dX4_goOn_112 (by decide) ?_
    exact X4_goOn_b176_ok hg hr  h
  · have h := o_neg c8 h
    refine e_iload_n hg dX4_goOn_115 rfl ?_
    refine e_iconst (v := 1) hg dX4_goOn_116 (by decide) ?_
    refine e_icmpne hg 136 dX4_goOn_117 (by decide) (fun c16 => ?_) (fun c16 => ?_)
    · have h := o_pos c16 h
      refine e_aload_n hg dX4_goOn_120 rfl ?_
      refine m_getR (q := 1) hg ciX4 0 lk_236 dX4_goOn_121 io_21 (Nat.le_of_ble_eq_true rfl) rfl rf_21_0 ?_
      refine e_iload hg dX4_goOn_124 rfl ?_
      obtain ⟨v17, M18, hc19, h⟩ := o_bd h
      refine m_callVI (rest := []) (v := v17) (M' := M18) (ci := 3) hg mfX3_isForgotten mvX3_isForgotten (X3_isForgotten_ok (r := (v17, M18)) hc19) lk_713 dX4_goOn_126 io_1 rfl rfl rfl (by omega) (Nat.le_of_ble_eq_true rfl) ?_
      refine e_ifne hg 136 dX4_goOn_129 (by decide) (fun c20 => ?_) (fun c20 => ?_)
      · have h := o_pos c20 h
        refine e_iconst (v := 1) hg dX4_goOn_132 (by decide) ?_
        refine e_goto hg 137 dX4_goOn_133 (by decide) ?_
        exact X4_goOn_b137_ok hg hr  h
      · have h := o_neg c20 h
        exact X4_goOn_b136_ok hg hr  h
    · have h := o_neg c16 h
      exact X4_goOn_b136_ok hg hr  h

def X4_goOn_b40 (a1 : Int32) (a2 : Int32) (s0 : Int32) (M : mm) : Option (Int64 × mm) :=
  X4_goOn_b53 a1 a2 s0 ((a1 - 1) / 2) (a1 + 2) M
set_option maxRecDepth 100000 in
set_option maxHeartbeats 4000000 in
theorem X4_goOn_b40_ok {g : gx} (hg : EC g cX4_goOn RX4 3) {a1 : Int32} {a2 : Int32} {r : Int64 × mm} (hr : RT g (some .long) (0, 0) (some (.long r.1)) (cells r.2)) {s0 : Int32} {o3 : Option Value} {o4 : Option Value} {o5 : Option Value} {o6 : Option Value} {o7 : Option Value} {o8 : Option Value} {o9 : Option Value} {o10 : Option Value} {o11 : Option Value} {o12 : Option Value} {M : mm} (h : X4_goOn_b40 a1 a2 s0 M = some r) : E g (0, 0) 40 [some (.ref 21), some (.int a1), some (.int a2), o3, o4, o5, o6, o7, o8, o9, o10, o11, o12] [.int s0] (cells M) := by
  unfold X4_goOn_b40 at h
  refine e_istore_n (ls' := [some (.ref 21), some (.int a1), some (.int a2), some (.int s0), o4, o5, o6, o7, o8, o9, o10, o11, o12]) hg dX4_goOn_40 rfl ?_
  refine e_iload_n hg dX4_goOn_41 rfl ?_
  refine e_iconst (v := 1) hg dX4_goOn_42 (by decide) ?_
  refine e_isub hg dX4_goOn_43 ?_
  refine e_iconst (v := 2) hg dX4_goOn_44 (by decide) ?_
  refine e_idiv hg dX4_goOn_45 (by decide) ?_
  refine e_istore (ls' := [some (.ref 21), some (.int a1), some (.int a2), some (.int s0), some (.int ((a1 - 1) / 2)), o5, o6, o7, o8, o9, o10, o11, o12]) hg dX4_goOn_46 rfl ?_
  refine e_iload_n hg dX4_goOn_48 rfl ?_
  refine e_iconst (v := 2) hg dX4_goOn_49 (by decide) ?_
  refine e_iadd hg dX4_goOn_50 ?_
  refine e_istore (ls' := [some (.ref 21), some (.int a1), some (.int a2), some (.int s0), some (.int ((a1 - 1) / 2)), some (.int (a1 + 2)), o6, o7, o8, o9, o10, o11, o12]) hg dX4_goOn_51 rfl ?_
  exact X4_goOn_b53_ok hg hr  h

def X4_goOn (a1 : Int32) (a2 : Int32) (M : mm) : Option (Int64 × mm) :=
  lt_ ((if 99 < ((M.1 21 7) + (M.1 21 9)) then 99 else ((M.1 21 7) + (M.1 21 9)))) fun z1 =>
  if a1 = 0 then
    X4_goOn_b53 a1 a2 (M.1 21 6) z1 0 M
  else
    X4_goOn_b40 a1 a2 (if (a1 - a1 / 2 * 2) = 1 then 2 else 0) M
set_option maxRecDepth 100000 in
set_option maxHeartbeats 4000000 in
theorem X4_goOn_ok {a1 : Int32} {a2 : Int32} {M : mm} {r : Int64 × mm} (h : X4_goOn a1 a2 M = some r) : CM yX4_goOn cX4_goOn 13 (some .long) 3 [.ref 21, .int a1, .int a2] (cells M) (some (.long r.1)) (cells r.2) := by
  refine cm_of (ls := [some (.ref 21), some (.int a1), some (.int a2), none, none, none, none, none, none, none, none, none, none]) mfX4_goOn rfl (Nat.le_of_ble_eq_true rfl) (fun g hg hr => ?_)
  unfold X4_goOn at h
  refine e_aload_n hg dX4_goOn_0 rfl ?_
  refine m_getI hg ciX4 6 lk_242 dX4_goOn_1 io_21 (Nat.le_of_ble_eq_true rfl) rfl ?_
  refine e_istore_n (ls' := [some (.ref 21), some (.int a1), some (.int a2), some (.int (M.1 21 6)), none, none, none, none, none, none, none, none, none]) hg dX4_goOn_4 rfl ?_
  refine e_aload_n hg dX4_goOn_5 rfl ?_
  refine m_getI hg ciX4 7 lk_243 dX4_goOn_6 io_21 (Nat.le_of_ble_eq_true rfl) rfl ?_
  refine e_aload_n hg dX4_goOn_9 rfl ?_
  refine m_getI hg ciX4 9 lk_245 dX4_goOn_10 io_21 (Nat.le_of_ble_eq_true rfl) rfl ?_
  refine e_iadd hg dX4_goOn_13 ?_
  refine e_bipush (v := 99) hg dX4_goOn_14 (by decide) ?_
  refine e_mmin hg lk_712 (Nat.le_of_ble_eq_true rfl) (by omega) (cs0 g) dX4_goOn_16 ?_
  obtain ⟨z1, hz1, h⟩ := o_lt h
  refine e_istore (ls' := [some (.ref 21), some (.int a1), some (.int a2), some (.int (M.1 21 6)), some (.int (if 99 < ((M.1 21 7) + (M.1 21 9)) then 99 else ((M.1 21 7) + (M.1 21 9)))), none, none, none, none, none, none, none, none]) hg dX4_goOn_19 rfl ?_
  rw [← hz1]
  refine e_iconst (v := 0) hg dX4_goOn_21 (by decide) ?_
  refine e_istore (ls' := [some (.ref 21), some (.int a1), some (.int a2), some (.int (M.1 21 6)), some (.int z1), some (.int 0), none, none, none, none, none, none, none]) hg dX4_goOn_22 rfl ?_
  refine e_iload_n hg dX4_goOn_24 rfl ?_
  refine e_ifeq hg 53 dX4_goOn_25 (by decide) (fun c2 => ?_) (fun c2 => ?_)
  · have h := o_pos c2 h
    exact X4_goOn_b53_ok hg hr  h
  · have h := o_neg c2 h
    refine e_iload_n hg dX4_goOn_28 rfl ?_
    refine e_iconst (v := 2) hg dX4_goOn_29 (by decide) ?_
    refine e_irem hg dX4_goOn_30 (by decide) ?_
    refine e_iconst (v := 1) hg dX4_goOn_31 (by decide) ?_
    refine e_icmpne hg 39 dX4_goOn_32 (by decide) (fun c25 => ?_) (fun c25 => ?_)
    · simp only [if_pos c25] at h
      refine e_iconst (v := 2) hg dX4_goOn_35 (by decide) ?_
      refine e_goto hg 40 dX4_goOn_36 (by decide) ?_
      exact X4_goOn_b40_ok hg hr  h
    · simp only [if_neg c25] at h
      refine e_iconst (v := 0) hg dX4_goOn_39 (by decide) ?_
      exact X4_goOn_b40_ok hg hr  h

def X4_turnPage  (M : mm) : Option (Unit × mm) :=
  lt_ (sR M 1 (M.2.2 2)) fun M1 =>
  lt_ (sR M1 2 (M.2.2 1)) fun M2 =>
  lt_ (sL M2 21 (vp_updL (M2.2.1 21) 10 ((M2.2.1 21 10) * 12))) fun M3 =>
  some ((), M3)
set_option maxRecDepth 100000 in
set_option maxHeartbeats 4000000 in
theorem X4_turnPage_ok  {M : mm} {r : Unit × mm} (h : X4_turnPage  M = some r) : CM yX4_turnPage cX4_turnPage 2 (none) 0 [.ref 21] (cells M) none (cells r.2) := by
  refine cm_of (ls := [some (.ref 21), none]) mfX4_turnPage rfl (Nat.le_of_ble_eq_true rfl) (fun g hg hr => ?_)
  unfold X4_turnPage at h
  refine e_aload_n hg dX4_turnPage_0 rfl ?_
  refine m_getV (i := 1) hg ciX4 11 lk_247 dX4_turnPage_1 io_21 (Nat.le_of_ble_eq_true rfl) rfl (by decide) ?_
  refine e_astore_n (ls' := [some (.ref 21), some (.ref (M.2.2 1))]) hg dX4_turnPage_4 rfl ?_
  refine e_aload_n hg dX4_turnPage_5 rfl ?_
  refine e_aload_n hg dX4_turnPage_6 rfl ?_
  refine m_getV (i := 2) hg ciX4 12 lk_248 dX4_turnPage_7 io_21 (Nat.le_of_ble_eq_true rfl) rfl (by decide) ?_
  obtain ⟨M1, hM1, h⟩ := o_lt h
  refine m_putV (i := 1) hg ciX4 11 lk_247 dX4_turnPage_10 io_21 (Nat.le_of_ble_eq_true rfl) rfl rfl (by decide) (by decide +kernel) (fun _ => rfl) (fun _ => rfl) ?_
  rw [← hM1]
  refine e_aload_n hg dX4_turnPage_13 rfl ?_
  refine e_aload_n hg dX4_turnPage_14 rfl ?_
  obtain ⟨M2, hM2, h⟩ := o_lt h
  refine m_putV (i := 2) hg ciX4 12 lk_248 dX4_turnPage_15 io_21 (Nat.le_of_ble_eq_true rfl) rfl rfl (by decide) (by decide +kernel) (fun _ => rfl) (fun _ => rfl) ?_
  rw [← hM2]
  refine e_aload_n hg dX4_turnPage_18 rfl ?_
  refine e_dup hg dX4_turnPage_19 rfl ?_
  refine m_getJ hg ciX4 10 lk_246 dX4_turnPage_20 io_21 (Nat.le_of_ble_eq_true rfl) rfl ?_
  refine e_ldc2 hg dX4_turnPage_23 lk_718 ?_
  refine e_lmul hg dX4_turnPage_26 ?_
  obtain ⟨M3, hM3, h⟩ := o_lt h
  refine m_putJ hg ciX4 10 lk_246 dX4_turnPage_27 io_21 (Nat.le_of_ble_eq_true rfl) rfl rfl rfl rfl ?_
  rw [← hM3]
  exact m_vret hg hr dX4_turnPage_30 h

def X4_worthAt (a1 : Int32) (M : mm) : Option (Int64 × mm) :=
  bd (X4_mendsAt a1 M) fun v1 M2 =>
  if v1 = 0 then
    gd (inb a1 4) <|
    some ((M2.2.1 24 a1.toNatClampNeg), M2)
  else
    gd (inb a1 4) <|
    some ((M2.2.1 25 a1.toNatClampNeg), M2)
set_option maxRecDepth 100000 in
set_option maxHeartbeats 4000000 in
theorem X4_worthAt_ok {a1 : Int32} {M : mm} {r : Int64 × mm} (h : X4_worthAt a1 M = some r) : CM yX4_worthAt cX4_worthAt 2 (some .long) 1 [.ref 21, .int a1] (cells M) (some (.long r.1)) (cells r.2) := by
  refine cm_of (ls := [some (.ref 21), some (.int a1)]) mfX4_worthAt rfl (Nat.le_of_ble_eq_true rfl) (fun g hg hr => ?_)
  unfold X4_worthAt at h
  refine e_aload_n hg dX4_worthAt_0 rfl ?_
  refine e_iload_n hg dX4_worthAt_1 rfl ?_
  obtain ⟨v1, M2, hc3, h⟩ := o_bd h
  refine m_callVI (rest := []) (v := v1) (M' := M2) (ci := 4) hg mfX4_mendsAt mvX4_mendsAt (X4_mendsAt_ok (r := (v1, M2)) hc3) lk_723 dX4_worthAt_2 io_21 rfl rfl rfl (by omega) (Nat.le_of_ble_eq_true rfl) ?_
  refine e_ifeq hg 17 dX4_worthAt_5 (by decide) (fun c4 => ?_) (fun c4 => ?_)
  · have h := o_pos c4 h
    refine e_aload_n hg dX4_worthAt_17 rfl ?_
    refine m_getR (q := 24) hg ciX4 13 lk_249 dX4_worthAt_18 io_21 (Nat.le_of_ble_eq_true rfl) rfl rf_21_13 ?_
    refine e_iload_n hg dX4_worthAt_21 rfl ?_
    obtain ⟨hi5, h⟩ := o_gd h
    refine m_lald hg sh_24 hi5 dX4_worthAt_22 ?_
    exact m_lret hg hr dX4_worthAt_23 h
  · have h := o_neg c4 h
    refine e_aload_n hg dX4_worthAt_8 rfl ?_
    refine m_getR (q := 25) hg ciX4 14 lk_250 dX4_worthAt_9 io_21 (Nat.le_of_ble_eq_true rfl) rfl rf_21_14 ?_
    refine e_iload_n hg dX4_worthAt_12 rfl ?_
    obtain ⟨hi6, h⟩ := o_gd h
    refine m_lald hg sh_25 hi6 dX4_worthAt_13 ?_
    refine e_goto hg 23 dX4_worthAt_14 (by decide) ?_
    exact m_lret hg hr dX4_worthAt_23 h

def X4_think_b106 (a1 : Int32) (a2 : Int32) (R51 : Int32 → Int32 → mm → Option (Unit × mm)) (K113 : Int32 → mm → Option (Unit × mm)) (x3 : Int32) (x4 : Int32) (s1 : Int32) (s2 : Int64) (M : mm) : Option (Unit × mm) :=
  gd (inb s1 4) <|
  lt_ (sL M 25 (vp_updL (M.2.1 25) s1.toNatClampNeg s2)) fun M18 =>
  R51 x3 (x4 + (-1)) M18
set_option maxRecDepth 100000 in
set_option maxHeartbeats 4000000 in
theorem X4_think_b106_ok {g : gx} (hg : EC g cX4_think RX4 4) {a1 : Int32} {a2 : Int32} {r : Unit × mm} (hr : RT g (none) (0, 0) none (cells r.2)) {R51 : Int32 → Int32 → mm → Option (Unit × mm)} (hR51 : ∀ (x3 : Int32) (x4 : Int32) (o5 : Option Value) (M : mm), R51 x3 x4 M = some r → E g (0, 0) 51 [some (.ref 21), some (.int a1), some (.int a2), some (.int x3), some (.int x4), o5] [] (cells M)) {K113 : Int32 → mm → Option (Unit × mm)} (hK113 : ∀ (x3 : Int32) (o4 : Option Value) (o5 : Option Value) (M : mm), K113 x3 M = some r → E g (0, 0) 113 [some (.ref 21), some (.int a1), some (.int a2), some (.int x3), o4, o5] [] (cells M)) {x3 : Int32} {x4 : Int32} {s1 : Int32} {s2 : Int64} {o5 : Option Value} {M : mm} (h : X4_think_b106 a1 a2 R51 K113 x3 x4 s1 s2 M = some r) : E g (0, 0) 106 [some (.ref 21), some (.int a1), some (.int a2), some (.int x3), some (.int x4), o5] [.long s2, .int s1, .ref 25] (cells M) := by
  unfold X4_think_b106 at h
  obtain ⟨hi17, h⟩ := o_gd h
  obtain ⟨M18, hM18, h⟩ := o_lt h
  refine m_last hg sh_25 hi17 dX4_think_106 ?_
  rw [← hM18]
  refine e_iinc (v := (x4 + (-1))) (ls' := [some (.ref 21), some (.int a1), some (.int a2), some (.int x3), some (.int (x4 + (-1))), o5]) hg dX4_think_107 rfl rfl rfl ?_
  refine e_goto hg 51 dX4_think_110 (by decide) ?_
  exact hR51 _ _ _ _ h

def X4_think_L51 (a1 : Int32) (a2 : Int32) (K113 : Int32 → mm → Option (Unit × mm)) : Nat → Int32 → Int32 → mm → Option (Unit × mm)
  | 0, _, _, _ => none
  | n_ + 1, x3, x4, M =>
    if x4 < 1 then
      K113 x3 M
    else
      if x4 < (M.1 21 4) then
        gd (inb (M.1 21 4) 4) <|
        X4_think_b106 a1 a2 (X4_think_L51 a1 a2 K113 n_) K113 x3 x4 x4 (M.2.1 25 (M.1 21 4).toNatClampNeg) M
      else
        bd (X4_goOn 1 x4 M) fun v19 M20 =>
        X4_think_b106 a1 a2 (X4_think_L51 a1 a2 K113 n_) K113 x3 x4 x4 (v19 - (((M20.1 21 5).toInt64 * (M20.2.1 21 10)) * 12)) M20
set_option maxRecDepth 100000 in
set_option maxHeartbeats 4000000 in
theorem X4_think_L51_ok {g : gx} (hg : EC g cX4_think RX4 4) {a1 : Int32} {a2 : Int32} {r : Unit × mm} (hr : RT g (none) (0, 0) none (cells r.2)) {K113 : Int32 → mm → Option (Unit × mm)} (hK113 : ∀ (x3 : Int32) (o4 : Option Value) (o5 : Option Value) (M : mm), K113 x3 M = some r → E g (0, 0) 113 [some (.ref 21), some (.int a1), some (.int a2), some (.int x3), o4, o5] [] (cells M)) : ∀ (n_ : Nat) (x3 : Int32) (x4 : Int32) (o5 : Option Value) (M : mm), X4_think_L51 a1 a2 K113 n_ x3 x4 M = some r → E g (0, 0) 51 [some (.ref 21), some (.int a1), some (.int a2), some (.int x3), some (.int x4), o5] [] (cells M) := by
  intro n_
  induction n_ with
  | zero => intro x3 x4 o5 M h; exact o_no h
  | succ n_ ih =>
    intro x3 x4 o5 M h
    rw [X4_think_L51] at h
    refine e_iload hg dX4_think_51 rfl ?_
    refine e_iconst (v := 1) hg dX4_think_53 (by decide) ?_
    refine e_icmplt hg 113 dX4_think_54 (by decide) (fun c14 => ?_) (fun c14 => ?_)
    · have h := o_pos c14 h
      exact hK113 _ _ _ _ h
    · have h := o_neg c14 h
      refine e_aload_n hg dX4_think_57 rfl ?_
      refine m_getR (q := 25) hg ciX4 14 lk_250 dX4_think_58 io_21 (Nat.le_of_ble_eq_true rfl) rfl rf_21_14 ?_
      refine e_iload hg dX4_think_61 rfl ?_
      refine e_iload hg dX4_think_63 rfl ?_
      refine e_aload_n hg dX4_think_65 rfl ?_
      refine m_getI hg ciX4 4 lk_240 dX4_think_66 io_21 (Nat.le_of_ble_eq_true rfl) rfl ?_
      refine e_icmpge hg 84 dX4_think_69 (by decide) (fun c15 => ?_) (fun c15 => ?_)
      · have h := o_pos c15 h
        refine e_aload_n hg dX4_think_72 rfl ?_
        refine m_getR (q := 25) hg ciX4 14 lk_250 dX4_think_73 io_21 (Nat.le_of_ble_eq_true rfl) rfl rf_21_14 ?_
        refine e_aload_n hg dX4_think_76 rfl ?_
        refine m_getI hg ciX4 4 lk_240 dX4_think_77 io_21 (Nat.le_of_ble_eq_true rfl) rfl ?_
        obtain ⟨hi16, h⟩ := o_gd h
        refine m_lald hg sh_25 hi16 dX4_think_80 ?_
        refine e_goto hg 106 dX4_think_81 (by decide) ?_
        exact X4_think_b106_ok hg hr ih hK113 h
      · have h := o_neg c15 h
        refine e_aload_n hg dX4_think_84 rfl ?_
        refine e_iconst (v := 1) hg dX4_think_85 (by decide) ?_
        refine e_iload hg dX4_think_86 rfl ?_
        obtain ⟨v19, M20, hc21, h⟩ := o_bd h
        refine m_callVJ (rest := [.int x4, .ref 25]) (v := v19) (M' := M20) (ci := 4) hg mfX4_goOn mvX4_goOn (X4_goOn_ok (r := (v19, M20)) hc21) lk_708 dX4_think_88 io_21 rfl rfl rfl (by omega) (Nat.le_of_ble_eq_true rfl) ?_
        refine e_aload_n hg dX4_think_91 rfl ?_
        refine m_getI hg ciX4 5 lk_241 dX4_think_92 io_21 (Nat.le_of_ble_eq_true rfl) rfl ?_
        refine e_i2l hg dX4_think_95 ?_
        refine e_aload_n hg dX4_think_96 rfl ?_
        refine m_getJ hg ciX4 10 lk_246 dX4_think_97 io_21 (Nat.le_of_ble_eq_true rfl) rfl ?_
        refine e_lmul hg dX4_think_100 ?_
        refine e_ldc2 hg dX4_think_101 lk_718 ?_
        refine e_lmul hg dX4_think_104 ?_
        refine e_lsub hg dX4_think_105 ?_
        exact X4_think_b106_ok hg hr ih hK113 h

def X4_think_b186 (a1 : Int32) (a2 : Int32) (R116 : Int32 → Int32 → mm → Option (Unit × mm)) (K192 : Int32 → mm → Option (Unit × mm)) (x3 : Int32) (x4 : Int32) (M : mm) : Option (Unit × mm) :=
  R116 x3 (x4 + 1) M
set_option maxRecDepth 100000 in
set_option maxHeartbeats 4000000 in
theorem X4_think_b186_ok {g : gx} (hg : EC g cX4_think RX4 4) {a1 : Int32} {a2 : Int32} {r : Unit × mm} (hr : RT g (none) (0, 0) none (cells r.2)) {R116 : Int32 → Int32 → mm → Option (Unit × mm)} (hR116 : ∀ (x3 : Int32) (x4 : Int32) (o5 : Option Value) (M : mm), R116 x3 x4 M = some r → E g (0, 0) 116 [some (.ref 21), some (.int a1), some (.int a2), some (.int x3), some (.int x4), o5] [] (cells M)) {K192 : Int32 → mm → Option (Unit × mm)} (hK192 : ∀ (x3 : Int32) (o4 : Option Value) (o5 : Option Value) (M : mm), K192 x3 M = some r → E g (0, 0) 192 [some (.ref 21), some (.int a1), some (.int a2), some (.int x3), o4, o5] [] (cells M)) {x3 : Int32} {x4 : Int32} {o5 : Option Value} {M : mm} (h : X4_think_b186 a1 a2 R116 K192 x3 x4 M = some r) : E g (0, 0) 186 [some (.ref 21), some (.int a1), some (.int a2), some (.int x3), some (.int x4), o5] [] (cells M) := by
  unfold X4_think_b186 at h
  refine e_iinc (v := (x4 + 1)) (ls' := [some (.ref 21), some (.int a1), some (.int a2), some (.int x3), some (.int (x4 + 1)), o5]) hg dX4_think_186 rfl rfl rfl ?_
  refine e_goto hg 116 dX4_think_189 (by decide) ?_
  exact hR116 _ _ _ _ h

def X4_think_L141 (a1 : Int32) (a2 : Int32) (K186 : Int32 → Int32 → mm → Option (Unit × mm)) : Nat → Int32 → Int32 → Int32 → mm → Option (Unit × mm)
  | 0, _, _, _, _ => none
  | n_ + 1, x3, x4, x5, M =>
    if 3 < x5 then
      K186 x3 x4 M
    else
      bd (X4_goOn x4 x5 M) fun v25 M26 =>
      gd (inb x5 4) <|
      lt_ (sL M26 24 (vp_updL (M26.2.1 24) x5.toNatClampNeg v25)) fun M29 =>
      bd (X4_worthAt x5 M29) fun v30 M31 =>
      gd (isA 1 (M29.2.2 1)) <|
      gd (inb ((x4 * 4) + x5) (alN (M29.2.2 1))) <|
      lt_ (sL M31 (M29.2.2 1) (vp_updL (M31.2.1 (M29.2.2 1)) ((x4 * 4) + x5).toNatClampNeg v30)) fun M35 =>
      (X4_think_L141 a1 a2 K186 n_) x3 x4 (x5 + 1) M35
set_option maxRecDepth 100000 in
set_option maxHeartbeats 4000000 in
theorem X4_think_L141_ok {g : gx} (hg : EC g cX4_think RX4 4) {a1 : Int32} {a2 : Int32} {r : Unit × mm} (hr : RT g (none) (0, 0) none (cells r.2)) {K186 : Int32 → Int32 → mm → Option (Unit × mm)} (hK186 : ∀ (x3 : Int32) (x4 : Int32) (o5 : Option Value) (M : mm), K186 x3 x4 M = some r → E g (0, 0) 186 [some (.ref 21), some (.int a1), some (.int a2), some (.int x3), some (.int x4), o5] [] (cells M)) : ∀ (n_ : Nat) (x3 : Int32) (x4 : Int32) (x5 : Int32) (M : mm), X4_think_L141 a1 a2 K186 n_ x3 x4 x5 M = some r → E g (0, 0) 141 [some (.ref 21), some (.int a1), some (.int a2), some (.int x3), some (.int x4), some (.int x5)] [] (cells M) := by
  intro n_
  induction n_ with
  | zero => intro x3 x4 x5 M h; exact o_no h
  | succ n_ ih =>
    intro x3 x4 x5 M h
    rw [X4_think_L141] at h
    refine e_iload hg dX4_think_141 rfl ?_
    refine e_iconst (v := 3) hg dX4_think_143 (by decide) ?_
    refine e_icmpgt hg 186 dX4_think_144 (by decide) (fun c24 => ?_) (fun c24 => ?_)
    · have h := o_pos c24 h
      exact hK186 _ _ _ _ h
    · have h := o_neg c24 h
      refine e_aload_n hg dX4_think_147 rfl ?_
      refine m_getR (q := 24) hg ciX4 13 lk_249 dX4_think_148 io_21 (Nat.le_of_ble_eq_true rfl) rfl rf_21_13 ?_
      refine e_iload hg dX4_think_151 rfl ?_
      refine e_aload_n hg dX4_think_153 rfl ?_
      refine e_iload hg dX4_think_154 rfl ?_
      refine e_iload hg dX4_think_156 rfl ?_
      obtain ⟨v25, M26, hc27, h⟩ := o_bd h
      refine m_callVJ (rest := [.int x5, .ref 24]) (v := v25) (M' := M26) (ci := 4) hg mfX4_goOn mvX4_goOn (X4_goOn_ok (r := (v25, M26)) hc27) lk_708 dX4_think_158 io_21 rfl rfl rfl (by omega) (Nat.le_of_ble_eq_true rfl) ?_
      obtain ⟨hi28, h⟩ := o_gd h
      obtain ⟨M29, hM29, h⟩ := o_lt h
      refine m_last hg sh_24 hi28 dX4_think_161 ?_
      rw [← hM29]
      refine e_aload_n hg dX4_think_162 rfl ?_
      refine m_getV (i := 1) hg ciX4 11 lk_247 dX4_think_163 io_21 (Nat.le_of_ble_eq_true rfl) rfl (by decide) ?_
      refine e_iload hg dX4_think_166 rfl ?_
      refine e_iconst (v := 4) hg dX4_think_168 (by decide) ?_
      refine e_imul hg dX4_think_169 ?_
      refine e_iload hg dX4_think_170 rfl ?_
      refine e_iadd hg dX4_think_172 ?_
      refine e_aload_n hg dX4_think_173 rfl ?_
      refine e_iload hg dX4_think_174 rfl ?_
      obtain ⟨v30, M31, hc32, h⟩ := o_bd h
      refine m_callVJ (rest := [.int ((x4 * 4) + x5), .ref (M29.2.2 1)]) (v := v30) (M' := M31) (ci := 4) hg mfX4_worthAt mvX4_worthAt (X4_worthAt_ok (r := (v30, M31)) hc32) lk_719 dX4_think_176 io_21 rfl rfl rfl (by omega) (Nat.le_of_ble_eq_true rfl) ?_
      obtain ⟨hA33, h⟩ := o_gd h
      obtain ⟨hi34, h⟩ := o_gd h
      obtain ⟨M35, hM35, h⟩ := o_lt h
      refine m_last hg (isA_spec hA33) hi34 dX4_think_179 ?_
      rw [← hM35]
      refine e_iinc (v := (x5 + 1)) (ls' := [some (.ref 21), some (.int a1), some (.int a2), some (.int x3), some (.int x4), some (.int (x5 + 1))]) hg dX4_think_180 rfl rfl rfl ?_
      refine e_goto hg 141 dX4_think_183 (by decide) ?_
      exact ih _ _ _ _ h

def X4_think_L116 (a1 : Int32) (a2 : Int32) (K192 : Int32 → mm → Option (Unit × mm)) : Nat → Int32 → Int32 → mm → Option (Unit × mm)
  | 0, _, _, _ => none
  | n_ + 1, x3, x4, M =>
    if (1 + (2 * (M.1 21 9))) < x4 then
      K192 x3 M
    else
      if x4 = 1 then
        X4_think_b186 a1 a2 (X4_think_L116 a1 a2 K192 n_) K192 x3 x4 M
      else
        X4_think_L141 a1 a2 (fun x3 x4 M =>
            X4_think_b186 a1 a2 (X4_think_L116 a1 a2 K192 n_) K192 x3 x4 M) 10000 x3 x4 1 M
set_option maxRecDepth 100000 in
set_option maxHeartbeats 4000000 in
theorem X4_think_L116_ok {g : gx} (hg : EC g cX4_think RX4 4) {a1 : Int32} {a2 : Int32} {r : Unit × mm} (hr : RT g (none) (0, 0) none (cells r.2)) {K192 : Int32 → mm → Option (Unit × mm)} (hK192 : ∀ (x3 : Int32) (o4 : Option Value) (o5 : Option Value) (M : mm), K192 x3 M = some r → E g (0, 0) 192 [some (.ref 21), some (.int a1), some (.int a2), some (.int x3), o4, o5] [] (cells M)) : ∀ (n_ : Nat) (x3 : Int32) (x4 : Int32) (o5 : Option Value) (M : mm), X4_think_L116 a1 a2 K192 n_ x3 x4 M = some r → E g (0, 0) 116 [some (.ref 21), some (.int a1), some (.int a2), some (.int x3), some (.int x4), o5] [] (cells M) := by
  intro n_
  induction n_ with
  | zero => intro x3 x4 o5 M h; exact o_no h
  | succ n_ ih =>
    intro x3 x4 o5 M h
    rw [X4_think_L116] at h
    refine e_iload hg dX4_think_116 rfl ?_
    refine e_iconst (v := 1) hg dX4_think_118 (by decide) ?_
    refine e_iconst (v := 2) hg dX4_think_119 (by decide) ?_
    refine e_aload_n hg dX4_think_120 rfl ?_
    refine m_getI hg ciX4 9 lk_245 dX4_think_121 io_21 (Nat.le_of_ble_eq_true rfl) rfl ?_
    refine e_imul hg dX4_think_124 ?_
    refine e_iadd hg dX4_think_125 ?_
    refine e_icmpgt hg 192 dX4_think_126 (by decide) (fun c22 => ?_) (fun c22 => ?_)
    · have h := o_pos c22 h
      exact hK192 _ _ _ _ h
    · have h := o_neg c22 h
      refine e_iload hg dX4_think_129 rfl ?_
      refine e_iconst (v := 1) hg dX4_think_131 (by decide) ?_
      refine e_icmpne hg 138 dX4_think_132 (by decide) (fun c23 => ?_) (fun c23 => ?_)
      · have h := o_pos c23 h
        refine e_goto hg 186 dX4_think_135 (by decide) ?_
        exact X4_think_b186_ok hg hr ih hK192 h
      · have h := o_neg c23 h
        refine e_iconst (v := 1) hg dX4_think_138 (by decide) ?_
        refine e_istore (ls' := [some (.ref 21), some (.int a1), some (.int a2), some (.int x3), some (.int x4), some (.int 1)]) hg dX4_think_139 rfl ?_
        refine X4_think_L141_ok hg hr (fun x3 x4 o5 M h => ?_) 10000 _ _ _ _ h
        exact X4_think_b186_ok hg hr ih hK192 h

def X4_think_L36 (a1 : Int32) (a2 : Int32) : Nat → Int32 → mm → Option (Unit × mm)
  | 0, _, _ => none
  | n_ + 1, x3, M =>
    if a1 < x3 then
      some ((), M)
    else
      lt_ (sA M 21 (upd (M.1 21) 9 (a1 - x3))) fun M13 =>
      X4_think_L51 a1 a2 (fun x3 M =>
          X4_think_L116 a1 a2 (fun x3 M =>
              bd (X4_turnPage M) fun u36 M37 =>
              (X4_think_L36 a1 a2 n_) (x3 + 1) M37) 10000 x3 0 M) 10000 x3 3 M13
set_option maxRecDepth 100000 in
set_option maxHeartbeats 4000000 in
theorem X4_think_L36_ok {g : gx} (hg : EC g cX4_think RX4 4) {a1 : Int32} {a2 : Int32} {r : Unit × mm} (hr : RT g (none) (0, 0) none (cells r.2)) : ∀ (n_ : Nat) (x3 : Int32) (o4 : Option Value) (o5 : Option Value) (M : mm), X4_think_L36 a1 a2 n_ x3 M = some r → E g (0, 0) 36 [some (.ref 21), some (.int a1), some (.int a2), some (.int x3), o4, o5] [] (cells M) := by
  intro n_
  induction n_ with
  | zero => intro x3 o4 o5 M h; exact o_no h
  | succ n_ ih =>
    intro x3 o4 o5 M h
    rw [X4_think_L36] at h
    refine e_iload_n hg dX4_think_36 rfl ?_
    refine e_iload_n hg dX4_think_37 rfl ?_
    refine e_icmpgt hg 202 dX4_think_38 (by decide) (fun c12 => ?_) (fun c12 => ?_)
    · have h := o_pos c12 h
      exact m_vret hg hr dX4_think_202 h
    · have h := o_neg c12 h
      refine e_aload_n hg dX4_think_41 rfl ?_
      refine e_iload_n hg dX4_think_42 rfl ?_
      refine e_iload_n hg dX4_think_43 rfl ?_
      refine e_isub hg dX4_think_44 ?_
      obtain ⟨M13, hM13, h⟩ := o_lt h
      refine m_putI hg ciX4 9 lk_245 dX4_think_45 io_21 (Nat.le_of_ble_eq_true rfl) rfl rfl rfl rfl ?_
      rw [← hM13]
      refine e_iconst (v := 3) hg dX4_think_48 (by decide) ?_
      refine e_istore (ls' := [some (.ref 21), some (.int a1), some (.int a2), some (.int x3), some (.int 3), o5]) hg dX4_think_49 rfl ?_
      refine X4_think_L51_ok hg hr (fun x3 o4 o5 M h => ?_) 10000 _ _ _ _ h
      refine e_iconst (v := 0) hg dX4_think_113 (by decide) ?_
      refine e_istore (ls' := [some (.ref 21), some (.int a1), some (.int a2), some (.int x3), some (.int 0), o5]) hg dX4_think_114 rfl ?_
      refine X4_think_L116_ok hg hr (fun x3 o4 o5 M h => ?_) 10000 _ _ _ _ h
      refine e_aload_n hg dX4_think_192 rfl ?_
      obtain ⟨u36, M37, hc38, h⟩ := o_bd h
      refine m_callVV (rest := []) (M' := M37) (ci := 4) hg mfX4_turnPage mvX4_turnPage (X4_turnPage_ok (r := (u36, M37)) hc38) lk_727 dX4_think_193 io_21 rfl rfl rfl (by omega) (Nat.le_of_ble_eq_true rfl) ?_
      refine e_iinc (v := (x3 + 1)) (ls' := [some (.ref 21), some (.int a1), some (.int a2), some (.int (x3 + 1)), o4, o5]) hg dX4_think_196 rfl rfl rfl ?_
      refine e_goto hg 36 dX4_think_199 (by decide) ?_
      exact ih _ _ _ _ h

def X4_think (a1 : Int32) (a2 : Int32) (M : mm) : Option (Unit × mm) :=
  lt_ (sA M 21 (upd (M.1 21) 8 a2)) fun M1 =>
  bd (J7_fill_d0a16 (M1.2.2 2) 0 M1) fun u2 M3 =>
  bd (J7_fill_d0a16 24 0 M3) fun u5 M6 =>
  bd (J7_fill_d0a16 25 0 M6) fun u8 M9 =>
  lt_ (sL M9 21 (vp_updL (M9.2.1 21) 10 1)) fun M11 =>
  X4_think_L36 a1 a2 10000 1 M11
set_option maxRecDepth 100000 in
set_option maxHeartbeats 4000000 in
theorem X4_think_ok {a1 : Int32} {a2 : Int32} {M : mm} {r : Unit × mm} (h : X4_think a1 a2 M = some r) : CM yX4_think cX4_think 6 (none) 4 [.ref 21, .int a1, .int a2] (cells M) none (cells r.2) := by
  refine cm_of (ls := [some (.ref 21), some (.int a1), some (.int a2), none, none, none]) mfX4_think rfl (Nat.le_of_ble_eq_true rfl) (fun g hg hr => ?_)
  unfold X4_think at h
  refine e_aload_n hg dX4_think_0 rfl ?_
  refine e_iload_n hg dX4_think_1 rfl ?_
  obtain ⟨M1, hM1, h⟩ := o_lt h
  refine m_putI hg ciX4 8 lk_244 dX4_think_2 io_21 (Nat.le_of_ble_eq_true rfl) rfl rfl rfl rfl ?_
  rw [← hM1]
  refine e_aload_n hg dX4_think_5 rfl ?_
  refine m_getV (i := 2) hg ciX4 12 lk_248 dX4_think_6 io_21 (Nat.le_of_ble_eq_true rfl) rfl (by decide) ?_
  refine e_lconst (v := 0) hg dX4_think_9 (by decide) ?_
  obtain ⟨u2, M3, hc4, h⟩ := o_bd h
  refine m_callSV (rest := []) (M' := M3) hg mfJ7_fill_d0a16 mvJ7_fill_d0a16 (J7_fill_d0a16_ok (r := (u2, M3)) hc4) lk_705 dX4_think_10 rfl rfl (by omega) (Nat.le_of_ble_eq_true rfl) ?_
  refine e_aload_n hg dX4_think_13 rfl ?_
  refine m_getR (q := 24) hg ciX4 13 lk_249 dX4_think_14 io_21 (Nat.le_of_ble_eq_true rfl) rfl rf_21_13 ?_
  refine e_lconst (v := 0) hg dX4_think_17 (by decide) ?_
  obtain ⟨u5, M6, hc7, h⟩ := o_bd h
  refine m_callSV (rest := []) (M' := M6) hg mfJ7_fill_d0a16 mvJ7_fill_d0a16 (J7_fill_d0a16_ok (r := (u5, M6)) hc7) lk_705 dX4_think_18 rfl rfl (by omega) (Nat.le_of_ble_eq_true rfl) ?_
  refine e_aload_n hg dX4_think_21 rfl ?_
  refine m_getR (q := 25) hg ciX4 14 lk_250 dX4_think_22 io_21 (Nat.le_of_ble_eq_true rfl) rfl rf_21_14 ?_
  refine e_lconst (v := 0) hg dX4_think_25 (by decide) ?_
  obtain ⟨u8, M9, hc10, h⟩ := o_bd h
  refine m_callSV (rest := []) (M' := M9) hg mfJ7_fill_d0a16 mvJ7_fill_d0a16 (J7_fill_d0a16_ok (r := (u8, M9)) hc10) lk_705 dX4_think_26 rfl rfl (by omega) (Nat.le_of_ble_eq_true rfl) ?_
  refine e_aload_n hg dX4_think_29 rfl ?_
  refine e_lconst (v := 1) hg dX4_think_30 (by decide) ?_
  obtain ⟨M11, hM11, h⟩ := o_lt h
  refine m_putJ hg ciX4 10 lk_246 dX4_think_31 io_21 (Nat.le_of_ble_eq_true rfl) rfl rfl rfl rfl ?_
  rw [← hM11]
  refine e_iconst (v := 1) hg dX4_think_34 (by decide) ?_
  refine e_istore_n (ls' := [some (.ref 21), some (.int a1), some (.int a2), some (.int 1), none, none]) hg dX4_think_35 rfl ?_
  exact X4_think_L36_ok hg hr  10000 _ _ _ _ h

def X4_mendsInDeed_b201 (a1 : Nat) (a2 : Int32) (x4 : Int32) (s1 : Int32) (s2 : Int64) (s3 : Int32) (M : mm) : Option (Int32 × mm) :=
  gd (inb s1 2048) <|
  lt_ (sL M 26 (vp_updL (M.2.1 26) s1.toNatClampNeg (s2 + s3.toInt64))) fun M31 =>
  bd (X4_mendsAt x4 M31) fun v32 M33 =>
  gd (decide (v32 = 0 ∨ v32 = 1)) <|
  some (v32, M33)
set_option maxRecDepth 100000 in
set_option maxHeartbeats 4000000 in
theorem X4_mendsInDeed_b201_ok {g : gx} (hg : EC g cX4_mendsInDeed RX4 5) {a1 : Nat} {a2 : Int32} (ho1 : isO 9 a1 = true) {r : Int32 × mm} (hr : RT g (some .boolean) (0, 0) (some (.int r.1)) (cells r.2)) {x4 : Int32} {s1 : Int32} {s2 : Int64} {s3 : Int32} {o3 : Option Value} {o5 : Option Value} {o6 : Option Value} {o7 : Option Value} {M : mm} (h : X4_mendsInDeed_b201 a1 a2 x4 s1 s2 s3 M = some r) : E g (0, 0) 201 [some (.ref 21), some (.ref a1), some (.int a2), o3, some (.int x4), o5, o6, o7] [.int s3, .long s2, .int s1, .ref 26] (cells M) := by
  unfold X4_mendsInDeed_b201 at h
  refine e_i2l hg dX4_mendsInDeed_201 ?_
  refine e_ladd hg dX4_mendsInDeed_202 ?_
  obtain ⟨hi30, h⟩ := o_gd h
  obtain ⟨M31, hM31, h⟩ := o_lt h
  refine m_last hg sh_26 hi30 dX4_mendsInDeed_203 ?_
  rw [← hM31]
  refine e_aload_n hg dX4_mendsInDeed_204 rfl ?_
  refine e_iload hg dX4_mendsInDeed_205 rfl ?_
  obtain ⟨v32, M33, hc34, h⟩ := o_bd h
  refine m_callVI (rest := []) (v := v32) (M' := M33) (ci := 4) hg mfX4_mendsAt mvX4_mendsAt (X4_mendsAt_ok (r := (v32, M33)) hc34) lk_723 dX4_mendsInDeed_207 io_21 rfl rfl rfl (by omega) (Nat.le_of_ble_eq_true rfl) ?_
  obtain ⟨hb35, h⟩ := o_gd h
  exact m_zret hg hr (nb_of (of_decide_eq_true hb35)) dX4_mendsInDeed_210 h

def X4_mendsInDeed (a1 : Nat) (a2 : Int32) (M : mm) : Option (Int32 × mm) :=
  gd (isO 9 a1) <|
  gd (inb a2 6) <|
  gd (inb a2 6) <|
  gd (inb a2 6) <|
  bd (X4_sideOf (M.1 (a1 + 2) a2.toNatClampNeg) (M.1 5 a2.toNatClampNeg) M) fun v4 M5 =>
  lt_ ((((((((M.1 1 4).toInt64 * 10) + (M.1 1 2).toInt64) * 6) + a2.toInt64) * 3) + v4.toInt64)) fun z7 =>
  gd (inb a2 6) <|
  lt_ ((((((z7 * 100) + (M5.1 (a1 + 4) a2.toNatClampNeg).toInt64) * 3) + (M.1 (a1 + 1) a2.toNatClampNeg).toInt64) - 1)) fun z9 =>
  gd (inb ((z9 - z9 / 2048 * 2048).toInt32) 2048) <|
  if (lg_cmp ((M5.2.1 26 ((z9 - z9 / 2048 * 2048).toInt32).toNatClampNeg) >>> ((1 : Int32).toInt64 &&& 63)) z9) = 0 then
    gd (inb ((z9 - z9 / 2048 * 2048).toInt32) 2048) <|
    if (lg_cmp ((M5.2.1 26 ((z9 - z9 / 2048 * 2048).toInt32).toNatClampNeg) &&& 1) 1) = 0 then
      some (1, M5)
    else
      some (0, M5)
  else
    gd (inb (M.1 5 a2.toNatClampNeg) 5) <|
    bd (X4_consider a2 (M.1 5 a2.toNatClampNeg) (M5.1 2 (M.1 5 a2.toNatClampNeg).toNatClampNeg) M5) fun u15 M16 =>
    gd (inb a2 6) <|
    gd (inb a2 6) <|
    bd (X4_start (M16.1 (a1 + 2) a2.toNatClampNeg) (M16.1 (a1 + 4) a2.toNatClampNeg) M16) fun u20 M21 =>
    bd (X4_think 4 4 M21) fun u23 M24 =>
    bd (X4_mendsAt (M.1 (a1 + 1) a2.toNatClampNeg) M24) fun v26 M27 =>
    X4_mendsInDeed_b201 a1 a2 (M.1 (a1 + 1) a2.toNatClampNeg) ((z9 - z9 / 2048 * 2048).toInt32) (z9 * 2) (if v26 = 0 then 0 else 1) M27
set_option maxRecDepth 100000 in
set_option maxHeartbeats 4000000 in
theorem X4_mendsInDeed_ok {a1 : Nat} {a2 : Int32} {M : mm} {r : Int32 × mm} (h : X4_mendsInDeed a1 a2 M = some r) : CM yX4_mendsInDeed cX4_mendsInDeed 8 (some .boolean) 5 [.ref 21, .ref a1, .int a2] (cells M) (some (.int r.1)) (cells r.2) := by
  refine cm_of (ls := [some (.ref 21), some (.ref a1), some (.int a2), none, none, none, none, none]) mfX4_mendsInDeed rfl (Nat.le_of_ble_eq_true rfl) (fun g hg hr => ?_)
  unfold X4_mendsInDeed at h
  obtain ⟨ho1, h⟩ := o_gd h
  refine e_aload_n hg dX4_mendsInDeed_0 rfl ?_
  refine m_getR (q := 1) hg ciX4 0 lk_236 dX4_mendsInDeed_1 io_21 (Nat.le_of_ble_eq_true rfl) rfl rf_21_0 ?_
  refine m_getR (q := 5) hg ciX3 8 lk_123 dX4_mendsInDeed_4 io_1 (Nat.le_of_ble_eq_true rfl) rfl rf_1_8 ?_
  refine e_iload_n hg dX4_mendsInDeed_7 rfl ?_
  obtain ⟨hi1, h⟩ := o_gd h
  refine m_iald hg sh_5 hi1 dX4_mendsInDeed_8 ?_
  refine e_istore_n (ls' := [some (.ref 21), some (.ref a1), some (.int a2), some (.int (M.1 5 a2.toNatClampNeg)), none, none, none, none]) hg dX4_mendsInDeed_9 rfl ?_
  refine e_aload_n hg dX4_mendsInDeed_10 rfl ?_
  refine m_getR (q := (a1 + 1)) hg ciX9 2 lk_320 dX4_mendsInDeed_11 ho1 (Nat.le_of_ble_eq_true rfl) rfl (rfF9_2 ho1) ?_
  refine e_iload_n hg dX4_mendsInDeed_14 rfl ?_
  obtain ⟨hi2, h⟩ := o_gd h
  refine m_iald hg (shF9_1 ho1) hi2 dX4_mendsInDeed_15 ?_
  refine e_istore (ls' := [some (.ref 21), some (.ref a1), some (.int a2), some (.int (M.1 5 a2.toNatClampNeg)), some (.int (M.1 (a1 + 1) a2.toNatClampNeg)), none, none, none]) hg dX4_mendsInDeed_16 rfl ?_
  refine e_aload_n hg dX4_mendsInDeed_18 rfl ?_
  refine m_getR (q := 1) hg ciX4 0 lk_236 dX4_mendsInDeed_19 io_21 (Nat.le_of_ble_eq_true rfl) rfl rf_21_0 ?_
  refine m_getI hg ciX3 4 lk_107 dX4_mendsInDeed_22 io_1 (Nat.le_of_ble_eq_true rfl) rfl ?_
  refine e_i2l hg dX4_mendsInDeed_25 ?_
  refine e_ldc2 hg dX4_mendsInDeed_26 lk_685 ?_
  refine e_lmul hg dX4_mendsInDeed_29 ?_
  refine e_aload_n hg dX4_mendsInDeed_30 rfl ?_
  refine m_getR (q := 1) hg ciX4 0 lk_236 dX4_mendsInDeed_31 io_21 (Nat.le_of_ble_eq_true rfl) rfl rf_21_0 ?_
  refine m_getI hg ciX3 2 lk_103 dX4_mendsInDeed_34 io_1 (Nat.le_of_ble_eq_true rfl) rfl ?_
  refine e_i2l hg dX4_mendsInDeed_37 ?_
  refine e_ladd hg dX4_mendsInDeed_38 ?_
  refine e_lstore (ls' := [some (.ref 21), some (.ref a1), some (.int a2), some (.int (M.1 5 a2.toNatClampNeg)), some (.int (M.1 (a1 + 1) a2.toNatClampNeg)), some (.long (((M.1 1 4).toInt64 * 10) + (M.1 1 2).toInt64)), none, none]) hg dX4_mendsInDeed_39 rfl ?_
  refine e_lload hg dX4_mendsInDeed_41 rfl ?_
  refine e_ldc2 hg dX4_mendsInDeed_43 lk_686 ?_
  refine e_lmul hg dX4_mendsInDeed_46 ?_
  refine e_iload_n hg dX4_mendsInDeed_47 rfl ?_
  refine e_i2l hg dX4_mendsInDeed_48 ?_
  refine e_ladd hg dX4_mendsInDeed_49 ?_
  refine e_ldc2 hg dX4_mendsInDeed_50 lk_687 ?_
  refine e_lmul hg dX4_mendsInDeed_53 ?_
  refine e_aload_n hg dX4_mendsInDeed_54 rfl ?_
  refine m_getR (q := (a1 + 2)) hg ciX9 3 lk_324 dX4_mendsInDeed_55 ho1 (Nat.le_of_ble_eq_true rfl) rfl (rfF9_3 ho1) ?_
  refine e_iload_n hg dX4_mendsInDeed_58 rfl ?_
  obtain ⟨hi3, h⟩ := o_gd h
  refine m_iald hg (shF9_2 ho1) hi3 dX4_mendsInDeed_59 ?_
  refine e_iload_n hg dX4_mendsInDeed_60 rfl ?_
  obtain ⟨v4, M5, hc6, h⟩ := o_bd h
  refine m_callSI (rest := [.long ((((((M.1 1 4).toInt64 * 10) + (M.1 1 2).toInt64) * 6) + a2.toInt64) * 3)]) (v := v4) (M' := M5) hg mfX4_sideOf mvX4_sideOf (X4_sideOf_ok (r := (v4, M5)) hc6) lk_688 dX4_mendsInDeed_61 rfl rfl (by omega) (Nat.le_of_ble_eq_true rfl) ?_
  refine e_i2l hg dX4_mendsInDeed_64 ?_
  refine e_ladd hg dX4_mendsInDeed_65 ?_
  obtain ⟨z7, hz7, h⟩ := o_lt h
  refine e_lstore (ls' := [some (.ref 21), some (.ref a1), some (.int a2), some (.int (M.1 5 a2.toNatClampNeg)), some (.int (M.1 (a1 + 1) a2.toNatClampNeg)), some (.long (((((((M.1 1 4).toInt64 * 10) + (M.1 1 2).toInt64) * 6) + a2.toInt64) * 3) + v4.toInt64)), none, none]) hg dX4_mendsInDeed_66 rfl ?_
  rw [← hz7]
  refine e_lload hg dX4_mendsInDeed_68 rfl ?_
  refine e_ldc2 hg dX4_mendsInDeed_70 lk_691 ?_
  refine e_lmul hg dX4_mendsInDeed_73 ?_
  refine e_aload_n hg dX4_mendsInDeed_74 rfl ?_
  refine m_getR (q := (a1 + 4)) hg ciX9 5 lk_331 dX4_mendsInDeed_75 ho1 (Nat.le_of_ble_eq_true rfl) rfl (rfF9_5 ho1) ?_
  refine e_iload_n hg dX4_mendsInDeed_78 rfl ?_
  obtain ⟨hi8, h⟩ := o_gd h
  refine m_iald hg (shF9_4 ho1) hi8 dX4_mendsInDeed_79 ?_
  refine e_i2l hg dX4_mendsInDeed_80 ?_
  refine e_ladd hg dX4_mendsInDeed_81 ?_
  refine e_ldc2 hg dX4_mendsInDeed_82 lk_687 ?_
  refine e_lmul hg dX4_mendsInDeed_85 ?_
  refine e_iload hg dX4_mendsInDeed_86 rfl ?_
  refine e_i2l hg dX4_mendsInDeed_88 ?_
  refine e_ladd hg dX4_mendsInDeed_89 ?_
  refine e_lconst (v := 1) hg dX4_mendsInDeed_90 (by decide) ?_
  refine e_lsub hg dX4_mendsInDeed_91 ?_
  obtain ⟨z9, hz9, h⟩ := o_lt h
  refine e_lstore (ls' := [some (.ref 21), some (.ref a1), some (.int a2), some (.int (M.1 5 a2.toNatClampNeg)), some (.int (M.1 (a1 + 1) a2.toNatClampNeg)), some (.long (((((z7 * 100) + (M5.1 (a1 + 4) a2.toNatClampNeg).toInt64) * 3) + (M.1 (a1 + 1) a2.toNatClampNeg).toInt64) - 1)), none, none]) hg dX4_mendsInDeed_92 rfl ?_
  rw [← hz9]
  refine e_lload hg dX4_mendsInDeed_94 rfl ?_
  refine e_ldc2 hg dX4_mendsInDeed_96 lk_692 ?_
  refine e_lrem hg dX4_mendsInDeed_99 (by decide) ?_
  refine e_l2i hg dX4_mendsInDeed_100 ?_
  refine e_istore (ls' := [some (.ref 21), some (.ref a1), some (.int a2), some (.int (M.1 5 a2.toNatClampNeg)), some (.int (M.1 (a1 + 1) a2.toNatClampNeg)), some (.long z9), none, some (.int ((z9 - z9 / 2048 * 2048).toInt32))]) hg dX4_mendsInDeed_101 rfl ?_
  refine e_aload_n hg dX4_mendsInDeed_103 rfl ?_
  refine m_getR (q := 26) hg ciX4 15 lk_251 dX4_mendsInDeed_104 io_21 (Nat.le_of_ble_eq_true rfl) rfl rf_21_15 ?_
  refine e_iload hg dX4_mendsInDeed_107 rfl ?_
  obtain ⟨hi10, h⟩ := o_gd h
  refine m_lald hg sh_26 hi10 dX4_mendsInDeed_109 ?_
  refine e_iconst (v := 1) hg dX4_mendsInDeed_110 (by decide) ?_
  refine e_lshr hg dX4_mendsInDeed_111 ?_
  refine e_lload hg dX4_mendsInDeed_112 rfl ?_
  refine e_lcmp hg dX4_mendsInDeed_114 ?_
  refine e_ifne hg 138 dX4_mendsInDeed_115 (by decide) (fun c11 => ?_) (fun c11 => ?_)
  · have h := o_pos c11 h
    refine e_aload_n hg dX4_mendsInDeed_118 rfl ?_
    refine m_getR (q := 26) hg ciX4 15 lk_251 dX4_mendsInDeed_119 io_21 (Nat.le_of_ble_eq_true rfl) rfl rf_21_15 ?_
    refine e_iload hg dX4_mendsInDeed_122 rfl ?_
    obtain ⟨hi12, h⟩ := o_gd h
    refine m_lald hg sh_26 hi12 dX4_mendsInDeed_124 ?_
    refine e_lconst (v := 1) hg dX4_mendsInDeed_125 (by decide) ?_
    refine e_land hg dX4_mendsInDeed_126 ?_
    refine e_lconst (v := 1) hg dX4_mendsInDeed_127 (by decide) ?_
    refine e_lcmp hg dX4_mendsInDeed_128 ?_
    refine e_ifne hg 136 dX4_mendsInDeed_129 (by decide) (fun c13 => ?_) (fun c13 => ?_)
    · have h := o_pos c13 h
      refine e_iconst (v := 1) hg dX4_mendsInDeed_132 (by decide) ?_
      refine e_goto hg 137 dX4_mendsInDeed_133 (by decide) ?_
      exact m_zret hg hr rfl dX4_mendsInDeed_137 h
    · have h := o_neg c13 h
      refine e_iconst (v := 0) hg dX4_mendsInDeed_136 (by decide) ?_
      exact m_zret hg hr rfl dX4_mendsInDeed_137 h
  · have h := o_neg c11 h
    refine e_aload_n hg dX4_mendsInDeed_138 rfl ?_
    refine e_iload_n hg dX4_mendsInDeed_139 rfl ?_
    refine e_iload_n hg dX4_mendsInDeed_140 rfl ?_
    refine e_aload_n hg dX4_mendsInDeed_141 rfl ?_
    refine m_getR (q := 1) hg ciX4 0 lk_236 dX4_mendsInDeed_142 io_21 (Nat.le_of_ble_eq_true rfl) rfl rf_21_0 ?_
    refine m_getR (q := 2) hg ciX3 5 lk_112 dX4_mendsInDeed_145 io_1 (Nat.le_of_ble_eq_true rfl) rfl rf_1_5 ?_
    refine e_iload_n hg dX4_mendsInDeed_148 rfl ?_
    obtain ⟨hi14, h⟩ := o_gd h
    refine m_iald hg sh_2 hi14 dX4_mendsInDeed_149 ?_
    obtain ⟨u15, M16, hc17, h⟩ := o_bd h
    refine m_callVV (rest := []) (M' := M16) (ci := 4) hg mfX4_consider mvX4_consider (X4_consider_ok (r := (u15, M16)) hc17) lk_693 dX4_mendsInDeed_150 io_21 rfl rfl rfl (by omega) (Nat.le_of_ble_eq_true rfl) ?_
    refine e_aload_n hg dX4_mendsInDeed_153 rfl ?_
    refine e_aload_n hg dX4_mendsInDeed_154 rfl ?_
    refine m_getR (q := (a1 + 2)) hg ciX9 3 lk_324 dX4_mendsInDeed_155 ho1 (Nat.le_of_ble_eq_true rfl) rfl (rfF9_3 ho1) ?_
    refine e_iload_n hg dX4_mendsInDeed_158 rfl ?_
    obtain ⟨hi18, h⟩ := o_gd h
    refine m_iald hg (shF9_2 ho1) hi18 dX4_mendsInDeed_159 ?_
    refine e_aload_n hg dX4_mendsInDeed_160 rfl ?_
    refine m_getR (q := (a1 + 4)) hg ciX9 5 lk_331 dX4_mendsInDeed_161 ho1 (Nat.le_of_ble_eq_true rfl) rfl (rfF9_5 ho1) ?_
    refine e_iload_n hg dX4_mendsInDeed_164 rfl ?_
    obtain ⟨hi19, h⟩ := o_gd h
    refine m_iald hg (shF9_4 ho1) hi19 dX4_mendsInDeed_165 ?_
    obtain ⟨u20, M21, hc22, h⟩ := o_bd h
    refine m_callVV (rest := []) (M' := M21) (ci := 4) hg mfX4_start mvX4_start (X4_start_ok (r := (u20, M21)) hc22) lk_697 dX4_mendsInDeed_166 io_21 rfl rfl rfl (by omega) (Nat.le_of_ble_eq_true rfl) ?_
    refine e_aload_n hg dX4_mendsInDeed_169 rfl ?_
    refine e_iconst (v := 4) hg dX4_mendsInDeed_170 (by decide) ?_
    refine e_iconst (v := 4) hg dX4_mendsInDeed_171 (by decide) ?_
    obtain ⟨u23, M24, hc25, h⟩ := o_bd h
    refine m_callVV (rest := []) (M' := M24) (ci := 4) hg mfX4_think mvX4_think (X4_think_ok (r := (u23, M24)) hc25) lk_701 dX4_mendsInDeed_172 io_21 rfl rfl rfl (by omega) (Nat.le_of_ble_eq_true rfl) ?_
    refine e_aload_n hg dX4_mendsInDeed_175 rfl ?_
    refine m_getR (q := 26) hg ciX4 15 lk_251 dX4_mendsInDeed_176 io_21 (Nat.le_of_ble_eq_true rfl) rfl rf_21_15 ?_
    refine e_iload hg dX4_mendsInDeed_179 rfl ?_
    refine e_lload hg dX4_mendsInDeed_181 rfl ?_
    refine e_ldc2 hg dX4_mendsInDeed_183 lk_731 ?_
    refine e_lmul hg dX4_mendsInDeed_186 ?_
    refine e_aload_n hg dX4_mendsInDeed_187 rfl ?_
    refine e_iload hg dX4_mendsInDeed_188 rfl ?_
    obtain ⟨v26, M27, hc28, h⟩ := o_bd h
    refine m_callVI (rest := [.long (z9 * 2), .int ((z9 - z9 / 2048 * 2048).toInt32), .ref 26]) (v := v26) (M' := M27) (ci := 4) hg mfX4_mendsAt mvX4_mendsAt (X4_mendsAt_ok (r := (v26, M27)) hc28) lk_723 dX4_mendsInDeed_190 io_21 rfl rfl rfl (by omega) (Nat.le_of_ble_eq_true rfl) ?_
    refine e_ifeq hg 200 dX4_mendsInDeed_193 (by decide) (fun c29 => ?_) (fun c29 => ?_)
    · simp only [if_pos c29] at h
      refine e_iconst (v := 0) hg dX4_mendsInDeed_200 (by decide) ?_
      exact X4_mendsInDeed_b201_ok hg ho1 hr  h
    · simp only [if_neg c29] at h
      refine e_iconst (v := 1) hg dX4_mendsInDeed_196 (by decide) ?_
      refine e_goto hg 201 dX4_mendsInDeed_197 (by decide) ?_
      exact X4_mendsInDeed_b201_ok hg ho1 hr  h

def X4_leftAt (a1 : Int32) (M : mm) : Option (Int64 × mm) :=
  gd (inb a1 4) <|
  some ((M.2.1 24 a1.toNatClampNeg), M)
set_option maxRecDepth 100000 in
set_option maxHeartbeats 4000000 in
theorem X4_leftAt_ok {a1 : Int32} {M : mm} {r : Int64 × mm} (h : X4_leftAt a1 M = some r) : CM yX4_leftAt cX4_leftAt 2 (some .long) 0 [.ref 21, .int a1] (cells M) (some (.long r.1)) (cells r.2) := by
  refine cm_of (ls := [some (.ref 21), some (.int a1)]) mfX4_leftAt rfl (Nat.le_of_ble_eq_true rfl) (fun g hg hr => ?_)
  unfold X4_leftAt at h
  refine e_aload_n hg dX4_leftAt_0 rfl ?_
  refine m_getR (q := 24) hg ciX4 13 lk_249 dX4_leftAt_1 io_21 (Nat.le_of_ble_eq_true rfl) rfl rf_21_13 ?_
  refine e_iload_n hg dX4_leftAt_4 rfl ?_
  obtain ⟨hi1, h⟩ := o_gd h
  refine m_lald hg sh_24 hi1 dX4_leftAt_5 ?_
  exact m_lret hg hr dX4_leftAt_6 h

def X4_risk_b149 (a1 : Int32) (a2 : Int32) (a3 : Int32) (a4 : Int32) (R42 : Int64 → Int64 → Int64 → Int64 → Int32 → mm → Option (Int64 × mm)) (x5 : Int64) (x7 : Int64) (x9 : Int64) (x13 : Int32) (x15 : Int64) (x17 : Int64) (x19 : Int64) (s0 : Int64) (s1 : Int64) (M : mm) : Option (Int64 × mm) :=
  R42 (((x5 * 12) - x15) + x17) (((x7 * 12) - x17) + x19) ((x9 * 12) - x19) (s0 + s1) (x13 + 1) M
set_option maxRecDepth 100000 in
set_option maxHeartbeats 4000000 in
theorem X4_risk_b149_ok {g : gx} (hg : EC g cX4_risk RX4 3) {a1 : Int32} {a2 : Int32} {a3 : Int32} {a4 : Int32} {r : Int64 × mm} (hr : RT g (some .long) (0, 0) (some (.long r.1)) (cells r.2)) {R42 : Int64 → Int64 → Int64 → Int64 → Int32 → mm → Option (Int64 × mm)} (hR42 : ∀ (x5 : Int64) (x7 : Int64) (x9 : Int64) (x11 : Int64) (x13 : Int32) (o14 : Option Value) (o15 : Option Value) (o16 : Option Value) (o17 : Option Value) (o18 : Option Value) (o19 : Option Value) (o20 : Option Value) (M : mm), R42 x5 x7 x9 x11 x13 M = some r → E g (0, 0) 42 [some (.ref 21), some (.int a1), some (.int a2), some (.int a3), some (.int a4), some (.long x5), none, some (.long x7), none, some (.long x9), none, some (.long x11), none, some (.int x13), o14, o15, o16, o17, o18, o19, o20] [] (cells M)) {x5 : Int64} {x7 : Int64} {x9 : Int64} {x13 : Int32} {x15 : Int64} {x17 : Int64} {x19 : Int64} {s0 : Int64} {s1 : Int64} {o11 : Option Value} {o12 : Option Value} {o14 : Option Value} {M : mm} (h : X4_risk_b149 a1 a2 a3 a4 R42 x5 x7 x9 x13 x15 x17 x19 s0 s1 M = some r) : E g (0, 0) 149 [some (.ref 21), some (.int a1), some (.int a2), some (.int a3), some (.int a4), some (.long x5), none, some (.long x7), none, some (.long x9), none, o11, o12, some (.int x13), o14, some (.long x15), none, some (.long x17), none, some (.long x19), none] [.long s1, .long s0] (cells M) := by
  unfold X4_risk_b149 at h
  refine e_ladd hg dX4_risk_149 ?_
  refine e_lstore (ls' := [some (.ref 21), some (.int a1), some (.int a2), some (.int a3), some (.int a4), some (.long x5), none, some (.long x7), none, some (.long x9), none, some (.long (s0 + s1)), none, some (.int x13), o14, some (.long x15), none, some (.long x17), none, some (.long x19), none]) hg dX4_risk_150 rfl ?_
  refine e_lload hg dX4_risk_152 rfl ?_
  refine e_ldc2 hg dX4_risk_154 lk_718 ?_
  refine e_lmul hg dX4_risk_157 ?_
  refine e_lload hg dX4_risk_158 rfl ?_
  refine e_lsub hg dX4_risk_160 ?_
  refine e_lload hg dX4_risk_161 rfl ?_
  refine e_ladd hg dX4_risk_163 ?_
  refine e_lstore (ls' := [some (.ref 21), some (.int a1), some (.int a2), some (.int a3), some (.int a4), some (.long (((x5 * 12) - x15) + x17)), none, some (.long x7), none, some (.long x9), none, some (.long (s0 + s1)), none, some (.int x13), o14, some (.long x15), none, some (.long x17), none, some (.long x19), none]) hg dX4_risk_164 rfl ?_
  refine e_lload hg dX4_risk_166 rfl ?_
  refine e_ldc2 hg dX4_risk_168 lk_718 ?_
  refine e_lmul hg dX4_risk_171 ?_
  refine e_lload hg dX4_risk_172 rfl ?_
  refine e_lsub hg dX4_risk_174 ?_
  refine e_lload hg dX4_risk_175 rfl ?_
  refine e_ladd hg dX4_risk_177 ?_
  refine e_lstore (ls' := [some (.ref 21), some (.int a1), some (.int a2), some (.int a3), some (.int a4), some (.long (((x5 * 12) - x15) + x17)), none, some (.long (((x7 * 12) - x17) + x19)), none, some (.long x9), none, some (.long (s0 + s1)), none, some (.int x13), o14, some (.long x15), none, some (.long x17), none, some (.long x19), none]) hg dX4_risk_178 rfl ?_
  refine e_lload hg dX4_risk_180 rfl ?_
  refine e_ldc2 hg dX4_risk_182 lk_718 ?_
  refine e_lmul hg dX4_risk_185 ?_
  refine e_lload hg dX4_risk_186 rfl ?_
  refine e_lsub hg dX4_risk_188 ?_
  refine e_lstore (ls' := [some (.ref 21), some (.int a1), some (.int a2), some (.int a3), some (.int a4), some (.long (((x5 * 12) - x15) + x17)), none, some (.long (((x7 * 12) - x17) + x19)), none, some (.long ((x9 * 12) - x19)), none, some (.long (s0 + s1)), none, some (.int x13), o14, some (.long x15), none, some (.long x17), none, some (.long x19), none]) hg dX4_risk_189 rfl ?_
  refine e_iinc (v := (x13 + 1)) (ls' := [some (.ref 21), some (.int a1), some (.int a2), some (.int a3), some (.int a4), some (.long (((x5 * 12) - x15) + x17)), none, some (.long (((x7 * 12) - x17) + x19)), none, some (.long ((x9 * 12) - x19)), none, some (.long (s0 + s1)), none, some (.int (x13 + 1)), o14, some (.long x15), none, some (.long x17), none, some (.long x19), none]) hg dX4_risk_191 rfl rfl rfl ?_
  refine e_goto hg 42 dX4_risk_194 (by decide) ?_
  exact hR42 _ _ _ _ _ _ _ _ _ _ _ _ _ h

def X4_risk_L42 (a1 : Int32) (a2 : Int32) (a3 : Int32) (a4 : Int32) : Nat → Int64 → Int64 → Int64 → Int64 → Int32 → mm → Option (Int64 × mm)
  | 0, _, _, _, _, _, _ => none
  | n_ + 1, x5, x7, x9, x11, x13, M =>
    if x13 < a4 then
      bd (X8_number a1 1 (if 99 < (a3 + x13) then 99 else (a3 + x13)) 1 M) fun v5 M6 =>
      bd (X8_number a1 2 (if 99 < (a3 + x13) then 99 else (a3 + x13)) 1 M6) fun v8 M9 =>
      bd (X8_number a1 3 (if 99 < (a3 + x13) then 99 else (a3 + x13)) 1 M9) fun v11 M12 =>
      bd (X3_isForgotten (if 99 < (a3 + x13) then 99 else (a3 + x13)) M12) fun v14 M15 =>
      if v14 = 0 then
        gd (inb a1 6) <|
        X4_risk_b149 a1 a2 a3 a4 (X4_risk_L42 a1 a2 a3 a4 n_) x5 x7 x9 x13 (x5 * v5.toInt64) (x7 * v8.toInt64) (x9 * v11.toInt64) (x11 * 12) ((x5 * v5.toInt64) * (M15.1 7 a1.toNatClampNeg).toInt64) M15
      else
        X4_risk_b149 a1 a2 a3 a4 (X4_risk_L42 a1 a2 a3 a4 n_) x5 x7 x9 x13 (x5 * v5.toInt64) (x7 * v8.toInt64) (x9 * v11.toInt64) (x11 * 12) 0 M15
    else
      some (x11, M)
set_option maxRecDepth 100000 in
set_option maxHeartbeats 4000000 in
theorem X4_risk_L42_ok {g : gx} (hg : EC g cX4_risk RX4 3) {a1 : Int32} {a2 : Int32} {a3 : Int32} {a4 : Int32} {r : Int64 × mm} (hr : RT g (some .long) (0, 0) (some (.long r.1)) (cells r.2)) : ∀ (n_ : Nat) (x5 : Int64) (x7 : Int64) (x9 : Int64) (x11 : Int64) (x13 : Int32) (o14 : Option Value) (o15 : Option Value) (o16 : Option Value) (o17 : Option Value) (o18 : Option Value) (o19 : Option Value) (o20 : Option Value) (M : mm), X4_risk_L42 a1 a2 a3 a4 n_ x5 x7 x9 x11 x13 M = some r → E g (0, 0) 42 [some (.ref 21), some (.int a1), some (.int a2), some (.int a3), some (.int a4), some (.long x5), none, some (.long x7), none, some (.long x9), none, some (.long x11), none, some (.int x13), o14, o15, o16, o17, o18, o19, o20] [] (cells M) := by
  intro n_
  induction n_ with
  | zero => intro x5 x7 x9 x11 x13 o14 o15 o16 o17 o18 o19 o20 M h; exact o_no h
  | succ n_ ih =>
    intro x5 x7 x9 x11 x13 o14 o15 o16 o17 o18 o19 o20 M h
    rw [X4_risk_L42] at h
    refine e_iload hg dX4_risk_42 rfl ?_
    refine e_iload hg dX4_risk_44 rfl ?_
    refine e_icmpge hg 197 dX4_risk_46 (by decide) (fun c4 => ?_) (fun c4 => ?_)
    · have h := o_pos c4 h
      refine e_iload_n hg dX4_risk_49 rfl ?_
      refine e_iload hg dX4_risk_50 rfl ?_
      refine e_iadd hg dX4_risk_52 ?_
      refine e_bipush (v := 99) hg dX4_risk_53 (by decide) ?_
      refine e_mmin hg lk_712 (Nat.le_of_ble_eq_true rfl) (by omega) (cs0 g) dX4_risk_55 ?_
      refine e_istore (ls' := [some (.ref 21), some (.int a1), some (.int a2), some (.int a3), some (.int a4), some (.long x5), none, some (.long x7), none, some (.long x9), none, some (.long x11), none, some (.int x13), some (.int (if 99 < (a3 + x13) then 99 else (a3 + x13))), o15, o16, o17, o18, o19, o20]) hg dX4_risk_58 rfl ?_
      refine e_lload hg dX4_risk_60 rfl ?_
      refine e_aload_n hg dX4_risk_62 rfl ?_
      refine m_getR (q := 9) hg ciX4 1 lk_237 dX4_risk_63 io_21 (Nat.le_of_ble_eq_true rfl) rfl rf_21_1 ?_
      refine e_iload_n hg dX4_risk_66 rfl ?_
      refine e_iconst (v := 1) hg dX4_risk_67 (by decide) ?_
      refine e_iload hg dX4_risk_68 rfl ?_
      refine e_iconst (v := 1) hg dX4_risk_70 (by decide) ?_
      obtain ⟨v5, M6, hc7, h⟩ := o_bd h
      refine m_callVI (rest := [.long x5]) (v := v5) (M' := M6) (ci := 8) hg mfX8_number mvX8_number (X8_number_ok (r := (v5, M6)) hc7) lk_717 dX4_risk_71 io_9 rfl rfl rfl (by omega) (Nat.le_of_ble_eq_true rfl) ?_
      refine e_i2l hg dX4_risk_74 ?_
      refine e_lmul hg dX4_risk_75 ?_
      refine e_lstore (ls' := [some (.ref 21), some (.int a1), some (.int a2), some (.int a3), some (.int a4), some (.long x5), none, some (.long x7), none, some (.long x9), none, some (.long x11), none, some (.int x13), some (.int (if 99 < (a3 + x13) then 99 else (a3 + x13))), some (.long (x5 * v5.toInt64)), none, o17, o18, o19, o20]) hg dX4_risk_76 rfl ?_
      refine e_lload hg dX4_risk_78 rfl ?_
      refine e_aload_n hg dX4_risk_80 rfl ?_
      refine m_getR (q := 9) hg ciX4 1 lk_237 dX4_risk_81 io_21 (Nat.le_of_ble_eq_true rfl) rfl rf_21_1 ?_
      refine e_iload_n hg dX4_risk_84 rfl ?_
      refine e_iconst (v := 2) hg dX4_risk_85 (by decide) ?_
      refine e_iload hg dX4_risk_86 rfl ?_
      refine e_iconst (v := 1) hg dX4_risk_88 (by decide) ?_
      obtain ⟨v8, M9, hc10, h⟩ := o_bd h
      refine m_callVI (rest := [.long x7]) (v := v8) (M' := M9) (ci := 8) hg mfX8_number mvX8_number (X8_number_ok (r := (v8, M9)) hc10) lk_717 dX4_risk_89 io_9 rfl rfl rfl (by omega) (Nat.le_of_ble_eq_true rfl) ?_
      refine e_i2l hg dX4_risk_92 ?_
      refine e_lmul hg dX4_risk_93 ?_
      refine e_lstore (ls' := [some (.ref 21), some (.int a1), some (.int a2), some (.int a3), some (.int a4), some (.long x5), none, some (.long x7), none, some (.long x9), none, some (.long x11), none, some (.int x13), some (.int (if 99 < (a3 + x13) then 99 else (a3 + x13))), some (.long (x5 * v5.toInt64)), none, some (.long (x7 * v8.toInt64)), none, o19, o20]) hg dX4_risk_94 rfl ?_
      refine e_lload hg dX4_risk_96 rfl ?_
      refine e_aload_n hg dX4_risk_98 rfl ?_
      refine m_getR (q := 9) hg ciX4 1 lk_237 dX4_risk_99 io_21 (Nat.le_of_ble_eq_true rfl) rfl rf_21_1 ?_
      refine e_iload_n hg dX4_risk_102 rfl ?_
      refine e_iconst (v := 3) hg dX4_risk_103 (by decide) ?_
      refine e_iload hg dX4_risk_104 rfl ?_
      refine e_iconst (v := 1) hg dX4_risk_106 (by decide) ?_
      obtain ⟨v11, M12, hc13, h⟩ := o_bd h
      refine m_callVI (rest := [.long x9]) (v := v11) (M' := M12) (ci := 8) hg mfX8_number mvX8_number (X8_number_ok (r := (v11, M12)) hc13) lk_717 dX4_risk_107 io_9 rfl rfl rfl (by omega) (Nat.le_of_ble_eq_true rfl) ?_
      refine e_i2l hg dX4_risk_110 ?_
      refine e_lmul hg dX4_risk_111 ?_
      refine e_lstore (ls' := [some (.ref 21), some (.int a1), some (.int a2), some (.int a3), some (.int a4), some (.long x5), none, some (.long x7), none, some (.long x9), none, some (.long x11), none, some (.int x13), some (.int (if 99 < (a3 + x13) then 99 else (a3 + x13))), some (.long (x5 * v5.toInt64)), none, some (.long (x7 * v8.toInt64)), none, some (.long (x9 * v11.toInt64)), none]) hg dX4_risk_112 rfl ?_
      refine e_lload hg dX4_risk_114 rfl ?_
      refine e_ldc2 hg dX4_risk_116 lk_718 ?_
      refine e_lmul hg dX4_risk_119 ?_
      refine e_aload_n hg dX4_risk_120 rfl ?_
      refine m_getR (q := 1) hg ciX4 0 lk_236 dX4_risk_121 io_21 (Nat.le_of_ble_eq_true rfl) rfl rf_21_0 ?_
      refine e_iload hg dX4_risk_124 rfl ?_
      obtain ⟨v14, M15, hc16, h⟩ := o_bd h
      refine m_callVI (rest := [.long (x11 * 12)]) (v := v14) (M' := M15) (ci := 3) hg mfX3_isForgotten mvX3_isForgotten (X3_isForgotten_ok (r := (v14, M15)) hc16) lk_713 dX4_risk_126 io_1 rfl rfl rfl (by omega) (Nat.le_of_ble_eq_true rfl) ?_
      refine e_ifeq hg 136 dX4_risk_129 (by decide) (fun c17 => ?_) (fun c17 => ?_)
      · have h := o_pos c17 h
        refine e_lload hg dX4_risk_136 rfl ?_
        refine e_aload_n hg dX4_risk_138 rfl ?_
        refine m_getR (q := 1) hg ciX4 0 lk_236 dX4_risk_139 io_21 (Nat.le_of_ble_eq_true rfl) rfl rf_21_0 ?_
        refine m_getR (q := 7) hg ciX3 10 lk_130 dX4_risk_142 io_1 (Nat.le_of_ble_eq_true rfl) rfl rf_1_10 ?_
        refine e_iload_n hg dX4_risk_145 rfl ?_
        obtain ⟨hi18, h⟩ := o_gd h
        refine m_iald hg sh_7 hi18 dX4_risk_146 ?_
        refine e_i2l hg dX4_risk_147 ?_
        refine e_lmul hg dX4_risk_148 ?_
        exact X4_risk_b149_ok hg hr ih h
      · have h := o_neg c17 h
        refine e_lconst (v := 0) hg dX4_risk_132 (by decide) ?_
        refine e_goto hg 149 dX4_risk_133 (by decide) ?_
        exact X4_risk_b149_ok hg hr ih h
    · have h := o_neg c4 h
      refine e_lload hg dX4_risk_197 rfl ?_
      exact m_lret hg hr dX4_risk_199 h

def X4_risk_b34 (a1 : Int32) (a2 : Int32) (a3 : Int32) (a4 : Int32) (x5 : Int64) (x7 : Int64) (s0 : Int64) (M : mm) : Option (Int64 × mm) :=
  X4_risk_L42 a1 a2 a3 a4 10000 x5 x7 s0 0 0 M
set_option maxRecDepth 100000 in
set_option maxHeartbeats 4000000 in
theorem X4_risk_b34_ok {g : gx} (hg : EC g cX4_risk RX4 3) {a1 : Int32} {a2 : Int32} {a3 : Int32} {a4 : Int32} {r : Int64 × mm} (hr : RT g (some .long) (0, 0) (some (.long r.1)) (cells r.2)) {x5 : Int64} {x7 : Int64} {s0 : Int64} {o9 : Option Value} {o10 : Option Value} {o11 : Option Value} {o12 : Option Value} {o13 : Option Value} {o14 : Option Value} {o15 : Option Value} {o16 : Option Value} {o17 : Option Value} {o18 : Option Value} {o19 : Option Value} {o20 : Option Value} {M : mm} (h : X4_risk_b34 a1 a2 a3 a4 x5 x7 s0 M = some r) : E g (0, 0) 34 [some (.ref 21), some (.int a1), some (.int a2), some (.int a3), some (.int a4), some (.long x5), none, some (.long x7), none, o9, o10, o11, o12, o13, o14, o15, o16, o17, o18, o19, o20] [.long s0] (cells M) := by
  unfold X4_risk_b34 at h
  refine e_lstore (ls' := [some (.ref 21), some (.int a1), some (.int a2), some (.int a3), some (.int a4), some (.long x5), none, some (.long x7), none, some (.long s0), none, o11, o12, o13, o14, o15, o16, o17, o18, o19, o20]) hg dX4_risk_34 rfl ?_
  refine e_lconst (v := 0) hg dX4_risk_36 (by decide) ?_
  refine e_lstore (ls' := [some (.ref 21), some (.int a1), some (.int a2), some (.int a3), some (.int a4), some (.long x5), none, some (.long x7), none, some (.long s0), none, some (.long 0), none, o13, o14, o15, o16, o17, o18, o19, o20]) hg dX4_risk_37 rfl ?_
  refine e_iconst (v := 0) hg dX4_risk_39 (by decide) ?_
  refine e_istore (ls' := [some (.ref 21), some (.int a1), some (.int a2), some (.int a3), some (.int a4), some (.long x5), none, some (.long x7), none, some (.long s0), none, some (.long 0), none, some (.int 0), o14, o15, o16, o17, o18, o19, o20]) hg dX4_risk_40 rfl ?_
  exact X4_risk_L42_ok hg hr  10000 _ _ _ _ _ _ _ _ _ _ _ _ _ h

def X4_risk_b22 (a1 : Int32) (a2 : Int32) (a3 : Int32) (a4 : Int32) (x5 : Int64) (s0 : Int64) (M : mm) : Option (Int64 × mm) :=
  X4_risk_b34 a1 a2 a3 a4 x5 s0 (if a2 = 3 then 1 else 0) M
set_option maxRecDepth 100000 in
set_option maxHeartbeats 4000000 in
theorem X4_risk_b22_ok {g : gx} (hg : EC g cX4_risk RX4 3) {a1 : Int32} {a2 : Int32} {a3 : Int32} {a4 : Int32} {r : Int64 × mm} (hr : RT g (some .long) (0, 0) (some (.long r.1)) (cells r.2)) {x5 : Int64} {s0 : Int64} {o7 : Option Value} {o8 : Option Value} {o9 : Option Value} {o10 : Option Value} {o11 : Option Value} {o12 : Option Value} {o13 : Option Value} {o14 : Option Value} {o15 : Option Value} {o16 : Option Value} {o17 : Option Value} {o18 : Option Value} {o19 : Option Value} {o20 : Option Value} {M : mm} (h : X4_risk_b22 a1 a2 a3 a4 x5 s0 M = some r) : E g (0, 0) 22 [some (.ref 21), some (.int a1), some (.int a2), some (.int a3), some (.int a4), some (.long x5), none, o7, o8, o9, o10, o11, o12, o13, o14, o15, o16, o17, o18, o19, o20] [.long s0] (cells M) := by
  unfold X4_risk_b22 at h
  refine e_lstore (ls' := [some (.ref 21), some (.int a1), some (.int a2), some (.int a3), some (.int a4), some (.long x5), none, some (.long s0), none, o9, o10, o11, o12, o13, o14, o15, o16, o17, o18, o19, o20]) hg dX4_risk_22 rfl ?_
  refine e_iload_n hg dX4_risk_24 rfl ?_
  refine e_iconst (v := 3) hg dX4_risk_25 (by decide) ?_
  refine e_icmpne hg 33 dX4_risk_26 (by decide) (fun c3 => ?_) (fun c3 => ?_)
  · simp only [if_pos c3] at h
    refine e_lconst (v := 1) hg dX4_risk_29 (by decide) ?_
    refine e_goto hg 34 dX4_risk_30 (by decide) ?_
    exact X4_risk_b34_ok hg hr  h
  · simp only [if_neg c3] at h
    refine e_lconst (v := 0) hg dX4_risk_33 (by decide) ?_
    exact X4_risk_b34_ok hg hr  h

def X4_risk_b10 (a1 : Int32) (a2 : Int32) (a3 : Int32) (a4 : Int32) (s0 : Int64) (M : mm) : Option (Int64 × mm) :=
  X4_risk_b22 a1 a2 a3 a4 s0 (if a2 = 2 then 1 else 0) M
set_option maxRecDepth 100000 in
set_option maxHeartbeats 4000000 in
theorem X4_risk_b10_ok {g : gx} (hg : EC g cX4_risk RX4 3) {a1 : Int32} {a2 : Int32} {a3 : Int32} {a4 : Int32} {r : Int64 × mm} (hr : RT g (some .long) (0, 0) (some (.long r.1)) (cells r.2)) {s0 : Int64} {o5 : Option Value} {o6 : Option Value} {o7 : Option Value} {o8 : Option Value} {o9 : Option Value} {o10 : Option Value} {o11 : Option Value} {o12 : Option Value} {o13 : Option Value} {o14 : Option Value} {o15 : Option Value} {o16 : Option Value} {o17 : Option Value} {o18 : Option Value} {o19 : Option Value} {o20 : Option Value} {M : mm} (h : X4_risk_b10 a1 a2 a3 a4 s0 M = some r) : E g (0, 0) 10 [some (.ref 21), some (.int a1), some (.int a2), some (.int a3), some (.int a4), o5, o6, o7, o8, o9, o10, o11, o12, o13, o14, o15, o16, o17, o18, o19, o20] [.long s0] (cells M) := by
  unfold X4_risk_b10 at h
  refine e_lstore (ls' := [some (.ref 21), some (.int a1), some (.int a2), some (.int a3), some (.int a4), some (.long s0), none, o7, o8, o9, o10, o11, o12, o13, o14, o15, o16, o17, o18, o19, o20]) hg dX4_risk_10 rfl ?_
  refine e_iload_n hg dX4_risk_12 rfl ?_
  refine e_iconst (v := 2) hg dX4_risk_13 (by decide) ?_
  refine e_icmpne hg 21 dX4_risk_14 (by decide) (fun c2 => ?_) (fun c2 => ?_)
  · simp only [if_pos c2] at h
    refine e_lconst (v := 1) hg dX4_risk_17 (by decide) ?_
    refine e_goto hg 22 dX4_risk_18 (by decide) ?_
    exact X4_risk_b22_ok hg hr  h
  · simp only [if_neg c2] at h
    refine e_lconst (v := 0) hg dX4_risk_21 (by decide) ?_
    exact X4_risk_b22_ok hg hr  h

def X4_risk (a1 : Int32) (a2 : Int32) (a3 : Int32) (a4 : Int32) (M : mm) : Option (Int64 × mm) :=
  X4_risk_b10 a1 a2 a3 a4 (if a2 = 1 then 1 else 0) M
set_option maxRecDepth 100000 in
set_option maxHeartbeats 4000000 in
theorem X4_risk_ok {a1 : Int32} {a2 : Int32} {a3 : Int32} {a4 : Int32} {M : mm} {r : Int64 × mm} (h : X4_risk a1 a2 a3 a4 M = some r) : CM yX4_risk cX4_risk 21 (some .long) 3 [.ref 21, .int a1, .int a2, .int a3, .int a4] (cells M) (some (.long r.1)) (cells r.2) := by
  refine cm_of (ls := [some (.ref 21), some (.int a1), some (.int a2), some (.int a3), some (.int a4), none, none, none, none, none, none, none, none, none, none, none, none, none, none, none, none]) mfX4_risk rfl (Nat.le_of_ble_eq_true rfl) (fun g hg hr => ?_)
  unfold X4_risk at h
  refine e_iload_n hg dX4_risk_0 rfl ?_
  refine e_iconst (v := 1) hg dX4_risk_1 (by decide) ?_
  refine e_icmpne hg 9 dX4_risk_2 (by decide) (fun c1 => ?_) (fun c1 => ?_)
  · simp only [if_pos c1] at h
    refine e_lconst (v := 1) hg dX4_risk_5 (by decide) ?_
    refine e_goto hg 10 dX4_risk_6 (by decide) ?_
    exact X4_risk_b10_ok hg hr  h
  · simp only [if_neg c1] at h
    refine e_lconst (v := 0) hg dX4_risk_9 (by decide) ?_
    exact X4_risk_b10_ok hg hr  h

