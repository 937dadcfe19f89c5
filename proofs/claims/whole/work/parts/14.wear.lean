def X8_joined_b92 (a0 : Int32) (a1 : Int32) (a2 : Int32) (M : mm) : Option (Int32 × mm) :=
  some (1, M)
set_option maxRecDepth 100000 in
set_option maxHeartbeats 4000000 in
theorem X8_joined_b92_ok {g : gx} (hg : EC g cX8_joined RX8 0) {a0 : Int32} {a1 : Int32} {a2 : Int32} {r : Int32 × mm} (hr : RT g (some .int) (0, 0) (some (.int r.1)) (cells r.2)) {M : mm} (h : X8_joined_b92 a0 a1 a2 M = some r) : E g (0, 0) 92 [some (.int a0), some (.int a1), some (.int a2)] [] (cells M) := by
  unfold X8_joined_b92 at h
  refine e_iconst (v := 1) hg dX8_joined_92 (by decide) ?_
  refine e_goto hg 97 dX8_joined_93 (by decide) ?_
  exact m_iret hg hr dX8_joined_97 h

def X8_joined (a0 : Int32) (a1 : Int32) (a2 : Int32) (M : mm) : Option (Int32 × mm) :=
  if a0 = 38 then
    if a1 = 0 then
      some (0, M)
    else
      if a2 = 0 then
        some (0, M)
      else
        some (1, M)
  else
  if a0 = 42 then
    some ((a1 * a2), M)
  else
  if a0 = 43 then
    some ((a1 + a2), M)
  else
  if a0 = 45 then
    some ((a1 - a2), M)
  else
  if a0 = 47 then
    if a2 = 0 then
      some (0, M)
    else
      gd (decide (¬ a2 = 0)) <|
      some ((a1 / a2), M)
  else
  if a0 = 60 then
    if a1 < a2 then
      some (1, M)
    else
      some (0, M)
  else
  if a0 = 61 then
    if a1 = a2 then
      some (1, M)
    else
      some (0, M)
  else
  if a0 = 62 then
    if a2 < a1 then
      some (1, M)
    else
      some (0, M)
  else
  if a0 = 124 then
    if a1 = 0 then
      if a2 = 0 then
        some (0, M)
      else
        X8_joined_b92 a0 a1 a2 M
    else
      X8_joined_b92 a0 a1 a2 M
  else
  if a2 = 0 then
    some (0, M)
  else
    gd (decide (¬ a2 = 0)) <|
    some ((a1 - a1 / a2 * a2), M)
set_option maxRecDepth 100000 in
set_option maxHeartbeats 4000000 in
theorem X8_joined_ok {a0 : Int32} {a1 : Int32} {a2 : Int32} {M : mm} {r : Int32 × mm} (h : X8_joined a0 a1 a2 M = some r) : CM yX8_joined cX8_joined 3 (some .int) 0 [.int a0, .int a1, .int a2] (cells M) (some (.int r.1)) (cells r.2) := by
  refine cm_of (ls := [some (.int a0), some (.int a1), some (.int a2)]) mfX8_joined rfl (Nat.le_of_ble_eq_true rfl) (fun g hg hr => ?_)
  unfold X8_joined at h
  refine e_iload_n hg dX8_joined_0 rfl ?_
  by_cases c1 : a0 = 38
  · have h := o_pos c1 h
    refine e_lookup hg 98 dX8_joined_1 (by decide) (by rw [c1] <;> decide) (by decide) ?_
    refine e_iload_n hg dX8_joined_98 rfl ?_
    refine e_ifeq hg 110 dX8_joined_99 (by decide) (fun c2 => ?_) (fun c2 => ?_)
    · have h := o_pos c2 h
      refine e_iconst (v := 0) hg dX8_joined_110 (by decide) ?_
      exact m_iret hg hr dX8_joined_111 h
    · have h := o_neg c2 h
      refine e_iload_n hg dX8_joined_102 rfl ?_
      refine e_ifeq hg 110 dX8_joined_103 (by decide) (fun c3 => ?_) (fun c3 => ?_)
      · have h := o_pos c3 h
        refine e_iconst (v := 0) hg dX8_joined_110 (by decide) ?_
        exact m_iret hg hr dX8_joined_111 h
      · have h := o_neg c3 h
        refine e_iconst (v := 1) hg dX8_joined_106 (by decide) ?_
        refine e_goto hg 111 dX8_joined_107 (by decide) ?_
        exact m_iret hg hr dX8_joined_111 h
  have h := o_neg c1 h
  by_cases c4 : a0 = 42
  · have h := o_pos c4 h
    refine e_lookup hg 153 dX8_joined_1 (by decide) (by rw [c4] <;> decide) (by decide) ?_
    refine e_iload_n hg dX8_joined_153 rfl ?_
    refine e_iload_n hg dX8_joined_154 rfl ?_
    refine e_imul hg dX8_joined_155 ?_
    exact m_iret hg hr dX8_joined_156 h
  have h := o_neg c4 h
  by_cases c5 : a0 = 43
  · have h := o_pos c5 h
    refine e_lookup hg 145 dX8_joined_1 (by decide) (by rw [c5] <;> decide) (by decide) ?_
    refine e_iload_n hg dX8_joined_145 rfl ?_
    refine e_iload_n hg dX8_joined_146 rfl ?_
    refine e_iadd hg dX8_joined_147 ?_
    exact m_iret hg hr dX8_joined_148 h
  have h := o_neg c5 h
  by_cases c6 : a0 = 45
  · have h := o_pos c6 h
    refine e_lookup hg 149 dX8_joined_1 (by decide) (by rw [c6] <;> decide) (by decide) ?_
    refine e_iload_n hg dX8_joined_149 rfl ?_
    refine e_iload_n hg dX8_joined_150 rfl ?_
    refine e_isub hg dX8_joined_151 ?_
    exact m_iret hg hr dX8_joined_152 h
  have h := o_neg c6 h
  by_cases c7 : a0 = 47
  · have h := o_pos c7 h
    refine e_lookup hg 157 dX8_joined_1 (by decide) (by rw [c7] <;> decide) (by decide) ?_
    refine e_iload_n hg dX8_joined_157 rfl ?_
    refine e_ifne hg 165 dX8_joined_158 (by decide) (fun c8 => ?_) (fun c8 => ?_)
    · have h := o_pos c8 h
      refine e_iconst (v := 0) hg dX8_joined_161 (by decide) ?_
      refine e_goto hg 168 dX8_joined_162 (by decide) ?_
      exact m_iret hg hr dX8_joined_168 h
    · have h := o_neg c8 h
      refine e_iload_n hg dX8_joined_165 rfl ?_
      refine e_iload_n hg dX8_joined_166 rfl ?_
      obtain ⟨hz9, h⟩ := o_gd h
      refine e_idiv hg dX8_joined_167 (of_decide_eq_true hz9) ?_
      exact m_iret hg hr dX8_joined_168 h
  have h := o_neg c7 h
  by_cases c10 : a0 = 60
  · have h := o_pos c10 h
    refine e_lookup hg 112 dX8_joined_1 (by decide) (by rw [c10] <;> decide) (by decide) ?_
    refine e_iload_n hg dX8_joined_112 rfl ?_
    refine e_iload_n hg dX8_joined_113 rfl ?_
    refine e_icmpge hg 121 dX8_joined_114 (by decide) (fun c11 => ?_) (fun c11 => ?_)
    · have h := o_pos c11 h
      refine e_iconst (v := 1) hg dX8_joined_117 (by decide) ?_
      refine e_goto hg 122 dX8_joined_118 (by decide) ?_
      exact m_iret hg hr dX8_joined_122 h
    · have h := o_neg c11 h
      refine e_iconst (v := 0) hg dX8_joined_121 (by decide) ?_
      exact m_iret hg hr dX8_joined_122 h
  have h := o_neg c10 h
  by_cases c12 : a0 = 61
  · have h := o_pos c12 h
    refine e_lookup hg 123 dX8_joined_1 (by decide) (by rw [c12] <;> decide) (by decide) ?_
    refine e_iload_n hg dX8_joined_123 rfl ?_
    refine e_iload_n hg dX8_joined_124 rfl ?_
    refine e_icmpne hg 132 dX8_joined_125 (by decide) (fun c13 => ?_) (fun c13 => ?_)
    · have h := o_pos c13 h
      refine e_iconst (v := 1) hg dX8_joined_128 (by decide) ?_
      refine e_goto hg 133 dX8_joined_129 (by decide) ?_
      exact m_iret hg hr dX8_joined_133 h
    · have h := o_neg c13 h
      refine e_iconst (v := 0) hg dX8_joined_132 (by decide) ?_
      exact m_iret hg hr dX8_joined_133 h
  have h := o_neg c12 h
  by_cases c14 : a0 = 62
  · have h := o_pos c14 h
    refine e_lookup hg 134 dX8_joined_1 (by decide) (by rw [c14] <;> decide) (by decide) ?_
    refine e_iload_n hg dX8_joined_134 rfl ?_
    refine e_iload_n hg dX8_joined_135 rfl ?_
    refine e_icmple hg 143 dX8_joined_136 (by decide) (fun c15 => ?_) (fun c15 => ?_)
    · have h := o_pos c15 h
      refine e_iconst (v := 1) hg dX8_joined_139 (by decide) ?_
      refine e_goto hg 144 dX8_joined_140 (by decide) ?_
      exact m_iret hg hr dX8_joined_144 h
    · have h := o_neg c15 h
      refine e_iconst (v := 0) hg dX8_joined_143 (by decide) ?_
      exact m_iret hg hr dX8_joined_144 h
  have h := o_neg c14 h
  by_cases c16 : a0 = 124
  · have h := o_pos c16 h
    refine e_lookup hg 84 dX8_joined_1 (by decide) (by rw [c16] <;> decide) (by decide) ?_
    refine e_iload_n hg dX8_joined_84 rfl ?_
    refine e_ifne hg 92 dX8_joined_85 (by decide) (fun c17 => ?_) (fun c17 => ?_)
    · have h := o_pos c17 h
      refine e_iload_n hg dX8_joined_88 rfl ?_
      refine e_ifeq hg 96 dX8_joined_89 (by decide) (fun c18 => ?_) (fun c18 => ?_)
      · have h := o_pos c18 h
        refine e_iconst (v := 0) hg dX8_joined_96 (by decide) ?_
        exact m_iret hg hr dX8_joined_97 h
      · have h := o_neg c18 h
        exact X8_joined_b92_ok hg hr  h
    · have h := o_neg c17 h
      exact X8_joined_b92_ok hg hr  h
  have h := o_neg c16 h
  refine e_lookup (off := 168) hg 169 dX8_joined_1 (by decide) (by have e_c1 := Ne.symm (ne_toIntL (n := 38) (by decide) c1); have e_c4 := Ne.symm (ne_toIntL (n := 42) (by decide) c4); have e_c5 := Ne.symm (ne_toIntL (n := 43) (by decide) c5); have e_c6 := Ne.symm (ne_toIntL (n := 45) (by decide) c6); have e_c7 := Ne.symm (ne_toIntL (n := 47) (by decide) c7); have e_c10 := Ne.symm (ne_toIntL (n := 60) (by decide) c10); have e_c12 := Ne.symm (ne_toIntL (n := 61) (by decide) c12); have e_c14 := Ne.symm (ne_toIntL (n := 62) (by decide) c14); have e_c16 := Ne.symm (ne_toIntL (n := 124) (by decide) c16); simp [Op.lookupswitch.offset, e_c1, e_c4, e_c5, e_c6, e_c7, e_c10, e_c12, e_c14, e_c16]) (by decide) ?_
  refine e_iload_n hg dX8_joined_169 rfl ?_
  refine e_ifne hg 177 dX8_joined_170 (by decide) (fun c19 => ?_) (fun c19 => ?_)
  · have h := o_pos c19 h
    refine e_iconst (v := 0) hg dX8_joined_173 (by decide) ?_
    refine e_goto hg 180 dX8_joined_174 (by decide) ?_
    exact m_iret hg hr dX8_joined_180 h
  · have h := o_neg c19 h
    refine e_iload_n hg dX8_joined_177 rfl ?_
    refine e_iload_n hg dX8_joined_178 rfl ?_
    obtain ⟨hz20, h⟩ := o_gd h
    refine e_irem hg dX8_joined_179 (of_decide_eq_true hz20) ?_
    exact m_iret hg hr dX8_joined_180 h

def X8_workOut_b376 (a1 : Int32) (a2 : Int32) (a3 : Int32) (a4 : Int32) (R9 : Int32 → Int32 → Int32 → mm → Option (Int32 × mm)) (K228 : Int32 → mm → Option (Int32 × mm)) (x5 : Int32) (x6 : Int32) (x7 : Int32) (M : mm) : Option (Int32 × mm) :=
  R9 x5 x6 (x7 + 1) M
set_option maxRecDepth 100000 in
set_option maxHeartbeats 4000000 in
theorem X8_workOut_b376_ok {g : gx} (hg : EC g cX8_workOut RX8 1) {a1 : Int32} {a2 : Int32} {a3 : Int32} {a4 : Int32} {r : Int32 × mm} (hr : RT g (some .int) (0, 0) (some (.int r.1)) (cells r.2)) {R9 : Int32 → Int32 → Int32 → mm → Option (Int32 × mm)} (hR9 : ∀ (x5 : Int32) (x6 : Int32) (x7 : Int32) (o8 : Option Value) (M : mm), R9 x5 x6 x7 M = some r → E g (0, 0) 9 [some (.ref 9), some (.int a1), some (.int a2), some (.int a3), some (.int a4), some (.int x5), some (.int x6), some (.int x7), o8] [] (cells M)) {K228 : Int32 → mm → Option (Int32 × mm)} (hK228 : ∀ (x5 : Int32) (o6 : Option Value) (o7 : Option Value) (o8 : Option Value) (M : mm), K228 x5 M = some r → E g (0, 0) 228 [some (.ref 9), some (.int a1), some (.int a2), some (.int a3), some (.int a4), some (.int x5), o6, o7, o8] [] (cells M)) {x5 : Int32} {x6 : Int32} {x7 : Int32} {o8 : Option Value} {M : mm} (h : X8_workOut_b376 a1 a2 a3 a4 R9 K228 x5 x6 x7 M = some r) : E g (0, 0) 376 [some (.ref 9), some (.int a1), some (.int a2), some (.int a3), some (.int a4), some (.int x5), some (.int x6), some (.int x7), o8] [] (cells M) := by
  unfold X8_workOut_b376 at h
  refine e_iinc (v := (x7 + 1)) (ls' := [some (.ref 9), some (.int a1), some (.int a2), some (.int a3), some (.int a4), some (.int x5), some (.int x6), some (.int (x7 + 1)), o8]) hg dX8_workOut_376 rfl rfl rfl ?_
  refine e_goto hg 9 dX8_workOut_379 (by decide) ?_
  exact hR9 _ _ _ _ _ h

def X8_workOut_b331 (a1 : Int32) (a2 : Int32) (a3 : Int32) (a4 : Int32) (R9 : Int32 → Int32 → Int32 → mm → Option (Int32 × mm)) (K228 : Int32 → mm → Option (Int32 × mm)) (x5 : Int32) (x6 : Int32) (x7 : Int32) (s1 : Int32) (s2 : Int32) (M : mm) : Option (Int32 × mm) :=
  gd (inb s1 48) <|
  lt_ (sA M 19 (upd (M.1 19) s1.toNatClampNeg s2)) fun M10 =>
  X8_workOut_b376 a1 a2 a3 a4 R9 K228 x5 x6 x7 M10
set_option maxRecDepth 100000 in
set_option maxHeartbeats 4000000 in
theorem X8_workOut_b331_ok {g : gx} (hg : EC g cX8_workOut RX8 1) {a1 : Int32} {a2 : Int32} {a3 : Int32} {a4 : Int32} {r : Int32 × mm} (hr : RT g (some .int) (0, 0) (some (.int r.1)) (cells r.2)) {R9 : Int32 → Int32 → Int32 → mm → Option (Int32 × mm)} (hR9 : ∀ (x5 : Int32) (x6 : Int32) (x7 : Int32) (o8 : Option Value) (M : mm), R9 x5 x6 x7 M = some r → E g (0, 0) 9 [some (.ref 9), some (.int a1), some (.int a2), some (.int a3), some (.int a4), some (.int x5), some (.int x6), some (.int x7), o8] [] (cells M)) {K228 : Int32 → mm → Option (Int32 × mm)} (hK228 : ∀ (x5 : Int32) (o6 : Option Value) (o7 : Option Value) (o8 : Option Value) (M : mm), K228 x5 M = some r → E g (0, 0) 228 [some (.ref 9), some (.int a1), some (.int a2), some (.int a3), some (.int a4), some (.int x5), o6, o7, o8] [] (cells M)) {x5 : Int32} {x6 : Int32} {x7 : Int32} {s1 : Int32} {s2 : Int32} {o8 : Option Value} {M : mm} (h : X8_workOut_b331 a1 a2 a3 a4 R9 K228 x5 x6 x7 s1 s2 M = some r) : E g (0, 0) 331 [some (.ref 9), some (.int a1), some (.int a2), some (.int a3), some (.int a4), some (.int x5), some (.int x6), some (.int x7), o8] [.int s2, .int s1, .ref 19] (cells M) := by
  unfold X8_workOut_b331 at h
  obtain ⟨hi9, h⟩ := o_gd h
  obtain ⟨M10, hM10, h⟩ := o_lt h
  refine m_iast hg sh_19 hi9 dX8_workOut_331 ?_
  rw [← hM10]
  refine e_goto hg 376 dX8_workOut_332 (by decide) ?_
  exact X8_workOut_b376_ok hg hr hR9 hK228 h

def X8_workOut_b273 (a1 : Int32) (a2 : Int32) (a3 : Int32) (a4 : Int32) (R9 : Int32 → Int32 → Int32 → mm → Option (Int32 × mm)) (K228 : Int32 → mm → Option (Int32 × mm)) (x5 : Int32) (x7 : Int32) (s0 : Int32) (M : mm) : Option (Int32 × mm) :=
  X8_workOut_b376 a1 a2 a3 a4 R9 K228 x5 s0 x7 M
set_option maxRecDepth 100000 in
set_option maxHeartbeats 4000000 in
theorem X8_workOut_b273_ok {g : gx} (hg : EC g cX8_workOut RX8 1) {a1 : Int32} {a2 : Int32} {a3 : Int32} {a4 : Int32} {r : Int32 × mm} (hr : RT g (some .int) (0, 0) (some (.int r.1)) (cells r.2)) {R9 : Int32 → Int32 → Int32 → mm → Option (Int32 × mm)} (hR9 : ∀ (x5 : Int32) (x6 : Int32) (x7 : Int32) (o8 : Option Value) (M : mm), R9 x5 x6 x7 M = some r → E g (0, 0) 9 [some (.ref 9), some (.int a1), some (.int a2), some (.int a3), some (.int a4), some (.int x5), some (.int x6), some (.int x7), o8] [] (cells M)) {K228 : Int32 → mm → Option (Int32 × mm)} (hK228 : ∀ (x5 : Int32) (o6 : Option Value) (o7 : Option Value) (o8 : Option Value) (M : mm), K228 x5 M = some r → E g (0, 0) 228 [some (.ref 9), some (.int a1), some (.int a2), some (.int a3), some (.int a4), some (.int x5), o6, o7, o8] [] (cells M)) {x5 : Int32} {x7 : Int32} {s0 : Int32} {o6 : Option Value} {o8 : Option Value} {M : mm} (h : X8_workOut_b273 a1 a2 a3 a4 R9 K228 x5 x7 s0 M = some r) : E g (0, 0) 273 [some (.ref 9), some (.int a1), some (.int a2), some (.int a3), some (.int a4), some (.int x5), o6, some (.int x7), o8] [.int s0] (cells M) := by
  unfold X8_workOut_b273 at h
  refine e_istore (ls' := [some (.ref 9), some (.int a1), some (.int a2), some (.int a3), some (.int a4), some (.int x5), some (.int s0), some (.int x7), o8]) hg dX8_workOut_273 rfl ?_
  refine e_goto hg 376 dX8_workOut_275 (by decide) ?_
  exact X8_workOut_b376_ok hg hr hR9 hK228 h

def X8_workOut_b50 (a1 : Int32) (a2 : Int32) (a3 : Int32) (a4 : Int32) (R9 : Int32 → Int32 → Int32 → mm → Option (Int32 × mm)) (K228 : Int32 → mm → Option (Int32 × mm)) (x5 : Int32) (x7 : Int32) (s0 : Int32) (M : mm) : Option (Int32 × mm) :=
  X8_workOut_b376 a1 a2 a3 a4 R9 K228 x5 s0 x7 M
set_option maxRecDepth 100000 in
set_option maxHeartbeats 4000000 in
theorem X8_workOut_b50_ok {g : gx} (hg : EC g cX8_workOut RX8 1) {a1 : Int32} {a2 : Int32} {a3 : Int32} {a4 : Int32} {r : Int32 × mm} (hr : RT g (some .int) (0, 0) (some (.int r.1)) (cells r.2)) {R9 : Int32 → Int32 → Int32 → mm → Option (Int32 × mm)} (hR9 : ∀ (x5 : Int32) (x6 : Int32) (x7 : Int32) (o8 : Option Value) (M : mm), R9 x5 x6 x7 M = some r → E g (0, 0) 9 [some (.ref 9), some (.int a1), some (.int a2), some (.int a3), some (.int a4), some (.int x5), some (.int x6), some (.int x7), o8] [] (cells M)) {K228 : Int32 → mm → Option (Int32 × mm)} (hK228 : ∀ (x5 : Int32) (o6 : Option Value) (o7 : Option Value) (o8 : Option Value) (M : mm), K228 x5 M = some r → E g (0, 0) 228 [some (.ref 9), some (.int a1), some (.int a2), some (.int a3), some (.int a4), some (.int x5), o6, o7, o8] [] (cells M)) {x5 : Int32} {x7 : Int32} {s0 : Int32} {o6 : Option Value} {o8 : Option Value} {M : mm} (h : X8_workOut_b50 a1 a2 a3 a4 R9 K228 x5 x7 s0 M = some r) : E g (0, 0) 50 [some (.ref 9), some (.int a1), some (.int a2), some (.int a3), some (.int a4), some (.int x5), o6, some (.int x7), o8] [.int s0] (cells M) := by
  unfold X8_workOut_b50 at h
  refine e_istore (ls' := [some (.ref 9), some (.int a1), some (.int a2), some (.int a3), some (.int a4), some (.int x5), some (.int s0), some (.int x7), o8]) hg dX8_workOut_50 rfl ?_
  refine e_goto hg 376 dX8_workOut_52 (by decide) ?_
  exact X8_workOut_b376_ok hg hr hR9 hK228 h

def X8_workOut_L9 (a1 : Int32) (a2 : Int32) (a3 : Int32) (a4 : Int32) (K228 : Int32 → mm → Option (Int32 × mm)) : Nat → Int32 → Int32 → Int32 → mm → Option (Int32 × mm)
  | 0, _, _, _, _ => none
  | n_ + 1, x5, x6, x7, M =>
    if x7 < (M.1 16 0) then
      gd (inb x7 242) <|
      if x6 = 0 then
        if x5 < 48 then
          if (M.1 (16 + 1) x7.toNatClampNeg) = 33 then
            if x5 < 1 then
              some (0, M)
            else
              if (M.1 (16 + 1) x7.toNatClampNeg) = 126 then
                gd (inb (x5 - 1) 48) <|
                X8_workOut_b331 a1 a2 a3 a4 (X8_workOut_L9 a1 a2 a3 a4 K228 n_) K228 x5 x6 x7 (x5 - 1) (-(M.1 19 (x5 - 1).toNatClampNeg)) M
              else
                gd (inb (x5 - 1) 48) <|
                X8_workOut_b331 a1 a2 a3 a4 (X8_workOut_L9 a1 a2 a3 a4 K228 n_) K228 x5 x6 x7 (x5 - 1) (if (M.1 19 (x5 - 1).toNatClampNeg) = 0 then 1 else 0) M
          else
          if (M.1 (16 + 1) x7.toNatClampNeg) = 48 then
            gd (inb x7 242) <|
            gd (inb x5 48) <|
            lt_ (sA M 19 (upd (M.1 19) x5.toNatClampNeg (M.1 (16 + 2) x7.toNatClampNeg))) fun M16 =>
            X8_workOut_b376 a1 a2 a3 a4 (X8_workOut_L9 a1 a2 a3 a4 K228 n_) K228 (x5 + 1) x6 x7 M16
          else
          if (M.1 (16 + 1) x7.toNatClampNeg) = 59 then
            K228 x5 M
          else
          if (M.1 (16 + 1) x7.toNatClampNeg) = 63 then
            if x5 < 1 then
              some (0, M)
            else
              gd (inb (x5 + (-1)) 48) <|
              X8_workOut_b273 a1 a2 a3 a4 (X8_workOut_L9 a1 a2 a3 a4 K228 n_) K228 (x5 + (-1)) x7 (if (M.1 19 (x5 + (-1)).toNatClampNeg) = 0 then 1 else 0) M
          else
          if (M.1 (16 + 1) x7.toNatClampNeg) = 97 then
            gd (inb x5 48) <|
            lt_ (sA M 19 (upd (M.1 19) x5.toNatClampNeg a3)) fun M24 =>
            X8_workOut_b376 a1 a2 a3 a4 (X8_workOut_L9 a1 a2 a3 a4 K228 n_) K228 (x5 + 1) x6 x7 M24
          else
          if (M.1 (16 + 1) x7.toNatClampNeg) = 108 then
            gd (inb x5 48) <|
            lt_ (sA M 19 (upd (M.1 19) x5.toNatClampNeg a4)) fun M27 =>
            X8_workOut_b376 a1 a2 a3 a4 (X8_workOut_L9 a1 a2 a3 a4 K228 n_) K228 (x5 + 1) x6 x7 M27
          else
          if (M.1 (16 + 1) x7.toNatClampNeg) = 115 then
            gd (inb x5 48) <|
            lt_ (sA M 19 (upd (M.1 19) x5.toNatClampNeg a2)) fun M30 =>
            X8_workOut_b376 a1 a2 a3 a4 (X8_workOut_L9 a1 a2 a3 a4 K228 n_) K228 (x5 + 1) x6 x7 M30
          else
          if (M.1 (16 + 1) x7.toNatClampNeg) = 116 then
            gd (inb x5 48) <|
            lt_ (sA M 19 (upd (M.1 19) x5.toNatClampNeg a1)) fun M33 =>
            X8_workOut_b376 a1 a2 a3 a4 (X8_workOut_L9 a1 a2 a3 a4 K228 n_) K228 (x5 + 1) x6 x7 M33
          else
          if (M.1 (16 + 1) x7.toNatClampNeg) = 126 then
            if x5 < 1 then
              some (0, M)
            else
              if (M.1 (16 + 1) x7.toNatClampNeg) = 126 then
                gd (inb (x5 - 1) 48) <|
                X8_workOut_b331 a1 a2 a3 a4 (X8_workOut_L9 a1 a2 a3 a4 K228 n_) K228 x5 x6 x7 (x5 - 1) (-(M.1 19 (x5 - 1).toNatClampNeg)) M
              else
                gd (inb (x5 - 1) 48) <|
                X8_workOut_b331 a1 a2 a3 a4 (X8_workOut_L9 a1 a2 a3 a4 K228 n_) K228 x5 x6 x7 (x5 - 1) (if (M.1 19 (x5 - 1).toNatClampNeg) = 0 then 1 else 0) M
          else
          if x5 < 2 then
            some (0, M)
          else
            gd (inb ((x5 + (-1)) - 1) 48) <|
            gd (inb (x5 + (-1)) 48) <|
            bd (X8_joined (M.1 (16 + 1) x7.toNatClampNeg) (M.1 19 ((x5 + (-1)) - 1).toNatClampNeg) (M.1 19 (x5 + (-1)).toNatClampNeg) M) fun v43 M44 =>
            gd (inb ((x5 + (-1)) - 1) 48) <|
            lt_ (sA M44 19 (upd (M44.1 19) ((x5 + (-1)) - 1).toNatClampNeg v43)) fun M47 =>
            X8_workOut_b376 a1 a2 a3 a4 (X8_workOut_L9 a1 a2 a3 a4 K228 n_) K228 (x5 + (-1)) x6 x7 M47
        else
          some (0, M)
      else
        X8_workOut_b50 a1 a2 a3 a4 (X8_workOut_L9 a1 a2 a3 a4 K228 n_) K228 x5 x7 (if (M.1 (16 + 1) x7.toNatClampNeg) = 59 then 0 else 1) M
    else
      some (0, M)
set_option maxRecDepth 100000 in
set_option maxHeartbeats 4000000 in
theorem X8_workOut_L9_ok {g : gx} (hg : EC g cX8_workOut RX8 1) {a1 : Int32} {a2 : Int32} {a3 : Int32} {a4 : Int32} {r : Int32 × mm} (hr : RT g (some .int) (0, 0) (some (.int r.1)) (cells r.2)) {K228 : Int32 → mm → Option (Int32 × mm)} (hK228 : ∀ (x5 : Int32) (o6 : Option Value) (o7 : Option Value) (o8 : Option Value) (M : mm), K228 x5 M = some r → E g (0, 0) 228 [some (.ref 9), some (.int a1), some (.int a2), some (.int a3), some (.int a4), some (.int x5), o6, o7, o8] [] (cells M)) : ∀ (n_ : Nat) (x5 : Int32) (x6 : Int32) (x7 : Int32) (o8 : Option Value) (M : mm), X8_workOut_L9 a1 a2 a3 a4 K228 n_ x5 x6 x7 M = some r → E g (0, 0) 9 [some (.ref 9), some (.int a1), some (.int a2), some (.int a3), some (.int a4), some (.int x5), some (.int x6), some (.int x7), o8] [] (cells M) := by
  intro n_
  induction n_ with
  | zero => intro x5 x6 x7 o8 M h; exact o_no h
  | succ n_ ih =>
    intro x5 x6 x7 o8 M h
    rw [X8_workOut_L9] at h
    refine e_iload hg dX8_workOut_9 rfl ?_
    refine e_aload_n hg dX8_workOut_11 rfl ?_
    refine m_getR (q := 16) hg ciX8 3 lk_213 dX8_workOut_12 io_9 (Nat.le_of_ble_eq_true rfl) rfl rf_9_3 ?_
    refine m_getI hg ciX7 0 lk_181 dX8_workOut_15 io_16 (Nat.le_of_ble_eq_true rfl) rfl ?_
    refine e_icmpge hg 382 dX8_workOut_18 (by decide) (fun c1 => ?_) (fun c1 => ?_)
    · have h := o_pos c1 h
      refine e_aload_n hg dX8_workOut_21 rfl ?_
      refine m_getR (q := 16) hg ciX8 3 lk_213 dX8_workOut_22 io_9 (Nat.le_of_ble_eq_true rfl) rfl rf_9_3 ?_
      refine m_getR (q := (16 + 1)) hg ciX7 1 lk_183 dX8_workOut_25 io_16 (Nat.le_of_ble_eq_true rfl) rfl (rfF7_1 io_16) ?_
      refine e_iload hg dX8_workOut_28 rfl ?_
      obtain ⟨hi2, h⟩ := o_gd h
      refine m_iald hg (shF7_1 io_16) hi2 dX8_workOut_30 ?_
      refine e_istore (ls' := [some (.ref 9), some (.int a1), some (.int a2), some (.int a3), some (.int a4), some (.int x5), some (.int x6), some (.int x7), some (.int (M.1 (16 + 1) x7.toNatClampNeg))]) hg dX8_workOut_31 rfl ?_
      refine e_iload hg dX8_workOut_33 rfl ?_
      refine e_ifeq hg 55 dX8_workOut_35 (by decide) (fun c3 => ?_) (fun c3 => ?_)
      · have h := o_pos c3 h
        refine e_iload hg dX8_workOut_55 rfl ?_
        refine e_bipush (v := 48) hg dX8_workOut_57 (by decide) ?_
        refine e_icmplt hg 64 dX8_workOut_59 (by decide) (fun c4 => ?_) (fun c4 => ?_)
        · have h := o_pos c4 h
          refine e_iload hg dX8_workOut_64 rfl ?_
          by_cases c5 : (M.1 (16 + 1) x7.toNatClampNeg) = 33
          · have h := o_pos c5 h
            refine e_lookup hg 278 dX8_workOut_66 (by decide) (by rw [c5] <;> decide) (by decide) ?_
            refine e_iload hg dX8_workOut_278 rfl ?_
            refine e_iconst (v := 1) hg dX8_workOut_280 (by decide) ?_
            refine e_icmpge hg 286 dX8_workOut_281 (by decide) (fun c6 => ?_) (fun c6 => ?_)
            · have h := o_pos c6 h
              refine e_iconst (v := 0) hg dX8_workOut_284 (by decide) ?_
              exact m_iret hg hr dX8_workOut_285 h
            · have h := o_neg c6 h
              refine e_aload_n hg dX8_workOut_286 rfl ?_
              refine m_getR (q := 19) hg ciX8 4 lk_214 dX8_workOut_287 io_9 (Nat.le_of_ble_eq_true rfl) rfl rf_9_4 ?_
              refine e_iload hg dX8_workOut_290 rfl ?_
              refine e_iconst (v := 1) hg dX8_workOut_292 (by decide) ?_
              refine e_isub hg dX8_workOut_293 ?_
              refine e_iload hg dX8_workOut_294 rfl ?_
              refine e_bipush (v := 126) hg dX8_workOut_296 (by decide) ?_
              refine e_icmpne hg 314 dX8_workOut_298 (by decide) (fun c7 => ?_) (fun c7 => ?_)
              · have h := o_pos c7 h
                refine e_aload_n hg dX8_workOut_301 rfl ?_
                refine m_getR (q := 19) hg ciX8 4 lk_214 dX8_workOut_302 io_9 (Nat.le_of_ble_eq_true rfl) rfl rf_9_4 ?_
                refine e_iload hg dX8_workOut_305 rfl ?_
                refine e_iconst (v := 1) hg dX8_workOut_307 (by decide) ?_
                refine e_isub hg dX8_workOut_308 ?_
                obtain ⟨hi8, h⟩ := o_gd h
                refine m_iald hg sh_19 hi8 dX8_workOut_309 ?_
                refine e_ineg hg dX8_workOut_310 ?_
                refine e_goto hg 331 dX8_workOut_311 (by decide) ?_
                exact X8_workOut_b331_ok hg hr ih hK228 h
              · have h := o_neg c7 h
                refine e_aload_n hg dX8_workOut_314 rfl ?_
                refine m_getR (q := 19) hg ciX8 4 lk_214 dX8_workOut_315 io_9 (Nat.le_of_ble_eq_true rfl) rfl rf_9_4 ?_
                refine e_iload hg dX8_workOut_318 rfl ?_
                refine e_iconst (v := 1) hg dX8_workOut_320 (by decide) ?_
                refine e_isub hg dX8_workOut_321 ?_
                obtain ⟨hi11, h⟩ := o_gd h
                refine m_iald hg sh_19 hi11 dX8_workOut_322 ?_
                refine e_ifne hg 330 dX8_workOut_323 (by decide) (fun c12 => ?_) (fun c12 => ?_)
                · simp only [if_pos c12] at h
                  refine e_iconst (v := 1) hg dX8_workOut_326 (by decide) ?_
                  refine e_goto hg 331 dX8_workOut_327 (by decide) ?_
                  exact X8_workOut_b331_ok hg hr ih hK228 h
                · simp only [if_neg c12] at h
                  refine e_iconst (v := 0) hg dX8_workOut_330 (by decide) ?_
                  exact X8_workOut_b331_ok hg hr ih hK228 h
          have h := o_neg c5 h
          by_cases c13 : (M.1 (16 + 1) x7.toNatClampNeg) = 48
          · have h := o_pos c13 h
            refine e_lookup hg 148 dX8_workOut_66 (by decide) (by rw [c13] <;> decide) (by decide) ?_
            refine e_aload_n hg dX8_workOut_148 rfl ?_
            refine m_getR (q := 19) hg ciX8 4 lk_214 dX8_workOut_149 io_9 (Nat.le_of_ble_eq_true rfl) rfl rf_9_4 ?_
            refine e_iload hg dX8_workOut_152 rfl ?_
            refine e_iinc (v := (x5 + 1)) (ls' := [some (.ref 9), some (.int a1), some (.int a2), some (.int a3), some (.int a4), some (.int (x5 + 1)), some (.int x6), some (.int x7), some (.int (M.1 (16 + 1) x7.toNatClampNeg))]) hg dX8_workOut_154 rfl rfl rfl ?_
            refine e_aload_n hg dX8_workOut_157 rfl ?_
            refine m_getR (q := 16) hg ciX8 3 lk_213 dX8_workOut_158 io_9 (Nat.le_of_ble_eq_true rfl) rfl rf_9_3 ?_
            refine m_getR (q := (16 + 2)) hg ciX7 2 lk_185 dX8_workOut_161 io_16 (Nat.le_of_ble_eq_true rfl) rfl (rfF7_2 io_16) ?_
            refine e_iload hg dX8_workOut_164 rfl ?_
            obtain ⟨hi14, h⟩ := o_gd h
            refine m_iald hg (shF7_2 io_16) hi14 dX8_workOut_166 ?_
            obtain ⟨hi15, h⟩ := o_gd h
            obtain ⟨M16, hM16, h⟩ := o_lt h
            refine m_iast hg sh_19 hi15 dX8_workOut_167 ?_
            rw [← hM16]
            refine e_goto hg 376 dX8_workOut_168 (by decide) ?_
            exact X8_workOut_b376_ok hg hr ih hK228 h
          have h := o_neg c13 h
          by_cases c17 : (M.1 (16 + 1) x7.toNatClampNeg) = 59
          · have h := o_pos c17 h
            refine e_lookup hg 228 dX8_workOut_66 (by decide) (by rw [c17] <;> decide) (by decide) ?_
            exact hK228 _ _ _ _ _ h
          have h := o_neg c17 h
          by_cases c18 : (M.1 (16 + 1) x7.toNatClampNeg) = 63
          · have h := o_pos c18 h
            refine e_lookup hg 247 dX8_workOut_66 (by decide) (by rw [c18] <;> decide) (by decide) ?_
            refine e_iload hg dX8_workOut_247 rfl ?_
            refine e_iconst (v := 1) hg dX8_workOut_249 (by decide) ?_
            refine e_icmpge hg 255 dX8_workOut_250 (by decide) (fun c19 => ?_) (fun c19 => ?_)
            · have h := o_pos c19 h
              refine e_iconst (v := 0) hg dX8_workOut_253 (by decide) ?_
              exact m_iret hg hr dX8_workOut_254 h
            · have h := o_neg c19 h
              refine e_iinc (v := (x5 + (-1))) (ls' := [some (.ref 9), some (.int a1), some (.int a2), some (.int a3), some (.int a4), some (.int (x5 + (-1))), some (.int x6), some (.int x7), some (.int (M.1 (16 + 1) x7.toNatClampNeg))]) hg dX8_workOut_255 rfl rfl rfl ?_
              refine e_aload_n hg dX8_workOut_258 rfl ?_
              refine m_getR (q := 19) hg ciX8 4 lk_214 dX8_workOut_259 io_9 (Nat.le_of_ble_eq_true rfl) rfl rf_9_4 ?_
              refine e_iload hg dX8_workOut_262 rfl ?_
              obtain ⟨hi20, h⟩ := o_gd h
              refine m_iald hg sh_19 hi20 dX8_workOut_264 ?_
              refine e_ifne hg 272 dX8_workOut_265 (by decide) (fun c21 => ?_) (fun c21 => ?_)
              · simp only [if_pos c21] at h
                refine e_iconst (v := 1) hg dX8_workOut_268 (by decide) ?_
                refine e_goto hg 273 dX8_workOut_269 (by decide) ?_
                exact X8_workOut_b273_ok hg hr ih hK228 h
              · simp only [if_neg c21] at h
                refine e_iconst (v := 0) hg dX8_workOut_272 (by decide) ?_
                exact X8_workOut_b273_ok hg hr ih hK228 h
          have h := o_neg c18 h
          by_cases c22 : (M.1 (16 + 1) x7.toNatClampNeg) = 97
          · have h := o_pos c22 h
            refine e_lookup hg 199 dX8_workOut_66 (by decide) (by rw [c22] <;> decide) (by decide) ?_
            refine e_aload_n hg dX8_workOut_199 rfl ?_
            refine m_getR (q := 19) hg ciX8 4 lk_214 dX8_workOut_200 io_9 (Nat.le_of_ble_eq_true rfl) rfl rf_9_4 ?_
            refine e_iload hg dX8_workOut_203 rfl ?_
            refine e_iinc (v := (x5 + 1)) (ls' := [some (.ref 9), some (.int a1), some (.int a2), some (.int a3), some (.int a4), some (.int (x5 + 1)), some (.int x6), some (.int x7), some (.int (M.1 (16 + 1) x7.toNatClampNeg))]) hg dX8_workOut_205 rfl rfl rfl ?_
            refine e_iload_n hg dX8_workOut_208 rfl ?_
            obtain ⟨hi23, h⟩ := o_gd h
            obtain ⟨M24, hM24, h⟩ := o_lt h
            refine m_iast hg sh_19 hi23 dX8_workOut_209 ?_
            rw [← hM24]
            refine e_goto hg 376 dX8_workOut_210 (by decide) ?_
            exact X8_workOut_b376_ok hg hr ih hK228 h
          have h := o_neg c22 h
          by_cases c25 : (M.1 (16 + 1) x7.toNatClampNeg) = 108
          · have h := o_pos c25 h
            refine e_lookup hg 213 dX8_workOut_66 (by decide) (by rw [c25] <;> decide) (by decide) ?_
            refine e_aload_n hg dX8_workOut_213 rfl ?_
            refine m_getR (q := 19) hg ciX8 4 lk_214 dX8_workOut_214 io_9 (Nat.le_of_ble_eq_true rfl) rfl rf_9_4 ?_
            refine e_iload hg dX8_workOut_217 rfl ?_
            refine e_iinc (v := (x5 + 1)) (ls' := [some (.ref 9), some (.int a1), some (.int a2), some (.int a3), some (.int a4), some (.int (x5 + 1)), some (.int x6), some (.int x7), some (.int (M.1 (16 + 1) x7.toNatClampNeg))]) hg dX8_workOut_219 rfl rfl rfl ?_
            refine e_iload hg dX8_workOut_222 rfl ?_
            obtain ⟨hi26, h⟩ := o_gd h
            obtain ⟨M27, hM27, h⟩ := o_lt h
            refine m_iast hg sh_19 hi26 dX8_workOut_224 ?_
            rw [← hM27]
            refine e_goto hg 376 dX8_workOut_225 (by decide) ?_
            exact X8_workOut_b376_ok hg hr ih hK228 h
          have h := o_neg c25 h
          by_cases c28 : (M.1 (16 + 1) x7.toNatClampNeg) = 115
          · have h := o_pos c28 h
            refine e_lookup hg 171 dX8_workOut_66 (by decide) (by rw [c28] <;> decide) (by decide) ?_
            refine e_aload_n hg dX8_workOut_171 rfl ?_
            refine m_getR (q := 19) hg ciX8 4 lk_214 dX8_workOut_172 io_9 (Nat.le_of_ble_eq_true rfl) rfl rf_9_4 ?_
            refine e_iload hg dX8_workOut_175 rfl ?_
            refine e_iinc (v := (x5 + 1)) (ls' := [some (.ref 9), some (.int a1), some (.int a2), some (.int a3), some (.int a4), some (.int (x5 + 1)), some (.int x6), some (.int x7), some (.int (M.1 (16 + 1) x7.toNatClampNeg))]) hg dX8_workOut_177 rfl rfl rfl ?_
            refine e_iload_n hg dX8_workOut_180 rfl ?_
            obtain ⟨hi29, h⟩ := o_gd h
            obtain ⟨M30, hM30, h⟩ := o_lt h
            refine m_iast hg sh_19 hi29 dX8_workOut_181 ?_
            rw [← hM30]
            refine e_goto hg 376 dX8_workOut_182 (by decide) ?_
            exact X8_workOut_b376_ok hg hr ih hK228 h
          have h := o_neg c28 h
          by_cases c31 : (M.1 (16 + 1) x7.toNatClampNeg) = 116
          · have h := o_pos c31 h
            refine e_lookup hg 185 dX8_workOut_66 (by decide) (by rw [c31] <;> decide) (by decide) ?_
            refine e_aload_n hg dX8_workOut_185 rfl ?_
            refine m_getR (q := 19) hg ciX8 4 lk_214 dX8_workOut_186 io_9 (Nat.le_of_ble_eq_true rfl) rfl rf_9_4 ?_
            refine e_iload hg dX8_workOut_189 rfl ?_
            refine e_iinc (v := (x5 + 1)) (ls' := [some (.ref 9), some (.int a1), some (.int a2), some (.int a3), some (.int a4), some (.int (x5 + 1)), some (.int x6), some (.int x7), some (.int (M.1 (16 + 1) x7.toNatClampNeg))]) hg dX8_workOut_191 rfl rfl rfl ?_
            refine e_iload_n hg dX8_workOut_194 rfl ?_
            obtain ⟨hi32, h⟩ := o_gd h
            obtain ⟨M33, hM33, h⟩ := o_lt h
            refine m_iast hg sh_19 hi32 dX8_workOut_195 ?_
            rw [← hM33]
            refine e_goto hg 376 dX8_workOut_196 (by decide) ?_
            exact X8_workOut_b376_ok hg hr ih hK228 h
          have h := o_neg c31 h
          by_cases c34 : (M.1 (16 + 1) x7.toNatClampNeg) = 126
          · have h := o_pos c34 h
            refine e_lookup hg 278 dX8_workOut_66 (by decide) (by rw [c34] <;> decide) (by decide) ?_
            refine e_iload hg dX8_workOut_278 rfl ?_
            refine e_iconst (v := 1) hg dX8_workOut_280 (by decide) ?_
            refine e_icmpge hg 286 dX8_workOut_281 (by decide) (fun c35 => ?_) (fun c35 => ?_)
            · have h := o_pos c35 h
              refine e_iconst (v := 0) hg dX8_workOut_284 (by decide) ?_
              exact m_iret hg hr dX8_workOut_285 h
            · have h := o_neg c35 h
              refine e_aload_n hg dX8_workOut_286 rfl ?_
              refine m_getR (q := 19) hg ciX8 4 lk_214 dX8_workOut_287 io_9 (Nat.le_of_ble_eq_true rfl) rfl rf_9_4 ?_
              refine e_iload hg dX8_workOut_290 rfl ?_
              refine e_iconst (v := 1) hg dX8_workOut_292 (by decide) ?_
              refine e_isub hg dX8_workOut_293 ?_
              refine e_iload hg dX8_workOut_294 rfl ?_
              refine e_bipush (v := 126) hg dX8_workOut_296 (by decide) ?_
              refine e_icmpne hg 314 dX8_workOut_298 (by decide) (fun c36 => ?_) (fun c36 => ?_)
              · have h := o_pos c36 h
                refine e_aload_n hg dX8_workOut_301 rfl ?_
                refine m_getR (q := 19) hg ciX8 4 lk_214 dX8_workOut_302 io_9 (Nat.le_of_ble_eq_true rfl) rfl rf_9_4 ?_
                refine e_iload hg dX8_workOut_305 rfl ?_
                refine e_iconst (v := 1) hg dX8_workOut_307 (by decide) ?_
                refine e_isub hg dX8_workOut_308 ?_
                obtain ⟨hi37, h⟩ := o_gd h
                refine m_iald hg sh_19 hi37 dX8_workOut_309 ?_
                refine e_ineg hg dX8_workOut_310 ?_
                refine e_goto hg 331 dX8_workOut_311 (by decide) ?_
                exact X8_workOut_b331_ok hg hr ih hK228 h
              · have h := o_neg c36 h
                refine e_aload_n hg dX8_workOut_314 rfl ?_
                refine m_getR (q := 19) hg ciX8 4 lk_214 dX8_workOut_315 io_9 (Nat.le_of_ble_eq_true rfl) rfl rf_9_4 ?_
                refine e_iload hg dX8_workOut_318 rfl ?_
                refine e_iconst (v := 1) hg dX8_workOut_320 (by decide) ?_
                refine e_isub hg dX8_workOut_321 ?_
                obtain ⟨hi38, h⟩ := o_gd h
                refine m_iald hg sh_19 hi38 dX8_workOut_322 ?_
                refine e_ifne hg 330 dX8_workOut_323 (by decide) (fun c39 => ?_) (fun c39 => ?_)
                · simp only [if_pos c39] at h
                  refine e_iconst (v := 1) hg dX8_workOut_326 (by decide) ?_
                  refine e_goto hg 331 dX8_workOut_327 (by decide) ?_
                  exact X8_workOut_b331_ok hg hr ih hK228 h
                · simp only [if_neg c39] at h
                  refine e_iconst (v := 0) hg dX8_workOut_330 (by decide) ?_
                  exact X8_workOut_b331_ok hg hr ih hK228 h
          have h := o_neg c34 h
          refine e_lookup (off := 269) hg 335 dX8_workOut_66 (by decide) (by have e_c5 := Ne.symm (ne_toIntL (n := 33) (by decide) c5); have e_c13 := Ne.symm (ne_toIntL (n := 48) (by decide) c13); have e_c17 := Ne.symm (ne_toIntL (n := 59) (by decide) c17); have e_c18 := Ne.symm (ne_toIntL (n := 63) (by decide) c18); have e_c22 := Ne.symm (ne_toIntL (n := 97) (by decide) c22); have e_c25 := Ne.symm (ne_toIntL (n := 108) (by decide) c25); have e_c28 := Ne.symm (ne_toIntL (n := 115) (by decide) c28); have e_c31 := Ne.symm (ne_toIntL (n := 116) (by decide) c31); have e_c34 := Ne.symm (ne_toIntL (n := 126) (by decide) c34); simp [Op.lookupswitch.offset, e_c5, e_c13, e_c17, e_c18, e_c22, e_c25, e_c28, e_c31, e_c34]) (by decide) ?_
          refine e_iload hg dX8_workOut_335 rfl ?_
          refine e_iconst (v := 2) hg dX8_workOut_337 (by decide) ?_
          refine e_icmpge hg 343 dX8_workOut_338 (by decide) (fun c40 => ?_) (fun c40 => ?_)
          · have h := o_pos c40 h
            refine e_iconst (v := 0) hg dX8_workOut_341 (by decide) ?_
            exact m_iret hg hr dX8_workOut_342 h
          · have h := o_neg c40 h
            refine e_iinc (v := (x5 + (-1))) (ls' := [some (.ref 9), some (.int a1), some (.int a2), some (.int a3), some (.int a4), some (.int (x5 + (-1))), some (.int x6), some (.int x7), some (.int (M.1 (16 + 1) x7.toNatClampNeg))]) hg dX8_workOut_343 rfl rfl rfl ?_
            refine e_aload_n hg dX8_workOut_346 rfl ?_
            refine m_getR (q := 19) hg ciX8 4 lk_214 dX8_workOut_347 io_9 (Nat.le_of_ble_eq_true rfl) rfl rf_9_4 ?_
            refine e_iload hg dX8_workOut_350 rfl ?_
            refine e_iconst (v := 1) hg dX8_workOut_352 (by decide) ?_
            refine e_isub hg dX8_workOut_353 ?_
            refine e_iload hg dX8_workOut_354 rfl ?_
            refine e_aload_n hg dX8_workOut_356 rfl ?_
            refine m_getR (q := 19) hg ciX8 4 lk_214 dX8_workOut_357 io_9 (Nat.le_of_ble_eq_true rfl) rfl rf_9_4 ?_
            refine e_iload hg dX8_workOut_360 rfl ?_
            refine e_iconst (v := 1) hg dX8_workOut_362 (by decide) ?_
            refine e_isub hg dX8_workOut_363 ?_
            obtain ⟨hi41, h⟩ := o_gd h
            refine m_iald hg sh_19 hi41 dX8_workOut_364 ?_
            refine e_aload_n hg dX8_workOut_365 rfl ?_
            refine m_getR (q := 19) hg ciX8 4 lk_214 dX8_workOut_366 io_9 (Nat.le_of_ble_eq_true rfl) rfl rf_9_4 ?_
            refine e_iload hg dX8_workOut_369 rfl ?_
            obtain ⟨hi42, h⟩ := o_gd h
            refine m_iald hg sh_19 hi42 dX8_workOut_371 ?_
            obtain ⟨v43, M44, hc45, h⟩ := o_bd h
            refine m_callSI (rest := [.int ((x5 + (-1)) - 1), .ref 19]) (v := v43) (M' := M44) hg mfX8_joined mvX8_joined (X8_joined_ok (r := (v43, M44)) hc45) lk_590 dX8_workOut_372 rfl rfl (by omega) (Nat.le_of_ble_eq_true rfl) ?_
            obtain ⟨hi46, h⟩ := o_gd h
            obtain ⟨M47, hM47, h⟩ := o_lt h
            refine m_iast hg sh_19 hi46 dX8_workOut_375 ?_
            rw [← hM47]
            exact X8_workOut_b376_ok hg hr ih hK228 h
        · have h := o_neg c4 h
          refine e_iconst (v := 0) hg dX8_workOut_62 (by decide) ?_
          exact m_iret hg hr dX8_workOut_63 h
      · have h := o_neg c3 h
        refine e_iload hg dX8_workOut_38 rfl ?_
        refine e_bipush (v := 59) hg dX8_workOut_40 (by decide) ?_
        refine e_icmpeq hg 49 dX8_workOut_42 (by decide) (fun c48 => ?_) (fun c48 => ?_)
        · simp only [if_pos c48] at h
          refine e_iconst (v := 0) hg dX8_workOut_49 (by decide) ?_
          exact X8_workOut_b50_ok hg hr ih hK228 h
        · simp only [if_neg c48] at h
          refine e_iconst (v := 1) hg dX8_workOut_45 (by decide) ?_
          refine e_goto hg 50 dX8_workOut_46 (by decide) ?_
          exact X8_workOut_b50_ok hg hr ih hK228 h
    · have h := o_neg c1 h
      refine e_iconst (v := 0) hg dX8_workOut_382 (by decide) ?_
      exact m_iret hg hr dX8_workOut_383 h

def X8_workOut (a1 : Int32) (a2 : Int32) (a3 : Int32) (a4 : Int32) (M : mm) : Option (Int32 × mm) :=
  X8_workOut_L9 a1 a2 a3 a4 (fun x5 M =>
      if 0 < x5 then
        gd (inb (x5 - 1) 48) <|
        some ((M.1 19 (x5 - 1).toNatClampNeg), M)
      else
        some (0, M)) 10000 0 0 0 M
set_option maxRecDepth 100000 in
set_option maxHeartbeats 4000000 in
theorem X8_workOut_ok {a1 : Int32} {a2 : Int32} {a3 : Int32} {a4 : Int32} {M : mm} {r : Int32 × mm} (h : X8_workOut a1 a2 a3 a4 M = some r) : CM yX8_workOut cX8_workOut 9 (some .int) 1 [.ref 9, .int a1, .int a2, .int a3, .int a4] (cells M) (some (.int r.1)) (cells r.2) := by
  refine cm_of (ls := [some (.ref 9), some (.int a1), some (.int a2), some (.int a3), some (.int a4), none, none, none, none]) mfX8_workOut rfl (Nat.le_of_ble_eq_true rfl) (fun g hg hr => ?_)
  unfold X8_workOut at h
  refine e_iconst (v := 0) hg dX8_workOut_0 (by decide) ?_
  refine e_istore (ls' := [some (.ref 9), some (.int a1), some (.int a2), some (.int a3), some (.int a4), some (.int 0), none, none, none]) hg dX8_workOut_1 rfl ?_
  refine e_iconst (v := 0) hg dX8_workOut_3 (by decide) ?_
  refine e_istore (ls' := [some (.ref 9), some (.int a1), some (.int a2), some (.int a3), some (.int a4), some (.int 0), some (.int 0), none, none]) hg dX8_workOut_4 rfl ?_
  refine e_iconst (v := 0) hg dX8_workOut_6 (by decide) ?_
  refine e_istore (ls' := [some (.ref 9), some (.int a1), some (.int a2), some (.int a3), some (.int a4), some (.int 0), some (.int 0), some (.int 0), none]) hg dX8_workOut_7 rfl ?_
  refine X8_workOut_L9_ok hg hr (fun x5 o6 o7 o8 M h => ?_) 10000 _ _ _ _ _ h
  refine e_iload hg dX8_workOut_228 rfl ?_
  refine e_ifle hg 245 dX8_workOut_230 (by decide) (fun c49 => ?_) (fun c49 => ?_)
  · have h := o_pos c49 h
    refine e_aload_n hg dX8_workOut_233 rfl ?_
    refine m_getR (q := 19) hg ciX8 4 lk_214 dX8_workOut_234 io_9 (Nat.le_of_ble_eq_true rfl) rfl rf_9_4 ?_
    refine e_iload hg dX8_workOut_237 rfl ?_
    refine e_iconst (v := 1) hg dX8_workOut_239 (by decide) ?_
    refine e_isub hg dX8_workOut_240 ?_
    obtain ⟨hi50, h⟩ := o_gd h
    refine m_iald hg sh_19 hi50 dX8_workOut_241 ?_
    refine e_goto hg 246 dX8_workOut_242 (by decide) ?_
    exact m_iret hg hr dX8_workOut_246 h
  · have h := o_neg c49 h
    refine e_iconst (v := 0) hg dX8_workOut_245 (by decide) ?_
    exact m_iret hg hr dX8_workOut_246 h

def X8_number_b105 (a1 : Int32) (a2 : Int32) (a3 : Int32) (a4 : Int32) (x5 : Int32) (s0 : Int32) (M : mm) : Option (Int32 × mm) :=
  gd (inb x5 3600) <|
  lt_ (sA M 20 (upd (M.1 20) x5.toNatClampNeg (vp_nar .byte (((if 0 < (if s0 < 12 then s0 else 12) then (if s0 < 12 then s0 else 12) else 0) + 1).toInt8.toInt32)))) fun M12 =>
  gd (inb x5 3600) <|
  some (((M12.1 20 x5.toNatClampNeg) - 1), M12)
set_option maxRecDepth 100000 in
set_option maxHeartbeats 4000000 in
theorem X8_number_b105_ok {g : gx} (hg : EC g cX8_number RX8 2) {a1 : Int32} {a2 : Int32} {a3 : Int32} {a4 : Int32} {r : Int32 × mm} (hr : RT g (some .int) (0, 0) (some (.int r.1)) (cells r.2)) {x5 : Int32} {s0 : Int32} {o6 : Option Value} {M : mm} (h : X8_number_b105 a1 a2 a3 a4 x5 s0 M = some r) : E g (0, 0) 105 [some (.ref 9), some (.int a1), some (.int a2), some (.int a3), some (.int a4), some (.int x5), o6] [.int s0] (cells M) := by
  unfold X8_number_b105 at h
  refine e_istore (ls' := [some (.ref 9), some (.int a1), some (.int a2), some (.int a3), some (.int a4), some (.int x5), some (.int s0)]) hg dX8_number_105 rfl ?_
  refine e_aload_n hg dX8_number_107 rfl ?_
  refine m_getR (q := 20) hg ciX8 5 lk_215 dX8_number_108 io_9 (Nat.le_of_ble_eq_true rfl) rfl rf_9_5 ?_
  refine e_iload hg dX8_number_111 rfl ?_
  refine e_iconst (v := 0) hg dX8_number_113 (by decide) ?_
  refine e_bipush (v := 12) hg dX8_number_114 (by decide) ?_
  refine e_iload hg dX8_number_116 rfl ?_
  refine e_mmin hg lk_593 (Nat.le_of_ble_eq_true rfl) (by omega) (cs0 g) dX8_number_118 ?_
  refine e_mmax hg lk_596 (Nat.le_of_ble_eq_true rfl) (by omega) (cs0 g) dX8_number_121 ?_
  refine e_iconst (v := 1) hg dX8_number_124 (by decide) ?_
  refine e_iadd hg dX8_number_125 ?_
  refine e_i2b hg dX8_number_126 ?_
  obtain ⟨hi11, h⟩ := o_gd h
  obtain ⟨M12, hM12, h⟩ := o_lt h
  refine m_bast hg sh_20 hi11 dX8_number_127 ?_
  rw [← hM12]
  refine e_aload_n hg dX8_number_128 rfl ?_
  refine m_getR (q := 20) hg ciX8 5 lk_215 dX8_number_129 io_9 (Nat.le_of_ble_eq_true rfl) rfl rf_9_5 ?_
  refine e_iload hg dX8_number_132 rfl ?_
  obtain ⟨hi13, h⟩ := o_gd h
  refine m_bald hg sh_20 hi13 dX8_number_134 ?_
  refine e_iconst (v := 1) hg dX8_number_135 (by decide) ?_
  refine e_isub hg dX8_number_136 ?_
  exact m_iret hg hr dX8_number_137 h

def X8_number_b102 (a1 : Int32) (a2 : Int32) (a3 : Int32) (a4 : Int32) (x5 : Int32) (s1 : Int32) (s2 : Int32) (s3 : Int32) (s4 : Int32) (M : mm) : Option (Int32 × mm) :=
  bd (X8_workOut s1 s2 s3 s4 M) fun v15 M16 =>
  X8_number_b105 a1 a2 a3 a4 x5 v15 M16
set_option maxRecDepth 100000 in
set_option maxHeartbeats 4000000 in
theorem X8_number_b102_ok {g : gx} (hg : EC g cX8_number RX8 2) {a1 : Int32} {a2 : Int32} {a3 : Int32} {a4 : Int32} {r : Int32 × mm} (hr : RT g (some .int) (0, 0) (some (.int r.1)) (cells r.2)) {x5 : Int32} {s1 : Int32} {s2 : Int32} {s3 : Int32} {s4 : Int32} {o6 : Option Value} {M : mm} (h : X8_number_b102 a1 a2 a3 a4 x5 s1 s2 s3 s4 M = some r) : E g (0, 0) 102 [some (.ref 9), some (.int a1), some (.int a2), some (.int a3), some (.int a4), some (.int x5), o6] [.int s4, .int s3, .int s2, .int s1, .ref 9] (cells M) := by
  unfold X8_number_b102 at h
  obtain ⟨v15, M16, hc17, h⟩ := o_bd h
  refine m_callVI (rest := []) (v := v15) (M' := M16) (ci := 8) hg mfX8_workOut mvX8_workOut (X8_workOut_ok (r := (v15, M16)) hc17) lk_586 dX8_number_102 io_9 rfl rfl rfl (by omega) (Nat.le_of_ble_eq_true rfl) ?_
  exact X8_number_b105_ok hg hr  h

def X8_number_b56 (a1 : Int32) (a2 : Int32) (a3 : Int32) (a4 : Int32) (s0 : Int32) (s1 : Int32) (M : mm) : Option (Int32 × mm) :=
  gd (inb (s0 + s1) 3600) <|
  if (M.1 20 (s0 + s1).toNatClampNeg) = 0 then
    if (M.1 16 0) = 0 then
      X8_number_b105 a1 a2 a3 a4 (s0 + s1) (7 - (2 * a2)) M
    else
      X8_number_b102 a1 a2 a3 a4 (s0 + s1) a1 a2 a3 (if a4 = 0 then 0 else 1) M
  else
    gd (inb (s0 + s1) 3600) <|
    some (((M.1 20 (s0 + s1).toNatClampNeg) - 1), M)
set_option maxRecDepth 100000 in
set_option maxHeartbeats 4000000 in
theorem X8_number_b56_ok {g : gx} (hg : EC g cX8_number RX8 2) {a1 : Int32} {a2 : Int32} {a3 : Int32} {a4 : Int32} {r : Int32 × mm} (hr : RT g (some .int) (0, 0) (some (.int r.1)) (cells r.2)) {s0 : Int32} {s1 : Int32} {o5 : Option Value} {o6 : Option Value} {M : mm} (h : X8_number_b56 a1 a2 a3 a4 s0 s1 M = some r) : E g (0, 0) 56 [some (.ref 9), some (.int a1), some (.int a2), some (.int a3), some (.int a4), o5, o6] [.int s1, .int s0] (cells M) := by
  unfold X8_number_b56 at h
  refine e_iadd hg dX8_number_56 ?_
  refine e_istore (ls' := [some (.ref 9), some (.int a1), some (.int a2), some (.int a3), some (.int a4), some (.int (s0 + s1)), o6]) hg dX8_number_57 rfl ?_
  refine e_aload_n hg dX8_number_59 rfl ?_
  refine m_getR (q := 20) hg ciX8 5 lk_215 dX8_number_60 io_9 (Nat.le_of_ble_eq_true rfl) rfl rf_9_5 ?_
  refine e_iload hg dX8_number_63 rfl ?_
  obtain ⟨hi8, h⟩ := o_gd h
  refine m_bald hg sh_20 hi8 dX8_number_65 ?_
  refine e_ifne hg 128 dX8_number_66 (by decide) (fun c9 => ?_) (fun c9 => ?_)
  · have h := o_pos c9 h
    refine e_aload_n hg dX8_number_69 rfl ?_
    refine m_getR (q := 16) hg ciX8 3 lk_213 dX8_number_70 io_9 (Nat.le_of_ble_eq_true rfl) rfl rf_9_3 ?_
    refine m_getI hg ciX7 0 lk_181 dX8_number_73 io_16 (Nat.le_of_ble_eq_true rfl) rfl ?_
    refine e_ifne hg 88 dX8_number_76 (by decide) (fun c10 => ?_) (fun c10 => ?_)
    · have h := o_pos c10 h
      refine e_bipush (v := 7) hg dX8_number_79 (by decide) ?_
      refine e_iconst (v := 2) hg dX8_number_81 (by decide) ?_
      refine e_iload_n hg dX8_number_82 rfl ?_
      refine e_imul hg dX8_number_83 ?_
      refine e_isub hg dX8_number_84 ?_
      refine e_goto hg 105 dX8_number_85 (by decide) ?_
      exact X8_number_b105_ok hg hr  h
    · have h := o_neg c10 h
      refine e_aload_n hg dX8_number_88 rfl ?_
      refine e_iload_n hg dX8_number_89 rfl ?_
      refine e_iload_n hg dX8_number_90 rfl ?_
      refine e_iload_n hg dX8_number_91 rfl ?_
      refine e_iload hg dX8_number_92 rfl ?_
      refine e_ifeq hg 101 dX8_number_94 (by decide) (fun c14 => ?_) (fun c14 => ?_)
      · simp only [if_pos c14] at h
        refine e_iconst (v := 0) hg dX8_number_101 (by decide) ?_
        exact X8_number_b102_ok hg hr  h
      · simp only [if_neg c14] at h
        refine e_iconst (v := 1) hg dX8_number_97 (by decide) ?_
        refine e_goto hg 102 dX8_number_98 (by decide) ?_
        exact X8_number_b102_ok hg hr  h
  · have h := o_neg c9 h
    refine e_aload_n hg dX8_number_128 rfl ?_
    refine m_getR (q := 20) hg ciX8 5 lk_215 dX8_number_129 io_9 (Nat.le_of_ble_eq_true rfl) rfl rf_9_5 ?_
    refine e_iload hg dX8_number_132 rfl ?_
    obtain ⟨hi18, h⟩ := o_gd h
    refine m_bald hg sh_20 hi18 dX8_number_134 ?_
    refine e_iconst (v := 1) hg dX8_number_135 (by decide) ?_
    refine e_isub hg dX8_number_136 ?_
    exact m_iret hg hr dX8_number_137 h

def X8_number (a1 : Int32) (a2 : Int32) (a3 : Int32) (a4 : Int32) (M : mm) : Option (Int32 × mm) :=
  if a2 < 1 then
    some (0, M)
  else
    if 3 < a2 then
      some (0, M)
    else
      if a3 < 0 then
        some (0, M)
      else
        if 99 < a3 then
          some (0, M)
        else
          if a1 < 0 then
            some (0, M)
          else
            if a1 < 6 then
              X8_number_b56 a1 a2 a3 a4 ((((((a1 * 3) + a2) - 1) * 100) + a3) * 2) (if a4 = 0 then 0 else 1) M
            else
              some (0, M)
set_option maxRecDepth 100000 in
set_option maxHeartbeats 4000000 in
theorem X8_number_ok {a1 : Int32} {a2 : Int32} {a3 : Int32} {a4 : Int32} {M : mm} {r : Int32 × mm} (h : X8_number a1 a2 a3 a4 M = some r) : CM yX8_number cX8_number 7 (some .int) 2 [.ref 9, .int a1, .int a2, .int a3, .int a4] (cells M) (some (.int r.1)) (cells r.2) := by
  refine cm_of (ls := [some (.ref 9), some (.int a1), some (.int a2), some (.int a3), some (.int a4), none, none]) mfX8_number rfl (Nat.le_of_ble_eq_true rfl) (fun g hg hr => ?_)
  unfold X8_number at h
  refine e_iload_n hg dX8_number_0 rfl ?_
  refine e_iconst (v := 1) hg dX8_number_1 (by decide) ?_
  refine e_icmplt hg 30 dX8_number_2 (by decide) (fun c1 => ?_) (fun c1 => ?_)
  · have h := o_pos c1 h
    refine e_iconst (v := 0) hg dX8_number_30 (by decide) ?_
    exact m_iret hg hr dX8_number_31 h
  · have h := o_neg c1 h
    refine e_iload_n hg dX8_number_5 rfl ?_
    refine e_iconst (v := 3) hg dX8_number_6 (by decide) ?_
    refine e_icmpgt hg 30 dX8_number_7 (by decide) (fun c2 => ?_) (fun c2 => ?_)
    · have h := o_pos c2 h
      refine e_iconst (v := 0) hg dX8_number_30 (by decide) ?_
      exact m_iret hg hr dX8_number_31 h
    · have h := o_neg c2 h
      refine e_iload_n hg dX8_number_10 rfl ?_
      refine e_iflt hg 30 dX8_number_11 (by decide) (fun c3 => ?_) (fun c3 => ?_)
      · have h := o_pos c3 h
        refine e_iconst (v := 0) hg dX8_number_30 (by decide) ?_
        exact m_iret hg hr dX8_number_31 h
      · have h := o_neg c3 h
        refine e_iload_n hg dX8_number_14 rfl ?_
        refine e_bipush (v := 99) hg dX8_number_15 (by decide) ?_
        refine e_icmpgt hg 30 dX8_number_17 (by decide) (fun c4 => ?_) (fun c4 => ?_)
        · have h := o_pos c4 h
          refine e_iconst (v := 0) hg dX8_number_30 (by decide) ?_
          exact m_iret hg hr dX8_number_31 h
        · have h := o_neg c4 h
          refine e_iload_n hg dX8_number_20 rfl ?_
          refine e_iflt hg 30 dX8_number_21 (by decide) (fun c5 => ?_) (fun c5 => ?_)
          · have h := o_pos c5 h
            refine e_iconst (v := 0) hg dX8_number_30 (by decide) ?_
            exact m_iret hg hr dX8_number_31 h
          · have h := o_neg c5 h
            refine e_iload_n hg dX8_number_24 rfl ?_
            refine e_bipush (v := 6) hg dX8_number_25 (by decide) ?_
            refine e_icmplt hg 32 dX8_number_27 (by decide) (fun c6 => ?_) (fun c6 => ?_)
            · have h := o_pos c6 h
              refine e_iload_n hg dX8_number_32 rfl ?_
              refine e_iconst (v := 3) hg dX8_number_33 (by decide) ?_
              refine e_imul hg dX8_number_34 ?_
              refine e_iload_n hg dX8_number_35 rfl ?_
              refine e_iadd hg dX8_number_36 ?_
              refine e_iconst (v := 1) hg dX8_number_37 (by decide) ?_
              refine e_isub hg dX8_number_38 ?_
              refine e_bipush (v := 100) hg dX8_number_39 (by decide) ?_
              refine e_imul hg dX8_number_41 ?_
              refine e_iload_n hg dX8_number_42 rfl ?_
              refine e_iadd hg dX8_number_43 ?_
              refine e_iconst (v := 2) hg dX8_number_44 (by decide) ?_
              refine e_imul hg dX8_number_45 ?_
              refine e_iload hg dX8_number_46 rfl ?_
              refine e_ifeq hg 55 dX8_number_48 (by decide) (fun c7 => ?_) (fun c7 => ?_)
              · simp only [if_pos c7] at h
                refine e_iconst (v := 0) hg dX8_number_55 (by decide) ?_
                exact X8_number_b56_ok hg hr  h
              · simp only [if_neg c7] at h
                refine e_iconst (v := 1) hg dX8_number_51 (by decide) ?_
                refine e_goto hg 56 dX8_number_52 (by decide) ?_
                exact X8_number_b56_ok hg hr  h
            · have h := o_neg c6 h
              refine e_iconst (v := 0) hg dX8_number_30 (by decide) ?_
              exact m_iret hg hr dX8_number_31 h

def X8_take (a1 : Int32) (M : mm) : Option (Int32 × mm) :=
  if (M.1 9 0) < 120 then
    gd (inb (M.1 9 0) 120) <|
    lt_ (sA M 10 (upd (M.1 10) (M.1 9 0).toNatClampNeg a1)) fun M3 =>
    lt_ (sA M3 9 (upd (M3.1 9) 0 ((M3.1 9 0) + 1))) fun M4 =>
    some (1, M4)
  else
    some (0, M)
set_option maxRecDepth 100000 in
set_option maxHeartbeats 4000000 in
theorem X8_take_ok {a1 : Int32} {M : mm} {r : Int32 × mm} (h : X8_take a1 M = some r) : CM yX8_take cX8_take 2 (some .boolean) 0 [.ref 9, .int a1] (cells M) (some (.int r.1)) (cells r.2) := by
  refine cm_of (ls := [some (.ref 9), some (.int a1)]) mfX8_take rfl (Nat.le_of_ble_eq_true rfl) (fun g hg hr => ?_)
  unfold X8_take at h
  refine e_aload_n hg dX8_take_0 rfl ?_
  refine m_getI hg ciX8 0 lk_209 dX8_take_1 io_9 (Nat.le_of_ble_eq_true rfl) rfl ?_
  refine e_bipush (v := 120) hg dX8_take_4 (by decide) ?_
  refine e_icmplt hg 11 dX8_take_6 (by decide) (fun c1 => ?_) (fun c1 => ?_)
  · have h := o_pos c1 h
    refine e_aload_n hg dX8_take_11 rfl ?_
    refine m_getR (q := 10) hg ciX8 1 lk_211 dX8_take_12 io_9 (Nat.le_of_ble_eq_true rfl) rfl rf_9_1 ?_
    refine e_aload_n hg dX8_take_15 rfl ?_
    refine m_getI hg ciX8 0 lk_209 dX8_take_16 io_9 (Nat.le_of_ble_eq_true rfl) rfl ?_
    refine e_iload_n hg dX8_take_19 rfl ?_
    obtain ⟨hi2, h⟩ := o_gd h
    obtain ⟨M3, hM3, h⟩ := o_lt h
    refine m_iast hg sh_10 hi2 dX8_take_20 ?_
    rw [← hM3]
    refine e_aload_n hg dX8_take_21 rfl ?_
    refine e_dup hg dX8_take_22 rfl ?_
    refine m_getI hg ciX8 0 lk_209 dX8_take_23 io_9 (Nat.le_of_ble_eq_true rfl) rfl ?_
    refine e_iconst (v := 1) hg dX8_take_26 (by decide) ?_
    refine e_iadd hg dX8_take_27 ?_
    obtain ⟨M4, hM4, h⟩ := o_lt h
    refine m_putI hg ciX8 0 lk_209 dX8_take_28 io_9 (Nat.le_of_ble_eq_true rfl) rfl rfl rfl rfl ?_
    rw [← hM4]
    refine e_iconst (v := 1) hg dX8_take_31 (by decide) ?_
    exact m_zret hg hr rfl dX8_take_32 h
  · have h := o_neg c1 h
    refine e_iconst (v := 0) hg dX8_take_9 (by decide) ?_
    exact m_zret hg hr rfl dX8_take_10 h

def X8_becomeTape  (M : mm) : Option (Int32 × mm) :=
  bd (X5_read 10 (M.1 9 0) M) fun v1 M2 =>
  lt_ (sA M2 9 (upd (M2.1 9) 0 0)) fun M4 =>
  if v1 < 0 then
    bd (X7_become 16 13 M4) fun u6 M7 =>
    bd (J7_fill_031fb 20 0 M7) fun u9 M10 =>
    some (v1, M10)
  else
    some (v1, M4)
set_option maxRecDepth 100000 in
set_option maxHeartbeats 4000000 in
theorem X8_becomeTape_ok  {M : mm} {r : Int32 × mm} (h : X8_becomeTape  M = some r) : CM yX8_becomeTape cX8_becomeTape 2 (some .int) 105 [.ref 9] (cells M) (some (.int r.1)) (cells r.2) := by
  refine cm_of (ls := [some (.ref 9), none]) mfX8_becomeTape rfl (Nat.le_of_ble_eq_true rfl) (fun g hg hr => ?_)
  unfold X8_becomeTape at h
  refine e_aload_n hg dX8_becomeTape_0 rfl ?_
  refine m_getR (q := 11) hg ciX8 2 lk_212 dX8_becomeTape_1 io_9 (Nat.le_of_ble_eq_true rfl) rfl rf_9_2 ?_
  refine e_aload_n hg dX8_becomeTape_4 rfl ?_
  refine m_getR (q := 10) hg ciX8 1 lk_211 dX8_becomeTape_5 io_9 (Nat.le_of_ble_eq_true rfl) rfl rf_9_1 ?_
  refine e_aload_n hg dX8_becomeTape_8 rfl ?_
  refine m_getI hg ciX8 0 lk_209 dX8_becomeTape_9 io_9 (Nat.le_of_ble_eq_true rfl) rfl ?_
  obtain ⟨v1, M2, hc3, h⟩ := o_bd h
  refine m_callVI (rest := []) (v := v1) (M' := M2) (ci := 5) hg mfX5_read mvX5_read (X5_read_ok (r := (v1, M2)) hc3) lk_615 dX8_becomeTape_12 io_11 rfl rfl rfl (by omega) (Nat.le_of_ble_eq_true rfl) ?_
  refine e_istore_n (ls' := [some (.ref 9), some (.int v1)]) hg dX8_becomeTape_15 rfl ?_
  refine e_aload_n hg dX8_becomeTape_16 rfl ?_
  refine e_iconst (v := 0) hg dX8_becomeTape_17 (by decide) ?_
  obtain ⟨M4, hM4, h⟩ := o_lt h
  refine m_putI hg ciX8 0 lk_209 dX8_becomeTape_18 io_9 (Nat.le_of_ble_eq_true rfl) rfl rfl rfl rfl ?_
  rw [← hM4]
  refine e_iload_n hg dX8_becomeTape_21 rfl ?_
  refine e_ifge hg 47 dX8_becomeTape_22 (by decide) (fun c5 => ?_) (fun c5 => ?_)
  · have h := o_pos c5 h
    refine e_aload_n hg dX8_becomeTape_25 rfl ?_
    refine m_getR (q := 16) hg ciX8 3 lk_213 dX8_becomeTape_26 io_9 (Nat.le_of_ble_eq_true rfl) rfl rf_9_3 ?_
    refine e_aload_n hg dX8_becomeTape_29 rfl ?_
    refine m_getR (q := 11) hg ciX8 2 lk_212 dX8_becomeTape_30 io_9 (Nat.le_of_ble_eq_true rfl) rfl rf_9_2 ?_
    refine m_getR (q := 13) hg ciX5 3 lk_197 dX8_becomeTape_33 io_11 (Nat.le_of_ble_eq_true rfl) rfl rf_11_3 ?_
    obtain ⟨u6, M7, hc8, h⟩ := o_bd h
    refine m_callVV (rest := []) (M' := M7) (ci := 7) hg mfX7_become mvX7_become (X7_become_ok (r := (u6, M7)) hc8) lk_647 dX8_becomeTape_36 io_16 rfl rfl rfl (by omega) (Nat.le_of_ble_eq_true rfl) ?_
    refine e_aload_n hg dX8_becomeTape_39 rfl ?_
    refine m_getR (q := 20) hg ciX8 5 lk_215 dX8_becomeTape_40 io_9 (Nat.le_of_ble_eq_true rfl) rfl rf_9_5 ?_
    refine e_iconst (v := 0) hg dX8_becomeTape_43 (by decide) ?_
    obtain ⟨u9, M10, hc11, h⟩ := o_bd h
    refine m_callSV (rest := []) (M' := M10) hg mfJ7_fill_031fb mvJ7_fill_031fb (J7_fill_031fb_ok (r := (u9, M10)) hc11) lk_652 dX8_becomeTape_44 rfl rfl (by omega) (Nat.le_of_ble_eq_true rfl) ?_
    refine e_iload_n hg dX8_becomeTape_47 rfl ?_
    exact m_iret hg hr dX8_becomeTape_48 h
  · have h := o_neg c5 h
    refine e_iload_n hg dX8_becomeTape_47 rfl ?_
    exact m_iret hg hr dX8_becomeTape_48 h

