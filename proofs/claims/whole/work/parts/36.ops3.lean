/-! ===== the single calls: the tape, the rule, who paid, layers, bodies ===== -/
theorem RC_same {P T N : Nat} {Ma Mb Ma' Mb' : mm} (R : RC P T N Ma Mb) (ea : ∀ k, k < 82 → Ma'.1 k = Ma.1 k ∧ Ma'.2.1 k = Ma.2.1 k) (eb : ∀ k, 82 ≤ k → Mb'.1 k = Mb.1 k ∧ Mb'.2.1 k = Mb.2.1 k) : RC P T N Ma' Mb' := by
  obtain ⟨hF, hP, hT, hW, hY, hI, hC, hTa, hA, hS⟩ := R
  have f1 := hF.1
  refine ⟨rF_c hF (Nat.le_refl _) ?_, rP_c hP ?_ f1 ?_, rT_c hT (Nat.le_refl _) ?_ ?_, rW_c hW (Nat.le_refl _) ?_ ?_, rY_c hY ?_, rI_c hI (Nat.le_refl _) (Nat.le_refl _) ?_ ?_, rC_c hC (Nat.le_refl _) (Nat.le_refl _) ?_, rTa_c hTa ?_, rA_c hA ?_, rS_c hS ?_ fun d hd => ⟨(ea _ (by omega)).1, (ea _ (by omega)).2⟩⟩
  all_goals simp (disch := omega) [fun k h => (ea k h).1, fun k h => (eb k h).1, fun k h => (ea k h).2, fun k h => (eb k h).2]
theorem q_i64c {a b : Int32} : (a.toInt64.toInt = b.toInt64.toInt) = (a.toInt = b.toInt) := by rw [q_i64, q_i64]
theorem z64_255 : (255 : Int64).toInt = 255 := by decide
theorem z32_255 : (255 : Int32).toInt = 255 := by decide
theorem z32_120 : (120 : Int32).toInt = 120 := by decide
theorem w_take {n : Nat} {M : mm} (hn : n ≤ 120) (h : M.1 9 0 = nI n) (a : Int32) : X8_take a M = if n = 120 then some (0, M) else some (1, sA (sA M 10 (upd (M.1 10) n a)) 9 (upd (M.1 9) 0 (nI (n + 1)))) := by
  unfold X8_take
  simp only [q_lt, h, z32_120, nI_toInt (show n < 2 ^ 31 by omega)]
  split
  · rw [if_neg (by omega)]
    simp [lt_s_, sA_1, h, gd_t, q_inbN (show n < 120 by omega) (by decide), q_cl (show n < 2 ^ 31 by omega), nI_1]
  · rw [if_pos (by omega)]
theorem t_feed {n : Nat} {M : mm} (hn : n ≤ 120) (h : M.1 9 0 = nI n) (a : Int32) : X10_feed a M =
    if 0 ≤ a.toInt ∧ a.toInt ≤ 255 then (if n = 120 then some (-3, M) else some (nI (n + 1), sA (sA M 10 (upd (M.1 10) n a)) 9 (upd (M.1 9) 0 (nI (n + 1))))) else some (-1, M) := by
  unfold X10_feed
  simp only [q_lt, z32_0, z32_255, w_take hn h]
  repeat' split
  all_goals first | rfl | omega | skip
theorem u_feed {n : Nat} {M : mm} (hn : n ≤ 120) (h : M.1 82 24 = nI n) (a : Int32) : X11_feed a M =
    if 0 ≤ a.toInt ∧ a.toInt ≤ 255 then (if n = 120 then some (-3, M) else some (nI (n + 1), sA (sA M 98 (upd (M.1 98) n a)) 82 (upd (M.1 82) 24 (nI (n + 1))))) else some (-1, M) := by
  unfold X11_feed
  simp only [w_within, bd_s, bI_0, q_i64, z64_0, z64_255, decide_eq_false_iff_not, h, q_eq (nI n) 120, z32_120, nI_toInt (show n < 2 ^ 31 by omega)]
  repeat' split
  all_goals first | rfl | omega | skip
  simp [lt_s_, sA_1, gd_t, h, q_inbN (show n < 120 by omega) (by decide), q_cl (show n < 2 ^ 31 by omega), nI_1, upd_a]
theorem op_feed {P T N : Nat} {Ma Mb : mm} (R : RC P T N Ma Mb) (a : Int32) : ∃ v Ma' Mb', X10_feed a Ma = some (v, Ma') ∧ X11_feed a Mb = some (v, Mb') ∧ RC P T N Ma' Mb' := by
  obtain ⟨hF, hP, hT, hW, hY, hI, hC, hTa, hA, hS⟩ := id R
  obtain ⟨n, n1, n2, n3, n4⟩ := id hTa
  have f1 := hF.1
  rw [t_feed n1 n2, u_feed n1 n3]
  repeat' split
  all_goals first | exact ⟨_, _, _, rfl, rfl, R⟩ | refine ⟨_, _, _, rfl, rfl, ?_⟩
  refine ⟨rF_c hF (Nat.le_refl _) ?_, rP_c hP ?_ f1 ?_, rT_c hT (Nat.le_refl _) ?_ ?_, rW_c hW (Nat.le_refl _) ?_ ?_, rY_c hY ?_, rI_c hI (Nat.le_refl _) (Nat.le_refl _) ?_ ?_, rC_c hC (Nat.le_refl _) (Nat.le_refl _) ?_, ⟨n + 1, by omega, ?_, ?_, fun i hi => ?_⟩, rA_c hA ?_, rS_c hS ?_ fun d hd => ?_⟩
  all_goals simp (disch := omega) [sA_s, sA_n, upd_s, upd_n, sA_2]
  by_cases hin : i = n
  · subst hin
    rw [upd_s, upd_s]
  · rw [upd_n _ _ _ _ hin, upd_n _ _ _ _ hin]
    exact n4 i (by omega)
/-- the rule -/
def rul (a b : Int32) (M : mm) : mm := sA M 1 (upd (M.1 1) (if a = 0 then 2 else 3) b)
theorem t_rule {M : mm} (a b : Int32) : X10_rule a b M =
    if (0 ≤ a.toInt ∧ a.toInt ≤ 1) ∧ 0 ≤ b.toInt ∧ b.toInt ≤ (if a = 0 then 9 else 1) then some (if a = 0 then M.1 1 2 else M.1 1 3, sA M 1 (upd (M.1 1) (if a = 0 then 2 else 3) b)) else some (-1, M) := by
  unfold X10_rule X10_rule_b24 X10_rule_b50
  by_cases h : a = 0
  · subst h
    simp [q_lt, z32_0, z32_1, z32_9, lt_s_]
    repeat' split
    all_goals first | rfl | omega | skip
  · simp [q_lt, z32_0, z32_1, z32_9, lt_s_, h]
    repeat' split
    all_goals first | rfl | omega | skip
theorem upd_id (f : Nat → Int32) (k : Nat) : upd f k (f k) = f := by
  funext j
  rw [upd_a]
  split
  · next h => rw [h]
  · rfl
theorem upd_id2 (f : Nat → Int32) (k k' : Nat) (b : Int32) (h : k' ≠ k) : upd (upd f k b) k' (f k') = upd f k b := by
  have := upd_id (upd f k b) k'
  rw [upd_n _ _ _ _ h] at this
  exact this
theorem u_rule {M : mm} (a b : Int32) : X11_rule a b M =
    if (0 ≤ a.toInt ∧ a.toInt ≤ 1) ∧ 0 ≤ b.toInt ∧ b.toInt ≤ (if a = 0 then 9 else 1) then some (if a = 0 then M.1 82 19 else M.1 82 20, sA M 82 (upd (M.1 82) (if a = 0 then 19 else 20) b)) else some (-1, M) := by
  unfold X11_rule X11_rule_b24 X11_rule_b47 X11_rule_b61 X11_rule_b78
  by_cases h : a = 0
  · subst h
    simp only [w_within, bd_s, bI_0, q_i64, z64_0, z64_1, z64_9, z32_0, lt_s_, sA_1, sA_sA, decide_eq_false_iff_not, if_true, if_neg (show ¬ ((0 : Int32) = 1) by decide), upd_n _ _ _ _ (show (20 : Nat) ≠ 19 by decide), upd_id2 _ _ _ _ (show (20 : Nat) ≠ 19 by decide)]
    repeat' split
    all_goals first | rfl | omega | skip
  · have h1 : (a = 1) = (a.toInt = 1) := by rw [q_eq, z32_1]
    have h0 : ¬ a.toInt = 0 := fun q => h ((q_eq a 0).mpr q)
    simp only [w_within, bd_s, bI_0, q_i64, z64_0, z64_1, z64_9, lt_s_, sA_1, sA_sA, decide_eq_false_iff_not, if_true, if_neg h, h1, upd_id]
    repeat' split
    all_goals first | rfl | omega | skip
theorem op_rule {P T N : Nat} {Ma Mb : mm} (R : RC P T N Ma Mb) (a b : Int32) : ∃ v Ma' Mb', X10_rule a b Ma = some (v, Ma') ∧ X11_rule a b Mb = some (v, Mb') ∧ RC P T N Ma' Mb' := by
  obtain ⟨hF, hP, hT, hW, hY, hI, hC, hTa, hA, hS⟩ := id R
  obtain ⟨f1, f2, f3, f4, f5, f6, ⟨F, F1, F2, F3⟩, ⟨g, g1, g2, g3⟩, f9⟩ := id hF
  rw [t_rule, u_rule]
  by_cases h : a = 0
  · subst h
    simp only [if_true, F2, F3]
    split
    · next hv =>
      obtain ⟨x, x1, x2, rfl⟩ := (q_rng b 0 9 (by omega)).resolve_left (fun q => q hv.2)
      refine ⟨_, _, _, rfl, rfl, ⟨f1, f2, ?_, ?_, ?_, ?_, ⟨x, x2, ?_, ?_⟩, ⟨g, g1, ?_, ?_⟩, ?_⟩, rP_c hP ?_ f1 ?_, rT_c hT (Nat.le_refl _) ?_ ?_, rW_c hW (Nat.le_refl _) ?_ ?_, rY_c hY ?_, rI_c hI (Nat.le_refl _) (Nat.le_refl _) ?_ ?_, rC_c hC (Nat.le_refl _) (Nat.le_refl _) ?_, rTa_c hTa ?_, rA_c hA ?_, rS_c hS ?_ fun d hd => ?_⟩
      all_goals simp (disch := omega) [sA_s, sA_n, upd_s, upd_n, sA_2]
      all_goals assumption
    · exact ⟨_, _, _, rfl, rfl, R⟩
  · simp only [if_neg h, g2, g3]
    split
    · next hv =>
      obtain ⟨x, x1, x2, rfl⟩ := (q_rng b 0 1 (by omega)).resolve_left (fun q => q hv.2)
      refine ⟨_, _, _, rfl, rfl, ⟨f1, f2, ?_, ?_, ?_, ?_, ⟨F, F1, ?_, ?_⟩, ⟨x, x2, ?_, ?_⟩, ?_⟩, rP_c hP ?_ f1 ?_, rT_c hT (Nat.le_refl _) ?_ ?_, rW_c hW (Nat.le_refl _) ?_ ?_, rY_c hY ?_, rI_c hI (Nat.le_refl _) (Nat.le_refl _) ?_ ?_, rC_c hC (Nat.le_refl _) (Nat.le_refl _) ?_, rTa_c hTa ?_, rA_c hA ?_, rS_c hS ?_ fun d hd => ?_⟩
      all_goals simp (disch := omega) [sA_s, sA_n, upd_s, upd_n, sA_2]
      all_goals assumption
    · exact ⟨_, _, _, rfl, rfl, R⟩
/-- who paid: read only -/
theorem op_paid {P T N : Nat} {Ma Mb : mm} (R : RC P T N Ma Mb) (a : Int32) : ∃ v, X10_paid a Ma = some (v, Ma) ∧ X11_paid a Mb = some (v, Mb) := by
  obtain ⟨hF, hP, hT, hW, hY, hI, hC, hTa, hA, hS⟩ := id R
  obtain ⟨f1, f2, f3, f4, f5, f6, f7, f8, f9⟩ := id hF
  obtain ⟨⟨l, l1, l2, l3⟩, -⟩ := id hY
  unfold X10_paid X11_paid
  rw [w_hasThing f2 f4, w_isThing f2 f6]
  simp only [bd_s, bI_0, decide_eq_false_iff_not]
  split
  · exact ⟨_, rfl, rfl⟩
  · next hv =>
    obtain ⟨t, t1, rfl⟩ := q_ex (n := T) (a := a) (by omega) (by omega) (by omega)
    have h0 := l3 t t1
    simp only [q_lt, l2, nI_toInt (show t < 2 ^ 31 by omega), nI_toInt (show l < 2 ^ 31 by omega), gd_t, q_inbN (show t < 6 by omega) (by decide), q_cl (show t < 2 ^ 31 by omega), h0]
    by_cases htl : t < l
    · rw [if_pos (by omega), if_pos htl]
      exact ⟨_, rfl, rfl⟩
    · rw [if_neg (by omega), if_neg htl]
      exact ⟨_, rfl, rfl⟩
theorem nI_mul (a b : Nat) : nI a * nI b = nI (a * b) := (Int32.ofNat_mul a b).symm
theorem nI_mul8 (t i : Nat) : (8 : Int32) * nI t + nI i = nI (8 * t + i) := by
  show nI 8 * nI t + nI i = _
  rw [nI_mul, nI_add]
theorem nI_8mul (t i : Nat) : nI t * (8 : Int32) + nI i = nI (8 * t + i) := by
  rw [Int32.mul_comm]; exact nI_mul8 t i
theorem w_nail {w t i : Nat} {M : mm} (hw : isO 9 w = true) (ht : t < 6) (hi : i < 8) : X9_nail w (nI t) (nI i) M = some (M.1 (w + 6) (8 * t + i), M) := by
  unfold X9_nail
  rw [nI_8mul, hw, gd_t, q_inbN (by omega) (by decide), gd_t, q_cl (by omega)]
theorem op_layer {P T N : Nat} {Ma Mb : mm} (R : RC P T N Ma Mb) (a b : Int32) : ∃ v, X10_layer a b Ma = some (v, Ma) ∧ X11_layer a b Mb = some (v, Mb) := by
  obtain ⟨hF, hP, hT, hW, hY, hI, hC, hTa, hA, hS⟩ := id R
  obtain ⟨f1, f2, f3, f4, f5, f6, f7, f8, f9⟩ := id hF
  unfold X10_layer X11_layer
  rw [w_hasThing f2 f4, w_isThing f2 f6]
  simp only [bd_s, bI_0, decide_eq_false_iff_not]
  split
  · exact ⟨_, rfl, rfl⟩
  · next hv =>
    obtain ⟨t, t1, rfl⟩ := q_ex (n := T) (a := a) (by omega) (by omega) (by omega)
    obtain ⟨-, -, -, -, n, n1, n2, n3, n4⟩ := hW.1 t t1
    simp only [gd_t, q_inbN (show t < 6 by omega) (by decide), q_cl (show t < 2 ^ 31 by omega), w_within, bd_s, bI_0, q_i64, z64_0, n3, q_pm1 (show n < 2 ^ 31 by omega), decide_eq_false_iff_not, q_lt, z32_0, n2, nI_toInt (show n < 2 ^ 31 by omega)]
    by_cases hb : 0 ≤ b.toInt ∧ b.toInt < n
    · obtain ⟨i, i1, rfl⟩ := q_ex (n := n) (a := b) (by omega) (by omega) (by omega)
      rw [if_neg (by omega), if_pos (by omega), if_neg (by omega), w_nail (by decide) (by omega) (by omega), bd_s, nI_mul8, q_inbN (by omega) (by decide), gd_t, q_cl (by omega)]
      exact ⟨_, rfl, by rw [← n4 i i1]⟩
    · refine ⟨-1, ?_, ?_⟩
      · repeat' split
        all_goals first | rfl | omega
      · rw [if_pos (by omega)]
theorem z32_8 : (8 : Int32).toInt = 8 := by decide
theorem z32_50 : (50 : Int32).toInt = 50 := by decide
theorem z64_7 : (7 : Int64).toInt = 7 := by decide
theorem t_body {b : Nat} {M : mm} (hb : b ≤ 50) (h : M.1 66 0 = nI b) (a : Int32) : X10_body a M =
    if 0 ≤ a.toInt ∧ a.toInt ≤ 7 then (if b = 50 then some (-3, M) else some (nI b, sA (sA M 68 (upd (M.1 68) b a)) 66 (upd (M.1 66) 0 (nI (b + 1))))) else some (-1, M) := by
  unfold X10_body X0_add
  simp only [q_lt, z32_0, z32_8, z32_50, h, nI_toInt (show b < 2 ^ 31 by omega)]
  repeat' split
  all_goals first | rfl | omega | skip
  simp [lt_s_, sA_1, gd_t, h, q_inbN (show b < 50 by omega) (by decide), q_cl (show b < 2 ^ 31 by omega), nI_1, bd_s]
theorem u_body {b : Nat} {M : mm} (hb : b ≤ 50) (h : M.1 82 53 = nI b) (a : Int32) : X11_body a M =
    if 0 ≤ a.toInt ∧ a.toInt ≤ 7 then (if b = 50 then some (-3, M) else some (nI b, sA (sA M 111 (upd (M.1 111) b a)) 82 (upd (M.1 82) 53 (nI (b + 1))))) else some (-1, M) := by
  unfold X11_body
  simp only [w_within, bd_s, bI_0, q_i64, z64_0, z64_7, decide_eq_false_iff_not, h, q_eq (nI b) 50, z32_50, nI_toInt (show b < 2 ^ 31 by omega)]
  repeat' split
  all_goals first | rfl | omega | skip
  simp [lt_s_, sA_1, gd_t, h, q_inbN (show b < 50 by omega) (by decide), q_cl (show b < 2 ^ 31 by omega), nI_1, upd_a, nI_pred]
theorem op_body {P T N : Nat} {Ma Mb : mm} (R : RC P T N Ma Mb) (a : Int32) : ∃ v Ma' Mb', X10_body a Ma = some (v, Ma') ∧ X11_body a Mb = some (v, Mb') ∧ RC P T N Ma' Mb' := by
  obtain ⟨hF, hP, hT, hW, hY, hI, hC, hTa, hA, hS⟩ := id R
  obtain ⟨b, r, b1, r1, b2, b3, r2, r3, b4, r4⟩ := id hA
  have f1 := hF.1
  rw [t_body b1 b2, u_body b1 b3]
  split
  · next hv =>
    split
    · exact ⟨_, _, _, rfl, rfl, R⟩
    · next h5 =>
      obtain ⟨k, k1, rfl⟩ := q_ex (n := 8) (a := a) (by omega) (by omega) (by omega)
      refine ⟨_, _, _, rfl, rfl, rF_c hF (Nat.le_refl _) ?_, rP_c hP ?_ f1 ?_, rT_c hT (Nat.le_refl _) ?_ ?_, rW_c hW (Nat.le_refl _) ?_ ?_, rY_c hY ?_, rI_c hI (Nat.le_refl _) (Nat.le_refl _) ?_ ?_, rC_c hC (Nat.le_refl _) (Nat.le_refl _) ?_, rTa_c hTa ?_, ⟨b + 1, r, by omega, r1, ?_, ?_, ?_, ?_, fun i hi => ?_, ?_⟩, fun d hd => ?_⟩
      all_goals try (simp (disch := omega) [sA_s, sA_n, upd_s, upd_n, sA_2])
      · exact r2
      · exact r3
      · by_cases hib : i = b
        · subst hib
          exact ⟨k, k1, by rw [upd_s], by rw [upd_s]⟩
        · rw [upd_n _ _ _ _ hib, upd_n _ _ _ _ hib]
          exact b4 i (by omega)
      · exact r4
      · have h0 := hS d hd
        unfold rS1 at h0 ⊢
        simp (disch := omega) [sA_s, sA_n, upd_s, upd_n, sA_2] at h0 ⊢
        rcases h0 with h0 | ⟨q, q1, q2, q3⟩ | h0
        · exact Or.inl h0
        · refine Or.inr (Or.inl ⟨q, q1, ?_, q3⟩)
          rw [b2, q_lt, nI_toInt (by omega), nI_toInt (by omega)] at q2
          rw [q_lt, nI_toInt (by omega), nI_toInt (by omega)]
          omega
        · exact Or.inr (Or.inr h0)
  · exact ⟨_, _, _, rfl, rfl, R⟩
