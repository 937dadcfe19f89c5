/-! ===== the calls row, taken, told ===== -/
theorem fi_L {w : Nat} (hw : isA 1 w = true) (h60 : alN w = 60) : ∀ k i (M : mm), i ≤ 60 → 60 - i < k → ∃ M', J7_fill_d0a16_L6 w 0 k (nI i) (nI 60) M = some ((), M') ∧ M'.1 = M.1 ∧ M'.2.2 = M.2.2 ∧ (∀ j, j ≠ w → M'.2.1 j = M.2.1 j) ∧ (∀ j, j < i → M'.2.1 w j = M.2.1 w j) ∧ ∀ j, i ≤ j → j < 60 → M'.2.1 w j = 0 := by
  intro k
  induction k with
  | zero => intro i M _ h; omega
  | succ k ih =>
    intro i M hi hk
    rw [J7_fill_d0a16_L6, i_ltP (by omega) (by omega)]
    by_cases h : i < 60
    · rw [if_pos h, hw, gd_t, h60, n_inb h (by omega), gd_t, lt_s_, n_cl (by omega), nI_1]
      obtain ⟨M', g1, g2, g3, g4, g5, g6⟩ := ih (i + 1) (sL M w (vp_updL (M.2.1 w) i 0)) (by omega) (by omega)
      refine ⟨M', g1, g2, g3, fun j hj => by rw [g4 j hj, sL_n _ _ _ _ hj], fun j hj => by rw [g5 j (by omega), sL_s, updL_n _ _ _ _ (by omega)], fun j j1 j2 => ?_⟩
      by_cases hji : j = i
      · rw [hji, g5 i (by omega), sL_s, updL_s]
      · exact g6 j (by omega) j2
    · rw [if_neg h]
      exact ⟨M, rfl, rfl, rfl, fun _ _ => rfl, fun _ _ => rfl, fun j h1 h2 => by omega⟩
theorem ro_L {d : Nat} {a2 a3 : Int32} (hd : d < 6) : ∀ k i (M : mm), i ≤ 60 → 60 - i < k → ∃ M', X11_row_L57 (nI d) a2 a3 k (nI (60 * d + i)) M = some (1, M') ∧ M'.1 = M.1 ∧ M'.2.2 = M.2.2 ∧ (∀ j, (j < 60 * d + i ∨ 60 * d + 60 ≤ j) → M'.2.1 115 j = M.2.1 115 j) ∧ ∀ j, i ≤ j → j < 60 → M'.2.1 115 (60 * d + j) = 0 := by
  intro k
  induction k with
  | zero => intro i M _ h; omega
  | succ k ih =>
    intro i M hi hk
    rw [X11_row_L57, show (60 : Int32) = nI 60 from rfl, n_mul, n_add, i_ltP (by omega) (by omega)]
    by_cases h : i < 60
    · rw [if_pos (by omega), n_inb (by omega) (by omega), gd_t, lt_s_, n_cl (by omega), nI_1]
      obtain ⟨M', g1, g2, g3, g5, g6⟩ := ih (i + 1) (sL M 115 (vp_updL (M.2.1 115) (60 * d + i) 0)) (by omega) (by omega)
      refine ⟨M', g1, g2, g3, fun j hj => by rw [g5 j (by omega), sL_s, updL_n _ _ _ _ (by omega)], fun j j1 j2 => ?_⟩
      by_cases hji : j = i
      · rw [hji, g5 (60 * d + i) (by omega), sL_s, updL_s]
      · exact g6 j (by omega) j2
    · rw [if_neg (by omega)]
      exact ⟨M, rfl, rfl, rfl, fun _ _ => rfl, fun j h1 h2 => by omega⟩
theorem sh_A : ∀ d, d < 6 → isA 1 (70 + 2 * d + 1) = true ∧ alN (70 + 2 * d + 1) = 60 := by decide
theorem op_row {P T N : Nat} {O : Option (List stp)} {Ma Mb : mm} (R : RR P T N O Ma Mb) (a1 a2 a3 : Int32) : ∃ v Ma' Mb', X10_row a1 a2 a3 Ma = some (v, Ma') ∧ X11_row a1 a2 a3 Mb = some (v, Mb') ∧ RR P T N O Ma' Mb' := by
  obtain ⟨-, -, -, -, -, -, -, -, -, hS⟩ := id R.1
  unfold X10_row X11_row
  rcases w_shelf a1 Ma Mb with ⟨h1, h2⟩ | ⟨d, hd, rfl, h1, h2⟩
  · rw [h1, h2, bd_s, bd_s, if_pos rfl]
    exact ⟨_, _, _, rfl, rfl, R⟩
  · rw [h1, h2, bd_s, bd_s, i_10, w_within, bd_s, i_P (bI_0 _), q_i64, z64_0, show (4 : Int64).toInt = 4 from by decide]
    unfold opt
    simp only
    rcases q_rng a2 0 4 (by omega) with hc | ⟨s, -, s1, rfl⟩
    · have hc' : ¬ (0 ≤ a2.toInt ∧ a2.toInt ≤ 4) := by simpa using hc
      rw [decide_eq_false hc', if_pos (c := false = false) rfl, i_P (propext (q_lt a2 0)), i_P (propext (q_lt a2 5)), z32_0, z32_5]
      by_cases h0 : a2.toInt < 0
      · rw [if_pos h0]
        exact ⟨_, _, _, rfl, rfl, R⟩
      · rw [if_neg h0, if_neg (by omega)]
        exact ⟨_, _, _, rfl, rfl, R⟩
    · rw [nI_toInt (by omega), decide_eq_true (by omega), if_neg (c := true = false) (fun q => nomatch q), if_neg (neg0 (show s < 2 ^ 31 by omega)), if_pos (show nI s < 5 by rw [q_lt, n_ti (by omega), z32_5]; omega)]
      by_cases h60 : 60 < a3
      · rw [if_pos h60, if_pos h60]
        exact ⟨_, _, _, rfl, rfl, R⟩
      · rw [if_neg h60, if_neg h60]
        by_cases h0 : a3 < 0
        · rw [if_pos h0, if_pos h0]
          exact ⟨_, _, _, rfl, rfl, R⟩
        · rw [if_neg h0, if_neg h0]
          obtain ⟨n, n1, rfl⟩ := q_nn h0
          have n60 : n ≤ 60 := by
            rw [q_lt, n_ti n1, show (60 : Int32).toInt = 60 from by decide] at h60
            omega
          unfold X6_holdRow J7_fill_d0a16
          rw [sh_O d hd, gd_t, gd_t, lt_s_, lt_s_, lt_s_, (sh_A d hd).1, gd_t, (sh_A d hd).2, n_inb hd (by omega), n_cl (show d < 2 ^ 31 by omega), gd_t, lt_s_, gd_t, lt_s_]
          obtain ⟨A', p1, p2, p3, p4, -, p6⟩ := fi_L (sh_A d hd).1 (sh_A d hd).2 10000 0 (sA (sA (sA Ma (70 + 2 * d) (upd (Ma.1 (70 + 2 * d)) 0 2)) (70 + 2 * d) (upd ((sA Ma (70 + 2 * d) (upd (Ma.1 (70 + 2 * d)) 0 2)).1 (70 + 2 * d)) 2 (nI s))) (70 + 2 * d) (upd ((sA (sA Ma (70 + 2 * d) (upd (Ma.1 (70 + 2 * d)) 0 2)) (70 + 2 * d) (upd ((sA Ma (70 + 2 * d) (upd (Ma.1 (70 + 2 * d)) 0 2)).1 (70 + 2 * d)) 2 (nI s))).1 (70 + 2 * d)) 3 (nI n))) (by omega) (by omega)
          obtain ⟨B', r1, r2, r3, r5, r6⟩ := ro_L (a2 := nI s) (a3 := nI n) hd 10000 0 (sA (sA Mb 113 (upd (Mb.1 113) d (50 + nI s))) 114 (upd ((sA Mb 113 (upd (Mb.1 113) d (50 + nI s))).1 114) d (nI n))) (by omega) (by omega)
          have p1' : J7_fill_d0a16_L6 (70 + 2 * d + 1) 0 10000 0 (Int32.ofNat 60) (sA (sA (sA Ma (70 + 2 * d) (upd (Ma.1 (70 + 2 * d)) 0 2)) (70 + 2 * d) (upd ((sA Ma (70 + 2 * d) (upd (Ma.1 (70 + 2 * d)) 0 2)).1 (70 + 2 * d)) 2 (nI s))) (70 + 2 * d) (upd ((sA (sA Ma (70 + 2 * d) (upd (Ma.1 (70 + 2 * d)) 0 2)) (70 + 2 * d) (upd ((sA Ma (70 + 2 * d) (upd (Ma.1 (70 + 2 * d)) 0 2)).1 (70 + 2 * d)) 2 (nI s))).1 (70 + 2 * d)) 3 (nI n))) = some ((), A') := p1
          have e60 : (60 : Int32) * nI d = nI (60 * d + 0) := by
            rw [show (60 : Int32) = nI 60 from rfl, n_mul]
            rfl
          rw [p1', bd_s, bd_s, e60, r1]
          refine ⟨_, _, _, rfl, rfl, RR_S R (fun k hk => ?_) ?_ ?_ (fun k hk => ?_) (rS_d (d := d) hS (Or.inr (Or.inr ⟨s, n, s1, n60, ?_, ?_, ?_, ?_, ?_, fun i hi => ?_, fun q i hi => ?_⟩)) ?_ (fun e he hed => ⟨?_, ?_⟩) (fun e he hed => ⟨?_, ?_, fun i hi => ?_⟩))⟩
          · rw [p2]; simp (disch := omega) only [sA_n]
          · rw [p4 26 (by omega)]; rfl
          · rw [p3]; rfl
          · rw [r2]; simp (disch := omega) only [sA_n]
          · rw [p2]; simp (disch := omega) only [sA_s, upd_s, upd_n]
          · rw [p2]; simp (disch := omega) only [sA_s, upd_s, upd_n]
          · rw [p2]; simp (disch := omega) only [sA_s, upd_s, upd_n]
          · rw [r2]; simp (disch := omega) only [sA_s, sA_n, upd_s]
            rw [show (50 : Int32) = nI 50 from rfl, n_add]
          · rw [r2]; simp (disch := omega) only [sA_s, sA_n, upd_s]
          · rw [show 71 + 2 * d = 70 + 2 * d + 1 from by omega, p6 i (by omega) (by omega), r6 i (by omega) (by omega)]
          · rw [show 71 + 2 * d = 70 + 2 * d + 1 from by omega, p6 i (by omega) (by omega)]
            decide
          · rw [p2]; simp (disch := omega) only [sA_n]
          · rw [p2]; simp (disch := omega) only [sA_n]
          · rw [p4 _ (by omega)]; rfl
          · rw [r2]; simp (disch := omega) only [sA_s, sA_n, upd_n]
          · rw [r2]; simp (disch := omega) only [sA_s, sA_n, upd_n]
          · rw [r5 _ (by omega)]; rfl
