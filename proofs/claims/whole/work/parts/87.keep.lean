/-! ===== the calls keep, row, taken ===== -/
theorem rS_d {d : Nat} {Ma Mb Ma' Mb' : mm} (hS : rS Ma Mb) (h : rS1 d Ma' Mb') (e66 : Ma'.1 66 0 = Ma.1 66 0) (ea : ∀ e, e < 6 → e ≠ d → Ma'.1 (70 + 2 * e) = Ma.1 (70 + 2 * e) ∧ Ma'.2.1 (71 + 2 * e) = Ma.2.1 (71 + 2 * e)) (eb : ∀ e, e < 6 → e ≠ d → Mb'.1 113 e = Mb.1 113 e ∧ Mb'.1 114 e = Mb.1 114 e ∧ ∀ i, i < 60 → Mb'.2.1 115 (60 * e + i) = Mb.2.1 115 (60 * e + i)) : rS Ma' Mb' := by
  intro e he
  by_cases hed : e = d
  · rw [hed]; exact h
  · obtain ⟨a1, a2⟩ := ea e he hed
    obtain ⟨b1, b2, b3⟩ := eb e he hed
    rcases hS e he with ⟨q1, q2⟩ | ⟨b, q1, q2, q3, q4, q5⟩ | ⟨s, n, q1, q2, q3, q4, q5, q6, q7, q8, q9⟩
    · exact Or.inl ⟨by rw [a1]; exact q1, by rw [b1]; exact q2⟩
    · exact Or.inr (Or.inl ⟨b, q1, by rw [e66]; exact q2, by rw [a1]; exact q3, by rw [a1]; exact q4, by rw [b1]; exact q5⟩)
    · exact Or.inr (Or.inr ⟨s, n, q1, q2, by rw [a1]; exact q3, by rw [a1]; exact q4, by rw [a1]; exact q5, by rw [b1]; exact q6, by rw [b2]; exact q7, fun i hi => by rw [a2, b3 i (by omega)]; exact q8 i hi, fun q i hi => by rw [a2]; exact q9 q i hi⟩)
theorem w_isBody {b : Nat} {M : mm} (hb : b ≤ 50) (h : M.1 82 53 = nI b) (a : Int32) : X11_isBody a M = some (bI (decide (0 ≤ a.toInt ∧ a.toInt < b)), M) := by
  unfold X11_isBody
  rw [w_within, bd_s, bI_ok, gd_t, h, q_i64, q_i64, q_pm1 (by omega), z64_0]
  congr 3
  exact decide_eq_decide.mpr (by omega)
theorem op_keep {P T N : Nat} {O : Option (List stp)} {Ma Mb : mm} (R : RR P T N O Ma Mb) (a1 a2 : Int32) : ∃ v Ma' Mb', X10_keep a1 a2 Ma = some (v, Ma') ∧ X11_keep a1 a2 Mb = some (v, Mb') ∧ RR P T N O Ma' Mb' := by
  obtain ⟨-, -, -, -, -, -, -, -, hA, hS⟩ := id R.1
  obtain ⟨b, r, b1, -, b2, b3, -⟩ := hA
  unfold X10_keep X11_keep X11_keep_b22
  rcases w_shelf a1 Ma Mb with ⟨h1, h2⟩ | ⟨d, hd, rfl, h1, h2⟩
  · rw [h1, h2, bd_s, bd_s, if_pos rfl]
    exact ⟨_, _, _, rfl, rfl, R⟩
  · rw [h1, h2, bd_s, bd_s, i_10, w_isBody b1 b3, bd_s, i_P (bI_0 _), b2, n_inb hd (by omega), n_cl (show d < 2 ^ 31 by omega), gd_t, lt_s_, gd_t, lt_s_]
    unfold opt
    simp only
    have zm : ((-1 : Int32)).toInt = -1 := by decide
    by_cases hm : a2 = -1
    · subst hm
      rw [if_neg (by decide), if_pos (show (-1 : Int32) < nI b by rw [q_lt, n_ti (by omega), zm]; omega), if_pos (by decide), sh_O d hd, gd_t, if_pos rfl]
      unfold X6_holdNothing
      rw [sh_O d hd, gd_t, lt_s_, bd_s]
      refine ⟨_, _, _, rfl, rfl, RR_S R (fun k hk => sA_n _ _ _ _ (by omega)) rfl rfl (fun k hk => by rw [sA_n _ _ _ _ (by omega), sA_n _ _ _ _ (by omega)]) (rS_d (d := d) hS (Or.inl ⟨by rw [sA_s, upd_s], ?_⟩) (by rw [sA_n _ _ _ _ (by omega)]) (fun e he hed => ⟨sA_n _ _ _ _ (by omega), rfl⟩) (fun e he hed => ⟨?_, ?_, fun i hi => rfl⟩))⟩
      all_goals simp (disch := omega) only [sA_s, sA_n, upd_s, upd_n]
    · rw [if_neg hm]
      by_cases hb : 0 ≤ a2.toInt ∧ a2.toInt < b
      · obtain ⟨x, x1, rfl⟩ := q_ex hb.1 hb.2 (by omega)
        rw [decide_eq_true hb, if_neg (c := true = false) (fun q => nomatch q), if_neg (show ¬ nI x < -1 by rw [q_lt, n_ti (by omega), zm]; omega), if_pos (show nI x < nI b by rw [q_lt, n_ti (by omega), n_ti (by omega)]; omega), if_neg (neg0 (by omega)), sh_O d hd, gd_t]
        unfold X6_holdPerson
        rw [sh_O d hd, gd_t, lt_s_, lt_s_, bd_s]
        refine ⟨_, _, _, rfl, rfl, RR_S R (fun k hk => by rw [sA_n _ _ _ _ (by omega), sA_n _ _ _ _ (by omega)]) rfl rfl (fun k hk => by rw [sA_n _ _ _ _ (by omega), sA_n _ _ _ _ (by omega)]) (rS_d (d := d) hS (Or.inr (Or.inl ⟨x, by omega, ?_, ?_, ?_, ?_⟩)) (by rw [sA_n _ _ _ _ (by omega), sA_n _ _ _ _ (by omega)]) (fun e he hed => ⟨by rw [sA_n _ _ _ _ (by omega), sA_n _ _ _ _ (by omega)], rfl⟩) (fun e he hed => ⟨?_, ?_, fun i hi => rfl⟩))⟩
        · rw [sA_n _ _ _ _ (by omega), sA_n _ _ _ _ (by omega), b2, q_lt, n_ti (by omega), n_ti (by omega)]; omega
        all_goals simp (disch := omega) only [sA_s, sA_n, upd_s, upd_n]
      · rw [decide_eq_false hb, if_pos rfl]
        have hz : ¬ a2.toInt = -1 := fun q => hm ((q_eq _ _).mpr (by rw [q, zm]))
        rw [i_P (propext (q_lt a2 (-1))), i_P (propext (q_lt a2 (nI b))), n_ti (by omega), zm]
        by_cases h0 : a2.toInt < -1
        · rw [if_pos h0]
          exact ⟨_, _, _, rfl, rfl, R⟩
        · rw [if_neg h0, if_neg (by omega)]
          exact ⟨_, _, _, rfl, rfl, R⟩
