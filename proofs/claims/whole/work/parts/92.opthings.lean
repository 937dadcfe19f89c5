theorem op_things {P T N : Nat} {O : Option (List stp)} {Ma Mb : mm} (R : RR P T N O Ma Mb) (a1 a2 a3 : Int32) : ∃ v Ma' Mb' T', X10_things a1 a2 a3 Ma = some (v, Ma') ∧ X11_things a1 a2 a3 Mb = some (v, Mb') ∧ RR P T' N O Ma' Mb' := by
  obtain ⟨-, -, -, -, -, -, -, -, -, hS⟩ := id R.1
  unfold X10_things X11_things
  rcases w_shelf a1 Ma Mb with ⟨h1, h2⟩ | ⟨d, hd, rfl, h1, h2⟩
  · rw [h1, h2, bd_s, bd_s, if_pos rfl]
    exact ⟨_, _, _, T, rfl, rfl, R⟩
  · rw [h1, h2, bd_s, bd_s, i_10, w_within, bd_s, i_P (bI_0 _), q_i64, z64_1, show (6 : Int64).toInt = 6 from by decide]
    unfold opt
    simp only
    rcases q_rng a3 1 6 (by omega) with hc | ⟨m, m1, m6, rfl⟩
    · have hc' : ¬ (1 ≤ a3.toInt ∧ a3.toInt ≤ 6) := by simpa using hc
      rw [decide_eq_false hc', if_pos (c := false = false) rfl, i_P (propext (q_lt a3 1)), i_P (propext (q_lt 6 a3)), z32_1, z32_6]
      by_cases h0 : a3.toInt < 1
      · rw [if_pos h0]
        exact ⟨_, _, _, T, rfl, rfl, R⟩
      · rw [if_neg h0, if_pos (by omega)]
        exact ⟨_, _, _, T, rfl, rfl, R⟩
    · rw [nI_toInt (by omega), decide_eq_true (by omega), if_neg (c := true = false) (fun q => nomatch q), if_neg (show ¬ nI m < 1 by rw [q_lt, n_ti (by omega), z32_1]; omega), if_neg (show ¬ 6 < nI m by rw [q_lt, n_ti (by omega), z32_6]; omega), sh_O d hd, gd_t, n_inb hd (by omega), gd_t, n_cl (show d < 2 ^ 31 by omega), gd_t, w_isRow (sh_O d hd), bd_s]
      have z66 : X11_things_b66 (nI d) a2 (nI m) 0 Mb = some (0, Mb) := by
        unfold X11_things_b66 X11_things_b67
        exact th_0 (k := 9999)
      unfold X11_things_b44
      rw [n_inb hd (by omega), gd_t, n_cl (show d < 2 ^ 31 by omega), z66]
      rcases sh_c (hS d hd) with ⟨g1, g2⟩ | ⟨b, b1, b2, g1, g2, g3⟩ | ⟨s, n, s1, n1, g1, g2, g3, g4, g5, g6, g7⟩
      · rw [g1, g2, if_pos rfl, if_pos (show (-1 : Int32) < 0 by decide), if_neg (show ¬ (-1 : Int32) = 50 by decide)]
        exact ⟨_, _, _, T, rfl, rfl, R⟩
      · rw [g1, g3, if_neg (show ¬ (1 : Int32) = 0 by decide), if_neg (show ¬ (1 : Int32) = 2 by decide), if_pos rfl, if_neg (neg0 (show b < 2 ^ 31 by omega)), if_neg (show ¬ nI b = 50 by rw [q_eq, n_ti (by omega), z32_50]; omega)]
        exact ⟨_, _, _, T, rfl, rfl, R⟩
      · rw [g1, g2, g4, if_neg (show ¬ (2 : Int32) = 0 by decide), if_pos (show (2 : Int32) = 2 from rfl), if_neg (neg0 (show 50 + s < 2 ^ 31 by omega))]
        by_cases hs : s = 0
        · subst hs
          rw [if_pos (show nI 0 = 0 from rfl), i_10, if_pos (show nI (50 + 0) = 50 from rfl), if_pos (show nI (50 + 0) = 50 from rfl)]
          by_cases ha : a2 < 0
          · rw [if_pos ha, if_pos ha]
            exact ⟨_, _, _, T, rfl, rfl, R⟩
          · rw [if_neg ha, if_neg ha]
            obtain ⟨p, p1, rfl⟩ := q_nn ha
            unfold X11_things_b67
            by_cases hp : p ≤ 57
            · exact th_L (a1 := nI d) (a2 := nI p) hd n1 hp m6 10000 0 T Ma Mb (by omega) (by omega) R g3 g5 g6 (g7 rfl)
            · have eA : X10_things_L59 (nI d) (nI p) (nI m) (fun x5 M => some (x5, M)) (9999 + 1) (70 + 2 * d) (nI 0) (nI p) Ma = some (nI 0, Ma) := by
                rw [X10_things_L59, i_ltP (by omega) (by omega), if_pos (by omega), sh_O d hd, gd_t, g3, if_pos]
                rw [q_lt, show (3 : Int32) = nI 3 from rfl, t_sub (by omega) (by omega), n_ti p1]
                omega
              have eB : X11_things_L69 (nI d) (nI p) (nI m) (9998 + 1 + 1) (nI 0) 1 Mb = some (nI 0, Mb) := by
                rw [X11_things_L69, i_10, i_ltP (by omega) (by omega), if_pos (by omega), n_inb hd (by omega), gd_t, n_cl (show d < 2 ^ 31 by omega), g5, if_pos]
                · unfold X11_things_b110 X11_things_b111
                  rw [if_pos rfl]
                  unfold X11_things_b167 X11_things_b168
                  rw [if_pos rfl]
                  unfold X11_things_b210
                  exact th_0
                · rw [q_lt, show (3 : Int32) = nI 3 from rfl, n_mul, t_sub3 (by omega) (by omega) (by omega), n_ti p1]
                  omega
              exact ⟨_, _, _, T, eA, eB, R⟩
        · rw [if_neg (show ¬ nI s = 0 by rw [q_eq, n_ti (by omega), z32_0]; omega), if_pos rfl, if_neg (show ¬ nI (50 + s) = 50 by rw [q_eq, n_ti (by omega), z32_50]; omega)]
          exact ⟨_, _, _, T, rfl, rfl, R⟩
