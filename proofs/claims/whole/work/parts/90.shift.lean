/-! ===== the call shift ===== -/
theorem t_sub {a b : Nat} (ha : a < 2 ^ 31) (hb : b < 2 ^ 31) : (nI a - nI b).toInt = (a : Int) - b := by
  rw [Int32.toInt_sub, n_ti ha, n_ti hb, Int.bmod_def]
  split <;> omega
theorem sf_1 {d p c : Nat} {a3 a4 : Int32} (hd : d < 6) (hp : p + c ≤ 60) (K : mm → Option (Int32 × mm)) : ∀ k i (M : mm), i ≤ c → c - i < k → ∃ M', X11_shift_L113 (nI d) (nI p) a3 a4 (nI c) K k (nI i) M = K M' ∧ M'.1 = M.1 ∧ M'.2.2 = M.2.2 ∧ (∀ j, j ≠ 116 → M'.2.1 j = M.2.1 j) ∧ (∀ j, j < i → M'.2.1 116 j = M.2.1 116 j) ∧ ∀ j, i ≤ j → j < c → M'.2.1 116 j = M.2.1 115 (60 * d + p + j) := by
  intro k
  induction k with
  | zero => intro i M _ h; omega
  | succ k ih =>
    intro i M hi hk
    rw [X11_shift_L113, i_ltP (by omega) (by omega)]
    by_cases h : i < c
    · rw [if_pos h, show (60 : Int32) = nI 60 from rfl, n_mul, n_add, n_add, n_inb (show 60 * d + p + i < 360 by omega) (by omega), gd_t, n_inb (show i < 60 by omega) (by omega), gd_t, lt_s_, n_cl (by omega), n_cl (by omega), nI_1]
      obtain ⟨M', g1, g2, g3, g4, g5, g6⟩ := ih (i + 1) (sL M 116 (vp_updL (M.2.1 116) i (M.2.1 115 (60 * d + p + i)))) (by omega) (by omega)
      refine ⟨M', g1, g2, g3, fun j hj => by rw [g4 j hj, sL_n _ _ _ _ hj], fun j hj => by rw [g5 j (by omega), sL_s, updL_n _ _ _ _ (by omega)], fun j j1 j2 => ?_⟩
      by_cases hji : j = i
      · rw [hji, g5 i (by omega), sL_s, updL_s]
      · rw [g6 j (by omega) j2, sL_n _ _ _ _ (by omega)]
    · rw [if_neg h]
      exact ⟨M, rfl, rfl, rfl, fun _ _ => rfl, fun _ _ => rfl, fun j h1 h2 => by omega⟩
theorem sf_2 {d p c : Nat} {a1 a2 : Int32} (hd : d < 6) (hp : p + c ≤ 60) : ∀ k i (M : mm), i ≤ c → c - i < k → ∃ M', X11_shift_L150 a1 a2 (nI d) (nI p) (nI c) k (nI i) M = some (nI c, M') ∧ M'.1 = M.1 ∧ M'.2.2 = M.2.2 ∧ (∀ j, (j < 60 * d + p + i ∨ 60 * d + p + c ≤ j) → M'.2.1 115 j = M.2.1 115 j) ∧ ∀ j, i ≤ j → j < c → M'.2.1 115 (60 * d + p + j) = M.2.1 116 j := by
  intro k
  induction k with
  | zero => intro i M _ h; omega
  | succ k ih =>
    intro i M hi hk
    rw [X11_shift_L150, i_ltP (by omega) (by omega)]
    by_cases h : i < c
    · rw [if_pos h, show (60 : Int32) = nI 60 from rfl, n_mul, n_add, n_add, n_inb (show i < 60 by omega) (by omega), gd_t, n_inb (show 60 * d + p + i < 360 by omega) (by omega), gd_t, lt_s_, n_cl (by omega), n_cl (by omega), nI_1]
      obtain ⟨M', g1, g2, g3, g5, g6⟩ := ih (i + 1) (sL M 115 (vp_updL (M.2.1 115) (60 * d + p + i) (M.2.1 116 i))) (by omega) (by omega)
      refine ⟨M', g1, g2, g3, fun j hj => by rw [g5 j (by omega), sL_s, updL_n _ _ _ _ (by omega)], fun j j1 j2 => ?_⟩
      by_cases hji : j = i
      · rw [hji, g5 (60 * d + p + i) (by omega), sL_s, updL_s]
      · rw [g6 j (by omega) j2, sL_n _ _ _ _ (by omega)]
    · rw [if_neg h]
      obtain rfl : i = c := by omega
      exact ⟨M, rfl, rfl, rfl, fun _ _ => rfl, fun j h1 h2 => by omega⟩
theorem w_places {w n : Nat} {M : mm} (hw : isO 6 w = true) (hn : n ≤ 60) (h : M.1 w 3 = nI n) (a b : Int32) : X6_hasPlaces w a b M = some (bI (decide (0 ≤ b.toInt ∧ 0 ≤ a.toInt ∧ a.toInt + b.toInt ≤ n)), M) := by
  unfold X6_hasPlaces
  rw [hw, gd_t, h]
  by_cases hb : b < 0
  · have hb' := hb
    rw [q_lt, z32_0] at hb'
    rw [if_pos hb, decide_eq_false (by omega)]
    rfl
  · rw [if_neg hb]
    obtain ⟨c, c1, rfl⟩ := q_nn hb
    rw [i_ltP (by omega) c1]
    by_cases hc : n < c
    · rw [if_pos hc, n_ti c1, decide_eq_false (by omega)]
      rfl
    · rw [if_neg hc]
      by_cases ha : a < 0
      · have ha' := ha
        rw [q_lt, z32_0] at ha'
        rw [if_pos ha, decide_eq_false (by omega)]
        rfl
      · rw [if_neg ha]
        obtain ⟨p, p1, rfl⟩ := q_nn ha
        rw [n_sub (by omega), i_ltP (by omega) p1, n_ti c1, n_ti p1]
        by_cases hp : n - c < p
        · rw [if_pos hp, decide_eq_false (by omega)]
          rfl
        · rw [if_neg hp, decide_eq_true (by omega)]
          rfl
theorem n_cpok3 {p q c : Nat} (hp : p + c ≤ 60) (hq : q + c ≤ 60) : cpok (nI p) (nI q) (nI c) 60 60 = true := by
  unfold cpok
  rw [n_cl (by omega), n_cl (by omega), n_cl (by omega)]
  have h1 : ¬ nI p < 0 := neg0 (by omega)
  have h2 : ¬ nI q < 0 := neg0 (by omega)
  have h3 : ¬ nI c < 0 := neg0 (by omega)
  simp [h1, h2, h3]
  omega
theorem op_shift {P T N : Nat} {O : Option (List stp)} {Ma Mb : mm} (R : RR P T N O Ma Mb) (a1 a2 a3 a4 a5 : Int32) : ∃ v Ma' Mb', X10_shift a1 a2 a3 a4 a5 Ma = some (v, Ma') ∧ X11_shift a1 a2 a3 a4 a5 Mb = some (v, Mb') ∧ RR P T N O Ma' Mb' := by
  obtain ⟨-, -, -, -, -, -, -, -, -, hS⟩ := id R.1
  unfold X10_shift X11_shift
  rcases w_shelf a1 Ma Mb with ⟨h1, h2⟩ | ⟨d, hd, rfl, h1, h2⟩
  · rw [h1, h2, bd_s, bd_s, if_pos rfl]
    rcases w_shelf a3 Ma Mb with ⟨k1, k2⟩ | ⟨e, he, rfl, k1, k2⟩
    all_goals
      rw [k1, bd_s]
      exact ⟨_, _, _, rfl, rfl, R⟩
  · rw [h1, h2, bd_s, bd_s, i_10]
    rcases w_shelf a3 Ma Mb with ⟨k1, k2⟩ | ⟨e, he, rfl, k1, k2⟩
    · rw [k1, k2, bd_s, bd_s, if_pos rfl]
      exact ⟨_, _, _, rfl, rfl, R⟩
    · rw [k1, k2, bd_s, bd_s, i_10]
      unfold opt
      simp only
      rw [sh_O d hd, gd_t, sh_O e he, gd_t, n_inb hd (by omega), gd_t, n_cl (show d < 2 ^ 31 by omega), n_inb he (by omega), gd_t, n_cl (show e < 2 ^ 31 by omega), gd_t, gd_t, gd_t, gd_t, gd_t, w_isRow (sh_O e he), bd_s]
      rcases sh_c (hS d hd) with ⟨g1, g2⟩ | ⟨b, b1, b2, g1, g2, g3⟩ | ⟨s, n, s1, n1, g1, g2, g3, g4, g5, g6, g7⟩
      · rw [g1, g2, if_pos rfl, if_pos (by decide)]
        exact ⟨_, _, _, rfl, rfl, R⟩
      · rw [g1, g3, if_neg (show ¬ (1 : Int32) = 0 by decide), if_neg (neg0 (show b < 2 ^ 31 by omega)), if_neg (show ¬ (1 : Int32) = 2 by decide), if_pos (show nI b < 50 by rw [q_lt, n_ti (by omega), z32_50]; omega)]
        rcases sh_c (hS e he) with ⟨l1, l2⟩ | ⟨b', b1', b2', l1, l2, l3⟩ | ⟨s', n', s1', n1', l1, l2, l3, l4, l5, l6, l7⟩
        · rw [l1, l2, if_pos rfl, if_pos (by decide)]
          exact ⟨_, _, _, rfl, rfl, R⟩
        · rw [l1, l3, if_neg (show ¬ (1 : Int32) = 0 by decide), if_neg (neg0 (show b' < 2 ^ 31 by omega))]
          exact ⟨_, _, _, rfl, rfl, R⟩
        · rw [l1, l4, if_neg (show ¬ (2 : Int32) = 0 by decide), if_neg (neg0 (show 50 + s' < 2 ^ 31 by omega))]
          exact ⟨_, _, _, rfl, rfl, R⟩
      · rw [g1, g4, if_neg (show ¬ (2 : Int32) = 0 by decide), if_neg (neg0 (show 50 + s < 2 ^ 31 by omega)), if_neg (show ¬ nI (50 + s) < 50 by rw [q_lt, n_ti (by omega), z32_50]; omega), if_pos rfl]
        rcases sh_c (hS e he) with ⟨l1, l2⟩ | ⟨b', b1', b2', l1, l2, l3⟩ | ⟨s', n', s1', n1', l1, l2, l3, l4, l5, l6, l7⟩
        · rw [l1, l2, if_pos rfl, if_pos (by decide)]
          exact ⟨_, _, _, rfl, rfl, R⟩
        · rw [l1, l3, if_neg (show ¬ (1 : Int32) = 0 by decide), if_neg (neg0 (show b' < 2 ^ 31 by omega)), if_neg (show ¬ (1 : Int32) = 2 by decide), if_pos rfl, if_neg (show ¬ nI (50 + s) = nI b' from fun q => by rw [n_eq (by omega) (by omega)] at q; omega)]
          exact ⟨_, _, _, rfl, rfl, R⟩
        · rw [l1, l4, if_neg (show ¬ (2 : Int32) = 0 by decide), if_neg (neg0 (show 50 + s' < 2 ^ 31 by omega)), if_pos rfl, g2, l2]
          by_cases hss : s' = s
          · subst hss
            rw [if_pos rfl, i_10, if_pos rfl, w_places (sh_O d hd) n1 g3, bd_s, w_places (sh_O e he) n1' l3, bd_s, i_P (bI_0 _), i_P (bI_0 _), g5, l5]
            by_cases c5 : a5 < 0
            · have c5' := c5
              rw [q_lt, z32_0] at c5'
              rw [if_pos c5, decide_eq_false (p := 0 ≤ a5.toInt ∧ 0 ≤ a2.toInt ∧ a2.toInt + a5.toInt ≤ n) (by omega), if_pos rfl]
              exact ⟨_, _, _, rfl, rfl, R⟩
            · obtain ⟨c, c1, rfl⟩ := q_nn c5
              rw [if_neg c5]
              by_cases c2 : a2 < 0
              · have c2' := c2
                rw [q_lt, z32_0] at c2'
                rw [if_pos c2, decide_eq_false (p := 0 ≤ (nI c).toInt ∧ 0 ≤ a2.toInt ∧ a2.toInt + (nI c).toInt ≤ n) (by omega), if_pos rfl]
                exact ⟨_, _, _, rfl, rfl, R⟩
              · obtain ⟨p, p1, rfl⟩ := q_nn c2
                rw [if_neg c2]
                by_cases c4 : a4 < 0
                · have c4' := c4
                  rw [q_lt, z32_0] at c4'
                  rw [if_pos c4, decide_eq_false (p := 0 ≤ (nI c).toInt ∧ 0 ≤ a4.toInt ∧ a4.toInt + (nI c).toInt ≤ n') (by omega), if_pos (c := false = false) rfl]
                  split <;> exact ⟨_, _, _, rfl, rfl, R⟩
                · obtain ⟨q, q1, rfl⟩ := q_nn c4
                  rw [if_neg c4, n_ti c1, n_ti p1, n_ti q1, i_P (propext (q_lt (nI n - nI c) (nI p))), i_P (propext (q_lt (nI n' - nI c) (nI q))), t_sub (by omega) c1, t_sub (by omega) c1, n_ti p1, n_ti q1]
                  by_cases e1 : (n : Int) - c < p
                  · rw [if_pos e1, decide_eq_false (p := (0 : Int) ≤ c ∧ (0 : Int) ≤ p ∧ (p : Int) + c ≤ n) (by omega), if_pos rfl]
                    exact ⟨_, _, _, rfl, rfl, R⟩
                  · rw [if_neg e1, decide_eq_true (p := (0 : Int) ≤ c ∧ (0 : Int) ≤ p ∧ (p : Int) + c ≤ n) (by omega), if_neg (c := true = false) (fun q => nomatch q)]
                    by_cases e2 : (n' : Int) - c < q
                    · rw [if_pos e2, decide_eq_false (p := (0 : Int) ≤ c ∧ (0 : Int) ≤ q ∧ (q : Int) + c ≤ n') (by omega), if_pos rfl]
                      exact ⟨_, _, _, rfl, rfl, R⟩
                    · rw [if_neg e2, decide_eq_true (p := (0 : Int) ≤ c ∧ (0 : Int) ≤ q ∧ (q : Int) + c ≤ n') (by omega), if_neg (c := true = false) (fun q => nomatch q), n_cpok3 (by omega) (by omega), gd_t, lt_s_, n_cl p1, n_cl q1, n_cl c1]
                      obtain ⟨M1, u1, u2, u3, u4, -, u6⟩ := sf_1 (d := d) (p := p) (c := c) (a3 := nI e) (a4 := nI q) hd (by omega) (fun M => X11_shift_L150 (nI d) (nI p) (nI e) (nI q) (nI c) 10000 0 M) 10000 0 Mb (by omega) (by omega)
                      obtain ⟨M2, v1, v2, v3, v4, v6⟩ := sf_2 (d := e) (p := q) (c := c) (a1 := nI d) (a2 := nI p) he (by omega) 10000 0 M1 (by omega) (by omega)
                      rw [show nI 0 = (0 : Int32) from rfl] at u1 v1
                      rw [u1, v1]
                      refine ⟨_, _, _, rfl, rfl, RR_S R (fun _ _ => rfl) (sL_n _ _ _ _ (by omega)) rfl (fun k hk => by rw [v2, u2]) (rS_d (d := e) hS (Or.inr (Or.inr ⟨s', n', s1', n1', l1, l2, l3, by rw [v2, u2]; exact l4, by rw [v2, u2]; exact l5, fun i hi => ?_, fun hz i hi => ?_⟩)) rfl (fun j hj hje => ⟨rfl, sL_n _ _ _ _ (by omega)⟩) (fun j hj hje => ⟨by rw [v2, u2], by rw [v2, u2], fun i hi => by rw [v4 _ (by omega), u4 115 (by omega)]⟩))⟩
                      · rw [show 71 + 2 * e = 70 + 2 * e + 1 from by omega, sL_s]
                        by_cases hi2 : q ≤ i ∧ i < q + c
                        · rw [pk_cpy_in hi2.1 hi2.2, show 60 * e + i = 60 * e + q + (i - q) from by omega, v6 _ (by omega) (by omega), u6 _ (by omega) (by omega), show 60 * d + p + (i - q) = 60 * d + (p + (i - q)) from by omega]
                          exact g6 _ (by omega)
                        · rw [pk_cpy_out (by omega), v4 _ (by omega), u4 115 (by omega)]
                          exact l6 i hi
                      · rw [show 71 + 2 * e = 70 + 2 * e + 1 from by omega, sL_s]
                        by_cases hi2 : q ≤ i ∧ i < q + c
                        · rw [pk_cpy_in hi2.1 hi2.2]
                          exact g7 hz _ (by omega)
                        · rw [pk_cpy_out (by omega)]
                          exact l7 hz i hi
          · rw [if_neg (show ¬ nI s' = nI s from fun q => by rw [n_eq (by omega) (by omega)] at q; omega), if_pos rfl, if_neg (show ¬ nI (50 + s) = nI (50 + s') from fun q => by rw [n_eq (by omega) (by omega)] at q; omega)]
            exact ⟨_, _, _, rfl, rfl, R⟩
