/-! ===== the calls count and trace; the shelves read ===== -/
theorem op_count {P T N : Nat} {O : Option (List stp)} {Ma Mb : mm} (R : RR P T N O Ma Mb) (a : Int32) : ∃ v Ma' Mb', X10_count a Ma = some (v, Ma') ∧ X11_count a Mb = some (v, Mb') ∧ RR P T N O Ma' Mb' := by
  obtain ⟨hF, -, -, hW, -, -, hC, hTa, hA, -⟩ := id R.1
  obtain ⟨-, -, f3, f4, f5, f6, -⟩ := hF
  obtain ⟨d, al, -, -, c1, -, c2, -⟩ := hC
  obtain ⟨n, -, n1, n2, -⟩ := hTa
  obtain ⟨b, r, -, -, b1, b2, b3, b4, -⟩ := hA
  have g1 := hW.2.2.1
  have g2 := hW.2.2.2
  unfold X10_count X11_count
  rw [f3, f4, f5, f6, c1, c2, n1, n2, b1, b2, b3, b4, g1, g2]
  repeat' split
  all_goals exact ⟨_, _, _, rfl, rfl, R⟩
theorem q_nn {a : Int32} (h : ¬ a < 0) : ∃ i : Nat, i < 2 ^ 31 ∧ a = nI i := by
  rw [q_lt, z32_0] at h
  have := Int32.toInt_lt a
  obtain ⟨i, i1, i2⟩ := q_ex (a := a) (n := 2 ^ 31) (by omega) (by omega) (by omega)
  exact ⟨i, i1, i2⟩
theorem neg0 {k : Nat} (h : k < 2 ^ 31) : ¬ nI k < 0 := by
  rw [q_lt, n_ti h, z32_0]
  omega
theorem op_trace {P T N : Nat} {O : Option (List stp)} {Ma Mb : mm} (R : RR P T N O Ma Mb) (a : Int32) : ∃ v Ma' Mb', X10_trace a Ma = some (v, Ma') ∧ X11_trace a Mb = some (v, Mb') ∧ RR P T N O Ma' Mb' := by
  obtain ⟨-, -, -, -, -, -, -, -, hA, -⟩ := id R.1
  obtain ⟨b, r, -, r1, -, -, b3, b4, -, b6⟩ := hA
  unfold X10_trace X11_trace X0_keptOfTrace
  by_cases h : a < 0
  · rw [if_pos h, if_pos h]
    exact ⟨_, _, _, rfl, rfl, R⟩
  · rw [if_neg h, if_neg h, b3, b4, bd_s]
    obtain ⟨i, i1, rfl⟩ := q_nn h
    have e : (if 24 < nI r then (24 : Int32) else nI r) = nI (if 24 < r then 24 else r) := by
      rw [show (24 : Int32) = nI 24 from rfl, i_ltP (by omega) (by omega)]
      split <;> rfl
    rw [e, show (24 : Int32) = nI 24 from rfl, i_ltP (by omega) (by split <;> omega), i_ltP (by omega) (by omega), i_ltP (by omega) (by omega)]
    by_cases h1 : i < r
    · by_cases h2 : i < 24
      · rw [if_pos (by split <;> omega), if_pos h1, if_pos h2, n_inb h2 (by omega), gd_t, gd_t, n_cl (by omega), b6 i h1 h2]
        exact ⟨_, _, _, rfl, rfl, R⟩
      · rw [if_neg (by split <;> omega), if_pos h1, if_neg h2]
        exact ⟨_, _, _, rfl, rfl, R⟩
    · rw [if_neg (by split <;> omega), if_neg h1]
      exact ⟨_, _, _, rfl, rfl, R⟩
theorem w_isShelf (a : Int32) (M : mm) : X11_isShelf a M = some (bI (decide (0 ≤ a.toInt ∧ a.toInt ≤ 5)), M) := by
  unfold X11_isShelf
  rw [w_within, bd_s, bI_ok, gd_t, q_i64, z64_0, show (5 : Int64).toInt = 5 from by decide]
theorem w_shelf (a : Int32) (Ma Mb : mm) : (X10_shelfAt a Ma = some (none, Ma) ∧ X11_isShelf a Mb = some (0, Mb)) ∨ ∃ d, d < 6 ∧ a = nI d ∧ X10_shelfAt a Ma = some (some (70 + 2 * d), Ma) ∧ X11_isShelf a Mb = some (1, Mb) := by
  rw [w_isShelf]
  unfold X10_shelfAt
  rcases q_rng a 0 5 (by omega) with hc | ⟨d, -, d1, rfl⟩
  · left
    rw [decide_eq_false (p := 0 ≤ a.toInt ∧ a.toInt ≤ 5) (by simpa using hc)]
    refine ⟨?_, rfl⟩
    by_cases h : a < 0
    · rw [if_pos h]
    · rw [if_neg h, if_neg]
      rw [q_lt, z32_0] at h
      rw [q_lt, show (6 : Int32).toInt = 6 from by decide]
      have hc' : ¬ (0 ≤ a.toInt ∧ a.toInt ≤ 5) := by simpa using hc
      omega
  · right
    refine ⟨d, by omega, rfl, ?_, ?_⟩
    · rw [show (0 : Int32) = nI 0 from rfl, show (6 : Int32) = nI 6 from rfl, i_ltP (by omega) (by omega), i_ltP (by omega) (by omega), if_neg (by omega), if_pos (by omega), n_inb (by omega) (by omega), gd_t, n_cl (by omega)]
    · rw [nI_toInt (by omega), decide_eq_true (by omega)]
      rfl
theorem sh_O : ∀ d, d < 6 → isO 6 (70 + 2 * d) = true := by decide
theorem w_isRow {w : Nat} {a : Int32} {M : mm} (hw : isO 6 w = true) : X6_isRowOf w a M = some (if M.1 w 0 = 2 then (if M.1 w 2 = a then 1 else 0) else 0, M) := by
  unfold X6_isRowOf
  rw [hw, gd_t]
  repeat' split
  all_goals rfl
/-- what stands on a shelf -/
theorem sh_c {d : Nat} {Ma Mb : mm} (h : rS1 d Ma Mb) : (Ma.1 (70 + 2 * d) 0 = 0 ∧ Mb.1 113 d = -1) ∨ (∃ b, b < 50 ∧ nI b < Ma.1 66 0 ∧ Ma.1 (70 + 2 * d) 0 = 1 ∧ Ma.1 (70 + 2 * d) 1 = nI b ∧ Mb.1 113 d = nI b) ∨ ∃ s n, s ≤ 4 ∧ n ≤ 60 ∧ Ma.1 (70 + 2 * d) 0 = 2 ∧ Ma.1 (70 + 2 * d) 2 = nI s ∧ Ma.1 (70 + 2 * d) 3 = nI n ∧ Mb.1 113 d = nI (50 + s) ∧ Mb.1 114 d = nI n ∧ (∀ i, i < n → Ma.2.1 (70 + 2 * d + 1) i = Mb.2.1 115 (60 * d + i)) ∧ (s = 0 → ∀ i, i < n → -128 ≤ (Ma.2.1 (70 + 2 * d + 1) i).toInt ∧ (Ma.2.1 (70 + 2 * d + 1) i).toInt ≤ 127) := by
  have e : 70 + 2 * d + 1 = 71 + 2 * d := by omega
  rw [e]
  exact h
/-- a place asked for: refused alike -/
theorem w_refusal {d : Nat} {Ma Mb : mm} (hd : d < 6) (h : rS1 d Ma Mb) (a : Int32) : ∃ v, X6_refusal (70 + 2 * d) a Ma = some (v, Ma) ∧ X11_refusal (nI d) a Mb = some (v, Mb) ∧ (v = 0 → ∃ s n i, s ≤ 4 ∧ n ≤ 60 ∧ i < n ∧ a = nI i ∧ Ma.1 (70 + 2 * d) 0 = 2 ∧ Ma.1 (70 + 2 * d) 2 = nI s ∧ Ma.1 (70 + 2 * d) 3 = nI n ∧ Mb.1 113 d = nI (50 + s) ∧ Mb.1 114 d = nI n ∧ (∀ i, i < n → Ma.2.1 (70 + 2 * d + 1) i = Mb.2.1 115 (60 * d + i)) ∧ (s = 0 → ∀ i, i < n → -128 ≤ (Ma.2.1 (70 + 2 * d + 1) i).toInt ∧ (Ma.2.1 (70 + 2 * d + 1) i).toInt ≤ 127)) := by
  unfold X6_refusal X11_refusal
  rw [sh_O d hd, gd_t, w_isShelf, nI_toInt (by omega), decide_eq_true (by omega), bd_s, show bI true = 1 from rfl, i_10, n_inb hd (by omega), gd_t, n_cl (by omega)]
  rcases sh_c h with ⟨h1, h2⟩ | ⟨b, b1, -, h1, -, h2⟩ | ⟨s, n, s1, n1, h1, h2, h3, h4, h5, h6, h7⟩
  · rw [h1, h2, if_pos rfl, if_pos (by decide)]
    exact ⟨_, rfl, rfl, fun q => absurd q (by decide)⟩
  · rw [h1, h2, if_neg (by decide), if_neg (by decide), show (0 : Int32) = nI 0 from rfl, show (50 : Int32) = nI 50 from rfl, i_ltP (by omega) (by omega), i_ltP (by omega) (by omega), if_neg (by omega), if_pos b1, gd_t]
    exact ⟨_, rfl, rfl, fun q => absurd q (by decide)⟩
  · rw [h1, h3, h4, h5, if_neg (by decide), if_pos rfl, if_neg (neg0 (show 50 + s < 2 ^ 31 by omega)), gd_t, show (50 : Int32) = nI 50 from rfl, i_ltP (by omega) (by omega), if_neg (show ¬ 50 + s < 50 by omega)]
    by_cases ha : a < 0
    · rw [if_pos ha, if_pos ha]
      exact ⟨_, rfl, rfl, fun q => absurd q (by decide)⟩
    · rw [if_neg ha, if_neg ha, gd_t]
      obtain ⟨i, i1, rfl⟩ := q_nn ha
      rw [i_ltP (by omega) (by omega), i_ltP (by omega) (by omega)]
      by_cases hi : i < n
      · rw [if_pos hi, if_pos hi]
        exact ⟨_, rfl, rfl, fun _ => ⟨s, n, i, s1, n1, hi, rfl, rfl, h2, rfl, rfl, rfl, h6, h7⟩⟩
      · rw [if_neg hi, if_neg hi]
        exact ⟨_, rfl, rfl, fun q => absurd q (by decide)⟩
