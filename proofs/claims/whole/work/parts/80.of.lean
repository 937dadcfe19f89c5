/-! ===== the call of ===== -/
theorem w_ofP {P T N x y : Nat} {Ma Mb : mm} (R : RC P T N Ma Mb) (hx : x < P) (hy : y ≤ 5) : ∃ v, X10_ofPerson (nI x) (nI y) Ma = some (v, Ma) ∧ X11_ofPerson (nI x) (nI y) Mb = some (v, Mb) := by
  obtain ⟨hF, hP, hT, hW, -⟩ := R
  have f1 := hF.1
  obtain ⟨⟨x0, -, -, p1, p2⟩, ⟨x1, -, p3, p4⟩, ⟨x2, -, p5, p6⟩⟩ := hP.2 x hx
  obtain ⟨g1, g2, g3⟩ := hW.2.1 x (by omega)
  unfold X10_ofPerson X11_ofPerson
  rw [show (0 : Int32) = nI 0 from rfl, show (1 : Int32) = nI 1 from rfl, show (2 : Int32) = nI 2 from rfl, show (3 : Int32) = nI 3 from rfl, show (4 : Int32) = nI 4 from rfl, show (5 : Int32) = nI 5 from rfl, n_mul, n_add]
  match y, hy with
  | 0, _ =>
    rw [if_pos rfl, if_pos (by decide), n_inb (by omega) (by omega), n_inb (by omega) (by omega), gd_t, gd_t, n_cl (by omega), n_cl (by omega), p1, Nat.mul_zero, Nat.zero_add, p2]
    exact ⟨_, rfl, rfl⟩
  | 1, _ =>
    rw [if_neg (by decide), if_pos rfl, if_pos (by decide), n_inb (by omega) (by omega), n_inb (by omega) (by omega), gd_t, gd_t, n_cl (by omega), n_cl (by omega), p3, Nat.mul_one, p4]
    exact ⟨_, rfl, rfl⟩
  | 2, _ =>
    rw [if_neg (by decide), if_neg (by decide), if_pos rfl, if_pos (by decide), n_inb (by omega) (by omega), n_inb (by omega) (by omega), gd_t, gd_t, n_cl (by omega), n_cl (by omega), p5, show 5 * 2 + x = 10 + x from rfl, p6]
    exact ⟨_, rfl, rfl⟩
  | 3, _ =>
    rw [if_neg (by decide), if_neg (by decide), if_neg (by decide), if_pos rfl, if_neg (by decide), if_pos rfl, n_inb (by omega) (by omega), gd_t, gd_t, n_cl (by omega), g1]
    exact ⟨_, rfl, rfl⟩
  | 4, _ =>
    rw [if_neg (by decide), if_neg (by decide), if_neg (by decide), if_neg (by decide), if_pos rfl, if_neg (by decide), if_neg (by decide), if_pos rfl, n_inb (by omega) (by omega), gd_t, gd_t, n_cl (by omega), g2]
    exact ⟨_, rfl, rfl⟩
  | 5, _ =>
    rw [if_neg (by decide), if_neg (by decide), if_neg (by decide), if_neg (by decide), if_neg (by decide), if_neg (by decide), if_neg (by decide), if_neg (by decide), n_inb (by omega) (by omega), gd_t, gd_t, n_cl (by omega), g3]
    exact ⟨_, rfl, rfl⟩
  | k + 6, h => exact absurd h (by omega)
theorem w_ofT {P T N x y : Nat} {O : Option (List stp)} {Ma Mb : mm} (R : RR P T N O Ma Mb) (hx : x < T) (hy : 10 ≤ y) (hy2 : y ≤ 19) : ∃ v Ma' Mb', X10_ofThing (nI x) (nI y) Ma = some (v, Ma') ∧ X11_ofThing (nI x) (nI y) Mb = some (v, Mb') ∧ RR P T N O Ma' Mb' := by
  obtain ⟨⟨hF, hP, hT, hW, -⟩, hL, hB, hM⟩ := id R
  have f1 := hF.1
  have f2 := hF.2.1
  obtain ⟨⟨x0, -, p1, p2⟩, ⟨x1, -, p3, p4⟩, ⟨x2, -, p5, p6⟩, ⟨x3, -, p7, p8⟩⟩ := hT x hx
  obtain ⟨⟨s, s1, s2, s3, s4⟩, ⟨l1, l2⟩, ⟨k1, k2⟩, ⟨a, a1, a2, a3⟩, ⟨m, m1, m2, m3, -⟩⟩ := hW.1 x hx
  unfold X10_ofThing X11_ofThing
  rw [show (15 : Int32) = nI 15 from rfl, show (21 : Int32) = nI 21 from rfl, show (27 : Int32) = nI 27 from rfl, n_add, n_add, n_add, n_inb (show x < 6 by omega) (by omega), n_inb (show 15 + x < 33 by omega) (by omega), n_inb (show 21 + x < 33 by omega) (by omega), n_inb (show 27 + x < 33 by omega) (by omega), n_cl (show x < 2 ^ 31 by omega), n_cl (show 15 + x < 2 ^ 31 by omega), n_cl (show 21 + x < 2 ^ 31 by omega), n_cl (show 27 + x < 2 ^ 31 by omega), show (10 : Int32) = nI 10 from rfl, show (11 : Int32) = nI 11 from rfl, show (12 : Int32) = nI 12 from rfl, show (13 : Int32) = nI 13 from rfl, show (14 : Int32) = nI 14 from rfl, show (16 : Int32) = nI 16 from rfl, show (17 : Int32) = nI 17 from rfl, show (18 : Int32) = nI 18 from rfl]
  have ne : ∀ k, k < 20 → ¬ y = k → ¬ nI y = nI k := fun k hk h q => h ((n_eq (by omega) (by omega)).mp q)
  by_cases c10 : y = 10
  · subst c10; rw [if_pos rfl, if_pos rfl, gd_t, gd_t, p1, p2]; exact ⟨_, _, _, rfl, rfl, R⟩
  rw [if_neg (ne 10 (by omega) c10), if_neg (ne 10 (by omega) c10)]
  by_cases c11 : y = 11
  · subst c11; rw [if_pos rfl, if_pos rfl, gd_t, gd_t, p3, p4]; exact ⟨_, _, _, rfl, rfl, R⟩
  rw [if_neg (ne 11 (by omega) c11), if_neg (ne 11 (by omega) c11)]
  by_cases c12 : y = 12
  · subst c12; rw [if_pos rfl, if_pos rfl, gd_t, gd_t, p5, p6]; exact ⟨_, _, _, rfl, rfl, R⟩
  rw [if_neg (ne 12 (by omega) c12), if_neg (ne 12 (by omega) c12)]
  by_cases c13 : y = 13
  · subst c13; rw [if_pos rfl, if_pos rfl, gd_t, gd_t, s3, s4]; exact ⟨_, _, _, rfl, rfl, R⟩
  rw [if_neg (ne 13 (by omega) c13), if_neg (ne 13 (by omega) c13)]
  by_cases c14 : y = 14
  · subst c14; rw [if_pos rfl, if_pos rfl, gd_t, gd_t, p7, p8]; exact ⟨_, _, _, rfl, rfl, R⟩
  rw [if_neg (ne 14 (by omega) c14), if_neg (ne 14 (by omega) c14)]
  by_cases c15 : y = 15
  · subst c15; rw [if_pos rfl, if_pos rfl, gd_t, gd_t, l1]; exact ⟨_, _, _, rfl, rfl, R⟩
  rw [if_neg (ne 15 (by omega) c15), if_neg (ne 15 (by omega) c15)]
  by_cases c16 : y = 16
  · subst c16; rw [if_pos rfl, if_pos rfl, gd_t, gd_t, k1]; exact ⟨_, _, _, rfl, rfl, R⟩
  rw [if_neg (ne 16 (by omega) c16), if_neg (ne 16 (by omega) c16)]
  by_cases c17 : y = 17
  · subst c17; rw [if_pos rfl, if_pos rfl, gd_t, gd_t, a2, a3]; exact ⟨_, _, _, rfl, rfl, R⟩
  rw [if_neg (ne 17 (by omega) c17), if_neg (ne 17 (by omega) c17)]
  by_cases c18 : y = 18
  · subst c18; rw [if_pos rfl, if_pos rfl, gd_t, gd_t, m2, m3]; exact ⟨_, _, _, rfl, rfl, R⟩
  rw [if_neg (ne 18 (by omega) c18), if_neg (ne 18 (by omega) c18)]
  rw [gd_t, gd_t, gd_t, gd_t, gd_t, gd_t]
  unfold X10_ofThing_b184 X11_ofThing_b152
  have hl : ∃ l, l ≤ 1 ∧ (if Ma.1 (28 + 2) x = -2 then (0 : Int32) else 1) = nI l ∧ (if Mb.1 92 x < 0 then (0 : Int32) else 1) = nI l := by
    rcases who_c f1 l2 with ⟨q1, q2⟩ | ⟨p, q1, q2, q3, q4, -⟩
    · exact ⟨0, by omega, by rw [if_pos q1]; rfl, by rw [← l1, if_pos q2]; rfl⟩
    · exact ⟨1, by omega, by rw [if_neg q3]; rfl, by rw [← l1, if_neg q4]; rfl⟩
  obtain ⟨l, h1, h2, h3⟩ := hl
  obtain ⟨Ma', r1, r2, r3⟩ := w_number hL.1 hL.2.1 (show x < 6 by omega) s1 s2 a1 h1
  obtain ⟨Mb', u1, u2⟩ := w_numberOf hB s x a l
  rw [h2, h3, s3, s4, a2, a3, r1, u1]
  exact ⟨_, Ma', Mb', rfl, rfl, RR_U (RR_X R r2 r3) ⟨by rw [u2.1], fun k a b _ _ _ => u2.2.1 k a b, fun k _ _ _ => by rw [u2.1], fun j hj => u2.2.2 j (by omega)⟩⟩
theorem op_of {P T N : Nat} {O : Option (List stp)} {Ma Mb : mm} (R : RR P T N O Ma Mb) (a1 a2 : Int32) : ∃ v Ma' Mb', X10_of a1 a2 Ma = some (v, Ma') ∧ X11_of a1 a2 Mb = some (v, Mb') ∧ RR P T N O Ma' Mb' := by
  obtain ⟨f1, f2, f3, f4, f5, f6, -⟩ := id R.1.1
  have z5 : (5 : Int64).toInt = 5 := by decide
  have z10 : (10 : Int64).toInt = 10 := by decide
  have z19 : (19 : Int64).toInt = 19 := by decide
  unfold X11_of
  rw [w_within, bd_s, q_i64, z64_0, z5, i_P (bI_0 _)]
  rcases q_rng a2 0 5 (by omega) with hc | ⟨y, y0, y1, rfl⟩
  · have hb : X10_of a1 a2 Ma = X10_of_b32 a1 a2 Ma := by
      unfold X10_of
      by_cases h0 : a2 < 0
      · rw [if_pos h0]
      · have h5 : 5 < a2 := by
          rw [q_lt, z32_0] at h0
          rw [q_lt, show (5 : Int32).toInt = 5 from by decide]
          omega
        rw [if_neg h0, if_pos h5]
    rw [hb, decide_eq_false (p := 0 ≤ a2.toInt ∧ a2.toInt ≤ 5) (by simpa using hc), if_pos (c := false = false) rfl, w_within, bd_s, q_i64, z10, z19, i_P (bI_0 _)]
    unfold X10_of_b32
    rw [i_P (propext (q_lt a2 10)), i_P (propext (q_lt 19 a2)), show (10 : Int32).toInt = 10 from by decide, show (19 : Int32).toInt = 19 from by decide]
    rcases q_rng a2 10 19 (by omega) with hd | ⟨y, y0, y1, rfl⟩
    · rw [decide_eq_false (p := 10 ≤ a2.toInt ∧ a2.toInt ≤ 19) (by simpa using hd), if_pos (c := false = false) rfl]
      by_cases h0 : a2.toInt < 10
      · rw [if_pos h0]; exact ⟨_, _, _, rfl, rfl, R⟩
      · rw [if_neg h0, if_pos (by omega)]; exact ⟨_, _, _, rfl, rfl, R⟩
    · rw [nI_toInt (by omega), decide_eq_true (by omega), if_neg (by omega), if_neg (by omega), if_neg (c := true = false) (fun q => nomatch q), w_hasThing f2 f4, w_isThing f2 f6, bd_s, bd_s, i_P (bI_0 _), i_P (bI_0 _)]
      by_cases h : 0 ≤ a1.toInt ∧ a1.toInt < T
      · obtain ⟨x, x1, rfl⟩ := q_ex h.1 h.2 (by omega)
        rw [decide_eq_true h, if_neg (c := true = false) (fun q => nomatch q), if_neg (c := true = false) (fun q => nomatch q), bd_eta, bd_eta]
        exact w_ofT R x1 y0 y1
      · rw [decide_eq_false h, if_pos rfl, if_pos rfl]
        exact ⟨_, _, _, rfl, rfl, R⟩
  · unfold X10_of
    rw [nI_toInt (by omega), decide_eq_true (by omega), if_neg (c := true = false) (fun q => nomatch q), show (0 : Int32) = nI 0 from rfl, show (5 : Int32) = nI 5 from rfl, i_ltP (by omega) (by omega), i_ltP (by omega) (by omega), if_neg (by omega), if_neg (by omega), w_hasPerson f1 f3, w_isPerson f1 f5, bd_s, bd_s, show nI 0 = (0 : Int32) from rfl, i_P (bI_0 _), i_P (bI_0 _)]
    by_cases h : 0 ≤ a1.toInt ∧ a1.toInt < P
    · obtain ⟨x, x1, rfl⟩ := q_ex h.1 h.2 (by omega)
      rw [decide_eq_true h, if_neg (c := true = false) (fun q => nomatch q), if_neg (c := true = false) (fun q => nomatch q), bd_eta, bd_eta]
      obtain ⟨v, v1, v2⟩ := w_ofP R.1 x1 y1
      exact ⟨v, _, _, v1, v2, R⟩
    · rw [decide_eq_false h, if_pos rfl, if_pos rfl]
      exact ⟨_, _, _, rfl, rfl, R⟩
