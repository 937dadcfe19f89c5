/-! ===== the call redo ===== -/
theorem op_redo {P T N : Nat} {O : Option (List stp)} {Ma Mb : mm} (hN : N ≤ 600) (R : RR P T N O Ma Mb) : ∃ v Ma' Mb', X10_redo Ma = some (v, Ma') ∧ X11_redo Mb = some (v, Mb') ∧ RR P T (N + 1) O Ma' Mb' := by
  obtain ⟨RQ0, hC⟩ := RQ_of R
  obtain ⟨d, al, c1, c2, c3, c4, c5, c6, c7⟩ := id hC
  unfold X10_redo X1_doAgain X1_undone X11_redo
  rw [c3, c4, c5, c6, n_sub (by omega), bd_s, show (0 : Int32) = nI 0 from rfl, i_ltP (by omega) (by omega), i_eqP (by omega) (by omega)]
  by_cases h : d = al
  · rw [if_neg (by omega), if_pos h, bd_s]
    exact ⟨_, Ma, Mb, rfl, rfl, RR_of (RQ_N RQ0) hC⟩
  · obtain ⟨n, w, x, y, e1, e2, e3, e4, e5, e6, e7, e8, e9, e10, e11, e12, e13⟩ := c7 d (by omega)
    rw [if_pos (by omega), if_neg h]
    obtain ⟨A', t1, t2, t3, t4⟩ := w_tell hN RQ0 e1 e2 e5 e6
    obtain ⟨r1, r2, r3, r4, r5, r6, r7⟩ := wr_ok e1
    have hn6 : n ≤ 5 := by
      have f1 := RQ0.1.1
      have f2 := RQ0.1.2.1
      split at e2 <;> omega
    simp (disch := omega) only [n_inb, n_cl, gd_t, c3, e7, e8, e10, e11, e13]
    rw [t1, bd_s, lt_s_, bd_s, show nI 0 = (0 : Int32) from rfl, i_10, bd_s, lt_s_, lt_s_, t3 61 (by omega), c3]
    rw [sA_n _ _ _ _ (show (82 : Nat) ≠ 83 by decide), c5, nI_1]
    refine ⟨nI (al - (d + 1)), sA A' 61 (upd (Ma.1 61) 0 (nI (d + 1))), sA (sA Mb 83 (upd (Mb.1 83) (wbase w + n) (nI y))) 82 (upd (Mb.1 82) 5 (nI (d + 1))), ?_, ?_, RR_of (RQ_c t4 rfl (fun k hk => sA_n _ _ _ _ (by omega)) (fun k h1 _ => sA_n _ _ _ _ h1) rfl (fun j h4 h5 => by rw [sA_s, upd_n _ _ _ _ h5, sA_n _ _ _ _ (show (82 : Nat) ≠ 83 by decide)])) ⟨d + 1, al, by omega, c2, ?_, ?_, ?_, ?_, fun i hi => ?_⟩⟩
    · simp (disch := decide) only [sA_s, upd_s, upd_n]
      rw [c4, n_sub (by omega)]
    · simp (disch := decide) only [sA_s, upd_s, upd_n]
      rw [c6, n_sub (by omega)]
    · rw [sA_s, upd_s]
    · rw [sA_s, upd_n _ _ _ _ (by decide)]; exact c4
    · rw [sA_s, upd_s]
    · rw [sA_s, upd_n _ _ _ _ (by decide)]; exact c6
    · simp (disch := omega) only [sA_n]
      rw [t3 62 (by omega), t3 63 (by omega), t3 64 (by omega), t3 65 (by omega)]
      exact c7 i hi
