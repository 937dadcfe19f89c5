/-! ===== a world becomes another; the image ===== -/
theorem n_cpok0 {n x y : Nat} (h1 : n ≤ x) (h2 : n ≤ y) (hx : x < 2 ^ 31) (hy : y < 2 ^ 31) : cpok 0 0 (nI n) x y = true := by
  have := n_cpok2 (a := 0) (b := 0) (n := n) (x := x) (y := y) (by omega) (by omega) hx hy
  exact this
theorem cpy0 (f g : Nat → Int32) {n : Nat} (hn : n < 2 ^ 31) (k : Nat) : va_cpy f g (0 : Int32).toNatClampNeg (0 : Int32).toNatClampNeg (nI n).toNatClampNeg k = if k < n then f k else g k := by
  rw [n_cl hn, show ((0 : Int32)).toNatClampNeg = 0 from by decide, cpy_a]
  by_cases h : k < n
  · rw [if_pos ⟨by omega, by omega⟩, if_pos h, Nat.zero_add, Nat.sub_zero]
  · rw [if_neg (by omega), if_neg h]
theorem w_become {w v P T : Nat} {M : mm} (hw : isO 9 w = true) (hv : isO 9 v = true) (hd : v + 10 < w ∨ w + 10 < v) (hP : P ≤ 5) (hT : T ≤ 6) : ∃ M', X9_become w v (nI P) (nI T) M = some ((), M') ∧ (M'.2 = M.2 ∧ ∀ k, (k < w ∨ w + 10 ≤ k) → M'.1 k = M.1 k) ∧ (M'.1 w 0 = M.1 v 0 ∧ M'.1 w 1 = M.1 v 1) ∧ (∀ i, 1 ≤ i → i ≤ 5 → ∀ t, M'.1 (w + i) t = if t < T then M.1 (v + i) t else M.1 (w + i) t) ∧ (∀ j, M'.1 (w + 6) j = if j < T * 8 then M.1 (v + 6) j else M.1 (w + 6) j) ∧ ∀ i, 7 ≤ i → i ≤ 9 → ∀ p, M'.1 (w + i) p = if p < P then M.1 (v + i) p else M.1 (w + i) p := by
  unfold X9_become
  have c6 : cpok 0 0 (nI T) 6 6 = true := n_cpok0 hT hT (by omega) (by omega)
  have c5 : cpok 0 0 (nI P) 5 5 = true := n_cpok0 hP hP (by omega) (by omega)
  have c8 : cpok 0 0 (nI (T * 8)) 48 48 = true := n_cpok0 (by omega) (by omega) (by omega) (by omega)
  rw [show nI T * 8 = nI (T * 8) from by rw [n8, n_mul]]
  simp (disch := omega) only [hw, hv, c6, c5, c8, gd_t, lt_s_, sA_n, sA_s, sA_sA]
  refine ⟨_, rfl, ⟨rfl, fun k hk => ?_⟩, ⟨?_, ?_⟩, fun i i1 i5 t => ?_, fun j => ?_, fun i i7 i9 p => ?_⟩
  · simp (disch := omega) only [sA_n]
  · simp (disch := omega) only [sA_n, sA_s, upd_n, upd_s]
  · simp (disch := omega) only [sA_n, sA_s, upd_n, upd_s]
  · obtain rfl | rfl | rfl | rfl | rfl : i = 1 ∨ i = 2 ∨ i = 3 ∨ i = 4 ∨ i = 5 := by omega
    all_goals simp (disch := omega) only [sA_n, sA_s]; exact cpy0 _ _ (by omega) t
  · simp (disch := omega) only [sA_n, sA_s]; exact cpy0 _ _ (by omega) j
  · obtain rfl | rfl | rfl : i = 7 ∨ i = 8 ∨ i = 9 := by omega
    all_goals simp (disch := omega) only [sA_n, sA_s]; exact cpy0 _ _ (by omega) p
theorem op_image {P T N : Nat} {O : Option (List stp)} {Ma Mb : mm} (R : RR P T N O Ma Mb) : ∃ v Ma' Mb', X10_image Ma = some (v, Ma') ∧ X11_image Mb = some (v, Mb') ∧ RR P T N O Ma' Mb' := by
  obtain ⟨⟨hF, hP, hT, hW, hY, hI, hC, hTa, hA, hSh⟩, hL, hB, hM⟩ := id R
  obtain ⟨f1, f2, f3, f4, f5, f6, -, -, -⟩ := id hF
  obtain ⟨A1, a0, ⟨a1, a2⟩, ⟨a3, a4⟩, a5, a6, a7⟩ := w_become (w := 50) (v := 28) (M := Ma) (by decide) (by decide) (by omega) f1 f2
  unfold X10_image X11_image
  rw [f3, f4, a0, bd_s, lt_s_, lt_s_, lt_s_, lt_s_, lt_s_]
  have e11 : A1.1 1 1 = nI T := by rw [a2 1 (by omega)]; exact f4
  have e10 : A1.1 1 0 = nI P := by rw [a2 1 (by omega)]; exact f3
  simp (disch := decide) only [sA_s, sA_n, sA_sA, upd_n, upd_s, e10, e11, f5, f6]
  generalize hA2 : sA A1 0 (upd (upd (A1.1 0) 11 (nI P)) 12 (nI T)) = A2
  generalize hB1 : sA Mb 82 (upd (upd (upd (Mb.1 82) 50 1) 51 (nI T)) 52 (nI P)) = B1
  obtain ⟨B2, b0, b1, b2, b3, b4, b5, b6, b7, b8, b9⟩ := w_keepsAside (s := 1) (by omega) B1
  rw [show nI 1 = (1 : Int32) from rfl] at b0
  rw [b0, bd_s]
  have gb : ∀ k, k ≠ 82 → k ≠ 107 → k ≠ 108 → k ≠ 109 → k ≠ 110 → B2.1 k = Mb.1 k := fun k c1 c2 c3 c4 c5 => by
    rw [(b1 k (by simp [c2, c3, c4, c5])).1, ← hB1]
    exact sA_n _ _ _ _ c1
  have g82 : B2.1 82 = B1.1 82 := (b1 82 rfl).1
  have gj : ∀ j, j ≠ 50 → j ≠ 51 → j ≠ 52 → B2.1 82 j = Mb.1 82 j := fun j c1 c2 c3 => by
    rw [g82, ← hB1, sA_s, upd_n _ _ _ _ c3, upd_n _ _ _ _ c2, upd_n _ _ _ _ c1]
  have g50 : B2.1 82 50 = 1 := by rw [g82, ← hB1, sA_s, upd_n _ _ _ _ (by decide), upd_n _ _ _ _ (by decide), upd_s]
  have g51 : B2.1 82 51 = nI T := by rw [g82, ← hB1, sA_s, upd_n _ _ _ _ (by decide), upd_s]
  have g52 : B2.1 82 52 = nI P := by rw [g82, ← hB1, sA_s, upd_s]
  have gb2 : ∀ k, k ≠ 107 → k ≠ 108 → k ≠ 109 → k ≠ 110 → B2.2.1 k = Mb.2.1 k := fun k c2 c3 c4 c5 => by
    rw [(b1 k (by simp [c2, c3, c4, c5])).2, ← hB1]; rfl
  have cB : ∀ k, k ≠ 82 → B1.1 k = Mb.1 k := fun k c1 => by rw [← hB1]; exact sA_n _ _ _ _ c1
  have cj : ∀ j, j ≠ 50 → j ≠ 51 → j ≠ 52 → B1.1 82 j = Mb.1 82 j := fun j c1 c2 c3 => by rw [← g82]; exact gj j c1 c2 c3
  have ga : ∀ k, k ≠ 0 → (k < 50 ∨ 60 ≤ k) → A2.1 k = Ma.1 k := fun k c1 c2 => by
    rw [← hA2, sA_n _ _ _ _ c1]; exact a2 k (by omega)
  have gw : ∀ k, k ≠ 0 → A2.1 k = A1.1 k := fun k c1 => by rw [← hA2, sA_n _ _ _ _ c1]
  have ga0 : ∀ j, j ≠ 11 → j ≠ 12 → A2.1 0 j = Ma.1 0 j := fun j c1 c2 => by
    rw [← hA2, sA_s, upd_n _ _ _ _ c2, upd_n _ _ _ _ c1, a2 0 (by omega)]
  have g11 : A2.1 0 11 = nI P := by rw [← hA2, sA_s, upd_n _ _ _ _ (by decide), upd_s]
  have g12 : A2.1 0 12 = nI T := by rw [← hA2, sA_s, upd_s]
  have ga2 : A2.2 = Ma.2 := by rw [← hA2]; exact a1
  refine ⟨nI T, A2, B2, rfl, by rw [gj 7 (by omega) (by omega) (by omega), f6], ⟨?_, ?_, ?_, ?_, ?_, ?_, ?_, ?_, ?_, ?_⟩, ?_, ?_, ?_⟩
  · refine rF_c hF (Nat.le_refl _) ?_
    simp (disch := omega) only [ga, gj, and_self]
  · refine rP_c hP ?_ f1 (fun i _ => by rw [gb 83 (by omega) (by omega) (by omega) (by omega) (by omega)])
    simp (disch := omega) only [ga, and_self]
  · refine rT_c hT (Nat.le_refl _) ?_ (fun i _ => by rw [gb 83 (by omega) (by omega) (by omega) (by omega) (by omega)])
    simp (disch := omega) only [ga, gb, and_self]
  · refine rW_c hW (Nat.le_refl _) ?_ ?_
    · simp (disch := omega) only [ga, and_self]
    · simp (disch := omega) only [gb, gj, and_self]
  · refine rY_c hY ?_
    simp (disch := omega) only [ga, ga0, gb, and_self]
  · refine Or.inr ⟨P, T, Nat.le_refl _, Nat.le_refl _, g11, g12, g50, g51, g52, fun t ht => ?_, fun p hp => ?_, ?_, ?_⟩
    · obtain ⟨k1, k2, k3, k4, n, k5, k6, k7, k8⟩ := hW.1 t ht
      obtain ⟨m1, m2, m3, m4, m5, m6, m7⟩ := b2 t (by omega)
      have q : ∀ i, 1 ≤ i → i ≤ 5 → A2.1 (50 + i) t = Ma.1 (28 + i) t := fun i i1 i5 => by
        rw [gw _ (by omega), a5 i i1 i5 t, if_pos ht]
      have q6 : ∀ i, i < 8 → A2.1 56 (8 * t + i) = Ma.1 34 (8 * t + i) := fun i hi => by
        have := a6 (8 * t + i)
        rw [if_pos (by omega)] at this
        rw [gw _ (by omega)]; exact this
      have r : ∀ z, (1 * 6 + t) * 6 + z = 36 + 6 * t + z := fun z => by omega
      rw [q 1 (by omega) (by omega), q 2 (by omega) (by omega), q 3 (by omega) (by omega), q 4 (by omega) (by omega), q 5 (by omega) (by omega)]
      rw [show (1 * 6 + t) * 6 = 36 + 6 * t from by omega] at m1 m2 m3 m4 m5
      rw [m1, m2, m3, m4, m5, cB 91 (by omega), cB 92 (by omega), cB 93 (by omega), cB 94 (by omega), cB 96 (by omega)]
      refine ⟨k1, k2, k3, k4, n, k5, k6, k7, fun i hi => ?_⟩
      rw [q6 i (by omega), k8 i hi, show 48 + 8 * t + i = (1 * 6 + t) * 8 + i from by omega, m7 i (by omega), cB 95 (by omega)]
    · obtain ⟨k1, k2, k3⟩ := hW.2.1 p (by omega)
      obtain ⟨m1, m2, m3⟩ := b3 p (by omega)
      have q : ∀ i, 7 ≤ i → i ≤ 9 → A2.1 (50 + i) p = Ma.1 (28 + i) p := fun i i1 i5 => by
        rw [gw _ (by omega), a7 i i1 i5 p, if_pos hp]
      rw [q 7 (by omega) (by omega), q 8 (by omega) (by omega), q 9 (by omega) (by omega)]
      rw [show (1 * 5 + p) * 3 = 15 + 3 * p from by omega] at m1 m2 m3
      rw [m1, m2, m3, cB 87 (by omega), cB 88 (by omega), cB 89 (by omega)]
      exact ⟨k1, k2, k3⟩
    · rw [gw 50 (by omega), a3]
      exact hW.2.2.1.trans ((cj 21 (by omega) (by omega) (by omega)).symm.trans b4.symm)
    · rw [gw 50 (by omega), a4]
      exact hW.2.2.2.trans ((cj 22 (by omega) (by omega) (by omega)).symm.trans b5.symm)
  · refine rC_c hC (Nat.le_refl _) (Nat.le_refl _) ?_
    simp (disch := omega) only [ga, gb, gj, and_self]
  · refine rTa_c hTa ?_
    simp (disch := omega) only [ga, gb, gj, and_self]
  · refine rA_c hA ?_
    simp (disch := omega) only [ga, gb, gj, and_self]
  · refine rS_c hSh ?_ fun d hd => ?_
    · simp (disch := omega) only [ga, gb, gb2, and_self]
    · rw [ga _ (by omega) (by omega), ga2]
      exact ⟨rfl, rfl⟩
  · exact (law_w3 (M' := A2) ga2 (fun k h0 hk => ga k (by omega) (by omega)) hL hM).1
  · exact lawB_N hB ⟨gj 26 (by omega) (by omega) (by omega), gb 99 (by omega) (by omega) (by omega) (by omega) (by omega)⟩
  · exact (law_w3 (M' := A2) ga2 (fun k h0 hk => ga k (by omega) (by omega)) hL hM).2
