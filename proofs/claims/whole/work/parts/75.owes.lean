/-! ===== the call debts ===== -/
theorem db_L {P T N p y : Nat} {O : Option (List stp)} {a : Int32} (hy : y ≤ 6) (ea : a / 10 = nI p) (ey : a - a / 10 * 10 = nI y) (b : Int32) (Ka Kb : Int64 → mm → Option (Int64 × mm)) : ∀ k k' t sum (Ma Mb : mm), t ≤ T → T - t < k → T - t < k' → RR P T N O Ma Mb → (sum ≠ 0 → ∀ j, j ≤ 6 → Mb.2.1 101 j = pw12 j) → ∃ sum' Ma' Mb', X10_debts_L43 a b Ka k sum (nI t) Ma = Ka sum' Ma' ∧ X11_debts_L43 a b Kb k' sum (nI t) Mb = Kb sum' Mb' ∧ RR P T N O Ma' Mb' ∧ (sum' ≠ 0 → ∀ j, j ≤ 6 → Mb'.2.1 101 j = pw12 j) := by
  intro k
  induction k with
  | zero => intro k' t sum Ma Mb _ h; omega
  | succ k ih =>
    intro k' t sum Ma Mb ht hk hk' R hs0
    obtain ⟨k', rfl⟩ : ∃ z, k' = z + 1 := ⟨k' - 1, by omega⟩
    obtain ⟨RC0, hL, hB, hM⟩ := id R
    obtain ⟨hF, hP, hT, hW, -⟩ := id RC0
    obtain ⟨f1, f2, f3, f4, f5, f6, ⟨F, F1, F2, F3⟩, -, -⟩ := id hF
    rw [X10_debts_L43, X11_debts_L43, f4, f6, i_ltP (by omega) (by omega), i_ltP (by omega) (by omega)]
    by_cases h : t < T
    · obtain ⟨⟨o, o1, o2, o3⟩, ⟨wo, w1, w2, w3⟩, ⟨bi, b1, b2, b3⟩, -⟩ := hT t h
      obtain ⟨⟨sk, k1, k2, k3, k4⟩, ⟨fe, g1, g2, g3⟩, -⟩ := hP.2 o o1
      obtain ⟨⟨s, s1, s2, s3, s4⟩, ⟨l1, l2⟩, -, ⟨ag, a1, a2, a3⟩, -⟩ := hW.1 t h
      have l1' : Mb.1 92 t = Ma.1 (28 + 2) t := l1.symm
      rw [if_pos h, if_pos h, n_inb (show t < 6 by omega) (by omega), gd_t, gd_t, n_cl (show t < 2 ^ 31 by omega), l1', ey, ea]
      unfold X10_debts_b108 X11_debts_b119
      rw [nI_1]
      by_cases hl : Ma.1 (28 + 2) t = nI p
      · rw [if_pos hl, if_pos hl, gd_t, gd_t, gd_t, s3, a2]
        obtain ⟨A1, q1, q2, q3⟩ := w_risk (c := cOf sk fe 0 wo bi F O t) (s := s) (a := ag) (y := y) (show t < 6 by omega) s1 s2 a1 hy rfl rfl F1 hL.1 hL.2.1 F2 b2
        obtain ⟨B1, e1, e2, e3⟩ := w_thinksOf (sk := sk) (wy := 0) hB (show t < 6 by omega) (show o < 5 by omega) k4 g3 w3 b3 F3 ⟨k1, k2, by omega, F1⟩
        obtain ⟨f, r1⟩ := w_paysFrom (c := cOf sk fe 0 wo bi F O t) (y := y) (s := s) (a := ag) hy s1 s2 (by omega) (nI t) e3
        have m : ∀ k, k ≠ 82 → k ≠ 100 → k ≠ 102 → k ≠ 104 → B1.1 k = Mb.1 k := e2.2.1
        rw [show nI 0 = (0 : Int32) from rfl] at e1
        rw [q1, bd_s, o3, e1, bd_s, l_21, n_inb (show 21 + t < 33 by omega) (by omega), gd_t, gd_t, gd_t, m 91 (by decide) (by decide) (by decide) (by decide), s4, m 94 (by decide) (by decide) (by decide) (by decide), a3, r1, bd_s, lt_s_, n_cl (show 21 + t < 2 ^ 31 by omega), m 83 (by decide) (by decide) (by decide) (by decide), b3, show (nI bi).toInt64 = cL bi from rfl]
        exact ih k' (t + 1) (sum + cL bi * pY (cOf sk fe 0 wo bi F O t) y s ag) A1 _ (by omega) (by omega) (by omega) (RR_U (RR_X R q2 q3) (EqU_t (EqU_W e2) (EqU_W (EqW_105 _ f)))) (fun _ j hj => by rw [sL_n _ _ _ _ (by decide)]; exact e3.2.2.1 j hj)
      · rw [if_neg hl, if_neg hl]
        exact ih k' (t + 1) sum Ma Mb (by omega) (by omega) (by omega) R hs0
    · rw [if_neg h, if_neg h]
      exact ⟨sum, Ma, Mb, rfl, rfl, R, hs0⟩
theorem op_debts {P T N : Nat} {O : Option (List stp)} {Ma Mb : mm} (R : RR P T N O Ma Mb) (a b : Int32) : ∃ v Ma' Mb', X10_debts a b Ma = some (v, Ma') ∧ X11_debts a b Mb = some (v, Mb') ∧ RR P T N O Ma' Mb' := by
  obtain ⟨f1, f2, f3, f4, f5, f6, -⟩ := id R.1.1
  unfold X10_debts X11_debts
  by_cases h : a < 0
  · rw [if_pos h, if_pos h]
    exact ⟨_, _, _, rfl, rfl, R⟩
  · rw [if_neg h, if_neg h]
    obtain ⟨x, hx, rfl⟩ : ∃ x : Nat, x < 2 ^ 31 ∧ a = nI x := by
      rw [q_lt, z32_0] at h
      have := Int32.toInt_lt a
      obtain ⟨i, i1, i2⟩ := q_ex (a := a) (n := 2 ^ 31) (by omega) (by omega) (by omega)
      exact ⟨i, i1, i2⟩
    have e1 : nI x / 10 = nI (x / 10) := n_div (b := 10) hx (by omega)
    have e2 : nI x - nI x / 10 * 10 = nI (x % 10) := by
      rw [e1, show (10 : Int32) = nI 10 from rfl, n_mul, n_sub (by omega)]
      congr 1
      omega
    have c6 : (6 < nI x - nI x / 10 * 10) = (6 < x % 10) := by
      rw [e2]
      exact n_lt (a := 6) (by omega) (by omega)
    have hh : X3_hasPerson (nI x / 10) Ma = some (bI (decide (x / 10 < P)), Ma) := by
      rw [w_hasPerson f1 f3, e1, nI_toInt (by omega)]
      congr 3
      exact decide_eq_decide.mpr (by omega)
    have hi : X11_isPerson (nI x / 10) Mb = some (bI (decide (x / 10 < P)), Mb) := by
      rw [w_isPerson f1 f5, e1, nI_toInt (by omega)]
      congr 3
      exact decide_eq_decide.mpr (by omega)
    rw [i_P c6, hh, hi, bd_s, bd_s, i_P (bI_0 _), i_P (bI_0 _), i_P c6]
    by_cases h6 : 6 < x % 10
    · rw [if_pos h6, if_pos h6]
      by_cases hp : x / 10 < P
      · rw [decide_eq_true hp, if_neg (c := true = false) (fun q => nomatch q)]
        exact ⟨_, _, _, rfl, rfl, R⟩
      · rw [decide_eq_false hp, if_pos rfl]
        exact ⟨_, _, _, rfl, rfl, R⟩
    · rw [if_neg h6, if_neg h6]
      by_cases hp : x / 10 < P
      · rw [decide_eq_true hp, if_neg (c := true = false) (fun q => nomatch q), if_neg (c := true = false) (fun q => nomatch q), w_zeroOne, bd_s, w_within, bd_s, q_i64, z64_0, z64_1, i_P (bI_0 _), i_P (bI_0 _)]
        rcases q_rng b 0 1 (by omega) with hc | ⟨pt, pt0, pt1, rfl⟩
        · rw [decide_eq_false (p := 0 ≤ b.toInt ∧ b.toInt ≤ 1) (by simpa using hc), if_pos (c := false = false) rfl, if_pos (c := false = false) rfl]
          exact ⟨_, _, _, rfl, rfl, R⟩
        · rw [nI_toInt (by omega), decide_eq_true (show (0 : Int) ≤ pt ∧ (pt : Int) ≤ 1 by omega), if_neg (c := true = false) (fun q => nomatch q), if_neg (c := true = false) (fun q => nomatch q)]
          obtain ⟨sum, A', B', q1, q2, q3, q4⟩ := db_L (p := x / 10) (y := x % 10) (by omega) e1 e2 (nI pt) (fun x3 M =>
              bd (X10_fraction x3 (nI x - nI x / 10 * 10) (nI pt) M) fun v19 M20 =>
              some (v19, M20)) (fun x3 M =>
              if (lg_cmp x3 0) = 0 then
                X11_debts_b145 (nI x) (nI pt) x3 1 M
              else
                gd (inb (nI x - nI x / 10 * 10) 7) <|
                X11_debts_b145 (nI x) (nI pt) x3 (M.2.1 101 (nI x - nI x / 10 * 10).toNatClampNeg) M) 10000 10000 0 0 Ma Mb (by omega) (by omega) (by omega) R (fun h => absurd rfl h)
          rw [show nI 0 = (0 : Int32) from rfl] at q1 q2
          rw [q1, q2]
          unfold X11_debts_b145
          rw [e2, w_fraction _ (by omega) pt1, bd_s, i_P (lg_eq0 _ _)]
          by_cases hs : sum = 0
          · rw [if_pos hs, w_partOf (y := x % 10) _ (by omega) pt1 (fun q => absurd hs q), bd_s]
            exact ⟨_, _, _, rfl, rfl, q3⟩
          · rw [if_neg hs, n_inb (by omega) (by omega), gd_t, n_cl (by omega), q4 hs _ (by omega), w_partOf _ (by omega) pt1 (fun _ => rfl), bd_s]
            exact ⟨_, _, _, rfl, rfl, q3⟩
      · rw [decide_eq_false hp, if_pos rfl, if_pos rfl]
        exact ⟨_, _, _, rfl, rfl, R⟩
