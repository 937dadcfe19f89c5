/-! ===== the calls taken, told ===== -/
theorem w_above {i : Nat} (hi : 1 ≤ i) (h8 : i < 8) (M : mm) : ∃ s, s < i ∧ sAB i = nI s ∧ X11_above (nI i) M = some (nI s, M) := by
  match i, hi, h8 with
  | 1, _, _ => exact ⟨0, by omega, rfl, rfl⟩
  | 2, _, _ => exact ⟨0, by omega, rfl, rfl⟩
  | 3, _, _ => exact ⟨2, by omega, rfl, rfl⟩
  | 4, _, _ => exact ⟨1, by omega, rfl, rfl⟩
  | 5, _, _ => exact ⟨3, by omega, rfl, rfl⟩
  | 6, _, _ => exact ⟨0, by omega, rfl, rfl⟩
  | 7, _, _ => exact ⟨4, by omega, rfl, rfl⟩
theorem tk_L {y : Nat} {a1 a1' : Int32} {Ma Mb : mm} (hy : y < 8) : ∀ n i j, i + j ≤ 7 → i + 1 < n → ∃ (x : Nat) (c : Bool), X0_isOfKind_L9 a1 (nI y) n (nI i) (nI j) Ma = some (bI c, Ma) ∧ (∀ K, X11_taken_L58 a1' (nI y) K n (nI i) Mb = K (nI x) Mb) ∧ x < 8 ∧ (c = true ↔ x = y) := by
  intro n
  induction n with
  | zero => intro i j _ h; omega
  | succ n ih =>
    intro i j hij hn
    by_cases hiy : i = y
    · refine ⟨i, true, ?_, fun K => ?_, by omega, by simp [hiy]⟩
      · rw [X0_isOfKind_L9, show (8 : Int32) = nI 8 from rfl, i_ltP (by omega) (by omega), if_pos (by omega), if_neg (neg0 (by omega)), i_eqP (by omega) (by omega), if_pos hiy]
        rfl
      · rw [X11_taken_L58, i_eqP (by omega) (by omega), if_pos hiy]
    · by_cases h0 : i = 0
      · refine ⟨0, false, ?_, fun K => ?_, by omega, by simp; omega⟩
        · obtain ⟨n, rfl⟩ : ∃ m, n = m + 1 := ⟨n - 1, by omega⟩
          rw [X0_isOfKind_L9, show (8 : Int32) = nI 8 from rfl, i_ltP (by omega) (by omega), if_pos (by omega), if_neg (neg0 (by omega)), i_eqP (by omega) (by omega), if_neg hiy, n_inb (by omega) (by omega), gd_t, n_cl (by omega), h0, show sAB 0 = -1 from rfl, X0_isOfKind_L9, if_pos (show (-1 : Int32) < 0 by decide)]
          split <;> rfl
        · rw [X11_taken_L58, i_eqP (by omega) (by omega), if_neg hiy, h0, if_neg (by decide)]
      · obtain ⟨s, s1, s2, s3⟩ := w_above (i := i) (by omega) (by omega) Mb
        obtain ⟨x, c, g1, g2, g3, g4⟩ := ih s (j + 1) (by omega) (by omega)
        refine ⟨x, c, ?_, fun K => ?_, g3, g4⟩
        · rw [X0_isOfKind_L9, show (8 : Int32) = nI 8 from rfl, i_ltP (by omega) (by omega), if_pos (by omega), if_neg (neg0 (by omega)), i_eqP (by omega) (by omega), if_neg hiy, n_inb (by omega) (by omega), gd_t, n_cl (by omega), s2, nI_1]
          exact g1
        · rw [X11_taken_L58, i_eqP (by omega) (by omega), if_neg hiy, show (0 : Int32) = nI 0 from rfl, i_ltP (by omega) (by omega), if_pos (by omega), s3, bd_s]
          exact g2 K
theorem op_taken {P T N : Nat} {O : Option (List stp)} {Ma Mb : mm} (R : RR P T N O Ma Mb) (a1 a2 : Int32) : ∃ v Ma' Mb', X10_taken a1 a2 Ma = some (v, Ma') ∧ X11_taken a1 a2 Mb = some (v, Mb') ∧ RR P T N O Ma' Mb' := by
  obtain ⟨-, -, -, -, -, -, -, -, hA, hS⟩ := id R.1
  obtain ⟨bb, r, q1, -, q2, q3, -, -, q4, -⟩ := hA
  unfold X10_taken X11_taken
  rcases w_shelf a1 Ma Mb with ⟨h1, h2⟩ | ⟨d, hd, rfl, h1, h2⟩
  · rw [h1, h2, bd_s, bd_s, if_pos rfl]
    exact ⟨_, _, _, rfl, rfl, R⟩
  · rw [h1, h2, bd_s, bd_s, i_10, w_within, bd_s, i_P (bI_0 _), q_i64, z64_0, z64_7]
    unfold opt
    simp only
    rcases q_rng a2 0 7 (by omega) with hc | ⟨y, -, y1, rfl⟩
    · have hc' : ¬ (0 ≤ a2.toInt ∧ a2.toInt ≤ 7) := by simpa using hc
      rw [decide_eq_false hc', if_pos (c := false = false) rfl, i_P (propext (q_lt a2 0)), i_P (propext (q_lt a2 8)), z32_0, z32_8]
      by_cases h0 : a2.toInt < 0
      · rw [if_pos h0]
        exact ⟨_, _, _, rfl, rfl, R⟩
      · rw [if_neg h0, if_neg (by omega)]
        exact ⟨_, _, _, rfl, rfl, R⟩
    · rw [nI_toInt (by omega), decide_eq_true (by omega), if_neg (c := true = false) (fun q => nomatch q), if_neg (neg0 (show y < 2 ^ 31 by omega)), if_pos (show nI y < 8 by rw [q_lt, n_ti (by omega), z32_8]; omega), sh_O d hd, gd_t, n_inb hd (by omega), gd_t, n_cl (show d < 2 ^ 31 by omega), gd_t, gd_t]
      rcases sh_c (hS d hd) with ⟨g1, g2⟩ | ⟨b, b1, b2, g1, g2, g3⟩ | ⟨s, n, s1, n1, g1, -, -, g4, -⟩
      · rw [g1, g2, if_pos rfl, if_pos (by decide)]
        exact ⟨_, _, _, rfl, rfl, R⟩
      · rw [q2, q_lt, n_ti (by omega), n_ti (by omega)] at b2
        obtain ⟨k, k1, k2, k3⟩ := q4 b (by omega)
        have kA : X0_kindOf (nI b) Ma = some (nI k, Ma) := by
          unfold X0_kindOf
          rw [if_neg (neg0 (by omega)), q2, i_ltP (by omega) (by omega), if_pos (by omega), n_inb b1 (by omega), gd_t, n_cl (by omega), k2]
        have kB : X11_kindOf (nI b) Mb = some (nI k, Mb) := by
          unfold X11_kindOf
          rw [n_inb b1 (by omega), gd_t, n_cl (by omega), k3]
        obtain ⟨x, c, z1, z2, z3, z4⟩ := tk_L (a1 := nI b) (a1' := nI d) (Ma := Ma) (Mb := Mb) (y := y) (by omega) 10000 k 0 (by omega) (by omega)
        have z1' : X0_isOfKind_L9 (nI b) (nI y) 10000 (nI k) 0 Ma = some (bI c, Ma) := z1
        rw [g1, g2, g3, if_neg (by decide), if_pos rfl, if_neg (neg0 (show b < 2 ^ 31 by omega)), if_pos (show nI b < 50 by rw [q_lt, n_ti (by omega), z32_50]; omega)]
        unfold X0_isOfKind
        rw [kA, kB, bd_s, bd_s, z1', bd_s, z2]
        unfold X11_taken_b75
        rw [i_P (bI_0 _), i_eqP (by omega) (by omega), n_inb hd (by omega), gd_t, n_cl (show d < 2 ^ 31 by omega), g2, g3, kA, kB, bd_s, bd_s]
        cases c with
        | true =>
          rw [if_neg (fun q => nomatch q), if_pos (z4.mp rfl)]
          exact ⟨_, _, _, rfl, rfl, R⟩
        | false =>
          rw [if_pos rfl, if_neg (fun q => nomatch z4.mpr q)]
          exact ⟨_, _, _, rfl, rfl, R⟩
      · rw [g1, g4, if_neg (by decide), if_neg (by decide), if_neg (neg0 (show 50 + s < 2 ^ 31 by omega)), if_neg (show ¬ nI (50 + s) < 50 by rw [q_lt, n_ti (by omega), z32_50]; omega)]
        exact ⟨_, _, _, rfl, rfl, R⟩
theorem td_L {d t m : Nat} {z a1 : Int32} {Ma Mb : mm} (hd : d < 6) (ht : t < 6) (hm : m ≤ 8) (g : ∀ i, i < m → Ma.2.1 (70 + 2 * d + 1) i = Mb.2.1 115 (60 * d + i)) (l : ∀ i, i < m → Ma.1 (28 + 6) (8 * t + i) = Mb.1 95 (8 * t + i)) (K : Nat → Int32 → Int32 → mm → Option (Int32 × mm)) (K' : Int32 → mm → Option (Int32 × mm)) : ∀ k i, i ≤ m → m - i < k → (∃ v, X10_told_L69 a1 (nI t) K k (70 + 2 * d) z (nI m) (nI i) Ma = some (v, Ma) ∧ X11_told_L77 (nI d) (nI t) K' k (nI m) (nI i) Mb = some (v, Mb)) ∨ (X10_told_L69 a1 (nI t) K k (70 + 2 * d) z (nI m) (nI i) Ma = K (70 + 2 * d) z (nI m) Ma ∧ X11_told_L77 (nI d) (nI t) K' k (nI m) (nI i) Mb = K' (nI m) Mb) := by
  intro k
  induction k with
  | zero => intro i _ h; omega
  | succ k ih =>
    intro i hi hk
    rw [X10_told_L69, X11_told_L77, i_ltP (by omega) (by omega), i_ltP (by omega) (by omega)]
    by_cases h : i < m
    · rw [if_pos h, if_pos h, sh_O d hd, gd_t, n_inb (show i < 60 by omega) (by omega), gd_t, w_nail (by decide) ht (by omega), bd_s, n_cl (show i < 2 ^ 31 by omega), show (60 : Int32) = nI 60 from rfl, show (8 : Int32) = nI 8 from rfl, n_mul, n_mul, n_add, n_add, n_inb (show 60 * d + i < 360 by omega) (by omega), gd_t, n_inb (show 8 * t + i < 48 by omega) (by omega), gd_t, n_cl (show 60 * d + i < 2 ^ 31 by omega), n_cl (show 8 * t + i < 2 ^ 31 by omega), g i h, l i h, nI_1]
      by_cases hc : lg_cmp (Mb.2.1 115 (60 * d + i)) (Mb.1 95 (8 * t + i)).toInt64 = 0
      · rw [if_pos hc, if_pos hc]
        exact ih (i + 1) (by omega) (by omega)
      · rw [if_neg hc, if_neg hc]
        exact Or.inl ⟨_, rfl, rfl⟩
    · rw [if_neg h, if_neg h]
      obtain rfl : i = m := by omega
      exact Or.inr ⟨rfl, rfl⟩
theorem op_told {P T N : Nat} {O : Option (List stp)} {Ma Mb : mm} (R : RR P T N O Ma Mb) (a1 a2 : Int32) : ∃ v Ma' Mb', X10_told a1 a2 Ma = some (v, Ma') ∧ X11_told a1 a2 Mb = some (v, Mb') ∧ RR P T N O Ma' Mb' := by
  obtain ⟨hF, -, -, hW, -, -, -, -, -, hS⟩ := id R.1
  obtain ⟨f1, f2, f3, f4, f5, f6, -⟩ := id hF
  unfold X10_told X11_told
  rcases w_shelf a1 Ma Mb with ⟨h1, h2⟩ | ⟨d, hd, rfl, h1, h2⟩
  · rw [h1, h2, bd_s, bd_s, if_pos rfl]
    exact ⟨_, _, _, rfl, rfl, R⟩
  · rw [h1, h2, bd_s, bd_s, i_10]
    unfold opt
    simp only
    rw [w_hasThing f2 f4, w_isThing f2 f6, bd_s, bd_s, i_P (bI_0 _), i_P (bI_0 _)]
    by_cases ht : 0 ≤ a2.toInt ∧ a2.toInt < T
    · obtain ⟨t, t1, rfl⟩ := q_ex ht.1 ht.2 (by omega)
      obtain ⟨-, -, -, -, n, n1, n2, n3, n4⟩ := hW.1 t t1
      rw [decide_eq_true ht, if_neg (c := true = false) (fun q => nomatch q), if_neg (c := true = false) (fun q => nomatch q), sh_O d hd, gd_t, n_inb hd (by omega), gd_t, n_cl (show d < 2 ^ 31 by omega), gd_t, w_isRow (sh_O d hd), bd_s]
      rcases sh_c (hS d hd) with ⟨g1, g2⟩ | ⟨b, b1, b2, g1, g2, g3⟩ | ⟨s, m, s1, m1, g1, g2, g3, g4, g5, g6, -⟩
      · rw [g1, g2, if_pos rfl, if_pos (by decide)]
        exact ⟨_, _, _, rfl, rfl, R⟩
      · rw [g1, g3, if_neg (by decide), if_neg (show ¬ (1 : Int32) = 2 by decide), if_pos rfl, if_neg (neg0 (show b < 2 ^ 31 by omega)), if_neg (show ¬ nI b = 50 by rw [q_eq, n_ti (by omega), z32_50]; omega)]
        exact ⟨_, _, _, rfl, rfl, R⟩
      · rw [g1, g2, g4, if_neg (by decide), if_pos (show (2 : Int32) = 2 from rfl), if_neg (neg0 (show 50 + s < 2 ^ 31 by omega))]
        by_cases hs : s = 0
        · subst hs
          rw [if_pos (show nI 0 = 0 from rfl), i_10, if_pos (show nI (50 + 0) = 50 from rfl), n_inb (show t < 6 by omega) (by omega), gd_t, gd_t, n_cl (show t < 2 ^ 31 by omega), g3, n2, g5, n3, lt_s_, gd_t, gd_t]
          have hm : (if nI m < nI n then nI m else nI n) = nI (if m < n then m else n) := by
            rw [i_ltP (by omega) (by omega)]
            split <;> rfl
          have fin : ∀ mm', mm' ≤ m → mm' ≤ n → ∃ v Ma' Mb', X10_told_L69 (nI d) (nI t) (fun x3 x4 x5 M => gd (isO 6 x3) (if x4 = M.1 x3 3 then some (-2, M) else some (x5, M))) 10000 (70 + 2 * d) (nI n) (nI mm') 0 Ma = some (v, Ma') ∧ X11_told_b73 (nI d) (nI t) (nI mm') Mb = some (v, Mb') ∧ RR P T N O Ma' Mb' := by
            intro mm' e1 e2
            unfold X11_told_b73
            rcases td_L (a1 := nI d) (z := nI n) (Ma := Ma) (Mb := Mb) (m := mm') hd (show t < 6 by omega) (by omega) (fun i hi => g6 i (by omega)) (fun i hi => n4 i (by omega)) (fun x3 x4 x5 M => gd (isO 6 x3) (if x4 = M.1 x3 3 then some (-2, M) else some (x5, M))) (fun x3 M => gd (inb (nI d) 6) (gd (inb (nI t) 6) (if M.1 114 (nI d).toNatClampNeg = M.1 96 (nI t).toNatClampNeg then some (-2, M) else some (x3, M)))) 10000 0 (by omega) (by omega) with ⟨v, u1, u2⟩ | ⟨u1, u2⟩
            · exact ⟨v, _, _, u1, u2, R⟩
            · have u1' := u1
              rw [show nI 0 = (0 : Int32) from rfl] at u1 u2
              rw [u1, u2, sh_O d hd, gd_t, n_inb hd (by omega), gd_t, n_inb (show t < 6 by omega) (by omega), gd_t, n_cl (show d < 2 ^ 31 by omega), n_cl (show t < 2 ^ 31 by omega), g3, g5, n3, i_eqP (by omega) (by omega), i_eqP (by omega) (by omega)]
              by_cases hnm : n = m
              · rw [if_pos hnm, if_pos hnm.symm]
                exact ⟨_, _, _, rfl, rfl, R⟩
              · rw [if_neg hnm, if_neg (fun q => hnm q.symm)]
                exact ⟨_, _, _, rfl, rfl, R⟩
          rw [hm, i_ltP (by omega) (by omega)]
          by_cases hmn : m < n
          · rw [if_pos hmn, if_pos hmn]
            exact fin m (by omega) (by omega)
          · rw [if_neg hmn, if_neg hmn]
            exact fin n (by omega) (by omega)
        · rw [if_neg (show ¬ nI s = 0 by rw [q_eq, n_ti (by omega), z32_0]; omega), if_pos rfl, if_neg (show ¬ nI (50 + s) = 50 by rw [q_eq, n_ti (by omega), z32_50]; omega)]
          exact ⟨_, _, _, rfl, rfl, R⟩
    · rw [decide_eq_false ht, if_pos rfl, if_pos rfl]
      exact ⟨_, _, _, rfl, rfl, R⟩
