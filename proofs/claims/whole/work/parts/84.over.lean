/-! ===== the call over ===== -/
theorem ov_1 {t n : Nat} {a1 : Int32} {Ma Mb : mm} (ht : t < 6) (hn : n ≤ 8) (h1 : Ma.1 (28 + 5) t = nI n) (h2 : Mb.1 96 t = nI n) (h3 : ∀ i, i < n → Ma.1 (28 + 6) (8 * t + i) = Mb.1 95 (8 * t + i)) : ∀ k i, i ≤ 8 → 8 - i < k → ∃ s, (∀ c, X9_oftenOver_L6 28 (nI t) (a1 / 10) (a1 - a1 / 10 * 10) k c (nI (i + 1)) Ma = some (c + s, Ma)) ∧ ∀ K c, X11_over_L54 a1 K k c (nI t) (nI (i + 1)) Mb = K (c + s) (nI t) Mb := by
  intro k
  induction k with
  | zero => intro i _ h; omega
  | succ k ih =>
    intro i hi hk
    by_cases hin : i + 1 < n
    · obtain ⟨s, s1, s2⟩ := ih (i + 1) (by omega) (by omega)
      have e1 := h3 (i + 1) hin
      have e0 := h3 i (by omega)
      have p8 : nI (8 * t + (i + 1)) - 1 = nI (8 * t + i) := nI_pred _
      have stA : ∀ c, X9_oftenOver_L6 28 (nI t) (a1 / 10) (a1 - a1 / 10 * 10) (k + 1) c (nI (i + 1)) Ma = X9_oftenOver_L6 28 (nI t) (a1 / 10) (a1 - a1 / 10 * 10) k (if Mb.1 95 (8 * t + (i + 1)) = a1 / 10 then (if Mb.1 95 (8 * t + i) = a1 - a1 / 10 * 10 then c + 1 else c) else c) (nI (i + 1 + 1)) Ma := by
        intro c
        rw [X9_oftenOver_L6, n_inb ht (by omega), gd_t, n_cl (by omega), h1, i_ltP (by omega) (by omega), if_pos hin, w_nail (by decide) ht (by omega), bd_s, e1, nI_pred, w_nail (by decide) ht (by omega), bd_s, e0]
        unfold X9_oftenOver_b44
        rw [nI_1]
        split <;> rfl
      have stB : ∀ K c, X11_over_L54 a1 K (k + 1) c (nI t) (nI (i + 1)) Mb = X11_over_L54 a1 K k (if Mb.1 95 (8 * t + (i + 1)) = a1 / 10 then (if Mb.1 95 (8 * t + i) = a1 - a1 / 10 * 10 then c + 1 else c + 0) else c + 0) (nI t) (nI (i + 1 + 1)) Mb := by
        intro K c
        rw [X11_over_L54, n_inb ht (by omega), gd_t, n_cl (by omega), h2, i_ltP (by omega) (by omega), if_pos hin, nI_mul8, n_inb (by omega) (by omega), gd_t, n_cl (by omega), p8, n_inb (by omega) (by omega), gd_t, n_cl (by omega)]
        unfold X11_over_b110 X11_over_b111
        rw [nI_1]
        split
        · split <;> rfl
        · rfl
      by_cases c1 : Mb.1 95 (8 * t + (i + 1)) = a1 / 10
      · by_cases c2 : Mb.1 95 (8 * t + i) = a1 - a1 / 10 * 10
        · refine ⟨1 + s, fun c => ?_, fun K c => ?_⟩
          · rw [stA, if_pos c1, if_pos c2, s1, Int32.add_assoc]
          · rw [stB, if_pos c1, if_pos c2, s2, Int32.add_assoc]
        · refine ⟨s, fun c => ?_, fun K c => ?_⟩
          · rw [stA, if_pos c1, if_neg c2, s1]
          · rw [stB, if_pos c1, if_neg c2, s2, Int32.add_zero]
      · refine ⟨s, fun c => ?_, fun K c => ?_⟩
        · rw [stA, if_neg c1, s1]
        · rw [stB, if_neg c1, s2, Int32.add_zero]
    · refine ⟨0, fun c => ?_, fun K c => ?_⟩
      · rw [X9_oftenOver_L6, n_inb ht (by omega), gd_t, n_cl (by omega), h1, i_ltP (by omega) (by omega), if_neg hin, Int32.add_zero]
      · rw [X11_over_L54, n_inb ht (by omega), gd_t, n_cl (by omega), h2, i_ltP (by omega) (by omega), if_neg hin, Int32.add_zero]
theorem ov_2 {P T : Nat} {a1 : Int32} {Ma Mb : mm} (hT : T ≤ 6) (hW : rW 28 P T Ma Mb) (h4 : Ma.1 1 1 = nI T) (h6 : Mb.1 82 7 = nI T) : ∀ k t c, t ≤ T → T - t < k → ∃ v, X10_over_L49 a1 k c (nI t) Ma = some (v, Ma) ∧ X11_over_L43 a1 k c (nI t) Mb = some (v, Mb) := by
  intro k
  induction k with
  | zero => intro t c _ h; omega
  | succ k ih =>
    intro t c ht hk
    rw [X10_over_L49, X11_over_L43, h4, h6, i_ltP (by omega) (by omega), i_ltP (by omega) (by omega)]
    by_cases h : t < T
    · rw [if_pos h, if_pos h]
      obtain ⟨-, -, -, -, n, n1, n2, n3, n4⟩ := hW.1 t h
      obtain ⟨s, s1, s2⟩ := ov_1 (a1 := a1) (show t < 6 by omega) n1 n2 n3 n4 10000 0 (by omega) (by omega)
      unfold X9_oftenOver
      rw [show isO 9 28 = true from by decide, gd_t, show (1 : Int32) = nI (0 + 1) from rfl, s1, s2, bd_s, Int32.zero_add, show nI (0 + 1) = (1 : Int32) from rfl, nI_1]
      exact ih (t + 1) (c + s) (by omega) (by omega)
    · rw [if_neg h, if_neg h]
      exact ⟨c, rfl, rfl⟩
theorem op_over {P T N : Nat} {O : Option (List stp)} {Ma Mb : mm} (R : RR P T N O Ma Mb) (a : Int32) : ∃ v Ma' Mb', X10_over a Ma = some (v, Ma') ∧ X11_over a Mb = some (v, Mb') ∧ RR P T N O Ma' Mb' := by
  obtain ⟨hF, -, -, hW, -⟩ := id R.1
  obtain ⟨f1, f2, f3, f4, f5, f6, -⟩ := id hF
  unfold X10_over X11_over
  by_cases h : a < 0
  · rw [if_pos h, if_pos h]
    exact ⟨_, _, _, rfl, rfl, R⟩
  · rw [if_neg h, if_neg h, w_hasPerson f1 f3, w_isPerson f1 f5, bd_s, bd_s, i_P (bI_0 _), i_P (bI_0 _), w_hasPerson f1 f3, w_isPerson f1 f5, bd_s, bd_s, i_P (bI_0 _), i_P (bI_0 _)]
    by_cases h1 : 0 ≤ (a / 10).toInt ∧ (a / 10).toInt < P
    · rw [decide_eq_true h1, if_neg (c := true = false) (fun q => nomatch q), if_neg (c := true = false) (fun q => nomatch q)]
      by_cases h2 : 0 ≤ (a - a / 10 * 10).toInt ∧ (a - a / 10 * 10).toInt < P
      · rw [decide_eq_true h2, if_neg (c := true = false) (fun q => nomatch q), if_neg (c := true = false) (fun q => nomatch q)]
        by_cases h3 : a / 10 = a - a / 10 * 10
        · rw [if_pos h3, if_pos h3]
          exact ⟨_, _, _, rfl, rfl, R⟩
        · rw [if_neg h3, if_neg h3]
          obtain ⟨v, v1, v2⟩ := ov_2 (a1 := a) f2 hW f4 f6 10000 0 0 (by omega) (by omega)
          exact ⟨v, _, _, v1, v2, R⟩
      · rw [decide_eq_false h2, if_pos rfl, if_pos rfl]
        exact ⟨_, _, _, rfl, rfl, R⟩
    · rw [decide_eq_false h1, if_pos rfl, if_pos rfl]
      exact ⟨_, _, _, rfl, rfl, R⟩
