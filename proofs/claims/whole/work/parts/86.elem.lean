/-! ===== the calls element, put, keep, taken ===== -/
theorem RR_S {P T N : Nat} {O : Option (List stp)} {Ma Mb Ma' Mb' : mm} (R : RR P T N O Ma Mb) (ea : ∀ k, k < 70 → Ma'.1 k = Ma.1 k) (e26 : Ma'.2.1 26 = Ma.2.1 26) (e2 : Ma'.2.2 = Ma.2.2) (eb : ∀ k, k < 113 → Mb'.1 k = Mb.1 k) (hS' : rS Ma' Mb') : RR P T N O Ma' Mb' := by
  obtain ⟨⟨hF, hP, hT, hW, hY, hI, hC, hTa, hA, -⟩, hL, hB, hM⟩ := R
  have f1 := hF.1
  have rOK : RefOK Ma' := by
    have := hL.2.2
    unfold RefOK at this ⊢
    rw [e2]
    exact this
  refine ⟨⟨rF_c hF (Nat.le_refl _) ?_, rP_c hP ?_ f1 (fun i _ => by rw [eb 83 (by omega)]), rT_c hT (Nat.le_refl _) ?_ (fun i _ => by rw [eb 83 (by omega)]), rW_c hW (Nat.le_refl _) ?_ ?_, rY_c hY ?_, rI_c hI (Nat.le_refl _) (Nat.le_refl _) ?_ ?_, rC_c hC (Nat.le_refl _) (Nat.le_refl _) ?_, rTa_c hTa ?_, rA_c hA ?_, hS'⟩, ⟨lawA_X hL.1 ⟨ea 16 (by omega), ea 17 (by omega), ea 18 (by omega)⟩, fun t s a l k1 k2 k3 k4 k5 => by rw [ea 20 (by omega)]; exact hL.2.1 t s a l k1 k2 k3 k4 k5, rOK⟩, lawB_N hB ⟨by rw [eb 82 (by omega)], eb 99 (by omega)⟩, rM_c hM (Nat.le_refl _) (by rw [ea 1 (by omega)]) e26 (fun F t _ => cNow_c O F t (ea 2 (by omega)) (ea 3 (by omega)) (ea 5 (by omega)) (ea 6 (by omega)) (ea 7 (by omega)))⟩
  all_goals simp (disch := omega) only [ea, eb, and_self, implies_true]
theorem op_element {P T N : Nat} {O : Option (List stp)} {Ma Mb : mm} (R : RR P T N O Ma Mb) (a1 a2 : Int32) : ∃ v Ma' Mb', X10_element a1 a2 Ma = some (v, Ma') ∧ X11_element a1 a2 Mb = some (v, Mb') ∧ RR P T N O Ma' Mb' := by
  obtain ⟨-, -, -, -, -, -, -, -, -, hS⟩ := id R.1
  unfold X10_element X11_element
  rcases w_shelf a1 Ma Mb with ⟨h1, h2⟩ | ⟨d, hd, rfl, h1, h2⟩
  · have h3 : X11_refusal a1 a2 Mb = some (-1, Mb) := by
      unfold X11_refusal
      rw [h2, bd_s, if_pos rfl]
    rw [h1, h3, bd_s, bd_s, if_neg (by decide)]
    exact ⟨_, _, _, rfl, rfl, R⟩
  · obtain ⟨v, v1, v2, v3⟩ := w_refusal hd (hS d hd) a2
    rw [h1, bd_s, v2, bd_s]
    unfold opt
    simp only
    rw [sh_O d hd, gd_t, v1, bd_s]
    by_cases hv : v = 0
    · obtain ⟨s, n, i, -, n1, i1, rfl, -, -, -, -, -, g, -⟩ := v3 hv
      rw [if_pos hv, if_pos hv, n_inb (show i < 60 by omega) (by omega), gd_t, n_cl (show i < 2 ^ 31 by omega), show (60 : Int32) = nI 60 from rfl, n_mul, n_add, n_inb (show 60 * d + i < 360 by omega) (by omega), gd_t, n_cl (show 60 * d + i < 2 ^ 31 by omega), g i i1]
      exact ⟨_, _, _, rfl, rfl, R⟩
    · rw [if_neg hv, if_neg hv]
      exact ⟨_, _, _, rfl, rfl, R⟩
theorem w_kept {s w : Nat} {a : Int64} {Ma Mb : mm} (hw : isO 6 w = true) (hs : s ≤ 4) (h : Ma.1 w 2 = nI s) : ∃ v, X6_keptOf w a Ma = some (v, Ma) ∧ X11_asSort (nI s) a Mb = some (v, Mb) ∧ (s = 0 → -128 ≤ v.toInt ∧ v.toInt ≤ 127) := by
  unfold X6_keptOf X11_asSort
  rw [hw, gd_t, h]
  match s, hs with
  | 0, _ =>
    rw [if_pos (by decide), if_pos (by decide)]
    refine ⟨_, rfl, rfl, fun _ => ?_⟩
    rw [Int32.toInt_toInt64, Int8.toInt_toInt32]
    have g1 := Int8.le_toInt a.toInt32.toInt8
    have g2 := Int8.toInt_lt a.toInt32.toInt8
    omega
  | 1, _ =>
    rw [if_neg (by decide), if_pos (by decide), if_neg (by decide), if_pos (by decide)]
    exact ⟨_, rfl, rfl, fun q => nomatch q⟩
  | 2, _ =>
    rw [if_neg (by decide), if_neg (by decide), if_pos (by decide), if_neg (by decide), if_neg (by decide), if_pos (by decide)]
    exact ⟨_, rfl, rfl, fun q => nomatch q⟩
  | 3, _ =>
    rw [if_neg (by decide), if_neg (by decide), if_neg (by decide), if_pos (by decide), if_neg (by decide), if_neg (by decide), if_neg (by decide), if_neg (by decide)]
    exact ⟨_, rfl, rfl, fun q => nomatch q⟩
  | 4, _ =>
    rw [if_neg (show ¬ nI 4 = 0 by decide), if_neg (show ¬ nI 4 = 0 by decide), if_neg (show ¬ nI 4 = 1 by decide), if_neg (show ¬ nI 4 = 1 by decide), if_neg (show ¬ nI 4 = 2 by decide), if_neg (show ¬ nI 4 = 2 by decide), if_neg (show ¬ nI 4 = 3 by decide), if_pos (show nI 4 = 4 by decide)]
    by_cases h0 : lg_cmp a 0 = 0
    · rw [if_pos h0, if_pos h0]
      exact ⟨_, rfl, rfl, fun q => nomatch q⟩
    · rw [if_neg h0, if_neg h0]
      exact ⟨_, rfl, rfl, fun q => nomatch q⟩
  | k + 5, h => exact absurd h (by omega)
theorem op_put {P T N : Nat} {O : Option (List stp)} {Ma Mb : mm} (R : RR P T N O Ma Mb) (a1 a2 : Int32) (a3 : Int64) : ∃ v Ma' Mb', X10_put a1 a2 a3 Ma = some (v, Ma') ∧ X11_put a1 a2 a3 Mb = some (v, Mb') ∧ RR P T N O Ma' Mb' := by
  obtain ⟨-, -, -, -, -, -, -, -, -, hS⟩ := id R.1
  unfold X10_put X11_put X11_put_b37
  rcases w_shelf a1 Ma Mb with ⟨h1, h2⟩ | ⟨d, hd, rfl, h1, h2⟩
  · have h3 : X11_refusal a1 a2 Mb = some (-1, Mb) := by
      unfold X11_refusal
      rw [h2, bd_s, if_pos rfl]
    rw [h1, h3, bd_s, bd_s, if_neg (by decide), if_neg (by decide)]
    exact ⟨_, _, _, rfl, rfl, R⟩
  · obtain ⟨v, v1, v2, v3⟩ := w_refusal hd (hS d hd) a2
    rw [h1, bd_s, v2, bd_s]
    unfold opt
    simp only
    rw [sh_O d hd, gd_t, v1, bd_s]
    by_cases hv : v = 0
    · obtain ⟨s, n, i, s1, n1, i1, rfl, g1, g2, g3, g4, g5, g6, g7⟩ := v3 hv
      obtain ⟨x, x1, x2, x3⟩ := w_kept (a := a3) (Mb := Mb) (sh_O d hd) s1 g2
      have es : nI (50 + s) - 50 = nI s := by
        rw [show (50 : Int32) = nI 50 from rfl, n_sub (by omega)]
        congr 1
        omega
      rw [if_pos hv, if_pos hv, x1, bd_s, n_inb hd (by omega), gd_t, n_cl (show d < 2 ^ 31 by omega), g4, es, x2, bd_s, n_inb (show i < 60 by omega) (by omega), gd_t, n_cl (show i < 2 ^ 31 by omega), show (60 : Int32) = nI 60 from rfl, n_mul, n_add, n_inb (show 60 * d + i < 360 by omega) (by omega), gd_t, n_cl (show 60 * d + i < 2 ^ 31 by omega), lt_s_, lt_s_, if_pos hv]
      refine ⟨_, _, _, rfl, rfl, RR_S R (fun _ _ => rfl) (sL_n _ _ _ _ (by omega)) rfl (fun _ _ => rfl) fun e he => ?_⟩
      have base := hS e he
      by_cases hed : e = d
      · subst hed
        refine Or.inr (Or.inr ⟨s, n, s1, n1, g1, g2, g3, g4, g5, fun j hj => ?_, fun q j hj => ?_⟩)
        · rw [show 71 + 2 * e = 70 + 2 * e + 1 from by omega, sL_s, sL_s]
          by_cases hji : j = i
          · subst hji
            rw [updL_s, updL_s]
          · rw [updL_n _ _ _ _ hji, updL_n _ _ _ _ (by omega)]
            exact g6 j hj
        · rw [show 71 + 2 * e = 70 + 2 * e + 1 from by omega, sL_s]
          by_cases hji : j = i
          · subst hji
            rw [updL_s]
            exact x3 q
          · rw [updL_n _ _ _ _ hji]
            exact g7 q j hj
      · have ne : 71 + 2 * e ≠ 70 + 2 * d + 1 := by omega
        rcases base with h | h | ⟨s', n', q1, q2, q3, q4, q5, q6, q7, q8, q9⟩
        · exact Or.inl h
        · exact Or.inr (Or.inl h)
        · refine Or.inr (Or.inr ⟨s', n', q1, q2, q3, q4, q5, q6, q7, fun j hj => ?_, fun q j hj => ?_⟩)
          · rw [sL_n _ _ _ _ ne, sL_s, updL_n _ _ _ _ (by omega)]
            exact q8 j hj
          · rw [sL_n _ _ _ _ ne]
            exact q9 q j hj
    · rw [if_neg hv, if_neg hv, if_neg hv]
      exact ⟨_, _, _, rfl, rfl, R⟩
