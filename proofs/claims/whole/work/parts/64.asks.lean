/-! ===== the whole relation; what the other side asks BEST for ===== -/
def RR (P T N : Nat) (O : Option (List stp)) (Ma Mb : mm) : Prop := RC P T N Ma Mb ∧ (lawA O Ma ∧ rFo O Ma ∧ RefOK Ma) ∧ lawB O Mb ∧ rM T N O Ma
theorem RC_th {P T N : Nat} {Ma Mb Ma' Mb' : mm} (R : RC P T N Ma Mb) (ea : ∀ k, (k ≤ 10 ∨ (28 ≤ k ∧ k ≤ 38) ∨ (50 ≤ k ∧ k ≤ 81)) → Ma'.1 k = Ma.1 k) (ea2 : ∀ k, 28 ≤ k → Ma'.2.1 k = Ma.2.1 k) (eb : ∀ k, ((82 < k ∧ k ≤ 98) ∨ 107 ≤ k) → Mb'.1 k = Mb.1 k) (eb2 : Mb'.2.1 115 = Mb.2.1 115) (e82 : ∀ j, (j < 27 ∨ 50 ≤ j) → Mb'.1 82 j = Mb.1 82 j) : RC P T N Ma' Mb' := by
  obtain ⟨hF, hP, hT, hW, hY, hI, hC, hTa, hA, hS⟩ := R
  have f1 := hF.1
  refine ⟨rF_c hF (Nat.le_refl _) ?_, rP_c hP ?_ f1 (fun i _ => by rw [eb 83 (by omega)]), rT_c hT (Nat.le_refl _) ?_ (fun i _ => by rw [eb 83 (by omega)]), rW_c hW (Nat.le_refl _) ?_ ?_, rY_c hY ?_, rI_c hI (Nat.le_refl _) (Nat.le_refl _) ?_ ?_, rC_c hC (Nat.le_refl _) (Nat.le_refl _) ?_, rTa_c hTa ?_, rA_c hA ?_, rS_c hS ?_ fun d hd => ⟨ea _ (by omega), ea2 _ (by omega)⟩⟩
  all_goals simp (disch := omega) only [ea, eb, eb2, e82, and_self, implies_true]
/-- the cells of the other side's thought -/
def EqU (M M' : mm) : Prop := M'.2.2 = M.2.2 ∧ (∀ k, k ≠ 82 → k ≠ 100 → k ≠ 102 → k ≠ 104 → k ≠ 106 → M'.1 k = M.1 k) ∧ (∀ k, k ≠ 101 → k ≠ 103 → k ≠ 105 → M'.2.1 k = M.2.1 k) ∧ ∀ j, (j < 27 ∨ 41 < j) → M'.1 82 j = M.1 82 j
theorem EqU_r (M : mm) : EqU M M := ⟨rfl, fun _ _ _ _ _ _ => rfl, fun _ _ _ _ => rfl, fun _ _ => rfl⟩
theorem EqU_t {M M' M'' : mm} (h : EqU M M') (h2 : EqU M' M'') : EqU M M'' := ⟨h2.1.trans h.1, fun k a b c d e => (h2.2.1 k a b c d e).trans (h.2.1 k a b c d e), fun k a b c => (h2.2.2.1 k a b c).trans (h.2.2.1 k a b c), fun j a => (h2.2.2.2 j a).trans (h.2.2.2 j a)⟩
theorem EqU_W {M M' : mm} (h : EqW M M') : EqU M M' := ⟨h.1, fun k a b c d _ => h.2.1 k a b c d, h.2.2.1, h.2.2.2⟩
theorem w_L50 (K : Int32 → mm → Option (Unit × mm)) {t : Nat} (ht : t < 6) : ∀ n x (M : mm), x ≤ 1200 → 1200 - x < n → X11_asksBest_L50 K n (nI t) (nI x) M = K (nI t) (sA M 106 (fun j => if 1200 * t + x ≤ j ∧ j < 1200 * t + 1200 then vp_nar .boolean (M.1 104 (4800 + (j - 1200 * t))) else M.1 106 j)) := by
  intro n
  induction n with
  | zero => intro x M _ h; omega
  | succ n ih =>
    intro x M hx hn
    rw [X11_asksBest_L50, show (1200 : Int32) = nI 1200 from rfl, show (4800 : Int32) = nI 4800 from rfl, i_ltP (by omega) (by omega)]
    by_cases h : x < 1200
    · rw [if_pos h, n_add, n_inb (by omega) (by omega), gd_t, n_mul, n_add, n_inb (by omega) (by omega), gd_t, lt_s_, n_cl (by omega), n_cl (by omega), nI_1, ih (x + 1) _ (by omega) (by omega), sA_sA]
      refine congrArg (fun z => K (nI t) (sA M 106 z)) (funext fun j => ?_)
      rw [sA_s, sA_n _ _ _ _ (by decide), upd_a]
      by_cases hj : j = 1200 * t + x
      · rw [if_neg (by omega), if_pos hj, if_pos (by omega), hj, show 1200 * t + x - 1200 * t = x from by omega]
      · rw [if_neg hj]
        by_cases h2 : 1200 * t + (x + 1) ≤ j ∧ j < 1200 * t + 1200
        · rw [if_pos h2, if_pos (by omega)]
        · rw [if_neg h2, if_neg (by omega)]
    · rw [if_neg h]
      refine congrArg (K (nI t)) (sA_same _ _ _ (funext fun j => ?_)).symm
      rw [if_neg (by omega)]
/-- the table of what BEST does now, for one thing -/
def bN (F : Nat) (O : Option (List stp)) (t : Nat) (Ma Mb : mm) : Prop := Ma.1 4 (tn (Ma.1 5 t)) = 4 → ∀ s l a, 1 ≤ s → s ≤ 3 → l < 3 → a < 100 → Mb.1 106 (1200 * t + pl 0 s l a) = bI (isB (cNow Ma O F t) 4 s l a)
theorem w_asksL2 {P T F : Nat} {O : Option (List stp)} {Ma : mm} (hP5 : P ≤ 5) (hT6 : T ≤ 6) (hF9 : F ≤ 9) : ∀ n t (Mb : mm), t ≤ T → T - t < n → rP P Ma Mb → rT P T Ma Mb → lawB O Mb → Mb.1 82 7 = nI T → Mb.1 82 19 = nI F → (∀ t', t' < t → bN F O t' Ma Mb) → ∃ Mb', X11_asksBest_L2 n (nI t) Mb = some ((), Mb') ∧ EqU Mb Mb' ∧ ∀ t', t' < T → bN F O t' Ma Mb' := by
  intro n
  induction n with
  | zero => intro t Mb _ h; omega
  | succ n ih =>
    intro t Mb ht hn hP hT hB h7 h19 hb
    rw [X11_asksBest_L2, h7, i_ltP (by omega) (by omega)]
    by_cases hlt : t < T
    · obtain ⟨⟨o, o1, o2, o3⟩, ⟨wo, w1, w2, w3⟩, ⟨bi, b1, b2, b3⟩, -⟩ := hT t hlt
      obtain ⟨⟨sk, k1, k2, k3, k4⟩, ⟨fe, f1, f2, f3⟩, wy, y1, y2, y3⟩ := hP.2 o o1
      have hto : tn (Ma.1 5 t) = o := by rw [o2, tn_nI (by omega)]
      have next : ∀ Mc, EqU Mb Mc → (∀ t', t' < t + 1 → bN F O t' Ma Mc) → ∃ Mb', X11_asksBest_L2 n (nI (t + 1)) Mc = some ((), Mb') ∧ EqU Mb Mb' ∧ ∀ t', t' < T → bN F O t' Ma Mb' := by
        intro Mc hc hbb
        have c83 : Mc.1 83 = Mb.1 83 := hc.2.1 83 (by decide) (by decide) (by decide) (by decide) (by decide)
        obtain ⟨Mb', q1, q2, q3⟩ := ih (t + 1) Mc (by omega) (by omega) (rP_c hP ⟨rfl, rfl, rfl⟩ hP5 (fun i _ => by rw [c83])) (rT_c hT (Nat.le_refl _) ⟨rfl, rfl, rfl, rfl, hc.2.1 90 (by decide) (by decide) (by decide) (by decide) (by decide)⟩ (fun i _ => by rw [c83])) (lawB_N hB ⟨hc.2.2.2 26 (by omega), hc.2.1 99 (by decide) (by decide) (by decide) (by decide) (by decide)⟩) (by rw [hc.2.2.2 7 (by omega)]; exact h7) (by rw [hc.2.2.2 19 (by omega)]; exact h19) hbb
        exact ⟨Mb', q1, EqU_t hc q2, q3⟩
      rw [if_pos hlt, n_inb (show t < 6 by omega) (by omega), gd_t, gd_t, n_cl (show t < 2 ^ 31 by omega), o3, l_10, n_inb (by omega) (by omega), gd_t, n_cl (by omega), y3, show (4 : Int32) = nI 4 from rfl, i_eqP (by omega) (by omega)]
      unfold X11_asksBest_b85
      by_cases h4 : wy = 4
      · rw [if_pos h4]
        obtain ⟨M1, e1, e2, e3⟩ := w_thinksOf (wy := 4) hB (show t < 6 by omega) (show o < 5 by omega) k4 f3 w3 b3 h19 ⟨k1, k2, by omega, hF9⟩
        obtain ⟨f, g, e4, e5⟩ := w_worksOut (c := cOf sk fe 4 wo bi F O t) (y := 4) (by omega) e3
        rw [e1, bd_s, e4, bd_s]
        have e6 := w_L50 (fun x1 M => (X11_asksBest_L2 n) (x1 + 1) M) (show t < 6 by omega) 10000 0 (mv M1 f g) (by omega) (by omega)
        rw [show nI 0 = (0 : Int32) from rfl] at e6
        rw [e6, nI_1]
        refine next _ (EqU_t (EqU_t (EqU_W e2) (EqU_W (EqW_mv M1 f g))) ⟨rfl, fun k _ _ _ _ e => sA_n _ _ _ _ e, fun _ _ _ _ => rfl, fun j _ => by rw [sA_n _ _ _ _ (by decide)]⟩) fun t' ht' => ?_
        intro h4' s l a s1 s3 l3 a3
        have hpl : pl 0 s l a < 1200 := by unfold pl; omega
        rw [sA_s]
        by_cases htt : t' = t
        · subst htt
          rw [if_pos (by omega), show 4800 + (1200 * t' + pl 0 s l a - 1200 * t') = pl 4 s l a from by unfold pl; omega, mv_104, (e5 4 s l a (by omega) (by omega) s1 s3 l3 a3).2, nar_b, cNow_of o2 k3 f2 w2 b2 (by omega) k2 f1 w1 b1]
        · rw [if_neg (by omega), mv_1 _ _ _ 106 (by decide), e2.2.1 106 (by decide) (by decide) (by decide) (by decide)]
          exact hb t' (by omega) h4' s l a s1 s3 l3 a3
      · rw [if_neg h4, nI_1]
        refine next Mb (EqU_r Mb) fun t' ht' => ?_
        by_cases htt : t' = t
        · subst htt
          intro h4'
          rw [hto, y2, show (4 : Int32) = nI 4 from rfl, n_eq (by omega) (by omega)] at h4'
          exact absurd h4' h4
        · exact hb t' (by omega)
    · rw [if_neg hlt]
      exact ⟨Mb, rfl, EqU_r Mb, fun t' ht' => hb t' (by omega)⟩
theorem w_asksBest {P T F : Nat} {O : Option (List stp)} {Ma Mb : mm} (hP5 : P ≤ 5) (hT6 : T ≤ 6) (hF9 : F ≤ 9) (hP : rP P Ma Mb) (hT : rT P T Ma Mb) (hB : lawB O Mb) (h7 : Mb.1 82 7 = nI T) (h19 : Mb.1 82 19 = nI F) : ∃ Mb', X11_asksBest Mb = some ((), Mb') ∧ EqU Mb Mb' ∧ ∀ t', t' < T → bN F O t' Ma Mb' := by
  have := w_asksL2 (O := O) hP5 hT6 hF9 10000 0 Mb (by omega) (by omega) hP hT hB h7 h19 (fun t' h => by omega)
  exact this
