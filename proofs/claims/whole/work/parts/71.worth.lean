/-! ===== the calls worth, gift ===== -/
theorem rg_try (a b c d e w x y z p q : Int64) : a * 12 * p + b * ((c * 12 - c * w + d * x) * q) = a * (12 * p) + b * (c * ((12 - w) * q) + d * (x * q)) := by grind
theorem RR_T {P T N : Nat} {O : Option (List stp)} {Ma Mb Ma' : mm} (R : RR P T N O Ma Mb) (e : EqT Ma Ma') (hL : lawA O Ma' ∧ rFo O Ma' ∧ RefOK Ma') : RR P T N O Ma' Mb := by
  refine ⟨RC_th R.1 (fun k hk => e.1 k (by omega) (by omega) (by omega)) (fun k hk => e.2.1 k (by omega) (by omega) (by omega) (by omega) (by omega)) (fun _ _ => rfl) rfl (fun _ _ => rfl), hL, R.2.2.1, rM_c R.2.2.2 (Nat.le_refl _) (by rw [e.1 1 (by omega) (by omega) (by omega)]) (e.2.1 26 (by omega) (by omega) (by omega) (by omega) (by omega)) (fun F t _ => cNow_c O F t (e.1 2 (by omega) (by omega) (by omega)) (e.1 3 (by omega) (by omega) (by omega)) (e.1 5 (by omega) (by omega) (by omega)) (e.1 6 (by omega) (by omega) (by omega)) (e.1 7 (by omega) (by omega) (by omega)))⟩
theorem RR_U {P T N : Nat} {O : Option (List stp)} {Ma Mb Mb' : mm} (R : RR P T N O Ma Mb) (u : EqU Mb Mb') : RR P T N O Ma Mb' :=
  ⟨RC_th R.1 (fun _ _ => rfl) (fun _ _ => rfl) (fun k hk => u.2.1 k (by omega) (by omega) (by omega) (by omega) (by omega)) (u.2.2.1 115 (by omega) (by omega) (by omega)) (fun j hj => u.2.2.2 j (by omega)), R.2.1, lawB_N R.2.2.1 ⟨u.2.2.2 26 (by omega), u.2.1 99 (by omega) (by omega) (by omega) (by omega) (by omega)⟩, R.2.2.2⟩
/-- a thing and years, told in one -/
theorem w_ty {T : Nat} {Ma Mb : mm} (hT : T ≤ 6) (h1 : Ma.1 1 1 = nI T) (h2 : Mb.1 82 7 = nI T) (a : Int32) : ∃ c : Bool, X10_isThought a Ma = some (bI c, Ma) ∧ X11_isTy a Mb = some (bI c, Mb) ∧ (c = true → ∃ t y, t < T ∧ y ≤ 6 ∧ a / 10 = nI t ∧ a - a / 10 * 10 = nI y) := by
  unfold X10_isThought X11_isTy
  by_cases h : a < 0
  · rw [if_pos h, if_pos h]
    exact ⟨false, rfl, rfl, fun q => nomatch q⟩
  · rw [if_neg h, if_neg h]
    obtain ⟨x, hx, rfl⟩ : ∃ x : Nat, x < 2 ^ 31 ∧ a = nI x := by
      rw [q_lt, z32_0] at h
      have := Int32.toInt_lt a
      obtain ⟨i, i1, i2⟩ := q_ex (a := a) (n := 2 ^ 31) (by omega) (by omega) (by omega)
      exact ⟨i, i1, i2⟩
    have e1 : nI x / 10 = nI (x / 10) := n_div (b := 10) hx (by omega)
    have e2 : nI x - nI x / 10 * 10 = nI (x % 10) := by
      rw [e1, show (10 : Int32) = nI 10 from rfl, n_mul, n_sub (by omega)]
      congr 1
      omega
    rw [e2, e1, w_hasThing hT h1, w_isThing hT h2, nI_toInt (show x / 10 < 2 ^ 31 by omega), show (6 : Int32) = nI 6 from rfl, bd_s, bd_s, i_ltP (by omega) (by omega), i_P (bI_0 _), i_P (bI_0 _), i_ltP (by omega) (by omega)]
    by_cases h6 : 6 < x % 10
    · rw [if_pos h6, if_pos h6]
      refine ⟨false, rfl, ?_, fun q => nomatch q⟩
      split <;> rfl
    · rw [if_neg h6, if_neg h6]
      by_cases ht : x / 10 < T
      · rw [decide_eq_true (by omega), if_neg (c := true = false) (fun q => nomatch q), if_neg (c := true = false) (fun q => nomatch q)]
        exact ⟨true, rfl, rfl, fun _ => ⟨x / 10, x % 10, ht, by omega, rfl, rfl⟩⟩
      · rw [decide_eq_false (by omega), if_pos rfl, if_pos rfl]
        exact ⟨false, rfl, rfl, fun q => nomatch q⟩
/-- what the other side works out for one who owns it -/
theorem w_bestOf {P t p sk fe wy wo bi F s a y : Nat} {O : Option (List stp)} {Mb : mm} (hB : lawB O Mb) (ht : t < 6) (hp : p < 5) (hP : P ≤ 5) (h1 : Mb.1 83 p = nI sk) (h2 : Mb.1 83 (5 + p) = nI fe) (h3 : Mb.1 83 (15 + t) = nI wo) (h4 : Mb.1 83 (21 + t) = nI bi) (h5 : Mb.1 82 19 = nI F) (k1 : 1 ≤ sk ∧ sk ≤ 3 ∧ wy ≤ 4 ∧ F ≤ 9) (hy : y ≤ 6) (hs : Mb.1 91 t = nI s) (hs1 : 1 ≤ s) (hs3 : s ≤ 3) (ha : Mb.1 94 t = nI a) (ha9 : a ≤ 99) (hl : Mb.1 92 t = -2 ∨ ∃ p, p < P ∧ Mb.1 92 t = nI p) : ∃ Mb', X11_bestOf (nI t) (nI p) (nI y) (nI wy) Mb = some (vV (cOf sk fe wy wo bi F O t) y s (lO (Mb.1 92 t) p) a, Mb') ∧ EqU Mb Mb' ∧ ∀ k, k ≤ 6 → Mb'.2.1 101 k = pw12 k := by
  unfold X11_bestOf
  obtain ⟨M1, e1, e2, e3⟩ := w_thinksOf (wy := wy) hB ht hp h1 h2 h3 h4 h5 k1
  obtain ⟨f, g, e4, e5⟩ := w_worksOut hy e3
  have hlt := lO_lt (Mb.1 92 t) p
  have c91 : (mv M1 f g).1 91 = Mb.1 91 := by rw [mv_1 _ _ _ 91 (by decide)]; exact e2.2.1 91 (by decide) (by decide) (by decide) (by decide)
  have c92 : (mv M1 f g).1 92 = Mb.1 92 := by rw [mv_1 _ _ _ 92 (by decide)]; exact e2.2.1 92 (by decide) (by decide) (by decide) (by decide)
  have c94 : (mv M1 f g).1 94 = Mb.1 94 := by rw [mv_1 _ _ _ 94 (by decide)]; exact e2.2.1 94 (by decide) (by decide) (by decide) (by decide)
  rw [e1, bd_s, e4, bd_s, n_inb ht (by omega), gd_t, w_sortFor ht hP (by rw [c92]; exact hl), bd_s, gd_t, n_cl (by omega), c91, c92, c94, hs, ha, w_placeOf, bd_s, n_inb (pl_lt hy hs3 hlt (by omega)) (by omega), gd_t, n_cl (by have := pl_lt hy hs3 hlt (show a < 100 by omega); omega), mv_103, (e5 y s (lO (Mb.1 92 t) p) a (Nat.le_refl _) hy hs1 hs3 hlt (by omega)).1]
  exact ⟨_, rfl, EqU_t (EqU_W e2) (EqU_W (EqW_mv M1 f g)), fun k hk => by rw [mv_2 _ _ _ _ (by decide)]; exact e3.2.2.1 k hk⟩
theorem op_worth {P T N : Nat} {O : Option (List stp)} {Ma Mb : mm} (R : RR P T N O Ma Mb) (a b c : Int32) : ∃ v Ma' Mb', X10_worth a b c Ma = some (v, Ma') ∧ X11_worth a b c Mb = some (v, Mb') ∧ RR P T N O Ma' Mb' := by
  obtain ⟨RC0, hL, hB, hM⟩ := id R
  obtain ⟨hF, hP, hT, hW, -⟩ := id RC0
  obtain ⟨f1, f2, f3, f4, f5, f6, ⟨F, F1, F2, F3⟩, -, -⟩ := id hF
  obtain ⟨ok, t1, t2, t3⟩ := w_ty f2 f4 f6 a
  unfold X10_worth X11_worth
  rw [t1, t2, bd_s, bd_s, i_P (bI_0 _), i_P (bI_0 _)]
  cases ok with
  | false => exact ⟨_, _, _, rfl, rfl, R⟩
  | true =>
    obtain ⟨t, y, ht, hy, ea, ey⟩ := t3 rfl
    rw [if_neg (c := true = false) (fun q => nomatch q), if_neg (c := true = false) (fun q => nomatch q), w_zeroOne, bd_s, w_zeroOne, bd_s, w_within, bd_s, w_within, bd_s, q_i64, q_i64, z64_0, z64_1, i_P (bI_0 _), i_P (bI_0 _), i_P (bI_0 _), i_P (bI_0 _)]
    by_cases hb : 0 ≤ b.toInt ∧ b.toInt ≤ 1
    · rw [decide_eq_true hb, if_neg (c := true = false) (fun q => nomatch q), if_neg (c := true = false) (fun q => nomatch q)]
      rcases q_rng c 0 1 (by omega) with hc | ⟨pt, pt0, pt1, rfl⟩
      · rw [decide_eq_false (p := 0 ≤ c.toInt ∧ c.toInt ≤ 1) (by simpa using hc), if_pos (c := false = false) rfl, if_pos (c := false = false) rfl]
        exact ⟨_, _, _, rfl, rfl, R⟩
      · rw [nI_toInt (by omega), decide_eq_true (show (0 : Int) ≤ pt ∧ (pt : Int) ≤ 1 by omega), if_neg (c := true = false) (fun q => nomatch q), if_neg (c := true = false) (fun q => nomatch q)]
        obtain ⟨⟨o, o1, o2, o3⟩, ⟨wo, w1, w2, w3⟩, ⟨bi, b1, b2, b3⟩, -⟩ := hT t ht
        obtain ⟨⟨sk, k1, k2, k3, k4⟩, ⟨fe, g1, g2, g3⟩, wy, y1, y2, y3⟩ := hP.2 o o1
        obtain ⟨⟨s, s1, s2, s3, s4⟩, ⟨l1, l2⟩, -, ⟨ag, a1, a2, a3⟩, -⟩ := hW.1 t ht
        have hl := lO_lt (Ma.1 30 t) o
        -- by a way
        have go : ∀ w, w ≤ 4 → ∃ v Ma' Mb', X10_worth_b118 a b (nI pt) (nI t) (nI y) (nI w) (cs2 (cs1 Ma t o sk fe) (lO (Ma.1 30 t) o) ag) = some (v, Ma') ∧ X11_worth_b76 a b (nI pt) (nI t) (nI o) (nI y) (nI w) Mb = some (v, Mb') ∧ RR P T N O Ma' Mb' := by
          intro w hw4
          obtain ⟨A1, q1, q2, q3, q4, q5, q6, -⟩ := w_thinks (sk := sk) (fe := fe) (wy := w) (p := o) (y := y) (show t < 6 by omega) hl a1 hy ⟨k1, k2, hw4, F1, b1⟩ w2 b2 F2 hL.1 hL.2.1 hL.2.2
          obtain ⟨B1, r1, r2, r3⟩ := w_bestOf (P := P) (sk := sk) (wy := w) hB (show t < 6 by omega) (show o < 5 by omega) f1 k4 g3 w3 b3 F3 ⟨k1, k2, hw4, F1⟩ hy s4 s1 s2 a3 a1 (by rw [← l1]; exact l2)
          unfold X10_worth_b118 X11_worth_b76
          have c29 : A1.1 (28 + 1) t = nI s := by rw [q2.1 29 (by decide) (by decide) (by decide)]; exact s3
          rw [q1, bd_s, n_inb (show t < 6 by omega) (by omega), gd_t, n_cl (by omega), c29, w_worthAt (c := cOf sk fe w wo bi F O t) q4 hw4 s2, bd_s, (q6 s s1 s2).1, (q6 s s1 s2).2, fin_V, ey, w_fraction _ hy pt1, bd_s, r1, bd_s, n_inb (by omega) (by omega), gd_t, n_cl (by omega), r3 y hy, ← l1, w_partOf _ hy pt1 (fun _ => rfl), bd_s]
          exact ⟨_, A1, B1, rfl, rfl, RR_U (RR_T R q2 q3) r2⟩
        have c3 : (cs1 Ma t o sk fe).1 21 3 = nI o := by
          unfold cs1
          simp (disch := decide) only [sA_s, upd_n, upd_s]
        have c30 : ∀ k, k ≠ 21 → (cs1 Ma t o sk fe).1 k = Ma.1 k := fun k hk => sA_n _ _ _ _ hk
        have c4 : (cs2 (cs1 Ma t o sk fe) (lO (Ma.1 30 t) o) ag).1 4 = Ma.1 4 := (sA_n _ _ _ _ (by decide)).trans (c30 4 (by decide))
        rw [ey, ea, n_inb (show t < 6 by omega) (by omega), gd_t, gd_t, n_cl (show t < 2 ^ 31 by omega), o2, o3, n_inb (show o < 5 by omega) (by omega), gd_t, n_cl (show o < 2 ^ 31 by omega), k3, w_consider (show o < 5 by omega) g2, bd_s, gd_t, gd_t, c30 _ (by decide), c30 _ (by decide), show (28 + 4 : Nat) = 32 from rfl, show (28 + 2 : Nat) = 30 from rfl, a2, w_start c3, bd_s, c4, y2, gd_t, gd_t, l_10, n_inb (by omega) (by omega), gd_t, n_cl (by omega), y3]
        by_cases hb0 : b = 0
        · rw [if_pos hb0, if_neg (by rw [hb0]; decide)]
          exact go wy y1
        · have hb1 : b = 1 := by
            rw [q_eq, z32_0] at hb0
            rw [q_eq, z32_1]; omega
          rw [if_neg hb0, if_pos hb1]
          exact go 4 (by omega)
    · rw [decide_eq_false hb, if_pos (c := false = false) rfl, if_pos (c := false = false) rfl]
      exact ⟨_, _, _, rfl, rfl, R⟩
