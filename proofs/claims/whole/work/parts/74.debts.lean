/-! ===== the calls smith, debts ===== -/
theorem EqT_X {M M' : mm} (h : EqX M M') : EqT M M' := ⟨fun k a b _ => h.2 k a b, fun k _ _ _ _ _ => by rw [h.1], by rw [h.1]⟩
theorem RR_X {P T N : Nat} {O : Option (List stp)} {Ma Mb Ma' : mm} (R : RR P T N O Ma Mb) (e : EqX Ma Ma') (hF : rFo O Ma') : RR P T N O Ma' Mb := by
  refine RR_T R (EqT_X e) ⟨lawA_X R.2.1.1 ⟨e.2 16 (by decide) (by decide), e.2 17 (by decide) (by decide), e.2 18 (by decide) (by decide)⟩, hF, ?_⟩
  have := R.2.1.2.2
  unfold RefOK at this ⊢
  rw [e.1]
  exact this
theorem w_thinks2 {sk fe wy wo bi F t l a y : Nat} {O : Option (List stp)} {M : mm} (e2 : M.1 21 2 = nI t) (e4 : M.1 21 4 = nI sk) (e5 : M.1 21 5 = nI fe) (ht : t < 6) (hl : l < 3) (ha : a ≤ 99) (hy : y ≤ 6) (hk : 1 ≤ sk ∧ sk ≤ 3 ∧ wy ≤ 4 ∧ F ≤ 9 ∧ bi ≤ 99) (h6 : M.1 6 t = nI wo) (h7 : M.1 7 t = nI bi) (h2 : M.1 1 2 = nI F) (hA : lawA O M) (hF : rFo O M) (hR : RefOK M) : ∃ M', X4_think (nI y) (nI wy) (cs2 M l a) = some ((), M') ∧ EqT M M' ∧ (lawA O M' ∧ rFo O M' ∧ RefOK M') ∧ M'.1 21 8 = nI wy ∧ finM (cOf sk fe wy wo bi F O t) l a y M' := by
  have hC : tC (cOf sk fe wy wo bi F O t) O t l a := ⟨⟨ht, hl, ha⟩, hk, rfl⟩
  have hS : tS (cOf sk fe wy wo bi F O t) O t l a (sA (cs2 M l a) 21 (upd ((cs2 M l a).1 21) 8 (nI wy))) := by
    unfold cs2
    simp only [sA_s, sA_sA]
    refine ⟨⟨?_, ?_, ?_, ?_, ?_, ?_⟩, ⟨?_, ?_, ?_⟩, ?_, ?_, hR⟩
    · simp (disch := decide) only [sA_s, upd_n, upd_s]; exact e2
    · simp (disch := decide) only [sA_s, upd_n, upd_s]; exact e4
    · simp (disch := decide) only [sA_s, upd_n, upd_s]; exact e5
    · simp (disch := decide) only [sA_s, upd_n, upd_s]
    · simp (disch := decide) only [sA_s, upd_n, upd_s]
    · simp (disch := decide) only [sA_s, upd_s]; rfl
    · rw [sA_n _ _ _ _ (by decide)]; exact h6
    · rw [sA_n _ _ _ _ (by decide)]; exact h7
    · rw [sA_n _ _ _ _ (by decide)]; exact h2
    · exact lawA_X hA ⟨sA_n _ _ _ _ (by decide), sA_n _ _ _ _ (by decide), sA_n _ _ _ _ (by decide)⟩
    · intro t s a l k1 k2 k3 k4 k5
      rw [sA_n _ _ _ _ (by decide)]
      exact hF t s a l k1 k2 k3 k4 k5
  obtain ⟨M', e, k1, k2, k3⟩ := w_think hC hy hS
  exact ⟨M', e, EqT_t (EqT_cs2 M l a) (EqT_K k1), k2.2.2, k2.1.2.2.2.2.2, k3⟩
theorem w_leftAt {s : Nat} (hs : s ≤ 3) (M : mm) : X4_leftAt (nI s) M = some (M.2.1 24 s, M) := by
  unfold X4_leftAt
  rw [n_inb (by omega) (by omega), gd_t, n_cl (by omega)]
theorem op_smith {P T N : Nat} {O : Option (List stp)} {Ma Mb : mm} (R : RR P T N O Ma Mb) (a q b c : Int32) : ∃ v Ma' Mb', X10_smith a q b c Ma = some (v, Ma') ∧ X11_smith a q b c Mb = some (v, Mb') ∧ RR P T N O Ma' Mb' := by
  obtain ⟨RC0, hL, hB, hM⟩ := id R
  obtain ⟨hF, hP, hT, hW, -⟩ := id RC0
  obtain ⟨f1, f2, f3, f4, f5, f6, ⟨F, F1, F2, F3⟩, -, -⟩ := id hF
  obtain ⟨ok, t1, t2, t3⟩ := w_ty f2 f4 f6 a
  unfold X10_smith X11_smith
  rw [t1, t2, bd_s, bd_s, i_P (bI_0 _), i_P (bI_0 _)]
  cases ok with
  | false => exact ⟨_, _, _, rfl, rfl, R⟩
  | true =>
    obtain ⟨t, y, ht, hy, ea, ey⟩ := t3 rfl
    rw [if_neg (c := true = false) (fun q => nomatch q), if_neg (c := true = false) (fun q => nomatch q), w_hasPerson f1 f3, bd_s, w_isPerson f1 f5, bd_s, i_P (bI_0 _), i_P (bI_0 _)]
    by_cases hq : 0 ≤ q.toInt ∧ q.toInt < P
    · obtain ⟨p, p1, rfl⟩ := q_ex (n := P) hq.1 hq.2 (by omega)
      obtain ⟨⟨o, o1, o2, o3⟩, ⟨wo, w1, w2, w3⟩, ⟨bi, b1, b2, b3⟩, -⟩ := hT t ht
      obtain ⟨⟨sk, k1, k2, k3, k4⟩, ⟨fe, g1, g2, g3⟩, -⟩ := hP.2 o o1
      obtain ⟨⟨sq, j1, j2, j3, j4⟩, -⟩ := hP.2 p p1
      obtain ⟨⟨s, s1, s2, s3, s4⟩, ⟨l1, l2⟩, -, ⟨ag, a1, a2, a3⟩, -⟩ := hW.1 t ht
      have l1' : Ma.1 30 t = Mb.1 92 t := l1
      rw [decide_eq_true hq, if_neg (c := true = false) (fun q => nomatch q), if_neg (c := true = false) (fun q => nomatch q), ey, ea, n_inb (show t < 6 by omega) (by omega), gd_t, gd_t, n_cl (show t < 2 ^ 31 by omega), o2, o3]
      by_cases hpo : nI p = nI o
      · rw [if_pos hpo, if_pos hpo]
        exact ⟨_, _, _, rfl, rfl, R⟩
      · rw [if_neg hpo, if_neg hpo, w_zeroOne, bd_s, w_zeroOne, bd_s, w_within, bd_s, w_within, bd_s, q_i64, q_i64, z64_0, z64_1, i_P (bI_0 _), i_P (bI_0 _), i_P (bI_0 _), i_P (bI_0 _)]
        by_cases hb : 0 ≤ b.toInt ∧ b.toInt ≤ 1
        · rw [decide_eq_true hb, if_neg (c := true = false) (fun q => nomatch q), if_neg (c := true = false) (fun q => nomatch q)]
          rcases q_rng c 0 1 (by omega) with hc | ⟨pt, pt0, pt1, rfl⟩
          · rw [decide_eq_false (p := 0 ≤ c.toInt ∧ c.toInt ≤ 1) (by simpa using hc), if_pos (c := false = false) rfl, if_pos (c := false = false) rfl]
            exact ⟨_, _, _, rfl, rfl, R⟩
          · have hm1 : 1 ≤ mx s sq := by unfold mx; split <;> omega
            have hm3 : mx s sq ≤ 3 := by unfold mx; split <;> omega
            have em : (if nI s < nI sq then nI sq else nI s) = nI (mx s sq) := by
              rw [i_ltP (by omega) (by omega)]
              unfold mx
              split <;> rfl
            have em2 : (if nI s < nI sq then X11_smith_b98 a (nI p) b (nI pt) (nI t) (nI y) (nI sq) Mb else X11_smith_b98 a (nI p) b (nI pt) (nI t) (nI y) (nI s) Mb) = X11_smith_b98 a (nI p) b (nI pt) (nI t) (nI y) (nI (mx s sq)) Mb := by
              rw [i_ltP (by omega) (by omega)]
              unfold mx
              split <;> rfl
            have s3' : Ma.1 (28 + 1) t = nI s := s3
            rw [nI_toInt (by omega), decide_eq_true (show (0 : Int) ≤ pt ∧ (pt : Int) ≤ 1 by omega), if_neg (c := true = false) (fun q => nomatch q), if_neg (c := true = false) (fun q => nomatch q), gd_t, gd_t, n_inb (show p < 5 by omega) (by omega), gd_t, n_inb (show p < 33 by omega) (by omega), gd_t, gd_t, gd_t, gd_t, n_cl (show p < 2 ^ 31 by omega), s3', j3, s4, j4, em, em2, lt_s_]
            unfold X11_smith_b98
            obtain ⟨B1, e1, e2, e3⟩ := w_thinksOf (sk := sk) (wy := 4) hB (show t < 6 by omega) (show o < 5 by omega) k4 g3 w3 b3 F3 ⟨k1, k2, by omega, F1⟩
            rw [show nI 4 = (4 : Int32) from rfl] at e1
            have m : ∀ k, k ≠ 82 → k ≠ 100 → k ≠ 102 → k ≠ 104 → B1.1 k = Mb.1 k := e2.2.1
            rw [n_inb (show t < 6 by omega) (by omega), gd_t, n_cl (show t < 2 ^ 31 by omega), o3, e1, bd_s]
            by_cases hb1 : b = 1
            · obtain ⟨A1, q1, q2, q3⟩ := w_risk (c := cOf sk fe 4 wo bi F O t) (s := mx s sq) (a := 0) (y := y) (show t < 6 by omega) hm1 hm3 (by omega) hy rfl rfl F1 hL.1 hL.2.1 F2 b2
              obtain ⟨f, r1⟩ := w_paysFrom (c := cOf sk fe 4 wo bi F O t) (y := y) (s := mx s sq) (a := 0) hy hm1 hm3 (by omega) (nI t) e3
              rw [show nI 0 = (0 : Int32) from rfl] at q1 r1
              have e83 : B1.1 83 (21 + t) = nI bi := by rw [m 83 (by decide) (by decide) (by decide) (by decide)]; exact b3
              rw [if_pos hb1, if_pos hb1, q1, bd_s, w_fraction _ hy pt1, bd_s, l_21, n_inb (by omega) (by omega), gd_t, r1, bd_s, n_inb (show y < 7 by omega) (by omega), gd_t, n_cl (show 21 + t < 2 ^ 31 by omega), n_cl (show y < 2 ^ 31 by omega), e83, sL_n _ _ _ _ (by decide), e3.2.2.1 y hy, show (nI bi).toInt64 = cL bi from rfl, w_partOf _ hy pt1 (fun _ => rfl), bd_s]
              exact ⟨_, _, _, rfl, rfl, RR_U (RR_X R q2 q3) (EqU_t (EqU_W e2) (EqU_W (EqW_105 _ f)))⟩
            · have hl := lO_lt (Ma.1 30 t) o
              have c3 : (cs1 Ma t o sk fe).1 21 3 = nI o := by
                unfold cs1
                simp (disch := decide) only [sA_s, upd_n, upd_s]
              have hl1 : lO (nI p) o = 1 := by
                unfold lO
                rw [if_neg (fun e => by rw [q_eq, nI_toInt (by omega), show ((-2 : Int32)).toInt = -2 from by decide] at e; omega), if_neg hpo]
              obtain ⟨A1, q1, q2, q3, q4, q5, q6, q7⟩ := w_thinks (sk := sk) (fe := fe) (wy := 4) (p := o) (l := 1) (a := 0) (y := y) (show t < 6 by omega) (by omega) (by omega) hy ⟨k1, k2, by omega, F1, b1⟩ w2 b2 F2 hL.1 hL.2.1 hL.2.2
              have i2 : A1.1 21 2 = nI t := by
                rw [(q7 2).resolve_right (by omega)]
                unfold cs2 cs1
                simp (disch := decide) only [sA_s, upd_n, upd_s]
              have i4 : A1.1 21 4 = nI sk := by
                rw [(q7 4).resolve_right (by omega)]
                unfold cs2 cs1
                simp (disch := decide) only [sA_s, upd_n, upd_s]
              have i5 : A1.1 21 5 = nI fe := by
                rw [(q7 5).resolve_right (by omega)]
                unfold cs2 cs1
                simp (disch := decide) only [sA_s, upd_n, upd_s]
              have n_ : ∀ k, k ≠ 19 → k ≠ 20 → k ≠ 21 → A1.1 k = Ma.1 k := q2.1
              obtain ⟨A2, x1, x2, x3, x4, x5⟩ := w_thinks2 (wy := 4) (l := lO (Ma.1 30 t) o) (a := ag) (y := y) i2 i4 i5 (show t < 6 by omega) hl a1 hy ⟨k1, k2, by omega, F1, b1⟩ (by rw [n_ 6 (by decide) (by decide) (by decide)]; exact w2) (by rw [n_ 7 (by decide) (by decide) (by decide)]; exact b2) (by rw [n_ 1 (by decide) (by decide) (by decide)]; exact F2) q3.1 q3.2.1 q3.2.2
              have RA : RR P T N O A2 B1 := RR_U (RR_T (RR_T R q2 q3) x2 x3) (EqU_W e2)
              have d30 : A1.1 (28 + 2) t = Ma.1 30 t := by rw [n_ 30 (by decide) (by decide) (by decide)]
              have d32 : A1.1 (28 + 4) t = nI ag := by rw [n_ 32 (by decide) (by decide) (by decide)]; exact a2
              have d29 : A2.1 (28 + 1) t = nI s := by rw [x2.1 29 (by decide) (by decide) (by decide), n_ 29 (by decide) (by decide) (by decide)]; exact s3
              rw [show nI 4 = (4 : Int32) from rfl] at q1 x1
              have hst := w_start (M := cs1 Ma t o sk fe) (a := 0) c3 (nI p)
              rw [hl1, show nI 0 = (0 : Int32) from rfl] at hst
              rw [if_neg hb1, if_neg hb1, o2, n_inb (show o < 5 by omega) (by omega), gd_t, n_cl (show o < 2 ^ 31 by omega), k3, w_consider (show o < 5 by omega) g2, bd_s, hst, bd_s, q1, bd_s, w_leftAt hm3, bd_s, gd_t, gd_t, d30, d32, w_start q5, bd_s, x1, bd_s, gd_t, d29, w_leftAt s2, bd_s, (q6 _ hm1 hm3).1, (x5 s s1 s2).1, w_fraction _ hy pt1, bd_s]
              by_cases hy0 : y = 0
              · rw [if_pos (show nI y = 0 by rw [hy0]; rfl), hy0]
                refine ⟨_, A2, B1, rfl, ?_, RA⟩
                show some ((nI pt).toInt64, B1) = some (frV (0 - 0) 0 pt, B1)
                rw [Int64.sub_zero]
                unfold frV
                rw [if_pos rfl]
                rfl
              · obtain ⟨k, rfl⟩ : ∃ k, y = k + 1 := ⟨y - 1, by omega⟩
                rw [if_neg (show ¬ (nI (k + 1) = 0) by rw [show (0 : Int32) = nI 0 from rfl, n_eq (by omega) (by omega)]; omega)]
                obtain ⟨f, g, r1, r2⟩ := w_worksOut hy e3
                have hT2 : ∀ s l a, 1 ≤ s → s ≤ 3 → l < 3 → a < 100 → f (pl k s l a) = vV (cOf sk fe 4 wo bi F O t) k s l a := fun s l a s1 s3 l3 a3 => (r2 k s l a (by omega) (by omega) s1 s3 l3 a3).1
                have z1 := w_goes (g := g) (s := mx s sq) (l := 1) (a := 0) e3 hy hm1 hm3 (by omega) (by omega) hT2
                have z2 := w_goes (g := g) (s := s) (l := lO (Ma.1 30 t) o) (a := ag) e3 hy s1 s2 hl (by omega) hT2
                have m90 : (mv B1 f g).1 90 t = nI o := by rw [mv_1 _ _ _ 90 (by decide), m 90 (by decide) (by decide) (by decide) (by decide)]; exact o3
                have m91 : (mv B1 f g).1 91 t = nI s := by rw [mv_1 _ _ _ 91 (by decide), m 91 (by decide) (by decide) (by decide) (by decide)]; exact s4
                have m94 : (mv B1 f g).1 94 t = nI ag := by rw [mv_1 _ _ _ 94 (by decide), m 94 (by decide) (by decide) (by decide) (by decide)]; exact a3
                have m92 : (mv B1 f g).1 92 t = Ma.1 30 t := by rw [mv_1 _ _ _ 92 (by decide), m 92 (by decide) (by decide) (by decide) (by decide)]; exact l1'.symm
                have zs := w_sortFor (o := o) (P := P) (M := mv B1 f g) (show t < 6 by omega) f1 (by rw [m92]; exact l2)
                rw [m92] at zs
                rw [show nI 1 = (1 : Int32) from rfl, show nI 0 = (0 : Int32) from rfl] at z1
                rw [r1, bd_s, z1, bd_s, gd_t, gd_t, m90, zs, bd_s, gd_t, m91, m94, z2, bd_s, n_inb (show k + 1 < 7 by omega) (by omega), gd_t, n_cl (show k + 1 < 2 ^ 31 by omega), mv_2 _ _ _ _ (by decide), e3.2.2.1 (k + 1) hy]
                show ∃ v Ma' Mb', some (frV (gV (cOf sk fe 4 wo bi F O t) (vV (cOf sk fe 4 wo bi F O t) k) (pw12 k) (mx s sq) 1 0 - gV (cOf sk fe 4 wo bi F O t) (vV (cOf sk fe 4 wo bi F O t) k) (pw12 k) s (lO (Ma.1 30 t) o) ag) (k + 1) pt, A2) = some (v, Ma') ∧ _
                rw [w_partOf _ hy pt1 (fun _ => rfl), bd_s]
                exact ⟨_, _, _, rfl, rfl, RR_U RA (EqU_W (EqW_mv _ f g))⟩
        · rw [decide_eq_false hb, if_pos (c := false = false) rfl, if_pos (c := false = false) rfl]
          exact ⟨_, _, _, rfl, rfl, R⟩
    · rw [decide_eq_false hq, if_pos rfl, if_pos rfl]
      exact ⟨_, _, _, rfl, rfl, R⟩
