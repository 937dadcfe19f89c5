/-! ===== the calls gift, now ===== -/
theorem op_gift {P T N : Nat} {O : Option (List stp)} {Ma Mb : mm} (R : RR P T N O Ma Mb) (a b c : Int32) : ∃ v Ma' Mb', X10_gift a b c Ma = some (v, Ma') ∧ X11_gift a b c Mb = some (v, Mb') ∧ RR P T N O Ma' Mb' := by
  obtain ⟨RC0, hL, hB, hM⟩ := id R
  obtain ⟨hF, hP, hT, hW, -⟩ := id RC0
  obtain ⟨f1, f2, f3, f4, f5, f6, ⟨F, F1, F2, F3⟩, -, -⟩ := id hF
  obtain ⟨ok, t1, t2, t3⟩ := w_ty f2 f4 f6 a
  unfold X10_gift X11_gift
  rw [t1, t2, bd_s, bd_s, i_P (bI_0 _), i_P (bI_0 _)]
  cases ok with
  | false => exact ⟨_, _, _, rfl, rfl, R⟩
  | true =>
    obtain ⟨t, y, ht, hy, ea, ey⟩ := t3 rfl
    rw [if_neg (c := true = false) (fun q => nomatch q), if_neg (c := true = false) (fun q => nomatch q), w_hasPerson f1 f3, bd_s, w_isPerson f1 f5, bd_s, i_P (bI_0 _), i_P (bI_0 _)]
    by_cases hb : 0 ≤ b.toInt ∧ b.toInt < P
    · obtain ⟨p, p1, rfl⟩ := q_ex (n := P) hb.1 hb.2 (by omega)
      obtain ⟨⟨o, o1, o2, o3⟩, ⟨wo, w1, w2, w3⟩, ⟨bi, b1, b2, b3⟩, -⟩ := hT t ht
      obtain ⟨⟨sk, k1, k2, k3, k4⟩, ⟨fe, g1, g2, g3⟩, -⟩ := hP.2 p p1
      obtain ⟨⟨s, s1, s2, s3, s4⟩, ⟨l1, l2⟩, -, ⟨ag, a1, a2, a3⟩, -⟩ := hW.1 t ht
      rw [decide_eq_true hb, if_neg (c := true = false) (fun q => nomatch q), if_neg (c := true = false) (fun q => nomatch q), ey, ea, n_inb (show t < 6 by omega) (by omega), gd_t, gd_t, n_cl (show t < 2 ^ 31 by omega), o2, o3]
      by_cases hpo : nI p = nI o
      · rw [if_pos hpo, if_pos hpo]
        exact ⟨_, _, _, rfl, rfl, R⟩
      · rw [if_neg hpo, if_neg hpo, w_zeroOne, bd_s, w_within, bd_s, q_i64, z64_0, z64_1, i_P (bI_0 _), i_P (bI_0 _)]
        rcases q_rng c 0 1 (by omega) with hc | ⟨pt, pt0, pt1, rfl⟩
        · rw [decide_eq_false (p := 0 ≤ c.toInt ∧ c.toInt ≤ 1) (by simpa using hc), if_pos (c := false = false) rfl, if_pos (c := false = false) rfl]
          exact ⟨_, _, _, rfl, rfl, R⟩
        · have hl := lO_lt (Ma.1 30 t) p
          have c3 : (cs1 Ma t p sk fe).1 21 3 = nI p := by
            unfold cs1
            simp (disch := decide) only [sA_s, upd_n, upd_s]
          have c30 : ∀ k, k ≠ 21 → (cs1 Ma t p sk fe).1 k = Ma.1 k := fun k hk => sA_n _ _ _ _ hk
          obtain ⟨A1, q1, q2, q3, q4, q5, q6, -⟩ := w_thinks (sk := sk) (fe := fe) (wy := 4) (p := p) (y := y) (show t < 6 by omega) hl a1 hy ⟨k1, k2, by omega, F1, b1⟩ w2 b2 F2 hL.1 hL.2.1 hL.2.2
          obtain ⟨B1, r1, r2, r3⟩ := w_bestOf (P := P) (sk := sk) (wy := 4) hB (show t < 6 by omega) (show p < 5 by omega) f1 k4 g3 w3 b3 F3 ⟨k1, k2, by omega, F1⟩ hy s4 s1 s2 a3 a1 (by rw [← l1]; exact l2)
          have c29 : A1.1 (28 + 1) t = nI s := by rw [q2.1 29 (by decide) (by decide) (by decide)]; exact s3
          rw [show nI 4 = (4 : Int32) from rfl] at q1 r1
          rw [nI_toInt (by omega), decide_eq_true (show (0 : Int) ≤ pt ∧ (pt : Int) ≤ 1 by omega), if_neg (c := true = false) (fun q => nomatch q), if_neg (c := true = false) (fun q => nomatch q), n_inb (show p < 5 by omega) (by omega), gd_t, n_cl (show p < 2 ^ 31 by omega), k3, w_consider (show p < 5 by omega) g2, bd_s, gd_t, gd_t, c30 _ (by decide), c30 _ (by decide), show (28 + 4 : Nat) = 32 from rfl, show (28 + 2 : Nat) = 30 from rfl, a2, w_start c3, bd_s, q1, bd_s, gd_t, c29, w_worthAt (c := cOf sk fe 4 wo bi F O t) q4 (by show (4 : Nat) ≤ 4; omega) s2, bd_s, (q6 s s1 s2).1, (q6 s s1 s2).2, fin_V, w_fraction _ hy pt1, bd_s, r1, bd_s, n_inb (show y < 7 by omega) (by omega), gd_t, n_cl (show y < 2 ^ 31 by omega), r3 y hy, ← l1, w_partOf _ hy pt1 (fun _ => rfl), bd_s]
          exact ⟨_, A1, B1, rfl, rfl, RR_U (RR_T R q2 q3) r2⟩
    · rw [decide_eq_false hb, if_pos rfl, if_pos rfl]
      exact ⟨_, _, _, rfl, rfl, R⟩
theorem E0_mv {c : cns} {M : mm} (h : E0 c M) (f : Nat → Int64) (g : Nat → Int32) : E0 c (mv M f g) := by
  unfold E0 at h ⊢
  rw [mv_1 _ _ _ 82 (by decide), mv_1 _ _ _ 102 (by decide), mv_2 _ _ _ 101 (by decide)]
  exact h
theorem E0_sk {sk sk' fe wy wo bi F t : Nat} {O : Option (List stp)} {M : mm} (h : E0 (cOf sk fe wy wo bi F O t) M) (h1 : 1 ≤ sk') (h3 : sk' ≤ 3) : E0 (cOf sk' fe wy wo bi F O t) (sA M 82 (upd (M.1 82) 37 (nI sk'))) := by
  obtain ⟨⟨a1, a2, a3, a4, a5, a6⟩, ⟨b1, b2, b3, b4⟩, c, d⟩ := h
  refine ⟨⟨?_, ?_, ?_, ?_, ?_, ?_⟩, ⟨h1, h3, b3, b4⟩, c, fun s l a s1 s3 l1 a1 => ?_⟩
  · rw [sA_s, upd_s]; rfl
  · rw [sA_s, upd_n _ _ _ _ (by decide)]; exact a2
  · rw [sA_s, upd_n _ _ _ _ (by decide)]; exact a3
  · rw [sA_s, upd_n _ _ _ _ (by decide)]; exact a4
  · rw [sA_s, upd_n _ _ _ _ (by decide)]; exact a5
  · rw [sA_s, upd_n _ _ _ _ (by decide)]; exact a6
  · rw [sA_n _ _ _ _ (by decide)]
    exact d s l a s1 s3 l1 a1
theorem EqU_82 (M : mm) {j0 : Nat} (h0 : 27 ≤ j0) (h1 : j0 ≤ 41) (v : Int32) : EqU M (sA M 82 (upd (M.1 82) j0 v)) := ⟨rfl, fun k a _ _ _ _ => sA_n _ _ _ _ a, fun _ _ _ _ => rfl, fun j hj => by rw [sA_s, upd_n _ _ _ _ (by omega)]⟩
/-- the least skill by which BEST would mend it -/
theorem w_least {P T N t y o fe wo bi F s l ag : Nat} {O : Option (List stp)} (a1 a2 : Int32) (ht : t < T) (hT6 : T ≤ 6) (hy : y ≤ 6) (ho : o < 5) (hl : l < 3) (hag : ag ≤ 99) (hs1 : 1 ≤ s) (hs3 : s ≤ 3) (hF9 : F ≤ 9) (hbi : bi ≤ 99) : ∀ k k' sk (Ma Mb : mm), 1 ≤ sk → sk ≤ 4 → 4 - sk < k → 4 - sk < k' → RR P T N O Ma Mb → Ma.1 5 t = nI o → Ma.1 3 o = nI fe → Ma.1 6 t = nI wo → Ma.1 7 t = nI bi → Ma.1 1 2 = nI F → Ma.1 29 t = nI s → lO (Ma.1 30 t) o = l → Ma.1 32 t = nI ag → (∃ sk0, E0 (cOf sk0 fe 4 wo bi F O t) Mb) → Mb.1 91 t = nI s → Mb.1 94 t = nI ag → ∃ v Ma' Mb', X10_leastSkill_L2 (nI t) (nI y) k (nI sk) Ma = some (v, Ma') ∧ X11_now_L66 a1 a2 k' (nI t) (nI y) (nI l) (nI sk) Mb = some (v, Mb') ∧ RR P T N O Ma' Mb' := by
  intro k
  induction k with
  | zero => intro k' sk Ma Mb _ _ h; omega
  | succ k ih =>
    intro k' sk Ma Mb hk1 hk4 hk hk' R e5 e3 e6 e7 eF es el eg hE x1 x2
    obtain ⟨k', rfl⟩ : ∃ z, k' = z + 1 := ⟨k' - 1, by omega⟩
    rw [X10_leastSkill_L2, X11_now_L66, show (3 : Int32) = nI 3 from rfl, show (4 : Int32) = nI 4 from rfl, i_ltP (by omega) (by omega), i_ltP (by omega) (by omega)]
    by_cases h : sk < 4
    · obtain ⟨sk0, hE⟩ := hE
      have hL := R.2.1
      have c3 : (cs1 Ma t o sk fe).1 21 3 = nI o := by
        unfold cs1
        simp (disch := decide) only [sA_s, upd_n, upd_s]
      have c30 : ∀ k, k ≠ 21 → (cs1 Ma t o sk fe).1 k = Ma.1 k := fun k hk => sA_n _ _ _ _ hk
      obtain ⟨A1, q1, q2, q3, q4, q5, q6, -⟩ := w_thinks (sk := sk) (fe := fe) (wy := 4) (p := o) (l := l) (a := ag) (y := y) (show t < 6 by omega) hl hag hy ⟨hk1, by omega, by omega, hF9, hbi⟩ e6 e7 eF hL.1 hL.2.1 hL.2.2
      have c29 : A1.1 (28 + 1) t = nI s := by rw [q2.1 29 (by decide) (by decide) (by decide)]; exact es
      have hE1 := E0_sk (sk' := sk) hE hk1 (by omega)
      obtain ⟨f, g, r1, r2⟩ := w_worksOut hy hE1
      have m91 : (mv (sA Mb 82 (upd (Mb.1 82) 37 (nI sk))) f g).1 91 t = nI s := by
        rw [mv_1 _ _ _ 91 (by decide), sA_n _ _ _ _ (by decide)]; exact x1
      have m94 : (mv (sA Mb 82 (upd (Mb.1 82) 37 (nI sk))) f g).1 94 t = nI ag := by
        rw [mv_1 _ _ _ 94 (by decide), sA_n _ _ _ _ (by decide)]; exact x2
      have hpl := pl_lt (k := y) hy hs3 hl (show ag < 100 by omega)
      have R1 : RR P T N O A1 (mv (sA Mb 82 (upd (Mb.1 82) 37 (nI sk))) f g) := RR_U (RR_T R q2 q3) (EqU_t (EqU_82 Mb (by omega) (by omega) _) (EqU_W (EqW_mv _ f g)))
      have hb : bV (cOf sk fe 4 wo bi F O t) s (A1.2.1 25 s) (A1.2.1 24 s) = isB (cOf sk fe 4 wo bi F O t) y s l ag := by
        rw [(q6 s hs1 hs3).1, (q6 s hs1 hs3).2]
        exact fin_B _ _ _ _ _ rfl
      rw [if_neg (by omega), if_pos h, n_inb (show t < 6 by omega) (by omega), gd_t, n_cl (show t < 2 ^ 31 by omega), e5, w_consider ho e3, bd_s, gd_t, gd_t, c30 _ (by decide), c30 _ (by decide), show (28 + 4 : Nat) = 32 from rfl, show (28 + 2 : Nat) = 30 from rfl, eg, w_start c3, el, bd_s, q1, bd_s, gd_t, c29, w_mendsAt (c := cOf sk fe 4 wo bi F O t) q4 (by show (4 : Nat) ≤ 4; omega) hs3, bd_s, hb, lt_s_, r1, bd_s, gd_t, gd_t, m91, m94, w_placeOf, bd_s, n_inb hpl (by omega), gd_t, n_cl (show pl y s l ag < 2 ^ 31 by omega), mv_104, (r2 y s l ag (Nat.le_refl _) hy hs1 hs3 hl (by omega)).2, i_P (bI_0 _), i_P (bI_0 _), nI_1]
      cases isB (cOf sk fe 4 wo bi F O t) y s l ag with
      | false =>
        rw [if_pos rfl, if_pos rfl]
        exact ih k' (sk + 1) A1 _ (by omega) (by omega) (by omega) (by omega) R1 (by rw [q2.1 5 (by decide) (by decide) (by decide)]; exact e5) (by rw [q2.1 3 (by decide) (by decide) (by decide)]; exact e3) (by rw [q2.1 6 (by decide) (by decide) (by decide)]; exact e6) (by rw [q2.1 7 (by decide) (by decide) (by decide)]; exact e7) (by rw [q2.1 1 (by decide) (by decide) (by decide)]; exact eF) (by rw [q2.1 29 (by decide) (by decide) (by decide)]; exact es) (by rw [q2.1 30 (by decide) (by decide) (by decide)]; exact el) (by rw [q2.1 32 (by decide) (by decide) (by decide)]; exact eg) ⟨sk, E0_mv hE1 f g⟩ m91 m94
      | true =>
        rw [if_neg (fun q => nomatch q), if_neg (fun q => nomatch q)]
        exact ⟨_, _, _, rfl, rfl, R1⟩
    · rw [if_pos (by omega), if_neg h]
      exact ⟨_, _, _, rfl, rfl, R⟩
/-- the states of which BEST would mend it now -/
theorem w_bits {c : cns} {t y l ag : Nat} (a1 a2 b1 b2 : Int32) (ht : t < 6) (hy : y ≤ 6) (hl : l < 3) (hag : ag ≤ 99) {A B : mm} (hA : ∀ s, 1 ≤ s → s ≤ 3 → X4_mendsAt (nI s) A = some (bI (isB c y s l ag), A)) (hB : ∀ s, 1 ≤ s → s ≤ 3 → B.1 104 (pl y s l ag) = bI (isB c y s l ag)) (h94 : B.1 94 t = nI ag) : ∀ k k' s x, 1 ≤ s → s ≤ 4 → 4 - s < k → 4 - s < k' → ∃ v, X10_now_L144 a1 a2 k x (nI s) A = some (v, A) ∧ X11_now_L172 b1 b2 k' (nI t) (nI y) (nI l) x (nI s) B = some (v, B) := by
  intro k
  induction k with
  | zero => intro k' s x _ _ h; omega
  | succ k ih =>
    intro k' s x hs1 hs4 hk hk'
    obtain ⟨k', rfl⟩ : ∃ z, k' = z + 1 := ⟨k' - 1, by omega⟩
    rw [X10_now_L144, X11_now_L172, show (3 : Int32) = nI 3 from rfl, show (4 : Int32) = nI 4 from rfl, i_ltP (by omega) (by omega), i_ltP (by omega) (by omega)]
    by_cases h : s < 4
    · have hpl := pl_lt (k := y) (s := s) hy (by omega) hl (show ag < 100 by omega)
      rw [if_neg (by omega), if_pos h, hA s hs1 (by omega), bd_s, n_inb ht (by omega), gd_t, n_cl (by omega), h94, w_placeOf, bd_s, n_inb hpl (by omega), gd_t, n_cl (by omega), hB s hs1 (by omega), i_P (bI_0 _), i_P (bI_0 _)]
      unfold X10_now_b173 X11_now_b213
      rw [nI_1]
      cases isB c y s l ag with
      | false =>
        rw [if_pos rfl, if_pos rfl, Int32.or_zero]
        exact ih k' (s + 1) x (by omega) (by omega) (by omega) (by omega)
      | true =>
        rw [if_neg (fun q => nomatch q), if_neg (fun q => nomatch q)]
        exact ih k' (s + 1) _ (by omega) (by omega) (by omega) (by omega)
    · rw [if_pos (by omega), if_neg h]
      exact ⟨x, rfl, rfl⟩
theorem z32_2 : (2 : Int32).toInt = 2 := by decide
theorem z64_2 : (2 : Int64).toInt = 2 := by decide
theorem op_now {P T N : Nat} {O : Option (List stp)} {Ma Mb : mm} (R : RR P T N O Ma Mb) (a b : Int32) : ∃ v Ma' Mb', X10_now a b Ma = some (v, Ma') ∧ X11_now a b Mb = some (v, Mb') ∧ RR P T N O Ma' Mb' := by
  obtain ⟨RC0, hL, hB, hM⟩ := id R
  obtain ⟨hF, hP, hT, hW, -⟩ := id RC0
  obtain ⟨f1, f2, f3, f4, f5, f6, ⟨F, F1, F2, F3⟩, -, -⟩ := id hF
  obtain ⟨ok, t1, t2, t3⟩ := w_ty f2 f4 f6 a
  unfold X10_now X11_now
  rw [t1, t2, bd_s, bd_s, i_P (bI_0 _), i_P (bI_0 _)]
  cases ok with
  | false => exact ⟨_, _, _, rfl, rfl, R⟩
  | true =>
    obtain ⟨t, y, ht, hy, ea, ey⟩ := t3 rfl
    rw [if_neg (c := true = false) (fun q => nomatch q), if_neg (c := true = false) (fun q => nomatch q), w_within, bd_s, q_i64, z64_0, z64_2, i_P (bI_0 _)]
    rcases q_rng b 0 2 (by omega) with hb | ⟨w, w0, w2', rfl⟩
    · rw [decide_eq_false (p := 0 ≤ b.toInt ∧ b.toInt ≤ 2) (by simpa using hb), if_pos (c := false = false) rfl]
      refine ⟨-1, Ma, Mb, ?_, rfl, R⟩
      by_cases c1 : b < 0
      · rw [if_pos c1]
      · rw [if_neg c1]
        by_cases c2 : 2 < b
        · rw [if_pos c2]
        · exfalso
          rw [q_lt, z32_0] at c1
          rw [q_lt, z32_2] at c2
          exact hb ⟨by omega, by omega⟩
    · obtain ⟨⟨o, o1, o2, o3⟩, ⟨wo, w1, w2, w3⟩, ⟨bi, b1, b2, b3⟩, -⟩ := hT t ht
      obtain ⟨⟨sk, k1, k2, k3, k4⟩, ⟨fe, g1, g2, g3⟩, -⟩ := hP.2 o o1
      obtain ⟨⟨s, s1, s2, s3, s4⟩, ⟨l1, l2⟩, -, ⟨ag, a1, a2, a3⟩, -⟩ := hW.1 t ht
      have hl := lO_lt (Ma.1 30 t) o
      have l1' : Ma.1 30 t = Mb.1 92 t := l1
      obtain ⟨B1, e1, e2, e3⟩ := w_thinksOf (sk := sk) (wy := 4) hB (show t < 6 by omega) (show o < 5 by omega) k4 g3 w3 b3 F3 ⟨k1, k2, by omega, F1⟩
      rw [show nI 4 = (4 : Int32) from rfl] at e1
      have m : ∀ k, k ≠ 82 → k ≠ 100 → k ≠ 102 → k ≠ 104 → B1.1 k = Mb.1 k := e2.2.1
      rw [nI_toInt (by omega), decide_eq_true (show (0 : Int) ≤ w ∧ (w : Int) ≤ 2 by omega), if_neg (c := true = false) (fun q => nomatch q), if_neg (show ¬ (nI w < 0) from ng (b := 0) (by omega) (by omega) (by omega)), if_neg (show ¬ (2 < nI w) from ng (a := 2) (by omega) (by omega) (by omega)), ey, ea, n_inb (show t < 6 by omega) (by omega), gd_t, gd_t, n_cl (show t < 2 ^ 31 by omega), o2, o3, w_sortFor (show t < 6 by omega) f1 (by rw [← l1]; exact l2), bd_s, gd_t, o3, e1, bd_s, ← l1']
      by_cases hw2 : w = 2
      · rw [if_pos (by rw [hw2]; rfl), if_pos (by rw [hw2]; rfl)]
        unfold X10_leastSkill
        obtain ⟨v, A', B', q1, q2, q3⟩ := w_least a (nI w) ht f2 hy (show o < 5 by omega) hl a1 s1 s2 F1 b1 10000 10000 1 Ma B1 (by omega) (by omega) (by omega) (by omega) (RR_U R (EqU_W e2)) o2 g2 w2 b2 F2 s3 rfl a2 ⟨sk, e3⟩ (by rw [m 91 (by decide) (by decide) (by decide) (by decide)]; exact s4) (by rw [m 94 (by decide) (by decide) (by decide) (by decide)]; exact a3)
        rw [show nI 1 = (1 : Int32) from rfl] at q1 q2
        rw [q1, q2, bd_s]
        exact ⟨v, A', B', rfl, rfl, q3⟩
      · have hwn : ¬ (nI w = 2) := by
          rw [show (2 : Int32) = nI 2 from rfl, n_eq (by omega) (by omega)]; exact hw2
        have c3 : (cs1 Ma t o sk fe).1 21 3 = nI o := by
          unfold cs1
          simp (disch := decide) only [sA_s, upd_n, upd_s]
        have c30 : ∀ k, k ≠ 21 → (cs1 Ma t o sk fe).1 k = Ma.1 k := fun k hk => sA_n _ _ _ _ hk
        obtain ⟨A1, q1, q2, q3, q4, q5, q6, -⟩ := w_thinks (sk := sk) (fe := fe) (wy := 4) (p := o) (y := y) (show t < 6 by omega) hl a1 hy ⟨k1, k2, by omega, F1, b1⟩ w2 b2 F2 hL.1 hL.2.1 hL.2.2
        have c29 : A1.1 (28 + 1) t = nI s := by rw [q2.1 29 (by decide) (by decide) (by decide)]; exact s3
        obtain ⟨f, g, r1, r2⟩ := w_worksOut hy e3
        have R1 : RR P T N O A1 (mv B1 f g) := RR_U (RR_T R q2 q3) (EqU_t (EqU_W e2) (EqU_W (EqW_mv _ f g)))
        have hmA : ∀ s, 1 ≤ s → s ≤ 3 → X4_mendsAt (nI s) A1 = some (bI (isB (cOf sk fe 4 wo bi F O t) y s (lO (Ma.1 30 t) o) ag), A1) := fun s s1 s3 => by
          rw [w_mendsAt (c := cOf sk fe 4 wo bi F O t) q4 (by show (4 : Nat) ≤ 4; omega) s3, (q6 s s1 s3).1, (q6 s s1 s3).2, fin_B _ _ _ _ _ rfl]
        have hmB : ∀ s, 1 ≤ s → s ≤ 3 → (mv B1 f g).1 104 (pl y s (lO (Ma.1 30 t) o) ag) = bI (isB (cOf sk fe 4 wo bi F O t) y s (lO (Ma.1 30 t) o) ag) := fun s s1 s3 => by
          rw [mv_104]
          exact (r2 y s _ ag (Nat.le_refl _) hy s1 s3 hl (by omega)).2
        have m91 : (mv B1 f g).1 91 t = nI s := by rw [mv_1 _ _ _ 91 (by decide), m 91 (by decide) (by decide) (by decide) (by decide)]; exact s4
        have m94 : (mv B1 f g).1 94 t = nI ag := by rw [mv_1 _ _ _ 94 (by decide), m 94 (by decide) (by decide) (by decide) (by decide)]; exact a3
        have hpl := pl_lt (k := y) hy s2 hl (show ag < 100 by omega)
        rw [show nI 4 = (4 : Int32) from rfl] at q1
        rw [if_neg hwn, if_neg hwn, n_inb (show o < 5 by omega) (by omega), gd_t, n_cl (show o < 2 ^ 31 by omega), k3, w_consider (show o < 5 by omega) g2, bd_s, gd_t, gd_t, c30 _ (by decide), c30 _ (by decide), show (28 + 4 : Nat) = 32 from rfl, show (28 + 2 : Nat) = 30 from rfl, a2, w_start c3, bd_s, q1, bd_s, r1, bd_s]
        by_cases hw0 : w = 0
        · rw [if_pos (show nI w = 0 by rw [hw0]; rfl), if_pos (show nI w = 0 by rw [hw0]; rfl), gd_t, c29, hmA s s1 s2, bd_s, gd_t, gd_t, m91, m94, w_placeOf, bd_s, n_inb hpl (by omega), gd_t, n_cl (show pl y s (lO (Ma.1 30 t) o) ag < 2 ^ 31 by omega), hmB s s1 s2]
          by_cases hz : bI (isB (cOf sk fe 4 wo bi F O t) y s (lO (Ma.1 30 t) o) ag) = 0
          · rw [if_pos hz, if_pos hz]
            exact ⟨_, _, _, rfl, rfl, R1⟩
          · rw [if_neg hz, if_neg hz]
            exact ⟨_, _, _, rfl, rfl, R1⟩
        · have hwz : ¬ (nI w = 0) := by
            rw [show (0 : Int32) = nI 0 from rfl, n_eq (by omega) (by omega)]; exact hw0
          rw [if_neg hwz, if_neg hwz]
          obtain ⟨v, z1, z2⟩ := w_bits (c := cOf sk fe 4 wo bi F O t) a (nI w) a (nI w) (show t < 6 by omega) hy hl a1 hmA hmB m94 10000 10000 1 0 (by omega) (by omega) (by omega) (by omega)
          rw [show nI 1 = (1 : Int32) from rfl] at z1 z2
          rw [z1, z2]
          exact ⟨_, _, _, rfl, rfl, R1⟩
