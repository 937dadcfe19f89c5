/-! ===== the call ruined ===== -/
theorem LB_U {Mb B B' : mm} (h : LB Mb B) (u : EqU B B') : LB Mb B' := by
  obtain ⟨h1, h2, h3, ⟨h4, h5, h6, h7⟩, h8, h9⟩ := h
  have g : ∀ k, k ≠ 82 → k ≠ 100 → k ≠ 102 → k ≠ 104 → k ≠ 106 → B'.1 k = B.1 k := u.2.1
  refine ⟨fun k hk => (g k (by omega) (by omega) (by omega) (by omega) (by omega)).trans (h1 k hk), (u.2.2.1 115 (by decide) (by decide) (by decide)).trans h2, fun j hj => (u.2.2.2 j (by omega)).trans (h3 j hj), ⟨fun i hi => by rw [g 107 (by decide) (by decide) (by decide) (by decide) (by decide)]; exact h4 i hi, fun i hi => by rw [g 108 (by decide) (by decide) (by decide) (by decide) (by decide)]; exact h5 i hi, fun i hi => by rw [g 109 (by decide) (by decide) (by decide) (by decide) (by decide)]; exact h6 i hi, fun i hi => by rw [g 110 (by decide) (by decide) (by decide) (by decide) (by decide)]; exact h7 i hi⟩, fun t ht => ?_, fun p hp => ?_⟩
  · have := h8 t ht
    unfold sRow at this ⊢
    rw [g 91 (by decide) (by decide) (by decide) (by decide) (by decide), g 92 (by decide) (by decide) (by decide) (by decide) (by decide), g 93 (by decide) (by decide) (by decide) (by decide) (by decide), g 94 (by decide) (by decide) (by decide) (by decide) (by decide), g 95 (by decide) (by decide) (by decide) (by decide) (by decide), g 96 (by decide) (by decide) (by decide) (by decide) (by decide), g 97 (by decide) (by decide) (by decide) (by decide) (by decide)]
    exact this
  · rw [g 87 (by decide) (by decide) (by decide) (by decide) (by decide), g 88 (by decide) (by decide) (by decide) (by decide) (by decide), g 89 (by decide) (by decide) (by decide) (by decide) (by decide)]
    exact h9 p hp
theorem LB_82 {Mb B : mm} (h : LB Mb B) (f : Nat → Int32) (hf : ∀ j, ((j < 27 ∧ j ≠ 19) ∨ 50 ≤ j) → f j = B.1 82 j) : LB Mb (sA B 82 f) := by
  obtain ⟨h1, h2, h3, h4, h8, h9⟩ := h
  have g : ∀ k, k ≠ 82 → (sA B 82 f).1 k = B.1 k := fun k hk => sA_n _ _ _ _ hk
  refine ⟨fun k hk => (g k (by omega)).trans (h1 k hk), h2, fun j hj => by rw [sA_s, hf j hj]; exact h3 j hj, by rw [g 107 (by decide), g 108 (by decide), g 109 (by decide), g 110 (by decide)]; exact h4, fun t ht => ?_, fun p hp => ?_⟩
  · have := h8 t ht
    unfold sRow at this ⊢
    rw [g 91 (by decide), g 92 (by decide), g 93 (by decide), g 94 (by decide), g 95 (by decide), g 96 (by decide), g 97 (by decide)]
    exact this
  · rw [g 87 (by decide), g 88 (by decide), g 89 (by decide)]
    exact h9 p hp
theorem LC_F {Mb B B' : mm} (h : LC Mb B) (f : FB B B') : LC Mb B' := LC_c h (fun k hk => f.1 k (by omega)) (by rw [f.2.1]) (fun j hj => f.2.2 j (by omega))
theorem KP_F {Mb B B' : mm} (h : KP Mb B) (f : FB B B') : KP Mb B' := KP_c h ⟨f.1 107 (by omega), f.1 108 (by omega), f.1 109 (by omega), f.1 110 (by omega)⟩
theorem KP_U {Mb B B' : mm} (h : KP Mb B) (u : EqU B B') : KP Mb B' := KP_c h ⟨u.2.1 107 (by decide) (by decide) (by decide) (by decide) (by decide), u.2.1 108 (by decide) (by decide) (by decide) (by decide) (by decide), u.2.1 109 (by decide) (by decide) (by decide) (by decide) (by decide), u.2.1 110 (by decide) (by decide) (by decide) (by decide) (by decide)⟩
theorem lawB_LB {O : Option (List stp)} {Mb B : mm} (h : lawB O Mb) (l : LB Mb B) : lawB O B := lawB_N h ⟨l.2.2.1 26 (by omega), l.1 99 (by omega)⟩
theorem cNow_LA {T : Nat} {Ma A : mm} (h : LA T Ma A) (O : Option (List stp)) (F t : Nat) : cNow A O F t = cNow Ma O F t := cNow_c O F t (h.1 2 (by omega)) (h.1 3 (by omega)) (h.1 5 (by omega)) (h.1 6 (by omega)) (h.1 7 (by omega))
/-- the two sides as a thought begins -/
theorem th_setup {P T N Fa Fb g : Nat} {O : Option (List stp)} {m : Prop} {Ma Mb A B : mm} (hF : rF P T N Ma Mb) (hP : rP P Ma Mb) (hT : rT P T Ma Mb) (hW : rW 28 P T Ma Mb) (hN : N ≤ 600) (hA : LA T Ma A) (a2 : A.1 1 2 = nI Fa) (hB : LB Mb B) (b19 : B.1 82 19 = nI Fb) (Fa9 : Fa ≤ 9) (Fb9 : Fb ≤ 9) (hm : m → Fa = Fb) (g1 : g ≤ 1) (g2 : Ma.1 1 3 = nI g) (g3 : Mb.1 82 20 = nI g) (w1 : ∀ i, 1 ≤ i → i ≤ 5 → ∀ t, t < T → A.1 (39 + i) t = Ma.1 (28 + i) t) (w2 : ∀ j, j < T * 8 → A.1 45 j = Ma.1 34 j) (w3 : ∀ i, 7 ≤ i → i ≤ 9 → ∀ p, p < P → A.1 (39 + i) p = Ma.1 (28 + i) p) (hL : lawA O A ∧ rFo O A ∧ RefOK A) (hlB : lawB O B) (hM : rM T N O A) (hbest : ∀ t, t < T → Ma.1 4 (tn (Ma.1 5 t)) = 4 → Fa = Fb ∧ bN Fb O t Ma B) : YS P T Fa Fb g m A B ∧ YL T N Fa Fb O A B ∧ YD 39 P T P (fun _ => 1) m A B := by
  obtain ⟨f1, f2, f3, f4, f5, f6, -, -, -⟩ := hF
  refine ⟨⟨⟨f1, f2, Fa9, Fb9, g1, hm⟩, ⟨?_, ?_, a2, ?_, ?_, ?_, b19, ?_⟩, rP_c hP ⟨hA.1 2 (by omega), hA.1 3 (by omega), hA.1 4 (by omega)⟩ f1 (fun i _ => by rw [hB.1 83 (by omega)]), rT_c hT (Nat.le_refl _) ⟨hA.1 5 (by omega), hA.1 6 (by omega), hA.1 7 (by omega), hA.1 8 (by omega), hB.1 90 (by omega)⟩ (fun i _ => by rw [hB.1 83 (by omega)])⟩, ⟨hL, hlB, hM, hN, fun t ht hw => ?_⟩, ⟨fun t ht => ?_, fun p hp hmm => ?_⟩⟩
  · rw [hA.2.1 0 (by omega)]; exact f3
  · rw [hA.2.1 1 (by omega)]; exact f4
  · rw [hA.2.1 3 (by omega)]; exact g2
  · rw [hB.2.2.1 6 (by omega)]; exact f5
  · rw [hB.2.2.1 7 (by omega)]; exact f6
  · rw [hB.2.2.1 20 (by omega)]; exact g3
  · rw [hA.1 4 (by omega), hA.1 5 (by omega)] at hw
    obtain ⟨q1, q2⟩ := hbest t ht hw
    refine ⟨q1, fun s l a s1 s3 l3 a3 => ?_⟩
    rw [cNow_LA hA]
    exact q2 hw s l a s1 s3 l3 a3
  · obtain ⟨k1, k2, k3, k4, n, k5, k6, k7, k8⟩ := hW.1 t ht
    obtain ⟨m1, m2, m3, m4, m5, m6, m7⟩ := hB.2.2.2.2.1 t (by omega)
    rw [w1 1 (by omega) (by omega) t ht, w1 2 (by omega) (by omega) t ht, w1 3 (by omega) (by omega) t ht, w1 4 (by omega) (by omega) t ht, w1 5 (by omega) (by omega) t ht, m1, m2, m3, m4, m5]
    refine ⟨k1, k2, k3, k4, n, k5, k6, k7, fun i hi => ?_⟩
    have := w2 (8 * t + i) (by omega)
    show A.1 45 (8 * t + i) = _
    rw [this, m7 i (by omega)]
    exact k8 i hi
  · obtain ⟨m1, m2, m3⟩ := hB.2.2.2.2.2 p (by omega)
    rw [w3 7 (by omega) (by omega) p hp, w3 8 (by omega) (by omega) p hp, w3 9 (by omega) (by omega) p hp, m1, m2, m3]
    exact hW.2.1 p (by omega)
theorem w_zeroOne (a : Int32) (M : mm) : X10_isZeroOrOne a M = some (bI (decide (0 ≤ a.toInt ∧ a.toInt ≤ 1)), M) := by
  unfold X10_isZeroOrOne X10_isZeroOrOne_b9
  by_cases h0 : a = 0
  · rw [if_pos h0, h0]; rfl
  · rw [if_neg h0]
    by_cases h1 : a = 1
    · rw [if_pos h1, h1]; rfl
    · rw [if_neg h1]
      rw [q_eq, z32_0] at h0
      rw [q_eq, z32_1] at h1
      rw [decide_eq_false (by omega)]; rfl
/-- the first whose purse is below -/
theorem w_below {P : Nat} (hP : P ≤ 5) (a1 a2 a3 b1 x4 : Int32) (K76 : Int32 → Int32 → mm → Option (Int32 × mm)) (K94 : Int32 → mm → Option (Int32 × mm)) {A B : mm} (hA : A.1 1 0 = nI P) (hB : B.1 82 6 = nI P) (he : ∀ p, p < P → A.1 46 p = B.1 87 p) : ∀ n n' p, p ≤ P → P - p < n → P - p < n' → (∃ q, q < P ∧ X10_ruined_L50 a1 a2 a3 K76 K94 n x4 (nI p) A = K76 x4 (nI q) A ∧ X11_firstBelow_L2 a2 n' (nI p) B = some (nI q, B)) ∨ (X10_ruined_L50 a1 a2 a3 K76 K94 n x4 (nI p) A = K94 x4 A ∧ X11_firstBelow_L2 a2 n' (nI p) B = some (-1, B)) := by
  intro n
  induction n with
  | zero => intro n' p _ h; omega
  | succ n ih =>
    intro n' p hp hn hn'
    obtain ⟨n', rfl⟩ : ∃ z, n' = z + 1 := ⟨n' - 1, by omega⟩
    rw [X10_ruined_L50, X11_firstBelow_L2, hA, hB, i_ltP (by omega) (by omega), i_ltP (by omega) (by omega)]
    by_cases h : p < P
    · rw [if_pos h, if_pos h, n_inb (by omega) (by omega), gd_t, gd_t, n_cl (by omega), show (39 + 7 : Nat) = 46 from rfl, he p h, nI_1]
      by_cases c : B.1 87 p < a2
      · rw [if_pos c, if_pos c]
        exact Or.inl ⟨p, h, rfl, rfl⟩
      · rw [if_neg c, if_neg c]
        exact ih n' (p + 1) (by omega) (by omega) (by omega)
    · rw [if_neg h, if_neg h]
      exact Or.inr ⟨rfl, rfl⟩
theorem rn_L {P T N F g : Nat} {O : Option (List stp)} (a1 a2 a3 : Int32) (K76 : Int32 → Int32 → mm → Option (Int32 × mm)) (Kb : Int32 → Int32 → mm → Option (Int32 × mm)) : ∀ n n' y A B, y ≤ 30 → 30 - y + 1 < n → 30 - y + 1 < n' → YS P T F F g True A B → YL T N F F O A B → YD 39 P T P (fun _ => 1) True A B → A.1 27 3 = B.1 82 43 → ∃ A' B', FY 39 T A A' ∧ FB B B' ∧ (lawA O A' ∧ rFo O A' ∧ RefOK A') ∧ rM T N O A' ∧ ((X10_ruined_L28 a1 a2 a3 K76 n (nI (y + 1)) A = some (-2, A') ∧ X11_ruined_L44 a1 a2 a3 Kb n' (nI y) (-1) B = Kb (nI 30) (-1) B') ∨ ∃ y' p, y' ≤ 30 ∧ p < P ∧ X10_ruined_L28 a1 a2 a3 K76 n (nI (y + 1)) A = K76 (nI y') (nI p) A' ∧ X11_ruined_L44 a1 a2 a3 Kb n' (nI y) (-1) B = Kb (nI y') (nI p) B') := by
  intro n
  induction n with
  | zero => intro n' y A B _ h; omega
  | succ n ih =>
    intro n' y A B hy hn hn' hS hL hD hz
    obtain ⟨n', rfl⟩ : ∃ z, n' = z + 1 + 1 := ⟨n' - 2, by omega⟩
    have p5 := hS.1.1
    rw [X10_ruined_L28, X11_ruined_L44, i_m1, show (30 : Int32) = nI 30 from rfl, i_ltP (by omega) (by omega), i_ltP (by omega) (by omega)]
    by_cases h : y < 30
    · rw [if_neg (by omega), if_pos h]
      obtain ⟨br, A1, B1, b0, e1, e2, s1, l1, d1, z1, z2, z3, -, fa, fb⟩ := y_year (w := 39) (by decide) (by omega) (Nat.le_refl P) hS hL hD hz
      rw [e1, e2, bd_s, bd_s]
      unfold X11_firstBelow
      have hb := w_below p5 a1 a2 a3 a2 (nI (y + 1)) K76 (fun x4 M => (X10_ruined_L28 a1 a2 a3 K76 n) (x4 + 1) M) s1.2.1.1 s1.2.1.2.2.2.2.1 (fun p hp => (d1.2 p hp trivial).1) 10000 10000 0 (by omega) (by omega) (by omega)
      rw [show nI 0 = (0 : Int32) from rfl] at hb
      rcases hb with ⟨q, hq, e3, e4⟩ | ⟨e3, e4⟩
      · rw [e3, e4, bd_s, nI_1, X11_ruined_L44, i_nneg (by omega)]
        exact ⟨A1, B1, fa, fb, l1.1, l1.2.2.1, Or.inr ⟨y + 1, q, by omega, hq, rfl, rfl⟩⟩
      · rw [e3, e4, bd_s, nI_1, nI_1]
        obtain ⟨A', B', q1, q2, q3, q4, q5⟩ := ih (n' + 1) (y + 1) A1 B1 (by omega) (by omega) (by omega) s1 l1 d1 z1
        exact ⟨A', B', FY_t fa q1, FB_t fb q2, q3, q4, q5⟩
    · rw [if_pos (by omega), if_neg h]
      obtain rfl : y = 30 := by omega
      exact ⟨A, B, FY_r _ _ _, FB_r _, hL.1, hL.2.2.1, Or.inl ⟨rfl, rfl⟩⟩
theorem z32_m999 : (-999 : Int32).toInt = -999 := by decide
theorem z64_m999 : (-999 : Int64).toInt = -999 := by decide
theorem op_ruined {P T N : Nat} {O : Option (List stp)} {Ma Mb : mm} (hN : N ≤ 600) (R : RR P T N O Ma Mb) (a b c : Int32) : ∃ v Ma' Mb', X10_ruined a b c Ma = some (v, Ma') ∧ X11_ruined a b c Mb = some (v, Mb') ∧ RR P T N O Ma' Mb' := by
  obtain ⟨RC0, hL, hB, hM⟩ := id R
  obtain ⟨hF, hP, hT, hW, hY, hI, hC, hTa, hA, hSh⟩ := id RC0
  obtain ⟨f1, f2, f3, f4, f5, f6, ⟨F, F1, F2, F3⟩, ⟨g, g1, g2, g3⟩, f9⟩ := id hF
  unfold X10_ruined X11_ruined
  rw [w_within, bd_s, i_P (bI_0 _), q_i64, z64_0, z64_m999, w_zeroOne, bd_s, i_P (bI_0 _)]
  by_cases hb : -999 ≤ b.toInt ∧ b.toInt ≤ 0
  · rw [decide_eq_true hb, if_neg (c := true = false) (fun q => nomatch q), if_neg (show ¬ (b < -999) from by rw [q_lt, z32_m999]; omega), if_neg (show ¬ (0 < b) from by rw [q_lt, z32_0]; omega), w_within, bd_s, i_P (bI_0 _), q_i64, z64_0, z64_1]
    by_cases hc : 0 ≤ c.toInt ∧ c.toInt ≤ 1
    · rw [decide_eq_true hc, if_neg (c := true = false) (fun q => nomatch q), if_neg (c := true = false) (fun q => nomatch q)]
      obtain ⟨A1, e1, x1, x2, x3, x4, x5, x6, x7, x8, -⟩ := w_startThought (F := 0) (LA_r T Ma) f1 f2 f3 f4 hL hM a
      obtain ⟨B1, e2, y1, y2, y3, y4⟩ := w_aside0 Mb
      have hP1 : rP P Ma B1 := rP_c hP ⟨rfl, rfl, rfl⟩ f1 (fun i _ => by rw [y1.1 83 (by omega)])
      have hT1 : rT P T Ma B1 := rT_c hT (Nat.le_refl _) ⟨rfl, rfl, rfl, rfl, y1.1 90 (by omega)⟩ (fun i _ => by rw [y1.1 83 (by omega)])
      obtain ⟨B2, e3, u1, u2⟩ := w_asksBest (O := O) f1 f2 F1 hP1 hT1 (lawB_LB hB y1) (by rw [y3]; exact f6) (by rw [y3]; exact F3)
      have l2 := LB_U y1 u1
      have l3 := LB_82 l2 (upd (B2.1 82) 43 a) (fun j hj => upd_n _ _ _ _ (by omega))
      have k3 : KP Mb (sA B2 82 (upd (B2.1 82) 43 a)) := KP_c (KP_U y2 u1) ⟨sA_n _ _ _ _ (by decide), sA_n _ _ _ _ (by decide), sA_n _ _ _ _ (by decide), sA_n _ _ _ _ (by decide)⟩
      obtain ⟨s1, s2, s3⟩ := th_setup (Fa := F) (Fb := F) (m := True) (g := g) hF hP hT hW hN x1 (by rw [x2]; exact F2) l3 (by rw [sA_s, upd_n _ _ _ _ (by decide), u1.2.2.2 19 (by omega), y3]; exact F3) F1 F1 (fun _ => rfl) g1 g2 g3 x6 x7 x8 x3 (lawB_LB hB l3) x4 (fun t ht hw => ⟨rfl, fun hw s l a s1 s3 l3 a3 => by rw [sA_n _ _ _ _ (by decide)]; exact u2 t ht hw s l a s1 s3 l3 a3⟩)
      obtain ⟨A', B', q1, q2, q3, q4, q5⟩ := rn_L a b c (fun x4 x5 M => if c = 0 then some (x4, M) else some (x5, M)) (fun x4 x5 M => X11_ruined_b73 a b c x4 x5 M) 10000 10000 0 A1 (sA B2 82 (upd (B2.1 82) 43 a)) (by omega) (by omega) (by omega) s1 s2 s3 (by rw [x5, sA_s, upd_s])
      rw [e1, e2, bd_s, bd_s, e3, bd_s, lt_s_]
      rw [show nI (0 + 1) = (1 : Int32) from rfl, show nI 0 = (0 : Int32) from rfl] at q5
      obtain ⟨B4, w1, w2, w3, w4⟩ := w_lay0 (LC_F (LC_B l3) q2) (KP_F k3 q2)
      have hx := LA_Y x1 q1
      have hA19 : A'.1 1 = Ma.1 1 := by rw [q1.1 1 (by omega), x2]
      have hA' : ∀ k, (k ≤ 10 ∨ (28 ≤ k ∧ k ≤ 38) ∨ (50 ≤ k ∧ k ≤ 81)) → A'.1 k = Ma.1 k := fun k hk => by
        by_cases h1 : k = 1
        · rw [h1]; exact hA19
        · exact hx.1 k (by omega)
      have h19 : B4.1 82 19 = Mb.1 82 19 := by
        rw [w4 19 (by omega) (by omega), q2.2.2 19 (by omega), sA_s, upd_n _ _ _ _ (by decide), u1.2.2.2 19 (by omega), y3]
      have RRf : RR P T N O A' B4 := ⟨RC_lay RC0 hA' hx.2.2 w2 h19, q3, lawB_LB hB w2, q4⟩
      rcases q5 with ⟨q5, q6⟩ | ⟨y', p, hy', hp, q5, q6⟩
      · rw [q5, q6]
        unfold X11_ruined_b73
        rw [w1, bd_s, i_m1]
        exact ⟨-2, A', B4, rfl, rfl, RRf⟩
      · rw [q5, q6]
        unfold X11_ruined_b73
        rw [w1, bd_s, i_nneg (by omega)]
        by_cases h0 : c = 0
        · rw [if_pos h0, if_pos h0]
          exact ⟨_, A', B4, rfl, rfl, RRf⟩
        · rw [if_neg h0, if_neg h0]
          exact ⟨_, A', B4, rfl, rfl, RRf⟩
    · rw [decide_eq_false hc, if_pos rfl, if_pos rfl]
      exact ⟨_, _, _, rfl, rfl, R⟩
  · rw [decide_eq_false hb, if_pos rfl]
    refine ⟨-1, Ma, Mb, ?_, rfl, R⟩
    by_cases c1 : b < -999
    · rw [if_pos c1]
    · rw [if_neg c1]
      by_cases c2 : 0 < b
      · rw [if_pos c2]
      · exfalso
        rw [q_lt, z32_m999] at c1
        rw [q_lt, z32_0] at c2
        exact hb ⟨by omega, by omega⟩
