/-! ===== the call ruled ===== -/
theorem w_anyBest {T P : Nat} {A : mm} (hT : T ≤ 6) (hP : P ≤ 5) (e1 : A.1 1 1 = nI T) (ho : ∀ t, t < T → ∃ o, o < P ∧ A.1 5 t = nI o) : ∃ b : Bool, X3_anyBest A = some (bI b, A) ∧ (b = false → ∀ t, t < T → A.1 4 (tn (A.1 5 t)) ≠ 4) := by
  have L : ∀ n t, t ≤ T → T - t < n → (∀ t', t' < t → A.1 4 (tn (A.1 5 t')) ≠ 4) → ∃ b : Bool, X3_anyBest_L2 n (nI t) A = some (bI b, A) ∧ (b = false → ∀ t, t < T → A.1 4 (tn (A.1 5 t)) ≠ 4) := by
    intro n
    induction n with
    | zero => intro t _ h; omega
    | succ n ih =>
      intro t ht hn hb
      rw [X3_anyBest_L2, e1, i_ltP (by omega) (by omega)]
      by_cases h : t < T
      · obtain ⟨o, o1, o2⟩ := ho t h
        rw [if_pos h, n_inb (by omega) (by omega), gd_t, n_cl (by omega), o2, n_inb (by omega) (by omega), gd_t, n_cl (by omega), nI_1]
        by_cases h4 : A.1 4 o = 4
        · rw [if_pos h4]
          exact ⟨true, rfl, fun q => nomatch q⟩
        · rw [if_neg h4]
          refine ih (t + 1) (by omega) (by omega) fun t' ht' => ?_
          by_cases htt : t' = t
          · rw [htt, o2, tn_nI (by omega)]; exact h4
          · exact hb t' (by omega)
      · rw [if_neg h]
        exact ⟨false, rfl, fun _ t' ht' => hb t' (by omega)⟩
  have := L 10000 0 (by omega) (by omega) (fun t' h => by omega)
  exact this
theorem rl_L {P T N Fa Fb g n : Nat} {O : Option (List stp)} {m : Prop} (hn20 : n ≤ 20) (a1 a3 : Int32) : ∀ k k' i tot A B, i ≤ n → n - i < k → n - i < k' → tot ≤ i * T → YS P T Fa Fb g m A B → YL T N Fa Fb O A B → YD 39 P T P (fun _ => 1) m A B → A.1 27 3 = B.1 82 43 → B.1 82 44 = nI tot → ∃ tot' A' B', tot' ≤ n * T ∧ (∀ Ka x4 x5 x6 x7 x8, X10_ruled_L83 a1 (nI n) a3 Ka k x4 x5 x6 x7 x8 (nI tot) (nI i) A = Ka x4 x5 x6 x7 x8 (nI tot') A') ∧ (∀ Kb y4 y5 y6 y7, X11_ruled_L74 a1 (nI n) a3 Kb k' y4 y5 y6 y7 (nI i) B = Kb y4 y5 y6 y7 B') ∧ B'.1 82 44 = nI tot' ∧ FY 39 T A A' ∧ FB B B' ∧ (lawA O A' ∧ rFo O A' ∧ RefOK A') ∧ rM T N O A' := by
  intro k
  induction k with
  | zero => intro k' i tot A B _ h; omega
  | succ k ih =>
    intro k' i tot A B hi hk hk' htot hS hL hD hz h44
    obtain ⟨k', rfl⟩ : ∃ z, k' = z + 1 := ⟨k' - 1, by omega⟩
    have t6 := hS.1.2.1
    by_cases h : i < n
    · obtain ⟨br, A1, B1, b0, e1, e2, s1, l1, d1, z1, z2, z3, -, fa, fb⟩ := y_year (w := 39) (by decide) (by omega) (Nat.le_refl P) hS hL hD hz
      have hm : (i + 1) * T = i * T + T := Nat.succ_mul i T
      obtain ⟨tot', A', B', q0, q1, q2, q3, q4, q5, q6, q7⟩ := ih k' (i + 1) (tot + br) A1 B1 (by omega) (by omega) (by omega) (by omega) s1 l1 d1 z1 (by rw [z2, h44, n_add])
      refine ⟨tot', A', B', q0, fun Ka x4 x5 x6 x7 x8 => ?_, fun Kb y4 y5 y6 y7 => ?_, q3, FY_t fa q4, FB_t fb q5, q6, q7⟩
      · rw [X10_ruled_L83, i_ltP (by omega) (by omega), if_pos h, e1, bd_s, n_add, nI_1]
        exact q1 Ka x4 x5 x6 x7 x8
      · rw [X11_ruled_L74, i_ltP (by omega) (by omega), if_pos h, e2, bd_s, nI_1]
        exact q2 Kb y4 y5 y6 y7
    · obtain rfl : i = n := by omega
      refine ⟨tot, A, B, htot, fun Ka x4 x5 x6 x7 x8 => ?_, fun Kb y4 y5 y6 y7 => ?_, h44, FY_r _ _ _, FB_r _, hL.1, hL.2.2.1⟩
      · rw [X10_ruled_L83, i_ltP (by omega) (by omega), if_neg h]
      · rw [X11_ruled_L74, i_ltP (by omega) (by omega), if_neg h]
/-- the other side begins with another F -/
theorem ru_begin {P T f : Nat} {O : Option (List stp)} {Ma Mb B : mm} {N : Nat} (hF : rF P T N Ma Mb) (hP : rP P Ma Mb) (hT : rT P T Ma Mb) (hB : lawB O Mb) (hf : f ≤ 9) (h1 : LB Mb B) (h2 : KP Mb B) (a : Int32) : ∃ B1, X11_asksBest (sA B 82 (upd (B.1 82) 19 (nI f))) = some ((), B1) ∧ LB Mb (sA B1 82 (upd (upd (B1.1 82) 43 a) 44 0)) ∧ KP Mb (sA B1 82 (upd (upd (B1.1 82) 43 a) 44 0)) ∧ (sA B1 82 (upd (upd (B1.1 82) 43 a) 44 0)).1 82 19 = nI f ∧ (sA B1 82 (upd (upd (B1.1 82) 43 a) 44 0)).1 82 43 = a ∧ (sA B1 82 (upd (upd (B1.1 82) 43 a) 44 0)).1 82 44 = nI 0 ∧ ∀ t, t < T → bN f O t Ma (sA B1 82 (upd (upd (B1.1 82) 43 a) 44 0)) := by
  obtain ⟨f1, f2, f3, f4, f5, f6, -, -, -⟩ := hF
  have l0 : LB Mb (sA B 82 (upd (B.1 82) 19 (nI f))) := LB_82 h1 _ (fun j hj => upd_n _ _ _ _ (by omega))
  have k0 : KP Mb (sA B 82 (upd (B.1 82) 19 (nI f))) := KP_c h2 ⟨sA_n _ _ _ _ (by decide), sA_n _ _ _ _ (by decide), sA_n _ _ _ _ (by decide), sA_n _ _ _ _ (by decide)⟩
  have hP1 : rP P Ma (sA B 82 (upd (B.1 82) 19 (nI f))) := rP_c hP ⟨rfl, rfl, rfl⟩ f1 (fun i _ => by rw [l0.1 83 (by omega)])
  have hT1 : rT P T Ma (sA B 82 (upd (B.1 82) 19 (nI f))) := rT_c hT (Nat.le_refl _) ⟨rfl, rfl, rfl, rfl, l0.1 90 (by omega)⟩ (fun i _ => by rw [l0.1 83 (by omega)])
  obtain ⟨B1, e3, u1, u2⟩ := w_asksBest (O := O) f1 f2 hf hP1 hT1 (lawB_LB hB l0) (by rw [l0.2.2.1 7 (by omega)]; exact f6) (by rw [sA_s, upd_s])
  have l2 := LB_U l0 u1
  refine ⟨B1, e3, LB_82 l2 _ (fun j hj => by rw [upd_n _ _ _ _ (by omega), upd_n _ _ _ _ (by omega)]), KP_c (KP_U k0 u1) ⟨sA_n _ _ _ _ (by decide), sA_n _ _ _ _ (by decide), sA_n _ _ _ _ (by decide), sA_n _ _ _ _ (by decide)⟩, ?_, ?_, ?_, fun t ht hw s l a' s1 s3 l3 a3 => ?_⟩
  · rw [sA_s, upd_n _ _ _ _ (by decide), upd_n _ _ _ _ (by decide), u1.2.2.2 19 (by omega), sA_s, upd_s]
  · rw [sA_s, upd_n _ _ _ _ (by decide), upd_s]
  · rw [sA_s, upd_s]; rfl
  · rw [sA_n _ _ _ _ (by decide)]
    exact u2 t ht hw s l a' s1 s3 l3 a3
/-- one F of the other side's ten, its number of breaks beside the first side's run -/
theorem ru_one {P T N Fa f g n : Nat} {O : Option (List stp)} {m : Prop} {Ma Mb A B : mm} (hn20 : n ≤ 20) (RC0 : RC P T N Ma Mb) (hN : N ≤ 600) (hB : lawB O Mb) (hf : f ≤ 9) (Fa9 : Fa ≤ 9) (hm : m → Fa = f) (h1 : LB Mb B) (h2 : KP Mb B) (a a3 : Int32) (g1 : g ≤ 1) (g2 : Ma.1 1 3 = nI g) (g3 : Mb.1 82 20 = nI g) (hA : LA T Ma A) (a2 : A.1 1 2 = nI Fa) (hz : A.1 27 3 = a) (w1 : ∀ i, 1 ≤ i → i ≤ 5 → ∀ t, t < T → A.1 (39 + i) t = Ma.1 (28 + i) t) (w2 : ∀ j, j < T * 8 → A.1 45 j = Ma.1 34 j) (w3 : ∀ i, 7 ≤ i → i ≤ 9 → ∀ p, p < P → A.1 (39 + i) p = Ma.1 (28 + i) p) (hL : lawA O A ∧ rFo O A ∧ RefOK A) (hM : rM T N O A) (hbest : ∀ t, t < T → Ma.1 4 (tn (Ma.1 5 t)) = 4 → Fa = f) : ∃ tot A' B', tot ≤ n * T ∧ (∀ Ka x4 x5 x6 x7 x8, X10_ruled_L83 a (nI n) a3 Ka 10000 x4 x5 x6 x7 x8 0 0 A = Ka x4 x5 x6 x7 x8 (nI tot) A') ∧ (∀ Kb k y4 y5 y6 , X11_ruled_L44 a (nI n) a3 Kb (k + 1) y4 y5 y6 (nI f) B = if y6 < 0 then X11_ruled_L44 a (nI n) a3 Kb k y4 (nI f) (nI tot) (nI (f + 1)) B' else if nI tot < y6 then X11_ruled_L44 a (nI n) a3 Kb k y4 (nI f) (nI tot) (nI (f + 1)) B' else X11_ruled_L44 a (nI n) a3 Kb k y4 y5 y6 (nI (f + 1)) B') ∧ LB Mb B' ∧ KP Mb B' ∧ LA T Ma A' ∧ (lawA O A' ∧ rFo O A' ∧ RefOK A') ∧ rM T N O A' := by
  obtain ⟨hF, hP, hT, hW, -⟩ := id RC0
  obtain ⟨B1, e1, b1, b2, b3, b4, b5, b6⟩ := ru_begin hF hP hT hB hf h1 h2 a
  obtain ⟨s1, s2, s3⟩ := th_setup (Fa := Fa) (Fb := f) (m := m) (g := g) hF hP hT hW hN hA a2 b1 b3 Fa9 hf hm g1 g2 g3 w1 w2 w3 hL (lawB_LB hB b1) hM (fun t ht hw => ⟨hbest t ht hw, b6 t ht⟩)
  obtain ⟨tot, A', B2, q0, q1, q2, q3, q4, q5, q6, q7⟩ := rl_L hn20 a a3 10000 10000 0 0 A _ (by omega) (by omega) (by omega) (by omega) s1 s2 s3 (by rw [hz, b4]) b5
  obtain ⟨B4, v1, v2, v3, v4⟩ := w_lay0 (LC_F (LC_B b1) q5) (KP_F b2 q5)
  refine ⟨tot, A', B4, q0, q1, fun Kb k y4 y5 y6 => ?_, v2, v3, LA_Y hA q4, q6, q7⟩
  rw [X11_ruled_L44, show (10 : Int32) = nI 10 from rfl, i_ltP (by omega) (by omega), if_pos (by omega), lt_s_, e1, bd_s, lt_s_, lt_s_, sA_s, sA_sA]
  have q2' := fun Kb y4 y5 y6 y7 => q2 Kb y4 y5 y6 y7
  rw [show nI 0 = (0 : Int32) from rfl] at q2'
  rw [q2']
  have e44 : B4.1 82 44 = nI tot := by rw [v4 44 (by omega) (by omega)]; exact q3
  rw [v1, bd_s]
  unfold X11_ruled_b113 X11_ruled_b123
  rw [e44, nI_1]
/-- BEST is somebody's way: both sides try all ten -/
theorem rA_L {P T N g n : Nat} {O : Option (List stp)} {Ma Mb : mm} (hn20 : n ≤ 20) (RC0 : RC P T N Ma Mb) (hN : N ≤ 600) (hB : lawB O Mb) (a a3 : Int32) (g1 : g ≤ 1) (g2 : Ma.1 1 3 = nI g) (g3 : Mb.1 82 20 = nI g) (Ka : Int32 → Int32 → Int32 → mm → Option (Int32 × mm)) (Kb : Int32 → Int32 → Int32 → mm → Option (Int32 × mm)) : ∀ k k' f (x4 y4 best least : Int32) (A B : mm), f ≤ 10 → 10 - f < k → 10 - f < k' → LA T Ma A → (lawA O A ∧ rFo O A ∧ RefOK A) → rM T N O A → LB Mb B → KP Mb B → (f = 0 → least = -1) → (0 < f → ∃ l, l < 2 ^ 31 ∧ least = nI l) → ∃ best' least' A' B', X10_ruled_L56 a (nI n) a3 Ka k x4 best least (nI 9) (nI f) A = Ka x4 best' least' A' ∧ X11_ruled_L44 a (nI n) a3 Kb k' y4 best least (nI f) B = Kb y4 best' least' B' ∧ LA T Ma A' ∧ (lawA O A' ∧ rFo O A' ∧ RefOK A') ∧ rM T N O A' ∧ LB Mb B' := by
  obtain ⟨f1, f2, f3, f4, f5, f6, -, -, -⟩ := id RC0.1
  intro k
  induction k with
  | zero => intro k' f x4 y4 best least A B _ h; omega
  | succ k ih =>
    intro k' f x4 y4 best least A B hf hk hk' hA hL hM hb hkp h0 hl
    obtain ⟨k', rfl⟩ : ∃ z, k' = z + 1 := ⟨k' - 1, by omega⟩
    by_cases h : f < 10
    · rw [X10_ruled_L56, i_ltP (by omega) (by omega), if_neg (by omega), lt_s_]
      have hA1 : LA T Ma (sA A 1 (upd (A.1 1) 2 (nI f))) := ⟨fun k hk => by rw [sA_n _ _ _ _ (by omega)]; exact hA.1 k hk, fun j hj => by rw [sA_s, upd_n _ _ _ _ hj]; exact hA.2.1 j hj, hA.2.2⟩
      have hL1 : lawA O (sA A 1 (upd (A.1 1) 2 (nI f))) ∧ rFo O (sA A 1 (upd (A.1 1) 2 (nI f))) ∧ RefOK (sA A 1 (upd (A.1 1) 2 (nI f))) := by
        refine ⟨lawA_X hL.1 ⟨sA_n _ _ _ _ (by decide), sA_n _ _ _ _ (by decide), sA_n _ _ _ _ (by decide)⟩, fun t s a l k1 k2 k3 k4 k5 => ?_, hL.2.2⟩
        rw [sA_n _ _ _ _ (by decide)]
        exact hL.2.1 t s a l k1 k2 k3 k4 k5
      have hM1 : rM T N O (sA A 1 (upd (A.1 1) 2 (nI f))) := rM_c hM (Nat.le_refl _) (by rw [sA_s, upd_n _ _ _ _ (by decide)]) rfl (fun F t _ => cNow_c O F t (sA_n _ _ _ _ (by decide)) (sA_n _ _ _ _ (by decide)) (sA_n _ _ _ _ (by decide)) (sA_n _ _ _ _ (by decide)) (sA_n _ _ _ _ (by decide)))
      have e10 : (sA A 1 (upd (A.1 1) 2 (nI f))).1 1 0 = nI P := by rw [sA_s, upd_n _ _ _ _ (by decide), hA.2.1 0 (by omega)]; exact f3
      have e11 : (sA A 1 (upd (A.1 1) 2 (nI f))).1 1 1 = nI T := by rw [sA_s, upd_n _ _ _ _ (by decide), hA.2.1 1 (by omega)]; exact f4
      obtain ⟨A1, e1, x1, x2, x3, x4', x5, x6, x7, x8, -⟩ := w_startThought (F := 0) hA1 f1 f2 e10 e11 hL1 hM1 a
      have wx : ∀ k, (28 ≤ k ∧ k ≤ 38) → (sA A 1 (upd (A.1 1) 2 (nI f))).1 k = Ma.1 k := fun k hk => hA1.1 k (by omega)
      obtain ⟨tot, A2, B2, q0, q1, q2, q3, q4, q5, q6, q7⟩ := ru_one (Fa := f) (m := False) (n := n) hn20 RC0 hN hB (show f ≤ 9 by omega) (show f ≤ 9 by omega) (fun q => q.elim) hb hkp a a3 g1 g2 g3 x1 (by rw [x2, sA_s, upd_s]) x5 (fun i i1 i5 t ht => by rw [x6 i i1 i5 t ht, wx _ (by omega)]) (fun j hj => by rw [x7 j hj, wx 34 (by omega)]) (fun i i1 i5 p hp => by rw [x8 i i1 i5 p hp, wx _ (by omega)]) x3 x4' (fun _ _ _ => rfl)
      have t31 : tot < 2 ^ 31 := by
        have : n * T ≤ 20 * 6 := Nat.mul_le_mul hn20 f2
        omega
      rw [e1, bd_s, q1, q2]
      unfold X10_ruled_b123 X10_ruled_b131
      rw [nI_1, show (if nI f = 0 then X10_ruled_L56 a (nI n) a3 Ka k x4 (nI f) (nI tot) (nI 9) (nI (f + 1)) A2 else if nI tot < least then X10_ruled_L56 a (nI n) a3 Ka k x4 (nI f) (nI tot) (nI 9) (nI (f + 1)) A2 else X10_ruled_L56 a (nI n) a3 Ka k x4 best least (nI 9) (nI (f + 1)) A2) = (if f = 0 then X10_ruled_L56 a (nI n) a3 Ka k x4 (nI f) (nI tot) (nI 9) (nI (f + 1)) A2 else if nI tot < least then X10_ruled_L56 a (nI n) a3 Ka k x4 (nI f) (nI tot) (nI 9) (nI (f + 1)) A2 else X10_ruled_L56 a (nI n) a3 Ka k x4 best least (nI 9) (nI (f + 1)) A2) from i_eqP (a := f) (b := 0) (by omega) (by omega) _ _]
      by_cases hf0 : f = 0
      · rw [if_pos hf0, h0 hf0, i_m1]
        exact ih k' (f + 1) x4 y4 (nI f) (nI tot) A2 B2 (by omega) (by omega) (by omega) q5 q6 q7 q3 q4 (fun q => by omega) (fun _ => ⟨tot, t31, rfl⟩)
      · obtain ⟨l, l1, l2⟩ := hl (by omega)
        rw [if_neg hf0, l2, i_nneg l1]
        by_cases hlt : nI tot < nI l
        · rw [if_pos hlt, if_pos hlt]
          exact ih k' (f + 1) x4 y4 (nI f) (nI tot) A2 B2 (by omega) (by omega) (by omega) q5 q6 q7 q3 q4 (fun q => by omega) (fun _ => ⟨tot, t31, rfl⟩)
        · rw [if_neg hlt, if_neg hlt]
          exact ih k' (f + 1) x4 y4 best (nI l) A2 B2 (by omega) (by omega) (by omega) q5 q6 q7 q3 q4 (fun q => by omega) (fun _ => ⟨l, l1, rfl⟩)
    · obtain rfl : f = 10 := by omega
      rw [X10_ruled_L56, X11_ruled_L44, i_ltP (by omega) (by omega), if_pos (by omega), show (10 : Int32) = nI 10 from rfl, i_ltP (by omega) (by omega), if_neg (by omega)]
      exact ⟨best, least, A, B, rfl, rfl, hA, hL, hM, hb⟩
/-- nobody goes by BEST: the other side's ten all tell the same -/
theorem rB_L {P T N g n tot0 : Nat} {O : Option (List stp)} {Ma Mb A Ax : mm} (hn20 : n ≤ 20) (RC0 : RC P T N Ma Mb) (hN : N ≤ 600) (hB : lawB O Mb) (a a3 : Int32) (g1 : g ≤ 1) (g2 : Ma.1 1 3 = nI g) (g3 : Mb.1 82 20 = nI g) (hA : LA T Ma A) (a2 : A.1 1 2 = nI 0) (hz : A.1 27 3 = a) (w1 : ∀ i, 1 ≤ i → i ≤ 5 → ∀ t, t < T → A.1 (39 + i) t = Ma.1 (28 + i) t) (w2 : ∀ j, j < T * 8 → A.1 45 j = Ma.1 34 j) (w3 : ∀ i, 7 ≤ i → i ≤ 9 → ∀ p, p < P → A.1 (39 + i) p = Ma.1 (28 + i) p) (hL : lawA O A ∧ rFo O A ∧ RefOK A) (hM : rM T N O A) (hno : ∀ t, t < T → Ma.1 4 (tn (Ma.1 5 t)) ≠ 4) (hcls : ∀ Ka x4 x5 x6 x7 x8, X10_ruled_L83 a (nI n) a3 Ka 10000 x4 x5 x6 x7 x8 0 0 A = Ka x4 x5 x6 x7 x8 (nI tot0) Ax) (ht0 : tot0 ≤ n * T) (Kb : Int32 → Int32 → Int32 → mm → Option (Int32 × mm)) : ∀ k' f (y4 best : Int32) (B : mm), f ≤ 10 → 10 - f < k' → LB Mb B → KP Mb B → ∃ B', X11_ruled_L44 a (nI n) a3 Kb k' y4 best (nI tot0) (nI f) B = Kb y4 best (nI tot0) B' ∧ LB Mb B' := by
  have f2 := RC0.1.2.1
  intro k'
  induction k' with
  | zero => intro f y4 best B _ h; omega
  | succ k' ih =>
    intro f y4 best B hf hk hb hkp
    by_cases h : f < 10
    · obtain ⟨tot, A2, B2, q0, q1, q2, q3, q4, q5, q6, q7⟩ := ru_one (Fa := 0) (m := False) (n := n) hn20 RC0 hN hB (show f ≤ 9 by omega) (show 0 ≤ 9 by omega) (fun q => q.elim) hb hkp a a3 g1 g2 g3 hA a2 hz w1 w2 w3 hL hM (fun t ht hw => absurd hw (hno t ht))
      have h20 : n * T ≤ 20 * 6 := Nat.mul_le_mul hn20 f2
      have e : tot = tot0 := by
        have c1 := q1 (fun _ _ _ _ _ x9 M => some (x9, M)) 0 0 0 0 0
        have c2 := hcls (fun _ _ _ _ _ x9 M => some (x9, M)) 0 0 0 0 0
        rw [c1] at c2
        have c3 : nI tot = nI tot0 := congrArg Prod.fst (Option.some.inj c2)
        rw [n_eq (by omega) (by omega)] at c3
        exact c3
      rw [q2, i_nneg (by omega), e, i_ltP (by omega) (by omega), if_neg (by omega)]
      exact ih (f + 1) y4 best B2 (by omega) (by omega) q3 q4
    · obtain rfl : f = 10 := by omega
      rw [X11_ruled_L44, show (10 : Int32) = nI 10 from rfl, i_ltP (by omega) (by omega), if_neg (by omega)]
      exact ⟨B, rfl, hb⟩
theorem z32_20 : (20 : Int32).toInt = 20 := by decide
theorem z64_20 : (20 : Int64).toInt = 20 := by decide
theorem op_ruled {P T N : Nat} {O : Option (List stp)} {Ma Mb : mm} (hN : N ≤ 600) (R : RR P T N O Ma Mb) (a b c : Int32) : ∃ v Ma' Mb', X10_ruled a b c Ma = some (v, Ma') ∧ X11_ruled a b c Mb = some (v, Mb') ∧ RR P T N O Ma' Mb' := by
  obtain ⟨RC0, hL, hB, hM⟩ := id R
  obtain ⟨hF, hP, hT, hW, hY, hI, hC, hTa, hA, hSh⟩ := id RC0
  obtain ⟨f1, f2, f3, f4, f5, f6, ⟨F, F1, F2, F3⟩, ⟨g, g1, g2, g3⟩, f9⟩ := id hF
  unfold X10_ruled X11_ruled
  rw [w_within, bd_s, i_P (bI_0 _), q_i64, z64_1, z64_20, w_zeroOne, bd_s, i_P (bI_0 _)]
  rcases q_rng b 1 20 (by omega) with hb | ⟨n, n1', n2', rfl⟩
  · rw [decide_eq_false (p := 1 ≤ b.toInt ∧ b.toInt ≤ 20) (by simpa using hb), if_pos (c := false = false) rfl]
    refine ⟨-1, Ma, Mb, ?_, rfl, R⟩
    by_cases c1 : b < 1
    · rw [if_pos c1]
    · rw [if_neg c1]
      by_cases c2 : 20 < b
      · rw [if_pos c2]
      · exfalso
        rw [q_lt, z32_1] at c1
        rw [q_lt, z32_20] at c2
        exact hb ⟨by omega, by omega⟩
  · rw [nI_toInt (by omega), decide_eq_true (show (1 : Int) ≤ n ∧ (n : Int) ≤ 20 by omega), if_neg (c := true = false) (fun q => nomatch q), if_neg (show ¬ (nI n < 1) from ng (b := 1) (by omega) (by omega) (by omega)), if_neg (show ¬ (20 < nI n) from ng (a := 20) (by omega) (by omega) (by omega)), w_within, bd_s, i_P (bI_0 _), q_i64, z64_0, z64_1]
    by_cases hc : 0 ≤ c.toInt ∧ c.toInt ≤ 1
    · rw [decide_eq_true hc, if_neg (c := true = false) (fun q => nomatch q), if_neg (c := true = false) (fun q => nomatch q)]
      obtain ⟨any, e1, e2⟩ := w_anyBest f2 f1 f4 (fun t ht => by obtain ⟨⟨o, o1, o2, -⟩, -⟩ := hT t ht; exact ⟨o, o1, o2⟩)
      obtain ⟨B1, e3, y1, y2, y3, y4⟩ := w_aside0 Mb
      rw [e1, bd_s, e3, bd_s, F2, F3, i_P (bI_0 _)]
      unfold X10_ruled_b51
      -- the ends of both
      have fin : ∀ (best least : Int32) (A' B' : mm), LA T Ma A' → (lawA O A' ∧ rFo O A' ∧ RefOK A') → rM T N O A' → LB Mb B' → ∃ v Ma' Mb', (lt_ (sA A' 1 (upd (A'.1 1) 2 (nI F))) fun M22 => if c = 0 then some (best, M22) else some (least, M22)) = some (v, Ma') ∧ (lt_ (sA B' 82 (upd (B'.1 82) 19 (nI F))) fun M28 => if c = 0 then some (best, M28) else some (least, M28)) = some (v, Mb') ∧ RR P T N O Ma' Mb' := by
        intro best least A' B' hA' hL' hM' hB'
        have hb2 : LB Mb (sA B' 82 (upd (B'.1 82) 19 (nI F))) := LB_82 hB' _ (fun j hj => upd_n _ _ _ _ (by omega))
        have e11 : (sA A' 1 (upd (A'.1 1) 2 (nI F))).1 1 = Ma.1 1 := by
          funext j
          rw [sA_s, upd_a]
          by_cases hj : j = 2
          · rw [if_pos hj, hj, F2]
          · rw [if_neg hj]; exact hA'.2.1 j hj
        have hx : ∀ k, (k ≤ 10 ∨ (28 ≤ k ∧ k ≤ 38) ∨ (50 ≤ k ∧ k ≤ 81)) → (sA A' 1 (upd (A'.1 1) 2 (nI F))).1 k = Ma.1 k := by
          intro k hk
          by_cases h1 : k = 1
          · rw [h1]; exact e11
          · rw [sA_n _ _ _ _ h1]; exact hA'.1 k (by omega)
        have RRf : RR P T N O (sA A' 1 (upd (A'.1 1) 2 (nI F))) (sA B' 82 (upd (B'.1 82) 19 (nI F))) := by
          refine ⟨RC_lay RC0 hx hA'.2.2 hb2 (by rw [sA_s, upd_s, F3]), ⟨lawA_X hL'.1 ⟨sA_n _ _ _ _ (by decide), sA_n _ _ _ _ (by decide), sA_n _ _ _ _ (by decide)⟩, fun t s a l k1 k2 k3 k4 k5 => ?_, hL'.2.2⟩, lawB_LB hB hb2, rM_c hM' (Nat.le_refl _) (by rw [sA_s, upd_n _ _ _ _ (by decide)]) rfl (fun F t _ => cNow_c O F t (sA_n _ _ _ _ (by decide)) (sA_n _ _ _ _ (by decide)) (sA_n _ _ _ _ (by decide)) (sA_n _ _ _ _ (by decide)) (sA_n _ _ _ _ (by decide)))⟩
          rw [sA_n _ _ _ _ (by decide)]
          exact hL'.2.1 t s a l k1 k2 k3 k4 k5
        rw [lt_s_, lt_s_]
        by_cases h0 : c = 0
        · rw [if_pos h0, if_pos h0]
          exact ⟨_, _, _, rfl, rfl, RRf⟩
        · rw [if_neg h0, if_neg h0]
          exact ⟨_, _, _, rfl, rfl, RRf⟩
      have eF : B1.1 82 19 = nI F := by rw [y3]; exact F3
      cases any with
      | true =>
        rw [if_neg (c := true = false) (fun q => nomatch q)]
        obtain ⟨best, least, A', B', q1, q2, q3, q4, q5, q6⟩ := rA_L n2' RC0 hN hB a c g1 g2 g3 (fun x4 x5 x6 M =>
      lt_ (sA M 1 (upd (M.1 1) 2 x4)) fun M22 =>
      if c = 0 then
        some (x5, M22)
      else
        some (x6, M22)) (fun x4 x5 x6 M =>
          lt_ (sA M 82 (upd (M.1 82) 19 x4)) fun M28 =>
          if c = 0 then
            some (x5, M28)
          else
            some (x6, M28)) 10000 10000 0 (nI F) (nI F) 0 (-1) Ma B1 (by omega) (by omega) (by omega) (LA_r T Ma) hL hM y1 y2 (fun _ => rfl) (fun h => absurd h (by omega))
        rw [show nI 9 = (9 : Int32) from rfl, show nI 0 = (0 : Int32) from rfl] at q1
        rw [show nI 0 = (0 : Int32) from rfl] at q2
        rw [q1, q2]
        exact fin best least A' B' q3 q4 q5 q6
      | false =>
        rw [if_pos rfl]
        have hno := e2 rfl
        -- the first side's one run, F being 0
        have hA1 : LA T Ma (sA Ma 1 (upd (Ma.1 1) 2 0)) := ⟨fun k hk => sA_n _ _ _ _ (by omega), fun j hj => by rw [sA_s, upd_n _ _ _ _ hj], fun _ _ => rfl⟩
        have hL1 : lawA O (sA Ma 1 (upd (Ma.1 1) 2 0)) ∧ rFo O (sA Ma 1 (upd (Ma.1 1) 2 0)) ∧ RefOK (sA Ma 1 (upd (Ma.1 1) 2 0)) := by
          refine ⟨lawA_X hL.1 ⟨sA_n _ _ _ _ (by decide), sA_n _ _ _ _ (by decide), sA_n _ _ _ _ (by decide)⟩, fun t s a l k1 k2 k3 k4 k5 => ?_, hL.2.2⟩
          rw [sA_n _ _ _ _ (by decide)]
          exact hL.2.1 t s a l k1 k2 k3 k4 k5
        have hM1 : rM T N O (sA Ma 1 (upd (Ma.1 1) 2 0)) := rM_c hM (Nat.le_refl _) (by rw [sA_s, upd_n _ _ _ _ (by decide)]) rfl (fun F t _ => cNow_c O F t (sA_n _ _ _ _ (by decide)) (sA_n _ _ _ _ (by decide)) (sA_n _ _ _ _ (by decide)) (sA_n _ _ _ _ (by decide)) (sA_n _ _ _ _ (by decide)))
        obtain ⟨A1, a1, x1, x2, x3, x4', x5, x6, x7, x8, -⟩ := w_startThought (F := 0) hA1 f1 f2 (by rw [sA_s, upd_n _ _ _ _ (by decide)]; exact f3) (by rw [sA_s, upd_n _ _ _ _ (by decide)]; exact f4) hL1 hM1 a
        have wx : ∀ k, (28 ≤ k ∧ k ≤ 38) → (sA Ma 1 (upd (Ma.1 1) 2 0)).1 k = Ma.1 k := fun k hk => hA1.1 k (by omega)
        have hw1 : ∀ i, 1 ≤ i → i ≤ 5 → ∀ t, t < T → A1.1 (39 + i) t = Ma.1 (28 + i) t := fun i i1 i5 t ht => by rw [x6 i i1 i5 t ht, wx _ (by omega)]
        have hw2 : ∀ j, j < T * 8 → A1.1 45 j = Ma.1 34 j := fun j hj => by rw [x7 j hj, wx 34 (by omega)]
        have hw3 : ∀ i, 7 ≤ i → i ≤ 9 → ∀ p, p < P → A1.1 (39 + i) p = Ma.1 (28 + i) p := fun i i1 i5 p hp => by rw [x8 i i1 i5 p hp, wx _ (by omega)]
        have hA2 : A1.1 1 2 = nI 0 := by rw [x2, sA_s, upd_s]; rfl
        obtain ⟨tot, A2, B2, q0, q1, q2, q3, q4, q5, q6, q7⟩ := ru_one (Fa := 0) (f := 0) (m := False) n2' RC0 hN hB (by omega) (by omega) (fun q => q.elim) y1 y2 a c g1 g2 g3 x1 hA2 x5 hw1 hw2 hw3 x3 x4' (fun _ _ _ => rfl)
        obtain ⟨B3, r1, r2⟩ := rB_L (n := n) n2' RC0 hN hB a c g1 g2 g3 x1 hA2 x5 hw1 hw2 hw3 x3 x4' hno q1 q0 (fun x4 x5 x6 M =>
          lt_ (sA M 82 (upd (M.1 82) 19 x4)) fun M28 =>
          if c = 0 then
            some (x5, M28)
          else
            some (x6, M28)) 9999 1 (nI F) (nI 0) B2 (by omega) (by omega) q3 q4
        have t31 : tot < 2 ^ 31 := by
          have : n * T ≤ 20 * 6 := Nat.mul_le_mul n2' f2
          omega
        rw [show (10000 : Nat) = 9999 + 1 from rfl, X10_ruled_L56, if_neg (show ¬ ((0 : Int32) < 0) by decide), lt_s_, a1, bd_s, show (9999 + 1 : Nat) = 10000 from rfl, q1, i_00]
        unfold X10_ruled_b123 X10_ruled_b131
        rw [show (9999 : Nat) = 9998 + 1 from rfl, X10_ruled_L56, if_pos (show (0 : Int32) < 0 + 1 by decide)]
        have q2' := q2 (fun x4 x5 x6 M =>
          lt_ (sA M 82 (upd (M.1 82) 19 x4)) fun M28 =>
          if c = 0 then
            some (x5, M28)
          else
            some (x6, M28)) 9999 (nI F) 0 (-1)
        rw [i_m1, r1] at q2'
        rw [show nI 0 = (0 : Int32) from rfl] at q2'
        rw [q2']
        exact fin 0 (nI tot) A2 B3 q5 q6 q7 r2
    · rw [decide_eq_false hc, if_pos rfl, if_pos rfl]
      exact ⟨_, _, _, rfl, rfl, R⟩
