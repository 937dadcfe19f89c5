/-! ===== the call years ===== -/
theorem law_w3 {T N : Nat} {O : Option (List stp)} {M M' : mm} (e2 : M'.2 = M.2) (e : ∀ k, 1 ≤ k → k ≤ 20 → M'.1 k = M.1 k) (hA : lawA O M ∧ rFo O M ∧ RefOK M) (hM : rM T N O M) : (lawA O M' ∧ rFo O M' ∧ RefOK M') ∧ rM T N O M' := by
  refine ⟨⟨lawA_X hA.1 ⟨e 16 (by omega) (by omega), e 17 (by omega) (by omega), e 18 (by omega) (by omega)⟩, fun t s a l k1 k2 k3 k4 k5 => ?_, ?_⟩, rM_c hM (Nat.le_refl _) (by rw [e 1 (by omega) (by omega)]) (by rw [e2]) (fun F t _ => cNow_c O F t (e 2 (by omega) (by omega)) (e 3 (by omega) (by omega)) (e 5 (by omega) (by omega)) (e 6 (by omega) (by omega)) (e 7 (by omega) (by omega)))⟩
  · rw [e 20 (by omega) (by omega)]
    exact hA.2.1 t s a l k1 k2 k3 k4 k5
  · have := hA.2.2
    unfold RefOK at this ⊢
    rw [e2]
    exact this
/-- what a year leaves of the first side, its counts too -/
def FY (w T : Nat) (M M' : mm) : Prop := (∀ k, (k ≤ 18 ∨ (28 ≤ k ∧ (k < w ∨ w + 10 < k))) → M'.1 k = M.1 k) ∧ (∀ k, k < 21 ∨ 26 < k → M'.2.1 k = M.2.1 k) ∧ M'.2.2 0 = M.2.2 0 ∧ ∀ t, T ≤ t → M'.1 (w + 5) t = M.1 (w + 5) t
theorem FY_r (w T : Nat) (M : mm) : FY w T M M := ⟨fun _ _ => rfl, fun _ _ => rfl, rfl, fun _ _ => rfl⟩
theorem FY_t {w T : Nat} {M M' M'' : mm} (h : FY w T M M') (h2 : FY w T M' M'') : FY w T M M'' := ⟨fun k a => (h2.1 k a).trans (h.1 k a), fun k a => (h2.2.1 k a).trans (h.2.1 k a), h2.2.2.1.trans h.2.2.1, fun t a => (h2.2.2.2 t a).trans (h.2.2.2 t a)⟩
theorem ys_L {P T N F h n : Nat} {O : Option (List stp)} (hn30 : n ≤ 30) (a1 : Int32) (Ka : Int32 → mm → Option (Int32 × mm)) (Kb : mm → Option (Int32 × mm)) : ∀ k k' i tot Ma Mb (W B : Int32), i ≤ n → n - i < k → n - i < k' → tot ≤ i * T → YS P T F F h True Ma Mb → YL T N F F O Ma Mb → YD 28 P T 5 (fun _ => 1) True Ma Mb → Ma.1 27 3 = Mb.1 82 43 → Mb.1 82 44 = nI tot → Ma.1 28 0 = W + nI (i * T - tot) → Ma.1 28 1 = B + nI tot → (0 < i → ∀ j, j < T → Ma.1 38 j = Mb.1 97 j) → ∃ tot' Ma' Mb', tot' ≤ n * T ∧ X10_years_L26 a1 (nI n) Ka k (nI tot) (nI i) Ma = Ka (nI tot') Ma' ∧ X11_years_L30 a1 (nI n) Kb k' (nI i) Mb = Kb Mb' ∧ YS P T F F h True Ma' Mb' ∧ YL T N F F O Ma' Mb' ∧ YD 28 P T 5 (fun _ => 1) True Ma' Mb' ∧ Mb'.1 82 44 = nI tot' ∧ Ma'.1 28 0 = W + nI (n * T - tot') ∧ Ma'.1 28 1 = B + nI tot' ∧ (0 < n → ∀ j, j < T → Ma'.1 38 j = Mb'.1 97 j) ∧ FY 28 T Ma Ma' ∧ FB Mb Mb' := by
  intro k
  induction k with
  | zero => intro k' i tot Ma Mb W B _ h; omega
  | succ k ih =>
    intro k' i tot Ma Mb W B hi hk hk' htot hS hL hD hz h44 hW hB hy
    obtain ⟨k', rfl⟩ : ∃ z, k' = z + 1 := ⟨k' - 1, by omega⟩
    have t6 := hS.1.2.1
    rw [X10_years_L26, X11_years_L30, i_ltP (by omega) (by omega), i_ltP (by omega) (by omega)]
    by_cases h : i < n
    · obtain ⟨br, A1, B1, b0, e1, e2, s1, l1, d1, z1, z2, z3, ⟨z4, z5⟩, fa, fb⟩ := y_year (w := 28) (by decide) (by omega) (show P ≤ 5 from hS.1.1) hS hL hD hz
      rw [if_pos h, if_pos h, e1, e2, bd_s, bd_s, n_add, nI_1]
      have hm : (i + 1) * T = i * T + T := Nat.succ_mul i T
      obtain ⟨tot', Ma', Mb', q0, q1, q2, q3, q4, q5, q6, q7, q8, q9, q10, q11⟩ := ih k' (i + 1) (tot + br) A1 B1 W B (by omega) (by omega) (by omega) (by omega) s1 l1 d1 z1 (by rw [z2, h44, n_add]) (by
        rw [z4, hW, n_sub b0, Int32.add_assoc, n_add]
        congr 2
        omega) (by rw [z5, hB, Int32.add_assoc, n_add]) (fun _ => z3 trivial)
      exact ⟨tot', Ma', Mb', q0, q1, q2, q3, q4, q5, q6, q7, q8, q9, FY_t fa q10, FB_t fb q11⟩
    · rw [if_neg h, if_neg h]
      obtain rfl : i = n := by omega
      exact ⟨tot, Ma, Mb, htot, rfl, rfl, hS, hL, hD, h44, hW, hB, hy, FY_r _ _ _, FB_r _⟩
theorem YD_of {P T : Nat} {Ma Mb : mm} (h : rW 28 P T Ma Mb) : YD 28 P T 5 (fun _ => 1) True Ma Mb := ⟨h.1, fun p hp _ => h.2.1 p hp⟩
theorem YS_of {P T N F h : Nat} {Ma Mb : mm} (hF : rF P T N Ma Mb) (hP : rP P Ma Mb) (hT : rT P T Ma Mb) (F9 : F ≤ 9) (h1 : h ≤ 1) (e1 : Ma.1 1 2 = nI F) (e2 : Mb.1 82 19 = nI F) (e3 : Ma.1 1 3 = nI h) (e4 : Mb.1 82 20 = nI h) (m : Prop) : YS P T F F h m Ma Mb := by
  obtain ⟨f1, f2, f3, f4, f5, f6, f7, f8, f9⟩ := hF
  exact ⟨⟨f1, f2, F9, F9, h1, fun _ => rfl⟩, ⟨f3, f4, e1, e3, f5, f6, e2, e4⟩, hP, hT⟩
theorem q_rng1 (a : Int32) (lo hi : Nat) (hh : hi < 2 ^ 31) : (¬ ((lo : Int) ≤ a.toInt ∧ a.toInt ≤ hi)) ∨ ∃ x : Nat, lo ≤ x ∧ x ≤ hi ∧ a = nI x := q_rng a lo hi hh
theorem z32_30 : (30 : Int32).toInt = 30 := by decide
theorem z64_30 : (30 : Int64).toInt = 30 := by decide
theorem op_years {P T N : Nat} {O : Option (List stp)} {Ma Mb : mm} (hN : N ≤ 600) (R : RR P T N O Ma Mb) (a b : Int32) : ∃ v Ma' Mb', X10_years a b Ma = some (v, Ma') ∧ X11_years a b Mb = some (v, Mb') ∧ RR P T N O Ma' Mb' := by
  obtain ⟨⟨hF, hP, hT, hW, hY, hI, hC, hTa, hA, hSh⟩, hL, hB, hM⟩ := id R
  obtain ⟨f1, f2, f3, f4, f5, f6, ⟨F, F1, F2, F3⟩, ⟨g, g1, g2, g3⟩, f9⟩ := id hF
  unfold X10_years X11_years
  rw [w_within, bd_s, i_P (bI_0 _), q_i64, z64_1, z64_30]
  rcases q_rng b 1 30 (by omega) with hb | ⟨n, n1', n2', rfl⟩
  · rw [decide_eq_false (by simpa using hb), if_pos rfl]
    refine ⟨-1, Ma, Mb, ?_, rfl, R⟩
    by_cases c1 : b < 1
    · rw [if_pos c1]
    · rw [if_neg c1]
      by_cases c2 : 30 < b
      · rw [if_pos c2]
      · exfalso
        rw [q_lt, z32_1] at c1
        rw [q_lt, z32_30] at c2
        exact hb ⟨by omega, by omega⟩
  · rw [nI_toInt (by omega), decide_eq_true (by omega), if_neg (c := true = false) (fun q => nomatch q), if_neg (show ¬ (nI n < 1) from ng (b := 1) (by omega) (by omega) (by omega)), if_neg (show ¬ (30 < nI n) from ng (a := 30) (by omega) (by omega) (by omega))]
    obtain ⟨B1, e1, e2, e3⟩ := w_asksBest (O := O) f1 f2 F1 hP hT hB f6 F3
    unfold X2_sow
    rw [e1, bd_s, lt_s_, bd_s, lt_s_, lt_s_, sA_s, sA_sA]
    generalize hA1 : sA Ma 27 (upd (Ma.1 27) 3 a) = A1
    generalize hB2 : sA B1 82 (upd (upd (B1.1 82) 43 a) 44 0) = B2
    have ca : ∀ k, k ≠ 27 → A1.1 k = Ma.1 k := fun k hk => by rw [← hA1]; exact sA_n _ _ _ _ hk
    have ca2 : A1.2 = Ma.2 := by rw [← hA1]; rfl
    have cb : ∀ k, k ≠ 82 → k ≠ 100 → k ≠ 102 → k ≠ 104 → k ≠ 106 → B2.1 k = Mb.1 k := fun k c1 c2 c3 c4 c5 => by rw [← hB2, sA_n _ _ _ _ c1]; exact e2.2.1 k c1 c2 c3 c4 c5
    have cb106 : B2.1 106 = B1.1 106 := by rw [← hB2]; exact sA_n _ _ _ _ (by decide)
    have cj : ∀ j, (j < 27 ∨ 41 < j) → j ≠ 43 → j ≠ 44 → B2.1 82 j = Mb.1 82 j := fun j c1 c2 c3 => by
      rw [← hB2, sA_s, upd_n _ _ _ _ c3, upd_n _ _ _ _ c2]
      exact e2.2.2.2 j c1
    have hz : A1.1 27 3 = B2.1 82 43 := by
      rw [← hA1, ← hB2, sA_s, sA_s, upd_s, upd_n _ _ _ _ (by decide), upd_s]
    have h44 : B2.1 82 44 = nI 0 := by
      rw [← hB2, sA_s, upd_s]; rfl
    have hS0 : YS P T F F g True Ma Mb := YS_of hF hP hT F1 g1 F2 F3 g2 g3 True
    have hS1 : YS P T F F g True A1 B2 := YS_c hS0 (fun k hk => ca k (by omega)) (cb 83 (by decide) (by decide) (by decide) (by decide) (by decide)) (cb 90 (by decide) (by decide) (by decide) (by decide) (by decide)) (fun j hj => cj j (by omega) (by omega) (by omega))
    obtain ⟨l1, l2⟩ := law_w2 (M' := A1) ca2 (fun k hk => ca k (by omega)) hL hM
    have hL1 : YL T N F F O A1 B2 := by
      refine ⟨l1, lawB_N hB ⟨cj 26 (by omega) (by omega) (by omega), cb 99 (by decide) (by decide) (by decide) (by decide) (by decide)⟩, l2, hN, fun t ht hw => ⟨rfl, ?_⟩⟩
      rw [ca 4 (by omega), ca 5 (by omega)] at hw
      rw [cNow_c O F t (ca 2 (by omega)) (ca 3 (by omega)) (ca 5 (by omega)) (ca 6 (by omega)) (ca 7 (by omega)), cb106]
      exact e3 t ht hw
    have hD1 : YD 28 P T 5 (fun _ => 1) True A1 B2 := YD_c (YD_of hW) (fun k k1 k2 => ca k (by omega)) (fun k hk => cb k (by omega) (by omega) (by omega) (by omega) (by omega))
    obtain ⟨tot, A3, B3, q0, q1, q2, q3, q4, q5, q6, q7, q8, q9, q10, q11⟩ := ys_L n2' a (fun x3 M =>
          lt_ (sA M 0 (upd (M.1 0) 10 (M.1 1 1))) fun M10 =>
          some (x3, M10)) (fun M =>
        lt_ (sA M 82 (upd (M.1 82) 22 ((M.1 82 22) + (M.1 82 44)))) fun M14 =>
        lt_ (sA M14 82 (upd (M14.1 82) 21 ((M14.1 82 21) + ((nI n * (M14.1 82 7)) - (M14.1 82 44))))) fun M15 =>
        some ((M15.1 82 44), M15)) 10000 10000 0 0 A1 B2 (Ma.1 28 0) (Ma.1 28 1) (by omega) (by omega) (by omega) (by omega) hS1 hL1 hD1 hz h44 (by
      rw [ca 28 (by decide), Nat.zero_mul, Nat.sub_self, show nI 0 = (0 : Int32) from rfl, Int32.add_zero]) (by
      rw [ca 28 (by decide), show nI 0 = (0 : Int32) from rfl, Int32.add_zero]) (fun h => absurd h (by omega))
    rw [show nI 0 = (0 : Int32) from rfl] at q1 q2
    rw [q1, q2]
    simp (disch := decide) only [lt_s_, sA_s, sA_sA, upd_n]
    rw [q6, q3.2.1.2.1, q3.2.1.2.2.2.2.2.1, n_mul, n_sub q0]
    have t1 : tot < 2 ^ 31 := by
      have : n * T ≤ 30 * 6 := Nat.mul_le_mul n2' f2
      omega
    -- the end: the relation again
    have da : ∀ k, (k ≤ 18 ∨ 39 ≤ k) → A3.1 k = Ma.1 k := fun k hk => (q10.1 k (by omega)).trans (ca k (by omega))
    have db : ∀ k, ((82 < k ∧ k < 87) ∨ k = 90 ∨ k = 98 ∨ k = 99 ∨ 107 ≤ k) → B3.1 k = Mb.1 k := fun k hk => (q11.1 k (by omega)).trans (cb k (by omega) (by omega) (by omega) (by omega) (by omega))
    have dj : ∀ j, (j < 27 ∨ 50 ≤ j) → B3.1 82 j = Mb.1 82 j := fun j hj => (q11.2.2 j (by omega)).trans (cj j (by omega) (by omega) (by omega))
    have da2 : ∀ k, 28 ≤ k → A3.2.1 k = Ma.2.1 k := fun k hk => (q10.2.1 k (by omega)).trans (by rw [ca2])
    have db2 : B3.2.1 115 = Mb.2.1 115 := by
      rw [q11.2.1]
      show B2.2.1 115 = _
      rw [← hB2]
      exact e2.2.2.1 115 (by decide) (by decide) (by decide)
    generalize hA4 : sA A3 0 (upd (A3.1 0) 10 (nI T)) = A4
    generalize hB4 : sA B3 82 (upd (upd (B3.1 82) 22 (B3.1 82 22 + nI tot)) 21 (B3.1 82 21 + nI (n * T - tot))) = B4
    have ga : ∀ k, k ≠ 0 → A4.1 k = A3.1 k := fun k hk => by rw [← hA4]; exact sA_n _ _ _ _ hk
    have ga0 : ∀ j, j ≠ 10 → A4.1 0 j = Ma.1 0 j := fun j hj => by rw [← hA4, sA_s, upd_n _ _ _ _ hj, da 0 (by omega)]
    have gaT : A4.1 0 10 = nI T := by rw [← hA4, sA_s, upd_s]
    have ga2 : A4.2 = A3.2 := by rw [← hA4]; rfl
    have gb : ∀ k, k ≠ 82 → B4.1 k = B3.1 k := fun k hk => by rw [← hB4]; exact sA_n _ _ _ _ hk
    have gb2 : B4.2 = B3.2 := by rw [← hB4]; rfl
    have gj : ∀ j, j ≠ 21 → j ≠ 22 → B4.1 82 j = B3.1 82 j := fun j c1 c2 => by rw [← hB4, sA_s, upd_n _ _ _ _ c1, upd_n _ _ _ _ c2]
    refine ⟨nI tot, A4, B4, rfl, rfl, ⟨?_, ?_, ?_, ?_, ?_, ?_, ?_, ?_, ?_, ?_⟩, ?_, ?_, ?_⟩
    · refine rF_c hF (Nat.le_refl _) ?_
      rw [ga 1 (by omega), da 1 (by omega), gj 6 (by omega) (by omega), gj 7 (by omega) (by omega), gj 19 (by omega) (by omega), gj 20 (by omega) (by omega), dj 6 (by omega), dj 7 (by omega), dj 19 (by omega), dj 20 (by omega)]
      simp
    · exact rP_c hP ⟨by rw [ga 2 (by omega), da 2 (by omega)], by rw [ga 3 (by omega), da 3 (by omega)], by rw [ga 4 (by omega), da 4 (by omega)]⟩ f1 (fun i _ => by rw [gb 83 (by omega), db 83 (by omega)])
    · exact rT_c hT (Nat.le_refl _) ⟨by rw [ga 5 (by omega), da 5 (by omega)], by rw [ga 6 (by omega), da 6 (by omega)], by rw [ga 7 (by omega), da 7 (by omega)], by rw [ga 8 (by omega), da 8 (by omega)], by rw [gb 90 (by omega), db 90 (by omega)]⟩ (fun i _ => by rw [gb 83 (by omega), db 83 (by omega)])
    · have hD4 := YD_c (Ma' := A4) (Mb' := B4) q5 (fun k k1 k2 => ga k (by omega)) (fun k hk => gb k (by omega))
      refine ⟨hD4.1, fun p hp => hD4.2 p hp trivial, ?_, ?_⟩
      · rw [ga 28 (by omega), q7, ← hB4, sA_s, upd_s, dj 21 (by omega), hW.2.2.1]
      · rw [ga 28 (by omega), q8, ← hB4, sA_s, upd_n _ _ _ _ (by decide), upd_s, dj 22 (by omega), hW.2.2.2]
    · refine ⟨⟨T, Nat.le_refl _, gaT, fun t ht => ?_⟩, fun t h1 h2 => ?_⟩
      · rw [if_pos ht, gb 97 (by omega), ga 38 (by omega)]
        exact (q9 (by omega) t ht).symm
      · rw [ga 33 (by omega), q10.2.2.2 t h1, ca 33 (by omega)]
        exact hY.2 t h1 h2
    · refine rI_c hI (Nat.le_refl _) (Nat.le_refl _) ?_ ?_
      · rw [ga0 11 (by omega), ga0 12 (by omega)]
        simp (disch := omega) only [ga, da, and_self]
      · simp (disch := omega) only [gj, dj, gb, db, and_self, implies_true]
    · refine rC_c hC (Nat.le_refl _) (Nat.le_refl _) ?_
      simp (disch := omega) only [ga, da, gj, dj, gb, db, and_self]
    · refine rTa_c hTa ?_
      simp (disch := omega) only [ga, da, gj, dj, gb, db, and_self]
    · refine rA_c hA ?_
      simp (disch := omega) only [ga, da, gj, dj, gb, db, and_self]
    · refine rS_c hSh ?_ fun d hd => ?_
      · rw [gb2, db2]
        simp (disch := omega) only [ga, da, gb, db, and_self]
      · rw [ga _ (by omega), da _ (by omega), ga2, da2 _ (by omega)]
        exact ⟨rfl, rfl⟩
    · exact (law_w3 (M' := A4) ga2 (fun k h0 hk => ga k (by omega)) q4.1 q4.2.2.1).1
    · exact lawB_N q4.2.1 ⟨gj 26 (by omega) (by omega), gb 99 (by omega)⟩
    · exact (law_w3 (M' := A4) ga2 (fun k h0 hk => ga k (by omega)) q4.1 q4.2.2.1).2
