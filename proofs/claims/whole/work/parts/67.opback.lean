/-! ===== what was laid aside comes back, whole; the call back ===== -/
theorem lB3 {s P : Nat} {x a4 : Int32} (hs : s ≤ 1) (hP : P ≤ 5) (K : mm → Option (Unit × mm)) : ∀ (n p : Nat) (M : mm), p ≤ P → P - p < n → ∃ M', X11_laysBack_L186 (nI s) x (nI P) a4 K n (nI p) M = K M' ∧ EqC (fun k => k == 87 || k == 88 || k == 89) M M' ∧ (∀ j, p ≤ j → j < P → M'.1 87 j = M.1 109 ((s * 5 + j) * 3) ∧ M'.1 88 j = M.1 109 ((s * 5 + j) * 3 + 1) ∧ M'.1 89 j = M.1 109 ((s * 5 + j) * 3 + 2)) ∧ ∀ j, (j < p ∨ P ≤ j) → M'.1 87 j = M.1 87 j ∧ M'.1 88 j = M.1 88 j ∧ M'.1 89 j = M.1 89 j := by
  intro n
  induction n with
  | zero => intro p M _ h; omega
  | succ n ih =>
    intro p M hp hn
    rw [X11_laysBack_L186, i_ltP (by omega) (by omega)]
    by_cases h : p < P
    · rw [if_pos h]
      simp (disch := omega) only [n5, n1, n2, n3, n_mul, n_add, n_inb, n_cl, gd_t, lt_s_, sA_s, sA_n]
      obtain ⟨M', e, h2, h3, h4⟩ := ih (p + 1) (sA (sA (sA M 87 (upd (M.1 87) p (M.1 109 ((s * 5 + p) * 3)))) 88 (upd (M.1 88) p (M.1 109 ((s * 5 + p) * 3 + 1)))) 89 (upd (M.1 89) p (M.1 109 ((s * 5 + p) * 3 + 2)))) (by omega) (by omega)
      rw [e]
      simp (disch := omega) only [sA_s, sA_n] at h3 h4
      refine ⟨M', rfl, EqC_t (EqC_A rfl (EqC_A rfl (EqC_A rfl (EqC_r _ _)))) h2, fun j hj hjP => ?_, fun j hj => ?_⟩
      · by_cases hjp : j = p
        · subst hjp
          obtain ⟨q1, q2, q3⟩ := h4 j (by omega)
          rw [q1, q2, q3, upd_s, upd_s, upd_s]
          exact ⟨rfl, rfl, rfl⟩
        · exact h3 j (by omega) hjP
      · obtain ⟨q1, q2, q3⟩ := h4 j (by omega)
        rw [q1, q2, q3, upd_n _ _ _ _ (by omega), upd_n _ _ _ _ (by omega), upd_n _ _ _ _ (by omega)]
        exact ⟨rfl, rfl, rfl⟩
    · rw [if_neg h]
      exact ⟨M, rfl, EqC_r _ _, fun j _ _ => by omega, fun _ _ => ⟨rfl, rfl, rfl⟩⟩
/-- laid back: things up to T, people up to P -/
theorem w_laysBack {s T P a4 : Nat} (hs : s ≤ 1) (hT : T ≤ 6) (hP : P ≤ 5) (h4 : a4 < 2) (M : mm) : ∃ M', X11_laysBack (nI s) (nI T) (nI P) (nI a4) M = some ((), M') ∧ (∀ k, k ≠ 82 → k ≠ 87 → k ≠ 88 → k ≠ 89 → (k < 91 ∨ 97 < k) → M'.1 k = M.1 k) ∧ (∀ k, (k < 87 ∨ 97 < k) → M'.2.1 k = M.2.1 k) ∧ (∀ j, j ≠ 21 → j ≠ 22 → M'.1 82 j = M.1 82 j) ∧ (∀ j, j < T → bRow s j a4 M M') ∧ (∀ j, T ≤ j → sRow j M M') ∧ (∀ j, j < P → M'.1 87 j = M.1 109 ((s * 5 + j) * 3) ∧ M'.1 88 j = M.1 109 ((s * 5 + j) * 3 + 1) ∧ M'.1 89 j = M.1 109 ((s * 5 + j) * 3 + 2)) ∧ (∀ j, P ≤ j → M'.1 87 j = M.1 87 j ∧ M'.1 88 j = M.1 88 j ∧ M'.1 89 j = M.1 89 j) ∧ M'.1 82 21 = M.1 110 (2 * s) ∧ M'.1 82 22 = M.1 110 (2 * s + 1) := by
  unfold X11_laysBack
  obtain ⟨M1, e1, c1, c2, c3⟩ := lB2 (a3 := nI P) hs hT h4 (fun M =>
      X11_laysBack_L186 (nI s) (nI T) (nI P) (nI a4) (fun M =>
          gd (inb (2 * nI s) 4) <|
          lt_ (sA M 82 (upd (M.1 82) 21 (M.1 110 (2 * nI s).toNatClampNeg))) fun M37 =>
          gd (inb ((2 * nI s) + 1) 4) <|
          lt_ (sA M37 82 (upd (M37.1 82) 22 (M37.1 110 ((2 * nI s) + 1).toNatClampNeg))) fun M39 =>
          some ((), M39)) 10000 0 M) 10000 0 M (by omega) (by omega)
  rw [show nI 0 = (0 : Int32) from rfl] at e1
  rw [e1]
  obtain ⟨M2, e2, d1, d2, d3⟩ := lB3 (x := nI T) (a4 := nI a4) hs hP (fun M =>
          gd (inb (2 * nI s) 4) <|
          lt_ (sA M 82 (upd (M.1 82) 21 (M.1 110 (2 * nI s).toNatClampNeg))) fun M37 =>
          gd (inb ((2 * nI s) + 1) 4) <|
          lt_ (sA M37 82 (upd (M37.1 82) 22 (M37.1 110 ((2 * nI s) + 1).toNatClampNeg))) fun M39 =>
          some ((), M39)) 10000 0 M1 (by omega) (by omega)
  rw [show nI 0 = (0 : Int32) from rfl] at e2
  rw [e2]
  simp (disch := omega) only [n2, n1, n_mul, n_add, n_inb, n_cl, gd_t, lt_s_, sA_s, sA_n, sA_sA]
  have x1 : ∀ k, k ≠ 87 → k ≠ 88 → k ≠ 89 → M2.1 k = M1.1 k ∧ M2.2.1 k = M1.2.1 k := fun k a b c => d1 k (by simp [a, b, c])
  have x2 : ∀ k, (k < 91 ∨ 97 < k) → M1.1 k = M.1 k ∧ M1.2.1 k = M.2.1 k := fun k a => c1 k (by simp; omega)
  refine ⟨_, rfl, fun k k1 k2 k3 k4 k5 => ?_, fun k hk => ?_, fun j j1 j2 => ?_, fun j hj => ?_, fun j hj => ?_, fun j hj => ?_, fun j hj => ?_, ?_, ?_⟩
  · rw [sA_n _ _ _ _ k1, (x1 k k2 k3 k4).1, (x2 k (by omega)).1]
  · show M2.2.1 k = _
    rw [(x1 k (by omega) (by omega) (by omega)).2, (x2 k (by omega)).2]
  · rw [sA_s, upd_n _ _ _ _ j2, upd_n _ _ _ _ j1, (x1 82 (by omega) (by omega) (by omega)).1, (x2 82 (by omega)).1]
  · have h := c2 j (by omega) hj
    unfold bRow at h ⊢
    simp (disch := omega) only [sA_n, fun k (a : k ≠ 87) (b : k ≠ 88) (c : k ≠ 89) => (x1 k a b c).1]
    exact h
  · have h := c3 j (by omega)
    unfold sRow at h ⊢
    simp (disch := omega) only [sA_n, fun k (a : k ≠ 87) (b : k ≠ 88) (c : k ≠ 89) => (x1 k a b c).1]
    exact h
  · have h := d2 j (by omega) hj
    rw [(x2 109 (by omega)).1] at h
    simp (disch := omega) only [sA_n]
    exact h
  · have h := d3 j (by omega)
    rw [(x2 87 (by omega)).1, (x2 88 (by omega)).1, (x2 89 (by omega)).1] at h
    simp (disch := omega) only [sA_n]
    exact h
  · rw [sA_s, upd_n _ _ _ _ (by decide), upd_s, (x1 110 (by omega) (by omega) (by omega)).1, (x2 110 (by omega)).1]
  · rw [sA_s, upd_s, (x1 110 (by omega) (by omega) (by omega)).1, (x2 110 (by omega)).1]
theorem op_back {P T N : Nat} {O : Option (List stp)} {Ma Mb : mm} (R : RR P T N O Ma Mb) : ∃ v Ma' Mb', X10_back Ma = some (v, Ma') ∧ X11_back Mb = some (v, Mb') ∧ RR P T N O Ma' Mb' := by
  obtain ⟨⟨hF, hP, hT, hW, hY, hI, hC, hTa, hA, hSh⟩, hL, hB, hM⟩ := id R
  obtain ⟨f1, f2, f3, f4, f5, f6, -, -, -⟩ := id hF
  unfold X10_back X11_back
  rcases id hI with ⟨i1, i2⟩ | ⟨kp, kt, i1, i2, i3, i4, i5, i6, i7, i8, i9, i10, i11⟩
  · rw [i1, i2, if_pos (by decide), if_pos rfl]
    exact ⟨_, _, _, rfl, rfl, R⟩
  · rw [i3, i4, i5, i6, i7, if_neg (show ¬ (nI kt < 0) from ng (b := 0) (by omega) (by omega) (by omega)), if_neg (by decide)]
    obtain ⟨A1, a0, ⟨a1, a2⟩, ⟨a3, a4⟩, a5, a6, a7⟩ := w_become (w := 28) (v := 50) (P := kp) (T := kt) (M := Ma) (by decide) (by decide) (by omega) (by omega) (by omega)
    obtain ⟨B1, b0, b1, b2, b3, b4, b5, b6, b7, b8, b9⟩ := w_laysBack (s := 1) (T := kt) (P := kp) (a4 := 0) (by omega) (by omega) (by omega) (by omega) Mb
    rw [show nI 1 = (1 : Int32) from rfl, show nI 0 = (0 : Int32) from rfl] at b0
    rw [a0, b0, bd_s, bd_s]
    have ga : ∀ k, (k < 28 ∨ 38 ≤ k) → A1.1 k = Ma.1 k := fun k hk => a2 k (by omega)
    have gb : ∀ k, k ≠ 82 → k ≠ 87 → k ≠ 88 → k ≠ 89 → (k < 91 ∨ 97 < k) → B1.1 k = Mb.1 k := b1
    have gj : ∀ j, j ≠ 21 → j ≠ 22 → B1.1 82 j = Mb.1 82 j := b3
    refine ⟨nI kt, A1, B1, by rw [ga 0 (by omega), i4], by rw [gj 51 (by omega) (by omega), i6], ⟨?_, ?_, ?_, ?_, ?_, ?_, ?_, ?_, ?_, ?_⟩, ?_, ?_, ?_⟩
    · refine rF_c hF (Nat.le_refl _) ?_
      simp (disch := omega) only [ga, gj, and_self]
    · refine rP_c hP ?_ f1 (fun i _ => by rw [gb 83 (by omega) (by omega) (by omega) (by omega) (by omega)])
      simp (disch := omega) only [ga, and_self]
    · refine rT_c hT (Nat.le_refl _) ?_ (fun i _ => by rw [gb 83 (by omega) (by omega) (by omega) (by omega) (by omega)])
      simp (disch := omega) only [ga, gb, and_self]
    · refine ⟨fun t ht => ?_, fun p hp => ?_, ?_, ?_⟩
      · have e : ∀ i, 1 ≤ i → i ≤ 5 → A1.1 (28 + i) t = if t < kt then Ma.1 (50 + i) t else Ma.1 (28 + i) t := fun i q1 q2 => a5 i q1 q2 t
        rw [e 1 (by omega) (by omega), e 2 (by omega) (by omega), e 3 (by omega) (by omega), e 4 (by omega) (by omega), e 5 (by omega) (by omega)]
        have e6 : ∀ i, i < 8 → A1.1 (28 + 6) (8 * t + i) = if t < kt then Ma.1 56 (8 * t + i) else Ma.1 34 (8 * t + i) := fun i hi => by
          rw [a6]
          by_cases c : t < kt
          · rw [if_pos (by omega), if_pos c]
          · rw [if_neg (by omega), if_neg c]
        by_cases c : t < kt
        · obtain ⟨k1, k2, k3, k4, n, k5, k6, k7, k8⟩ := i8 t c
          obtain ⟨m1, m2, m3, m4, m5, m6, m7⟩ := b4 t c
          rw [show (1 * 6 + t) * 6 = 36 + 6 * t from by omega] at m1 m2 m3 m4 m5
          rw [if_pos c, if_pos c, if_pos c, if_pos c, if_pos c, m1, m2, m3, m4, m5]
          refine ⟨k1, k2, k3, k4, n, k5, k6, k7, fun i hi => ?_⟩
          rw [e6 i (by omega), if_pos c, k8 i hi, m7 i (by omega), show 48 + 8 * t + i = (1 * 6 + t) * 8 + i from by omega]
        · obtain ⟨k1, k2, k3, k4, n, k5, k6, k7, k8⟩ := hW.1 t ht
          obtain ⟨m1, m2, m3, m4, m5, m6, m7⟩ := b5 t (by omega)
          rw [if_neg c, if_neg c, if_neg c, if_neg c, if_neg c, m1, m2, m3, m4, m5]
          refine ⟨k1, k2, k3, k4, n, k5, k6, k7, fun i hi => ?_⟩
          rw [e6 i (by omega), if_neg c, m7 i (by omega)]
          exact k8 i hi
      · have e : ∀ i, 7 ≤ i → i ≤ 9 → A1.1 (28 + i) p = if p < kp then Ma.1 (50 + i) p else Ma.1 (28 + i) p := fun i q1 q2 => a7 i q1 q2 p
        rw [e 7 (by omega) (by omega), e 8 (by omega) (by omega), e 9 (by omega) (by omega)]
        by_cases c : p < kp
        · obtain ⟨k1, k2, k3⟩ := i9 p c
          obtain ⟨m1, m2, m3⟩ := b6 p c
          rw [show (1 * 5 + p) * 3 = 15 + 3 * p from by omega] at m1 m2 m3
          rw [if_pos c, if_pos c, if_pos c, m1, m2, m3]
          exact ⟨k1, k2, k3⟩
        · obtain ⟨m1, m2, m3⟩ := b7 p (by omega)
          rw [if_neg c, if_neg c, if_neg c, m1, m2, m3]
          exact hW.2.1 p hp
      · rw [a3, b8]; exact i10
      · rw [a4, b9]; exact i11
    · obtain ⟨⟨l, l1, l2, l3⟩, h33⟩ := hY
      refine ⟨⟨l, l1, by rw [ga 0 (by omega)]; exact l2, fun t ht => ?_⟩, fun t h1 h2 => ?_⟩
      · rw [ga 38 (by omega)]
        have e97 : B1.1 97 t = Mb.1 97 t := by
          by_cases c : t < kt
          · have := (b4 t c).2.2.2.2.2.1
            rw [if_pos rfl] at this
            exact this
          · exact (b5 t (by omega)).2.2.2.2.2.1
        rw [e97]
        exact l3 t ht
      · have := a5 5 (by omega) (by omega) t
        rw [if_neg (by omega)] at this
        rw [this]
        exact h33 t h1 h2
    · refine rI_c hI (Nat.le_refl _) (Nat.le_refl _) ?_ ?_
      · simp (disch := omega) only [ga, and_self]
      · simp (disch := omega) only [gj, gb, and_self, implies_true]
    · refine rC_c hC (Nat.le_refl _) (Nat.le_refl _) ?_
      simp (disch := omega) only [ga, gb, gj, and_self]
    · refine rTa_c hTa ?_
      simp (disch := omega) only [ga, gb, gj, and_self]
    · refine rA_c hA ?_
      simp (disch := omega) only [ga, gb, gj, and_self]
    · refine rS_c hSh ?_ fun d hd => ?_
      · rw [b2 115 (by omega)]
        simp (disch := omega) only [ga, gb, and_self]
      · rw [ga _ (by omega), a1]
        exact ⟨rfl, rfl⟩
    · exact (law_w3 (M' := A1) a1 (fun k h0 hk => ga k (by omega)) hL hM).1
    · exact lawB_N hB ⟨gj 26 (by omega) (by omega), gb 99 (by omega) (by omega) (by omega) (by omega) (by omega)⟩
    · exact (law_w3 (M' := A1) a1 (fun k h0 hk => ga k (by omega)) hL hM).2
