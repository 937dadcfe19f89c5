/-! ===== a year, phase by phase, on both sides ===== -/
/-- what is told, the same on both sides; what is forgotten may differ where money is left out -/
def YS (P T Fa Fb h : Nat) (m : Prop) (Ma Mb : mm) : Prop := (P ≤ 5 ∧ T ≤ 6 ∧ Fa ≤ 9 ∧ Fb ≤ 9 ∧ h ≤ 1 ∧ (m → Fa = Fb)) ∧ (Ma.1 1 0 = nI P ∧ Ma.1 1 1 = nI T ∧ Ma.1 1 2 = nI Fa ∧ Ma.1 1 3 = nI h ∧ Mb.1 82 6 = nI P ∧ Mb.1 82 7 = nI T ∧ Mb.1 82 19 = nI Fb ∧ Mb.1 82 20 = nI h) ∧ rP P Ma Mb ∧ rT P T Ma Mb
theorem YS_c {P T Fa Fb h : Nat} {m : Prop} {Ma Mb Ma' Mb' : mm} (H : YS P T Fa Fb h m Ma Mb) (ea : ∀ k, k ≤ 8 → Ma'.1 k = Ma.1 k) (e83 : Mb'.1 83 = Mb.1 83) (e90 : Mb'.1 90 = Mb.1 90) (e82 : ∀ j, j = 6 ∨ j = 7 ∨ j = 19 ∨ j = 20 → Mb'.1 82 j = Mb.1 82 j) : YS P T Fa Fb h m Ma' Mb' := by
  obtain ⟨h1, ⟨a1, a2, a3, a4, a5, a6, a7, a8⟩, h3, h4⟩ := H
  refine ⟨h1, ⟨?_, ?_, ?_, ?_, ?_, ?_, ?_, ?_⟩, rP_c h3 ⟨ea 2 (by omega), ea 3 (by omega), ea 4 (by omega)⟩ h1.1 (fun i _ => by rw [e83]), rT_c h4 (Nat.le_refl _) ⟨ea 5 (by omega), ea 6 (by omega), ea 7 (by omega), ea 8 (by omega), e90⟩ (fun i _ => by rw [e83])⟩
  · rw [ea 1 (by omega)]; exact a1
  · rw [ea 1 (by omega)]; exact a2
  · rw [ea 1 (by omega)]; exact a3
  · rw [ea 1 (by omega)]; exact a4
  · rw [e82 6 (by omega)]; exact a5
  · rw [e82 7 (by omega)]; exact a6
  · rw [e82 19 (by omega)]; exact a7
  · rw [e82 20 (by omega)]; exact a8
/-- the law, what is remembered, what BEST is asked -/
def YL (T N Fa Fb : Nat) (O : Option (List stp)) (Ma Mb : mm) : Prop := (lawA O Ma ∧ rFo O Ma ∧ RefOK Ma) ∧ lawB O Mb ∧ rM T N O Ma ∧ N ≤ 600 ∧ ∀ t, t < T → Ma.1 4 (tn (Ma.1 5 t)) = 4 → Fa = Fb ∧ ∀ s l a, 1 ≤ s → s ≤ 3 → l < 3 → a < 100 → Mb.1 106 (1200 * t + pl 0 s l a) = bI (isB (cNow Ma O Fb t) 4 s l a)
theorem YL_c {T N Fa Fb : Nat} {O : Option (List stp)} {Ma Mb Ma' Mb' : mm} (H : YL T N Fa Fb O Ma Mb) (ea : ∀ k, k ≤ 8 → Ma'.1 k = Ma.1 k) (hA : lawA O Ma' ∧ rFo O Ma' ∧ RefOK Ma') (hM : rM T N O Ma') (e26 : Mb'.1 82 26 = Mb.1 82 26) (e99 : Mb'.1 99 = Mb.1 99) (e106 : Mb'.1 106 = Mb.1 106) : YL T N Fa Fb O Ma' Mb' := by
  obtain ⟨h1, h2, h3, h4, h5⟩ := H
  refine ⟨hA, lawB_N h2 ⟨e26, e99⟩, hM, h4, fun t ht hw => ?_⟩
  rw [ea 4 (by omega), ea 5 (by omega)] at hw
  obtain ⟨g1, g2⟩ := h5 t ht hw
  refine ⟨g1, fun s l a s1 s3 l3 a3 => ?_⟩
  rw [e106, cNow_c O Fb t (ea 2 (by omega)) (ea 3 (by omega)) (ea 5 (by omega)) (ea 6 (by omega)) (ea 7 (by omega))]
  exact g2 s l a s1 s3 l3 a3
/-- the cells that a year may change, on either side -/
def FA (w T : Nat) (M M' : mm) : Prop := (∀ k, (k ≤ 18 ∨ (28 ≤ k ∧ (k ≤ w ∨ w + 10 < k))) → M'.1 k = M.1 k) ∧ (∀ k, k < 21 ∨ 26 < k → M'.2.1 k = M.2.1 k) ∧ M'.2.2 0 = M.2.2 0 ∧ ∀ t, T ≤ t → M'.1 (w + 5) t = M.1 (w + 5) t
def FB (M M' : mm) : Prop := (∀ k, (k < 82 ∨ (82 < k ∧ k < 87) ∨ k = 90 ∨ (97 < k ∧ k ≠ 100)) → M'.1 k = M.1 k) ∧ M'.2 = M.2 ∧ ∀ j, (j < 27 ∨ (31 < j ∧ j ≠ 43 ∧ j ≠ 44)) → M'.1 82 j = M.1 82 j
theorem FA_r (w T : Nat) (M : mm) : FA w T M M := ⟨fun _ _ => rfl, fun _ _ => rfl, rfl, fun _ _ => rfl⟩
theorem FA_t {w T : Nat} {M M' M'' : mm} (h : FA w T M M') (h2 : FA w T M' M'') : FA w T M M'' := ⟨fun k a => (h2.1 k a).trans (h.1 k a), fun k a => (h2.2.1 k a).trans (h.2.1 k a), h2.2.2.1.trans h.2.2.1, fun t a => (h2.2.2.2 t a).trans (h.2.2.2 t a)⟩
theorem FB_r (M : mm) : FB M M := ⟨fun _ _ => rfl, rfl, fun _ _ => rfl⟩
theorem FB_t {M M' M'' : mm} (h : FB M M') (h2 : FB M' M'') : FB M M'' := ⟨fun k a => (h2.1 k a).trans (h.1 k a), h2.2.1.trans h.2.1, fun j a => (h2.2.2 j a).trans (h.2.2 j a)⟩
theorem FA_w {w T : Nat} {M M' : mm} (e2 : M'.2 = M.2) (e : ∀ k, (k ≤ w ∨ w + 10 < k) → M'.1 k = M.1 k) (e5 : ∀ t, T ≤ t → M'.1 (w + 5) t = M.1 (w + 5) t) (hw : 28 ≤ w) : FA w T M M' := ⟨fun k hk => e k (by omega), fun k _ => by rw [e2], by rw [e2], e5⟩
theorem FA_D {w T : Nat} {M M' : mm} (h : EqD M M') (hw : 28 ≤ w) : FA w T M M' := ⟨fun k hk => h.1 k (by omega) (by omega) (by omega), fun k hk => h.2.1 k (by omega) (by omega) (by omega) (by omega) (by omega) (by omega), h.2.2, fun t _ => by rw [h.1 _ (by omega) (by omega) (by omega)]⟩
theorem YSL_c {w P T N Fa Fb h : Nat} {O : Option (List stp)} {m : Prop} {Ma Mb Ma' Mb' : mm} (hs : YS P T Fa Fb h m Ma Mb) (hl : YL T N Fa Fb O Ma Mb) (fa : FA w T Ma Ma') (fb : FB Mb Mb') (hA : lawA O Ma' ∧ rFo O Ma' ∧ RefOK Ma') (hM : rM T N O Ma') : YS P T Fa Fb h m Ma' Mb' ∧ YL T N Fa Fb O Ma' Mb' :=
  ⟨YS_c hs (fun k hk => fa.1 k (by omega)) (fb.1 83 (by omega)) (fb.1 90 (by omega)) (fun j hj => fb.2.2 j (by omega)), YL_c hl (fun k hk => fa.1 k (by omega)) hA hM (fb.2.2 26 (by omega)) (fb.1 99 (by omega)) (fb.1 106 (by omega))⟩
/-- a change of worlds alone leaves the law, what is remembered -/
theorem law_w {w T N : Nat} {O : Option (List stp)} {M M' : mm} (hw : 28 ≤ w) (e2 : M'.2 = M.2) (e : ∀ k, (k ≤ w ∨ w + 10 < k) → M'.1 k = M.1 k) (hA : lawA O M ∧ rFo O M ∧ RefOK M) (hM : rM T N O M) : (lawA O M' ∧ rFo O M' ∧ RefOK M') ∧ rM T N O M' := by
  refine ⟨⟨lawA_X hA.1 ⟨e 16 (by omega), e 17 (by omega), e 18 (by omega)⟩, fun t s a l k1 k2 k3 k4 k5 => ?_, ?_⟩, rM_c hM (Nat.le_refl _) (by rw [e 1 (by omega)]) (by rw [e2]) (fun F t _ => cNow_c O F t (e 2 (by omega)) (e 3 (by omega)) (e 5 (by omega)) (e 6 (by omega)) (e 7 (by omega)))⟩
  · rw [e 20 (by omega)]
    exact hA.2.1 t s a l k1 k2 k3 k4 k5
  · have := hA.2.2
    unfold RefOK at this ⊢
    rw [e2]
    exact this
theorem YD_c {w P T Q : Nat} {lb : Nat → Nat} {m : Prop} {Ma Mb Ma' Mb' : mm} (h : YD w P T Q lb m Ma Mb) (ea : ∀ k, w < k → k < w + 10 → Ma'.1 k = Ma.1 k) (eb : ∀ k, (86 < k ∧ k < 90) ∨ (90 < k ∧ k < 97) → Mb'.1 k = Mb.1 k) : YD w P T Q lb m Ma' Mb' := by
  unfold YD
  rw [ea (w + 1) (by omega) (by omega), ea (w + 2) (by omega) (by omega), ea (w + 3) (by omega) (by omega), ea (w + 4) (by omega) (by omega), ea (w + 5) (by omega) (by omega), ea (w + 6) (by omega) (by omega), ea (w + 7) (by omega) (by omega), ea (w + 8) (by omega) (by omega), ea (w + 9) (by omega) (by omega), eb 87 (by omega), eb 88 (by omega), eb 89 (by omega), eb 91 (by omega), eb 92 (by omega), eb 93 (by omega), eb 94 (by omega), eb 95 (by omega), eb 96 (by omega)]
  exact h
theorem rWho_e {P : Nat} {x y : Int32} (h : rWho P x y) : y = x := h.1.symm
/-- a thing breaks: the worlds stay alike -/
theorem y_breaks {w P T Q Fa Fb h t : Nat} {lb : Nat → Nat} {m : Prop} {Ma Mb : mm} (hw : isO 9 w = true) (hw2 : 28 ≤ w) (hS : YS P T Fa Fb h m Ma Mb) (hQ : P ≤ Q) (hD : YD w P T Q lb m Ma Mb) (hlb : ∀ j, lb j ≤ 1) (ht : t < T) : ∃ Ma' Mb', X2_breaks w (nI t) Ma = some ((), Ma') ∧ X11_breaks (nI t) Mb = some ((), Mb') ∧ YD w P T Q (fun j => if j = t then 1 else lb j) m Ma' Mb' ∧ (Ma'.2 = Ma.2 ∧ (∀ k, (k ≤ w ∨ w + 10 < k) → Ma'.1 k = Ma.1 k) ∧ Ma'.1 (w + 5) = Ma.1 (w + 5)) ∧ (Mb'.2 = Mb.2 ∧ (∀ k, (k < 82 ∨ (82 < k ∧ k < 87) ∨ k = 90 ∨ 97 < k) → Mb'.1 k = Mb.1 k) ∧ Mb'.1 82 = upd (Mb.1 82) 44 (Mb.1 82 44 + 1)) ∧ (∀ t', t' ≠ t → Ma'.1 (w + 10) t' = Ma.1 (w + 10) t' ∧ Mb'.1 97 t' = Mb.1 97 t') ∧ (m → Ma'.1 (w + 10) t = Mb'.1 97 t) := by
  obtain ⟨⟨p5, t6, fa9, fb9, h1, hm⟩, ⟨a1, a2, a3, a4, a5, a6, a7, a8⟩, -, hT⟩ := hS
  obtain ⟨⟨o, o1, o2, o3⟩, -, ⟨bi, b1, b2, b3⟩, nx, x1, x2, x3⟩ := hT t ht
  obtain ⟨⟨s, s0, s1, s2, s3⟩, ⟨L1, L2⟩, ⟨B1, B2⟩, ⟨a, g1, g2, g3⟩, -⟩ := hD.1 t ht
  obtain ⟨Ma', c0, ⟨c1, c1'⟩, c2, c3, c4, c5, c6, c7, c8, c9, c10, c11⟩ := w_breaksA (nx := nx) (P := P) hw hw2 ht t6 a2 x2 x1 p5 o2 o1 b2 b1 a4 h1 a3 fa9 g2 g1 L2 B2
  obtain ⟨Mb', d0, ⟨d1, d1', d1''⟩, d2, d3, d4, d5, d6, d7, d8, d9, d10, d11⟩ := w_breaksB (nx := nx) (P := P) ht t6 a6 x3 x1 p5 o3 o1 b3 b1 a8 h1 a7 fb9 g3 g1 (by rw [← L1]; exact L2) (by rw [← B1]; exact B2)
  refine ⟨Ma', Mb', c0, d0, ⟨fun t' ht' => ?_, fun p' hp' hmm => ?_⟩, ⟨c1, c1', c6⟩, ⟨d1, d1', d1''⟩, fun t' h' => ?_, fun hmm => ?_⟩
  · rw [c2, c3, c4, c5, c6, c7, d2, d3, d4, d5, d6, d7]
    by_cases hh : t' = t
    · subst hh
      obtain ⟨-, -, -, -, n, n1, n2, n3, n4⟩ := hD.1 t' ht
      simp only [upd_s, if_true]
      exact ⟨⟨3, by omega, by omega, rfl, rfl⟩, ⟨rfl, Or.inl rfl⟩, ⟨rfl, Or.inl rfl⟩, ⟨0, by omega, rfl, rfl⟩, n, n1, n2, n3, n4⟩
    · obtain ⟨⟨s', e0, e1, e2, e3⟩, f2, f3, f4, f5⟩ := hD.1 t' ht'
      simp only [upd_n _ _ _ _ hh, if_neg hh]
      refine ⟨?_, f2, f3, f4, f5⟩
      unfold dcr
      by_cases hn : t' = nx
      · subst hn
        have ei : (1 < nI s') = (1 < s') := n_lt (a := 1) (by omega) (by omega)
        rw [e2, e3]
        by_cases c : 1 < s'
        · rw [if_pos ⟨ht', hh, by rw [ei]; exact c⟩, upd_s, if_pos ⟨ht', hh, by rw [ei]; exact c⟩, upd_s]
          have := hlb t'
          exact ⟨s' - 1, by omega, by omega, by rw [n1, n_sub (by omega)], by rw [n1, n_sub (by omega)]⟩
        · rw [if_neg (fun q => c (by rw [← ei]; exact q.2.2)), if_neg (fun q => c (by rw [← ei]; exact q.2.2))]
          exact ⟨s', e0, e1, e2, e3⟩
      · have e4 : ∀ f : Nat → Int32, (if nx < T ∧ nx ≠ t ∧ 1 < f nx then upd f nx (f nx - 1) else f) t' = f t' := by
          intro f
          split
          · exact upd_n _ _ _ _ hn
          · rfl
        rw [e4, e4]
        exact ⟨s', e0, e1, e2, e3⟩
  · obtain ⟨q1, q2, q3⟩ := hD.2 p' hp' hmm
    have hF : Fa = Fb := hm hmm
    have hL' := who_c p5 L2
    have hB' := who_c p5 B2
    have hwh : whP Fa a o (Ma.1 (w + 2) t) < Q := by
      unfold whP
      split
      · next hb =>
        rcases hL' with ⟨z1, z2⟩ | ⟨L, z1, z2, z3, z4, z5⟩
        · unfold byL at hb
          rw [z1] at hb
          simp at hb
        · omega
      · omega
    have hbe : 0 < shP Fa a h bi (Ma.1 (w + 2) t) (Ma.1 (w + 3) t) → tn (Ma.1 (w + 3) t) < Q := by
      intro hz
      rcases hB' with ⟨z1, z2⟩ | ⟨B, z1, z2, z3, z4, z5⟩
      · have : shP Fa a h bi (Ma.1 (w + 2) t) (Ma.1 (w + 3) t) = 0 := if_neg fun q => q.2.2 z1
        omega
      · omega
    rw [c8, c9, c10, d8, d9, d10, ← L1, ← B1, ← hF]
    exact ⟨m7_eq (fun p hp => (hD.2 p hp hmm).1) hbe hwh p' hp', m8_eq (fun p hp => (hD.2 p hp hmm).2.1) hbe hwh p' hp', q3⟩
  · rw [c11, d11, upd_n _ _ _ _ h', upd_n _ _ _ _ h']
    exact ⟨rfl, rfl⟩
  · rw [c11, d11, upd_s, upd_s, ← L1, hm hmm]
