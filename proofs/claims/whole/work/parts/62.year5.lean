/-! ===== the second phase: draws ===== -/
theorem y_L107 {w P T Q N Fa Fb h : Nat} {O : Option (List stp)} {m : Prop} (hw : isO 9 w = true) (hw2 : 28 ≤ w) (Ka : mm → Option (Int32 × mm)) (Kb : mm → Option (Unit × mm)) : ∀ n n' t Ma Mb, t ≤ T → T - t < n → T - t < n' → YS P T Fa Fb h m Ma Mb → YL T N Fa Fb O Ma Mb → YD w P T Q (fun j => if j < t then 0 else 1) m Ma Mb → Ma.1 27 3 = Mb.1 82 43 → ∃ Ma' Mb', X2_year_L107 w Ka n (nI t) Ma = Ka Ma' ∧ X11_goesYear_L37 Kb n' (nI t) Mb = Kb Mb' ∧ YS P T Fa Fb h m Ma' Mb' ∧ YL T N Fa Fb O Ma' Mb' ∧ YD w P T Q (fun _ => 0) m Ma' Mb' ∧ FA w T Ma Ma' ∧ FB Mb Mb' ∧ Ma'.1 27 3 = Mb'.1 82 43 ∧ Mb'.1 82 44 = Mb.1 82 44 := by
  intro n
  induction n with
  | zero => intro n' t Ma Mb _ h; omega
  | succ n ih =>
    intro n' t Ma Mb ht hn hn' hS hL hD hz
    obtain ⟨n', rfl⟩ : ∃ k, n' = k + 1 := ⟨n' - 1, by omega⟩
    obtain ⟨⟨p5, t6, fa9, fb9, h1, hm⟩, ⟨a1, a2, a3, a4, a5, a6, a7, a8⟩, -, -⟩ := id hS
    rw [X2_year_L107, X11_goesYear_L37, a2, a6, i_ltP (by omega) (by omega), i_ltP (by omega) (by omega)]
    by_cases hlt : t < T
    · obtain ⟨⟨s, s0, s1, s2, s3⟩, ⟨L1, L2⟩, -, ⟨a, g1, g2, g3⟩, -⟩ := hD.1 t hlt
      have s0 : 1 ≤ s := by
        have q : (if t < t then 0 else 1) ≤ s := s0
        rw [if_neg (by omega)] at q
        exact q
      rw [if_pos hlt, if_pos hlt, lt_s_, lt_s_, ← hz]
      generalize hzz : Ma.1 27 3 * 1103515245 + 12345 = z
      have c27 : ∀ k, k ≠ 27 → (sA Ma 27 (upd (Ma.1 27) 3 z)).1 k = Ma.1 k := fun k hk => sA_n _ _ _ _ hk
      have c82 : ∀ k, k ≠ 82 → (sA Mb 82 (upd (Mb.1 82) 43 z)).1 k = Mb.1 k := fun k hk => sA_n _ _ _ _ hk
      -- led
      have hle : ∃ l, l ≤ 1 ∧ (if Ma.1 (w + 2) t = -2 then (0 : Int32) else 1) = nI l ∧ (if Mb.1 92 t < 0 then (0 : Int32) else 1) = nI l := by
        rw [← L1]
        rcases who_c p5 L2 with ⟨q1, q2⟩ | ⟨p, q1, q2, q3, q4, q5⟩
        · exact ⟨0, by omega, by rw [if_pos q1]; rfl, by rw [if_pos q2]; rfl⟩
        · exact ⟨1, by omega, by rw [if_neg q3]; rfl, by rw [if_neg q4]; rfl⟩
      obtain ⟨l, l1, l2, l3⟩ := hle
      have hA1 : lawA O (sA Ma 27 (upd (Ma.1 27) 3 z)) := lawA_X hL.1.1 ⟨c27 16 (by decide), c27 17 (by decide), c27 18 (by decide)⟩
      have hF1 : rFo O (sA Ma 27 (upd (Ma.1 27) 3 z)) := by
        intro t s a l k1 k2 k3 k4 k5
        rw [c27 20 (by decide)]
        exact hL.1.2.1 t s a l k1 k2 k3 k4 k5
      obtain ⟨M2, e1, e2, e3⟩ := w_number (s := s) (a := a) (l := l) hA1 hF1 (show t < 6 by omega) s0 s1 g1 l1
      have hB1 : lawB O (sA Mb 82 (upd (Mb.1 82) 43 z)) := lawB_N hL.2.1 ⟨by rw [sA_s, upd_n _ _ _ _ (by decide)], c82 99 (by decide)⟩
      obtain ⟨N2, f1, f2⟩ := w_numberOf hB1 s t a l
      have ez : (sA Ma 27 (upd (Ma.1 27) 3 z)).1 27 3 = z := by rw [sA_s, upd_s]
      have ez2 : N2.1 82 43 = z := by rw [f2.2.2 43 (by omega), sA_s, upd_s]
      rw [n_inb (show t < 6 by omega) (by omega), gd_t, gd_t, gd_t, gd_t, gd_t, gd_t, n_cl (show t < 2 ^ 31 by omega), ez, c27 _ (by omega), c27 _ (by omega), c27 _ (by omega), c82 91 (by decide), c82 92 (by decide), c82 94 (by decide), l2, l3, s2, s3, g2, g3]
      unfold X2_year_b176 X11_goesYear_b89 X2_year_b192 X11_goesYear_b119
      rw [e1, bd_s, f1, bd_s, n_inb (show t < 6 by omega) (by omega), gd_t, gd_t, gd_t, gd_t, lt_s_, n_cl (show t < 2 ^ 31 by omega), ez2, nI_1]
      generalize (z.toUInt32 >>> ((8 : Int32).toUInt32 &&& Int32.toUInt32 31)).toInt32 - (z.toUInt32 >>> ((8 : Int32).toUInt32 &&& Int32.toUInt32 31)).toInt32 / 12 * 12 = r
      have x2 : M2.1 (w + 1) t = nI s := by rw [e2.2 _ (by omega) (by omega), c27 _ (by omega)]; exact s2
      have y2 : N2.1 91 t = nI s := by rw [f2.2.1 91 (by decide) (by decide), c82 91 (by decide)]; exact s3
      rw [x2, y2]
      -- the memories behind the draw
      have go : ∀ (f g : Nat → Int32) (s' : Nat), f = upd (M2.1 (w + 1)) t (nI s') → g = upd (N2.1 91) t (nI s') → s' ≤ 3 → ∀ Mx : mm, Mx.2 = M2.2 → (∀ k, k ≠ w + 1 → Mx.1 k = M2.1 k) → Mx.1 (w + 1) = f → ∃ Ma' Mb', X2_year_L107 w Ka n (nI (t + 1)) Mx = Ka Ma' ∧ X11_goesYear_L37 Kb n' (nI (t + 1)) (sA N2 91 g) = Kb Mb' ∧ YS P T Fa Fb h m Ma' Mb' ∧ YL T N Fa Fb O Ma' Mb' ∧ YD w P T Q (fun _ => 0) m Ma' Mb' ∧ FA w T Ma Ma' ∧ FB Mb Mb' ∧ Ma'.1 27 3 = Mb'.1 82 43 ∧ Mb'.1 82 44 = Mb.1 82 44 := by
        intro f g s' hf hg hs' Mx x1 x3 x4
        have cm : ∀ k, k ≠ w + 1 → k ≠ 19 → k ≠ 20 → k ≠ 27 → Mx.1 k = Ma.1 k := fun k c1 c2 c3 c4 => (x3 k c1).trans ((e2.2 k c2 c3).trans (c27 k c4))
        have cn : ∀ k, k ≠ 91 → k ≠ 82 → k ≠ 100 → (sA N2 91 g).1 k = Mb.1 k := fun k c1 c2 c3 => (sA_n _ _ _ _ c1).trans ((f2.2.1 k c2 c3).trans (c82 k c2))
        have cj : ∀ j, (j < 27 ∨ 31 < j) → j ≠ 43 → (sA N2 91 g).1 82 j = Mb.1 82 j := by
          intro j c1 c2
          rw [sA_n _ _ _ _ (by decide), f2.2.2 j c1, sA_s, upd_n _ _ _ _ c2]
        have xr : Mx.2 = Ma.2 := x1.trans e2.1
        have fa : FA w T Ma Mx := ⟨fun k hk => cm k (by omega) (by omega) (by omega) (by omega), fun k _ => by rw [xr], by rw [xr], fun t' _ => by rw [cm _ (by omega) (by omega) (by omega) (by omega)]⟩
        have fb : FB Mb (sA N2 91 g) := ⟨fun k hk => cn k (by omega) (by omega) (by omega), f2.1, fun j hj => cj j (by omega) (by omega)⟩
        have hA2 : lawA O Mx ∧ rFo O Mx ∧ RefOK Mx := by
          refine ⟨lawA_X hL.1.1 ⟨cm 16 (by omega) (by omega) (by omega) (by omega), cm 17 (by omega) (by omega) (by omega) (by omega), cm 18 (by omega) (by omega) (by omega) (by omega)⟩, fun t s a l k1 k2 k3 k4 k5 => ?_, ?_⟩
          · rw [x3 20 (by omega)]
            exact e3 t s a l k1 k2 k3 k4 k5
          · have := hL.1.2.2
            unfold RefOK at this ⊢
            rw [xr]
            exact this
        have hM2 : rM T N O Mx := rM_c hL.2.2.1 (Nat.le_refl _) (by rw [cm 1 (by omega) (by omega) (by omega) (by omega)]) (by rw [xr]) (fun F t _ => cNow_c O F t (cm 2 (by omega) (by omega) (by omega) (by omega)) (cm 3 (by omega) (by omega) (by omega) (by omega)) (cm 5 (by omega) (by omega) (by omega) (by omega)) (cm 6 (by omega) (by omega) (by omega) (by omega)) (cm 7 (by omega) (by omega) (by omega) (by omega)))
        obtain ⟨hS2, hL2⟩ := YSL_c hS hL fa fb hA2 hM2
        have hD2 : YD w P T Q (fun j => if j < t + 1 then 0 else 1) m Mx (sA N2 91 g) := by
          refine ⟨fun t' ht' => ?_, fun p' hp' hmm => ?_⟩
          · rw [x4, hf, cm (w + 2) (by omega) (by omega) (by omega) (by omega), cm (w + 3) (by omega) (by omega) (by omega) (by omega), cm (w + 4) (by omega) (by omega) (by omega) (by omega), cm (w + 5) (by omega) (by omega) (by omega) (by omega), cm (w + 6) (by omega) (by omega) (by omega) (by omega), cn 92 (by omega) (by omega) (by omega), cn 93 (by omega) (by omega) (by omega), cn 94 (by omega) (by omega) (by omega), cn 95 (by omega) (by omega) (by omega), cn 96 (by omega) (by omega) (by omega), sA_s, hg]
            obtain ⟨⟨s6, v0, v1, v2, v3⟩, v4⟩ := hD.1 t' ht'
            refine ⟨?_, v4⟩
            by_cases htt : t' = t
            · subst htt
              rw [upd_s, upd_s]
              exact ⟨s', (show (if t' < t' + 1 then 0 else 1) ≤ s' by rw [if_pos (by omega)]; omega), hs', rfl, rfl⟩
            · rw [upd_n _ _ _ _ htt, upd_n _ _ _ _ htt, e2.2 _ (by omega) (by omega), c27 _ (by omega), f2.2.1 91 (by decide) (by decide), c82 91 (by decide)]
              have v0 : (if t' < t then 0 else 1) ≤ s6 := v0
              refine ⟨s6, (?_ : (if t' < t + 1 then 0 else 1) ≤ s6), v1, v2, v3⟩
              by_cases h1 : t' < t
              · rw [if_pos (by omega)]; omega
              · rw [if_neg h1] at v0
                rw [if_neg (by omega)]; exact v0
          · rw [cm (w + 7) (by omega) (by omega) (by omega) (by omega), cm (w + 8) (by omega) (by omega) (by omega) (by omega), cm (w + 9) (by omega) (by omega) (by omega) (by omega), cn 87 (by omega) (by omega) (by omega), cn 88 (by omega) (by omega) (by omega), cn 89 (by omega) (by omega) (by omega)]
            exact hD.2 p' hp' hmm
        have hz2 : Mx.1 27 3 = (sA N2 91 g).1 82 43 := by
          rw [x3 27 (by omega), e2.2 27 (by decide) (by decide), ez, sA_n _ _ _ _ (by decide), ez2]
        obtain ⟨Ma', Mb', q1, q2, q3, q4, q5, q6, q7, q8, q9⟩ := ih n' (t + 1) Mx (sA N2 91 g) (by omega) (by omega) (by omega) hS2 hL2 hD2 hz2
        exact ⟨Ma', Mb', q1, q2, q3, q4, q5, FA_t fa q6, FB_t fb q7, q8, q9.trans (cj 44 (by omega) (by decide))⟩
      by_cases hr : r < nI (wn O s t a l)
      · rw [if_pos hr, if_pos hr, lt_s_, show nI s - 1 = nI (s - 1) from by rw [n1, n_sub (by omega)]]
        exact go _ _ (s - 1) rfl rfl (by omega) _ rfl (fun k hk => sA_n _ _ _ _ hk) (sA_s _ _ _)
      · rw [if_neg hr, if_neg hr, Int32.sub_zero]
        refine go (M2.1 (w + 1)) _ s ?_ rfl s1 M2 rfl (fun k _ => rfl) rfl
        rw [← x2, upd_id]
    · rw [if_neg hlt, if_neg hlt]
      obtain rfl : t = T := by omega
      exact ⟨Ma, Mb, rfl, rfl, hS, hL, YD_m hD (fun j _ => by omega), FA_r _ _ _, FB_r _, hz, rfl⟩
