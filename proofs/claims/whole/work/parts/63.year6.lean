/-! ===== the third phase: what breaks; the whole year ===== -/
theorem law_w2 {T N : Nat} {O : Option (List stp)} {M M' : mm} (e2 : M'.2 = M.2) (e : ∀ k, k ≤ 20 → M'.1 k = M.1 k) (hA : lawA O M ∧ rFo O M ∧ RefOK M) (hM : rM T N O M) : (lawA O M' ∧ rFo O M' ∧ RefOK M') ∧ rM T N O M' := by
  refine ⟨⟨lawA_X hA.1 ⟨e 16 (by omega), e 17 (by omega), e 18 (by omega)⟩, fun t s a l k1 k2 k3 k4 k5 => ?_, ?_⟩, rM_c hM (Nat.le_refl _) (by rw [e 1 (by omega)]) (by rw [e2]) (fun F t _ => cNow_c O F t (e 2 (by omega)) (e 3 (by omega)) (e 5 (by omega)) (e 6 (by omega)) (e 7 (by omega)))⟩
  · rw [e 20 (by omega)]
    exact hA.2.1 t s a l k1 k2 k3 k4 k5
  · have := hA.2.2
    unfold RefOK at this ⊢
    rw [e2]
    exact this
theorem y_L202 {w P T Q N Fa Fb h : Nat} {O : Option (List stp)} {m : Prop} (hw : isO 9 w = true) (hw2 : 28 ≤ w) (hQ : P ≤ Q) (Ka : Int32 → mm → Option (Int32 × mm)) : ∀ n n' t c Ma Mb, t ≤ T → c ≤ t → T - t < n → T - t < n' → YS P T Fa Fb h m Ma Mb → YL T N Fa Fb O Ma Mb → YD w P T Q (fun j => if j < t then 1 else 0) m Ma Mb → (m → ∀ j, j < t → Ma.1 (w + 10) j = Mb.1 97 j) → ∃ br Ma' Mb', c ≤ br ∧ br ≤ T ∧ X2_year_L202 w Ka n (nI c) (nI t) Ma = Ka (nI br) Ma' ∧ X11_goesYear_L129 n' (nI t) Mb = some ((), Mb') ∧ YS P T Fa Fb h m Ma' Mb' ∧ YL T N Fa Fb O Ma' Mb' ∧ YD w P T Q (fun _ => 1) m Ma' Mb' ∧ FA w T Ma Ma' ∧ FB Mb Mb' ∧ Ma'.1 27 = Ma.1 27 ∧ Mb'.1 82 43 = Mb.1 82 43 ∧ Mb'.1 82 44 = Mb.1 82 44 + nI (br - c) ∧ (m → ∀ j, j < T → Ma'.1 (w + 10) j = Mb'.1 97 j) := by
  intro n
  induction n with
  | zero => intro n' t c Ma Mb _ _ h; omega
  | succ n ih =>
    intro n' t c Ma Mb ht hc hn hn' hS hL hD hy
    obtain ⟨n', rfl⟩ : ∃ k, n' = k + 1 := ⟨n' - 1, by omega⟩
    obtain ⟨⟨p5, t6, fa9, fb9, h1, hm⟩, ⟨a1, a2, a3, a4, a5, a6, a7, a8⟩, hP, hT⟩ := id hS
    rw [X2_year_L202, X11_goesYear_L129, a2, a6, i_ltP (by omega) (by omega), i_ltP (by omega) (by omega)]
    by_cases hlt : t < T
    · obtain ⟨⟨s, s0, s1, s2, s3⟩, -, -, ⟨a, g1, g2, g3⟩, -⟩ := hD.1 t hlt
      obtain ⟨⟨o, o1, o2, o3⟩, ⟨wo, w1, w2, w3⟩, -⟩ := hT t hlt
      rw [if_pos hlt, if_pos hlt, n_inb (show t < 6 by omega) (by omega), gd_t, gd_t, n_cl (show t < 2 ^ 31 by omega), s2, s3, show (0 : Int32) = nI 0 from rfl, i_ltP (by omega) (by omega), i_eqP (by omega) (by omega)]
      by_cases hz : s = 0
      · rw [if_neg (by omega), if_pos hz]
        obtain ⟨M1, M2, e1, e2, e3, ⟨e4, e5, e5'⟩, ⟨e6, e7, e8⟩, e9, e10⟩ := y_breaks hw hw2 hS hQ hD (fun j => by split <;> omega) hlt
        rw [e1, e2, bd_s, bd_s]
        unfold X2_year_b287 X11_goesYear_b210
        rw [nI_1, nI_1]
        have fa : FA w T Ma M1 := FA_w e4 e5 (fun _ _ => by rw [e5']) hw2
        have fb : FB Mb M2 := ⟨fun k hk => e7 k (by omega), e6, fun j hj => by rw [e8, upd_n _ _ _ _ (by omega)]⟩
        obtain ⟨l1, l2⟩ := law_w hw2 e4 e5 hL.1 hL.2.2.1
        obtain ⟨hS1, hL1⟩ := YSL_c hS hL fa fb l1 l2
        obtain ⟨br, Ma', Mb', q0, q0', q1, q2, q3, q4, q5, q6, q7, q8, q9, q10, q11⟩ := ih n' (t + 1) (c + 1) M1 M2 (by omega) (by omega) (by omega) (by omega) hS1 hL1 (YD_m e3 (fun j _ => by
          show (if j < t + 1 then 1 else 0) ≤ (if j = t then 1 else if j < t then 1 else 0)
          split <;> split <;> (try split) <;> omega)) (fun hmm j hj => by
          by_cases hjt : j = t
          · rw [hjt]; exact e10 hmm
          · rw [(e9 j hjt).1, (e9 j hjt).2]
            exact hy hmm j (by omega))
        refine ⟨br, Ma', Mb', by omega, q0', q1, q2, q3, q4, q5, FA_t fa q6, FB_t fb q7, q8.trans (e5 27 (by omega)), ?_, ?_, q11⟩
        · rw [q9, e8, upd_n _ _ _ _ (by decide)]
        · rw [q10, e8, upd_s, show (1 : Int32) = nI 1 from rfl, Int32.add_assoc, n_add, show 1 + (br - (c + 1)) = br - c from by omega]
      · rw [if_pos (by omega), if_neg hz]
        have ea : (if nI 99 < nI a + 1 then nI 99 else nI a + 1) = nI (oldr a) := by
          rw [nI_1, i_ltP (by omega) (by omega)]
          unfold oldr
          by_cases h9 : a < 99
          · rw [if_neg (by omega), if_pos h9]
          · rw [if_pos (by omega), if_neg h9]
            obtain rfl : a = 99 := by omega
            rfl
        have eb : nI a + (if nI a < nI 99 then 1 else nI 0) = nI (oldr a) := by
          rw [i_ltP (by omega) (by omega)]
          unfold oldr
          by_cases h9 : a < 99
          · rw [if_pos h9, if_pos h9, nI_1]
          · rw [if_neg h9, if_neg h9, n_add, Nat.add_zero]
        unfold X11_goesYear_b208 X2_year_b287 X11_goesYear_b210
        rw [show (99 : Int32) = nI 99 from rfl]
        simp (disch := omega) only [o2, o3, w2, w3, g2, g3, n_inb, n_cl, gd_t, lt_s_, l_15, sA_n, sA_s]
        rw [ea, eb, nI_1]
        -- the two memories behind it
        have z : ∀ M1 : mm, M1.2 = Ma.2 → (∀ k, k ≠ w + 7 → k ≠ w + 4 → k ≠ w + 10 → M1.1 k = Ma.1 k) → M1.1 (w + 7) = upd (Ma.1 (w + 7)) o (Ma.1 (w + 7) o + nI wo) → M1.1 (w + 4) = upd (Ma.1 (w + 4)) t (nI (oldr a)) → M1.1 (w + 10) = upd (Ma.1 (w + 10)) t (-2) → ∀ M2 : mm, M2.2 = Mb.2 → (∀ k, k ≠ 97 → k ≠ 87 → k ≠ 94 → M2.1 k = Mb.1 k) → M2.1 97 = upd (Mb.1 97) t (-2) → M2.1 87 = upd (Mb.1 87) o (Mb.1 87 o + nI wo) → M2.1 94 = upd (Mb.1 94) t (nI (oldr a)) → ∃ br Ma' Mb', c ≤ br ∧ br ≤ T ∧ X2_year_L202 w Ka n (nI c) (nI (t + 1)) M1 = Ka (nI br) Ma' ∧ X11_goesYear_L129 n' (nI (t + 1)) M2 = some ((), Mb') ∧ YS P T Fa Fb h m Ma' Mb' ∧ YL T N Fa Fb O Ma' Mb' ∧ YD w P T Q (fun _ => 1) m Ma' Mb' ∧ FA w T Ma Ma' ∧ FB Mb Mb' ∧ Ma'.1 27 = Ma.1 27 ∧ Mb'.1 82 43 = Mb.1 82 43 ∧ Mb'.1 82 44 = Mb.1 82 44 + nI (br - c) ∧ (m → ∀ j, j < T → Ma'.1 (w + 10) j = Mb'.1 97 j) := by
          intro M1 u1 u2 u3 u4 u5 M2 v1 v2 v3 v4 v5
          have fa : FA w T Ma M1 := FA_w u1 (fun k hk => u2 k (by omega) (by omega) (by omega)) (fun t' _ => by rw [u2 _ (by omega) (by omega) (by omega)]) hw2
          have fb : FB Mb M2 := ⟨fun k hk => v2 k (by omega) (by omega) (by omega), v1, fun j hj => by rw [v2 82 (by omega) (by omega) (by omega)]⟩
          obtain ⟨l1, l2⟩ := law_w hw2 u1 (fun k hk => u2 k (by omega) (by omega) (by omega)) hL.1 hL.2.2.1
          obtain ⟨hS1, hL1⟩ := YSL_c hS hL fa fb l1 l2
          obtain ⟨br, Ma', Mb', q0, q0', q1, q2, q3, q4, q5, q6, q7, q8, q9, q10, q11⟩ := ih n' (t + 1) c M1 M2 (by omega) (by omega) (by omega) (by omega) hS1 hL1 ⟨fun t' ht' => by
            rw [u2 (w + 1) (by omega) (by omega) (by omega), u2 (w + 2) (by omega) (by omega) (by omega), u2 (w + 3) (by omega) (by omega) (by omega), u4, u2 (w + 5) (by omega) (by omega) (by omega), u2 (w + 6) (by omega) (by omega) (by omega), v2 91 (by omega) (by omega) (by omega), v2 92 (by omega) (by omega) (by omega), v2 93 (by omega) (by omega) (by omega), v5, v2 95 (by omega) (by omega) (by omega), v2 96 (by omega) (by omega) (by omega)]
            obtain ⟨⟨s', b0, b1, b2, b3⟩, b4, b5, b6, b7⟩ := hD.1 t' ht'
            have b0 : (if t' < t then 1 else 0) ≤ s' := b0
            have hO : oldr a ≤ 99 := by unfold oldr; split <;> omega
            by_cases htt : t' = t
            · subst htt
              rw [upd_s, upd_s]
              exact ⟨⟨s, (show (if t' < t' + 1 then 1 else 0) ≤ s by rw [if_pos (by omega)]; omega), s1, s2, s3⟩, b4, b5, ⟨oldr a, hO, rfl, rfl⟩, b7⟩
            · rw [upd_n _ _ _ _ htt, upd_n _ _ _ _ htt]
              refine ⟨⟨s', (?_ : (if t' < t + 1 then 1 else 0) ≤ s'), b1, b2, b3⟩, b4, b5, b6, b7⟩
              by_cases h2 : t' < t
              · rw [if_pos h2] at b0
                rw [if_pos (by omega)]; exact b0
              · rw [if_neg (by omega)]; omega, fun p' hp' hmm => by
            rw [u3, v4, u2 (w + 8) (by omega) (by omega) (by omega), u2 (w + 9) (by omega) (by omega) (by omega), v2 88 (by omega) (by omega) (by omega), v2 89 (by omega) (by omega) (by omega), upd_a, upd_a, (hD.2 o (by omega) hmm).1, (hD.2 p' hp' hmm).1]
            exact ⟨rfl, (hD.2 p' hp' hmm).2⟩⟩ (fun hmm j hj => by
            rw [u5, v3, upd_a, upd_a]
            by_cases hjt : j = t
            · rw [if_pos hjt, if_pos hjt]
            · rw [if_neg hjt, if_neg hjt]
              exact hy hmm j (by omega))
          exact ⟨br, Ma', Mb', q0, q0', q1, q2, q3, q4, q5, FA_t fa q6, FB_t fb q7, q8.trans (u2 27 (by omega) (by omega) (by omega)), q9.trans (by rw [v2 82 (by omega) (by omega) (by omega)]), q10.trans (by rw [v2 82 (by omega) (by omega) (by omega)]), q11⟩
        refine z (sA (sA (sA Ma (w + 7) (upd (Ma.1 (w + 7)) o (Ma.1 (w + 7) o + nI wo))) (w + 4) (upd (Ma.1 (w + 4)) t (nI (oldr a)))) (w + 10) (upd (Ma.1 (w + 10)) t (-2))) rfl (fun k k1 k2 k3 => ?_) ?_ ?_ ?_ (sA (sA (sA Mb 97 (upd (Mb.1 97) t (-2))) 87 (upd (Mb.1 87) o (Mb.1 87 o + nI wo))) 94 (upd (Mb.1 94) t (nI (oldr a)))) rfl (fun k k1 k2 k3 => ?_) ?_ ?_ ?_
        all_goals simp (disch := omega) only [sA_n, sA_s]
    · rw [if_neg hlt, if_neg hlt]
      obtain rfl : t = T := by omega
      refine ⟨c, Ma, Mb, by omega, hc, rfl, rfl, hS, hL, YD_m hD (fun j hj => by show (1 : Nat) ≤ (if j < t then 1 else 0); rw [if_pos hj]; omega), FA_r _ _ _, FB_r _, rfl, rfl, ?_, hy⟩
      rw [Nat.sub_self, show nI 0 = (0 : Int32) from rfl, Int32.add_zero]
/-- a whole year -/
theorem y_year {w P T Q N Fa Fb h : Nat} {O : Option (List stp)} {m : Prop} (hw : isO 9 w = true) (hw2 : 28 ≤ w) (hQ : P ≤ Q) {Ma Mb : mm} (hS : YS P T Fa Fb h m Ma Mb) (hL : YL T N Fa Fb O Ma Mb) (hD : YD w P T Q (fun _ => 1) m Ma Mb) (hz : Ma.1 27 3 = Mb.1 82 43) : ∃ br Ma' Mb', br ≤ T ∧ X2_year w Ma = some (nI br, Ma') ∧ X11_goesYear Mb = some ((), Mb') ∧ YS P T Fa Fb h m Ma' Mb' ∧ YL T N Fa Fb O Ma' Mb' ∧ YD w P T Q (fun _ => 1) m Ma' Mb' ∧ Ma'.1 27 3 = Mb'.1 82 43 ∧ Mb'.1 82 44 = Mb.1 82 44 + nI br ∧ (m → ∀ j, j < T → Ma'.1 (w + 10) j = Mb'.1 97 j) ∧ (Ma'.1 w 0 = Ma.1 w 0 + (nI T - nI br) ∧ Ma'.1 w 1 = Ma.1 w 1 + nI br) ∧ ((∀ k, (k ≤ 18 ∨ (28 ≤ k ∧ (k < w ∨ w + 10 < k))) → Ma'.1 k = Ma.1 k) ∧ (∀ k, k < 21 ∨ 26 < k → Ma'.2.1 k = Ma.2.1 k) ∧ Ma'.2.2 0 = Ma.2.2 0 ∧ ∀ t, T ≤ t → Ma'.1 (w + 5) t = Ma.1 (w + 5) t) ∧ FB Mb Mb' := by
  have t6 := hS.1.2.1
  unfold X2_year X11_goesYear
  rw [hw, gd_t]
  obtain ⟨A1, B1, e1, e2, s1, l1, d1, fa1, fb1, z1, z2⟩ := y_L2 hw hw2 (fun M =>
      X2_year_L107 w (fun M =>
          X2_year_L202 w (fun x2 M =>
              lt_ (sA M w (upd (M.1 w) 0 ((M.1 w 0) + ((M.1 1 1) - x2)))) fun M45 =>
              lt_ (sA M45 w (upd (M45.1 w) 1 ((M45.1 w 1) + x2))) fun M46 =>
              some (x2, M46)) 10000 0 0 M) 10000 0 M) (fun M =>
      X11_goesYear_L37 (fun M =>
          X11_goesYear_L129 10000 0 M) 10000 0 M) 10000 10000 0 Ma Mb (by omega) (by omega) (by omega) hS hL hD
  rw [show nI 0 = (0 : Int32) from rfl] at e1 e2
  rw [e1, e2]
  have hz1 : A1.1 27 3 = B1.1 82 43 := by rw [z1, z2]; exact hz
  obtain ⟨A2, B2, e3, e4, s2, l2, d2, fa2, fb2, z3, z4⟩ := y_L107 hw hw2 (fun M =>
          X2_year_L202 w (fun x2 M =>
              lt_ (sA M w (upd (M.1 w) 0 ((M.1 w 0) + ((M.1 1 1) - x2)))) fun M45 =>
              lt_ (sA M45 w (upd (M45.1 w) 1 ((M45.1 w 1) + x2))) fun M46 =>
              some (x2, M46)) 10000 0 0 M) (fun M =>
          X11_goesYear_L129 10000 0 M) 10000 10000 0 A1 B1 (by omega) (by omega) (by omega) s1 l1 (YD_m d1 (fun j _ => by show (if j < 0 then 0 else 1) ≤ 1; rw [if_neg (by omega)]; omega)) hz1
  rw [show nI 0 = (0 : Int32) from rfl] at e3 e4
  rw [e3, e4]
  obtain ⟨br, A3, B3, b0, b1, e5, e6, s3, l3, d3, fa3, fb3, z5, z6, z7, z8⟩ := y_L202 hw hw2 hQ (fun x2 M =>
              lt_ (sA M w (upd (M.1 w) 0 ((M.1 w 0) + ((M.1 1 1) - x2)))) fun M45 =>
              lt_ (sA M45 w (upd (M45.1 w) 1 ((M45.1 w 1) + x2))) fun M46 =>
              some (x2, M46)) 10000 10000 0 0 A2 B2 (by omega) (by omega) (by omega) (by omega) s2 l2 (YD_m d2 (fun j _ => by show (if j < 0 then 1 else 0) ≤ 0; rw [if_neg (by omega)]; omega)) (fun _ j hj => absurd hj (by omega))
  rw [show nI 0 = (0 : Int32) from rfl] at e5 e6
  rw [e5, e6]
  have FAa := FA_t fa1 (FA_t fa2 fa3)
  have FBb := FB_t fb1 (FB_t fb2 fb3)
  have e11 : A3.1 1 1 = nI T := s3.2.1.2.1
  rw [lt_s_, lt_s_, sA_sA, e11, sA_s, upd_n _ _ _ _ (show (1 : Nat) ≠ 0 by decide)]
  have c : ∀ k, k ≠ w → (sA A3 w (upd (upd (A3.1 w) 0 (A3.1 w 0 + (nI T - nI br))) 1 (A3.1 w 1 + nI br))).1 k = A3.1 k := fun k hk => sA_n _ _ _ _ hk
  have hww : A3.1 w = Ma.1 w := FAa.1 w (by omega)
  refine ⟨br, _, B3, b1, rfl, rfl, YS_c s3 (fun k hk => c k (by omega)) rfl rfl (fun _ _ => rfl), ?_, YD_c d3 (fun k k1 k2 => c k (by omega)) (fun _ _ => rfl), ?_, ?_, ?_, ⟨?_, ?_⟩, ⟨fun k hk => ?_, fun k hk => ?_, ?_, fun t ht => ?_⟩, FBb⟩
  · obtain ⟨q1, q2⟩ := law_w2 (M := A3) (M' := sA A3 w (upd (upd (A3.1 w) 0 (A3.1 w 0 + (nI T - nI br))) 1 (A3.1 w 1 + nI br))) rfl (fun k hk => c k (by omega)) l3.1 l3.2.2.1
    exact YL_c l3 (fun k hk => c k (by omega)) q1 q2 rfl rfl rfl
  · rw [c 27 (by omega), z5, z6]; exact z3
  · rw [z7, Nat.sub_zero, z4, z2]
  · intro hmm j hj
    rw [c _ (by omega)]
    exact z8 hmm j hj
  · rw [sA_s, upd_n _ _ _ _ (by decide), upd_s, hww]
  · rw [sA_s, upd_s, hww]
  · rw [c k (by omega)]
    exact FAa.1 k (by omega)
  · exact FAa.2.1 k hk
  · exact FAa.2.2.1
  · rw [c _ (by omega)]
    exact FAa.2.2.2 t ht
