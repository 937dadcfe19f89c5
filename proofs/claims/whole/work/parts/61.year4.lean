/-! ===== the first phase: who mends ===== -/
theorem YD_m {w P T Q : Nat} {lb lb' : Nat → Nat} {m : Prop} {Ma Mb : mm} (h : YD w P T Q lb m Ma Mb) (hl : ∀ j, j < T → lb' j ≤ lb j) : YD w P T Q lb' m Ma Mb := by
  refine ⟨fun t ht => ?_, h.2⟩
  obtain ⟨⟨s, s1, s2⟩, g⟩ := h.1 t ht
  have := hl t ht
  exact ⟨⟨s, by omega, s2⟩, g⟩
theorem lO_sort {P o : Nat} {x : Int32} (hP : P ≤ 5) (h : x = -2 ∨ ∃ p, p < P ∧ x = nI p) : (if x < 0 then (2 : Int32) else if x = nI o then 0 else 1) = nI (lO x o) := by
  unfold lO
  rcases who_c hP h with ⟨q1, q2⟩ | ⟨p, q1, q2, q3, q4, q5⟩
  · rw [if_pos q2, if_pos q1]; rfl
  · rw [if_neg q4, if_neg q3]
    split <;> rfl
theorem w_sortFor {P o t : Nat} {M : mm} (ht : t < 6) (hP : P ≤ 5) (h : M.1 92 t = -2 ∨ ∃ p, p < P ∧ M.1 92 t = nI p) : X11_sortFor (nI t) (nI o) M = some (nI (lO (M.1 92 t) o), M) := by
  have e := lO_sort (o := o) hP h
  unfold X11_sortFor
  rw [n_inb ht (by omega), gd_t, n_cl (by omega), gd_t]
  by_cases h1 : M.1 92 t < 0
  · rw [if_pos h1] at e ⊢
    rw [← e]
  · rw [if_neg h1] at e ⊢
    by_cases h2 : M.1 92 t = nI o
    · rw [if_pos h2] at e ⊢
      rw [← e]
    · rw [if_neg h2] at e ⊢
      rw [← e]
/-- whether it is mended, the other side -/
def mdB (w : Nat) (O : Option (List stp)) (F t : Nat) (Ma : mm) : Bool := if Ma.1 4 (tn (Ma.1 5 t)) = 4 then isB (cNow Ma O F t) 4 (tn (Ma.1 (w + 1) t)) (lO (Ma.1 (w + 2) t) (tn (Ma.1 5 t))) (tn (Ma.1 (w + 4) t)) else decide (tn (Ma.1 (w + 1) t) ≤ tn (Ma.1 4 (tn (Ma.1 5 t))))
theorem w_mendsNow {w P T Q N Fa Fb h t : Nat} {O : Option (List stp)} {m : Prop} {Ma Mb : mm} (hS : YS P T Fa Fb h m Ma Mb) (hL : YL T N Fa Fb O Ma Mb) (hD : YD w P T Q (fun _ => 1) m Ma Mb) (ht : t < T) : X11_mendsNow (nI t) Mb = some (bI (mdB w O Fb t Ma), Mb) := by
  obtain ⟨⟨p5, t6, fa9, fb9, h1, hm⟩, ⟨a1, a2, a3, a4, a5, a6, a7, a8⟩, hP, hT⟩ := hS
  obtain ⟨⟨o, o1, o2, o3⟩, -⟩ := hT t ht
  obtain ⟨-, -, wy, y1, y2, y3⟩ := hP.2 o o1
  obtain ⟨⟨s, s0, s1, s2, s3⟩, ⟨L1, L2⟩, -, ⟨a, g1, g2, g3⟩, -⟩ := hD.1 t ht
  have hto : tn (Ma.1 5 t) = o := by rw [o2, tn_nI (by omega)]
  have hts : tn (Ma.1 (w + 1) t) = s := by rw [s2, tn_nI (by omega)]
  have hta : tn (Ma.1 (w + 4) t) = a := by rw [g2, tn_nI (by omega)]
  have hty : tn (Ma.1 4 o) = wy := by rw [y2, tn_nI (by omega)]
  unfold mdB
  rw [hto, hts, hta, hty, y2, show (4 : Int32) = nI 4 from rfl, i_eqP (by omega) (by omega)]
  unfold X11_mendsNow
  rw [n_inb (show t < 6 by omega) (by omega), gd_t, n_cl (by omega), o3, l_10, n_inb (by omega) (by omega), gd_t, n_cl (by omega), y3, lt_s_, show (4 : Int32) = nI 4 from rfl, i_eqP (by omega) (by omega)]
  have hl := lO_lt (Mb.1 92 t) o
  by_cases h4 : wy = 4
  · rw [if_pos h4, if_pos h4, gd_t, gd_t, w_sortFor (show t < 6 by omega) p5 (by rw [← L1]; exact L2), bd_s, gd_t, s3, g3, n0, w_placeOf, bd_s]
    obtain ⟨-, k2⟩ := hL.2.2.2.2 t ht (by rw [hto, y2, h4]; rfl)
    have hp : pl 0 s (lO (Mb.1 92 t) o) a < 1200 := by unfold pl; omega
    rw [show (1200 : Int32) = nI 1200 from rfl, n_mul, n_add, n_inb (by omega) (by omega), gd_t, n_cl (by omega), k2 s (lO (Mb.1 92 t) o) a s0 s1 hl (by omega), ← n0, bI_ok, gd_t, L1]
  · rw [if_neg h4, if_neg h4, gd_t, s3, i_ltP (by omega) (by omega)]
    by_cases hlt : wy < s
    · rw [if_pos hlt, decide_eq_false (by omega)]; rfl
    · rw [if_neg hlt, decide_eq_true (by omega)]; rfl
/-- one step of the first phase -/
theorem y_step1 {w P T Q N Fa Fb h t : Nat} {O : Option (List stp)} {m : Prop} {Ma Mb : mm} (hw : isO 9 w = true) (hw2 : 28 ≤ w) (hS : YS P T Fa Fb h m Ma Mb) (hL : YL T N Fa Fb O Ma Mb) (hD : YD w P T Q (fun _ => 1) m Ma Mb) (ht : t < T) (Ka : mm → Option (Int32 × mm)) (Kb : mm → Option (Unit × mm)) (n n' : Nat) : ∃ Ma' Mb', X2_year_L2 w Ka (n + 1) (nI t) Ma = X2_year_L2 w Ka n (nI (t + 1)) Ma' ∧ X11_goesYear_L2 Kb (n' + 1) (nI t) Mb = X11_goesYear_L2 Kb n' (nI (t + 1)) Mb' ∧ YS P T Fa Fb h m Ma' Mb' ∧ YL T N Fa Fb O Ma' Mb' ∧ YD w P T Q (fun _ => 1) m Ma' Mb' ∧ FA w T Ma Ma' ∧ FB Mb Mb' ∧ Ma'.1 27 = Ma.1 27 ∧ Mb'.1 82 = Mb.1 82 := by
  have hB := w_mendsNow hS hL hD ht
  obtain ⟨⟨p5, t6, fa9, fb9, h1, hm⟩, ⟨a1, a2, a3, a4, a5, a6, a7, a8⟩, hP, hT⟩ := id hS
  obtain ⟨⟨o, o1, o2, o3⟩, ⟨wo, w1, w2, w3⟩, ⟨bi, b1, b2, b3⟩, -⟩ := hT t ht
  obtain ⟨⟨sk, k1, k2, k3, k4⟩, ⟨fe, f1, f2, f3⟩, wy, y1, y2, y3⟩ := hP.2 o o1
  obtain ⟨⟨s, s0, s1, s2, s3⟩, ⟨L1, L2⟩, -, ⟨a, g1, g2, g3⟩, -⟩ := hD.1 t ht
  have hto : tn (Ma.1 5 t) = o := by rw [o2, tn_nI (by omega)]
  -- the first side decides: a memory M1, the same word
  have hA : ∃ M1 v, v = bI (mdB w O Fb t Ma) ∧ X2_year_L2 w Ka (n + 1) (nI t) Ma = X2_year_b68 w (X2_year_L2 w Ka n) Ka (nI t) (nI o) v M1 ∧ EqD Ma M1 ∧ (lawA O M1 ∧ rFo O M1 ∧ RefOK M1) ∧ rM T N O M1 := by
    unfold mdB
    rw [hto, y2, show (4 : Int32) = nI 4 from rfl, i_eqP (by omega) (by omega), X2_year_L2, a2, i_ltP (by omega) (by omega), if_pos ht, n_inb (show t < 6 by omega) (by omega), gd_t, n_cl (by omega), o2, n_inb (show o < 5 by omega) (by omega), gd_t, n_cl (by omega), y2, show (4 : Int32) = nI 4 from rfl, i_eqP (by omega) (by omega)]
    by_cases h4 : wy = 4
    · rw [if_pos h4, if_pos h4]
      obtain ⟨⟨q1, q2, q3⟩, q4, q5, q6, q7⟩ := hL
      obtain ⟨r1, r2⟩ := q7 t ht (by rw [hto, y2, h4]; rfl)
      obtain ⟨M1, e1, e2, e3, e4⟩ := w_mendsInDeed hw a3 fa9 q5 q6 ht t6 o2 (show o < 5 by omega) k3 ⟨k1, k2⟩ f2 f1 w2 w1 b2 b1 s2 s0 s1 g2 g1 q1 q2 q3
      refine ⟨M1, bI (isB (cOf sk fe 4 wo bi Fa O t) 4 s (lO (Ma.1 (w + 2) t) o) a), ?_, ?_, e2, e3, e4⟩
      · rw [← r1, cNow_of o2 k3 f2 w2 b2 (by omega) k2 f1 w1 b1, s2, g2, tn_nI (by omega), tn_nI (by omega)]
      · rw [e1, bd_s]
    · rw [if_neg h4, if_neg h4, gd_t]
      refine ⟨Ma, if nI wy < Ma.1 (w + 1) t then 0 else 1, ?_, rfl, EqD_r Ma, hL.1, hL.2.2.1⟩
      rw [s2, i_ltP (by omega) (by omega), tn_nI (by omega), tn_nI (by omega)]
      by_cases hlt : wy < s
      · rw [if_pos hlt, decide_eq_false (by omega)]; rfl
      · rw [if_neg hlt, decide_eq_true (by omega)]; rfl
  obtain ⟨M1, v, hv, e1, e2, e3, e4⟩ := hA
  have fa1 : FA w T Ma M1 := FA_D e2 hw2
  obtain ⟨hS1, hL1⟩ := YSL_c hS hL fa1 (FB_r Mb) e3 e4
  have hD1 : YD w P T Q (fun _ => 1) m M1 Mb := YD_c hD (fun k c1 c2 => e2.1 k (by omega) (by omega) (by omega)) (fun _ _ => rfl)
  have e27 : M1.1 27 = Ma.1 27 := e2.1 27 (by decide) (by decide) (by decide)
  rw [e1, X11_goesYear_L2, a6, i_ltP (by omega) (by omega), if_pos ht, hB, bd_s, hv]
  unfold X2_year_b68 X2_year_b99 X11_goesYear_b29
  rw [i_P (bI_0 _), i_P (bI_0 _), nI_1]
  cases mdB w O Fb t Ma with
  | false =>
    rw [if_pos rfl, if_pos rfl]
    exact ⟨M1, Mb, rfl, rfl, hS1, hL1, hD1, fa1, FB_r Mb, e27, rfl⟩
  | true =>
    rw [if_neg (fun q => nomatch q), if_neg (fun q => nomatch q), n_inb (show o < 5 by omega) (by omega), gd_t, gd_t, n_cl (by omega), n_inb (show t < 6 by omega) (by omega), gd_t, n_cl (by omega), o3, e2.1 2 (by decide) (by decide) (by decide), e2.1 3 (by decide) (by decide) (by decide), k3, f2]
    obtain ⟨Ma', Mb', c1, c2, c3, ⟨c4, c5⟩, c6, c7⟩ := y_mended hw ht t6 o1 p5 hD1 k4 k1 k2 f3
    rw [c1, c2, bd_s, bd_s]
    have hn5 : ∀ t', T ≤ t' → Ma'.1 (w + 5) t' = M1.1 (w + 5) t' := by
      obtain ⟨-, -, -, -, n0, z1, z2, z3, z4⟩ := hD1.1 t ht
      obtain ⟨-, -, -, -, -, -, -, -⟩ := hD1.1 t ht
      obtain ⟨M2, d0, d1, d2, d3, d4, d5, d6, d7⟩ := w_mendedA (p := o) (sk := sk) (fe := fe) (M := M1) hw (show t < 6 by omega) (show o < 5 by omega) (by rw [e2.1 _ (by omega) (by omega) (by omega)]; exact s2) s1 k2 z1 z2
      rw [c1] at d0
      cases d0
      intro t' ht'
      rw [d6, upd_n _ _ _ _ (by omega)]
    have fa2 : FA w T M1 Ma' := FA_w c4 (fun k hk => c5 k (by omega)) hn5 hw2
    have fb2 : FB Mb Mb' := ⟨fun k hk => c7 k (by omega), c6, fun j _ => by rw [c7 82 (by omega)]⟩
    obtain ⟨l1, l2⟩ := law_w hw2 c4 (fun k hk => c5 k (by omega)) e3 e4
    obtain ⟨hS2, hL2⟩ := YSL_c hS1 hL1 fa2 fb2 l1 l2
    exact ⟨Ma', Mb', rfl, rfl, hS2, hL2, YD_m c3 (fun j _ => by show (1 : Nat) ≤ if j = t then 1 else 1; split <;> omega), FA_t fa1 fa2, fb2, (c5 27 (by omega)).trans e27, c7 82 (by omega)⟩
theorem y_L2 {w P T Q N Fa Fb h : Nat} {O : Option (List stp)} {m : Prop} (hw : isO 9 w = true) (hw2 : 28 ≤ w) (Ka : mm → Option (Int32 × mm)) (Kb : mm → Option (Unit × mm)) : ∀ n n' t Ma Mb, t ≤ T → T - t < n → T - t < n' → YS P T Fa Fb h m Ma Mb → YL T N Fa Fb O Ma Mb → YD w P T Q (fun _ => 1) m Ma Mb → ∃ Ma' Mb', X2_year_L2 w Ka n (nI t) Ma = Ka Ma' ∧ X11_goesYear_L2 Kb n' (nI t) Mb = Kb Mb' ∧ YS P T Fa Fb h m Ma' Mb' ∧ YL T N Fa Fb O Ma' Mb' ∧ YD w P T Q (fun _ => 1) m Ma' Mb' ∧ FA w T Ma Ma' ∧ FB Mb Mb' ∧ Ma'.1 27 = Ma.1 27 ∧ Mb'.1 82 = Mb.1 82 := by
  intro n
  induction n with
  | zero => intro n' t Ma Mb _ h; omega
  | succ n ih =>
    intro n' t Ma Mb ht hn hn' hS hL hD
    obtain ⟨n', rfl⟩ : ∃ k, n' = k + 1 := ⟨n' - 1, by omega⟩
    by_cases h : t < T
    · obtain ⟨M1, M2, e1, e2, s1, s2, s3, s4, s5, s6, s7⟩ := y_step1 hw hw2 hS hL hD h Ka Kb n n'
      rw [e1, e2]
      obtain ⟨Ma', Mb', q1, q2, q3, q4, q5, q6, q7, q8, q9⟩ := ih n' (t + 1) M1 M2 (by omega) (by omega) (by omega) s1 s2 s3
      exact ⟨Ma', Mb', q1, q2, q3, q4, q5, FA_t s4 q6, FB_t s5 q7, q8.trans s6, q9.trans s7⟩
    · have t6 := hS.1.2.1
      rw [X2_year_L2, X11_goesYear_L2, hS.2.1.2.1, hS.2.1.2.2.2.2.2.1, i_ltP (by omega) (by omega), i_ltP (by omega) (by omega), if_neg h, if_neg h]
      exact ⟨Ma, Mb, rfl, rfl, hS, hL, hD, FA_r _ _ _, FB_r _, rfl, rfl⟩
