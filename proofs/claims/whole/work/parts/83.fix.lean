/-! ===== the calls fix, paid, layer, body ===== -/
theorem op_fix {P T N : Nat} {O : Option (List stp)} {Ma Mb : mm} (R : RR P T N O Ma Mb) (a : Int32) : ∃ v Ma' Mb', X10_fix a Ma = some (v, Ma') ∧ X11_fix a Mb = some (v, Mb') ∧ RR P T N O Ma' Mb' := by
  obtain ⟨hF, hP, hT, hW, hY, hI, hC, hTa, hA, hS⟩ := id R.1
  obtain ⟨f1, f2, f3, f4, f5, f6, f7, f8, f9⟩ := id hF
  unfold X10_fix X11_fix
  by_cases h : a < 0
  · rw [if_pos h, if_pos h]
    exact ⟨_, _, _, rfl, rfl, R⟩
  · rw [if_neg h, if_neg h]
    obtain ⟨x, hx, rfl⟩ : ∃ x : Nat, x < 2 ^ 31 ∧ a = nI x := by
      rw [q_lt, z32_0] at h
      have := Int32.toInt_lt a
      obtain ⟨i, i1, i2⟩ := q_ex (a := a) (n := 2 ^ 31) (by omega) (by omega) (by omega)
      exact ⟨i, i1, i2⟩
    have e1 : nI x / 10 = nI (x / 10) := n_div (b := 10) hx (by omega)
    have e2 : nI x - nI x / 10 * 10 = nI (x % 10) := by
      rw [e1, show (10 : Int32) = nI 10 from rfl, n_mul, n_sub (by omega)]
      congr 1
      omega
    rw [e2, e1, w_hasThing f2 f4, w_isThing f2 f6, bd_s, bd_s, i_P (bI_0 _), i_P (bI_0 _), w_hasPerson f1 f3, w_isPerson f1 f5, nI_toInt (by omega), nI_toInt (by omega)]
    by_cases ht : x / 10 < T
    · rw [decide_eq_true (by omega), if_neg (c := true = false) (fun q => nomatch q), if_neg (c := true = false) (fun q => nomatch q), bd_s, bd_s, i_P (bI_0 _), i_P (bI_0 _)]
      by_cases hp : x % 10 < P
      · rw [decide_eq_true (by omega), if_neg (c := true = false) (fun q => nomatch q), if_neg (c := true = false) (fun q => nomatch q)]
        obtain ⟨⟨sk, k1, k2, k3, k4⟩, ⟨fe, g1, g2, g3⟩, -⟩ := hP.2 (x % 10) hp
        obtain ⟨⟨s, s1, s2, s3, s4⟩, -, -, -, n, n1, n2, n3, -⟩ := hW.1 (x / 10) ht
        obtain ⟨Ma', Mb', q1, q2, q3, ⟨q4, q4'⟩, q5, q5'⟩ := y_mended (w := 28) (Q := 5) (lb := fun _ => 1) (m := True) (by decide) ht f2 hp f1 (YD_of hW) k4 k1 k2 g3
        obtain ⟨M2, r1, -, -, -, -, -, r6, -⟩ := w_mendedA (w := 28) (p := x % 10) (sk := sk) (fe := fe) (by decide) (show x / 10 < 6 by omega) (show x % 10 < 5 by omega) s3 s2 k2 n1 n2
        have hM2 : M2 = Ma' := by rw [q1] at r1; injection r1 with r1; injection r1 with _ r1; exact r1.symm
        subst hM2
        rw [n_inb (show x % 10 < 5 by omega) (by omega), gd_t, gd_t, n_cl (show x % 10 < 2 ^ 31 by omega), k3, g2, q1, q2, bd_s, bd_s, n_inb (show x / 10 < 6 by omega) (by omega), gd_t, gd_t, n_cl (show x / 10 < 2 ^ 31 by omega)]
        obtain ⟨⟨s', -, -, z1, z2⟩, -⟩ := q3.1 (x / 10) ht
        rw [z1, z2]
        refine ⟨_, M2, Mb', rfl, rfl, RR_lift R ⟨rF_c hF (Nat.le_refl _) ?_, rP_c hP ?_ f1 (fun i _ => by rw [q5' 83 (by omega)]), rT_c hT (Nat.le_refl _) ?_ (fun i _ => by rw [q5' 83 (by omega)]), ⟨fun t ht' => ?_, fun p hp' => q3.2 p hp' trivial, ?_, ?_⟩, ⟨?_, fun t t1 t2 => ?_⟩, rI_c hI (Nat.le_refl _) (Nat.le_refl _) ?_ ?_, rC_c hC (Nat.le_refl _) (Nat.le_refl _) ?_, rTa_c hTa ?_, rA_c hA ?_, rS_c hS ?_ fun d hd => ⟨q4' _ (by omega), by rw [q4]⟩⟩ (Nat.le_refl _) q4 (fun k k1 k2 => q4' k (by omega)) (by rw [q4' 1 (by omega)]) (fun F t _ => cNow_c O F t (q4' 2 (by omega)) (q4' 3 (by omega)) (q4' 5 (by omega)) (q4' 6 (by omega)) (q4' 7 (by omega))) ⟨by rw [q5' 82 (by omega)], q5' 99 (by omega)⟩⟩
        · simp (disch := omega) only [q4', q5', and_self]
        · simp (disch := omega) only [q4', q5', and_self]
        · simp (disch := omega) only [q4', q5', and_self]
        · obtain ⟨⟨s0, w1, w2⟩, w3⟩ := q3.1 t ht'
          exact ⟨⟨s0, by have w1' : (if t = x / 10 then 1 else 1) ≤ s0 := w1; split at w1' <;> exact w1', w2⟩, w3⟩
        · rw [q4' 28 (by omega), q5' 82 (by omega)]; exact hW.2.2.1
        · rw [q4' 28 (by omega), q5' 82 (by omega)]; exact hW.2.2.2
        · obtain ⟨l, l1, l2, l3⟩ := hY.1
          refine ⟨l, l1, by rw [q4' 0 (by omega)]; exact l2, fun t ht' => ?_⟩
          rw [q4' 38 (by omega), q5' 97 (by omega)]; exact l3 t ht'
        · have := hY.2 t t1 t2
          rw [show (33 : Nat) = 28 + 5 from rfl, r6, upd_n _ _ _ _ (by omega)]
          exact this
        · simp (disch := omega) only [q4', q5', and_self]
        · simp (disch := omega) only [q5', and_self, implies_true]
        · simp (disch := omega) only [q4', q5', and_self]
        · simp (disch := omega) only [q4', q5', and_self]
        · simp (disch := omega) only [q4', q5', and_self]
        · simp (disch := omega) only [q4', q5', q5, and_self]
      · rw [decide_eq_false (by omega), if_pos rfl, if_pos rfl]
        exact ⟨_, _, _, rfl, rfl, R⟩
    · rw [decide_eq_false (by omega), if_pos rfl, if_pos rfl]
      exact ⟨_, _, _, rfl, rfl, R⟩
theorem rr_body {P T N : Nat} {O : Option (List stp)} {Ma Mb : mm} (R : RR P T N O Ma Mb) (a : Int32) : ∃ v Ma' Mb', X10_body a Ma = some (v, Ma') ∧ X11_body a Mb = some (v, Mb') ∧ RR P T N O Ma' Mb' := by
  obtain ⟨v, Ma', Mb', h1, h2, h4⟩ := op_body R.1 a
  obtain ⟨-, -, -, -, -, -, -, -, hA, -⟩ := id R.1
  obtain ⟨b, r, b1, -, b2, b3, -⟩ := hA
  have pa : Ma'.2 = Ma.2 ∧ ∀ k, k < 66 → Ma'.1 k = Ma.1 k := by
    rw [t_body b1 b2] at h1
    split at h1
    · split at h1 <;> cases h1
      · exact ⟨rfl, fun _ _ => rfl⟩
      · refine ⟨rfl, fun k hk => ?_⟩; simp (disch := omega) only [sA_n]
    · cases h1
      exact ⟨rfl, fun _ _ => rfl⟩
  have pb : Mb'.1 82 26 = Mb.1 82 26 ∧ Mb'.1 99 = Mb.1 99 := by
    rw [u_body b1 b3] at h2
    split at h2
    · split at h2 <;> cases h2
      · exact ⟨rfl, rfl⟩
      · constructor <;> simp (disch := omega) only [sA_s, sA_n, upd_n]
    · cases h2
      exact ⟨rfl, rfl⟩
  exact ⟨v, Ma', Mb', h1, h2, RR_lift R h4 (Nat.le_refl _) pa.1 (fun k h _ => pa.2 k (by omega)) (by rw [pa.2 1 (by omega)]) (fun F t _ => cNow_c O F t (pa.2 2 (by omega)) (pa.2 3 (by omega)) (pa.2 5 (by omega)) (pa.2 6 (by omega)) (pa.2 7 (by omega))) pb⟩
theorem rr_paid {P T N : Nat} {O : Option (List stp)} {Ma Mb : mm} (R : RR P T N O Ma Mb) (a : Int32) : ∃ v Ma' Mb', X10_paid a Ma = some (v, Ma') ∧ X11_paid a Mb = some (v, Mb') ∧ RR P T N O Ma' Mb' := by
  obtain ⟨v, h1, h2⟩ := op_paid R.1 a
  exact ⟨v, _, _, h1, h2, R⟩
theorem rr_layer {P T N : Nat} {O : Option (List stp)} {Ma Mb : mm} (R : RR P T N O Ma Mb) (a b : Int32) : ∃ v Ma' Mb', X10_layer a b Ma = some (v, Ma') ∧ X11_layer a b Mb = some (v, Mb') ∧ RR P T N O Ma' Mb' := by
  obtain ⟨v, h1, h2⟩ := op_layer R.1 a b
  exact ⟨v, _, _, h1, h2, R⟩
