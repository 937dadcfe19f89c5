/-! ===== the call law, over the whole relation ===== -/
theorem RC_law {P T N : Nat} {Ma Mb Ma' Mb' : mm} (R : RC P T N Ma Mb) (ea : ∀ k, (k = 0 ∨ (2 ≤ k ∧ k ≤ 8) ∨ 21 ≤ k) → Ma'.1 k = Ma.1 k) (e1 : ∀ j, j ≠ 4 → Ma'.1 1 j = Ma.1 1 j) (e2 : Ma'.2.1 = Ma.2.1) (e9 : Ma'.1 9 0 = 0) (eV : ∃ V, 1 ≤ V ∧ V ≤ N + 1 ∧ Ma'.1 1 4 = nI V) (eb : LwB Mb Mb') : RC P T (N + 1) Ma' Mb' := by
  obtain ⟨hF, hP, hT, hW, hY, hI, hC, hTa, hA, hS⟩ := R
  obtain ⟨f1, f2, f3, f4, f5, f6, f7, f8, -⟩ := id hF
  obtain ⟨b1, b2, b3, b4⟩ := eb
  refine ⟨⟨f1, f2, ?_, ?_, ?_, ?_, ?_, ?_, eV⟩, rP_c hP ?_ f1 ?_, rT_c hT (Nat.le_refl _) ?_ ?_, rW_c hW (Nat.le_refl _) ?_ ?_, rY_c hY ?_, rI_c hI (Nat.le_refl _) (Nat.le_refl _) ?_ ?_, rC_c hC (Nat.le_refl _) (Nat.le_refl _) ?_, ⟨0, by omega, e9, b3, fun i hi => by omega⟩, rA_c hA ?_, rS_c hS ?_ fun d hd => ⟨ea _ (by omega), by rw [e2]⟩⟩
  all_goals simp (disch := omega) only [ea, e1, b1, b2, b4, and_self, implies_true]
  all_goals assumption
theorem op_law {P T N : Nat} {O : Option (List stp)} {Ma Mb : mm} (hN : N ≤ 600) (R : RR P T N O Ma Mb) : ∃ v Ma' Mb' O', X10_law Ma = some (v, Ma') ∧ X11_law Mb = some (v, Mb') ∧ RR P T (N + 1) O' Ma' Mb' := by
  obtain ⟨RC0, hL, hB, hM⟩ := id R
  obtain ⟨hF, -, -, -, -, -, -, hTa, -, -⟩ := id RC0
  obtain ⟨-, -, -, -, -, -, -, -, V, V1, V2, V3⟩ := id hF
  obtain ⟨n, n1, n2, n3, n4⟩ := hTa
  have gA := w_becomeTape n1 n2
  have gB := w_lawB n1 n3
  rw [← pT_congr n4 (n + 1) 0] at gB
  have ref : ∀ Ma', LwA Ma Ma' → RefOK Ma' := fun Ma' h => by
    have := hL.2.2
    unfold RefOK at this ⊢
    rw [h.2.2.2 1 (by decide), h.2.2.2 2 (by decide)]
    exact this
  unfold X10_law
  rcases hq : pT (Ma.1 10) n (n + 1) 0 with ⟨_ | R', q⟩
  · rw [hq] at gA gB
    obtain ⟨q1, Ma', a1, a2, a3⟩ := gA
    obtain ⟨-, Mb', b1, b2, b3, b4⟩ := gB
    have c := a2.1
    have c1 : Ma'.1 1 = Ma.1 1 := c 1 (by decide)
    have neg : ¬ nI q < 0 := by rw [q_lt, n_ti (by omega), z32_0]; omega
    rw [a1, bd_s, if_neg neg]
    refine ⟨_, Ma', Mb', O, rfl, b1, RC_law RC0 (fun k hk => c k (by simp; omega)) (fun j _ => by rw [c1]) a2.2.1 a2.2.2.1 ⟨V, V1, by omega, by rw [c1]; exact V3⟩ b2, ⟨lawA_X hL.1 ⟨a3 16 (by decide), a3 17 (by decide), a3 18 (by decide)⟩, fun t s a l k1 k2 k3 k4 k5 => ?_, ref Ma' a2⟩, lawB_N hB ⟨b3, b4⟩, rM_N (rM_c hM (Nat.le_refl _) (by rw [c1]) (by rw [a2.2.1]) (fun F t _ => cNow_c O F t (c 2 (by decide)) (c 3 (by decide)) (c 5 (by decide)) (c 6 (by decide)) (c 7 (by decide))))⟩
    rw [a3 20 (by decide)]
    exact hL.2.1 t s a l k1 k2 k3 k4 k5
  · rw [hq] at gA gB
    obtain ⟨Ma', a1, a2, a3, a4⟩ := gA
    obtain ⟨Mb', b1, b2, b3⟩ := gB
    have c := a2.1
    have c1 : Ma'.1 1 = Ma.1 1 := c 1 (by decide)
    rw [a1, bd_s, if_pos (by decide), lt_s_, c1, V3, nI_1]
    have d : ∀ k, k ≠ 1 → (sA Ma' 1 (upd (Ma.1 1) 4 (nI (V + 1)))).1 k = Ma'.1 k := fun k hk => sA_n _ _ _ _ hk
    refine ⟨_, sA Ma' 1 (upd (Ma.1 1) 4 (nI (V + 1))), Mb', some R', rfl, b1, RC_law RC0 (fun k hk => by rw [d k (by omega)]; exact c k (by simp; omega)) (fun j hj => by rw [sA_s, upd_n _ _ _ _ hj]) a2.2.1 (by rw [d 9 (by decide)]; exact a2.2.2.1) ⟨V + 1, by omega, by omega, by rw [sA_s, upd_s]⟩ b2, ⟨lawA_X a3 ⟨d 16 (by decide), d 17 (by decide), d 18 (by decide)⟩, fun t s a l k1 k2 k3 k4 k5 => ?_, ref Ma' a2⟩, b3, rM_new hM V3 ⟨by omega, by omega⟩ (by rw [sA_s, upd_s]) (by show Ma'.2.1 26 = _; rw [a2.2.1])⟩
    rw [d 20 (by decide)]
    exact a4 t s a l k1 k2 k3 k4 k5
