/-! ===== one memory for both sides ===== -/
/-- what the relation reads of the first memory; of the second -/
def LoE (M M' : mm) : Prop := (∀ k, k < 82 → M'.1 k = M.1 k ∧ M'.2.1 k = M.2.1 k) ∧ RefOK M'
def HiE (M M' : mm) : Prop := ∀ k, 82 ≤ k → M'.1 k = M.1 k ∧ M'.2.1 k = M.2.1 k
theorem RR_cong {P T N : Nat} {O : Option (List stp)} {Ma Mb Ma' Mb' : mm} (R : RR P T N O Ma Mb) (a : LoE Ma Ma') (b : HiE Mb Mb') : RR P T N O Ma' Mb' := by
  obtain ⟨⟨hF, hP, hT, hW, hY, hI, hC, hTa, hA, hS⟩, hL, hB, hM⟩ := R
  have f1 := hF.1
  have ea : ∀ k, k < 82 → Ma'.1 k = Ma.1 k := fun k hk => (a.1 k hk).1
  have ea2 : ∀ k, k < 82 → Ma'.2.1 k = Ma.2.1 k := fun k hk => (a.1 k hk).2
  have eb : ∀ k, 82 ≤ k → Mb'.1 k = Mb.1 k := fun k hk => (b k hk).1
  have eb2 : ∀ k, 82 ≤ k → Mb'.2.1 k = Mb.2.1 k := fun k hk => (b k hk).2
  refine ⟨⟨rF_c hF (Nat.le_refl _) ?_, rP_c hP ?_ f1 (fun i _ => by rw [eb 83 (by omega)]), rT_c hT (Nat.le_refl _) ?_ (fun i _ => by rw [eb 83 (by omega)]), rW_c hW (Nat.le_refl _) ?_ ?_, rY_c hY ?_, rI_c hI (Nat.le_refl _) (Nat.le_refl _) ?_ ?_, rC_c hC (Nat.le_refl _) (Nat.le_refl _) ?_, rTa_c hTa ?_, rA_c hA ?_, rS_c hS ?_ fun d hd => ⟨ea _ (by omega), ea2 _ (by omega)⟩⟩, ⟨lawA_X hL.1 ⟨ea 16 (by omega), ea 17 (by omega), ea 18 (by omega)⟩, fun t s a l k1 k2 k3 k4 k5 => by rw [ea 20 (by omega)]; exact hL.2.1 t s a l k1 k2 k3 k4 k5, a.2⟩, lawB_N hB ⟨by rw [eb 82 (by omega)], eb 99 (by omega)⟩, rM_c hM (Nat.le_refl _) (by rw [ea 1 (by omega)]) (ea2 26 (by omega)) (fun F t _ => cNow_c O F t (ea 2 (by omega)) (ea 3 (by omega)) (ea 5 (by omega)) (ea 6 (by omega)) (ea 7 (by omega)))⟩
  all_goals simp (disch := omega) only [ea, eb, eb2, and_self, implies_true]
/-- the two calls, one after the other, in one memory -/
theorem one_step {α : Type} {P T N P' T' N' : Nat} {O O' : Option (List stp)} {X Y : mm → Option (α × mm)} {M : mm} (Sa Sb : Nat → Bool) (ha : ∀ k, 82 ≤ k → Sa k = false) (hb : ∀ k, k < 82 → Sb k = false) (fX : ∀ M, RefOK M → Fr Sa M (X M)) (fY : ∀ M, RefOK M → Fr Sb M (Y M)) (R : RR P T N O M M) (op : ∀ Mb, RR P T N O M Mb → ∃ v Ma' Mb', X M = some (v, Ma') ∧ Y Mb = some (v, Mb') ∧ ∃ P' T' N' O', N' ≤ N + 1 ∧ RR P' T' N' O' Ma' Mb') : ∃ v M1 M2, X M = some (v, M1) ∧ Y M1 = some (v, M2) ∧ ∃ P' T' N' O', N' ≤ N + 1 ∧ RR P' T' N' O' M2 M2 := by
  obtain ⟨v, M1, -, x1, -⟩ := op M R
  have hx := (fX M R.2.1.2.2).1 v M1 x1
  obtain ⟨v', M1', M2, x2, y2, P', T', N', O', hN, R'⟩ := op M1 (RR_cong R ⟨fun _ _ => ⟨rfl, rfl⟩, R.2.1.2.2⟩ fun k hk => hx.1 k (ha k hk))
  have he : v = v' ∧ M1 = M1' := by
    rw [x1] at x2
    injection x2 with x2
    injection x2 with q1 q2
    exact ⟨q1, q2⟩
  obtain ⟨rfl, rfl⟩ := he
  have hy := (fY M1 hx.2).1 v M2 y2
  exact ⟨v, M1, M2, x1, y2, P', T', N', O', hN, RR_cong R' ⟨fun k hk => hy.1 k (hb k hk), hy.2⟩ fun _ _ => ⟨rfl, rfl⟩⟩
