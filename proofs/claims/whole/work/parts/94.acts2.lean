/-! ===== the call act: each kind, each act ===== -/
theorem rn {n k y dep : Nat} {a : Int32} {M : mm} (hk : k < 8) (hy : y < 4) : G_X0_run (n + 1) 0 (nI k) (nI y) a (nI dep) M = X0_run_b45 (G_X0_run n) (nI k) (nI y) a (nI dep) (nI (dp k y)) M := by
  show X0_run_B (G_X0_run n) (nI k) (nI y) a (nI dep) M = _
  unfold X0_run_B
  exact l6_all hk hy 9995
theorem h40 {dep : Nat} (h : dep ≤ 40) : ¬ (40 : Int32) < nI dep := by
  rw [q_lt, n_ti (by omega), show (40 : Int32).toInt = 40 from by decide]
  omega
theorem o_1 {rec : Nat → Int32 → Int32 → Int32 → Int32 → mm → Option (Int32 × mm)} {a1 a : Int32} {dep : Nat} {M : mm} (h : dep ≤ 40) : X0_run_b45 rec a1 (nI 0) a (nI dep) (nI 0) M = bd (X0_begin 1 M) fun _ M => some (a + M.1 66 4, M) := by
  unfold X0_run_b45
  rw [if_neg (show ¬ nI 0 < 0 by decide), if_neg (h40 h)]
  rfl
theorem o_10 {rec : Nat → Int32 → Int32 → Int32 → Int32 → mm → Option (Int32 × mm)} {a1 a : Int32} {dep : Nat} {M : mm} (h : dep ≤ 40) : X0_run_b45 rec a1 (nI 1) a (nI dep) (nI 0) M = bd (X0_begin 10 M) fun _ M => bd (rec 0 (M.1 66 5) (nI 0) a (nI dep + 1) M) fun v M => some (v * 2, M) := by
  unfold X0_run_b45
  rw [if_neg (show ¬ nI 0 < 0 by decide), if_neg (h40 h)]
  rfl
theorem o_11 {rec : Nat → Int32 → Int32 → Int32 → Int32 → mm → Option (Int32 × mm)} {a1 a : Int32} {dep : Nat} {M : mm} (h : dep ≤ 40) : X0_run_b45 rec a1 (nI 2) a (nI dep) (nI 0) M = bd (X0_begin 11 M) fun _ M => some (a ^^^ M.1 66 4, M) := by
  unfold X0_run_b45
  rw [if_neg (show ¬ nI 0 < 0 by decide), if_neg (h40 h)]
  rfl
theorem o_2 {rec : Nat → Int32 → Int32 → Int32 → Int32 → mm → Option (Int32 × mm)} {a1 a : Int32} {dep : Nat} {M : mm} (h : dep ≤ 40) : X0_run_b45 rec a1 (nI 3) a (nI dep) (nI 0) M = bd (X0_begin 2 M) fun _ M => bd (rec 0 (M.1 66 5) (nI 1) a (nI dep + 1) M) fun v M => bd (rec 0 (M.1 66 5) (nI 2) 1 (nI dep + 1) M) fun v' M => some (v - v', M) := by
  unfold X0_run_b45
  rw [if_neg (show ¬ nI 0 < 0 by decide), if_neg (h40 h)]
  rfl
theorem o_20 {rec : Nat → Int32 → Int32 → Int32 → Int32 → mm → Option (Int32 × mm)} {a1 a : Int32} {dep : Nat} {M : mm} (h : dep ≤ 40) : X0_run_b45 rec a1 (nI 0) a (nI dep) (nI 1) M = bd (X0_begin 20 M) fun _ M => bd (rec 0 (nI 0) (nI 0) a (nI dep + 1) M) fun v M => some (v + 3, M) := by
  unfold X0_run_b45
  rw [if_neg (show ¬ nI 1 < 0 by decide), if_neg (h40 h)]
  rfl
theorem o_30 {rec : Nat → Int32 → Int32 → Int32 → Int32 → mm → Option (Int32 × mm)} {a1 a : Int32} {dep : Nat} {M : mm} (h : dep ≤ 40) : X0_run_b45 rec a1 (nI 1) a (nI dep) (nI 2) M = bd (X0_begin 30 M) fun _ M => bd (rec 0 (nI 0) (nI 1) a (nI dep + 1) M) fun v M => some (-v, M) := by
  unfold X0_run_b45
  rw [if_neg (show ¬ nI 2 < 0 by decide), if_neg (h40 h)]
  rfl
theorem o_40 {rec : Nat → Int32 → Int32 → Int32 → Int32 → mm → Option (Int32 × mm)} {a1 a : Int32} {dep : Nat} {M : mm} (h : dep ≤ 40) : X0_run_b45 rec a1 (nI 2) a (nI dep) (nI 3) M = bd (X0_begin 40 M) fun _ M => bd (rec 0 (nI 2) (nI 2) a (nI dep + 1) M) fun v M => some (v * 3, M) := by
  unfold X0_run_b45
  rw [if_neg (show ¬ nI 3 < 0 by decide), if_neg (h40 h)]
  rfl
theorem o_41 {rec : Nat → Int32 → Int32 → Int32 → Int32 → mm → Option (Int32 × mm)} {a1 a : Int32} {dep : Nat} {M : mm} (h : dep ≤ 40) : X0_run_b45 rec a1 (nI 1) a (nI dep) (nI 3) M = bd (X0_begin 41 M) fun _ M => bd (rec 0 (nI 2) (nI 1) (a + 1) (nI dep + 1) M) fun v M => some (v, M) := by
  unfold X0_run_b45
  rw [if_neg (show ¬ nI 3 < 0 by decide), if_neg (h40 h)]
  rfl
theorem o_50 {rec : Nat → Int32 → Int32 → Int32 → Int32 → mm → Option (Int32 × mm)} {a1 a : Int32} {dep : Nat} {M : mm} (h : dep ≤ 40) : X0_run_b45 rec a1 (nI 2) a (nI dep) (nI 4) M = bd (X0_begin 50 M) fun _ M => bd (rec 0 (nI 1) (nI 2) a (nI dep + 1) M) fun v M => bd (rec 0 (M.1 66 5) (nI 0) 2 (nI dep + 1) M) fun v' M => some (v - v', M) := by
  unfold X0_run_b45
  rw [if_neg (show ¬ nI 4 < 0 by decide), if_neg (h40 h)]
  rfl
theorem o_60 {rec : Nat → Int32 → Int32 → Int32 → Int32 → mm → Option (Int32 × mm)} {a1 a : Int32} {dep : Nat} {M : mm} (h : dep ≤ 40) : X0_run_b45 rec a1 (nI 3) a (nI dep) (nI 5) M = bd (X0_begin 60 M) fun _ M => bd (rec 0 (nI 3) (nI 3) a (nI dep + 1) M) fun v M => some (v ^^^ 5, M) := by
  unfold X0_run_b45
  rw [if_neg (show ¬ nI 5 < 0 by decide), if_neg (h40 h)]
  rfl
theorem o_70 {rec : Nat → Int32 → Int32 → Int32 → Int32 → mm → Option (Int32 × mm)} {a1 a : Int32} {dep : Nat} {M : mm} (h : dep ≤ 40) : X0_run_b45 rec a1 (nI 0) a (nI dep) (nI 6) M = bd (X0_begin 70 M) fun _ M => bd (rec 0 (nI 0) (nI 0) a (nI dep + 1) M) fun v M => some (v * 2, M) := by
  unfold X0_run_b45
  rw [if_neg (show ¬ nI 6 < 0 by decide), if_neg (h40 h)]
  rfl
theorem o_80 {rec : Nat → Int32 → Int32 → Int32 → Int32 → mm → Option (Int32 × mm)} {a1 a : Int32} {dep : Nat} {M : mm} (h : dep ≤ 40) : X0_run_b45 rec a1 (nI 1) a (nI dep) (nI 7) M = bd (X0_begin 80 M) fun _ M => bd (rec 0 (nI 4) (nI 1) a (nI dep + 1) M) fun v M => bd (rec 0 (M.1 66 5) (nI 2) 2 (nI dep + 1) M) fun v' M => some (v + v', M) := by
  unfold X0_run_b45
  rw [if_neg (show ¬ nI 7 < 0 by decide), if_neg (h40 h)]
  rfl
theorem o_81 {rec : Nat → Int32 → Int32 → Int32 → Int32 → mm → Option (Int32 × mm)} {a1 a : Int32} {dep : Nat} {M : mm} (h : dep ≤ 40) : X0_run_b45 rec a1 (nI 3) a (nI dep) (nI 7) M = bd (X0_begin 81 M) fun _ M => bd (rec 0 (nI 4) (nI 3) a (nI dep + 1) M) fun v M => some (v - 1, M) := by
  unfold X0_run_b45
  rw [if_neg (show ¬ nI 7 < 0 by decide), if_neg (h40 h)]
  rfl
theorem Ag_e {c k0 b : Nat} {X Y X' Y' : mm → Option (Int32 × mm)} (h : Ag c k0 b X Y) (hX : ∀ M, X' M = X M) (hY : ∀ M, Y' M = Y M) : Ag c k0 b X' Y' := by
  rw [show X' = X from funext hX, show Y' = Y from funext hY]
  exact h
theorem RTr_b {k0 b r : Nat} {Ma Mb : mm} (R : RTr k0 b r Ma Mb) : Ma.1 66 4 = Mb.1 82 58 := R.2.2.2.2.2.1.trans R.2.2.2.2.2.2.1.symm
theorem lM_0 {k0 b n n' k dep : Nat} {a : Int32} (hk : k < 8) (h : dp k 0 = 0) (hd : dep ≤ 40) : Ag 1 k0 b (fun M => G_X0_run (n + 1) 0 (nI k) (nI 0) a (nI dep) M) (fun M => G_X11_mendsAs (n' + 1) 0 (nI k) a M) := by
  refine Ag_e (Ag_0 (q := 1) (f := fun M => a + M.1 66 4) (g := fun M => a + M.1 82 58) fun r Ma Mb R => by simp only [RTr_b R]) (fun M => (rn hk (by decide)).trans (by rw [h]; exact o_1 hd)) (fun M => ?_)
  have e1 : k = 0 ∨ k = 1 ∨ k = 2 ∨ k = 3 ∨ k = 4 ∨ k = 5 ∨ k = 6 ∨ k = 7 := by omega
  rcases e1 with rfl | rfl | rfl | rfl | rfl | rfl | rfl | rfl <;> first | rfl | (exfalso; revert h; decide)
theorem lM {k0 b n n' k dep : Nat} {a : Int32} (hk : k < 8) (hd : dep ≤ 39) : Ag 2 k0 b (fun M => G_X0_run (n + 1 + 1) 0 (nI k) (nI 0) a (nI dep) M) (fun M => G_X11_mendsAs (n' + 1 + 1) 0 (nI k) a M) := by
  have z : ∀ k, k < 8 → dp k 0 = 0 → Ag 2 k0 b (fun M => G_X0_run (n + 1 + 1) 0 (nI k) (nI 0) a (nI dep) M) (fun M => G_X11_mendsAs (n' + 1 + 1) 0 (nI k) a M) := fun k h1 h2 => Ag_m (lM_0 h1 h2 (by omega)) (by omega)
  have w := lM_0 (k0 := k0) (b := b) (n := n) (n' := n') (k := 0) (a := a) (dep := dep + 1) (by decide) rfl (by omega)
  have e1 : k = 0 ∨ k = 1 ∨ k = 2 ∨ k = 3 ∨ k = 4 ∨ k = 5 ∨ k = 6 ∨ k = 7 := by omega
  have v20 : ∀ k, k < 8 → dp k 0 = 1 → (∀ M, G_X11_mendsAs (n' + 1 + 1) 0 (nI k) a M = bd (X11_begins 20 M) fun _ M => bd (G_X11_mendsAs (n' + 1) 0 (nI 0) a M) fun v M => some (v + 3, M)) → Ag 2 k0 b (fun M => G_X0_run (n + 1 + 1) 0 (nI k) (nI 0) a (nI dep) M) (fun M => G_X11_mendsAs (n' + 1 + 1) 0 (nI k) a M) := fun k h1 h2 h3 => Ag_e (Ag_1 (q := 20) (f := fun v => v + 3) w) (fun M => (rn h1 (by decide)).trans (by rw [h2, o_20 (by omega), nI_1])) h3
  rcases e1 with rfl | rfl | rfl | rfl | rfl | rfl | rfl | rfl
  · exact z 0 (by decide) rfl
  · exact v20 1 (by decide) rfl fun _ => rfl
  · exact z 2 (by decide) rfl
  · exact z 3 (by decide) rfl
  · exact v20 4 (by decide) rfl fun _ => rfl
  · exact z 5 (by decide) rfl
  · exact Ag_e (Ag_1 (q := 70) (f := fun v => v * 2) w) (fun M => (rn (by decide) (by decide)).trans (by rw [show dp 6 0 = 6 from rfl, o_70 (by omega), nI_1])) (fun _ => rfl)
  · exact v20 7 (by decide) rfl fun _ => rfl
