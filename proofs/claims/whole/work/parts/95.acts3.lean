/-! ===== the call act: leaving, paying, telling ===== -/
theorem lL_0 {k0 b n n' k dep : Nat} {a : Int32} (hk : k < 8) (h : dp k 2 = 0) (hd : dep ≤ 40) : Ag 1 k0 b (fun M => G_X0_run (n + 1) 0 (nI k) (nI 2) a (nI dep) M) (fun M => G_X11_leavesAs (n' + 1) 0 (nI k) a M) := by
  refine Ag_e (Ag_0 (q := 11) (f := fun M => a ^^^ M.1 66 4) (g := fun M => a ^^^ M.1 82 58) fun r Ma Mb R => by simp only [RTr_b R]) (fun M => (rn hk (by decide)).trans (by rw [h]; exact o_11 hd)) (fun M => ?_)
  have e1 : k = 0 ∨ k = 1 ∨ k = 2 ∨ k = 3 ∨ k = 4 ∨ k = 5 ∨ k = 6 ∨ k = 7 := by omega
  rcases e1 with rfl | rfl | rfl | rfl | rfl | rfl | rfl | rfl <;> first | rfl | (exfalso; revert h; decide)
theorem lL {k0 b n n' k dep : Nat} {a : Int32} (h0 : k0 < 8) (hk : k < 8) (hd : dep ≤ 38) : Ag 4 k0 b (fun M => G_X0_run (n + 1 + 1 + 1) 0 (nI k) (nI 2) a (nI dep) M) (fun M => G_X11_leavesAs (n' + 1 + 1) 0 (nI k) a M) := by
  have z : ∀ k, k < 8 → dp k 2 = 0 → Ag 4 k0 b (fun M => G_X0_run (n + 1 + 1 + 1) 0 (nI k) (nI 2) a (nI dep) M) (fun M => G_X11_leavesAs (n' + 1 + 1) 0 (nI k) a M) := fun k h1 h2 => Ag_m (lL_0 h1 h2 (by omega)) (by omega)
  have w : ∀ j, j < 8 → dp j 2 = 0 → Ag 1 k0 b (fun M => G_X0_run (n + 1 + 1) 0 (nI j) (nI 2) a (nI (dep + 1)) M) (fun M => G_X11_leavesAs (n' + 1) 0 (nI j) a M) := fun j h1 h2 => lL_0 h1 h2 (by omega)
  have mo : Ag 2 k0 b (fun M => G_X0_run (n + 1 + 1) 0 (M.1 66 5) (nI 0) 2 (nI (dep + 1)) M) (fun M => X11_mendsAs (M.1 82 57) 2 M) := Ag_k (X := fun κ M => G_X0_run (n + 1 + 1) 0 κ (nI 0) 2 (nI (dep + 1)) M) (Y := fun κ M => X11_mendsAs κ 2 M) (lM (n' := 18) h0 (by omega))
  have v40 : ∀ k, k < 8 → dp k 2 = 3 → (∀ M, G_X11_leavesAs (n' + 1 + 1) 0 (nI k) a M = bd (X11_begins 40 M) fun _ M => bd (G_X11_leavesAs (n' + 1) 0 (nI 2) a M) fun v M => some (v * 3, M)) → Ag 4 k0 b (fun M => G_X0_run (n + 1 + 1 + 1) 0 (nI k) (nI 2) a (nI dep) M) (fun M => G_X11_leavesAs (n' + 1 + 1) 0 (nI k) a M) := fun k h1 h2 h3 => Ag_e (Ag_m (Ag_1 (q := 40) (f := fun v => v * 3) (w 2 (by decide) rfl)) (by omega)) (fun M => (rn h1 (by decide)).trans (by rw [h2, o_40 (by omega), nI_1])) h3
  have v50 : ∀ k, k < 8 → dp k 2 = 4 → (∀ M, G_X11_leavesAs (n' + 1 + 1) 0 (nI k) a M = bd (X11_begins 50 M) fun _ M => bd (G_X11_leavesAs (n' + 1) 0 (nI 1) a M) fun v M => bd (X11_mendsAs (M.1 82 57) 2 M) fun v' M => some (v - v', M)) → Ag 4 k0 b (fun M => G_X0_run (n + 1 + 1 + 1) 0 (nI k) (nI 2) a (nI dep) M) (fun M => G_X11_leavesAs (n' + 1 + 1) 0 (nI k) a M) := fun k h1 h2 h3 => Ag_e (Ag_2 (q := 50) (f := fun v v' => v - v') (w 1 (by decide) rfl) mo) (fun M => (rn h1 (by decide)).trans (by rw [h2, o_50 (by omega), nI_1])) h3
  have e1 : k = 0 ∨ k = 1 ∨ k = 2 ∨ k = 3 ∨ k = 4 ∨ k = 5 ∨ k = 6 ∨ k = 7 := by omega
  rcases e1 with rfl | rfl | rfl | rfl | rfl | rfl | rfl | rfl
  · exact z 0 (by decide) rfl
  · exact z 1 (by decide) rfl
  · exact z 2 (by decide) rfl
  · exact v40 3 (by decide) rfl fun _ => rfl
  · exact v50 4 (by decide) rfl fun _ => rfl
  · exact v40 5 (by decide) rfl fun _ => rfl
  · exact z 6 (by decide) rfl
  · exact v50 7 (by decide) rfl fun _ => rfl
theorem lP_0 {k0 b n n' k dep : Nat} {a : Int32} (h0 : k0 < 8) (hk : k < 8) (h : dp k 1 = 0) (hd : dep ≤ 38) : Ag 3 k0 b (fun M => G_X0_run (n + 1 + 1 + 1) 0 (nI k) (nI 1) a (nI dep) M) (fun M => G_X11_paysAs (n' + 1) 0 (nI k) a M) := by
  have mo : Ag 2 k0 b (fun M => G_X0_run (n + 1 + 1) 0 (M.1 66 5) (nI 0) a (nI (dep + 1)) M) (fun M => X11_mendsAs (M.1 82 57) a M) := Ag_k (X := fun κ M => G_X0_run (n + 1 + 1) 0 κ (nI 0) a (nI (dep + 1)) M) (Y := fun κ M => X11_mendsAs κ a M) (lM (n' := 18) h0 (by omega))
  refine Ag_e (Ag_1 (q := 10) (f := fun v => v * 2) mo) (fun M => (rn hk (by decide)).trans (by rw [h, o_10 (by omega), nI_1])) (fun M => ?_)
  have e1 : k = 0 ∨ k = 1 ∨ k = 2 ∨ k = 3 ∨ k = 4 ∨ k = 5 ∨ k = 6 ∨ k = 7 := by omega
  rcases e1 with rfl | rfl | rfl | rfl | rfl | rfl | rfl | rfl <;> first | rfl | (exfalso; revert h; decide)
theorem lP_2 {k0 b n n' dep : Nat} {a : Int32} (h0 : k0 < 8) (hd : dep ≤ 37) : Ag 4 k0 b (fun M => G_X0_run (n + 1 + 1 + 1 + 1) 0 (nI 2) (nI 1) a (nI dep) M) (fun M => G_X11_paysAs (n' + 1 + 1) 0 (nI 2) a M) :=
  Ag_e (Ag_1 (q := 30) (f := fun v => -v) (lP_0 (k := 0) (n := n) (n' := n') (dep := dep + 1) (a := a) h0 (by decide) rfl (by omega))) (fun M => (rn (by decide) (by decide)).trans (by rw [show dp 2 1 = 2 from rfl, o_30 (by omega), nI_1])) (fun _ => rfl)
theorem lP {k0 b n n' k dep : Nat} {a : Int32} (h0 : k0 < 8) (hk : k < 8) (hd : dep ≤ 36) : Ag 8 k0 b (fun M => G_X0_run (n + 1 + 1 + 1 + 1 + 1) 0 (nI k) (nI 1) a (nI dep) M) (fun M => G_X11_paysAs (n' + 1 + 1 + 1) 0 (nI k) a M) := by
  have z : ∀ k, k < 8 → dp k 1 = 0 → Ag 8 k0 b (fun M => G_X0_run (n + 1 + 1 + 1 + 1 + 1) 0 (nI k) (nI 1) a (nI dep) M) (fun M => G_X11_paysAs (n' + 1 + 1 + 1) 0 (nI k) a M) := fun k h1 h2 => Ag_m (lP_0 h0 h1 h2 (by omega)) (by omega)
  have lo : Ag 4 k0 b (fun M => G_X0_run (n + 1 + 1 + 1 + 1) 0 (M.1 66 5) (nI 2) 2 (nI (dep + 1)) M) (fun M => X11_leavesAs (M.1 82 57) 2 M) := Ag_k (X := fun κ M => G_X0_run (n + 1 + 1 + 1 + 1) 0 κ (nI 2) 2 (nI (dep + 1)) M) (Y := fun κ M => X11_leavesAs κ 2 M) (lL (n' := 18) h0 h0 (by omega))
  have v41 : ∀ k, k < 8 → dp k 1 = 3 → (∀ M, G_X11_paysAs (n' + 1 + 1 + 1) 0 (nI k) a M = bd (X11_begins 41 M) fun _ M => bd (G_X11_paysAs (n' + 1 + 1) 0 (nI 2) (a + 1) M) fun v M => some (v, M)) → Ag 8 k0 b (fun M => G_X0_run (n + 1 + 1 + 1 + 1 + 1) 0 (nI k) (nI 1) a (nI dep) M) (fun M => G_X11_paysAs (n' + 1 + 1 + 1) 0 (nI k) a M) := fun k h1 h2 h3 => Ag_e (Ag_m (Ag_1 (q := 41) (f := fun v => v) (lP_2 (n := n) (n' := n') (a := a + 1) (dep := dep + 1) h0 (by omega))) (by omega)) (fun M => (rn h1 (by decide)).trans (by rw [h2, o_41 (by omega), nI_1])) h3
  have e1 : k = 0 ∨ k = 1 ∨ k = 2 ∨ k = 3 ∨ k = 4 ∨ k = 5 ∨ k = 6 ∨ k = 7 := by omega
  rcases e1 with rfl | rfl | rfl | rfl | rfl | rfl | rfl | rfl
  · exact z 0 (by decide) rfl
  · exact z 1 (by decide) rfl
  · exact Ag_m (lP_2 h0 (by omega)) (by omega)
  · exact v41 3 (by decide) rfl fun _ => rfl
  · exact z 4 (by decide) rfl
  · exact v41 5 (by decide) rfl fun _ => rfl
  · exact z 6 (by decide) rfl
  · exact Ag_e (Ag_2 (q := 80) (f := fun v v' => v + v') (lP_0 (n := n + 1) (n' := n' + 1) (k := 4) (a := a) (dep := dep + 1) h0 (by decide) rfl (by omega)) lo) (fun M => (rn (by decide) (by decide)).trans (by rw [show dp 7 1 = 7 from rfl, o_80 (by omega), nI_1])) (fun _ => rfl)
theorem lT_0 {k0 b n n' k dep : Nat} {a : Int32} (h0 : k0 < 8) (hk : k < 8) (h : dp k 3 = 0) (hd : dep ≤ 35) : Ag 13 k0 b (fun M => G_X0_run (n + 1 + 1 + 1 + 1 + 1 + 1) 0 (nI k) (nI 3) a (nI dep) M) (fun M => G_X11_tellsAs (n' + 1) 0 (nI k) a M) := by
  have po : Ag 8 k0 b (fun M => G_X0_run (n + 1 + 1 + 1 + 1 + 1) 0 (M.1 66 5) (nI 1) a (nI (dep + 1)) M) (fun M => X11_paysAs (M.1 82 57) a M) := Ag_k (X := fun κ M => G_X0_run (n + 1 + 1 + 1 + 1 + 1) 0 κ (nI 1) a (nI (dep + 1)) M) (Y := fun κ M => X11_paysAs κ a M) (lP (n' := 17) h0 h0 (by omega))
  have lo : Ag 4 k0 b (fun M => G_X0_run (n + 1 + 1 + 1 + 1 + 1) 0 (M.1 66 5) (nI 2) 1 (nI (dep + 1)) M) (fun M => X11_leavesAs (M.1 82 57) 1 M) := Ag_k (X := fun κ M => G_X0_run (n + 1 + 1 + 1 + 1 + 1) 0 κ (nI 2) 1 (nI (dep + 1)) M) (Y := fun κ M => X11_leavesAs κ 1 M) (lL (n' := 18) h0 h0 (by omega))
  refine Ag_e (Ag_2 (q := 2) (f := fun v v' => v - v') po lo) (fun M => (rn hk (by decide)).trans (by rw [h, o_2 (by omega), nI_1])) (fun M => ?_)
  have e1 : k = 0 ∨ k = 1 ∨ k = 2 ∨ k = 3 ∨ k = 4 ∨ k = 5 ∨ k = 6 ∨ k = 7 := by omega
  rcases e1 with rfl | rfl | rfl | rfl | rfl | rfl | rfl | rfl <;> first | rfl | (exfalso; revert h; decide)
theorem lT {k0 b n n' k dep : Nat} {a : Int32} (h0 : k0 < 8) (hk : k < 8) (hd : dep ≤ 34) : Ag 14 k0 b (fun M => G_X0_run (n + 1 + 1 + 1 + 1 + 1 + 1 + 1) 0 (nI k) (nI 3) a (nI dep) M) (fun M => G_X11_tellsAs (n' + 1 + 1) 0 (nI k) a M) := by
  have z : ∀ k, k < 8 → dp k 3 = 0 → Ag 14 k0 b (fun M => G_X0_run (n + 1 + 1 + 1 + 1 + 1 + 1 + 1) 0 (nI k) (nI 3) a (nI dep) M) (fun M => G_X11_tellsAs (n' + 1 + 1) 0 (nI k) a M) := fun k h1 h2 => Ag_m (lT_0 h0 h1 h2 (by omega)) (by omega)
  have e1 : k = 0 ∨ k = 1 ∨ k = 2 ∨ k = 3 ∨ k = 4 ∨ k = 5 ∨ k = 6 ∨ k = 7 := by omega
  rcases e1 with rfl | rfl | rfl | rfl | rfl | rfl | rfl | rfl
  · exact z 0 (by decide) rfl
  · exact z 1 (by decide) rfl
  · exact z 2 (by decide) rfl
  · exact z 3 (by decide) rfl
  · exact z 4 (by decide) rfl
  · exact Ag_e (Ag_1 (q := 60) (f := fun v => v ^^^ 5) (lT_0 (n := n) (n' := n') (k := 3) (a := a) (dep := dep + 1) h0 (by decide) rfl (by omega))) (fun M => (rn (by decide) (by decide)).trans (by rw [show dp 5 3 = 5 from rfl, o_60 (by omega), nI_1])) (fun _ => rfl)
  · exact z 6 (by decide) rfl
  · exact Ag_e (Ag_1 (q := 81) (f := fun v => v - 1) (lT_0 (n := n) (n' := n') (k := 4) (a := a) (dep := dep + 1) h0 (by decide) rfl (by omega))) (fun M => (rn (by decide) (by decide)).trans (by rw [show dp 7 3 = 7 from rfl, o_81 (by omega), nI_1])) (fun _ => rfl)
/-- any act -/
theorem w_act {k0 b y : Nat} {a : Int32} (h0 : k0 < 8) (hy : y < 4) : Ag 14 k0 b (fun M => X0_run (nI k0) (nI y) a 0 M) (fun M => if y = 0 then X11_mendsAs (nI k0) a M else if y = 1 then X11_paysAs (nI k0) a M else if y = 2 then X11_leavesAs (nI k0) a M else X11_tellsAs (nI k0) a M) := by
  match y, hy with
  | 0, _ => exact Ag_m (lM (n := 58) (n' := 18) (dep := 0) (a := a) h0 (by omega)) (by omega)
  | 1, _ => exact Ag_m (lP (n := 55) (n' := 17) (dep := 0) (a := a) h0 h0 (by omega)) (by omega)
  | 2, _ => exact Ag_m (lL (n := 57) (n' := 18) (dep := 0) (a := a) h0 h0 (by omega)) (by omega)
  | 3, _ => exact lT (n := 53) (n' := 18) (dep := 0) (a := a) h0 h0 (by omega)
