/-! ===== the call act ===== -/
def supN (x : Nat) : Nat := [0, 0, 0, 2, 1, 3, 0, 4].getD x 0
def dp (k y : Nat) : Nat := [0, 0, 0, 0, 1, 0, 0, 0, 0, 2, 0, 0, 0, 3, 3, 0, 1, 0, 4, 0, 0, 3, 3, 5, 6, 0, 0, 0, 1, 7, 4, 7].getD (4 * k + y) 0
theorem l6_s {rec : Nat → Int32 → Int32 → Int32 → Int32 → mm → Option (Int32 × mm)} {a1 a3 a4 : Int32} {K : Int32 → mm → Option (Int32 × mm)} {n x y j : Nat} {M : mm} (hx : x < 8) (hy : y < 4) (hj : j < 8) (h : ¬ sOB (4 * x + y) = 0) : X0_run_L6 rec a1 (nI y) a3 a4 K (n + 1) (nI x) (nI j) M = K (nI x) M := by
  rw [X0_run_L6, show (8 : Int32) = nI 8 from rfl, i_ltP (by omega) (by omega), if_pos hj, if_neg (neg0 (by omega)), show (4 : Int32) = nI 4 from rfl, n_mul, n_add, Nat.mul_comm, n_inb (by omega) (by omega), gd_t, n_cl (by omega), if_neg h]
theorem l6_n {rec : Nat → Int32 → Int32 → Int32 → Int32 → mm → Option (Int32 × mm)} {a1 a3 a4 : Int32} {K : Int32 → mm → Option (Int32 × mm)} {n x y j : Nat} {M : mm} (hx : x < 8) (hy : y < 4) (hj : j < 8) (h : sOB (4 * x + y) = 0) (hs : sAB x = nI (supN x)) : X0_run_L6 rec a1 (nI y) a3 a4 K (n + 1) (nI x) (nI j) M = X0_run_L6 rec a1 (nI y) a3 a4 K n (nI (supN x)) (nI (j + 1)) M := by
  rw [X0_run_L6, show (8 : Int32) = nI 8 from rfl, i_ltP (by omega) (by omega), if_pos hj, if_neg (neg0 (by omega)), show (4 : Int32) = nI 4 from rfl, n_mul, n_add, Nat.mul_comm, n_inb (by omega) (by omega), gd_t, n_cl (by omega), if_pos h, n_inb hx (by omega), gd_t, n_cl (by omega), hs, nI_1]
theorem l6_all {rec : Nat → Int32 → Int32 → Int32 → Int32 → mm → Option (Int32 × mm)} {a1 a3 a4 : Int32} {K : Int32 → mm → Option (Int32 × mm)} {k y : Nat} {M : mm} (hk : k < 8) (hy : y < 4) (n : Nat) : X0_run_L6 rec a1 (nI y) a3 a4 K (n + 1 + 1 + 1 + 1 + 1) (nI k) (nI 0) M = K (nI (dp k y)) M := by
  have e1 : k = 0 ∨ k = 1 ∨ k = 2 ∨ k = 3 ∨ k = 4 ∨ k = 5 ∨ k = 6 ∨ k = 7 := by omega
  have e2 : y = 0 ∨ y = 1 ∨ y = 2 ∨ y = 3 := by omega
  rcases e1 with rfl | rfl | rfl | rfl | rfl | rfl | rfl | rfl <;> rcases e2 with rfl | rfl | rfl | rfl
  all_goals first
    | exact l6_s (by decide) (by decide) (by decide) (by decide)
    | exact (l6_n (by decide) (by decide) (by decide) (by decide) (by decide)).trans (l6_s (by decide) (by decide) (by decide) (by decide))
    | exact (l6_n (by decide) (by decide) (by decide) (by decide) (by decide)).trans ((l6_n (by decide) (by decide) (by decide) (by decide) (by decide)).trans (l6_s (by decide) (by decide) (by decide) (by decide)))
    | exact (l6_n (by decide) (by decide) (by decide) (by decide) (by decide)).trans ((l6_n (by decide) (by decide) (by decide) (by decide) (by decide)).trans ((l6_n (by decide) (by decide) (by decide) (by decide) (by decide)).trans (l6_s (by decide) (by decide) (by decide) (by decide))))
/-- in the midst of an act -/
def RTr (k0 b r : Nat) (Ma Mb : mm) : Prop := k0 < 8 ∧ b < 50 ∧ r ≤ 900 ∧ Ma.1 66 1 = nI r ∧ Mb.1 82 56 = nI r ∧ Ma.1 66 4 = nI b ∧ Mb.1 82 58 = nI b ∧ Ma.1 66 5 = nI k0 ∧ Mb.1 82 57 = nI k0 ∧ ∀ i, i < r → i < 24 → Ma.1 67 i = Mb.1 112 i
def FTr (M M' : mm) : Prop := M'.2 = M.2 ∧ (∀ k, k ≠ 66 → k ≠ 67 → M'.1 k = M.1 k) ∧ ∀ j, j ≠ 1 → j ≠ 4 → j ≠ 5 → M'.1 66 j = M.1 66 j
def GTr (M M' : mm) : Prop := M'.2 = M.2 ∧ (∀ k, k ≠ 82 → k ≠ 112 → M'.1 k = M.1 k) ∧ ∀ j, (j < 56 ∨ 58 < j) → M'.1 82 j = M.1 82 j
theorem FTr_t {M M' M'' : mm} (h : FTr M M') (h2 : FTr M' M'') : FTr M M'' := ⟨h2.1.trans h.1, fun k a b => (h2.2.1 k a b).trans (h.2.1 k a b), fun j a b c => (h2.2.2 j a b c).trans (h.2.2 j a b c)⟩
theorem GTr_t {M M' M'' : mm} (h : GTr M M') (h2 : GTr M' M'') : GTr M M'' := ⟨h2.1.trans h.1, fun k a b => (h2.2.1 k a b).trans (h.2.1 k a b), fun j a => (h2.2.2 j a).trans (h.2.2 j a)⟩
theorem w_begin {k0 b r : Nat} {q : Int32} {Ma Mb : mm} (R : RTr k0 b r Ma Mb) (hr : r + 1 ≤ 900) : ∃ Ma' Mb', X0_begin q Ma = some ((), Ma') ∧ X11_begins q Mb = some ((), Mb') ∧ RTr k0 b (r + 1) Ma' Mb' ∧ FTr Ma Ma' ∧ GTr Mb Mb' := by
  obtain ⟨r1, r2, r3, r4, r5, r6, r7, r8, r9, r10⟩ := R
  unfold X0_begin X11_begins X0_begin_b19 X11_begins_b19
  rw [r4, r5, show (24 : Int32) = nI 24 from rfl, i_ltP (by omega) (by omega), i_ltP (by omega) (by omega)]
  by_cases h : r < 24
  · rw [if_pos h, if_pos h, n_inb h (by omega), gd_t, gd_t, lt_s_, lt_s_, lt_s_, lt_s_, n_cl (by omega)]
    have e1 : (sA Ma 67 (upd (Ma.1 67) r q)).1 66 = Ma.1 66 := sA_n _ _ _ _ (by omega)
    have e2 : (sA Mb 112 (upd (Mb.1 112) r q)).1 82 = Mb.1 82 := sA_n _ _ _ _ (by omega)
    rw [e1, e2, r4, r5, nI_1]
    refine ⟨_, _, rfl, rfl, ⟨r1, r2, hr, ?_, ?_, ?_, ?_, ?_, ?_, fun i hi h24 => ?_⟩, ⟨rfl, fun k k1 k2 => ?_, fun j j1 j2 j3 => ?_⟩, ⟨rfl, fun k k1 k2 => ?_, fun j j1 => ?_⟩⟩
    all_goals try simp (disch := omega) only [sA_s, sA_n, upd_s, upd_n]
    all_goals try assumption
    by_cases hir : i = r
    · rw [hir, upd_s, upd_s]
    · rw [upd_n _ _ _ _ hir, upd_n _ _ _ _ hir]
      exact r10 i (by omega) h24
  · rw [if_neg h, if_neg h, lt_s_, lt_s_, nI_1]
    refine ⟨_, _, rfl, rfl, ⟨r1, r2, hr, ?_, ?_, ?_, ?_, ?_, ?_, fun i hi h24 => ?_⟩, ⟨rfl, fun k k1 k2 => ?_, fun j j1 j2 j3 => ?_⟩, ⟨rfl, fun k k1 k2 => ?_, fun j j1 => ?_⟩⟩
    all_goals try simp (disch := omega) only [sA_s, sA_n, upd_s, upd_n]
    all_goals try assumption
    exact r10 i (by omega) h24
/-- two goings alike -/
def Ag (c k0 b : Nat) (X Y : mm → Option (Int32 × mm)) : Prop := ∀ r Ma Mb, RTr k0 b r Ma Mb → r + c ≤ 900 → ∃ v Ma' Mb' r', X Ma = some (v, Ma') ∧ Y Mb = some (v, Mb') ∧ r' ≤ r + c ∧ RTr k0 b r' Ma' Mb' ∧ FTr Ma Ma' ∧ GTr Mb Mb'
theorem Ag_0 {k0 b : Nat} {q : Int32} {f g : mm → Int32} (h : ∀ r Ma Mb, RTr k0 b r Ma Mb → f Ma = g Mb) : Ag 1 k0 b (fun M => bd (X0_begin q M) fun _ M => some (f M, M)) (fun M => bd (X11_begins q M) fun _ M => some (g M, M)) := by
  intro r Ma Mb R hr
  obtain ⟨A, B, e1, e2, e3, e4, e5⟩ := w_begin (q := q) R hr
  simp only [e1, e2, bd_s]
  exact ⟨_, A, B, r + 1, rfl, by rw [h _ _ _ e3], by omega, e3, e4, e5⟩
theorem Ag_1 {c k0 b : Nat} {q : Int32} {X Y : mm → Option (Int32 × mm)} {f : Int32 → Int32} (h : Ag c k0 b X Y) : Ag (c + 1) k0 b (fun M => bd (X0_begin q M) fun _ M => bd (X M) fun v M => some (f v, M)) (fun M => bd (X11_begins q M) fun _ M => bd (Y M) fun v M => some (f v, M)) := by
  intro r Ma Mb R hr
  obtain ⟨A, B, e1, e2, e3, e4, e5⟩ := w_begin (q := q) R (by omega)
  obtain ⟨v, A', B', r', g1, g2, g3, g4, g5, g6⟩ := h _ _ _ e3 (by omega)
  simp only [e1, e2, bd_s, g1, g2]
  exact ⟨_, A', B', r', rfl, rfl, by omega, g4, FTr_t e4 g5, GTr_t e5 g6⟩
theorem Ag_2 {c c' k0 b : Nat} {q : Int32} {X Y X' Y' : mm → Option (Int32 × mm)} {f : Int32 → Int32 → Int32} (h : Ag c k0 b X Y) (h' : Ag c' k0 b X' Y') : Ag (c + c' + 1) k0 b (fun M => bd (X0_begin q M) fun _ M => bd (X M) fun v M => bd (X' M) fun v' M => some (f v v', M)) (fun M => bd (X11_begins q M) fun _ M => bd (Y M) fun v M => bd (Y' M) fun v' M => some (f v v', M)) := by
  intro r Ma Mb R hr
  obtain ⟨A, B, e1, e2, e3, e4, e5⟩ := w_begin (q := q) R (by omega)
  obtain ⟨v, A', B', r', g1, g2, g3, g4, g5, g6⟩ := h _ _ _ e3 (by omega)
  obtain ⟨v', A2, B2, r2, k1, k2, k3, k4, k5, k6⟩ := h' _ _ _ g4 (by omega)
  simp only [e1, e2, bd_s, g1, g2, k1, k2]
  exact ⟨_, A2, B2, r2, rfl, rfl, by omega, k4, FTr_t e4 (FTr_t g5 k5), GTr_t e5 (GTr_t g6 k6)⟩
theorem Ag_k {c k0 b : Nat} {X Y : Int32 → mm → Option (Int32 × mm)} (h : Ag c k0 b (X (nI k0)) (Y (nI k0))) : Ag c k0 b (fun M => X (M.1 66 5) M) (fun M => Y (M.1 82 57) M) := by
  intro r Ma Mb R hr
  have := h r Ma Mb R hr
  obtain ⟨r1, r2, r3, r4, r5, r6, r7, r8, r9, r10⟩ := R
  simp only [r8, r9]
  exact this
theorem Ag_m {c c' k0 b : Nat} {X Y : mm → Option (Int32 × mm)} (h : Ag c k0 b X Y) (hc : c ≤ c') : Ag c' k0 b X Y := by
  intro r Ma Mb R hr
  obtain ⟨v, A, B, r', g1, g2, g3, g4⟩ := h r Ma Mb R (by omega)
  exact ⟨v, A, B, r', g1, g2, by omega, g4⟩
