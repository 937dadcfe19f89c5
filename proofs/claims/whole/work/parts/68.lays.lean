/-! ===== years in thought: laid aside, lived, laid back ===== -/
/-- the other side, as before but for thought -/
def LB (Mb M : mm) : Prop := (∀ k, ((82 < k ∧ k < 87) ∨ k = 90 ∨ k = 98 ∨ k = 99 ∨ 111 ≤ k) → M.1 k = Mb.1 k) ∧ M.2.1 115 = Mb.2.1 115 ∧ (∀ j, ((j < 27 ∧ j ≠ 19) ∨ 50 ≤ j) → M.1 82 j = Mb.1 82 j) ∧ ((∀ i, 36 ≤ i → M.1 107 i = Mb.1 107 i) ∧ (∀ i, 48 ≤ i → M.1 108 i = Mb.1 108 i) ∧ (∀ i, 15 ≤ i → M.1 109 i = Mb.1 109 i) ∧ ∀ i, 2 ≤ i → M.1 110 i = Mb.1 110 i) ∧ (∀ t, t < 6 → sRow t Mb M) ∧ ∀ p, p < 5 → M.1 87 p = Mb.1 87 p ∧ M.1 88 p = Mb.1 88 p ∧ M.1 89 p = Mb.1 89 p
theorem LB_r (M : mm) : LB M M := ⟨fun _ _ => rfl, rfl, fun _ _ => rfl, ⟨fun _ _ => rfl, fun _ _ => rfl, fun _ _ => rfl, fun _ _ => rfl⟩, fun _ _ => ⟨rfl, rfl, rfl, rfl, rfl, rfl, fun _ _ => rfl⟩, fun _ _ => ⟨rfl, rfl, rfl⟩⟩
/-- what was laid aside lies there -/
def KP (Mb M : mm) : Prop := (∀ t, t < 6 → aRow 0 t Mb M) ∧ (∀ p, p < 5 → M.1 109 ((0 * 5 + p) * 3) = Mb.1 87 p ∧ M.1 109 ((0 * 5 + p) * 3 + 1) = Mb.1 88 p ∧ M.1 109 ((0 * 5 + p) * 3 + 2) = Mb.1 89 p) ∧ M.1 110 (2 * 0) = Mb.1 82 21 ∧ M.1 110 (2 * 0 + 1) = Mb.1 82 22
theorem KP_c {Mb M M' : mm} (h : KP Mb M) (e : M'.1 107 = M.1 107 ∧ M'.1 108 = M.1 108 ∧ M'.1 109 = M.1 109 ∧ M'.1 110 = M.1 110) : KP Mb M' := by
  unfold KP aRow at h ⊢
  rw [e.1, e.2.1, e.2.2.1, e.2.2.2]
  exact h
/-- what LB says of all but the worlds -/
def LC (Mb M : mm) : Prop := (∀ k, ((82 < k ∧ k < 87) ∨ k = 90 ∨ k = 98 ∨ k = 99 ∨ 111 ≤ k) → M.1 k = Mb.1 k) ∧ M.2.1 115 = Mb.2.1 115 ∧ (∀ j, ((j < 27 ∧ j ≠ 19 ∧ j ≠ 21 ∧ j ≠ 22) ∨ 50 ≤ j) → M.1 82 j = Mb.1 82 j) ∧ ((∀ i, 36 ≤ i → M.1 107 i = Mb.1 107 i) ∧ (∀ i, 48 ≤ i → M.1 108 i = Mb.1 108 i) ∧ (∀ i, 15 ≤ i → M.1 109 i = Mb.1 109 i) ∧ ∀ i, 2 ≤ i → M.1 110 i = Mb.1 110 i)
theorem LC_B {Mb M : mm} (h : LB Mb M) : LC Mb M := ⟨h.1, h.2.1, fun j hj => h.2.2.1 j (by omega), h.2.2.2.1⟩
theorem LC_c {Mb M M' : mm} (h : LC Mb M) (eb : ∀ k, ((82 < k ∧ k < 87) ∨ k = 90 ∨ k = 98 ∨ k = 99 ∨ 107 ≤ k) → M'.1 k = M.1 k) (e2 : M'.2.1 115 = M.2.1 115) (ej : ∀ j, ((j < 27 ∧ j ≠ 19 ∧ j ≠ 21 ∧ j ≠ 22) ∨ 50 ≤ j) → M'.1 82 j = M.1 82 j) : LC Mb M' := by
  obtain ⟨h1, h2, h3, h4, h5, h6, h7⟩ := h
  exact ⟨fun k hk => (eb k (by omega)).trans (h1 k hk), e2.trans h2, fun j hj => (ej j hj).trans (h3 j hj), fun i hi => by rw [eb 107 (by omega)]; exact h4 i hi, fun i hi => by rw [eb 108 (by omega)]; exact h5 i hi, fun i hi => by rw [eb 109 (by omega)]; exact h6 i hi, fun i hi => by rw [eb 110 (by omega)]; exact h7 i hi⟩
theorem w_aside0 (Mb : mm) : ∃ M, X11_keepsAside 0 Mb = some ((), M) ∧ LB Mb M ∧ KP Mb M ∧ M.1 82 = Mb.1 82 ∧ ∀ k, k ≠ 107 → k ≠ 108 → k ≠ 109 → k ≠ 110 → M.1 k = Mb.1 k := by
  obtain ⟨M, b0, b1, b2, b3, b4, b5, b6, b7, b8, b9⟩ := w_keepsAside (s := 0) (by omega) Mb
  rw [show nI 0 = (0 : Int32) from rfl] at b0
  have g : ∀ k, k ≠ 107 → k ≠ 108 → k ≠ 109 → k ≠ 110 → M.1 k = Mb.1 k := fun k c1 c2 c3 c4 => (b1 k (by simp [c1, c2, c3, c4])).1
  refine ⟨M, b0, ⟨fun k hk => g k (by omega) (by omega) (by omega) (by omega), (b1 115 rfl).2, fun j _ => by rw [g 82 (by omega) (by omega) (by omega) (by omega)], ⟨fun i hi => b6 i (by omega), fun i hi => b7 i (by omega), fun i hi => b8 i (by omega), fun i hi => b9 i (by omega)⟩, fun t ht => ?_, fun p hp => ?_⟩, ⟨b2, b3, b4, b5⟩, g 82 (by omega) (by omega) (by omega) (by omega), g⟩
  · unfold sRow
    rw [g 91 (by omega) (by omega) (by omega) (by omega), g 92 (by omega) (by omega) (by omega) (by omega), g 93 (by omega) (by omega) (by omega) (by omega), g 94 (by omega) (by omega) (by omega) (by omega), g 95 (by omega) (by omega) (by omega) (by omega), g 96 (by omega) (by omega) (by omega) (by omega), g 97 (by omega) (by omega) (by omega) (by omega)]
    exact ⟨rfl, rfl, rfl, rfl, rfl, rfl, fun _ _ => rfl⟩
  · rw [g 87 (by omega) (by omega) (by omega) (by omega), g 88 (by omega) (by omega) (by omega) (by omega), g 89 (by omega) (by omega) (by omega) (by omega)]
    exact ⟨rfl, rfl, rfl⟩
theorem w_lay0 {Mb M : mm} (hL : LC Mb M) (hK : KP Mb M) : ∃ M', X11_laysBack 0 6 5 1 M = some ((), M') ∧ LB Mb M' ∧ KP Mb M' ∧ (∀ j, j ≠ 21 → j ≠ 22 → M'.1 82 j = M.1 82 j) := by
  obtain ⟨M', b0, b1, b2, b3, b4, b5, b6, b7, b8, b9⟩ := w_laysBack (s := 0) (T := 6) (P := 5) (a4 := 1) (by omega) (by omega) (by omega) (by omega) M
  obtain ⟨k1, k2, k3, k4⟩ := id hK
  obtain ⟨l1, l2, l3, l4, l5, l6, l7⟩ := hL
  have g : ∀ k, k ≠ 82 → k ≠ 87 → k ≠ 88 → k ≠ 89 → (k < 91 ∨ 97 < k) → M'.1 k = M.1 k := b1
  refine ⟨M', b0, ⟨fun k hk => (g k (by omega) (by omega) (by omega) (by omega) (by omega)).trans (l1 k hk), (b2 115 (by omega)).trans l2, fun j hj => ?_, ⟨fun i hi => by rw [g 107 (by omega) (by omega) (by omega) (by omega) (by omega)]; exact l4 i hi, fun i hi => by rw [g 108 (by omega) (by omega) (by omega) (by omega) (by omega)]; exact l5 i hi, fun i hi => by rw [g 109 (by omega) (by omega) (by omega) (by omega) (by omega)]; exact l6 i hi, fun i hi => by rw [g 110 (by omega) (by omega) (by omega) (by omega) (by omega)]; exact l7 i hi⟩, fun t ht => ?_, fun p hp => ?_⟩, KP_c hK ⟨g 107 (by omega) (by omega) (by omega) (by omega) (by omega), g 108 (by omega) (by omega) (by omega) (by omega) (by omega), g 109 (by omega) (by omega) (by omega) (by omega) (by omega), g 110 (by omega) (by omega) (by omega) (by omega) (by omega)⟩, b3⟩
  · by_cases h1 : j = 21
    · rw [h1, b8, k3]
    · by_cases h2 : j = 22
      · rw [h2, b9, k4]
      · rw [b3 j h1 h2]
        exact l3 j (by omega)
  · obtain ⟨m1, m2, m3, m4, m5, m6, m7⟩ := b4 t ht
    obtain ⟨n1, n2, n3, n4, n5, n6, n7⟩ := k1 t ht
    unfold sRow
    rw [m1, m2, m3, m4, m5, m6, n1, n2, n3, n4, n5, n6]
    exact ⟨rfl, rfl, rfl, rfl, rfl, rfl, fun j hj => by rw [m7 j hj, n7 j hj]⟩
  · obtain ⟨m1, m2, m3⟩ := b6 p hp
    obtain ⟨n1, n2, n3⟩ := k2 p hp
    rw [m1, m2, m3, n1, n2, n3]
    exact ⟨rfl, rfl, rfl⟩
/-- thought over: the plain parts stand -/
theorem RC_lay {P T N : Nat} {Ma Mb Ma' Mb' : mm} (R : RC P T N Ma Mb) (ea : ∀ k, (k ≤ 10 ∨ (28 ≤ k ∧ k ≤ 38) ∨ (50 ≤ k ∧ k ≤ 81)) → Ma'.1 k = Ma.1 k) (ea2 : ∀ k, 28 ≤ k → Ma'.2.1 k = Ma.2.1 k) (hb : LB Mb Mb') (h19 : Mb'.1 82 19 = Mb.1 82 19) : RC P T N Ma' Mb' := by
  obtain ⟨hF, hP, hT, hW, hY, hI, hC, hTa, hA, hS⟩ := R
  have f1 := hF.1
  have f2 := hF.2.1
  obtain ⟨b1, b2, b3, ⟨b4, b5, b6, b7⟩, b8, b9⟩ := hb
  refine ⟨rF_c hF (Nat.le_refl _) ?_, rP_c hP ?_ f1 (fun i _ => by rw [b1 83 (by omega)]), rT_c hT (Nat.le_refl _) ?_ (fun i _ => by rw [b1 83 (by omega)]), ⟨fun t ht => ?_, fun p hp => ?_, ?_, ?_⟩, ?_, rI_c hI (Nat.le_refl _) (Nat.le_refl _) ?_ ⟨b3 50 (by omega), b3 51 (by omega), b3 52 (by omega), b4, b5, b6, b7⟩, rC_c hC (Nat.le_refl _) (Nat.le_refl _) ?_, rTa_c hTa ?_, rA_c hA ?_, rS_c hS ?_ fun d hd => ⟨ea _ (by omega), ea2 _ (by omega)⟩⟩
  · simp (disch := omega) only [ea, b3, h19, and_self]
  · simp (disch := omega) only [ea, and_self]
  · simp (disch := omega) only [ea, b1, and_self]
  · obtain ⟨m1, m2, m3, m4, m5, m6, m7⟩ := b8 t (by omega)
    obtain ⟨k1, k2, k3, k4, n, k5, k6, k7, k8⟩ := hW.1 t ht
    simp (disch := omega) only [ea]
    rw [m1, m2, m3, m4, m5]
    exact ⟨k1, k2, k3, k4, n, k5, k6, k7, fun i hi => by rw [m7 i (by omega)]; exact k8 i hi⟩
  · obtain ⟨m1, m2, m3⟩ := b9 p hp
    simp (disch := omega) only [ea]
    rw [m1, m2, m3]
    exact hW.2.1 p hp
  · rw [ea 28 (by omega), b3 21 (by omega)]; exact hW.2.2.1
  · rw [ea 28 (by omega), b3 22 (by omega)]; exact hW.2.2.2
  · obtain ⟨⟨l, l1, l2, l3⟩, h33⟩ := hY
    refine ⟨⟨l, l1, by rw [ea 0 (by omega)]; exact l2, fun t ht => ?_⟩, fun t h1 h2 => by rw [ea 33 (by omega)]; exact h33 t h1 h2⟩
    rw [ea 38 (by omega), (b8 t (by omega)).2.2.2.2.2.1]
    exact l3 t ht
  · simp (disch := omega) only [ea, and_self]
  · simp (disch := omega) only [ea, b1, b3, and_self]
  · simp (disch := omega) only [ea, b1, b3, and_self]
  · simp (disch := omega) only [ea, b1, b3, and_self]
  · simp (disch := omega) only [ea, b1, b2, and_self]
/-- the first side, as before but for thought -/
def LA (T : Nat) (Ma A : mm) : Prop := (∀ k, (k = 0 ∨ (2 ≤ k ∧ k ≤ 18) ∨ (28 ≤ k ∧ k ≤ 38) ∨ 50 ≤ k) → A.1 k = Ma.1 k) ∧ (∀ j, j ≠ 2 → A.1 1 j = Ma.1 1 j) ∧ (∀ k, 28 ≤ k → A.2.1 k = Ma.2.1 k)
theorem LA_r (T : Nat) (M : mm) : LA T M M := ⟨fun _ _ => rfl, fun _ _ => rfl, fun _ _ => rfl⟩
theorem LA_Y {T : Nat} {Ma A A' : mm} (h : LA T Ma A) (f : FY 39 T A A') : LA T Ma A' := ⟨fun k hk => (f.1 k (by omega)).trans (h.1 k hk), fun j hj => by rw [f.1 1 (by omega)]; exact h.2.1 j hj, fun k hk => (f.2.1 k (by omega)).trans (h.2.2 k hk)⟩
/-- a thought begins -/
theorem w_startThought {P T N F : Nat} {O : Option (List stp)} {Ma A : mm} (hA : LA T Ma A) (hP : P ≤ 5) (hT : T ≤ 6) (e0 : A.1 1 0 = nI P) (e1 : A.1 1 1 = nI T) (hL : lawA O A ∧ rFo O A ∧ RefOK A) (hM : rM T N O A) (seed : Int32) : ∃ A', X10_startThought seed A = some ((), A') ∧ LA T Ma A' ∧ A'.1 1 = A.1 1 ∧ (lawA O A' ∧ rFo O A' ∧ RefOK A') ∧ rM T N O A' ∧ A'.1 27 3 = seed ∧ (∀ i, 1 ≤ i → i ≤ 5 → ∀ t, t < T → A'.1 (39 + i) t = A.1 (28 + i) t) ∧ (∀ j, j < T * 8 → A'.1 45 j = A.1 34 j) ∧ (∀ i, 7 ≤ i → i ≤ 9 → ∀ p, p < P → A'.1 (39 + i) p = A.1 (28 + i) p) ∧ F = F := by
  unfold X10_startThought X2_sow
  obtain ⟨A1, a0, ⟨a1, a2⟩, ⟨a3, a4⟩, a5, a6, a7⟩ := w_become (w := 39) (v := 28) (P := P) (T := T) (M := A) (by decide) (by decide) (by omega) hP hT
  rw [e0, e1, a0, bd_s, lt_s_, bd_s]
  have g : ∀ k, k ≠ 27 → (sA A1 27 (upd (A1.1 27) 3 seed)).1 k = A1.1 k := fun k hk => sA_n _ _ _ _ hk
  obtain ⟨l1, l2⟩ := law_w3 (M' := sA A1 27 (upd (A1.1 27) 3 seed)) (M := A) a1 (fun k h0 hk => (g k (by omega)).trans (a2 k (by omega))) hL hM
  refine ⟨_, rfl, ⟨fun k hk => ?_, fun j hj => ?_, fun k hk => ?_⟩, ?_, l1, l2, ?_, fun i i1 i5 t ht => ?_, fun j hj => ?_, fun i i1 i5 p hp => ?_, rfl⟩
  · rw [g k (by omega), a2 k (by omega)]; exact hA.1 k hk
  · rw [g 1 (by omega), a2 1 (by omega)]; exact hA.2.1 j hj
  · show A1.2.1 k = _
    rw [a1]; exact hA.2.2 k hk
  · rw [g 1 (by omega), a2 1 (by omega)]
  · rw [sA_s, upd_s]
  · rw [g _ (by omega), a5 i i1 i5 t, if_pos ht]
  · have := a6 j
    rw [if_pos hj] at this
    rw [g 45 (by omega)]; exact this
  · rw [g _ (by omega), a7 i i1 i5 p, if_pos hp]
