/-! ===== the reference lays its world aside ===== -/
/-- but for the cells in S, as before -/
def EqC (S : Nat → Bool) (M M' : mm) : Prop := ∀ k, S k = false → M'.1 k = M.1 k ∧ M'.2.1 k = M.2.1 k
theorem EqC_r (S : Nat → Bool) (M : mm) : EqC S M M := fun _ _ => ⟨rfl, rfl⟩
theorem EqC_t {S : Nat → Bool} {M M' M'' : mm} (h : EqC S M M') (h2 : EqC S M' M'') : EqC S M M'' := fun k hk => ⟨(h2 k hk).1.trans (h k hk).1, (h2 k hk).2.trans (h k hk).2⟩
theorem EqC_A {S : Nat → Bool} {M0 M : mm} {k : Nat} {f : Nat → Int32} (hs : S k = true) (e : EqC S M0 M) : EqC S M0 (sA M k f) := by
  refine fun j hj => ⟨?_, (e j hj).2⟩
  rw [← (e j hj).1]
  exact sA_n M k j f fun q => by rw [q, hs] at hj; cases hj
theorem EqC_L {S : Nat → Bool} {M0 M : mm} {k : Nat} {f : Nat → Int64} (hs : S k = true) (e : EqC S M0 M) : EqC S M0 (sL M k f) := by
  refine fun j hj => ⟨(e j hj).1, ?_⟩
  rw [← (e j hj).2]
  exact sL_n M k j f fun q => by rw [q, hs] at hj; cases hj
theorem EqC_m {S S' : Nat → Bool} {M M' : mm} (e : EqC S M M') (h : ∀ k, S' k = false → S k = false) : EqC S' M M' := fun k hk => e k (h k hk)
theorem kA1 {s t : Nat} (hs : s ≤ 1) (ht : t < 6) (K : Int32 → mm → Option (Unit × mm)) : ∀ (n i : Nat) (M : mm), i ≤ 8 → 8 - i < n → ∃ M', X11_keepsAside_L103 (nI s) K n (nI t) (nI i) M = K (nI t) M' ∧ EqC (fun k => k == 108) M M' ∧ (∀ j, i ≤ j → j < 8 → M'.1 108 ((s * 6 + t) * 8 + j) = M.1 95 (8 * t + j)) ∧ ∀ k, (k < (s * 6 + t) * 8 + i ∨ (s * 6 + t) * 8 + 8 ≤ k) → M'.1 108 k = M.1 108 k := by
  intro n
  induction n with
  | zero => intro i M _ h; omega
  | succ n ih =>
    intro i M hi hn
    rw [X11_keepsAside_L103]
    by_cases h8 : i < 8
    · simp (disch := omega) only [n8, n6, n1, n_lt, n_mul, n_add, n_inb, n_cl, gd_t, lt_s_, h8, if_true]
      obtain ⟨M', h1, h2, h3, h4⟩ := ih (i + 1) (sA M 108 (upd (M.1 108) ((s * 6 + t) * 8 + i) (M.1 95 (8 * t + i)))) (by omega) (by omega)
      refine ⟨M', h1, EqC_t (EqC_A rfl (EqC_r _ _)) h2, fun j hj hj8 => ?_, fun k hk => ?_⟩
      · by_cases hji : j = i
        · subst hji
          rw [h4 _ (by omega), sA_s, upd_s]
        · rw [h3 j (by omega) hj8, sA_n _ _ _ _ (by decide)]
      · rw [h4 k (by omega), sA_s, upd_n _ _ _ _ (by omega)]
    · simp (disch := omega) only [n8, n_lt, h8, if_false]
      exact ⟨M, rfl, EqC_r _ _, fun j _ _ => by omega, fun _ _ => rfl⟩
/-- a thing's row laid aside -/
def aRow (s t : Nat) (M M' : mm) : Prop := M'.1 107 ((s * 6 + t) * 6) = M.1 91 t ∧ M'.1 107 ((s * 6 + t) * 6 + 1) = M.1 92 t ∧ M'.1 107 ((s * 6 + t) * 6 + 2) = M.1 93 t ∧ M'.1 107 ((s * 6 + t) * 6 + 3) = M.1 94 t ∧ M'.1 107 ((s * 6 + t) * 6 + 4) = M.1 96 t ∧ M'.1 107 ((s * 6 + t) * 6 + 5) = M.1 97 t ∧ ∀ j, j < 8 → M'.1 108 ((s * 6 + t) * 8 + j) = M.1 95 (8 * t + j)
theorem kA2 {s : Nat} (hs : s ≤ 1) (K : mm → Option (Unit × mm)) : ∀ (n t : Nat) (M : mm), t ≤ 6 → 6 - t < n → ∃ M', X11_keepsAside_L2 (nI s) K n (nI t) M = K M' ∧ EqC (fun k => k == 107 || k == 108) M M' ∧ (∀ j, t ≤ j → j < 6 → aRow s j M M') ∧ (∀ k, (k < (s * 6 + t) * 6 ∨ (s * 6 + 6) * 6 ≤ k) → M'.1 107 k = M.1 107 k) ∧ ∀ k, (k < (s * 6 + t) * 8 ∨ (s * 6 + 6) * 8 ≤ k) → M'.1 108 k = M.1 108 k := by
  intro n
  induction n with
  | zero => intro i M _ h; omega
  | succ n ih =>
    intro t M ht hn
    rw [X11_keepsAside_L2]
    by_cases h6 : t < 6
    · simp (disch := omega) only [n8, n6, n1, n2, n3, n4, n5, n0, n_lt, n_mul, n_add, n_inb, n_cl, gd_t, lt_s_, h6, if_true]
      simp (disch := omega) only [sA_s, sA_n, sA_sA]
      obtain ⟨M', h1, h2, h3, h4⟩ := kA1 hs h6 (fun x2 M => (X11_keepsAside_L2 (nI s) K n) (x2 + nI 1) M) 10000 0 _ (by omega) (by omega)
      rw [h1]
      simp only [n_add]
      obtain ⟨M'', g1, g2, g3, g4, g5⟩ := ih (t + 1) M' (by omega) (by omega)
      rw [g1]
      refine ⟨M'', rfl, EqC_t (EqC_A (S := fun k => k == 107 || k == 108) rfl (EqC_r _ _)) (EqC_t (EqC_m h2 fun k hk => ?_) g2), fun j hj hj6 => ?_, fun k hk => ?_, fun k hk => ?_⟩
      · simp at hk ⊢; exact hk.2
      · have e := fun k (hk : k ≠ 108) => (h2 k (by simp [hk])).1
        by_cases hj2 : j = t
        · subst hj2
          refine ⟨?_, ?_, ?_, ?_, ?_, ?_, fun i hi => ?_⟩
          · rw [g4 _ (by omega), e 107 (by decide), sA_s]; simp (disch := omega) only [upd_n, upd_s]
          · rw [g4 _ (by omega), e 107 (by decide), sA_s]; simp (disch := omega) only [upd_n, upd_s]
          · rw [g4 _ (by omega), e 107 (by decide), sA_s]; simp (disch := omega) only [upd_n, upd_s]
          · rw [g4 _ (by omega), e 107 (by decide), sA_s]; simp (disch := omega) only [upd_n, upd_s]
          · rw [g4 _ (by omega), e 107 (by decide), sA_s]; simp (disch := omega) only [upd_n, upd_s]
          · rw [g4 _ (by omega), e 107 (by decide), sA_s]; simp (disch := omega) only [upd_n, upd_s]
          · rw [g5 _ (by omega), h3 i (by omega) hi, sA_n _ _ _ _ (by decide)]
        · have h0 := g3 j (by omega) hj6
          unfold aRow at h0 ⊢
          rw [e 91 (by decide), e 92 (by decide), e 93 (by decide), e 94 (by decide), e 95 (by decide), e 96 (by decide), e 97 (by decide)] at h0
          simp only [sA_n _ _ _ _ (show (91 : Nat) ≠ 107 by decide), sA_n _ _ _ _ (show (92 : Nat) ≠ 107 by decide), sA_n _ _ _ _ (show (93 : Nat) ≠ 107 by decide), sA_n _ _ _ _ (show (94 : Nat) ≠ 107 by decide), sA_n _ _ _ _ (show (95 : Nat) ≠ 107 by decide), sA_n _ _ _ _ (show (96 : Nat) ≠ 107 by decide), sA_n _ _ _ _ (show (97 : Nat) ≠ 107 by decide)] at h0
          exact h0
      · rw [g4 k (by omega), (h2 107 (by decide)).1, sA_s]; simp (disch := omega) only [upd_n]
      · rw [g5 k (by omega), h4 k (by omega), sA_n _ _ _ _ (by decide)]
    · simp (disch := omega) only [n6, n_lt, h6, if_false]
      exact ⟨M, rfl, EqC_r _ _, fun j _ _ => by omega, fun _ _ => rfl, fun _ _ => rfl⟩
theorem kA3 {s : Nat} (hs : s ≤ 1) (K : mm → Option (Unit × mm)) : ∀ (n p : Nat) (M : mm), p ≤ 5 → 5 - p < n → ∃ M', X11_keepsAside_L153 (nI s) K n (nI p) M = K M' ∧ EqC (fun k => k == 109) M M' ∧ (∀ j, p ≤ j → j < 5 → M'.1 109 ((s * 5 + j) * 3) = M.1 87 j ∧ M'.1 109 ((s * 5 + j) * 3 + 1) = M.1 88 j ∧ M'.1 109 ((s * 5 + j) * 3 + 2) = M.1 89 j) ∧ ∀ k, (k < (s * 5 + p) * 3 ∨ (s * 5 + 5) * 3 ≤ k) → M'.1 109 k = M.1 109 k := by
  intro n
  induction n with
  | zero => intro i M _ h; omega
  | succ n ih =>
    intro p M hp hn
    rw [X11_keepsAside_L153]
    by_cases h5 : p < 5
    · simp (disch := omega) only [n5, n1, n2, n3, n_lt, n_mul, n_add, n_inb, n_cl, gd_t, lt_s_, h5, if_true]
      simp (disch := omega) only [sA_s, sA_n, sA_sA]
      obtain ⟨M', h1, h2, h3, h4⟩ := ih (p + 1) _ (by omega) (by omega)
      rw [h1]
      refine ⟨M', rfl, EqC_t (EqC_A rfl (EqC_r _ _)) h2, fun j hj hj5 => ?_, fun k hk => ?_⟩
      · by_cases hjp : j = p
        · subst hjp
          refine ⟨?_, ?_, ?_⟩ <;> rw [h4 _ (by omega), sA_s] <;> simp (disch := omega) only [upd_n, upd_s]
        · have h0 := h3 j (by omega) hj5
          simp (disch := omega) only [sA_n] at h0
          exact h0
      · rw [h4 k (by omega), sA_s]; simp (disch := omega) only [upd_n]
    · simp (disch := omega) only [n5, n_lt, h5, if_false]
      exact ⟨M, rfl, EqC_r _ _, fun j _ _ => by omega, fun _ _ => rfl⟩
theorem ex_tr {α : Type} {X : Option (α × mm)} {K : mm → Option (α × mm)} {v : α} {P Q : mm → Prop} (h : ∃ M1, X = K M1 ∧ P M1) (h2 : ∀ M1, P M1 → ∃ M', K M1 = some (v, M') ∧ Q M') : ∃ M', X = some (v, M') ∧ Q M' := by
  obtain ⟨M1, h3, h4⟩ := h
  obtain ⟨M', h5, h6⟩ := h2 M1 h4
  exact ⟨M', h3.trans h5, h6⟩
theorem w_keepsAside {s : Nat} (hs : s ≤ 1) (M : mm) : ∃ M', X11_keepsAside (nI s) M = some ((), M') ∧ EqC (fun k => k == 107 || k == 108 || k == 109 || k == 110) M M' ∧ (∀ t, t < 6 → aRow s t M M') ∧ (∀ p, p < 5 → M'.1 109 ((s * 5 + p) * 3) = M.1 87 p ∧ M'.1 109 ((s * 5 + p) * 3 + 1) = M.1 88 p ∧ M'.1 109 ((s * 5 + p) * 3 + 2) = M.1 89 p) ∧
    M'.1 110 (2 * s) = M.1 82 21 ∧ M'.1 110 (2 * s + 1) = M.1 82 22 ∧ (∀ k, (k < (s * 6) * 6 ∨ (s * 6 + 6) * 6 ≤ k) → M'.1 107 k = M.1 107 k) ∧ (∀ k, (k < (s * 6) * 8 ∨ (s * 6 + 6) * 8 ≤ k) → M'.1 108 k = M.1 108 k) ∧ (∀ k, (k < (s * 5) * 3 ∨ (s * 5 + 5) * 3 ≤ k) → M'.1 109 k = M.1 109 k) ∧ ∀ k, (k < 2 * s ∨ 2 * s + 2 ≤ k) → M'.1 110 k = M.1 110 k := by
  unfold X11_keepsAside
  simp only [n0]
  refine ex_tr (kA2 hs _ 10000 0 M (by omega) (by omega)) fun M1 ⟨a2, a3, a4, a5⟩ => ?_
  refine ex_tr (kA3 hs _ 10000 0 M1 (by omega) (by omega)) fun M2 ⟨b2, b3, b4⟩ => ?_
  simp (disch := omega) only [n2, n1, n_mul, n_add, n_inb, n_cl, gd_t, lt_s_, sA_s, sA_n, sA_sA]
  refine ⟨_, rfl, EqC_A rfl (EqC_t (EqC_m a2 ?_) (EqC_m b2 ?_)), fun t ht => ?_, fun p hp => ?_, ?_, ?_, ?_, ?_, ?_, ?_⟩
  · intro k hk; simp at hk ⊢; omega
  · intro k hk; simp at hk ⊢; omega
  · have h0 := a3 t (by omega) ht
    unfold aRow at h0 ⊢
    simp (disch := decide) only [sA_n, fun k (hk : k ≠ 109) => (b2 k (by simp [hk])).1]
    exact h0
  · have h0 := b3 p (by omega) hp
    rw [(a2 87 rfl).1, (a2 88 rfl).1, (a2 89 rfl).1] at h0
    simp (disch := decide) only [sA_n]
    exact h0
  · rw [sA_s, upd_n _ _ _ _ (by omega), upd_s, (b2 82 rfl).1, (a2 82 rfl).1]
  · rw [sA_s, upd_s, (b2 82 rfl).1, (a2 82 rfl).1]
  · intro k hk
    rw [sA_n _ _ _ _ (by decide), (b2 107 rfl).1]
    exact a4 k (by omega)
  · intro k hk
    rw [sA_n _ _ _ _ (by decide), (b2 108 rfl).1]
    exact a5 k (by omega)
  · intro k hk
    rw [sA_n _ _ _ _ (by decide), b4 k (by omega), (a2 109 rfl).1]
  · intro k hk
    rw [sA_s, upd_n _ _ _ _ (by omega), upd_n _ _ _ _ (by omega), (b2 110 rfl).1, (a2 110 rfl).1]
