/-! ===== what was laid aside comes back ===== -/
theorem n_cpok {n a b : Nat} (ha : n ≤ a) (hb : n ≤ b) (hn : n < 2 ^ 31) : cpok (nI 0) (nI 0) (nI n) a b = true := by
  unfold cpok
  rw [n_cl hn, n_cl (by decide)]
  have h1 : ¬ nI 0 < 0 := by decide
  have h2 : ¬ nI n < 0 := by
    rw [q_lt, n_ti hn, z32_0]; omega
  simp [h1, h2]
  omega
theorem lB1 {s t p a4 : Nat} {x a3 : Int32} (hs : s ≤ 1) (ht : t < 6) (K : Int32 → mm → Option (Unit × mm)) : ∀ (n i : Nat) (M : mm), i ≤ 8 → 8 - i < n → ∃ M', X11_laysBack_L133 (nI s) x a3 (nI a4) K n (nI t) (nI i) M = K (nI t) M' ∧ EqC (fun k => k == 95) M M' ∧ (∀ j, i ≤ j → j < 8 → M'.1 95 (8 * t + j) = M.1 108 ((s * 6 + t) * 8 + j)) ∧ ∀ k, (k < 8 * t + i ∨ 8 * t + 8 ≤ k) → M'.1 95 k = M.1 95 k := by
  intro n
  induction n with
  | zero => intro i M _ h; omega
  | succ n ih =>
    intro i M hi hn
    rw [X11_laysBack_L133]
    by_cases h8 : i < 8
    · simp (disch := omega) only [n8, n6, n1, n_lt, n_mul, n_add, n_inb, n_cl, gd_t, lt_s_, h8, if_true]
      obtain ⟨M', h1, h2, h3, h4⟩ := ih (i + 1) (sA M 95 (upd (M.1 95) (8 * t + i) (M.1 108 ((s * 6 + t) * 8 + i)))) (by omega) (by omega)
      refine ⟨M', h1, EqC_t (EqC_A rfl (EqC_r _ _)) h2, fun j hj hj8 => ?_, fun k hk => ?_⟩
      · by_cases hji : j = i
        · subst hji
          rw [h4 _ (by omega), sA_s, upd_s]
        · rw [h3 j (by omega) hj8, sA_n _ _ _ _ (by decide)]
      · rw [h4 k (by omega), sA_s, upd_n _ _ _ _ (by omega)]
    · simp (disch := omega) only [n8, n_lt, h8, if_false]
      exact ⟨M, rfl, EqC_r _ _, fun j _ _ => by omega, fun _ _ => rfl⟩
