/-! ===== the reference lays its world aside ===== -/
/-- but for the cells in S, as before -/
def EqC (S : Nat → Bool) (M M' : mm) : Prop := ∀ k, S k = false → M'.1 k = M.1 k ∧ M'.2.1 k = M.2.1 k
theorem EqC_r (S : Nat → Bool) (M : mm) : EqC S M M := fun _ _ => ⟨rfl, rfl⟩
theorem EqC_t {S : Nat → Bool} {M M' M'' : mm} (h : EqC S M M') (h2 : EqC S M' M'') : EqC S M M'' := fun k hk => ⟨(h2 k hk).1.trans (h k hk).1, (h2 k hk).2.trans (h k hk).2⟩
theorem EqC_A {S : Nat → Bool} {M0 M : mm} {k : Nat} {f : Nat → Int32} (hs : S k = true) (e : EqC S M0 M) : EqC S M0 (sA M k f) := by
  refine fun j hj => ⟨?_, (e j hj).2⟩
  rw [← (e j hj).1]
  exact sA_n M k j f fun q => by rw [q, hs] at hj; cases hj
theorem EqC_L {S : Nat → Bool} {M0 M : mm} {k : Nat} {f : Nat → Int64} (hs : S k = true) (e : EqC S M0 M) : EqC S M0 (sL M k f) := by
  refine fun j hj => ⟨(e j hj).1, ?_⟩
  rw [← (e j hj).2]
  exact sL_n M k j f fun q => by rw [q, hs] at hj; cases hj
theorem EqC_m {S S' : Nat → Bool} {M M' : mm} (e : EqC S M M') (h : ∀ k, S' k = false → S k = false) : EqC S' M M' := fun k hk => e k (h k hk)
theorem kA1 {s t : Nat} (hs : s ≤ 1) (ht : t < 6) (K : Int32 → mm → Option (Unit × mm)) : ∀ (n i : Nat) (M : mm), i ≤ 8 → 8 - i < n → ∃ M', X11_keepsAside_L103 (nI s) K n (nI t) (nI i) M = K (nI t) M' ∧ EqC (fun k => k == 108) M M' ∧ (∀ j, i ≤ j → j < 8 → M'.1 108 ((s * 6 + t) * 8 + j) = M.1 95 (8 * t + j)) ∧ ∀ k, (k < (s * 6 + t) * 8 + i ∨ (s * 6 + t) * 8 + 8 ≤ k) → M'.1 108 k = M.1 108 k := by
  intro n
  induction n with
  | zero => intro i M _ h; omega
  | succ n ih =>
    intro i M hi hn
    rw [X11_keepsAside_L103]
    by_cases h8 : i < 8
    · simp (disch := omega) only [n8, n6, n1, n_lt, n_mul, n_add, n_inb, n_cl, gd_t, lt_s_, h8, if_true]
      obtain ⟨M', h1, h2, h3, h4⟩ := ih (i + 1) (sA M 108 (upd (M.1 108) ((s * 6 + t) * 8 + i) (M.1 95 (8 * t + i)))) (by omega) (by omega)
      refine ⟨M', h1, EqC_t (EqC_A rfl (EqC_r _ _)) h2, fun j hj hj8 => ?_, fun k hk => ?_⟩
      · by_cases hji : j = i
        · subst hji
          rw [h4 _ (by omega), sA_s, upd_s]
        · rw [h3 j (by omega) hj8, sA_n _ _ _ _ (by decide)]
      · rw [h4 k (by omega), sA_s, upd_n _ _ _ _ (by omega)]
    · simp (disch := omega) only [n8, n_lt, h8, if_false]
      exact ⟨M, rfl, EqC_r _ _, fun j _ _ => by omega, fun _ _ => rfl⟩
