/-! ===== what was laid aside comes back ===== -/
theorem n_cpok {n a b : Nat} (ha : n ≤ a) (hb : n ≤ b) (hn : n < 2 ^ 31) : cpok (nI 0) (nI 0) (nI n) a b = true := by
  unfold cpok
  rw [n_cl hn, n_cl (by decide)]
  have h1 : ¬ nI 0 < 0 := by decide
  have h2 : ¬ nI n < 0 := by
    rw [q_lt, n_ti hn, z32_0]; omega
  simp [h1, h2]
  omega
theorem lB1 {s t a4 : Nat} {x a3 : Int32} (hs : s ≤ 1) (ht : t < 6) (K : Int32 → mm → Option (Unit × mm)) : ∀ (n i : Nat) (M : mm), i ≤ 8 → 8 - i < n → ∃ M', X11_laysBack_L133 (nI s) x a3 (nI a4) K n (nI t) (nI i) M = K (nI t) M' ∧ EqC (fun k => k == 95) M M' ∧ (∀ j, i ≤ j → j < 8 → M'.1 95 (8 * t + j) = M.1 108 ((s * 6 + t) * 8 + j)) ∧ ∀ k, (k < 8 * t + i ∨ 8 * t + 8 ≤ k) → M'.1 95 k = M.1 95 k := by
  intro n
  induction n with
  | zero => intro i M _ h; omega
  | succ n ih =>
    intro i M hi hn
    rw [X11_laysBack_L133]
    by_cases h8 : i < 8
    · simp (disch := omega) only [n8, n6, n1, n_lt, n_mul, n_add, n_inb, n_cl, gd_t, lt_s_, h8, if_true]
      obtain ⟨M', h1, h2, h3, h4⟩ := ih (i + 1) (sA M 95 (upd (M.1 95) (8 * t + i) (M.1 108 ((s * 6 + t) * 8 + i)))) (by omega) (by omega)
      refine ⟨M', h1, EqC_t (EqC_A rfl (EqC_r _ _)) h2, fun j hj hj8 => ?_, fun k hk => ?_⟩
      · by_cases hji : j = i
        · subst hji
          rw [h4 _ (by omega), sA_s, upd_s]
        · rw [h3 j (by omega) hj8, sA_n _ _ _ _ (by decide)]
      · rw [h4 k (by omega), sA_s, upd_n _ _ _ _ (by omega)]
    · simp (disch := omega) only [n8, n_lt, h8, if_false]
      exact ⟨M, rfl, EqC_r _ _, fun j _ _ => by omega, fun _ _ => rfl⟩
theorem ex_tk {α : Type} {X : Option (α × mm)} {K R : mm → Option (α × mm)} {P Q : mm → Prop} (h : ∃ M1, X = K M1 ∧ P M1) (h2 : ∀ M1, P M1 → ∃ M', K M1 = R M' ∧ Q M') : ∃ M', X = R M' ∧ Q M' := by
  obtain ⟨M1, h3, h4⟩ := h
  obtain ⟨M', h5, h6⟩ := h2 M1 h4
  exact ⟨M', h3.trans h5, h6⟩
/-- a thing's row comes back -/
def bRow (s t a4 : Nat) (M M' : mm) : Prop := M'.1 91 t = M.1 107 ((s * 6 + t) * 6) ∧ M'.1 92 t = M.1 107 ((s * 6 + t) * 6 + 1) ∧ M'.1 93 t = M.1 107 ((s * 6 + t) * 6 + 2) ∧ M'.1 94 t = M.1 107 ((s * 6 + t) * 6 + 3) ∧ M'.1 96 t = M.1 107 ((s * 6 + t) * 6 + 4) ∧ M'.1 97 t = (if a4 = 0 then M.1 97 t else M.1 107 ((s * 6 + t) * 6 + 5)) ∧ ∀ j, j < 8 → M'.1 95 (8 * t + j) = M.1 108 ((s * 6 + t) * 8 + j)
/-- a thing's row as it was -/
def sRow (t : Nat) (M M' : mm) : Prop := M'.1 91 t = M.1 91 t ∧ M'.1 92 t = M.1 92 t ∧ M'.1 93 t = M.1 93 t ∧ M'.1 94 t = M.1 94 t ∧ M'.1 96 t = M.1 96 t ∧ M'.1 97 t = M.1 97 t ∧ ∀ j, j < 8 → M'.1 95 (8 * t + j) = M.1 95 (8 * t + j)
theorem lB2 {s T a4 : Nat} {a3 : Int32} (hs : s ≤ 1) (hT : T ≤ 6) (h4 : a4 < 2) (K : mm → Option (Unit × mm)) : ∀ (n t : Nat) (M : mm), t ≤ T → T - t < n → ∃ M', X11_laysBack_L3 (nI s) (nI T) a3 (nI a4) K n (nI t) M = K M' ∧ EqC (fun k => k == 91 || k == 92 || k == 93 || k == 94 || k == 95 || k == 96 || k == 97) M M' ∧ (∀ j, t ≤ j → j < T → bRow s j a4 M M') ∧ ∀ j, (j < t ∨ T ≤ j) → sRow j M M' := by
  intro n
  induction n with
  | zero => intro i M _ h; omega
  | succ n ih =>
    intro t M ht hn
    rw [X11_laysBack_L3]
    by_cases h6 : t < T
    · unfold X11_laysBack_b129
      simp (disch := omega) only [n8, n6, n1, n2, n3, n4, n5, n0, n_lt, n_eq, n_mul, n_add, n_inb, n_cl, gd_t, lt_s_, h6, if_true]
      obtain rfl | rfl : a4 = 0 ∨ a4 = 1 := by omega
      all_goals
        simp (disch := omega) only [Nat.one_ne_zero, if_true, if_false, gd_t, n_inb, n_cl, sA_s, sA_n, sA_sA]
        refine ex_tk (lB1 hs (by omega) _ 10000 0 _ (by omega) (by omega)) fun M1 ⟨h2, h3, h4'⟩ => ?_
        simp only [n_add]
        refine ex_tk (ih (t + 1) M1 (by omega) (by omega)) fun M2 ⟨g2, g3, g4⟩ => ?_
        refine ⟨M2, rfl, ?_, fun j hj hjT => ?_, fun j hj => ?_⟩
        · refine EqC_t (EqC_t ?_ (EqC_m h2 fun k hk => ?_)) g2
          · exact EqC_A rfl (EqC_A rfl (EqC_A rfl (EqC_A rfl (EqC_A rfl (EqC_A rfl (EqC_r _ _))))))
          · simp at hk ⊢; omega
        · have e := fun k (hk : k ≠ 95) => (h2 k (by simp [hk])).1
          by_cases hj2 : j = t
          · subst hj2
            obtain ⟨q1, q2, q3, q4, q5, q6, q7⟩ := g4 j (by omega)
            rw [e 91 (by decide)] at q1
            rw [e 92 (by decide)] at q2
            rw [e 93 (by decide)] at q3
            rw [e 94 (by decide)] at q4
            rw [e 96 (by decide)] at q5
            rw [e 97 (by decide)] at q6
            simp (disch := decide) only [sA_s, sA_n, upd_s] at q1 q2 q3 q4 q5 q6
            refine ⟨q1, q2, q3, q4, q5, ?_, fun i hi => ?_⟩
            · simp only [if_true, if_false, Nat.one_ne_zero]; exact q6
            · rw [q7 i hi, h3 i (by omega) hi]
              simp (disch := decide) only [sA_n]
          · obtain ⟨q1, q2, q3, q4, q5, q6, q7⟩ := g3 j (by omega) hjT
            rw [e 107 (by decide)] at q1 q2 q3 q4 q5 q6
            rw [e 97 (by decide)] at q6
            simp (disch := omega) only [sA_s, sA_n, upd_n] at q1 q2 q3 q4 q5 q6
            refine ⟨q1, q2, q3, q4, q5, q6, fun i hi => ?_⟩
            rw [q7 i hi, e 108 (by decide)]
            simp (disch := decide) only [sA_n]
        · have e := fun k (hk : k ≠ 95) => (h2 k (by simp [hk])).1
          obtain ⟨q1, q2, q3, q4, q5, q6, q7⟩ := g4 j (by omega)
          rw [e 91 (by decide)] at q1
          rw [e 92 (by decide)] at q2
          rw [e 93 (by decide)] at q3
          rw [e 94 (by decide)] at q4
          rw [e 96 (by decide)] at q5
          rw [e 97 (by decide)] at q6
          simp (disch := omega) only [sA_s, sA_n, upd_n] at q1 q2 q3 q4 q5 q6
          refine ⟨q1, q2, q3, q4, q5, q6, fun i hi => ?_⟩
          rw [q7 i hi, h4' _ (by omega)]
          simp (disch := decide) only [sA_n]
    · simp (disch := omega) only [n_lt, h6, if_false]
      exact ⟨M, rfl, EqC_r _ _, fun j _ _ => by omega, fun _ _ => ⟨rfl, rfl, rfl, rfl, rfl, rfl, fun _ _ => rfl⟩⟩
