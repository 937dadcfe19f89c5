/-! ===== the call mend ===== -/
theorem bd_eta {α : Type} (X : Option (α × mm)) : (bd X fun v M => some (v, M)) = X := by
  cases X <;> rfl
/-- what is noted on both sides -/
def nted (s d : Nat) (f g : Nat → Int32) (x : Int32) : Prop := (∀ i, i < d → g i = f (i + s)) ∧ g d = x
theorem m_n13 {d : Nat} {a1 a2 a3 a4 : Int32} {M : mm} (hd : d ≤ 39) (h : M.1 61 0 = nI d) : ∃ M', X1_note_b13 a1 a2 a3 a4 M = some ((), M') ∧ M'.2 = M.2 ∧ (∀ k, (k < 61 ∨ 65 < k) → M'.1 k = M.1 k) ∧ M'.1 61 0 = nI (d + 1) ∧ M'.1 61 1 = nI (d + 1) ∧ nted 0 d (M.1 62) (M'.1 62) a1 ∧ nted 0 d (M.1 63) (M'.1 63) a2 ∧ nted 0 d (M.1 64) (M'.1 64) a3 ∧ nted 0 d (M.1 65) (M'.1 65) a4 := by
  unfold X1_note_b13
  simp (disch := omega) only [h, sA_s, sA_n, upd_s, n_inb, n_cl, gd_t, lt_s_, nI_1]
  refine ⟨_, rfl, rfl, fun k hk => ?_, ?_, ?_, ⟨fun i hi => ?_, ?_⟩, ⟨fun i hi => ?_, ?_⟩, ⟨fun i hi => ?_, ?_⟩, ⟨fun i hi => ?_, ?_⟩⟩
  all_goals simp (disch := omega) only [sA_s, sA_n, upd_s, upd_n, Nat.add_zero]
theorem m_note {d : Nat} {a1 a2 a3 a4 : Int32} {M : mm} (hd : d ≤ 40) (h : M.1 61 0 = nI d) : ∃ M', X1_note a1 a2 a3 a4 M = some ((), M') ∧ M'.2 = M.2 ∧ (∀ k, (k < 61 ∨ 65 < k) → M'.1 k = M.1 k) ∧ ∃ d' s, d' ≤ 39 ∧ d' + s = d ∧ s = (if d = 40 then 1 else 0) ∧ M'.1 61 0 = nI (d' + 1) ∧ M'.1 61 1 = nI (d' + 1) ∧ nted s d' (M.1 62) (M'.1 62) a1 ∧ nted s d' (M.1 63) (M'.1 63) a2 ∧ nted s d' (M.1 64) (M'.1 64) a3 ∧ nted s d' (M.1 65) (M'.1 65) a4 := by
  unfold X1_note
  rw [h, show (40 : Int32) = nI 40 from rfl, i_eqP (by omega) (by omega)]
  by_cases c : d = 40
  · rw [if_pos c]
    unfold X1_forgetOldest
    have hc : cpok 1 0 39 40 40 = true := by decide
    have e1 : (1 : Int32).toNatClampNeg = 1 := by decide
    have e0 : (0 : Int32).toNatClampNeg = 0 := by decide
    have e39 : (39 : Int32).toNatClampNeg = 39 := by decide
    simp (disch := omega) only [hc, e1, e0, e39, sA_s, sA_n, gd_t, lt_s_]
    rw [h, c, show nI 40 - 1 = nI 39 from rfl, bd_s]
    obtain ⟨M', h1, h2, h3, h4, h5, h6, h7, h8, h9⟩ := m_n13 (d := 39) (a1 := a1) (a2 := a2) (a3 := a3) (a4 := a4) (M := sA (sA (sA (sA (sA M 62 (va_cpy (M.1 62) (M.1 62) 1 0 39)) 63 (va_cpy (M.1 63) (M.1 63) 1 0 39)) 64 (va_cpy (M.1 64) (M.1 64) 1 0 39)) 65 (va_cpy (M.1 65) (M.1 65) 1 0 39)) 61 (upd (M.1 61) 0 (nI 39))) (by omega) (by rw [sA_s, upd_s])
    have cp : ∀ f : Nat → Int32, ∀ i, i < 39 → va_cpy f f 1 0 39 (i + 0) = f (i + 1) := fun f i hi => by
      rw [pk_cpy_in (by omega) (by omega)]
      congr 1
      omega
    refine ⟨M', h1, h2, fun k hk => ?_, 39, 1, by omega, by omega, by rw [if_pos rfl], h4, h5, ⟨fun i hi => ?_, h6.2⟩, ⟨fun i hi => ?_, h7.2⟩, ⟨fun i hi => ?_, h8.2⟩, ⟨fun i hi => ?_, h9.2⟩⟩
    · rw [h3 k hk]
      simp (disch := omega) only [sA_n]
    · rw [h6.1 i hi]
      simp (disch := omega) only [sA_n, sA_s, cp]
    · rw [h7.1 i hi]
      simp (disch := omega) only [sA_n, sA_s, cp]
    · rw [h8.1 i hi]
      simp (disch := omega) only [sA_n, sA_s, cp]
    · rw [h9.1 i hi]
      simp (disch := omega) only [sA_n, sA_s, cp]
  · rw [if_neg c]
    obtain ⟨M', h1, h2, h3, h4, h5, h6, h7, h8, h9⟩ := m_n13 (a1 := a1) (a2 := a2) (a3 := a3) (a4 := a4) (d := d) (by omega) h
    exact ⟨M', h1, h2, h3, d, 0, by omega, by omega, by rw [if_neg c], h4, h5, h6, h7, h8, h9⟩
theorem b_97 {d k : Nat} {x x3 : Int32} {M : mm} (hd : d ≤ 39) (hk : k < 33) (h : M.1 82 5 = nI d) : ∃ M', X11_becomes_b97 (nI k) x x3 M = some (x3, M') ∧ M'.2 = M.2 ∧ (∀ j, j ≠ 82 → (j < 83 ∨ 86 < j) → M'.1 j = M.1 j) ∧ (∀ j, j ≠ 4 → j ≠ 5 → M'.1 82 j = M.1 82 j) ∧ M'.1 83 = upd (M.1 83) k x ∧ M'.1 82 5 = nI (d + 1) ∧ M'.1 82 4 = nI (d + 1) ∧ nted 0 d (M.1 84) (M'.1 84) (nI k) ∧ nted 0 d (M.1 85) (M'.1 85) x3 ∧ nted 0 d (M.1 86) (M'.1 86) x := by
  unfold X11_becomes_b97
  simp (disch := omega) only [h, sA_s, sA_n, upd_s, n_inb, n_cl, gd_t, lt_s_, nI_1]
  refine ⟨_, rfl, rfl, fun j h1 h2 => ?_, fun j h1 h2 => ?_, ?_, ?_, ?_, ⟨fun i hi => ?_, ?_⟩, ⟨fun i hi => ?_, ?_⟩, ⟨fun i hi => ?_, ?_⟩⟩
  all_goals simp (disch := omega) only [sA_s, sA_n, upd_s, upd_n, Nat.add_zero]
theorem b_26 {a1 a2 x3 : Int32} (K : Int32 → mm → Option (Int32 × mm)) : ∀ (n i : Nat) (M : mm), 1 ≤ i → i ≤ 40 → 40 - i < n → ∃ M', X11_becomes_L26 a1 a2 K n x3 (nI i) M = K x3 M' ∧ M'.2 = M.2 ∧ (∀ j, (j < 84 ∨ 86 < j) → M'.1 j = M.1 j) ∧ (∀ c j, 84 ≤ c → c ≤ 86 → j < 39 → i ≤ j + 1 → M'.1 c j = M.1 c (j + 1)) ∧ ∀ c j, 84 ≤ c → c ≤ 86 → j + 1 < i → M'.1 c j = M.1 c j := by
  intro n
  induction n with
  | zero => intro i M _ _ h; omega
  | succ n ih =>
    intro i M h1 hi hn
    rw [X11_becomes_L26, show (40 : Int32) = nI 40 from rfl, i_ltP (by omega) (by omega)]
    obtain ⟨i, rfl⟩ : ∃ i', i = i' + 1 := ⟨i - 1, by omega⟩
    by_cases h40 : i + 1 < 40
    · rw [if_pos h40, nI_pred, nI_1]
      simp (disch := omega) only [n_inb, n_cl, gd_t, lt_s_, sA_s, sA_n]
      obtain ⟨M', g1, g2, g3, g4, g5⟩ := ih (i + 1 + 1) _ (by omega) (by omega) (by omega)
      refine ⟨M', g1, g2, fun j hj => ?_, fun c j c1 c2 hj hij => ?_, fun c j c1 c2 hj => ?_⟩
      · rw [g3 j hj]
        simp (disch := omega) only [sA_n]
      · have hc : c = 84 ∨ c = 85 ∨ c = 86 := by omega
        by_cases hji : j = i
        · subst hji
          rw [g5 c j c1 c2 (by omega)]
          rcases hc with rfl | rfl | rfl <;> simp (disch := omega) only [sA_n, sA_s, upd_s]
        · rw [g4 c j c1 c2 hj (by omega)]
          rcases hc with rfl | rfl | rfl <;> simp (disch := omega) only [sA_n, sA_s, upd_n]
      · have hc : c = 84 ∨ c = 85 ∨ c = 86 := by omega
        rw [g5 c j c1 c2 (by omega)]
        rcases hc with rfl | rfl | rfl <;> simp (disch := omega) only [sA_n, sA_s, upd_n]
    · rw [if_neg h40]
      exact ⟨M, rfl, rfl, fun _ _ => rfl, fun _ _ _ _ _ _ => by omega, fun _ _ _ _ _ => rfl⟩
theorem b_becomes {d k : Nat} {x y : Int32} {M : mm} (hd : d ≤ 40) (hk : k < 33) (h : M.1 82 5 = nI d) (hy : M.1 83 k = y) (hne : y ≠ x) : ∃ M', X11_becomes (nI k) x M = some (y, M') ∧ M'.2 = M.2 ∧ (∀ j, j ≠ 82 → (j < 83 ∨ 86 < j) → M'.1 j = M.1 j) ∧ (∀ j, j ≠ 4 → j ≠ 5 → M'.1 82 j = M.1 82 j) ∧ M'.1 83 = upd (M.1 83) k x ∧ ∃ d' s, d' ≤ 39 ∧ d' + s = d ∧ s = (if d = 40 then 1 else 0) ∧ M'.1 82 5 = nI (d' + 1) ∧ M'.1 82 4 = nI (d' + 1) ∧ nted s d' (M.1 84) (M'.1 84) (nI k) ∧ nted s d' (M.1 85) (M'.1 85) y ∧ nted s d' (M.1 86) (M'.1 86) x := by
  unfold X11_becomes
  rw [n_inb hk (by omega), gd_t, n_cl (by omega), hy, if_neg hne, h, show (40 : Int32) = nI 40 from rfl, i_eqP (by omega) (by omega)]
  by_cases c : d = 40
  · rw [if_pos c]
    obtain ⟨M1, g1, g2, g3, g4, g5⟩ := b_26 (a1 := nI k) (a2 := x) (x3 := y) (fun x3 M =>
          lt_ (sA M 82 (upd (M.1 82) 5 ((M.1 82 5) - 1))) fun M14 =>
          X11_becomes_b97 (nI k) x x3 M14) 10000 1 M (by omega) (by omega) (by omega)
    rw [show (1 : Int32) = nI 1 from rfl] at g1 ⊢
    rw [g1, lt_s_, g3 82 (by omega), h, c, show nI 40 - nI 1 = nI 39 from rfl]
    obtain ⟨M', h1, h2, h3, h4, h5, h6, h7, h8, h9, h10⟩ := b_97 (k := k) (x := x) (x3 := y) (d := 39) (M := sA M1 82 (upd (M.1 82) 5 (nI 39))) (by omega) hk (by rw [sA_s, upd_s])
    refine ⟨M', h1, by rw [h2]; exact g2, fun j j1 j2 => ?_, fun j j1 j2 => ?_, ?_, 39, 1, by omega, by omega, by rw [if_pos rfl], h6, h7, ⟨fun i hi => ?_, h8.2⟩, ⟨fun i hi => ?_, h9.2⟩, ⟨fun i hi => ?_, h10.2⟩⟩
    · rw [h3 j j1 j2, sA_n _ _ _ _ j1, g3 j (by omega)]
    · rw [h4 j j1 j2, sA_s, upd_n _ _ _ _ j2]
    · rw [h5, sA_n _ _ _ _ (by omega), g3 83 (by omega)]
    · rw [h8.1 i hi, sA_n _ _ _ _ (by omega)]; exact g4 84 i (by omega) (by omega) hi (by omega)
    · rw [h9.1 i hi, sA_n _ _ _ _ (by omega)]; exact g4 85 i (by omega) (by omega) hi (by omega)
    · rw [h10.1 i hi, sA_n _ _ _ _ (by omega)]; exact g4 86 i (by omega) (by omega) hi (by omega)
  · rw [if_neg c]
    obtain ⟨M', h1, h2, h3, h4, h5, h6, h7, h8, h9, h10⟩ := b_97 (k := k) (x := x) (x3 := y) (d := d) (M := M) (by omega) hk h
    exact ⟨M', h1, h2, h3, h4, h5, d, 0, by omega, by omega, by rw [if_neg c], h6, h7, h8, h9, h10⟩
