/-! ===== a mending, on both sides ===== -/
theorem n_cpok2 {a b n x y : Nat} (h1 : a + n ≤ x) (h2 : b + n ≤ y) (hx : x < 2 ^ 31) (hy : y < 2 ^ 31) : cpok (nI a) (nI b) (nI n) x y = true := by
  unfold cpok
  rw [n_cl (by omega), n_cl (by omega), n_cl (by omega)]
  have e : ∀ z, z < 2 ^ 31 → ¬ nI z < 0 := fun z hz => by
    rw [q_lt, n_ti hz, z32_0]; omega
  simp [e a (by omega), e b (by omega), e n (by omega)]
  omega
/-- the nails behind a mending -/
def nl (old : Nat → Int32) (n p i : Nat) : Int32 := if n = 8 then (if i = 7 then nI p else old (i + 1)) else if i = n then nI p else old i
def nn (n : Nat) : Nat := if n = 8 then 8 else n + 1
theorem sA_4 (M : mm) {a b : Nat} (h : a ≠ b) (f f' g g' : Nat → Int32) : sA (sA (sA (sA M a f) b g) a f') b g' = sA (sA M a f') b g' := by
  refine mm_ext (fun k => ?_) rfl
  simp only [sA_1]
  by_cases c1 : k = b
  · rw [if_pos c1, if_pos c1]
  · rw [if_neg c1, if_neg c1]
    by_cases c2 : k = a
    · rw [if_pos c2, if_pos c2, if_neg c1]
    · rw [if_neg c2, if_neg c2, if_neg c1, if_neg c2]
theorem w_driveNail {w t p n : Nat} {M : mm} (hw : isO 9 w = true) (ht : t < 6) (hn : n ≤ 8) (h : M.1 (w + 5) t = nI n) : ∃ f, X9_driveNail w (nI t) (nI p) M = some ((), sA (sA M (w + 6) f) (w + 5) (upd (M.1 (w + 5)) t (nI (nn n)))) ∧ (∀ i, i < nn n → f (8 * t + i) = nl (fun i => M.1 (w + 6) (8 * t + i)) n p i) ∧ ∀ t' i, t' ≠ t → i < 8 → f (8 * t' + i) = M.1 (w + 6) (8 * t' + i) := by
  unfold X9_driveNail
  rw [hw, gd_t, n_inb ht (by omega), gd_t, n_cl (by omega), h, show (8 : Int32) = nI 8 from rfl, i_eqP (by omega) (by omega), n_mul]
  have e43 : ∀ (M1 : mm) (k : Nat), k < 8 → M1.1 (w + 5) t = nI k → X9_driveNail_b43 w (nI t) (nI p) (nI (t * 8)) M1 = some ((), sA (sA M1 (w + 6) (upd (M1.1 (w + 6)) (t * 8 + k) (nI p))) (w + 5) (upd (M1.1 (w + 5)) t (nI (k + 1)))) := by
    intro M1 k hk hk1
    unfold X9_driveNail_b43
    rw [n_inb ht (by omega), gd_t, n_cl (show t < 2 ^ 31 by omega), hk1, n_add, n_inb (by omega) (by omega), gd_t, lt_s_, gd_t, gd_t, n_cl (by omega), sA_n _ _ _ _ (by omega), hk1, nI_1, lt_s_]
  by_cases h8 : n = 8
  · rw [if_pos h8, show nI (t * 8) + 1 = nI (t * 8 + 1) from nI_1 _, show (7 : Int32) = nI 7 from rfl, n_cpok2 (by omega) (by omega) (by omega) (by omega), gd_t, lt_s_, gd_t, gd_t, sA_n _ _ _ _ (by omega), h, h8, show nI 8 - 1 = nI 7 from rfl, lt_s_, n_cl (by omega), n_cl (by omega), n_cl (by omega)]
    rw [e43 _ 7 (by omega) (by rw [sA_s, upd_s])]
    rw [sA_s, sA_n _ _ _ _ (by omega), sA_s, sA_4 M (by omega), upd_upd]
    refine ⟨_, rfl, fun i hi => ?_, fun t' i h1 h2 => ?_⟩
    · simp only [nn, if_true] at hi
      rw [upd_a, cpy_a]
      unfold nl
      rw [if_pos rfl]
      by_cases h7 : i = 7
      · rw [if_pos (by omega), if_pos h7]
      · rw [if_neg (by omega), if_pos (by omega), if_neg h7]
        rw [show t * 8 + 1 + (8 * t + i - t * 8) = 8 * t + (i + 1) from by omega]
    · rw [upd_a, cpy_a, if_neg (by omega), if_neg (by omega)]
  · rw [if_neg h8, e43 M n (by omega) h]
    have hnn : nn n = n + 1 := if_neg h8
    refine ⟨_, by rw [hnn], fun i hi => ?_, fun t' i h1 h2 => ?_⟩
    · rw [upd_a]
      unfold nl
      rw [if_neg h8]
      by_cases hin : i = n
      · rw [if_pos (by omega), if_pos hin]
      · rw [if_neg (by omega), if_neg hin]
    · rw [upd_a, if_neg (by omega)]
theorem w_L109 (a2 : Int32) (K : mm → Option (Unit × mm)) {t : Nat} (ht : t < 6) : ∀ n i (M : mm), 1 ≤ i → i ≤ 8 → 8 - i < n → ∃ f, X11_mended_L109 (nI t) a2 K n (nI i) M = K (sA M 95 f) ∧ (∀ j, i ≤ j → j < 8 → f (8 * t + j - 1) = M.1 95 (8 * t + j)) ∧ ∀ j, (j < 8 * t + i - 1 ∨ 8 * t + 7 ≤ j) → f j = M.1 95 j := by
  intro n
  induction n with
  | zero => intro i M _ _ h; omega
  | succ n ih =>
    intro i M hi1 hi hn
    rw [X11_mended_L109, n8, i_ltP (by omega) (by omega)]
    by_cases h : i < 8
    · rw [if_pos h, n_mul, n_add, n_inb (by omega) (by omega), gd_t, n1, n_sub (by omega), n_inb (by omega) (by omega), gd_t, lt_s_, n_cl (by omega), n_cl (by omega), n_add]
      obtain ⟨f, e, h1, h2⟩ := ih (i + 1) (sA M 95 (upd (M.1 95) (8 * t + i - 1) (M.1 95 (8 * t + i)))) (by omega) (by omega) (by omega)
      rw [e, sA_sA]
      rw [sA_s] at h1 h2
      refine ⟨f, rfl, fun j hj hj8 => ?_, fun j hj => ?_⟩
      · by_cases hji : j = i
        · rw [hji, h2 _ (by omega), upd_s]
        · rw [h1 j (by omega) hj8, upd_n _ _ _ _ (by omega)]
      · rw [h2 j (by omega), upd_n _ _ _ _ (by omega)]
    · rw [if_neg h]
      refine ⟨M.1 95, ?_, fun j hj hj8 => by omega, fun _ _ => rfl⟩
      rw [sA_same _ _ _ rfl]
/-- the other side's nails, from the same place on -/
theorem w_nailB {t p n : Nat} {M : mm} (ht : t < 6) (hn : n ≤ 8) (h : M.1 96 t = nI n) : ∃ f, (if (M.1 96 t) = 8 then
    X11_mended_L109 (nI t) (nI p) (fun M =>
        gd (inb (nI t) 6) <|
        gd (inb (nI t) 6) <|
        lt_ (sA M 96 (upd (M.1 96) (nI t).toNatClampNeg ((M.1 96 (nI t).toNatClampNeg) - 1))) fun M30 =>
        X11_mended_b155 (nI t) (nI p) M30) 10000 1 M
  else
    X11_mended_b155 (nI t) (nI p) M) = some ((), sA (sA M 95 f) 96 (upd (M.1 96) t (nI (nn n)))) ∧ (∀ i, i < nn n → f (8 * t + i) = nl (fun i => M.1 95 (8 * t + i)) n p i) ∧ ∀ t' i, t' ≠ t → i < 8 → f (8 * t' + i) = M.1 95 (8 * t' + i) := by
  have e155 : ∀ (M1 : mm) (k : Nat), k < 8 → M1.1 96 t = nI k → X11_mended_b155 (nI t) (nI p) M1 = some ((), sA (sA M1 95 (upd (M1.1 95) (8 * t + k) (nI p))) 96 (upd (M1.1 96) t (nI (k + 1)))) := by
    intro M1 k hk hk1
    unfold X11_mended_b155
    rw [n_inb ht (by omega), gd_t, n_cl (show t < 2 ^ 31 by omega), hk1, n8, n_mul, n_add, n_inb (by omega) (by omega), gd_t, lt_s_, gd_t, gd_t, n_cl (by omega), sA_n _ _ _ _ (by decide), hk1, nI_1, lt_s_]
  rw [h, show (8 : Int32) = nI 8 from rfl, i_eqP (by omega) (by omega)]
  by_cases h8 : n = 8
  · rw [if_pos h8]
    obtain ⟨f, e, h1, h2⟩ := w_L109 (nI p) (fun M =>
        gd (inb (nI t) 6) <|
        gd (inb (nI t) 6) <|
        lt_ (sA M 96 (upd (M.1 96) (nI t).toNatClampNeg ((M.1 96 (nI t).toNatClampNeg) - 1))) fun M30 =>
        X11_mended_b155 (nI t) (nI p) M30) ht 10000 1 M (by omega) (by omega) (by omega)
    rw [show nI 1 = (1 : Int32) from rfl] at e
    rw [e]
    rw [n_inb ht (by omega), gd_t, gd_t, n_cl (by omega), sA_n _ _ _ _ (by decide), h, h8, show nI 8 - 1 = nI 7 from rfl, lt_s_]
    rw [e155 _ 7 (by omega) (by rw [sA_s, upd_s])]
    rw [sA_s, sA_n _ _ _ _ (by decide), sA_s, sA_4 M (by decide), upd_upd]
    refine ⟨_, rfl, fun i hi => ?_, fun t' i c1 c2 => ?_⟩
    · simp only [nn, if_true] at hi
      rw [upd_a]
      unfold nl
      rw [if_pos rfl]
      by_cases h7 : i = 7
      · rw [if_pos (by omega), if_pos h7]
      · rw [if_neg (by omega), if_neg h7]
        have := h1 (i + 1) (by omega) (by omega)
        rw [show 8 * t + (i + 1) - 1 = 8 * t + i from by omega] at this
        exact this
    · rw [upd_a, if_neg (by omega), h2 _ (by omega)]
  · rw [if_neg h8, e155 M n (by omega) h]
    have hnn : nn n = n + 1 := if_neg h8
    refine ⟨_, by rw [hnn], fun i hi => ?_, fun t' i c1 c2 => ?_⟩
    · rw [upd_a]
      unfold nl
      rw [if_neg h8]
      by_cases hin : i = n
      · rw [if_pos (by omega), if_pos hin]
      · rw [if_neg (by omega), if_neg hin]
    · rw [upd_a, if_neg (by omega)]
