/-! ===== the call law ===== -/
theorem pT_pos {x : Nat → Int32} {n : Nat} : ∀ k p R q, p ≤ n → pT x n k p = (some R, q) → 0 < R.length ∧ R.length + p ≤ q + 1 ∧ q ≤ n := by
  intro k
  induction k with
  | zero => intro p R q _ h; cases h
  | succ k ih =>
    intro p R q hp h
    rw [pT] at h
    have h9 := pL_ok (x := x) hp
    rcases hq : pL x n p with ⟨_ | l, r⟩
    · rw [hq] at h
      cases h
    · rw [hq] at h h9
      obtain ⟨g1, g2, g3⟩ := h9
      obtain ⟨g4, g5, g6⟩ := g3 l rfl
      simp only at g1 g2 g4 g5 h
      by_cases hr : r < n
      · rw [if_pos hr] at h
        by_cases h59 : tb x n r = 59
        · rw [if_pos h59] at h
          rcases hR : pT x n k (r + 1) with ⟨_ | R', q'⟩
          · rw [hR] at h
            cases h
          · rw [hR] at h
            cases h
            have := ih (r + 1) R' q (by omega) hR
            exact ⟨by rw [List.length_append]; omega, by rw [List.length_append]; omega, this.2.2⟩
        · rw [if_neg h59] at h
          cases h
      · rw [if_neg hr] at h
        cases h
        exact ⟨g6, g5, g2⟩
theorem tb_congr {x y : Nat → Int32} {n : Nat} (h : ∀ i, i < n → x i = y i) (p : Nat) : tb x n p = tb y n p := by
  unfold tb
  by_cases hp : p < n
  · rw [if_pos hp, if_pos hp, h p hp]
  · rw [if_neg hp, if_neg hp]
theorem tb_fun {x y : Nat → Int32} {n : Nat} (h : ∀ i, i < n → x i = y i) : tb x n = tb y n := funext fun p => tb_congr h p
theorem dg_congr {x y : Nat → Int32} {n : Nat} (h : ∀ i, i < n → x i = y i) : ∀ k p v, dg x n k p v = dg y n k p v := by
  intro k
  induction k with
  | zero => intro p v; rfl
  | succ k ih => intro p v; rw [dg, dg, tb_congr h, ih]
theorem pLp_congr {x y : Nat → Int32} {n : Nat} (h : ∀ i, i < n → x i = y i) {r r' : Nat → Option (List stp) × Nat} (hr : r = r') (lv : Nat) : ∀ k p acc, pLp x n r lv k p acc = pLp y n r' lv k p acc := by
  subst hr
  intro k
  induction k with
  | zero => intro p acc; rfl
  | succ k ih =>
    intro p acc
    rw [pLp, pLp, tb_congr h]
    by_cases hc : lvO (tb y n p) = lv
    · rw [if_pos hc, if_pos hc]
      rcases r (p + 1) with ⟨_ | l, q⟩
      · rfl
      · exact ih q _
    · rw [if_neg hc, if_neg hc]
theorem pS_congr {x y : Nat → Int32} {n : Nat} (h : ∀ i, i < n → x i = y i) : ∀ f lv op p, pS x n f lv op p = pS y n f lv op p := by
  intro f
  induction f with
  | zero => intro lv op p; rfl
  | succ f ih =>
    intro lv op p
    have e : ∀ lv op, pS x n f lv op = pS y n f lv op := fun lv op => funext fun p => ih lv op p
    rw [pS, pS, ih, ih, ih, e, tb_fun h, dg_congr h]
    by_cases h5 : lv < 5
    · rw [if_pos h5, if_pos h5]
      rcases pS y n f (lv + 1) op p with ⟨_ | l, q⟩
      · rfl
      · exact pLp_congr h rfl lv _ q l
    · rw [if_neg h5, if_neg h5]
theorem pL_congr {x y : Nat → Int32} {n : Nat} (h : ∀ i, i < n → x i = y i) (p : Nat) : pL x n p = pL y n p := by
  unfold pL
  rw [pS_congr h]
  rcases pS y n 42 0 0 p with ⟨_ | l, q⟩
  · rfl
  · simp only
    rw [tb_congr h, pS_congr h]
theorem pT_congr {x y : Nat → Int32} {n : Nat} (h : ∀ i, i < n → x i = y i) : ∀ k p, pT x n k p = pT y n k p := by
  intro k
  induction k with
  | zero => intro p; rfl
  | succ k ih =>
    intro p
    rw [pT, pT, pL_congr h]
    rcases pL y n p with ⟨_ | l, q⟩
    · rfl
    · simp only
      rw [tb_congr h, ih]
/-- what the first side's law call does beside the answer -/
def LwA (Ma Ma' : mm) : Prop := (∀ k, k ∉ [9, 11, 13, 14, 15, 16, 17, 18, 20] → Ma'.1 k = Ma.1 k) ∧ Ma'.2.1 = Ma.2.1 ∧ Ma'.1 9 0 = 0 ∧ ∀ i, i ≠ 0 → Ma'.2.2 i = Ma.2.2 i
theorem w_becomeTape {n : Nat} {Ma : mm} (hn : n ≤ 120) (h9 : Ma.1 9 0 = nI n) : match pT (Ma.1 10) n (n + 1) 0 with
    | (some R, _) => ∃ Ma', X8_becomeTape Ma = some (-1, Ma') ∧ LwA Ma Ma' ∧ lawA (some R) Ma' ∧ rFo (some R) Ma'
    | (none, q) => q ≤ n ∧ ∃ Ma', X8_becomeTape Ma = some (nI q, Ma') ∧ LwA Ma Ma' ∧ (∀ k, k ∈ [16, 17, 18, 20] → Ma'.1 k = Ma.1 k) := by
  unfold X8_becomeTape
  rw [h9]
  have e : X5_read 10 (nI n) Ma = X5_read_L30 10 (nI n) 10000 (nI 0) (mc (sA (sR Ma 0 10) 11 (upd (Ma.1 11) 1 (nI n))) 0 []) := by
    unfold X5_read
    rw [lt_s_, show isA 0 10 = true from by decide, gd_t, show alN 10 = 120 from by decide, show Int32.ofNat 120 = nI 120 from rfl, i_ltP (by omega) (by omega), if_neg (by omega), lt_s_, lt_s_, lt_s_]
    congr 1
    refine mm_ext (fun k => ?_) rfl
    unfold mc
    by_cases h13 : k = 13
    · subst h13
      simp (disch := decide) only [sA_s, sA_n]
      rfl
    · by_cases h11 : k = 11
      · subst h11
        simp (disch := decide) only [sA_s, sA_n, sR_1]
        rfl
      · by_cases h14 : k = 14
        · subst h14
          simp (disch := decide) only [sA_s, sA_n, sR_1]
          funext i
          rw [if_neg (by simp)]
        · by_cases h15 : k = 15
          · subst h15
            simp (disch := decide) only [sA_s, sA_n, sR_1]
            funext i
            rw [if_neg (by simp)]
          · simp only [sA_1, if_neg h13, if_neg h11, if_neg h14, if_neg h15, sR_1]
  rw [e]
  have hx : TXc (sA (sR Ma 0 10) 11 (upd (Ma.1 11) 1 (nI n))) (Ma.1 10) n := by
    refine ⟨?_, hn, rfl, ?_⟩
    · rw [sA_s, upd_s]
    · rw [sA_n _ _ _ _ (by decide)]; rfl
  generalize hM0 : sA (sR Ma 0 10) 11 (upd (Ma.1 11) 1 (nI n)) = M0 at hx ⊢
  have hk : ∀ k, k ≠ 11 → M0.1 k = Ma.1 k := by
    intro k h
    rw [← hM0, sA_n _ _ _ _ h]; rfl
  have h2 : M0.2.1 = Ma.2.1 := by rw [← hM0]; rfl
  have h3 : ∀ i, i ≠ 0 → M0.2.2 i = Ma.2.2 i := by
    intro i hi
    rw [← hM0]
    exact if_neg hi
  have h0 := cb_read hx 10 (nI n) (n + 1) 10000 0 0 [] (by omega) (by omega) (by omega) (by omega) (by simp)
  rcases hq : pT (Ma.1 10) n (n + 1) 0 with ⟨_ | R, q⟩
  · rw [hq] at h0
    obtain ⟨g1, L', g2⟩ := h0
    refine ⟨g1, ?_⟩
    rw [g2, bd_s, lt_s_, i_nneg (by omega)]
    refine ⟨_, rfl, ⟨fun k hk' => ?_, h2, ?_, h3⟩, fun k hk' => ?_⟩
    · simp only [List.mem_cons, not_or, List.not_mem_nil] at hk'
      obtain ⟨a1, a2, a3, a4, a5, a6⟩ := hk'
      rw [sA_n _ _ _ _ a1, mc_k _ _ _ _ a2 a3 a4 a5, hk k a2]
    · rw [sA_s, upd_s]
    · have : k = 16 ∨ k = 17 ∨ k = 18 ∨ k = 20 := by simpa using hk'
      rw [sA_n _ _ _ _ (by omega), mc_k _ _ _ _ (by omega) (by omega) (by omega) (by omega), hk k (by omega)]
  · rw [hq] at h0
    obtain ⟨g1, g2⟩ := h0
    have hp := pT_pos _ 0 R q (by omega) hq
    rw [g1, bd_s, lt_s_, i_m1]
    unfold X7_become
    have hc : cpok 0 0 (nI R.length) 242 242 = true := n_cpok (by omega) (by omega) (by omega)
    have e13 : (sA (mc M0 q ([] ++ R)) 9 (upd ((mc M0 q ([] ++ R)).1 9) 0 0)).1 13 0 = nI R.length := by
      rw [sA_n _ _ _ _ (by decide), mc_sz]; rfl
    rw [show isO 7 16 = true from by decide, gd_t, show isO 7 13 = true from by decide, gd_t, lt_s_, e13]
    simp (disch := decide) only [lt_s_, gd_t, sA_s, sA_n, upd_s, hc, bd_s, w_fillB, show (16 + 1 : Nat) = 17 from rfl, show (16 + 2 : Nat) = 18 from rfl, show (13 + 1 : Nat) = 14 from rfl, show (13 + 2 : Nat) = 15 from rfl]
    refine ⟨_, rfl, ⟨fun k hk' => ?_, h2, ?_, h3⟩, ⟨hp.1, by omega, ?_, fun i hi => ⟨?_, ?_⟩⟩, fun t s a l k1 k2 k3 k4 k5 => Or.inl ?_⟩
    · simp only [List.mem_cons, not_or, List.not_mem_nil] at hk'
      obtain ⟨a1, a2, a3, a4, a5, a6, a7, a8, a9, -⟩ := hk'
      rw [sA_n _ _ _ _ a9, sA_n _ _ _ _ a8, sA_n _ _ _ _ a7, sA_n _ _ _ _ a6, sA_n _ _ _ _ a1, mc_k _ _ _ _ a2 a3 a4 a5, hk k a2]
    · simp (disch := decide) only [sA_s, sA_n, upd_s]
    · simp (disch := decide) only [sA_s, sA_n, upd_s]
    · simp (disch := decide) only [sA_s, sA_n, cpy_a]
      rw [n_cl (show R.length < 2 ^ 31 by omega), if_pos (by rw [show ((0 : Int32)).toNatClampNeg = 0 from by decide]; omega), show ((0 : Int32)).toNatClampNeg = 0 from by decide]
      unfold mc
      simp (disch := decide) only [sA_s, sA_n]
      rw [List.nil_append, if_pos (by omega), show 0 + (i - 0) = i from by omega]
    · simp (disch := decide) only [sA_s, sA_n, cpy_a]
      rw [n_cl (show R.length < 2 ^ 31 by omega), if_pos (by rw [show ((0 : Int32)).toNatClampNeg = 0 from by decide]; omega), show ((0 : Int32)).toNatClampNeg = 0 from by decide]
      unfold mc
      simp (disch := decide) only [sA_s, sA_n]
      rw [List.nil_append, if_pos (by omega), show 0 + (i - 0) = i from by omega]
    · rw [sA_s, if_pos (by unfold fo; omega)]
/-- the text laid by -/
theorem w_law37 (K : Int32 → mm → Option (Int32 × mm)) {N : Nat} (hN : N ≤ 120) : ∀ n i (M : mm), i ≤ N → N - i < n → X11_law_L37 K n (nI N) (nI i) M = K (nI N) (sA M 99 (fun j => if i ≤ j ∧ j < N then M.1 98 j else M.1 99 j)) := by
  intro n
  induction n with
  | zero => intro i M _ h; omega
  | succ n ih =>
    intro i M hi hn
    rw [X11_law_L37, i_ltP (by omega) (by omega)]
    by_cases h : i < N
    · rw [if_pos h, n_inb (by omega) (by omega), gd_t, gd_t, lt_s_, n_cl (by omega), nI_1, ih (i + 1) _ (by omega) (by omega), sA_sA]
      refine congrArg (fun z => K (nI N) (sA M 99 z)) (funext fun j => ?_)
      rw [sA_s, sA_n _ _ _ _ (by decide), upd_a]
      by_cases hj : j = i
      · subst hj
        rw [if_neg (by omega), if_pos rfl, if_pos (by omega)]
      · rw [if_neg hj]
        by_cases h2 : i + 1 ≤ j ∧ j < N
        · rw [if_pos h2, if_pos (by omega)]
        · rw [if_neg h2, if_neg (by omega)]
    · rw [if_neg h]
      refine congrArg (K (nI N)) (sA_same _ _ _ (funext fun j => ?_)).symm
      rw [if_neg (by omega)]
/-- what the other side's law call does beside the answer -/
def LwB (Mb Mb' : mm) : Prop := (∀ k, k ≠ 82 → k ≠ 99 → Mb'.1 k = Mb.1 k) ∧ Mb'.2 = Mb.2 ∧ Mb'.1 82 24 = 0 ∧ ∀ j, (j < 24 ∨ 31 < j) → Mb'.1 82 j = Mb.1 82 j
theorem w_lawB {n : Nat} {Mb : mm} (hn : n ≤ 120) (h24 : Mb.1 82 24 = nI n) : match pT (Mb.1 98) n (n + 1) 0 with
    | (some R, _) => ∃ Mb', X11_law Mb = some (1, Mb') ∧ LwB Mb Mb' ∧ lawB (some R) Mb'
    | (none, q) => q ≤ n ∧ ∃ Mb', X11_law Mb = some (-100 - nI q, Mb') ∧ LwB Mb Mb' ∧ Mb'.1 82 26 = Mb.1 82 26 ∧ Mb'.1 99 = Mb.1 99 := by
  unfold X11_law
  rw [h24]
  have h0 := w_workOut (M := Mb) (b := -1) (x := Mb.1 98) (n := n) (Or.inl ⟨rfl, rfl⟩) hn
  rcases hq : pT (Mb.1 98) n (n + 1) 0 with ⟨_ | R, q⟩
  · rw [hq] at h0
    obtain ⟨g1, v, o, g2⟩ := h0
    refine ⟨g1, ?_⟩
    have e30 : (sA (mr (wB Mb (-1) n) (nI q) (nI q) o) 82 (upd ((mr (wB Mb (-1) n) (nI q) (nI q) o).1 82) 24 0)).1 82 30 = nI q := by
      rw [sA_s, upd_n _ _ _ _ (by decide), mr_30]
    have hE := EqN_wB Mb (-1) (nI q) (nI q) o n
    rw [g2, bd_s, lt_s_, e30, i_nneg (by omega)]
    refine ⟨_, rfl, ⟨fun k a b => ?_, rfl, ?_, fun j hj => ?_⟩, ?_, ?_⟩
    · rw [sA_n _ _ _ _ a, mr_k _ _ _ _ _ a]
      exact sA_n _ _ _ _ a
    · rw [sA_s, upd_s]
    · rw [sA_s, upd_n _ _ _ _ (by omega)]
      exact hE.2.2 j (by omega)
    · rw [sA_s, upd_n _ _ _ _ (by omega)]
      exact hE.2.2 26 (by omega)
    · rw [sA_n _ _ _ _ (by decide)]
      exact hE.2.1 99 (by decide) (by decide)
  · rw [hq] at h0
    obtain ⟨g1, rfl⟩ := h0
    have hE := EqN_wB Mb (-1) (nI q) (-1) 0 q
    have e30 : (sA (mr (wB Mb (-1) q) (nI q) (-1) 0) 82 (upd ((mr (wB Mb (-1) q) (nI q) (-1) 0).1 82) 24 0)).1 82 30 = -1 := by
      rw [sA_s, upd_n _ _ _ _ (by decide), mr_30]
    have e24 : (mr (wB Mb (-1) q) (nI q) (-1) 0).1 82 24 = nI q := by
      rw [hE.2.2 24 (by omega), h24]
    have h37 := w_law37 (fun x2 M => lt_ (sA M 82 (upd (M.1 82) 26 x2)) fun M10 => some (1, M10)) hn 10000 0 (sA (mr (wB Mb (-1) q) (nI q) (-1) 0) 82 (upd ((mr (wB Mb (-1) q) (nI q) (-1) 0).1 82) 24 0)) (by omega) (by omega)
    rw [show nI 0 = 0 from rfl] at h37
    rw [g1, bd_s, lt_s_, e30, i_m1, e24, h37, lt_s_]
    refine ⟨_, rfl, ⟨fun k a b => ?_, rfl, ?_, fun j hj => ?_⟩, q, hn, ?_, ?_⟩
    · rw [sA_n _ _ _ _ a, sA_n _ _ _ _ b, sA_n _ _ _ _ a, mr_k _ _ _ _ _ a]
      exact sA_n _ _ _ _ a
    · simp (disch := decide) only [sA_s, sA_n, upd_n, upd_s]
    · rw [sA_s, upd_n _ _ _ _ (by omega), sA_n _ _ _ _ (by decide), sA_s, upd_n _ _ _ _ (by omega)]
      exact hE.2.2 j (by omega)
    · rw [sA_s, upd_s]
    · rw [← hq]
      refine pT_congr (fun i hi => ?_) _ _
      simp (disch := decide) only [sA_s, sA_n]
      rw [if_pos ⟨by omega, hi⟩, hE.2.1 98 (by decide) (by decide)]
