/-! ===== the first side's years of thought ===== -/
/-- within one year of thought: but for what is held and found, left, mended and the page here -/
def EqM (M M' : mm) : Prop := M'.2.2 = M.2.2 ∧ (∀ k, k ≠ 19 → k ≠ 20 → M'.1 k = M.1 k) ∧ ∀ k, k ≠ 24 → k ≠ 25 → k ≠ M.2.2 1 → M'.2.1 k = M.2.1 k
theorem EqM_r (M : mm) : EqM M M := ⟨rfl, fun _ _ _ => rfl, fun _ _ _ _ => rfl⟩
theorem EqM_t {M M' M'' : mm} (h : EqM M M') (h2 : EqM M' M'') : EqM M M'' := ⟨h2.1.trans h.1, fun k a b => (h2.2.1 k a b).trans (h.2.1 k a b), fun k a b c => (h2.2.2 k a b (by rw [h.1]; exact c)).trans (h.2.2 k a b c)⟩
theorem EqM_X {M M' : mm} (h : EqX M M') : EqM M M' := ⟨by rw [h.1], h.2, fun k _ _ _ => by rw [h.1]⟩
theorem EqM_L {M M' : mm} (h : EqM M M') {k0 : Nat} (f : Nat → Int64) (hk : k0 = 24 ∨ k0 = 25 ∨ k0 = M.2.2 1) : EqM M (sL M' k0 f) := ⟨h.1, h.2.1, fun k a b c => by rw [sL_n _ _ _ _ (by rcases hk with q | q | q <;> rw [q] <;> assumption)]; exact h.2.2 k a b c⟩
theorem tS_M {c : cns} {O : Option (List stp)} {t l0 a0 : Nat} {M M' : mm} (h : tS c O t l0 a0 M) (e : EqM M M') (hF : rFo O M') : tS c O t l0 a0 M' := tS_X h e.1 e.2.1 hF
/-- what the page behind holds -/
def bH (V : Nat → Nat → Nat → Int64) (l0 a0 gone : Nat) (M : mm) : Prop := ∀ p, p ≤ 1 + 2 * gone → p ≠ 1 → ∀ s, 1 ≤ s → s ≤ 3 → M.2.1 (M.2.2 2) (p * 4 + s) = V s (psl l0 p) (psa a0 gone p)
theorem bH_M {V : Nat → Nat → Nat → Int64} {l0 a0 gone : Nat} {M M' : mm} (h : bH V l0 a0 gone M) (hR : RefOK M) (e : EqM M M') : bH V l0 a0 gone M' := by
  intro p hp h1 s s1 s3
  obtain ⟨-, -, -, -, r5, -, -, r8, r9, -⟩ := ref_beh hR
  rw [e.1, e.2.2 _ r8 r9 (Ne.symm r5)]
  exact h p hp h1 s s1 s3
theorem u_M {M M' : mm} (hR : RefOK M) (e : EqM M M') : M'.2.1 21 = M.2.1 21 := by
  obtain ⟨-, -, -, -, -, -, -, -, -, r10, -⟩ := ref_beh hR
  exact e.2.2 21 (by decide) (by decide) (Ne.symm r10)
theorem go_of {c : cns} {O : Option (List stp)} {t l0 a0 : Nat} (hC : tC c O t l0 a0) {M : mm} (hS : tS c O t l0 a0 M) {V : Nat → Nat → Nat → Int64} {pw : Int64} (hu : M.2.1 21 10 = pw) {gone : Nat} (hg : M.1 21 9 = nI gone) (hg5 : gone ≤ 5) (hB : bH V l0 a0 (gone + 1) M) {p s : Nat} (hp : p ≤ 1 + 2 * gone) (hs1 : 1 ≤ s) (hs : s ≤ 3) : ∃ M', X4_goOn (nI p) (nI s) M = some (gV c V pw s (psl l0 p) (psa a0 gone p), M') ∧ EqX M M' ∧ rFo O M' := by
  refine w_goOn hC hS hu hg (by omega) (by omega) hs1 hs (fun s' s1 s3 => ?_) ?_
  · rw [hB (odr p) (by unfold odr; split <;> omega) (by unfold odr; split <;> omega) s' s1 s3, psl_odr, psa_odr (by omega)]
  · have := hB 2 (by omega) (by omega) 3 (by omega) (by omega)
    exact this
theorem th_L51 {c : cns} {O : Option (List stp)} {t l0 a0 : Nat} (hC : tC c O t l0 a0) {V : Nat → Nat → Nat → Int64} {k gone : Nat} (hg5 : gone ≤ 5) (a1 a2 x3 : Int32) (K : Int32 → mm → Option (Unit × mm)) : ∀ n s (M : mm), s ≤ 3 → s < n → tS c O t l0 a0 M → M.2.1 21 10 = pw12 k → M.1 21 9 = nI gone → bH V l0 a0 (gone + 1) M → (∀ s', s < s' → s' ≤ 3 → M.2.1 25 s' = mV c V k s') → ∃ M', X4_think_L51 a1 a2 K n x3 (nI s) M = K x3 M' ∧ EqM M M' ∧ rFo O M' ∧ (∀ s', 1 ≤ s' → s' ≤ 3 → M'.2.1 25 s' = mV c V k s') ∧ M'.2.1 (M.2.2 1) = M.2.1 (M.2.2 1) ∧ M'.2.1 24 = M.2.1 24 := by
  intro n
  induction n with
  | zero => intro s M _ h; omega
  | succ n ih =>
    intro s M hs hn hS hu hg hB hm
    have hk := hC.2.1
    obtain ⟨-, -, -, -, -, -, r7, -⟩ := ref_beh hS.2.2.2.2
    rw [X4_think_L51, n1, i_ltP (by omega) (by omega)]
    by_cases h0 : s < 1
    · rw [if_pos h0]
      exact ⟨M, rfl, EqM_r M, hS.2.2.2.1, fun s' _ s3 => hm s' (by omega) s3, rfl, rfl⟩
    · have fin : ∀ (v : Int64) (M1 : mm), v = mV c V k s → EqX M M1 → rFo O M1 → ∃ M', X4_think_b106 a1 a2 (X4_think_L51 a1 a2 K n) K x3 (nI s) (nI s) v M1 = K x3 M' ∧ EqM M M' ∧ rFo O M' ∧ (∀ s', 1 ≤ s' → s' ≤ 3 → M'.2.1 25 s' = mV c V k s') ∧ M'.2.1 (M.2.2 1) = M.2.1 (M.2.2 1) ∧ M'.2.1 24 = M.2.1 24 := by
        intro v M1 hv hX hF
        unfold X4_think_b106
        have e2 : EqM M (sL M1 25 (vp_updL (M1.2.1 25) s v)) := EqM_L (EqM_X hX) _ (Or.inr (Or.inl rfl))
        have hF2 : rFo O (sL M1 25 (vp_updL (M1.2.1 25) s v)) := hF
        rw [n_inb (by omega) (by omega), gd_t, lt_s_, n_cl (by omega), show nI s + -1 = nI (s - 1) from by rw [show s = (s - 1) + 1 from by omega, nI_m1]; rfl]
        obtain ⟨M', q1, q2, q3, q4, q5, q6⟩ := ih (s - 1) _ (by omega) (by omega) (tS_M hS e2 hF2) (by rw [u_M hS.2.2.2.2 e2]; exact hu) (by rw [e2.2.1 21 (by decide) (by decide)]; exact hg) (bH_M hB hS.2.2.2.2 e2) (fun s' h1 h3 => by
          rw [sL_s, updL_a]
          by_cases h : s' = s
          · rw [if_pos h, h]; exact hv
          · rw [if_neg h, hX.1]; exact hm s' (by omega) h3)
        refine ⟨M', q1, EqM_t e2 q2, q3, q4, ?_, ?_⟩
        · rw [e2.1] at q5
          rw [q5, sL_n _ _ _ _ r7, hX.1]
        · rw [q6, sL_n _ _ _ _ (by decide), hX.1]
      rw [if_neg h0, hS.1.2.1, i_ltP (by omega) (by omega)]
      by_cases h1 : s < cSk c
      · rw [if_pos h1, n_inb (by omega) (by omega), gd_t, n_cl (by omega), hm (cSk c) h1 (by omega)]
        refine fin _ M ?_ (EqX_r M) hS.2.2.2.1
        unfold mV
        rw [if_neg (Nat.lt_irrefl _), if_pos h1]
      · rw [if_neg h1]
        obtain ⟨M1, g1, g2, g3⟩ := go_of (p := 1) hC hS hu hg hg5 hB (by omega) (show 1 ≤ s by omega) hs
        rw [g1, bd_s, g2.2 21 (by decide) (by decide), hS.1.2.2.1, g2.1, hu]
        refine fin _ M1 ?_ g2 g3
        unfold mV
        rw [if_neg h1]
        show gV c V (pw12 k) s 0 0 - (nI (cFe c)).toInt64 * pw12 k * 12 = gV c V (pw12 k) s 0 0 - (nI (cFe c)).toInt64 * (12 * pw12 k)
        rw [Int64.mul_assoc, Int64.mul_comm (pw12 k) 12]
theorem w_mendsAt {c : cns} {M : mm} (h8 : M.1 21 8 = nI (cWy c)) (hw : cWy c ≤ 4) {s : Nat} (hs : s ≤ 3) : X4_mendsAt (nI s) M = some (bI (bV c s (M.2.1 25 s) (M.2.1 24 s)), M) := by
  unfold X4_mendsAt bV
  rw [h8, show (4 : Int32) = nI 4 from rfl, i_eqP (by omega) (by omega), i_ltP (by omega) (by omega), n_inb (by omega) (by omega), gd_t, gd_t, n_cl (by omega), i_P (lg_gt0 _ _)]
  by_cases h4 : cWy c = 4
  · rw [if_pos h4, if_pos h4]
    by_cases h : M.2.1 24 s < M.2.1 25 s
    · rw [if_pos h, decide_eq_true h]; rfl
    · rw [if_neg h, decide_eq_false h]; rfl
  · rw [if_neg h4, if_neg h4]
    by_cases h : cWy c < s
    · rw [if_pos h, decide_eq_false (by omega)]; rfl
    · rw [if_neg h, decide_eq_true (by omega)]; rfl
theorem w_worthAt {c : cns} {M : mm} (h8 : M.1 21 8 = nI (cWy c)) (hw : cWy c ≤ 4) {s : Nat} (hs : s ≤ 3) : X4_worthAt (nI s) M = some (if bV c s (M.2.1 25 s) (M.2.1 24 s) = true then M.2.1 25 s else M.2.1 24 s, M) := by
  unfold X4_worthAt
  rw [w_mendsAt h8 hw hs, bd_s, i_P (bI_0 _), n_inb (by omega) (by omega), gd_t, gd_t, n_cl (by omega)]
  cases bV c s (M.2.1 25 s) (M.2.1 24 s) <;> rfl
theorem th_L141 {c : cns} {O : Option (List stp)} {t l0 a0 : Nat} (hC : tC c O t l0 a0) {k gone p : Nat} (hg5 : gone ≤ 5) (hp : p ≤ 1 + 2 * gone) (a1 a2 x3 : Int32) (K : Int32 → Int32 → mm → Option (Unit × mm)) : ∀ n s (M : mm), 1 ≤ s → s ≤ 4 → 4 - s < n → tS c O t l0 a0 M → M.2.1 21 10 = pw12 k → M.1 21 9 = nI gone → bH (vV c k) l0 a0 (gone + 1) M → (∀ s', 1 ≤ s' → s' ≤ 3 → M.2.1 25 s' = mV c (vV c k) k s') → ∃ M', X4_think_L141 a1 a2 K n x3 (nI p) (nI s) M = K x3 (nI p) M' ∧ EqM M M' ∧ rFo O M' ∧ M'.2.1 25 = M.2.1 25 ∧ (∀ s', s ≤ s' → s' ≤ 3 → M'.2.1 24 s' = gV c (vV c k) (pw12 k) s' (psl l0 p) (psa a0 gone p)) ∧ (∀ s', s' < s → M'.2.1 24 s' = M.2.1 24 s') ∧ (∀ s', s ≤ s' → s' ≤ 3 → M'.2.1 (M.2.2 1) (p * 4 + s') = vV c (k + 1) s' (psl l0 p) (psa a0 gone p)) ∧ ∀ j, (j < p * 4 + s ∨ p * 4 + 4 ≤ j) → M'.2.1 (M.2.2 1) j = M.2.1 (M.2.2 1) j := by
  intro n
  induction n with
  | zero => intro s M _ _ h; omega
  | succ n ih =>
    intro s M hs1 hs hn hS hu hg hB hm
    have hk := hC.2.1
    obtain ⟨-, -, r3, r4, -, r6, r7, -⟩ := ref_beh hS.2.2.2.2
    rw [X4_think_L141, n3, i_ltP (by omega) (by omega)]
    by_cases h3 : 3 < s
    · rw [if_pos h3]
      exact ⟨M, rfl, EqM_r M, hS.2.2.2.1, rfl, fun s' h1 h2 => by omega, fun _ _ => rfl, fun s' h1 h2 => by omega, fun _ _ => rfl⟩
    · obtain ⟨M1, g1, g2, g3⟩ := go_of hC hS hu hg hg5 hB hp hs1 (show s ≤ 3 by omega)
      rw [if_neg h3, g1, bd_s, n_inb (by omega) (by omega), gd_t, lt_s_, n_cl (by omega)]
      have e22 : (sL M1 24 (vp_updL (M1.2.1 24) s (gV c (vV c k) (pw12 k) s (psl l0 p) (psa a0 gone p)))).2.2 1 = M.2.2 1 := by
        show M1.2.2 1 = _
        rw [g2.1]
      have e8 : (sL M1 24 (vp_updL (M1.2.1 24) s (gV c (vV c k) (pw12 k) s (psl l0 p) (psa a0 gone p)))).1 21 8 = nI (cWy c) := by
        show M1.1 21 8 = _
        rw [g2.2 21 (by decide) (by decide)]
        exact hS.1.2.2.2.2.2
      rw [w_worthAt e8 hk.2.2.1 (show s ≤ 3 by omega), bd_s, e22, r3, gd_t, r4, n4, n_mul, n_add, n_inb (by omega) (by omega), gd_t, lt_s_, n_cl (by omega), nI_1, sL_s, updL_s, sL_n _ _ _ _ (show (25 : Nat) ≠ 24 by decide), g2.1, hm s hs1 (by omega), sL_n _ _ _ _ r6, g2.1]
      have ev : (if bV c s (mV c (vV c k) k s) (gV c (vV c k) (pw12 k) s (psl l0 p) (psa a0 gone p)) = true then mV c (vV c k) k s else gV c (vV c k) (pw12 k) s (psl l0 p) (psa a0 gone p)) = vV c (k + 1) s (psl l0 p) (psa a0 gone p) := rfl
      rw [ev]
      have e2 : EqM M (sL (sL M1 24 (vp_updL (M.2.1 24) s (gV c (vV c k) (pw12 k) s (psl l0 p) (psa a0 gone p)))) (M.2.2 1) (vp_updL (M.2.1 (M.2.2 1)) (p * 4 + s) (vV c (k + 1) s (psl l0 p) (psa a0 gone p)))) := EqM_L (EqM_L (EqM_X g2) _ (Or.inl rfl)) _ (Or.inr (Or.inr rfl))
      have hF2 : rFo O (sL (sL M1 24 (vp_updL (M.2.1 24) s (gV c (vV c k) (pw12 k) s (psl l0 p) (psa a0 gone p)))) (M.2.2 1) (vp_updL (M.2.1 (M.2.2 1)) (p * 4 + s) (vV c (k + 1) s (psl l0 p) (psa a0 gone p)))) := g3
      have e25 : (sL (sL M1 24 (vp_updL (M.2.1 24) s (gV c (vV c k) (pw12 k) s (psl l0 p) (psa a0 gone p)))) (M.2.2 1) (vp_updL (M.2.1 (M.2.2 1)) (p * 4 + s) (vV c (k + 1) s (psl l0 p) (psa a0 gone p)))).2.1 25 = M.2.1 25 := by
        rw [sL_n _ _ _ _ (Ne.symm r7), sL_n _ _ _ _ (by decide), g2.1]
      obtain ⟨M', q1, q2, q3, q4, q5, q6, q7, q8⟩ := ih (s + 1) _ (by omega) (by omega) (by omega) (tS_M hS e2 hF2) (by rw [u_M hS.2.2.2.2 e2]; exact hu) (by rw [e2.2.1 21 (by decide) (by decide)]; exact hg) (bH_M hB hS.2.2.2.2 e2) (fun s' h1 h3 => by rw [e25]; exact hm s' h1 h3)
      have e24 : ∀ j, (sL (sL M1 24 (vp_updL (M.2.1 24) s (gV c (vV c k) (pw12 k) s (psl l0 p) (psa a0 gone p)))) (M.2.2 1) (vp_updL (M.2.1 (M.2.2 1)) (p * 4 + s) (vV c (k + 1) s (psl l0 p) (psa a0 gone p)))).2.1 24 j = vp_updL (M.2.1 24) s (gV c (vV c k) (pw12 k) s (psl l0 p) (psa a0 gone p)) j := by
        intro j
        rw [sL_n _ _ _ _ (Ne.symm r6), sL_s]
      rw [e2.1] at q7 q8
      refine ⟨M', q1, EqM_t e2 q2, q3, q4.trans e25, fun s' h1 h2 => ?_, fun s' h1 => ?_, fun s' h1 h2 => ?_, fun j hj => ?_⟩
      · by_cases h : s' = s
        · rw [h, q6 s (by omega), e24, updL_s]
        · exact q5 s' (by omega) h2
      · rw [q6 s' (by omega), e24, updL_n _ _ _ _ (by omega)]
      · by_cases h : s' = s
        · rw [h, q8 _ (by omega), sL_s, updL_s]
        · exact q7 s' (by omega) h2
      · rw [q8 j (by omega), sL_s, updL_n _ _ _ _ (by omega)]
theorem th_L116 {c : cns} {O : Option (List stp)} {t l0 a0 : Nat} (hC : tC c O t l0 a0) {k gone : Nat} (hg5 : gone ≤ 5) (a1 a2 x3 : Int32) (K : Int32 → mm → Option (Unit × mm)) : ∀ n p (M : mm), p ≤ 2 + 2 * gone → 2 + 2 * gone - p < n → tS c O t l0 a0 M → M.2.1 21 10 = pw12 k → M.1 21 9 = nI gone → bH (vV c k) l0 a0 (gone + 1) M → (∀ s', 1 ≤ s' → s' ≤ 3 → M.2.1 25 s' = mV c (vV c k) k s') → (∀ p', p' < p → p' ≠ 1 → ∀ s, 1 ≤ s → s ≤ 3 → M.2.1 (M.2.2 1) (p' * 4 + s) = vV c (k + 1) s (psl l0 p') (psa a0 gone p')) → (gone = 0 → 0 < p → ∀ s, 1 ≤ s → s ≤ 3 → M.2.1 24 s = gV c (vV c k) (pw12 k) s l0 a0) → ∃ M', X4_think_L116 a1 a2 K n x3 (nI p) M = K x3 M' ∧ EqM M M' ∧ rFo O M' ∧ M'.2.1 25 = M.2.1 25 ∧ (∀ p', p' ≤ 1 + 2 * gone → p' ≠ 1 → ∀ s, 1 ≤ s → s ≤ 3 → M'.2.1 (M.2.2 1) (p' * 4 + s) = vV c (k + 1) s (psl l0 p') (psa a0 gone p')) ∧ (gone = 0 → ∀ s, 1 ≤ s → s ≤ 3 → M'.2.1 24 s = gV c (vV c k) (pw12 k) s l0 a0) := by
  intro n
  induction n with
  | zero => intro p M _ h; omega
  | succ n ih =>
    intro p M hp hn hS hu hg hB hm hh hl
    rw [X4_think_L116, hg, show (1 : Int32) + 2 * nI gone = nI (1 + 2 * gone) from by rw [n1, n2, n_mul, n_add], i_ltP (by omega) (by omega)]
    by_cases h1 : 1 + 2 * gone < p
    · rw [if_pos h1]
      exact ⟨M, rfl, EqM_r M, hS.2.2.2.1, rfl, fun p' hp' => hh p' (by omega), fun h0 => hl h0 (by omega)⟩
    · rw [if_neg h1, show (if nI p = 1 then X4_think_b186 a1 a2 (X4_think_L116 a1 a2 K n) K x3 (nI p) M else X4_think_L141 a1 a2 (fun x3 x4 M => X4_think_b186 a1 a2 (X4_think_L116 a1 a2 K n) K x3 x4 M) 10000 x3 (nI p) 1 M) = if p = 1 then X4_think_b186 a1 a2 (X4_think_L116 a1 a2 K n) K x3 (nI p) M else X4_think_L141 a1 a2 (fun x3 x4 M => X4_think_b186 a1 a2 (X4_think_L116 a1 a2 K n) K x3 x4 M) 10000 x3 (nI p) 1 M from i_eqP (a := p) (b := 1) (by omega) (by omega) _ _]
      by_cases hp1 : p = 1
      · rw [if_pos hp1]
        unfold X4_think_b186
        rw [nI_1]
        exact ih (p + 1) M (by omega) (by omega) hS hu hg hB hm (fun p' h h2 => hh p' (by omega) h2) (fun h0 _ => hl h0 (by omega))
      · rw [if_neg hp1]
        obtain ⟨M1, q1, q2, q3, q4, q5, q6, q7, q8⟩ := th_L141 hC hg5 (show p ≤ 1 + 2 * gone by omega) a1 a2 x3 (fun x3 x4 M => X4_think_b186 a1 a2 (X4_think_L116 a1 a2 K n) K x3 x4 M) 10000 1 M (by omega) (by omega) (by omega) hS hu hg hB hm
        rw [show nI 1 = (1 : Int32) from rfl] at q1
        rw [q1]
        unfold X4_think_b186
        rw [nI_1]
        obtain ⟨M', w1, w2, w3, w4, w5, w6⟩ := ih (p + 1) M1 (by omega) (by omega) (tS_M hS q2 q3) (by rw [u_M hS.2.2.2.2 q2]; exact hu) (by rw [q2.2.1 21 (by decide) (by decide)]; exact hg) (bH_M hB hS.2.2.2.2 q2) (fun s' h1 h3 => by rw [q4]; exact hm s' h1 h3) (fun p' hp' hp1' s s1 s3 => by
          rw [q2.1]
          by_cases h : p' = p
          · rw [h]; exact q7 s s1 s3
          · rw [q8 _ (by omega)]
            exact hh p' (by omega) hp1' s s1 s3) (fun h0 _ s s1 s3 => by
          have hp0 : p = 0 := by omega
          rw [q5 s s1 s3, hp0, h0]
          show gV c (vV c k) (pw12 k) s l0 (psa a0 0 0) = _
          have := hC.1.2.2
          rw [show psa a0 0 0 = a0 from by unfold psa; rw [if_pos rfl, if_neg (by omega)]; rfl])
        rw [q2.1] at w5
        exact ⟨M', w1, EqM_t q2 w2, w3, w4.trans q4, w5, w6⟩
