/-! ===== the first side thinks of one thing, year by year from the end back ===== -/
theorem l64_neg {b : Nat} (hb : b ≤ 99) : (-(nI b)).toInt64 = -((nI b).toInt64) := by
  rw [q_eqL, q_i64, Int32.toInt_neg, Int64.toInt_neg, q_i64, nI_toInt (by omega), Int.bmod_eq_of_le (by omega) (by omega), Int.bmod_eq_of_le (by omega) (by omega)]
def psl (l0 p : Nat) : Nat := if p = 0 then l0 else if p % 2 = 1 then 0 else 2
def psa (a0 gone p : Nat) : Nat := if p = 0 then (if 99 < a0 + gone then 99 else a0 + gone) else (p - 1) / 2
def odr (p : Nat) : Nat := if p = 0 then 0 else p + 2
theorem psl_lt {l0 : Nat} (h : l0 < 3) (p : Nat) : psl l0 p < 3 := by
  unfold psl
  split
  · exact h
  · split <;> omega
theorem psa_le {a0 gone p : Nat} (hp : p ≤ 15) : psa a0 gone p ≤ 99 := by
  unfold psa
  split
  · split <;> omega
  · omega
theorem psl_odr (l0 p : Nat) : psl l0 (odr p) = psl l0 p := by
  unfold psl odr
  by_cases h : p = 0
  · rw [if_pos h, if_pos rfl, if_pos h]
  · rw [if_neg h, if_neg (by omega), if_neg h]
    congr 1
    exact propext (by omega)
theorem psa_odr {a0 gone p : Nat} (hp : p ≤ 15) : psa a0 (gone + 1) (odr p) = oldr (psa a0 gone p) := by
  unfold psa odr oldr
  by_cases h : p = 0
  · simp only [if_pos h, if_true]
    repeat' split
    all_goals omega
  · simp only [if_neg h]
    rw [if_neg (by omega), if_pos (by omega)]
    omega
/-- what stands as it thinks -/
def tS (c : cns) (O : Option (List stp)) (t l0 a0 : Nat) (M : mm) : Prop :=
  (M.1 21 2 = nI t ∧ M.1 21 4 = nI (cSk c) ∧ M.1 21 5 = nI (cFe c) ∧ M.1 21 6 = nI (2 - l0) ∧ M.1 21 7 = nI a0 ∧ M.1 21 8 = nI (cWy c)) ∧ (M.1 6 t = nI (cWo c) ∧ M.1 7 t = nI (cBi c) ∧ M.1 1 2 = nI (cF c)) ∧ (lawA O M ∧ rFo O M ∧ RefOK M)
/-- what stands of the numbers -/
def tC (c : cns) (O : Option (List stp)) (t l0 a0 : Nat) : Prop := (t < 6 ∧ l0 < 3 ∧ a0 ≤ 99) ∧ (1 ≤ cSk c ∧ cSk c ≤ 3 ∧ cWy c ≤ 4 ∧ cF c ≤ 9 ∧ cBi c ≤ 99) ∧ cW c = fun s l a => wn O s t a l
theorem tS_X {c : cns} {O : Option (List stp)} {t l0 a0 : Nat} {M M' : mm} (h : tS c O t l0 a0 M) (e : M'.2.2 = M.2.2) (e1 : ∀ k, k ≠ 19 → k ≠ 20 → M'.1 k = M.1 k) (hF : rFo O M') : tS c O t l0 a0 M' := by
  obtain ⟨⟨h1, h2, h3, h4, h5, h6⟩, ⟨h7, h8, h9⟩, h10, h11, h12⟩ := h
  refine ⟨⟨?_, ?_, ?_, ?_, ?_, ?_⟩, ⟨?_, ?_, ?_⟩, lawA_X h10 ⟨e1 16 (by decide) (by decide), e1 17 (by decide) (by decide), e1 18 (by decide) (by decide)⟩, hF, ?_⟩
  all_goals try rw [e1 21 (by decide) (by decide)]
  all_goals try assumption
  · rw [e1 6 (by decide) (by decide)]; exact h7
  · rw [e1 7 (by decide) (by decide)]; exact h8
  · rw [e1 1 (by decide) (by decide)]; exact h9
  · unfold RefOK
    rw [e]
    exact h12
theorem ref_beh {M : mm} (h : RefOK M) : isA 1 (M.2.2 2) = true ∧ alN (M.2.2 2) = 56 ∧ isA 1 (M.2.2 1) = true ∧ alN (M.2.2 1) = 56 ∧ M.2.2 1 ≠ M.2.2 2 ∧ M.2.2 1 ≠ 24 ∧ M.2.2 1 ≠ 25 ∧ M.2.2 2 ≠ 24 ∧ M.2.2 2 ≠ 25 ∧ M.2.2 1 ≠ 21 ∧ M.2.2 2 ≠ 21 := by
  rcases h with ⟨h1, h2⟩ | ⟨h1, h2⟩ <;> (rw [h1, h2]; decide)
theorem w_isFgtA {F a : Nat} (hF : F ≤ 9) (ha : a ≤ 99) {M : mm} (h : M.1 1 2 = nI F) : X3_isForgotten (nI a) M = some (bI (fgt F a), M) := by
  unfold X3_isForgotten fgt
  rw [h, n0, i_ltP (by omega) (by omega), i_ltP (by omega) (by omega)]
  by_cases h1 : 0 < F
  · rw [if_pos h1]
    by_cases h2 : a < F
    · rw [if_pos h2, decide_eq_false (by omega)]; rfl
    · rw [if_neg h2, decide_eq_true (by omega)]; rfl
  · rw [if_neg h1, decide_eq_false (by omega)]; rfl
theorem w_goOn53 {c : cns} {O : Option (List stp)} {t l0 a0 : Nat} (hC : tC c O t l0 a0) {M : mm} (hS : tS c O t l0 a0 M) {V : Nat → Nat → Nat → Int64} {pw : Int64} (hu : M.2.1 21 10 = pw) {s l a od : Nat} (hs1 : 1 ≤ s) (hs : s ≤ 3) (hl : l < 3) (ha : a ≤ 99) (hod : od ≤ 13) (hb : ∀ s', 1 ≤ s' → s' ≤ 3 → M.2.1 (M.2.2 2) (od * 4 + s') = V s' l (oldr a)) (h11 : M.2.1 (M.2.2 2) 11 = V 3 2 0) (a1 : Int32) : ∃ M', X4_goOn_b53 a1 (nI s) (nI (2 - l)) (nI a) (nI od) M = some (gV c V pw s l a, M') ∧ EqX M M' ∧ rFo O M' := by
  obtain ⟨⟨k1, k2, k3⟩, ⟨k4, k5, k6, k7, k8⟩, kw⟩ := hC
  obtain ⟨⟨h1, h2, h3, h4, h5, h6⟩, ⟨h7, h8, h9⟩, h10, h12, h13⟩ := hS
  obtain ⟨r1, r2, -⟩ := ref_beh h13
  have hled : ledO l ≤ 1 := by unfold ledO; split <;> omega
  obtain ⟨M', g1, g2, g3⟩ := w_number (s := s) (a := a) (l := ledO l) h10 h12 k1 hs1 hs ha hled
  have hW : cW c s (ledO l) a = wn O s t a (ledO l) := by rw [kw]
  have hld : (if nI (2 - l) = 0 then (0 : Int32) else 1) = nI (ledO l) := by
    rw [n0, i_eqP (by omega) (by omega)]
    unfold ledO
    by_cases h : l = 2
    · rw [if_pos h, if_pos (by omega)]
    · rw [if_neg h, if_neg (by omega)]; rfl
  have h176 : ∀ x8 x10 : Int64, ∃ M', X4_goOn_b176 a1 (nI s) (nI (2 - l)) (nI a) x8 x10 M = some (cL (cW c s (ledO l) a) * x10 + (12 - nI (cW c s (ledO l) a)).toInt64 * x8, M') ∧ EqX M M' ∧ rFo O M' := by
    intro x8 x10
    refine ⟨M', ?_, g2, g3⟩
    unfold X4_goOn_b176 X4_goOn_b196
    rw [h1, hld, g1, bd_s, hW]
    rfl
  unfold X4_goOn_b53
  rw [h1, n_inb k1 (by omega), gd_t, lt_s_, r1, gd_t, r2, n4, n_mul, n_add, n_inb (by omega) (by omega), gd_t, lt_s_, gd_t, n_cl (by omega), n_cl (by omega), h7, hu, hb s hs1 hs, n1, i_ltP (by omega) (by omega), ← n1]
  have e0 : pw * (nI (cWo c)).toInt64 = cL (cWo c) * pw := Int64.mul_comm _ _
  rw [e0]
  by_cases h1s : 1 < s
  · have e5 : nI (od * 4 + s) - 1 = nI (od * 4 + (s - 1)) := by
      rw [show od * 4 + s = (od * 4 + (s - 1)) + 1 from by omega, nI_pred]
    rw [if_pos h1s, e5, n_inb (by omega) (by omega), gd_t, lt_s_, n_cl (by omega), hb (s - 1) (by omega) (by omega)]
    obtain ⟨M', q1, q2, q3⟩ := h176 (cL (cWo c) * pw + V s l (oldr a)) (cL (cWo c) * pw + V (s - 1) l (oldr a))
    refine ⟨M', ?_, q2, q3⟩
    rw [q1]
    unfold gV
    rw [if_pos h1s]
  · rw [if_neg h1s]
    have hpay : ∃ M', X4_goOn_b136 a1 (nI s) (nI (2 - l)) (nI a) (cL (cWo c) * pw + V s l (oldr a)) M = some (cL (cW c s (ledO l) a) * ((-(nI (cBi c))).toInt64 * pw + V 3 2 0) + (12 - nI (cW c s (ledO l) a)).toInt64 * (cL (cWo c) * pw + V s l (oldr a)), M') ∧ EqX M M' ∧ rFo O M' := by
      unfold X4_goOn_b136 X4_goOn_b137
      rw [r1, gd_t, r2, show inb 11 56 = true from by decide, gd_t, i_00, h1, n_inb k1 (by omega), gd_t, n_cl (by omega), h8, hu, show ((11 : Int32)).toNatClampNeg = 11 from by decide, h11]
      unfold X4_goOn_b173
      have e6 : (-(nI (cBi c))).toInt64 * pw + V 3 2 0 = V 3 2 0 - pw * (nI (cBi c)).toInt64 := by
        rw [l64_neg k8, Int64.neg_mul, Int64.mul_comm, Int64.add_comm, Int64.sub_eq_add_neg]
      rw [e6]
      exact h176 _ _
    rw [show (1 : Int32) = nI 1 from rfl, i_eqP (by omega) (by omega)]
    by_cases hl1 : l = 1
    · rw [if_pos (by omega), w_isFgtA k7 ha h9, bd_s]
      cases hf : fgt (cF c) a with
      | false =>
        rw [show bI false = 0 from rfl, i_00]
        unfold X4_goOn_b137
        rw [r1, gd_t, r2, show inb 11 56 = true from by decide, gd_t, show nI 1 = (1 : Int32) from rfl, i_10, show ((11 : Int32)).toNatClampNeg = 11 from by decide, h11]
        unfold X4_goOn_b173
        obtain ⟨M', q1, q2, q3⟩ := h176 (cL (cWo c) * pw + V s l (oldr a)) (V 3 2 0 - 0)
        refine ⟨M', ?_, q2, q3⟩
        rw [q1]
        unfold gV
        rw [if_neg h1s, if_pos ⟨hl1, hf⟩, Int64.sub_zero, Int64.zero_add]
      | true =>
        rw [show bI true = 1 from rfl, i_10]
        obtain ⟨M', q1, q2, q3⟩ := hpay
        refine ⟨M', ?_, q2, q3⟩
        rw [q1]
        unfold gV
        rw [if_neg h1s, if_neg (fun q => by rw [hf] at q; exact nomatch q.2)]
    · rw [if_neg (by omega)]
      obtain ⟨M', q1, q2, q3⟩ := hpay
      refine ⟨M', ?_, q2, q3⟩
      rw [q1]
      unfold gV
      rw [if_neg h1s, if_neg (fun q => hl1 q.1)]
theorem w_goOn {c : cns} {O : Option (List stp)} {t l0 a0 : Nat} (hC : tC c O t l0 a0) {M : mm} (hS : tS c O t l0 a0 M) {V : Nat → Nat → Nat → Int64} {pw : Int64} (hu : M.2.1 21 10 = pw) {gone : Nat} (hg : M.1 21 9 = nI gone) (hg6 : gone ≤ 6) {p s : Nat} (hp : p ≤ 11) (hs1 : 1 ≤ s) (hs : s ≤ 3) (hb : ∀ s', 1 ≤ s' → s' ≤ 3 → M.2.1 (M.2.2 2) (odr p * 4 + s') = V s' (psl l0 p) (oldr (psa a0 gone p))) (h11 : M.2.1 (M.2.2 2) 11 = V 3 2 0) : ∃ M', X4_goOn (nI p) (nI s) M = some (gV c V pw s (psl l0 p) (psa a0 gone p), M') ∧ EqX M M' ∧ rFo O M' := by
  have k := hC.1
  unfold X4_goOn
  rw [hS.1.2.2.2.2.1, hg, lt_s_, n_add, n99, i_ltP (by omega) (by omega), show (if nI p = 0 then X4_goOn_b53 (nI p) (nI s) (M.1 21 6) (if 99 < a0 + gone then nI 99 else nI (a0 + gone)) 0 M else X4_goOn_b40 (nI p) (nI s) (if nI p - nI p / 2 * 2 = 1 then 2 else 0) M) = (if p = 0 then X4_goOn_b53 (nI p) (nI s) (M.1 21 6) (if 99 < a0 + gone then nI 99 else nI (a0 + gone)) 0 M else X4_goOn_b40 (nI p) (nI s) (if nI p - nI p / 2 * 2 = 1 then 2 else 0) M) from by rw [show (0 : Int32) = nI 0 from rfl, i_eqP (by omega) (by omega)]]
  by_cases h0 : p = 0
  · rw [if_pos h0, hS.1.2.2.2.1, show (if 99 < a0 + gone then nI 99 else nI (a0 + gone)) = nI (psa a0 gone p) from by
      unfold psa
      rw [if_pos h0]
      split <;> rfl]
    have e : psl l0 p = l0 := if_pos h0
    rw [e] at hb ⊢
    have := w_goOn53 (V := V) hC hS hu (l := l0) (a := psa a0 gone p) (od := odr p) hs1 hs k.2.1 (psa_le (by omega)) (by unfold odr; split <;> omega) hb h11 (nI p)
    rw [show nI (odr p) = 0 from by unfold odr; rw [if_pos h0]; rfl] at this
    exact this
  · rw [if_neg h0]
    unfold X4_goOn_b40
    have e1 : (if nI p - nI p / 2 * 2 = 1 then (2 : Int32) else 0) = nI (2 - psl l0 p) := by
      rw [n2, n_div (by omega) (by omega), n_mul, n_sub (by omega), n1, i_eqP (by omega) (by omega)]
      unfold psl
      rw [if_neg h0]
      by_cases h : p % 2 = 1
      · rw [if_pos h, if_pos (by omega)]
      · rw [if_neg h, if_neg (by omega)]; rfl
    have e2 : (nI p - 1) / 2 = nI (psa a0 gone p) := by
      rw [n1, n_sub (by omega), n2, n_div (by omega) (by omega)]
      unfold psa
      rw [if_neg h0]
    have e3 : nI p + 2 = nI (odr p) := by
      rw [n2, n_add]
      unfold odr
      rw [if_neg h0]
    rw [e1, e2, e3]
    exact w_goOn53 (V := V) hC hS hu hs1 hs (psl_lt k.2.1 p) (psa_le (by omega)) (by unfold odr; split <;> omega) hb h11 (nI p)
