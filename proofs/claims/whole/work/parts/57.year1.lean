/-! ===== a mending keeps the two worlds alike ===== -/
def mx (s k : Nat) : Nat := if s < k then k else s
theorem w_mendedA {w t p sk fe s n : Nat} {M : mm} (hw : isO 9 w = true) (ht : t < 6) (hp : p < 5) (hs : M.1 (w + 1) t = nI s) (hs3 : s ≤ 3) (hk3 : sk ≤ 3) (hn : n ≤ 8) (h5 : M.1 (w + 5) t = nI n) : ∃ M', X9_mendedBy w (nI t) (nI p) (nI sk) (nI fe) M = some ((), M') ∧ (M'.2 = M.2 ∧ ∀ k, (k ≤ w ∨ w + 10 ≤ k) → M'.1 k = M.1 k) ∧ M'.1 (w + 1) = upd (M.1 (w + 1)) t (nI (mx s sk)) ∧ M'.1 (w + 2) = upd (M.1 (w + 2)) t (nI p) ∧ M'.1 (w + 3) = upd (M.1 (w + 3)) t (M.1 (w + 2) t) ∧ M'.1 (w + 4) = upd (M.1 (w + 4)) t 0 ∧ M'.1 (w + 5) = upd (M.1 (w + 5)) t (nI (nn n)) ∧ ((∀ i, i < nn n → M'.1 (w + 6) (8 * t + i) = nl (fun i => M.1 (w + 6) (8 * t + i)) n p i) ∧ ∀ t' i, t' ≠ t → i < 8 → M'.1 (w + 6) (8 * t' + i) = M.1 (w + 6) (8 * t' + i)) ∧ M'.1 (w + 7) = upd (M.1 (w + 7)) p (M.1 (w + 7) p - nI fe) ∧ M'.1 (w + 8) = M.1 (w + 8) ∧ M'.1 (w + 9) = upd (M.1 (w + 9)) p (M.1 (w + 9) p + nI fe) := by
  unfold X9_mendedBy
  have e1 : (if nI s < nI sk then nI sk else nI s) = nI (mx s sk) := by
    rw [i_ltP (by omega) (by omega)]
    unfold mx
    split <;> rfl
  simp (disch := omega) only [hw, n_inb, n_cl, gd_t, lt_s_, sA_s, sA_n, hs, e1]
  obtain ⟨f, e, f1, f2⟩ := w_driveNail (p := p) (n := n) (M := sA (sA (sA (sA (sA (sA M (w + 1) (upd (M.1 (w + 1)) t (nI (mx s sk)))) (w + 3) (upd (M.1 (w + 3)) t (M.1 (w + 2) t))) (w + 2) (upd (M.1 (w + 2)) t (nI p))) (w + 4) (upd (M.1 (w + 4)) t 0)) (w + 7) (upd (M.1 (w + 7)) p (M.1 (w + 7) p - nI fe))) (w + 9) (upd (M.1 (w + 9)) p (M.1 (w + 9) p + nI fe))) hw ht hn (by simp (disch := omega) only [sA_n]; exact h5)
  rw [e, bd_s]
  simp (disch := omega) only [sA_n] at f1 f2
  refine ⟨_, rfl, ⟨rfl, fun k hk => ?_⟩, ?_, ?_, ?_, ?_, ?_, ⟨?_, ?_⟩, ?_, ?_, ?_⟩
  · simp (disch := omega) only [sA_n]
  · simp (disch := omega) only [sA_s, sA_n]
  · simp (disch := omega) only [sA_s, sA_n]
  · simp (disch := omega) only [sA_s, sA_n]
  · simp (disch := omega) only [sA_s, sA_n]
  · simp (disch := omega) only [sA_s, sA_n]
  · simp (disch := omega) only [sA_s, sA_n]; exact f1
  · simp (disch := omega) only [sA_s, sA_n]; exact f2
  · simp (disch := omega) only [sA_s, sA_n]
  · simp (disch := omega) only [sA_s, sA_n]
  · simp (disch := omega) only [sA_s, sA_n]
theorem w_mendedB {t p sk fe s n : Nat} {M : mm} (ht : t < 6) (hp : p < 5) (hs : M.1 91 t = nI s) (hs3 : s ≤ 3) (hk : M.1 83 p = nI sk) (hk3 : sk ≤ 3) (hf : M.1 83 (5 + p) = nI fe) (hn : n ≤ 8) (h5 : M.1 96 t = nI n) : ∃ M', X11_mended (nI t) (nI p) M = some ((), M') ∧ (M'.2 = M.2 ∧ ∀ k, (k < 87 ∨ k = 88 ∨ k = 90 ∨ 97 ≤ k) → M'.1 k = M.1 k) ∧ M'.1 91 = upd (M.1 91) t (nI (mx s sk)) ∧ M'.1 92 = upd (M.1 92) t (nI p) ∧ M'.1 93 = upd (M.1 93) t (M.1 92 t) ∧ M'.1 94 = upd (M.1 94) t 0 ∧ M'.1 96 = upd (M.1 96) t (nI (nn n)) ∧ ((∀ i, i < nn n → M'.1 95 (8 * t + i) = nl (fun i => M.1 95 (8 * t + i)) n p i) ∧ ∀ t' i, t' ≠ t → i < 8 → M'.1 95 (8 * t' + i) = M.1 95 (8 * t' + i)) ∧ M'.1 87 = upd (M.1 87) p (M.1 87 p - nI fe) ∧ M'.1 89 = upd (M.1 89) p (M.1 89 p + nI fe) := by
  have e35 : ∀ v, ∃ M', X11_mended_b35 (nI t) (nI p) (nI t) v M = some ((), M') ∧ (M'.2 = M.2 ∧ ∀ k, (k < 87 ∨ k = 88 ∨ k = 90 ∨ 97 ≤ k) → M'.1 k = M.1 k) ∧ M'.1 91 = upd (M.1 91) t v ∧ M'.1 92 = upd (M.1 92) t (nI p) ∧ M'.1 93 = upd (M.1 93) t (M.1 92 t) ∧ M'.1 94 = upd (M.1 94) t 0 ∧ M'.1 96 = upd (M.1 96) t (nI (nn n)) ∧ ((∀ i, i < nn n → M'.1 95 (8 * t + i) = nl (fun i => M.1 95 (8 * t + i)) n p i) ∧ ∀ t' i, t' ≠ t → i < 8 → M'.1 95 (8 * t' + i) = M.1 95 (8 * t' + i)) ∧ M'.1 87 = upd (M.1 87) p (M.1 87 p - nI fe) ∧ M'.1 89 = upd (M.1 89) p (M.1 89 p + nI fe) := by
    intro v
    unfold X11_mended_b35
    simp (disch := omega) only [l_5, n_inb, n_cl, gd_t, lt_s_, sA_s, sA_n, hf]
    obtain ⟨f, e, f1, f2⟩ := w_nailB (p := p) (n := n) (M := sA (sA (sA (sA (sA (sA M 91 (upd (M.1 91) t v)) 93 (upd (M.1 93) t (M.1 92 t))) 92 (upd (M.1 92) t (nI p))) 94 (upd (M.1 94) t 0)) 87 (upd (M.1 87) p (M.1 87 p - nI fe))) 89 (upd (M.1 89) p (M.1 89 p + nI fe))) ht hn (by simp (disch := omega) only [sA_n]; exact h5)
    simp (disch := omega) only [sA_n] at f1 f2
    simp (disch := omega) only [l_5, n_inb, n_cl, gd_t, lt_s_, sA_s, sA_n, hf] at e
    rw [e]
    refine ⟨_, rfl, ⟨rfl, fun k hk => ?_⟩, ?_, ?_, ?_, ?_, ?_, ⟨?_, ?_⟩, ?_, ?_⟩
    · simp (disch := omega) only [sA_n]
    · simp (disch := omega) only [sA_s, sA_n]
    · simp (disch := omega) only [sA_s, sA_n]
    · simp (disch := omega) only [sA_s, sA_n]
    · simp (disch := omega) only [sA_s, sA_n]
    · simp (disch := omega) only [sA_s, sA_n]
    · simp (disch := omega) only [sA_s, sA_n]; exact f1
    · simp (disch := omega) only [sA_s, sA_n]; exact f2
    · simp (disch := omega) only [sA_s, sA_n]
    · simp (disch := omega) only [sA_s, sA_n]
  unfold X11_mended
  rw [n_inb (show p < 33 by omega) (by omega), gd_t, n_inb ht (by omega), gd_t, gd_t, gd_t, n_cl (by omega), n_cl (by omega), hs, hk, i_ltP (by omega) (by omega)]
  unfold mx
  by_cases h : s < sk
  · simp only [if_pos h]
    exact e35 (nI sk)
  · simp only [if_neg h]
    exact e35 (nI s)
/-- two worlds alike: the first side's at w, the other's; money as far as m -/
def YD (w P T Q : Nat) (lb : Nat → Nat) (m : Prop) (Ma Mb : mm) : Prop :=
  (∀ t, t < T → (∃ s, lb t ≤ s ∧ s ≤ 3 ∧ Ma.1 (w + 1) t = nI s ∧ Mb.1 91 t = nI s) ∧ rWho P (Ma.1 (w + 2) t) (Mb.1 92 t) ∧ rWho P (Ma.1 (w + 3) t) (Mb.1 93 t) ∧ (∃ a, a ≤ 99 ∧ Ma.1 (w + 4) t = nI a ∧ Mb.1 94 t = nI a) ∧ ∃ n, n ≤ 8 ∧ Ma.1 (w + 5) t = nI n ∧ Mb.1 96 t = nI n ∧ ∀ i, i < n → Ma.1 (w + 6) (8 * t + i) = Mb.1 95 (8 * t + i)) ∧
  ∀ p, p < Q → m → Ma.1 (w + 7) p = Mb.1 87 p ∧ Ma.1 (w + 8) p = Mb.1 88 p ∧ Ma.1 (w + 9) p = Mb.1 89 p
theorem nl_eq {o o' : Nat → Int32} {n p i : Nat} (hi : i < nn n) (hn : n ≤ 8) (h : ∀ i, i < n → o i = o' i) : nl o n p i = nl o' n p i := by
  unfold nl
  unfold nn at hi
  by_cases h8 : n = 8
  · rw [if_pos h8] at hi
    rw [if_pos h8, if_pos h8]
    by_cases h7 : i = 7
    · rw [if_pos h7, if_pos h7]
    · rw [if_neg h7, if_neg h7, h _ (by omega)]
  · rw [if_neg h8] at hi
    rw [if_neg h8, if_neg h8]
    by_cases hin : i = n
    · rw [if_pos hin, if_pos hin]
    · rw [if_neg hin, if_neg hin, h _ (by omega)]
theorem y_mended {w P T Q t p sk fe : Nat} {lb : Nat → Nat} {m : Prop} {Ma Mb : mm} (hw : isO 9 w = true) (ht : t < T) (hT : T ≤ 6) (hp : p < P) (hP : P ≤ 5) (hD : YD w P T Q lb m Ma Mb) (hk : Mb.1 83 p = nI sk) (hk1 : 1 ≤ sk) (hk3 : sk ≤ 3) (hf : Mb.1 83 (5 + p) = nI fe) : ∃ Ma' Mb', X9_mendedBy w (nI t) (nI p) (nI sk) (nI fe) Ma = some ((), Ma') ∧ X11_mended (nI t) (nI p) Mb = some ((), Mb') ∧ YD w P T Q (fun j => if j = t then 1 else lb j) m Ma' Mb' ∧ (Ma'.2 = Ma.2 ∧ ∀ k, (k ≤ w ∨ w + 10 ≤ k) → Ma'.1 k = Ma.1 k) ∧ (Mb'.2 = Mb.2 ∧ ∀ k, (k < 87 ∨ k = 88 ∨ k = 90 ∨ 97 ≤ k) → Mb'.1 k = Mb.1 k) := by
  obtain ⟨⟨s, s1, s2, s3, s4⟩, g1, g2, g3, n, n1, n2, n3, n4⟩ := hD.1 t ht
  obtain ⟨Ma', a0, a1, a2, a3, a4, a5, a6, ⟨a7, a7'⟩, a8, a9, a10⟩ := w_mendedA (p := p) (sk := sk) (fe := fe) hw (show t < 6 by omega) (show p < 5 by omega) s3 s2 hk3 n1 n2
  obtain ⟨Mb', b0, b1, b2, b3, b4, b5, b6, ⟨b7, b7'⟩, b8, b10⟩ := w_mendedB (show t < 6 by omega) (show p < 5 by omega) s4 s2 hk hk3 hf n1 n3
  refine ⟨Ma', Mb', a0, b0, ⟨fun t' ht' => ?_, fun p' hp' hm => ?_⟩, a1, b1⟩
  · rw [a2, a3, a4, a5, a6, b2, b3, b4, b5, b6]
    by_cases h : t' = t
    · subst h
      simp only [upd_s, if_true]
      refine ⟨⟨mx s sk, by unfold mx; split <;> omega, by unfold mx; split <;> omega, rfl, rfl⟩, ⟨rfl, Or.inr ⟨p, hp, rfl⟩⟩, g1, ⟨0, by omega, rfl, rfl⟩, nn n, by unfold nn; split <;> omega, rfl, rfl, fun i hi => ?_⟩
      rw [a7 i hi, b7 i hi]
      exact nl_eq hi n1 n4
    · obtain ⟨c1, c2, c3, c4, k, c5, c6, c7, c8⟩ := hD.1 t' ht'
      simp only [upd_n _ _ _ _ h, if_neg h]
      refine ⟨c1, c2, c3, c4, k, c5, c6, c7, fun i hi => ?_⟩
      rw [a7' t' i h (by omega), b7' t' i h (by omega)]
      exact c8 i hi
  · obtain ⟨d1, d2, d3⟩ := hD.2 p' hp' hm
    rw [a8, a9, a10, b8, b10, b1.2 88 (by omega)]
    by_cases h : p' = p
    · subst h
      rw [upd_s, upd_s, upd_s, upd_s, d1, d3]
      exact ⟨rfl, d2, rfl⟩
    · rw [upd_n _ _ _ _ h, upd_n _ _ _ _ h, upd_n _ _ _ _ h, upd_n _ _ _ _ h]
      exact ⟨d1, d2, d3⟩
