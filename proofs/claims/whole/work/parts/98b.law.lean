/-! ===== the law answers one ===== -/
theorem law_L {L : Nat} {xs : Nat → Int32} (hL : L ≤ 3072) : ∀ k c P T N O M, 6 * c ≤ L → L - 6 * c < k → N ≤ 1 + c → RR P T N O M M → ∃ M', L_law_L18 L xs k (nI (6 * c)) M = some (1, M') := by
  intro k
  induction k with
  | zero => intro c P T N O M _ h; omega
  | succ k ih =>
    intro c P T N O M hc hk hNc R
    have hq : ((Int32.ofNat L) - 6 < nI (6 * c)) = (L < 6 * c + 6) := by
      have e : ((Int32.ofNat L) - 6).toInt = (L : Int) - (6 : Nat) := t_sub (a := L) (b := 6) (by omega) (by omega)
      rw [q_lt, e, n_ti (by omega)]
      exact propext (by omega)
    rw [L_law_L18, i_P hq]
    by_cases h : L < 6 * c + 6
    · rw [if_pos h]
      exact ⟨M, rfl⟩
    · rw [if_neg h]
      have hN : N ≤ 600 := by omega
      have next : ∀ M2, (∃ P' T' N' O', N' ≤ N + 1 ∧ RR P' T' N' O' M2 M2) → ∃ M', L_law_b1348 L xs (L_law_L18 L xs k) (nI (6 * c)) M2 = some (1, M') := by
        intro M2 ⟨P', T', N', O', hN', R'⟩
        unfold L_law_b1348
        rw [show nI (6 * c) + 6 = nI (6 * (c + 1)) from by rw [show (6 : Int32) = nI 6 from rfl, n_add]; rfl]
        exact ih (c + 1) P' T' N' O' M2 (by omega) (by omega) (by omega) R'
      have g0 : inb (nI (6 * c)) L = true := n_inb (by omega) (by omega)
      have g1 : inb (nI (6 * c) + 1) L = true := by rw [show nI (6 * c) + 1 = nI (6 * c + 1) from n_add _ 1]; exact n_inb (by omega) (by omega)
      have g2 : inb (nI (6 * c) + 2) L = true := by rw [show nI (6 * c) + 2 = nI (6 * c + 2) from n_add _ 2]; exact n_inb (by omega) (by omega)
      have g3 : inb (nI (6 * c) + 3) L = true := by rw [show nI (6 * c) + 3 = nI (6 * c + 3) from n_add _ 3]; exact n_inb (by omega) (by omega)
      have g4 : inb (nI (6 * c) + 4) L = true := by rw [show nI (6 * c) + 4 = nI (6 * c + 4) from n_add _ 4]; exact n_inb (by omega) (by omega)
      have g5 : inb (nI (6 * c) + 5) L = true := by rw [show nI (6 * c) + 5 = nI (6 * c + 5) from n_add _ 5]; exact n_inb (by omega) (by omega)
      simp only [g0, g1, g2, g3, g4, g5, gd_t]
      by_cases c0 : xs (nI (6 * c)).toNatClampNeg &&& 63 = 0
      · rw [if_pos c0]
        obtain ⟨v, M1, M2, x1, y1, z⟩ := st_person _ _ P T N O M hN R
        rw [x1, bd_s, y1, bd_s]
        first | rw [if_pos rfl] | rw [if_pos (by rw [lg_eq0])]
        exact next M2 z
      rw [if_neg c0]
      by_cases c1 : xs (nI (6 * c)).toNatClampNeg &&& 63 = 1
      · rw [if_pos c1]
        obtain ⟨v, M1, M2, x1, y1, z⟩ := st_thing _ _ P T N O M hN R
        rw [x1, bd_s, y1, bd_s]
        first | rw [if_pos rfl] | rw [if_pos (by rw [lg_eq0])]
        exact next M2 z
      rw [if_neg c1]
      by_cases c2 : xs (nI (6 * c)).toNatClampNeg &&& 63 = 2
      · rw [if_pos c2]
        obtain ⟨v, M1, M2, x1, y1, z⟩ := st_things _ _ _ P T N O M hN R
        rw [x1, bd_s, y1, bd_s]
        first | rw [if_pos rfl] | rw [if_pos (by rw [lg_eq0])]
        exact next M2 z
      rw [if_neg c2]
      by_cases c3 : xs (nI (6 * c)).toNatClampNeg &&& 63 = 3
      · rw [if_pos c3]
        obtain ⟨v, M1, M2, x1, y1, z⟩ := st_rule _ _ P T N O M hN R
        rw [x1, bd_s, y1, bd_s]
        first | rw [if_pos rfl] | rw [if_pos (by rw [lg_eq0])]
        exact next M2 z
      rw [if_neg c3]
      by_cases c4 : xs (nI (6 * c)).toNatClampNeg &&& 63 = 4
      · rw [if_pos c4]
        obtain ⟨v, M1, M2, x1, y1, z⟩ := st_mend _ _ _ P T N O M hN R
        rw [x1, bd_s, y1, bd_s]
        first | rw [if_pos rfl] | rw [if_pos (by rw [lg_eq0])]
        exact next M2 z
      rw [if_neg c4]
      by_cases c5 : xs (nI (6 * c)).toNatClampNeg &&& 63 = 5
      · rw [if_pos c5]
        obtain ⟨v, M1, M2, x1, y1, z⟩ := st_of _ _ P T N O M hN R
        rw [x1, bd_s, y1, bd_s]
        first | rw [if_pos rfl] | rw [if_pos (by rw [lg_eq0])]
        exact next M2 z
      rw [if_neg c5]
      by_cases c6 : xs (nI (6 * c)).toNatClampNeg &&& 63 = 6
      · rw [if_pos c6]
        obtain ⟨v, M1, M2, x1, y1, z⟩ := st_feed _ P T N O M hN R
        rw [x1, bd_s, y1, bd_s]
        first | rw [if_pos rfl] | rw [if_pos (by rw [lg_eq0])]
        exact next M2 z
      rw [if_neg c6]
      by_cases c7 : xs (nI (6 * c)).toNatClampNeg &&& 63 = 7
      · rw [if_pos c7]
        obtain ⟨v, M1, M2, x1, y1, z⟩ := st_law  P T N O M hN R
        rw [x1, bd_s, y1, bd_s]
        first | rw [if_pos rfl] | rw [if_pos (by rw [lg_eq0])]
        exact next M2 z
      rw [if_neg c7]
      by_cases c8 : xs (nI (6 * c)).toNatClampNeg &&& 63 = 8
      · rw [if_pos c8]
        obtain ⟨v, M1, M2, x1, y1, z⟩ := st_fix _ P T N O M hN R
        rw [x1, bd_s, y1, bd_s]
        first | rw [if_pos rfl] | rw [if_pos (by rw [lg_eq0])]
        exact next M2 z
      rw [if_neg c8]
      by_cases c9 : xs (nI (6 * c)).toNatClampNeg &&& 63 = 9
      · rw [if_pos c9]
        obtain ⟨v, M1, M2, x1, y1, z⟩ := st_years _ _ P T N O M hN R
        rw [x1, bd_s, y1, bd_s]
        first | rw [if_pos rfl] | rw [if_pos (by rw [lg_eq0])]
        exact next M2 z
      rw [if_neg c9]
      by_cases c10 : xs (nI (6 * c)).toNatClampNeg &&& 63 = 10
      · rw [if_pos c10]
        obtain ⟨v, M1, M2, x1, y1, z⟩ := st_paid _ P T N O M hN R
        rw [x1, bd_s, y1, bd_s]
        first | rw [if_pos rfl] | rw [if_pos (by rw [lg_eq0])]
        exact next M2 z
      rw [if_neg c10]
      by_cases c11 : xs (nI (6 * c)).toNatClampNeg &&& 63 = 11
      · rw [if_pos c11]
        obtain ⟨v, M1, M2, x1, y1, z⟩ := st_layer _ _ P T N O M hN R
        rw [x1, bd_s, y1, bd_s]
        first | rw [if_pos rfl] | rw [if_pos (by rw [lg_eq0])]
        exact next M2 z
      rw [if_neg c11]
      by_cases c12 : xs (nI (6 * c)).toNatClampNeg &&& 63 = 12
      · rw [if_pos c12]
        obtain ⟨v, M1, M2, x1, y1, z⟩ := st_told _ _ P T N O M hN R
        rw [x1, bd_s, y1, bd_s]
        first | rw [if_pos rfl] | rw [if_pos (by rw [lg_eq0])]
        exact next M2 z
      rw [if_neg c12]
      by_cases c13 : xs (nI (6 * c)).toNatClampNeg &&& 63 = 13
      · rw [if_pos c13]
        obtain ⟨v, M1, M2, x1, y1, z⟩ := st_over _ P T N O M hN R
        rw [x1, bd_s, y1, bd_s]
        first | rw [if_pos rfl] | rw [if_pos (by rw [lg_eq0])]
        exact next M2 z
      rw [if_neg c13]
      by_cases c14 : xs (nI (6 * c)).toNatClampNeg &&& 63 = 14
      · rw [if_pos c14]
        obtain ⟨v, M1, M2, x1, y1, z⟩ := st_worth _ _ _ P T N O M hN R
        rw [x1, bd_s, y1, bd_s]
        first | rw [if_pos rfl] | rw [if_pos (by rw [lg_eq0])]
        exact next M2 z
      rw [if_neg c14]
      by_cases c15 : xs (nI (6 * c)).toNatClampNeg &&& 63 = 15
      · rw [if_pos c15]
        obtain ⟨v, M1, M2, x1, y1, z⟩ := st_now _ _ P T N O M hN R
        rw [x1, bd_s, y1, bd_s]
        first | rw [if_pos rfl] | rw [if_pos (by rw [lg_eq0])]
        exact next M2 z
      rw [if_neg c15]
      by_cases c16 : xs (nI (6 * c)).toNatClampNeg &&& 63 = 16
      · rw [if_pos c16]
        obtain ⟨v, M1, M2, x1, y1, z⟩ := st_smith _ _ _ _ P T N O M hN R
        rw [x1, bd_s, y1, bd_s]
        first | rw [if_pos rfl] | rw [if_pos (by rw [lg_eq0])]
        exact next M2 z
      rw [if_neg c16]
      by_cases c17 : xs (nI (6 * c)).toNatClampNeg &&& 63 = 17
      · rw [if_pos c17]
        obtain ⟨v, M1, M2, x1, y1, z⟩ := st_gift _ _ _ P T N O M hN R
        rw [x1, bd_s, y1, bd_s]
        first | rw [if_pos rfl] | rw [if_pos (by rw [lg_eq0])]
        exact next M2 z
      rw [if_neg c17]
      by_cases c18 : xs (nI (6 * c)).toNatClampNeg &&& 63 = 18
      · rw [if_pos c18]
        obtain ⟨v, M1, M2, x1, y1, z⟩ := st_debts _ _ P T N O M hN R
        rw [x1, bd_s, y1, bd_s]
        first | rw [if_pos rfl] | rw [if_pos (by rw [lg_eq0])]
        exact next M2 z
      rw [if_neg c18]
      by_cases c19 : xs (nI (6 * c)).toNatClampNeg &&& 63 = 19
      · rw [if_pos c19]
        obtain ⟨v, M1, M2, x1, y1, z⟩ := st_ruled _ _ _ P T N O M hN R
        rw [x1, bd_s, y1, bd_s]
        first | rw [if_pos rfl] | rw [if_pos (by rw [lg_eq0])]
        exact next M2 z
      rw [if_neg c19]
      by_cases c20 : xs (nI (6 * c)).toNatClampNeg &&& 63 = 20
      · rw [if_pos c20]
        obtain ⟨v, M1, M2, x1, y1, z⟩ := st_ruined _ _ _ P T N O M hN R
        rw [x1, bd_s, y1, bd_s]
        first | rw [if_pos rfl] | rw [if_pos (by rw [lg_eq0])]
        exact next M2 z
      rw [if_neg c20]
      by_cases c21 : xs (nI (6 * c)).toNatClampNeg &&& 63 = 21
      · rw [if_pos c21]
        obtain ⟨v, M1, M2, x1, y1, z⟩ := st_image  P T N O M hN R
        rw [x1, bd_s, y1, bd_s]
        first | rw [if_pos rfl] | rw [if_pos (by rw [lg_eq0])]
        exact next M2 z
      rw [if_neg c21]
      by_cases c22 : xs (nI (6 * c)).toNatClampNeg &&& 63 = 22
      · rw [if_pos c22]
        obtain ⟨v, M1, M2, x1, y1, z⟩ := st_back  P T N O M hN R
        rw [x1, bd_s, y1, bd_s]
        first | rw [if_pos rfl] | rw [if_pos (by rw [lg_eq0])]
        exact next M2 z
      rw [if_neg c22]
      by_cases c23 : xs (nI (6 * c)).toNatClampNeg &&& 63 = 23
      · rw [if_pos c23]
        obtain ⟨v, M1, M2, x1, y1, z⟩ := st_undo  P T N O M hN R
        rw [x1, bd_s, y1, bd_s]
        first | rw [if_pos rfl] | rw [if_pos (by rw [lg_eq0])]
        exact next M2 z
      rw [if_neg c23]
      by_cases c24 : xs (nI (6 * c)).toNatClampNeg &&& 63 = 24
      · rw [if_pos c24]
        obtain ⟨v, M1, M2, x1, y1, z⟩ := st_redo  P T N O M hN R
        rw [x1, bd_s, y1, bd_s]
        first | rw [if_pos rfl] | rw [if_pos (by rw [lg_eq0])]
        exact next M2 z
      rw [if_neg c24]
      by_cases c25 : xs (nI (6 * c)).toNatClampNeg &&& 63 = 25
      · rw [if_pos c25]
        obtain ⟨v, M1, M2, x1, y1, z⟩ := st_body _ P T N O M hN R
        rw [x1, bd_s, y1, bd_s]
        first | rw [if_pos rfl] | rw [if_pos (by rw [lg_eq0])]
        exact next M2 z
      rw [if_neg c25]
      by_cases c26 : xs (nI (6 * c)).toNatClampNeg &&& 63 = 26
      · rw [if_pos c26]
        obtain ⟨v, M1, M2, x1, y1, z⟩ := st_act _ _ _ P T N O M hN R
        rw [x1, bd_s, y1, bd_s]
        first | rw [if_pos rfl] | rw [if_pos (by rw [lg_eq0])]
        exact next M2 z
      rw [if_neg c26]
      by_cases c27 : xs (nI (6 * c)).toNatClampNeg &&& 63 = 27
      · rw [if_pos c27]
        obtain ⟨v, M1, M2, x1, y1, z⟩ := st_trace _ P T N O M hN R
        rw [x1, bd_s, y1, bd_s]
        first | rw [if_pos rfl] | rw [if_pos (by rw [lg_eq0])]
        exact next M2 z
      rw [if_neg c27]
      by_cases c28 : xs (nI (6 * c)).toNatClampNeg &&& 63 = 28
      · rw [if_pos c28]
        obtain ⟨v, M1, M2, x1, y1, z⟩ := st_keep _ _ P T N O M hN R
        rw [x1, bd_s, y1, bd_s]
        first | rw [if_pos rfl] | rw [if_pos (by rw [lg_eq0])]
        exact next M2 z
      rw [if_neg c28]
      by_cases c29 : xs (nI (6 * c)).toNatClampNeg &&& 63 = 29
      · rw [if_pos c29]
        obtain ⟨v, M1, M2, x1, y1, z⟩ := st_row _ _ _ P T N O M hN R
        rw [x1, bd_s, y1, bd_s]
        first | rw [if_pos rfl] | rw [if_pos (by rw [lg_eq0])]
        exact next M2 z
      rw [if_neg c29]
      by_cases c30 : xs (nI (6 * c)).toNatClampNeg &&& 63 = 30
      · rw [if_pos c30]
        obtain ⟨v, M1, M2, x1, y1, z⟩ := st_put _ _ _ P T N O M hN R
        rw [x1, bd_s, y1, bd_s]
        first | rw [if_pos rfl] | rw [if_pos (by rw [lg_eq0])]
        exact next M2 z
      rw [if_neg c30]
      by_cases c31 : xs (nI (6 * c)).toNatClampNeg &&& 63 = 31
      · rw [if_pos c31]
        obtain ⟨v, M1, M2, x1, y1, z⟩ := st_element _ _ P T N O M hN R
        rw [x1, bd_s, y1, bd_s, if_pos (by rw [lg_eq0])]
        exact next M2 z
      rw [if_neg c31]
      by_cases c32 : xs (nI (6 * c)).toNatClampNeg &&& 63 = 32
      · rw [if_pos c32]
        obtain ⟨v, M1, M2, x1, y1, z⟩ := st_shift _ _ _ _ _ P T N O M hN R
        rw [x1, bd_s, y1, bd_s]
        first | rw [if_pos rfl] | rw [if_pos (by rw [lg_eq0])]
        exact next M2 z
      rw [if_neg c32]
      by_cases c33 : xs (nI (6 * c)).toNatClampNeg &&& 63 = 33
      · rw [if_pos c33]
        obtain ⟨v, M1, M2, x1, y1, z⟩ := st_taken _ _ P T N O M hN R
        rw [x1, bd_s, y1, bd_s]
        first | rw [if_pos rfl] | rw [if_pos (by rw [lg_eq0])]
        exact next M2 z
      rw [if_neg c33]
      by_cases c34 : xs (nI (6 * c)).toNatClampNeg &&& 63 = 34
      · rw [if_pos c34]
        obtain ⟨v, M1, M2, x1, y1, z⟩ := st_count _ P T N O M hN R
        rw [x1, bd_s, y1, bd_s]
        first | rw [if_pos rfl] | rw [if_pos (by rw [lg_eq0])]
        exact next M2 z
      rw [if_neg c34]
      exact next M ⟨P, T, N, O, by omega, R⟩
