/-! ===== whether BEST mends it in deed ===== -/
/-- but for thought and what is remembered, as before -/
def EqD (M M' : mm) : Prop := (∀ k, k ≠ 19 → k ≠ 20 → k ≠ 21 → M'.1 k = M.1 k) ∧ (∀ k, k ≠ 21 → k ≠ 22 → k ≠ 23 → k ≠ 24 → k ≠ 25 → k ≠ 26 → M'.2.1 k = M.2.1 k) ∧ M'.2.2 0 = M.2.2 0
theorem EqD_r (M : mm) : EqD M M := ⟨fun _ _ _ _ => rfl, fun _ _ _ _ _ _ _ => rfl, rfl⟩
theorem EqD_t {M M' M'' : mm} (h : EqD M M') (h2 : EqD M' M'') : EqD M M'' := ⟨fun k a b c => (h2.1 k a b c).trans (h.1 k a b c), fun k a b c d e f => (h2.2.1 k a b c d e f).trans (h.2.1 k a b c d e f), h2.2.2.trans h.2.2⟩
theorem EqD_T {M M' : mm} (h : EqT M M') : EqD M M' := ⟨h.1, fun k a b c d e _ => h.2.1 k a b c d e, h.2.2⟩
theorem cNow_c {M M' : mm} (O : Option (List stp)) (F t : Nat) (h2 : M'.1 2 = M.1 2) (h3 : M'.1 3 = M.1 3) (h5 : M'.1 5 = M.1 5) (h6 : M'.1 6 = M.1 6) (h7 : M'.1 7 = M.1 7) : cNow M' O F t = cNow M O F t := by
  unfold cNow
  rw [h2, h3, h5, h6, h7]
theorem cNow_of {M : mm} {O : Option (List stp)} {F t o sk fe wo bi : Nat} (h5 : M.1 5 t = nI o) (h2 : M.1 2 o = nI sk) (h3 : M.1 3 o = nI fe) (h6 : M.1 6 t = nI wo) (h7 : M.1 7 t = nI bi) (ho : o < 5) (hsk : sk ≤ 3) (hfe : fe ≤ 99) (hwo : wo ≤ 99) (hbi : bi ≤ 99) : cNow M O F t = cOf sk fe 4 wo bi F O t := by
  unfold cNow
  rw [h5, tn_nI (by omega), h2, h3, h6, h7, tn_nI (by omega), tn_nI (by omega), tn_nI (by omega), tn_nI (by omega)]
theorem w_mendsInDeed {T N w t s a o sk fe wo bi F : Nat} {O : Option (List stp)} {M : mm} (hw : isO 9 w = true) (hF : M.1 1 2 = nI F) (hF9 : F ≤ 9) (hM : rM T N O M) (hN : N ≤ 600) (ht : t < T) (hT : T ≤ 6) (h5 : M.1 5 t = nI o) (ho : o < 5) (h2 : M.1 2 o = nI sk) (hsk : 1 ≤ sk ∧ sk ≤ 3) (h3 : M.1 3 o = nI fe) (hfe : fe ≤ 99) (h6 : M.1 6 t = nI wo) (hwo : wo ≤ 99) (h7 : M.1 7 t = nI bi) (hbi : bi ≤ 99) (hs : M.1 (w + 1) t = nI s) (hs1 : 1 ≤ s) (hs3 : s ≤ 3) (ha : M.1 (w + 4) t = nI a) (ha9 : a ≤ 99) (hA : lawA O M) (hFo : rFo O M) (hR : RefOK M) : ∃ M', X4_mendsInDeed w (nI t) M = some (bI (isB (cOf sk fe 4 wo bi F O t) 4 s (lO (M.1 (w + 2) t) o) a), M') ∧ EqD M M' ∧ (lawA O M' ∧ rFo O M' ∧ RefOK M') ∧ rM T N O M' := by
  have hc := cNow_of (O := O) (F := F) h5 h2 h3 h6 h7 ho hsk.2 hfe hwo hbi
  obtain ⟨V, V1, V2, V3, V4⟩ := id hM
  have hl := lO_lt (M.1 (w + 2) t) o
  unfold X4_mendsInDeed
  rw [hw, gd_t, n_inb (by omega) (by omega), gd_t, gd_t, gd_t, n_cl (by omega), h5, w_sideOf, bd_s, lt_s_, gd_t, lt_s_, hs, ha, V3, hF]
  have hK : (((((((nI V).toInt64 * 10 + (nI F).toInt64) * 6 + (nI t).toInt64) * 3 + (nI (2 - lO (M.1 (w + 2) t) o)).toInt64) * 100 + (nI a).toInt64) * 3 + (nI s).toInt64) - 1) = lN (kk V F t (2 - lO (M.1 (w + 2) t) o) a s) := by
    rw [nI_l (by omega), nI_l (by omega), nI_l (by omega), nI_l (by omega), nI_l (by omega), nI_l (by omega), show (10 : Int64) = lN 10 from rfl, show (6 : Int64) = lN 6 from rfl, show (3 : Int64) = lN 3 from rfl, show (100 : Int64) = lN 100 from rfl, show (1 : Int64) = lN 1 from rfl, lN_mul, lN_add, lN_mul, lN_add, lN_mul, lN_add, lN_mul, lN_add, lN_mul, lN_add, lN_sub (by omega)]
    rfl
  rw [hK]
  generalize hl0 : lO (M.1 (w + 2) t) o = l at hl hK ⊢
  have k1 := kk_lo (V := V) (F := F) (t := t) (sd := 2 - l) (a := a) hs1
  have k2 := kk_hi (V := V) (t := t) (sd := 2 - l) hF9 (by omega) (by omega) ha9 hs1 hs3
  have k3 : (V + 1) * 54000 < 2 ^ 40 := by omega
  have hi : inb (nI (kk V F t (2 - l) a s % 2048)) 2048 = true := n_inb (Nat.mod_lt _ (by omega)) (by omega)
  generalize hKK : kk V F t (2 - l) a s = K at k1 k2 hi ⊢
  have hq : K % 2048 < 2048 := Nat.mod_lt _ (by omega)
  have hpl : (lN K - lN K / 2048 * 2048).toInt32 = nI (K % 2048) := by
    rw [show (2048 : Int64) = lN 2048 from rfl, pk_lRem (by omega) (by omega) (by omega), lN_i]
  rw [hpl, hi, gd_t, n_cl (by omega)]
  obtain ⟨k, b, b1, b2, b3, b4⟩ := V4 (K % 2048) hq
  rw [b3, ll_shr (by omega), show (2 * k + b) / 2 = k from by omega, ll_and1 (by omega), show (2 * k + b) % 2 = b from by omega, i_P (lg_eq0 _ _)]
  have hkK : (lN k = lN K) = (k = K) := propext (pk_lEQ (by omega) (by omega))
  rw [i_P hkK]
  by_cases hh : k = K
  · rw [if_pos hh, gd_t, i_P (lg_eq0 _ _)]
    rcases b4 with b4 | ⟨F', t', l', a', s', g1, g2, g3, g4, g5, g6, g7, g8⟩
    · omega
    · rw [hh, ← hKK] at g7
      obtain ⟨rfl, rfl, e3, rfl, rfl⟩ := kk_inj hF9 (by omega) (by omega) ha9 hs1 hs3 g1 (by omega) (by omega) g4 g5 g6 g7
      obtain rfl : l = l' := by omega
      rw [hc] at g8
      refine ⟨M, ?_, EqD_r M, ⟨hA, hFo, hR⟩, hM⟩
      rw [g8]
      cases isB (cOf sk fe 4 wo bi F O t) 4 s l a
      · rfl
      · rfl
  · rw [if_neg hh, n_inb ho (by omega), gd_t, n_cl (by omega), h2, w_consider ho h3, bd_s, gd_t, gd_t]
    have e1 : ∀ k, k ≠ 21 → (cs1 M t o sk fe).1 k = M.1 k := fun k hk => sA_n _ _ _ _ hk
    have hww : w ≤ 116 := by
      unfold isO at hw
      by_cases h : w < SH.length
      · have : SH.length = 117 := by decide
        omega
      · rw [List.getElem?_eq_none (by omega)] at hw
        exact nomatch hw
    have w2 : w + 2 ≠ 21 := by
      intro h
      obtain rfl : w = 19 := by omega
      exact absurd hw (by decide)
    have w4 : w + 4 ≠ 21 := by
      intro h
      obtain rfl : w = 17 := by omega
      exact absurd hw (by decide)
    have e3 : (cs1 M t o sk fe).1 21 3 = nI o := by
      unfold cs1
      simp (disch := decide) only [sA_s, upd_n, upd_s]
    rw [e1 _ w2, e1 _ w4, ha, w_start e3, bd_s, hl0]
    obtain ⟨M4, q1, q2, ⟨q3, q4, q5⟩, q6, -, q7, -⟩ := w_thinks (wy := 4) (p := o) (y := 4) (show t < 6 by omega) hl ha9 (by omega) ⟨hsk.1, hsk.2, by omega, hF9, hbi⟩ h6 h7 hF hA hFo hR
    rw [show nI 4 = (4 : Int32) from rfl] at q1
    have hb : bV (cOf sk fe 4 wo bi F O t) s (M4.2.1 25 s) (M4.2.1 24 s) = isB (cOf sk fe 4 wo bi F O t) 4 s l a := by
      rw [(q7 s hs1 hs3).1, (q7 s hs1 hs3).2]
      exact fin_B _ _ _ _ _ rfl
    rw [q1, bd_s, w_mendsAt (c := cOf sk fe 4 wo bi F O t) q6 (show (4 : Nat) ≤ 4 by omega) hs3, bd_s, hb]
    unfold X4_mendsInDeed_b201
    rw [hi, gd_t, lt_s_, n_cl (by omega)]
    have hb2 : bV (cOf sk fe 4 wo bi F O t) s ((sL M4 26 (vp_updL (M4.2.1 26) (K % 2048) (lN K * 2 + (if bI (isB (cOf sk fe 4 wo bi F O t) 4 s l a) = 0 then 0 else 1 : Int32).toInt64))).2.1 25 s) ((sL M4 26 (vp_updL (M4.2.1 26) (K % 2048) (lN K * 2 + (if bI (isB (cOf sk fe 4 wo bi F O t) 4 s l a) = 0 then 0 else 1 : Int32).toInt64))).2.1 24 s) = isB (cOf sk fe 4 wo bi F O t) 4 s l a := by
      rw [sL_n _ _ _ _ (by decide), sL_n _ _ _ _ (by decide)]
      exact hb
    have hv : lN K * 2 + (if bI (isB (cOf sk fe 4 wo bi F O t) 4 s l a) = 0 then 0 else 1 : Int32).toInt64 = lN (2 * K + if isB (cOf sk fe 4 wo bi F O t) 4 s l a = true then 1 else 0) := by
      rw [show (2 : Int64) = lN 2 from rfl, lN_mul, Nat.mul_comm K 2]
      cases isB (cOf sk fe 4 wo bi F O t) 4 s l a
      · show lN (2 * K) + lN 0 = _
        rw [lN_add]; rfl
      · show lN (2 * K) + lN 1 = _
        rw [lN_add]; rfl
    rw [hv] at hb2 ⊢
    rw [w_mendsAt (c := cOf sk fe 4 wo bi F O t) (M := sL M4 26 (vp_updL (M4.2.1 26) (K % 2048) (lN (2 * K + if isB (cOf sk fe 4 wo bi F O t) 4 s l a = true then 1 else 0)))) q6 (show (4 : Nat) ≤ 4 by omega) hs3, bd_s, hb2, bI_ok, gd_t]
    have c2 : M4.1 2 = M.1 2 := q2.1 2 (by decide) (by decide) (by decide)
    have cc : cNow (sL M4 26 (vp_updL (M4.2.1 26) (K % 2048) (lN (2 * K + if isB (cOf sk fe 4 wo bi F O t) 4 s l a = true then 1 else 0)))) O = cNow M O := by
      funext F t
      exact cNow_c O F t (q2.1 2 (by decide) (by decide) (by decide)) (q2.1 3 (by decide) (by decide) (by decide)) (q2.1 5 (by decide) (by decide) (by decide)) (q2.1 6 (by decide) (by decide) (by decide)) (q2.1 7 (by decide) (by decide) (by decide))
    refine ⟨_, rfl, EqD_t (EqD_T q2) ⟨fun _ _ _ _ => rfl, fun k _ _ _ _ _ f => sL_n _ _ _ _ f, rfl⟩, ⟨q3, q4, q5⟩, V, V1, V2, ?_, fun q hq' => ?_⟩
    · show M4.1 1 4 = nI V
      rw [q2.1 1 (by decide) (by decide) (by decide)]
      exact V3
    · rw [sL_s, updL_a, cc]
      by_cases hqK : q = K % 2048
      · rw [if_pos hqK]
        refine ⟨K, if isB (cOf sk fe 4 wo bi F O t) 4 s l a = true then 1 else 0, by split <;> omega, k2, rfl, Or.inr ⟨F, t, l, a, s, hF9, ht, hl, ha9, hs1, hs3, hKK.symm, ?_⟩⟩
        rw [hc]
      · rw [if_neg hqK, q2.2.1 26 (by decide) (by decide) (by decide) (by decide) (by decide)]
        exact V4 q hq'
