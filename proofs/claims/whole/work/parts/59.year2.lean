/-! ===== breaking keeps the two worlds alike ===== -/
def dcr (T t nx : Nat) (f : Nat → Int32) : Nat → Int32 := if nx < T ∧ nx ≠ t ∧ 1 < f nx then upd f nx (f nx - 1) else f
theorem w_breaksA {w t o bi h F a P T nx : Nat} {M : mm} (hw : isO 9 w = true) (hw2 : 28 ≤ w) (ht : t < T) (hT : T ≤ 6) (h11 : M.1 1 1 = nI T) (h8 : M.1 8 t = nI nx) (hnx : nx < 6) (hP : P ≤ 5) (h5 : M.1 5 t = nI o) (ho : o < P) (h7 : M.1 7 t = nI bi) (hbi : bi ≤ 99) (hh : M.1 1 3 = nI h) (hh1 : h ≤ 1) (hF : M.1 1 2 = nI F) (hF9 : F ≤ 9) (ha : M.1 (w + 4) t = nI a) (ha9 : a ≤ 99) (hL : M.1 (w + 2) t = -2 ∨ ∃ p, p < P ∧ M.1 (w + 2) t = nI p) (hB : M.1 (w + 3) t = -2 ∨ ∃ p, p < P ∧ M.1 (w + 3) t = nI p) : ∃ M', X2_breaks w (nI t) M = some ((), M') ∧ (M'.2 = M.2 ∧ ∀ k, (k ≤ w ∨ w + 10 < k) → M'.1 k = M.1 k) ∧ M'.1 (w + 1) = upd (dcr T t nx (M.1 (w + 1))) t 3 ∧ M'.1 (w + 2) = upd (M.1 (w + 2)) t (-2) ∧ M'.1 (w + 3) = upd (M.1 (w + 3)) t (-2) ∧ M'.1 (w + 4) = upd (M.1 (w + 4)) t 0 ∧ M'.1 (w + 5) = M.1 (w + 5) ∧ M'.1 (w + 6) = M.1 (w + 6) ∧ M'.1 (w + 7) = m7 (M.1 (w + 7)) (shP F a h bi (M.1 (w + 2) t) (M.1 (w + 3) t)) (tn (M.1 (w + 3) t)) (whP F a o (M.1 (w + 2) t)) bi ∧ M'.1 (w + 8) = m8 (M.1 (w + 8)) (shP F a h bi (M.1 (w + 2) t) (M.1 (w + 3) t)) (tn (M.1 (w + 3) t)) (whP F a o (M.1 (w + 2) t)) bi ∧ M'.1 (w + 9) = M.1 (w + 9) ∧ M'.1 (w + 10) = upd (M.1 (w + 10)) t (nI (whP F a o (M.1 (w + 2) t))) := by
  have e46 : ∀ f, ∃ M', X2_breaks_b46 w (nI t) (sA M (w + 1) f) = some ((), M') ∧ (M'.2 = M.2 ∧ ∀ k, (k ≤ w ∨ w + 10 < k) → M'.1 k = M.1 k) ∧ M'.1 (w + 1) = upd f t 3 ∧ M'.1 (w + 2) = upd (M.1 (w + 2)) t (-2) ∧ M'.1 (w + 3) = upd (M.1 (w + 3)) t (-2) ∧ M'.1 (w + 4) = upd (M.1 (w + 4)) t 0 ∧ M'.1 (w + 5) = M.1 (w + 5) ∧ M'.1 (w + 6) = M.1 (w + 6) ∧ M'.1 (w + 7) = m7 (M.1 (w + 7)) (shP F a h bi (M.1 (w + 2) t) (M.1 (w + 3) t)) (tn (M.1 (w + 3) t)) (whP F a o (M.1 (w + 2) t)) bi ∧ M'.1 (w + 8) = m8 (M.1 (w + 8)) (shP F a h bi (M.1 (w + 2) t) (M.1 (w + 3) t)) (tn (M.1 (w + 3) t)) (whP F a o (M.1 (w + 2) t)) bi ∧ M'.1 (w + 9) = M.1 (w + 9) ∧ M'.1 (w + 10) = upd (M.1 (w + 10)) t (nI (whP F a o (M.1 (w + 2) t))) := by
    intro f
    have z : ∀ k, k ≠ w + 1 → (sA M (w + 1) f).1 k = M.1 k := fun k hk => sA_n _ _ _ _ hk
    obtain ⟨M1, b0, b1, b2, b3, b4⟩ := w_billsA (M := sA M (w + 1) f) (h := h) (P := P) hw hw2 (show t < 6 by omega) hP (by rw [z 5 (by omega)]; exact h5) ho (by rw [z 7 (by omega)]; exact h7) hbi (by rw [z 1 (by omega)]; exact hh) hh1 (by rw [z 1 (by omega)]; exact hF) hF9 (by rw [z _ (by omega)]; exact ha) ha9 (by rw [z _ (by omega)]; exact hL) (by rw [z _ (by omega)]; exact hB)
    simp (disch := omega) only [sA_n] at b2 b3 b4
    unfold X2_breaks_b46
    rw [b0, bd_s, w_makeWhole hw (by omega), bd_s]
    have y : ∀ k, k ≠ w + 7 → k ≠ w + 8 → k ≠ w + 10 → k ≠ w + 1 → M1.1 k = M.1 k := fun k c1 c2 c3 c4 => (b1.2 k c1 c2 c3).trans (z k c4)
    have y1 : M1.1 (w + 1) = f := by rw [b1.2 _ (by omega) (by omega) (by omega), sA_s]
    refine ⟨_, rfl, ⟨b1.1, fun k hk => ?_⟩, ?_, ?_, ?_, ?_, ?_, ?_, ?_, ?_, ?_, ?_⟩
    · simp (disch := omega) only [sA_n]
      exact y k (by omega) (by omega) (by omega) (by omega)
    · simp (disch := omega) only [sA_n, sA_s]; rw [y1]
    · simp (disch := omega) only [sA_n, sA_s]; rw [y _ (by omega) (by omega) (by omega) (by omega)]
    · simp (disch := omega) only [sA_n, sA_s]; rw [y _ (by omega) (by omega) (by omega) (by omega)]
    · simp (disch := omega) only [sA_n, sA_s]; rw [y _ (by omega) (by omega) (by omega) (by omega)]
    · simp (disch := omega) only [sA_n, sA_s]; rw [y _ (by omega) (by omega) (by omega) (by omega)]
    · simp (disch := omega) only [sA_n, sA_s]; rw [y _ (by omega) (by omega) (by omega) (by omega)]
    · simp (disch := omega) only [sA_n, sA_s]; rw [b2]
    · simp (disch := omega) only [sA_n, sA_s]; rw [b3]
    · simp (disch := omega) only [sA_n, sA_s]; rw [y _ (by omega) (by omega) (by omega) (by omega)]
    · simp (disch := omega) only [sA_n, sA_s]; rw [b4]
  have e46' := e46 (M.1 (w + 1))
  rw [sA_same _ _ _ rfl] at e46'
  unfold X2_breaks dcr
  rw [hw, gd_t, n_inb (show t < 6 by omega) (by omega), gd_t, n_cl (by omega), h8, i_eqP (by omega) (by omega)]
  by_cases c1 : nx = t
  · rw [if_pos c1, if_neg (fun q => q.2.1 c1)]
    exact e46'
  · rw [if_neg c1, w_hasThing hT h11, bd_s, nI_toInt (by omega), i_P (bI_0 _)]
    by_cases c2 : nx < T
    · rw [decide_eq_true (by omega), if_neg (by decide), n_inb hnx (by omega), gd_t, n_cl (by omega), gd_t, gd_t]
      by_cases c3 : 1 < M.1 (w + 1) nx
      · rw [if_pos c3, if_pos ⟨c2, c1, c3⟩, lt_s_]
        exact e46 _
      · rw [if_neg c3, if_neg (fun q => c3 q.2.2)]
        exact e46'
    · rw [decide_eq_false (by omega), if_pos rfl, if_neg (fun q => c2 q.1)]
      exact e46'
theorem w_breaksB {t o bi h F a P T nx : Nat} {M : mm} (ht : t < T) (hT : T ≤ 6) (h11 : M.1 82 7 = nI T) (h8 : M.1 83 (27 + t) = nI nx) (hnx : nx < 6) (hP : P ≤ 5) (h5 : M.1 90 t = nI o) (ho : o < P) (h7 : M.1 83 (21 + t) = nI bi) (hbi : bi ≤ 99) (hh : M.1 82 20 = nI h) (hh1 : h ≤ 1) (hF : M.1 82 19 = nI F) (hF9 : F ≤ 9) (ha : M.1 94 t = nI a) (ha9 : a ≤ 99) (hL : M.1 92 t = -2 ∨ ∃ p, p < P ∧ M.1 92 t = nI p) (hB : M.1 93 t = -2 ∨ ∃ p, p < P ∧ M.1 93 t = nI p) : ∃ M', X11_breaks (nI t) M = some ((), M') ∧ (M'.2 = M.2 ∧ (∀ k, (k < 82 ∨ (82 < k ∧ k < 87) ∨ k = 90 ∨ 97 < k) → M'.1 k = M.1 k) ∧ M'.1 82 = upd (M.1 82) 44 (M.1 82 44 + 1)) ∧ M'.1 91 = upd (dcr T t nx (M.1 91)) t 3 ∧ M'.1 92 = upd (M.1 92) t (-2) ∧ M'.1 93 = upd (M.1 93) t (-2) ∧ M'.1 94 = upd (M.1 94) t 0 ∧ M'.1 96 = M.1 96 ∧ M'.1 95 = M.1 95 ∧ M'.1 87 = m7 (M.1 87) (shP F a h bi (M.1 92 t) (M.1 93 t)) (tn (M.1 93 t)) (whP F a o (M.1 92 t)) bi ∧ M'.1 88 = m8 (M.1 88) (shP F a h bi (M.1 92 t) (M.1 93 t)) (tn (M.1 93 t)) (whP F a o (M.1 92 t)) bi ∧ M'.1 89 = M.1 89 ∧ M'.1 97 = upd (M.1 97) t (nI (whP F a o (M.1 92 t))) := by
  have hL' := who_c hP hL
  have hB' := who_c hP hB
  have hw5 : whP F a o (M.1 92 t) < 5 := by
    unfold whP
    split
    · next hb =>
      rcases hL' with ⟨q1, q2⟩ | ⟨L, q1, q2, q3, q4, q5⟩
      · unfold byL at hb
        rw [q1] at hb
        simp at hb
      · omega
    · omega
  have e152 : ∀ (M1 : mm), X11_breaks_b152 (nI t) (nI bi) (nI (whP F a o (M.1 92 t))) (nI (shP F a h bi (M.1 92 t) (M.1 93 t))) M1 = some ((), sA (sA (sA (sA (sA (sA (sA (sA M1 87 (upd (M1.1 87) (whP F a o (M.1 92 t)) (M1.1 87 (whP F a o (M.1 92 t)) - (nI bi - nI (shP F a h bi (M.1 92 t) (M.1 93 t)))))) 88 (upd (M1.1 88) (whP F a o (M.1 92 t)) (M1.1 88 (whP F a o (M.1 92 t)) + (nI bi - nI (shP F a h bi (M.1 92 t) (M.1 93 t)))))) 97 (upd (M1.1 97) t (nI (whP F a o (M.1 92 t))))) 91 (upd (M1.1 91) t 3)) 92 (upd (M1.1 92) t (-2))) 93 (upd (M1.1 93) t (-2))) 94 (upd (M1.1 94) t 0)) 82 (upd (M1.1 82) 44 (M1.1 82 44 + 1))) := by
    intro M1
    unfold X11_breaks_b152
    simp (disch := omega) only [w_paysB hw5, bd_s, n_inb, n_cl, gd_t, lt_s_, sA_n, sA_s]
  have e43 : ∀ f, ∃ M', X11_breaks_b43 (nI t) (sA M 91 f) = some ((), M') ∧ (M'.2 = M.2 ∧ (∀ k, (k < 82 ∨ (82 < k ∧ k < 87) ∨ k = 90 ∨ 97 < k) → M'.1 k = M.1 k) ∧ M'.1 82 = upd (M.1 82) 44 (M.1 82 44 + 1)) ∧ M'.1 91 = upd f t 3 ∧ M'.1 92 = upd (M.1 92) t (-2) ∧ M'.1 93 = upd (M.1 93) t (-2) ∧ M'.1 94 = upd (M.1 94) t 0 ∧ M'.1 96 = M.1 96 ∧ M'.1 95 = M.1 95 ∧ M'.1 87 = m7 (M.1 87) (shP F a h bi (M.1 92 t) (M.1 93 t)) (tn (M.1 93 t)) (whP F a o (M.1 92 t)) bi ∧ M'.1 88 = m8 (M.1 88) (shP F a h bi (M.1 92 t) (M.1 93 t)) (tn (M.1 93 t)) (whP F a o (M.1 92 t)) bi ∧ M'.1 89 = M.1 89 ∧ M'.1 97 = upd (M.1 97) t (nI (whP F a o (M.1 92 t))) := by
    intro f
    -- the last pays alone, or with the one before
    have fin : ∀ (y : Option (Unit × mm)), (y = X11_breaks_b133 (nI t) (nI bi) (nI (whP F a o (M.1 92 t))) (nI (shP F a h bi (M.1 92 t) (M.1 93 t))) (sA M 91 f)) → (0 < shP F a h bi (M.1 92 t) (M.1 93 t) → ∃ B, B < P ∧ M.1 93 t = nI B ∧ tn (M.1 93 t) = B) → ∃ M', y = some ((), M') ∧ (M'.2 = M.2 ∧ (∀ k, (k < 82 ∨ (82 < k ∧ k < 87) ∨ k = 90 ∨ 97 < k) → M'.1 k = M.1 k) ∧ M'.1 82 = upd (M.1 82) 44 (M.1 82 44 + 1)) ∧ M'.1 91 = upd f t 3 ∧ M'.1 92 = upd (M.1 92) t (-2) ∧ M'.1 93 = upd (M.1 93) t (-2) ∧ M'.1 94 = upd (M.1 94) t 0 ∧ M'.1 96 = M.1 96 ∧ M'.1 95 = M.1 95 ∧ M'.1 87 = m7 (M.1 87) (shP F a h bi (M.1 92 t) (M.1 93 t)) (tn (M.1 93 t)) (whP F a o (M.1 92 t)) bi ∧ M'.1 88 = m8 (M.1 88) (shP F a h bi (M.1 92 t) (M.1 93 t)) (tn (M.1 93 t)) (whP F a o (M.1 92 t)) bi ∧ M'.1 89 = M.1 89 ∧ M'.1 97 = upd (M.1 97) t (nI (whP F a o (M.1 92 t))) := by
      intro y hy hbe
      have hs99 : shP F a h bi (M.1 92 t) (M.1 93 t) ≤ 99 := by unfold shP; split <;> omega
      rw [hy]
      unfold X11_breaks_b133
      rw [n0, i_ltP (by omega) (by omega)]
      by_cases hz : 0 < shP F a h bi (M.1 92 t) (M.1 93 t)
      · obtain ⟨B, c1, c2, c3⟩ := hbe hz
        rw [if_pos hz, n_inb (show t < 6 by omega) (by omega), gd_t, n_cl (by omega), sA_n _ _ _ _ (show (93 : Nat) ≠ 91 by decide), show X11_pays (M.1 93 t) = X11_pays (nI B) from by rw [c2], w_paysB (show B < 5 by omega), bd_s, e152]
        refine ⟨_, rfl, ⟨rfl, fun k hk => ?_, ?_⟩, ?_, ?_, ?_, ?_, ?_, ?_, ?_, ?_, ?_, ?_⟩
        all_goals simp (disch := omega) only [sA_n, sA_s]
        · rfl
        · unfold m7; rw [if_pos hz, c3]
        · unfold m8; rw [if_pos hz, c3]
      · rw [if_neg hz, e152]
        refine ⟨_, rfl, ⟨rfl, fun k hk => ?_, ?_⟩, ?_, ?_, ?_, ?_, ?_, ?_, ?_, ?_, ?_, ?_⟩
        all_goals simp (disch := omega) only [sA_n, sA_s]
        · rfl
        · unfold m7; rw [if_neg hz]
        · unfold m8; rw [if_neg hz]
    unfold X11_breaks_b43
    rw [l_21, n_inb (by omega) (by omega), gd_t, n_inb (show t < 6 by omega) (by omega), gd_t, n_cl (by omega), n_cl (by omega), sA_n _ _ _ _ (show (92 : Nat) ≠ 91 by decide), sA_n _ _ _ _ (show (83 : Nat) ≠ 91 by decide), sA_n _ _ _ _ (show (94 : Nat) ≠ 91 by decide), gd_t, h7, ha]
    have eo : byL F a (M.1 92 t) = false → X11_breaks_b79 (nI t) (nI bi) (sA M 91 f) = X11_breaks_b133 (nI t) (nI bi) (nI (whP F a o (M.1 92 t))) (nI (shP F a h bi (M.1 92 t) (M.1 93 t))) (sA M 91 f) := by
      intro hb
      have hs0 : shP F a h bi (M.1 92 t) (M.1 93 t) = 0 := if_neg (fun q => by rw [hb] at q; exact nomatch q.1)
      have hwo : whP F a o (M.1 92 t) = o := if_neg (fun q => by rw [hb] at q; exact nomatch q)
      unfold X11_breaks_b79 X11_breaks_b80 X11_breaks_b102 X11_breaks_b132
      rw [i_00, i_00, n_inb (show t < 6 by omega) (by omega), gd_t, n_cl (by omega), sA_n _ _ _ _ (show (90 : Nat) ≠ 91 by decide), h5, hs0, hwo]
      rfl
    have es : byL F a (M.1 92 t) = false → 0 < shP F a h bi (M.1 92 t) (M.1 93 t) → ∃ B, B < P ∧ M.1 93 t = nI B ∧ tn (M.1 93 t) = B := by
      intro hb h0
      have hs0 : shP F a h bi (M.1 92 t) (M.1 93 t) = 0 := if_neg (fun q => by rw [hb] at q; exact nomatch q.1)
      omega
    rcases hL' with ⟨q1, q2⟩ | ⟨L, q1, q2, q3, q4, q5⟩
    · have hb : byL F a (M.1 92 t) = false := by unfold byL; rw [q1]; rfl
      rw [if_pos q2]
      exact fin _ (eo hb) (es hb)
    · rw [if_neg q4, w_isForgotten hF9 ha9 (by rw [sA_n _ _ _ _ (by decide)]; exact hF), bd_s]
      cases hf : fgt F a with
      | true =>
        have hb : byL F a (M.1 92 t) = false := by unfold byL; rw [hf]; simp
        rw [show bI true = 1 from rfl, i_10]
        exact fin _ (eo hb) (es hb)
      | false =>
        have hb : byL F a (M.1 92 t) = true := by unfold byL; rw [hf, decide_eq_true q3]; rfl
        have hwL : whP F a o (M.1 92 t) = L := by unfold whP; rw [if_pos hb]; exact q5
        rw [show bI false = 0 from rfl, i_00]
        refine fin _ ?_ fun hz => ?_
        · unfold X11_breaks_b80 X11_breaks_b102 X11_breaks_b132
          rw [i_10, i_10, n_inb (show t < 6 by omega) (by omega), gd_t, gd_t, n_cl (by omega), sA_n _ _ _ _ (show (92 : Nat) ≠ 91 by decide), sA_n _ _ _ _ (show (93 : Nat) ≠ 91 by decide), sA_n _ _ _ _ (show (82 : Nat) ≠ 91 by decide), hh, hwL, q2]
          by_cases hh2 : h = 1
          · rw [if_pos (by rw [hh2]; rfl)]
            rcases hB' with ⟨b1, b2⟩ | ⟨B, b1, b2, b3, b4, b5⟩
            · have hs0 : shP F a h bi (nI L) (M.1 93 t) = 0 := if_neg fun q => q.2.2 b1
              rw [if_pos b2, hs0]
              rfl
            · have hsh : shP F a h bi (nI L) (M.1 93 t) = bi / 2 := if_pos ⟨by rw [← q2]; exact hb, hh2, b3⟩
              rw [if_neg b4, n2, n_div (by omega) (by omega), hsh]
          · have hs0 : shP F a h bi (nI L) (M.1 93 t) = 0 := if_neg fun q => hh2 q.2.1
            rw [if_neg (by rw [show (1 : Int32) = nI 1 from rfl, n_eq (by omega) (by omega)]; exact hh2), hs0]
            rfl
        · rcases hB' with ⟨b1, b2⟩ | ⟨B, b1, b2, b3, b4, b5⟩
          · have hs0 : shP F a h bi (M.1 92 t) (M.1 93 t) = 0 := if_neg fun q => q.2.2 b1
            omega
          · exact ⟨B, b1, b2, b5⟩
  have e43' := e43 (M.1 91)
  rw [sA_same _ _ _ rfl] at e43'
  unfold X11_breaks dcr
  rw [l_27, n_inb (by omega) (by omega), gd_t, n_cl (by omega), h8, h11, i_ltP (by omega) (by omega), i_eqP (by omega) (by omega)]
  by_cases c2 : nx < T
  · rw [if_pos c2]
    by_cases c1 : nx = t
    · rw [if_pos c1, if_neg (fun q => q.2.1 c1)]
      exact e43'
    · rw [if_neg c1, n_inb hnx (by omega), gd_t, n_cl (by omega), gd_t, gd_t]
      by_cases c3 : 1 < M.1 91 nx
      · rw [if_pos c3, if_pos ⟨c2, c1, c3⟩, lt_s_]
        exact e43 _
      · rw [if_neg c3, if_neg (fun q => c3 q.2.2)]
        exact e43'
  · rw [if_neg c2, if_neg (fun q => c2 q.1)]
    exact e43'
