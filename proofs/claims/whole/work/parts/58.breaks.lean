/-! ===== a thing breaks, on both sides ===== -/
def m7 (f : Nat → Int32) (sh be wh bi : Nat) : Nat → Int32 := upd (if 0 < sh then upd f be (f be - nI sh) else f) wh ((if 0 < sh then upd f be (f be - nI sh) else f) wh - (nI bi - nI sh))
def m8 (f : Nat → Int32) (sh be wh bi : Nat) : Nat → Int32 := upd (if 0 < sh then upd f be (f be + nI sh) else f) wh ((if 0 < sh then upd f be (f be + nI sh) else f) wh + (nI bi - nI sh))
theorem m7_eq {f f' : Nat → Int32} {sh be wh bi Q : Nat} (h : ∀ p, p < Q → f p = f' p) (hb : 0 < sh → be < Q) (hw : wh < Q) : ∀ p, p < Q → m7 f sh be wh bi p = m7 f' sh be wh bi p := by
  have g : ∀ p, p < Q → (if 0 < sh then upd f be (f be - nI sh) else f) p = (if 0 < sh then upd f' be (f' be - nI sh) else f') p := by
    intro p hp
    by_cases c : 0 < sh
    · rw [if_pos c, if_pos c, upd_a, upd_a, h be (hb c), h p hp]
    · rw [if_neg c, if_neg c]; exact h p hp
  intro p hp
  unfold m7
  rw [upd_a, upd_a, g wh hw, g p hp]
theorem m8_eq {f f' : Nat → Int32} {sh be wh bi Q : Nat} (h : ∀ p, p < Q → f p = f' p) (hb : 0 < sh → be < Q) (hw : wh < Q) : ∀ p, p < Q → m8 f sh be wh bi p = m8 f' sh be wh bi p := by
  have g : ∀ p, p < Q → (if 0 < sh then upd f be (f be + nI sh) else f) p = (if 0 < sh then upd f' be (f' be + nI sh) else f') p := by
    intro p hp
    by_cases c : 0 < sh
    · rw [if_pos c, if_pos c, upd_a, upd_a, h be (hb c), h p hp]
    · rw [if_neg c, if_neg c]; exact h p hp
  intro p hp
  unfold m8
  rw [upd_a, upd_a, g wh hw, g p hp]
/-- who pays, what the one before pays -/
def byL (F a : Nat) (L : Int32) : Bool := decide (L ≠ -2) && !(fgt F a)
def whP (F a o : Nat) (L : Int32) : Nat := if byL F a L = true then tn L else o
def shP (F a h bi : Nat) (L B : Int32) : Nat := if byL F a L = true ∧ h = 1 ∧ B ≠ -2 then bi / 2 else 0
theorem w_paysA {w p : Nat} {M : mm} (hw : isO 9 w = true) (hp : p < 5) (v : Int32) : X9_pays w (nI p) v M = some ((), sA (sA M (w + 7) (upd (M.1 (w + 7)) p (M.1 (w + 7) p - v))) (w + 8) (upd (M.1 (w + 8)) p (M.1 (w + 8) p + v))) := by
  unfold X9_pays
  simp (disch := omega) only [hw, n_inb, n_cl, gd_t, lt_s_, sA_n]
theorem w_paysB {p : Nat} {M : mm} (hp : p < 5) (v : Int32) : X11_pays (nI p) v M = some ((), sA (sA M 87 (upd (M.1 87) p (M.1 87 p - v))) 88 (upd (M.1 88) p (M.1 88 p + v))) := by
  unfold X11_pays
  simp (disch := omega) only [n_inb, n_cl, gd_t, lt_s_, sA_n]
theorem who_c {P : Nat} {x : Int32} (hP : P ≤ 5) (h : x = -2 ∨ ∃ p, p < P ∧ x = nI p) : (x = -2 ∧ x < 0) ∨ ∃ p, p < P ∧ x = nI p ∧ x ≠ -2 ∧ ¬ x < 0 ∧ tn x = p := by
  rcases h with h | ⟨p, hp, h⟩
  · exact Or.inl ⟨h, by rw [h]; decide⟩
  · refine Or.inr ⟨p, hp, h, ?_, ?_, ?_⟩
    · rw [h]
      intro e
      rw [q_eq, nI_toInt (by omega)] at e
      rw [show ((-2 : Int32)).toInt = -2 from by decide] at e
      omega
    · rw [h, q_lt, nI_toInt (by omega), z32_0]
      omega
    · rw [h, tn_nI (by omega)]
/-- the bill is paid, the first side -/
theorem w_billsA {w t o bi h F a P : Nat} {M : mm} (hw : isO 9 w = true) (hw2 : 28 ≤ w) (ht : t < 6) (hP : P ≤ 5) (h5 : M.1 5 t = nI o) (ho : o < P) (h7 : M.1 7 t = nI bi) (hbi : bi ≤ 99) (hh : M.1 1 3 = nI h) (hh1 : h ≤ 1) (hF : M.1 1 2 = nI F) (hF9 : F ≤ 9) (ha : M.1 (w + 4) t = nI a) (ha9 : a ≤ 99) (hL : M.1 (w + 2) t = -2 ∨ ∃ p, p < P ∧ M.1 (w + 2) t = nI p) (hB : M.1 (w + 3) t = -2 ∨ ∃ p, p < P ∧ M.1 (w + 3) t = nI p) : ∃ M', X2_bills w (nI t) M = some ((), M') ∧ (M'.2 = M.2 ∧ ∀ k, k ≠ w + 7 → k ≠ w + 8 → k ≠ w + 10 → M'.1 k = M.1 k) ∧ M'.1 (w + 7) = m7 (M.1 (w + 7)) (shP F a h bi (M.1 (w + 2) t) (M.1 (w + 3) t)) (tn (M.1 (w + 3) t)) (whP F a o (M.1 (w + 2) t)) bi ∧ M'.1 (w + 8) = m8 (M.1 (w + 8)) (shP F a h bi (M.1 (w + 2) t) (M.1 (w + 3) t)) (tn (M.1 (w + 3) t)) (whP F a o (M.1 (w + 2) t)) bi ∧ M'.1 (w + 10) = upd (M.1 (w + 10)) t (nI (whP F a o (M.1 (w + 2) t))) := by
  have hL' := who_c hP hL
  have hB' := who_c hP hB
  have e48 : byL F a (M.1 (w + 2) t) = false → ∃ M', X2_bills_b48 w (nI t) (nI bi) M = some ((), M') ∧ (M'.2 = M.2 ∧ ∀ k, k ≠ w + 7 → k ≠ w + 8 → k ≠ w + 10 → M'.1 k = M.1 k) ∧ M'.1 (w + 7) = m7 (M.1 (w + 7)) (shP F a h bi (M.1 (w + 2) t) (M.1 (w + 3) t)) (tn (M.1 (w + 3) t)) (whP F a o (M.1 (w + 2) t)) bi ∧ M'.1 (w + 8) = m8 (M.1 (w + 8)) (shP F a h bi (M.1 (w + 2) t) (M.1 (w + 3) t)) (tn (M.1 (w + 3) t)) (whP F a o (M.1 (w + 2) t)) bi ∧ M'.1 (w + 10) = upd (M.1 (w + 10)) t (nI (whP F a o (M.1 (w + 2) t))) := by
    intro hb
    have hs0 : shP F a h bi (M.1 (w + 2) t) (M.1 (w + 3) t) = 0 := if_neg (fun q => by rw [hb] at q; exact nomatch q.1)
    have hwo : whP F a o (M.1 (w + 2) t) = o := if_neg (fun q => by rw [hb] at q; exact nomatch q)
    rw [hs0, hwo]
    unfold X2_bills_b48
    simp (disch := omega) only [n_inb, n_cl, gd_t, lt_s_, sA_n, h5, w_paysA hw (show o < 5 by omega), bd_s]
    refine ⟨_, rfl, ⟨rfl, fun k k1 k2 k3 => ?_⟩, ?_, ?_, ?_⟩
    · simp (disch := omega) only [sA_n]
    · simp (disch := omega) only [sA_s, sA_n, m7]
      rw [if_neg (by omega), show nI 0 = (0 : Int32) from rfl, Int32.sub_zero]
    · simp (disch := omega) only [sA_s, sA_n, m8]
      rw [if_neg (by omega), show nI 0 = (0 : Int32) from rfl, Int32.sub_zero]
    · simp (disch := omega) only [sA_s, sA_n]
  unfold X2_bills
  rw [hw, gd_t, n_inb ht (by omega), gd_t, gd_t, gd_t, n_cl (by omega), h7]
  rcases hL' with ⟨q1, q2⟩ | ⟨L, q1, q2, q3, q4, q5⟩
  · rw [if_pos q1]
    refine e48 ?_
    unfold byL
    rw [q1]; rfl
  · rw [if_neg q3, gd_t, ha, w_isFgtA hF9 ha9 hF, bd_s]
    cases hf : fgt F a with
    | true =>
      rw [show bI true = 1 from rfl, i_10]
      refine e48 ?_
      unfold byL
      rw [hf]; simp
    | false =>
      have hb : byL F a (M.1 (w + 2) t) = true := by
        unfold byL
        rw [hf, decide_eq_true q3]; rfl
      have hwL : whP F a o (M.1 (w + 2) t) = L := by
        unfold whP
        rw [if_pos hb]; exact q5
      rw [show bI false = 0 from rfl, i_00, hh, hwL]
      have e120 : ∀ (M1 : mm) (sh : Nat), X2_bills_b120 w (nI t) (nI L) (nI bi) (nI sh) M1 = some ((), sA (sA (sA M1 (w + 7) (upd (M1.1 (w + 7)) L (M1.1 (w + 7) L - (nI bi - nI sh)))) (w + 8) (upd (M1.1 (w + 8)) L (M1.1 (w + 8) L + (nI bi - nI sh)))) (w + 10) (upd (M1.1 (w + 10)) t (nI L))) := by
        intro M1 sh
        unfold X2_bills_b120
        rw [w_paysA hw (by omega), bd_s, n_inb ht (by omega), gd_t, n_cl (by omega), lt_s_]
        simp (disch := omega) only [sA_n]
      have e0 : shP F a h bi (M.1 (w + 2) t) (M.1 (w + 3) t) = 0 → ∃ M', X2_bills_b105 w (nI t) (nI L) (M.1 (w + 3) t) (nI bi) 0 M = some ((), M') ∧ (M'.2 = M.2 ∧ ∀ k, k ≠ w + 7 → k ≠ w + 8 → k ≠ w + 10 → M'.1 k = M.1 k) ∧ M'.1 (w + 7) = m7 (M.1 (w + 7)) (shP F a h bi (M.1 (w + 2) t) (M.1 (w + 3) t)) (tn (M.1 (w + 3) t)) L bi ∧ M'.1 (w + 8) = m8 (M.1 (w + 8)) (shP F a h bi (M.1 (w + 2) t) (M.1 (w + 3) t)) (tn (M.1 (w + 3) t)) L bi ∧ M'.1 (w + 10) = upd (M.1 (w + 10)) t (nI L) := by
        intro hs0
        have e1 := e120 M 0
        rw [show nI 0 = (0 : Int32) from rfl] at e1
        unfold X2_bills_b105
        rw [if_neg (by decide), e1, hs0]
        refine ⟨_, rfl, ⟨rfl, fun k k1 k2 k3 => ?_⟩, ?_, ?_, ?_⟩
        · simp (disch := omega) only [sA_n]
        · simp (disch := omega) only [sA_s, sA_n, m7]
          rw [if_neg (by omega), show nI 0 = (0 : Int32) from rfl]
        · simp (disch := omega) only [sA_s, sA_n, m8]
          rw [if_neg (by omega), show nI 0 = (0 : Int32) from rfl]
        · simp (disch := omega) only [sA_s, sA_n]
      rw [q2] at e0 hb ⊢
      by_cases hh2 : h = 1
      · rw [if_pos (by rw [hh2]; rfl)]
        rcases hB' with ⟨b1, b2⟩ | ⟨B, b1, b2, b3, b4, b5⟩
        · rw [if_pos b1]
          unfold X2_bills_b104
          exact e0 (if_neg fun q => q.2.2 b1)
        · rw [if_neg b3, n2, n_div (by omega) (by omega)]
          have hsh : shP F a h bi (nI L) (M.1 (w + 3) t) = bi / 2 := if_pos ⟨hb, hh2, b3⟩
          by_cases hz : 0 < bi / 2
          · unfold X2_bills_b105
            rw [n0, i_ltP (by omega) (by omega), if_pos hz, b2, w_paysA hw (by omega), bd_s, e120]
            rw [← b2, b5, hsh]
            refine ⟨_, rfl, ⟨rfl, fun k k1 k2 k3 => ?_⟩, ?_, ?_, ?_⟩
            · simp (disch := omega) only [sA_n]
            · simp (disch := omega) only [sA_s, sA_n, m7, if_pos hz]
            · simp (disch := omega) only [sA_s, sA_n, m8, if_pos hz]
            · simp (disch := omega) only [sA_s, sA_n]
          · have : bi / 2 = 0 := by omega
            rw [this, show nI 0 = (0 : Int32) from rfl]
            rw [this] at hsh
            exact e0 hsh
      · rw [if_neg (by rw [show (1 : Int32) = nI 1 from rfl, n_eq (by omega) (by omega)]; exact hh2)]
        unfold X2_bills_b104
        exact e0 (if_neg fun q => hh2 q.2.1)
