/-! ===== the other side: what a thing is; what one may have to pay ===== -/
def EqW (M M' : mm) : Prop := M'.2.2 = M.2.2 ∧ (∀ k, k ≠ 82 → k ≠ 100 → k ≠ 102 → k ≠ 104 → M'.1 k = M.1 k) ∧ (∀ k, k ≠ 101 → k ≠ 103 → k ≠ 105 → M'.2.1 k = M.2.1 k) ∧ ∀ j, (j < 27 ∨ 41 < j) → M'.1 82 j = M.1 82 j
theorem EqW_r (M : mm) : EqW M M := ⟨rfl, fun _ _ _ _ _ => rfl, fun _ _ _ _ => rfl, fun _ _ => rfl⟩
theorem EqW_t {M M' M'' : mm} (h : EqW M M') (h2 : EqW M' M'') : EqW M M'' := ⟨h2.1.trans h.1, fun k a b c d => (h2.2.1 k a b c d).trans (h.2.1 k a b c d), fun k a b c => (h2.2.2.1 k a b c).trans (h.2.2.1 k a b c), fun j a => (h2.2.2.2 j a).trans (h.2.2.2 j a)⟩
theorem EqW_mv (M : mm) (f : Nat → Int64) (g : Nat → Int32) : EqW M (mv M f g) := ⟨rfl, fun k _ _ _ d => mv_1 _ _ _ _ d, fun k _ b _ => mv_2 _ _ _ _ b, fun j _ => by rw [mv_1 _ _ _ 82 (by decide)]⟩
theorem EqW_105 (M : mm) (f : Nat → Int64) : EqW M (sL M 105 f) := ⟨rfl, fun k _ _ _ d => rfl, fun k _ _ b => sL_n _ _ _ _ b, fun j _ => rfl⟩
def EqV (M M' : mm) : Prop := M'.2 = M.2 ∧ (∀ k, k ≠ 82 → k ≠ 100 → k ≠ 102 → M'.1 k = M.1 k) ∧ ∀ j, (j < 27 ∨ 31 < j) → M'.1 82 j = M.1 82 j
theorem EqV_r (M : mm) : EqV M M := ⟨rfl, fun _ _ _ _ => rfl, fun _ _ => rfl⟩
theorem EqV_t {M M' M'' : mm} (h : EqV M M') (h2 : EqV M' M'') : EqV M M'' := ⟨h2.1.trans h.1, fun k a b c => (h2.2.1 k a b c).trans (h.2.1 k a b c), fun j a => (h2.2.2 j a).trans (h.2.2 j a)⟩
theorem EqV_N {M M' : mm} (h : EqN M M') : EqV M M' := ⟨h.1, fun k a b _ => h.2.1 k a b, h.2.2⟩
theorem EqV_A {M M' : mm} (h : EqV M M') (f : Nat → Int32) : EqV M (sA M' 102 f) := ⟨h.1, fun k a b c => by rw [sA_n _ _ _ _ c]; exact h.2.1 k a b c, fun j a => by rw [sA_n _ _ _ _ (by decide)]; exact h.2.2 j a⟩
theorem w_L10 (a1 a2 a3 : Int32) (K : mm → Option (Unit × mm)) : ∀ n k (M : mm) h0, k ≤ 6 → 6 - k < n → (∀ j, j ≤ k → h0 j = pw12 j) → ∃ h, X11_thinksOf_L10 a1 a2 a3 K n (nI (k + 1)) (sL M 101 h0) = K (sL M 101 h) ∧ ∀ j, j ≤ 6 → h j = pw12 j := by
  intro n
  induction n with
  | zero => intro k M h0 _ h; omega
  | succ n ih =>
    intro k M h0 hk hn hh
    rw [X11_thinksOf_L10, n6, i_ltP (by omega) (by omega)]
    by_cases h : 6 < k + 1
    · rw [if_pos h]
      exact ⟨h0, rfl, fun j hj => hh j (by omega)⟩
    · rw [if_neg h, nI_pred, n_inb (by omega) (by omega), gd_t, n_inb (by omega) (by omega), gd_t, lt_s_, sL_sL, sL_s, n_cl (by omega), n_cl (by omega), nI_1]
      refine ih (k + 1) M _ (by omega) (by omega) fun j hj => ?_
      rw [updL_a]
      by_cases hj1 : j = k + 1
      · rw [if_pos hj1, hh k (by omega), hj1]; rfl
      · rw [if_neg hj1]; exact hh j (by omega)
def wearI (w : Nat → Nat → Nat → Nat) (s a : Nat) (M : mm) : Prop := ∀ s' l' a', (s' < s ∨ (s' = s ∧ a' < a)) → 1 ≤ s' → l' ≤ 1 → a' < 100 → M.1 102 ((s' * 2 + l') * 100 + a') = nI (w s' l' a')
theorem w_L55 {O : Option (List stp)} {t s : Nat} (ht : t < 6) (hs1 : 1 ≤ s) (hs : s ≤ 3) (a2 a3 : Int32) (K : Int32 → mm → Option (Unit × mm)) : ∀ n a (M : mm), a ≤ 100 → 100 - a < n → lawB O M → wearI (fun s l a => wn O s t a l) s a M → ∃ M', X11_thinksOf_L55 (nI t) a2 a3 K n (nI s) (nI a) M = K (nI s) M' ∧ EqV M M' ∧ wearI (fun s l a => wn O s t a l) s 100 M' := by
  intro n
  induction n with
  | zero => intro a M _ h; omega
  | succ n ih =>
    intro a M ha hn hB hw
    rw [X11_thinksOf_L55, n100, i_ltP (by omega) (by omega)]
    by_cases h : a < 100
    · obtain ⟨M1, e1, v1⟩ := w_numberOf hB s t a 0
      have hB1 : ∀ f, lawB O (sA M1 102 f) := fun f => lawB_N hB ⟨by rw [sA_n _ _ _ _ (by decide)]; exact v1.2.2 26 (by omega), by rw [sA_n _ _ _ _ (by decide)]; exact v1.2.1 99 (by decide) (by decide)⟩
      obtain ⟨M2, e2, v2⟩ := w_numberOf (hB1 (upd (M1.1 102) (s * 2 * 100 + a) (nI (wn O s t a 0)))) s t a 1
      rw [show nI 0 = (0 : Int32) from rfl] at e1
      rw [show nI 1 = (1 : Int32) from rfl] at e2
      rw [if_pos h, e1, bd_s, show nI s * 2 * nI 100 + nI a = nI (s * 2 * 100 + a) from by rw [n2, n_mul, n_mul, n_add], n_inb (by omega) (by omega), gd_t, lt_s_, n_cl (by omega), e2, bd_s, show (nI s * 2 + 1) * nI 100 + nI a = nI ((s * 2 + 1) * 100 + a) from by rw [n2, n_mul, nI_1, n_mul, n_add], n_inb (by omega) (by omega), gd_t, lt_s_, n_cl (by omega), nI_1]
      have V : EqV M (sA M2 102 (upd (M2.1 102) ((s * 2 + 1) * 100 + a) (nI (wn O s t a 1)))) := EqV_A (EqV_t (EqV_A (EqV_N v1) _) (EqV_N v2)) _
      obtain ⟨M', g1, g2, g3⟩ := ih (a + 1) (sA M2 102 (upd (M2.1 102) ((s * 2 + 1) * 100 + a) (nI (wn O s t a 1)))) (by omega) (by omega) (lawB_N hB ⟨V.2.2 26 (by omega), V.2.1 99 (by decide) (by decide) (by decide)⟩) (by
        intro s' l' a' q s1 l1 a100
        rw [sA_s, upd_a, v2.2.1 102 (by decide) (by decide), sA_s, upd_a, v1.2.1 102 (by decide) (by decide)]
        by_cases c1 : (s' * 2 + l') * 100 + a' = (s * 2 + 1) * 100 + a
        · obtain ⟨rfl, rfl, rfl⟩ : s' = s ∧ l' = 1 ∧ a' = a := by omega
          rw [if_pos c1]
        · rw [if_neg c1]
          by_cases c2 : (s' * 2 + l') * 100 + a' = s * 2 * 100 + a
          · obtain ⟨rfl, rfl, rfl⟩ : s' = s ∧ l' = 0 ∧ a' = a := by omega
            rw [if_pos c2]
          · rw [if_neg c2]
            exact hw s' l' a' (by omega) s1 l1 a100)
      exact ⟨M', g1, EqV_t V g2, g3⟩
    · rw [if_neg h]
      obtain rfl : a = 100 := by omega
      exact ⟨M, rfl, EqV_r M, hw⟩
theorem w_L46 {O : Option (List stp)} {t : Nat} (ht : t < 6) (a2 a3 : Int32) (K : mm → Option (Unit × mm)) : ∀ n s (M : mm), 1 ≤ s → s ≤ 4 → 4 - s < n → lawB O M → wearI (fun s l a => wn O s t a l) s 0 M → ∃ M', X11_thinksOf_L46 (nI t) a2 a3 K n (nI s) M = K M' ∧ EqV M M' ∧ wearI (fun s l a => wn O s t a l) 4 0 M' := by
  intro n
  induction n with
  | zero => intro s M _ _ h; omega
  | succ n ih =>
    intro s M hs1 hs hn hB hw
    rw [X11_thinksOf_L46, n4, i_ltP (by omega) (by omega)]
    by_cases h : s < 4
    · rw [if_pos h]
      obtain ⟨M1, e1, v1, w1⟩ := w_L55 ht hs1 (show s ≤ 3 by omega) a2 a3 (fun x4 M => (X11_thinksOf_L46 (nI t) a2 a3 K n) (x4 + 1) M) 10000 0 M (by omega) (by omega) hB hw
      rw [n0, e1]
      simp only [nI_1]
      obtain ⟨M', g1, g2, g3⟩ := ih (s + 1) M1 (by omega) (by omega) (by omega) (lawB_N hB ⟨v1.2.2 26 (by omega), v1.2.1 99 (by decide) (by decide) (by decide)⟩) (fun s' l' a' q s1 l1 a100 => w1 s' l' a' (by omega) s1 l1 a100)
      exact ⟨M', g1, EqV_t v1 g2, g3⟩
    · rw [if_neg h]
      obtain rfl : s = 4 := by omega
      exact ⟨M, rfl, EqV_r M, hw⟩
/-- what a thing is for one who owns it -/
def cOf (sk fe wy wo bi F : Nat) (O : Option (List stp)) (t : Nat) : cns := (sk, fe, wy, wo, bi, F, fun s l a => wn O s t a l)
theorem w_thinksOf {O : Option (List stp)} {t p sk fe wy wo bi F : Nat} {M : mm} (hB : lawB O M) (ht : t < 6) (hp : p < 5) (h1 : M.1 83 p = nI sk) (h2 : M.1 83 (5 + p) = nI fe) (h3 : M.1 83 (15 + t) = nI wo) (h4 : M.1 83 (21 + t) = nI bi) (h5 : M.1 82 19 = nI F) (k1 : 1 ≤ sk ∧ sk ≤ 3 ∧ wy ≤ 4 ∧ F ≤ 9) : ∃ M', X11_thinksOf (nI t) (nI p) (nI wy) M = some ((), M') ∧ EqW M M' ∧ E0 (cOf sk fe wy wo bi F O t) M' := by
  unfold X11_thinksOf
  obtain ⟨h, e1, hh⟩ := w_L10 (nI t) (nI p) (nI wy) (fun M =>
      X11_thinksOf_L46 (nI t) (nI p) (nI wy) (fun M =>
          gd (inb (nI p) 33) <|
          lt_ (sA M 82 (upd (M.1 82) 37 (M.1 83 (nI p).toNatClampNeg))) fun M20 =>
          gd (inb (5 + (nI p)) 33) <|
          lt_ (sA M20 82 (upd (M20.1 82) 38 (M20.1 83 (5 + (nI p)).toNatClampNeg))) fun M22 =>
          lt_ (sA M22 82 (upd (M22.1 82) 39 (nI wy))) fun M23 =>
          gd (inb (15 + (nI t)) 33) <|
          lt_ (sA M23 82 (upd (M23.1 82) 40 (M23.1 83 (15 + (nI t)).toNatClampNeg))) fun M25 =>
          gd (inb (21 + (nI t)) 33) <|
          lt_ (sA M25 82 (upd (M25.1 82) 41 (M25.1 83 (21 + (nI t)).toNatClampNeg))) fun M27 =>
          some ((), M27)) 10000 1 M) 10000 0 M (vp_updL (M.2.1 101) 0 1) (by omega) (by omega) (fun j hj => by
    obtain rfl : j = 0 := by omega
    rw [updL_s]; rfl)
  rw [show inb 0 7 = true from by decide, gd_t, lt_s_, show ((0 : Int32)).toNatClampNeg = 0 from by decide]
  rw [show nI (0 + 1) = (1 : Int32) from rfl] at e1
  rw [e1]
  obtain ⟨M1, e2, v2, w2⟩ := w_L46 (O := O) ht (nI p) (nI wy) (fun M =>
          gd (inb (nI p) 33) <|
          lt_ (sA M 82 (upd (M.1 82) 37 (M.1 83 (nI p).toNatClampNeg))) fun M20 =>
          gd (inb (5 + (nI p)) 33) <|
          lt_ (sA M20 82 (upd (M20.1 82) 38 (M20.1 83 (5 + (nI p)).toNatClampNeg))) fun M22 =>
          lt_ (sA M22 82 (upd (M22.1 82) 39 (nI wy))) fun M23 =>
          gd (inb (15 + (nI t)) 33) <|
          lt_ (sA M23 82 (upd (M23.1 82) 40 (M23.1 83 (15 + (nI t)).toNatClampNeg))) fun M25 =>
          gd (inb (21 + (nI t)) 33) <|
          lt_ (sA M25 82 (upd (M25.1 82) 41 (M25.1 83 (21 + (nI t)).toNatClampNeg))) fun M27 =>
          some ((), M27)) 10000 1 (sL M 101 h) (by omega) (by omega) (by omega) (lawB_N hB ⟨rfl, rfl⟩) (fun s' l' a' q s1 _ _ => by omega)
  rw [show nI 1 = (1 : Int32) from rfl] at e2
  rw [e2]
  have e83 : M1.1 83 = M.1 83 := v2.2.1 83 (by decide) (by decide) (by decide)
  simp (disch := omega) only [l_5, l_15, l_21, n_inb, n_cl, gd_t, lt_s_, sA_s, sA_n, sA_sA]
  rw [e83, h1, h2, h3, h4]
  refine ⟨_, rfl, ⟨?_, fun k a b c d => ?_, fun k a b c => ?_, fun j hj => ?_⟩, ⟨⟨?_, ?_, ?_, ?_, ?_, ?_⟩, k1, fun k hk => ?_, fun s l a s1 s3 l1 a100 => ?_⟩⟩
  · show M1.2.2 = M.2.2
    rw [v2.1]; rfl
  · rw [sA_n _ _ _ _ a]
    exact v2.2.1 k a b c
  · show M1.2.1 k = _
    rw [v2.1, sL_n _ _ _ _ a]
  · rw [sA_s, upd_n _ _ _ _ (by omega), upd_n _ _ _ _ (by omega), upd_n _ _ _ _ (by omega), upd_n _ _ _ _ (by omega), upd_n _ _ _ _ (by omega)]
    exact v2.2.2 j (by omega)
  · simp (disch := decide) only [sA_s, upd_n, upd_s]; rfl
  · simp (disch := decide) only [sA_s, upd_n, upd_s]; rfl
  · simp (disch := decide) only [sA_s, upd_n, upd_s]; rfl
  · simp (disch := decide) only [sA_s, upd_n, upd_s]; rfl
  · simp (disch := decide) only [sA_s, upd_n, upd_s]; rfl
  · simp (disch := decide) only [sA_s, upd_n, upd_s]
    rw [v2.2.2 19 (by omega)]
    exact h5
  · show M1.2.1 101 k = _
    rw [v2.1, sL_s]
    exact hh k hk
  · rw [sA_n _ _ _ _ (by decide)]
    exact w2 s l a (by omega) s1 l1 a100
/-- what the last one may have to pay, in parts of twelve to k, for a bill of one -/
def pY (c : cns) : Nat → Nat → Nat → Int64
  | 0, _, _ => 0
  | k + 1, s, a => cL (cW c s 1 a) * (if 1 < s then pY c k (s - 1) (oldr a) else if fgt (cF c) a = true then 0 else pw12 k) + (12 - nI (cW c s 1 a)).toInt64 * pY c k s (oldr a)
def pp (k s a : Nat) : Nat := (k * 4 + s) * 100 + a
theorem pp_lt {k s a : Nat} (h : k ≤ 6) (h1 : s ≤ 3) (h3 : a < 100) : pp k s a < 2800 := by
  unfold pp
  omega
theorem w_payAt (k s a : Nat) (M : mm) : X11_payAt (nI k) (nI s) (nI a) M = some (nI (pp k s a), M) := by
  unfold X11_payAt pp
  simp only [n4, n100, n_mul, n_add]
def tbP (c : cns) (f : Nat → Int64) (k s a : Nat) : Prop := ∀ k' s' a', (k' < k ∨ (k' = k ∧ (s' < s ∨ (s' = s ∧ a' < a)))) → k' ≤ 6 → 1 ≤ s' → s' ≤ 3 → a' < 100 → f (pp k' s' a') = pY c k' s' a'
theorem tbP_w {c : cns} {f : Nat → Int64} {k s a : Nat} (hs : s ≤ 3) (ha : a < 100) (h : tbP c f k s a) {x : Int64} (hx : x = pY c k s a) : tbP c (vp_updL f (pp k s a) x) k s (a + 1) := by
  intro k' s' a' q k6 s1 s3 a100
  rw [updL_a]
  by_cases e : pp k' s' a' = pp k s a
  · obtain ⟨rfl, rfl, rfl⟩ : k' = k ∧ s' = s ∧ a' = a := by unfold pp at e; omega
    rw [if_pos e]; exact hx
  · rw [if_neg e]
    refine h k' s' a' ?_ k6 s1 s3 a100
    rcases q with q | ⟨q1, q | ⟨q2, q⟩⟩
    · exact Or.inl q
    · exact Or.inr ⟨q1, Or.inl q⟩
    · refine Or.inr ⟨q1, Or.inr ⟨q2, ?_⟩⟩
      by_cases hq : a' = a
      · subst q1 q2 hq
        exact absurd rfl e
      · omega
theorem p_L12 {c : cns} (b1 b2 b3 b4 : Int32) (M0 : mm) {s : Nat} (hs : s ≤ 3) (K : Int32 → mm → Option (Int64 × mm)) : ∀ n a f, a ≤ 100 → 100 - a < n → tbP c f 0 s a → ∃ f', X11_paysFrom_L12 b1 b2 b3 b4 K n (nI s) (nI a) (sL M0 105 f) = K (nI s) (sL M0 105 f') ∧ tbP c f' 0 s 100 := by
  intro n
  induction n with
  | zero => intro a f _ h; omega
  | succ n ih =>
    intro a f ha hn hT
    rw [X11_paysFrom_L12, n100, i_ltP (by omega) (by omega)]
    by_cases h : a < 100
    · have hp := pp_lt (k := 0) (by omega) hs h
      rw [if_pos h, n0, w_payAt, bd_s, n_inb hp (by omega), gd_t, lt_s_, n_cl (by omega), sL_s, sL_sL, nI_1]
      exact ih (a + 1) _ (by omega) (by omega) (tbP_w hs h hT rfl)
    · rw [if_neg h]
      obtain rfl : a = 100 := by omega
      exact ⟨f, rfl, hT⟩
theorem p_L3 {c : cns} (b1 b2 b3 b4 : Int32) (M0 : mm) (K : mm → Option (Int64 × mm)) : ∀ n s f, s ≤ 4 → 4 - s < n → tbP c f 0 s 0 → ∃ f', X11_paysFrom_L3 b1 b2 b3 b4 K n (nI s) (sL M0 105 f) = K (sL M0 105 f') ∧ tbP c f' 1 1 0 := by
  intro n
  induction n with
  | zero => intro s f _ h; omega
  | succ n ih =>
    intro s f hs hn hT
    rw [X11_paysFrom_L3, n4, i_ltP (by omega) (by omega)]
    by_cases h : s < 4
    · rw [if_pos h]
      obtain ⟨f1, e1, h1⟩ := p_L12 b1 b2 b3 b4 M0 (show s ≤ 3 by omega) (fun x5 M => (X11_paysFrom_L3 b1 b2 b3 b4 K n) (x5 + 1) M) 10000 0 f (by omega) (by omega) hT
      rw [n0, e1]
      simp only [nI_1]
      exact ih (s + 1) f1 (by omega) (by omega) (fun k' s' a' q k6 s1 s3 a100 => h1 k' s' a' (by omega) k6 s1 s3 a100)
    · rw [if_neg h]
      exact ⟨f, rfl, fun k' s' a' q k6 s1 s3 a100 => hT k' s' a' (by omega) k6 s1 s3 a100⟩
theorem p_L66 {c : cns} (b1 b2 b3 b4 : Int32) {M0 : mm} (hE : E0 c M0) {k s : Nat} (hk : k + 1 ≤ 6) (hs1 : 1 ≤ s) (hs : s ≤ 3) (K : Int32 → Int32 → mm → Option (Int64 × mm)) : ∀ n a f, a ≤ 100 → 100 - a < n → tbP c f (k + 1) s a → ∃ f', X11_paysFrom_L66 b1 b2 b3 b4 K n (nI (k + 1)) (nI s) (nI a) (sL M0 105 f) = K (nI (k + 1)) (nI s) (sL M0 105 f') ∧ tbP c f' (k + 1) s 100 := by
  intro n
  induction n with
  | zero => intro a f _ h; omega
  | succ n ih =>
    intro a f ha hn hT
    rw [X11_paysFrom_L66, n100, i_ltP (by omega) (by omega)]
    by_cases h : a < 100
    · have hp := pp_lt hk hs h
      have ho : oldr a < 100 := by unfold oldr; split <;> omega
      have e1 : (if nI a < 99 then nI a + 1 else nI a) = nI (oldr a) := by
        rw [n99, i_ltP (by omega) (by omega), nI_1]
        unfold oldr
        split <;> rfl
      have rd : ∀ s' a', 1 ≤ s' → s' ≤ 3 → a' < 100 → (sL M0 105 f).2.1 105 (nI (pp k s' a')).toNatClampNeg = pY c k s' a' := by
        intro s' a' g1 g2 g4
        have := pp_lt (k := k) (by omega) g2 g4
        rw [n_cl (by omega), sL_s]
        exact hT k s' a' (Or.inl (by omega)) (by omega) g1 g2 g4
      have hr := hE.2.1.2.2.2
      have h151 : ∀ s0 : Int64, s0 = (if 1 < s then pY c k (s - 1) (oldr a) else if fgt (cF c) a = true then 0 else pw12 k) → ∃ f', X11_paysFrom_b151 b1 b2 b3 b4 (X11_paysFrom_L66 b1 b2 b3 b4 K n) K (nI (k + 1)) (nI s) (nI a) (nI (cW c s 1 a)) (nI (oldr a)) s0 (sL M0 105 f) = K (nI (k + 1)) (nI s) (sL M0 105 f') ∧ tbP c f' (k + 1) s 100 := by
        intro s0 hs0
        unfold X11_paysFrom_b151
        have := pp_lt (k := k) (by omega) hs ho
        rw [w_payAt, bd_s, nI_pred, w_payAt, bd_s, n_inb this (by omega), gd_t, n_inb hp (by omega), gd_t, lt_s_, rd s _ hs1 hs ho, n_cl (by omega), sL_s, sL_sL, nI_1]
        refine ih (a + 1) _ (by omega) (by omega) (tbP_w hs h hT ?_)
        rw [hs0, pY]
        rfl
      rw [if_pos h, n0, w_wearsAt (M := sL M0 105 f) (l := 0) hE hs1 hs (by omega) h rfl, bd_s, e1, show ledO 0 = 1 from rfl]
      unfold X11_paysFrom_b100
      rw [n1, i_ltP (by omega) (by omega), ← n1]
      by_cases h1 : 1 < s
      · have := pp_lt (k := k) (s := s - 1) (by omega) (by omega) ho
        rw [if_pos h1, nI_pred, show nI s - 1 = nI (s - 1) from by rw [n1, n_sub (by omega)], w_payAt, bd_s, n_inb this (by omega), gd_t, rd (s - 1) _ (by omega) (by omega) ho]
        exact h151 _ (by rw [if_pos h1])
      · rw [if_neg h1, w_isForgotten hr (by omega) (show (sL M0 105 f).1 82 19 = nI (cF c) from hE.1.2.2.2.2.2), bd_s]
        cases hf : fgt (cF c) a with
        | false =>
          rw [show bI false = 0 from rfl, i_00, nI_pred, n_inb (by omega) (by omega), gd_t, n_cl (by omega), sL_n _ _ _ _ (by decide), hE.2.2.1 k (by omega)]
          exact h151 _ (by rw [if_neg h1, hf]; rfl)
        | true =>
          rw [show bI true = 1 from rfl, i_10]
          exact h151 _ (by rw [if_neg h1, hf]; rfl)
    · rw [if_neg h]
      obtain rfl : a = 100 := by omega
      exact ⟨f, rfl, hT⟩
theorem p_L57 {c : cns} (b1 b2 b3 b4 : Int32) {M0 : mm} (hE : E0 c M0) {k : Nat} (hk : k + 1 ≤ 6) (K : Int32 → mm → Option (Int64 × mm)) : ∀ n s f, 1 ≤ s → s ≤ 4 → 4 - s < n → tbP c f (k + 1) s 0 → ∃ f', X11_paysFrom_L57 b1 b2 b3 b4 K n (nI (k + 1)) (nI s) (sL M0 105 f) = K (nI (k + 1)) (sL M0 105 f') ∧ tbP c f' (k + 2) 1 0 := by
  intro n
  induction n with
  | zero => intro s f _ _ h; omega
  | succ n ih =>
    intro s f hs1 hs hn hT
    rw [X11_paysFrom_L57, n4, i_ltP (by omega) (by omega)]
    by_cases h : s < 4
    · rw [if_pos h]
      obtain ⟨f1, e1, h1⟩ := p_L66 b1 b2 b3 b4 hE hk hs1 (show s ≤ 3 by omega) (fun x5 x6 M => (X11_paysFrom_L57 b1 b2 b3 b4 K n) x5 (x6 + 1) M) 10000 0 f (by omega) (by omega) hT
      rw [n0, e1]
      simp only [nI_1]
      exact ih (s + 1) f1 (by omega) (by omega) (by omega) (fun k' s' a' q k6 s1 s3 a100 => h1 k' s' a' (by omega) k6 s1 s3 a100)
    · rw [if_neg h]
      exact ⟨f, rfl, fun k' s' a' q k6 s1 s3 a100 => hT k' s' a' (by omega) k6 s1 s3 a100⟩
theorem p_L48 {c : cns} {y : Nat} (hy : y ≤ 6) (b1 b3 b4 : Int32) {M0 : mm} (hE : E0 c M0) (K : mm → Option (Int64 × mm)) : ∀ n k f, k ≤ y → y - k < n → tbP c f (k + 1) 1 0 → ∃ f', X11_paysFrom_L48 b1 (nI y) b3 b4 K n (nI (k + 1)) (sL M0 105 f) = K (sL M0 105 f') ∧ tbP c f' (y + 1) 1 0 := by
  intro n
  induction n with
  | zero => intro k f _ h; omega
  | succ n ih =>
    intro k f hk hn hT
    rw [X11_paysFrom_L48, i_ltP (by omega) (by omega)]
    by_cases h : y < k + 1
    · rw [if_pos h]
      obtain rfl : y = k := by omega
      exact ⟨f, rfl, hT⟩
    · rw [if_neg h]
      obtain ⟨f1, e1, h1⟩ := p_L57 b1 (nI y) b3 b4 hE (show k + 1 ≤ 6 by omega) (fun x5 M => (X11_paysFrom_L48 b1 (nI y) b3 b4 K n) (x5 + 1) M) 10000 1 f (by omega) (by omega) (by omega) hT
      rw [show nI 1 = (1 : Int32) from rfl] at e1
      rw [e1]
      simp only [nI_1]
      exact ih (k + 1) f1 (by omega) (by omega) h1
theorem w_paysFrom {c : cns} {y s a : Nat} (hy : y ≤ 6) (hs1 : 1 ≤ s) (hs : s ≤ 3) (ha : a < 100) (b1 : Int32) {M : mm} (hE : E0 c M) : ∃ f, X11_paysFrom b1 (nI y) (nI s) (nI a) M = some (pY c y s a, sL M 105 f) := by
  unfold X11_paysFrom
  have hM : sL M 105 (M.2.1 105) = M := by
    refine Prod.ext rfl (Prod.ext (funext fun k => ?_) rfl)
    show (if k = 105 then M.2.1 105 else M.2.1 k) = M.2.1 k
    split
    · next h => rw [h]
    · rfl
  obtain ⟨f1, e1, h1⟩ := p_L3 (c := c) b1 (nI y) (nI s) (nI a) M (fun M =>
      X11_paysFrom_L48 b1 (nI y) (nI s) (nI a) (fun M =>
          bd (X11_payAt (nI y) (nI s) (nI a) M) fun v34 M35 =>
          gd (inb v34 2800) <|
          some ((M35.2.1 105 v34.toNatClampNeg), M35)) 10000 1 M) 10000 1 (M.2.1 105) (by omega) (by omega) (fun k' s' a' q k6 s1 s3 a100 => by omega)
  rw [hM, show nI 1 = (1 : Int32) from rfl] at e1
  rw [e1]
  obtain ⟨f2, e2, h2⟩ := p_L48 hy b1 (nI s) (nI a) hE (fun M =>
          bd (X11_payAt (nI y) (nI s) (nI a) M) fun v34 M35 =>
          gd (inb v34 2800) <|
          some ((M35.2.1 105 v34.toNatClampNeg), M35)) 10000 0 f1 (by omega) (by omega) h1
  rw [show nI (0 + 1) = (1 : Int32) from rfl] at e2
  have := pp_lt hy hs ha
  rw [e2, w_payAt, bd_s, n_inb this (by omega), gd_t, n_cl (by omega), sL_s, h2 y s a (Or.inl (by omega)) hy hs1 hs ha]
  exact ⟨f2, rfl⟩
