/-! ===== the law's number by both sides; a text becomes the law ===== -/
theorem ng {a b : Nat} (ha : a < 2 ^ 31) (hb : b < 2 ^ 31) (h : ¬ a < b) : ¬ (nI a < nI b) := by
  rw [n_lt ha hb]; exact h
theorem yg {a b : Nat} (ha : a < 2 ^ 31) (hb : b < 2 ^ 31) (h : a < b) : nI a < nI b := by
  rw [n_lt ha hb]; exact h
theorem fo_inj {t s a l t' s' a' l' : Nat} (h1 : 1 ≤ s) (h2 : s ≤ 3) (h3 : a ≤ 99) (h4 : l ≤ 1) (k1 : 1 ≤ s') (k2 : s' ≤ 3) (k3 : a' ≤ 99) (k4 : l' ≤ 1) (e : fo t s a l = fo t' s' a' l') : t = t' ∧ s = s' ∧ a = a' ∧ l = l' := by
  unfold fo at e
  omega
/-- but for what is held and what was found, as before -/
def EqX (M M' : mm) : Prop := M'.2 = M.2 ∧ ∀ k, k ≠ 19 → k ≠ 20 → M'.1 k = M.1 k
theorem EqX_r (M : mm) : EqX M M := ⟨rfl, fun _ _ _ => rfl⟩
theorem EqX_t {M M' M'' : mm} (h : EqX M M') (h2 : EqX M' M'') : EqX M M'' := ⟨h2.1.trans h.1, fun k a b => (h2.2 k a b).trans (h.2 k a b)⟩
theorem lawA_X {O : Option (List stp)} {M M' : mm} (h : lawA O M) (e : M'.1 16 = M.1 16 ∧ M'.1 17 = M.1 17 ∧ M'.1 18 = M.1 18) : lawA O M' := by
  unfold lawA at h ⊢
  rw [e.1, e.2.1, e.2.2]
  exact h
theorem w_workOutA {R : List stp} {M : mm} (hA : lawA (some R) M) (t s a l : Int32) : ∃ M', X8_workOut t s a l M = some (exT (nmO s t a l) R [] false, M') ∧ Eq1 19 M M' := by
  have h := wk_A (R := R) (nm := nmO s t a l) (t := t) (s := s) (a := a) (l := l) (M0 := M) rfl rfl rfl rfl hA R.length 10000 0 [] false M (by omega) (by have := hA.2.1; omega) (Eq1_r _ _) (fun j hj => absurd hj (by simp)) (by simp)
  exact h
theorem w_b105 {O : Option (List stp)} {t s a l : Nat} {Ma : mm} (hF : rFo O Ma) (ht : t < 6) (h1 : 1 ≤ s) (h2 : s ≤ 3) (ha : a ≤ 99) (hl : l ≤ 1) (b1 b2 b3 b4 : Int32) : ∃ Ma', X8_number_b105 b1 b2 b3 b4 (nI (fo t s a l)) (wO O (nI s) (nI t) (nI a) (nI l)) Ma = some (nI (wn O s t a l), Ma') ∧ EqX Ma Ma' ∧ rFo O Ma' := by
  have hfo : fo t s a l < 3600 := by unfold fo; omega
  unfold X8_number_b105
  rw [cl12_a, nar_k _ (cl12_le _), n_inb hfo (by omega), gd_t, lt_s_, gd_t, n_cl (by omega), sA_s, upd_s, nI_pred]
  refine ⟨_, rfl, ⟨rfl, fun k _ hk => sA_n _ _ _ _ hk⟩, fun t' s' a' l' g1 g2 g3 g4 g5 => ?_⟩
  rw [sA_s, upd_a]
  split
  · next e =>
    obtain ⟨rfl, rfl, rfl, rfl⟩ := fo_inj g2 g3 g4 g5 h1 h2 ha hl e
    exact Or.inr rfl
  · exact hF t' s' a' l' g1 g2 g3 g4 g5
theorem w_number {O : Option (List stp)} {t s a l : Nat} {Ma : mm} (hA : lawA O Ma) (hF : rFo O Ma) (ht : t < 6) (h1 : 1 ≤ s) (h2 : s ≤ 3) (ha : a ≤ 99) (hl : l ≤ 1) : ∃ Ma', X8_number (nI t) (nI s) (nI a) (nI l) Ma = some (nI (wn O s t a l), Ma') ∧ EqX Ma Ma' ∧ rFo O Ma' := by
  have hl' : (if nI l = 0 then (0 : Int32) else 1) = nI l := by
    obtain rfl | rfl : l = 0 ∨ l = 1 := by omega
    · rfl
    · rfl
  have hfo : fo t s a l < 3600 := by unfold fo; omega
  have hp : ((((((nI t * 3) + nI s) - 1) * 100) + nI a) * 2) = nI (((t * 3 + s - 1) * 100 + a) * 2) := by
    simp (disch := omega) only [n3, n1, n100, n2, n_mul, n_add, n_sub]
  have e0 : X8_number (nI t) (nI s) (nI a) (nI l) Ma = X8_number_b56 (nI t) (nI s) (nI a) (nI l) (nI (((t * 3 + s - 1) * 100 + a) * 2)) (nI l) Ma := by
    unfold X8_number
    rw [hp, hl', if_neg (show ¬ (nI s < 1) from ng (b := 1) (by omega) (by omega) (by omega)), if_neg (show ¬ (3 < nI s) from ng (a := 3) (by omega) (by omega) (by omega)), if_neg (show ¬ (nI a < 0) from ng (b := 0) (by omega) (by omega) (by omega)), if_neg (show ¬ (99 < nI a) from ng (a := 99) (by omega) (by omega) (by omega)), if_neg (show ¬ (nI t < 0) from ng (b := 0) (by omega) (by omega) (by omega)), if_pos (show nI t < 6 from yg (b := 6) (by omega) (by omega) ht)]
  rw [e0]
  unfold X8_number_b56
  rw [n_add, show ((t * 3 + s - 1) * 100 + a) * 2 + l = fo t s a l from rfl, n_inb hfo (by omega), gd_t, gd_t, n_cl (by omega)]
  by_cases h0 : Ma.1 20 (fo t s a l) = 0
  · rw [if_pos h0]
    match O, hA, hF with
    | none, hA, hF =>
      have hA0 : Ma.1 16 0 = 0 := hA
      rw [if_pos hA0]
      exact w_b105 hF ht h1 h2 ha hl _ _ _ _
    | some R, hA, hF =>
      have hA0 : ¬ Ma.1 16 0 = 0 := by
        rw [hA.2.2.1, n0, n_eq (by have := hA.2.1; omega) (by omega)]
        have := hA.1
        omega
      rw [if_neg hA0, hl']
      unfold X8_number_b102
      obtain ⟨M1, g1, g2⟩ := w_workOutA hA (nI t) (nI s) (nI a) (nI l)
      rw [g1, bd_s]
      have hF1 : rFo (some R) M1 := by
        intro t' s' a' l' k1 k2 k3 k4 k5
        rw [g2.2 20 (by decide)]
        exact hF t' s' a' l' k1 k2 k3 k4 k5
      obtain ⟨M2, g3, g4, g5⟩ := w_b105 hF1 ht h1 h2 ha hl (nI t) (nI s) (nI a) (nI l)
      exact ⟨M2, g3, EqX_t ⟨g2.1, fun k hk _ => g2.2 k hk⟩ g4, g5⟩
  · rw [if_neg h0]
    have h3 := (hF t s a l ht h1 h2 ha hl).resolve_left h0
    rw [h3, nI_pred]
    exact ⟨Ma, rfl, EqX_r _, hF⟩
/-- but for what is worked with as a text is read, as before -/
def EqN (M M' : mm) : Prop := M'.2 = M.2 ∧ (∀ k, k ≠ 82 → k ≠ 100 → M'.1 k = M.1 k) ∧ ∀ j, (j < 27 ∨ 31 < j) → M'.1 82 j = M.1 82 j
theorem EqN_r (M : mm) : EqN M M := ⟨rfl, fun _ _ _ => rfl, fun _ _ => rfl⟩
theorem EqN_t {M M' M'' : mm} (h : EqN M M') (h2 : EqN M' M'') : EqN M M'' := ⟨h2.1.trans h.1, fun k a b => (h2.2.1 k a b).trans (h.2.1 k a b), fun j a => (h2.2.2 j a).trans (h.2.2 j a)⟩
theorem lawB_N {O : Option (List stp)} {M M' : mm} (h : lawB O M) (e : M'.1 82 26 = M.1 82 26 ∧ M'.1 99 = M.1 99) : lawB O M' := by
  unfold lawB at h ⊢
  rw [e.1, e.2]
  exact h
def wB (M : mm) (b : Int32) (n : Nat) : mm := sA M 82 (upd (upd (M.1 82) 27 b) 29 (nI n))
theorem EqN_wB (M : mm) (b p f o : Int32) (n : Nat) : EqN M (mr (wB M b n) p f o) := by
  refine ⟨rfl, fun k h1 _ => ?_, fun j hj => ?_⟩
  · rw [mr_k _ _ _ _ _ h1]
    exact sA_n _ _ _ _ h1
  · rw [mr_o _ _ _ _ _ (by omega) (by omega) (by omega)]
    unfold wB
    rw [sA_s, upd_n _ _ _ _ (by omega), upd_n _ _ _ _ (by omega)]
theorem w_workOut {M : mm} {b : Int32} {x : Nat → Int32} {n : Nat} (hb : (b = -1 ∧ x = M.1 98) ∨ (b = 0 ∧ x = M.1 99)) (hn : n ≤ 120) : match pT x n (n + 1) 0 with
    | (some R, q) => X11_workOut b (nI n) M = some (exT (M.1 100) R [] false, mr (wB M b n) (nI q) (-1) 0) ∧ q = n
    | (none, q) => q ≤ n ∧ ∃ v o, X11_workOut b (nI n) M = some (v, mr (wB M b n) (nI q) (nI q) o) := by
  have hx : TX (wB M b n) x n := by
    refine ⟨?_, hn, ?_⟩
    · unfold wB
      rw [sA_s, upd_s]
    · unfold wB
      rw [sA_s, upd_n _ _ _ _ (by decide), upd_s, sA_n _ _ _ _ (by decide), sA_n _ _ _ _ (by decide)]
      exact hb
  have e : X11_workOut b (nI n) M = X11_workOut_L33 b (nI n) KW 10000 0 0 1 (mr (wB M b n) (nI 0) (-1) 0) := by
    unfold X11_workOut
    simp only [lt_s_, sA_s, sA_sA]
    rw [show mr (wB M b n) (nI 0) (-1) 0 = sA M 82 (upd (upd (upd (upd (upd (M.1 82) 27 b) 28 0) 29 (nI n)) 30 (-1)) 31 0) from by
      unfold mr wB
      rw [sA_sA, sA_s, upd_c _ 29 28 _ _ (by decide)]
      rfl]
    rfl
  rw [e]
  have h := rf_wk hx b (nI n) (n + 1) 10000 0 0 0 0 (by omega) (by omega) (by omega) (by omega) (fun _ => rfl)
  rcases hq : pT x n (n + 1) 0 with ⟨_ | R, q⟩
  · rw [hq] at h
    exact h
  · rw [hq] at h
    simp only at h ⊢
    rw [h.1, if_pos trivial]
    unfold wB
    rw [sA_n _ _ _ _ (by decide)]
    exact ⟨rfl, h.2⟩
theorem w_numberOf {O : Option (List stp)} {Mb : mm} (hB : lawB O Mb) (s t a l : Nat) : ∃ Mb', X11_numberOf (nI s) (nI t) (nI a) (nI l) Mb = some (nI (wn O s t a l), Mb') ∧ EqN Mb Mb' := by
  unfold X11_numberOf
  match O, hB with
  | none, hB =>
    have h26 : Mb.1 82 26 = -1 := hB
    rw [h26, i_m1, cl12_b]
    exact ⟨Mb, rfl, EqN_r _⟩
  | some R, hB =>
    obtain ⟨n, hn, h26, hT⟩ := hB
    rw [h26, i_nneg (by omega)]
    simp (disch := omega) only [n0, n1, n2, n3, n_inb, n_cl, gd_t, lt_s_, sA_s, sA_sA]
    rw [sA_n _ _ _ _ (by decide), h26]
    have h := w_workOut (M := sA Mb 100 (upd (upd (upd (upd (Mb.1 100) 0 (nI s)) 1 (nI t)) 2 (nI a)) 3 (nI l))) (b := 0) (x := Mb.1 99) (n := n) (Or.inr ⟨rfl, by rw [sA_n _ _ _ _ (by decide)]⟩) hn
    rw [hT] at h
    simp only at h
    have e : exT ((sA Mb 100 (upd (upd (upd (upd (Mb.1 100) 0 (nI s)) 1 (nI t)) 2 (nI a)) 3 (nI l))).1 100) R [] false = wO (some R) (nI s) (nI t) (nI a) (nI l) := by
      refine exT_congr (fun i hi => ?_) R [] false
      rw [sA_s]
      match i, hi with
      | 0, _ => rfl
      | 1, _ => rfl
      | 2, _ => rfl
      | 3, _ => rfl
    rw [show nI 0 = 0 from rfl, h.1, bd_s, cl12_b, e]
    exact ⟨_, rfl, EqN_t (M' := sA Mb 100 (upd (upd (upd (upd (Mb.1 100) 0 (nI s)) 1 (nI t)) 2 (nI a)) 3 (nI l))) ⟨rfl, fun k _ hk => sA_n _ _ _ _ hk, fun j _ => by rw [sA_n _ _ _ _ (by decide)]⟩ (EqN_wB _ _ _ _ _ _)⟩
/-- the row of what was found is emptied -/
theorem w_fill : ∀ n i (M : mm), i ≤ 3600 → 3600 - i < n → J7_fill_031fb_L5 20 0 n (nI i) (nI 3600) M = some ((), sA M 20 (fun j => if i ≤ j ∧ j < 3600 then 0 else M.1 20 j)) := by
  intro n
  induction n with
  | zero => intro i M _ h; omega
  | succ n ih =>
    intro i M hi hn
    rw [J7_fill_031fb_L5, i_ltP (by omega) (by omega)]
    by_cases h : i < 3600
    · rw [if_pos h, show isA 2 20 = true from by decide, gd_t, show alN 20 = 3600 from by decide, n_inb h (by omega), gd_t, lt_s_, n_cl (by omega), nI_1, ih (i + 1) _ (by omega) (by omega), sA_sA]
      refine congrArg (fun z => some ((), sA M 20 z)) (funext fun j => ?_)
      rw [sA_s, upd_a]
      by_cases hj : j = i
      · subst hj
        rw [if_neg (by omega), if_pos rfl, if_pos (by omega)]
        rfl
      · rw [if_neg hj]
        by_cases h2 : i + 1 ≤ j ∧ j < 3600
        · rw [if_pos h2, if_pos (by omega)]
        · rw [if_neg h2, if_neg (by omega)]
    · rw [if_neg h]
      refine congrArg (fun z => some ((), z)) (sA_same _ _ _ (funext fun j => ?_)).symm
      rw [if_neg (by omega)]
theorem w_fillB (M : mm) : J7_fill_031fb 20 0 M = some ((), sA M 20 (fun j => if j < 3600 then 0 else M.1 20 j)) := by
  unfold J7_fill_031fb
  have h := w_fill 10000 0 M (by omega) (by omega)
  rw [show nI 0 = 0 from rfl] at h
  rw [show isA 2 20 = true from by decide, gd_t, show Int32.ofNat (alN 20) = nI 3600 from by rw [show alN 20 = 3600 from by decide]; rfl, h]
  refine congrArg (fun z => some ((), sA M 20 z)) (funext fun j => ?_)
  by_cases h : j < 3600
  · rw [if_pos ⟨by omega, h⟩, if_pos h]
  · rw [if_neg (by omega), if_neg h]
