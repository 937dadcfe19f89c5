/-! ===== the other side fills the table ===== -/
theorem tab_m {c : cns} {f : Nat → Int64} {g : Nat → Int32} {P P' : Nat → Nat → Nat → Nat → Prop} (h : tab c f g P) (hp : ∀ k s l a, k ≤ 6 → 1 ≤ s → s ≤ 3 → l < 3 → a < 100 → P' k s l a → P k s l a) : tab c f g P' := fun k s l a q k6 s1 s3 l3 a100 => h k s l a (hp k s l a k6 s1 s3 l3 a100 q) k6 s1 s3 l3 a100
theorem tab_w {c : cns} {f : Nat → Int64} {g : Nat → Int32} {k s l a : Nat} (hs : s ≤ 3) (hl : l < 3) (ha : a < 100) (h : tab c f g (lx k s l a)) {x : Int64} {y : Int32} (hx : x = vV c k s l a) (hy : y = bI (isB c k s l a)) : tab c (vp_updL f (pl k s l a) x) (upd g (pl k s l a) y) (lx k s l (a + 1)) := by
  intro k' s' l' a' q k6 s1 s3 l3 a100
  rw [updL_a, upd_a]
  by_cases e : pl k' s' l' a' = pl k s l a
  · obtain ⟨rfl, rfl, rfl, rfl⟩ := pl_inj s3 l3 a100 hs hl ha e
    rw [if_pos e, if_pos e]
    exact ⟨hx, hy⟩
  · rw [if_neg e, if_neg e]
    refine h k' s' l' a' ?_ k6 s1 s3 l3 a100
    unfold lx at q ⊢
    rcases q with q | ⟨q1, q | ⟨q2, q | ⟨q3, q⟩⟩⟩
    · exact Or.inl q
    · exact Or.inr ⟨q1, Or.inl q⟩
    · exact Or.inr ⟨q1, Or.inr ⟨q2, Or.inl q⟩⟩
    · refine Or.inr ⟨q1, Or.inr ⟨q2, Or.inr ⟨q3, ?_⟩⟩⟩
      by_cases hq : a' = a
      · subst q1 q2 q3 hq
        exact absurd rfl e
      · omega
theorem z_L17 {c : cns} (a1 : Int32) (M0 : mm) {s l : Nat} (hs : s ≤ 3) (hl : l < 3) (K : Int32 → Int32 → mm → Option (Unit × mm)) : ∀ n a f g, a ≤ 100 → 100 - a < n → tab c f g (lx 0 s l a) → ∃ f' g', X11_worksOut_L17 a1 K n (nI s) (nI l) (nI a) (mv M0 f g) = K (nI s) (nI l) (mv M0 f' g') ∧ tab c f' g' (lx 0 s l 100) := by
  intro n
  induction n with
  | zero => intro a f g _ h; omega
  | succ n ih =>
    intro a f g ha hn hT
    rw [X11_worksOut_L17, n100, i_ltP (by omega) (by omega)]
    by_cases h : a < 100
    · have hp := pl_lt (k := 0) (by omega) hs hl h
      rw [if_pos h, n0, w_placeOf, bd_s, n_inb hp (by omega), gd_t, lt_s_, n_cl (by omega), mv_103, mv_L, w_placeOf, bd_s, n_inb hp (by omega), gd_t, lt_s_, n_cl (by omega), mv_104, mv_A, nI_1]
      exact ih (a + 1) _ _ (by omega) (by omega) (tab_w hs hl h hT rfl rfl)
    · rw [if_neg h]
      obtain rfl : a = 100 := by omega
      exact ⟨f, g, rfl, hT⟩
theorem z_L9 {c : cns} (a1 : Int32) (M0 : mm) {s : Nat} (hs : s ≤ 3) (K : Int32 → mm → Option (Unit × mm)) : ∀ n l f g, l ≤ 3 → 3 - l < n → tab c f g (lx 0 s l 0) → ∃ f' g', X11_worksOut_L9 a1 K n (nI s) (nI l) (mv M0 f g) = K (nI s) (mv M0 f' g') ∧ tab c f' g' (lx 0 s 3 0) := by
  intro n
  induction n with
  | zero => intro l f g _ h; omega
  | succ n ih =>
    intro l f g hl hn hT
    rw [X11_worksOut_L9, n3, i_ltP (by omega) (by omega)]
    by_cases h : l < 3
    · rw [if_pos h]
      obtain ⟨f1, g1, e1, h1⟩ := z_L17 a1 M0 hs h (fun x2 x3 M => (X11_worksOut_L9 a1 K n) x2 (x3 + 1) M) 10000 0 f g (by omega) (by omega) hT
      rw [n0, e1]
      simp only [nI_1]
      exact ih (l + 1) f1 g1 (by omega) (by omega) (tab_m h1 fun k' s' l' a' _ _ _ _ _ q => by unfold lx at q ⊢; omega)
    · rw [if_neg h]
      obtain rfl : l = 3 := by omega
      exact ⟨f, g, rfl, hT⟩
theorem z_L2 {c : cns} (a1 : Int32) (M0 : mm) (K : mm → Option (Unit × mm)) : ∀ n s f g, s ≤ 4 → 4 - s < n → tab c f g (lx 0 s 0 0) → ∃ f' g', X11_worksOut_L2 a1 K n (nI s) (mv M0 f g) = K (mv M0 f' g') ∧ tab c f' g' (lx 0 4 0 0) := by
  intro n
  induction n with
  | zero => intro s f g _ h; omega
  | succ n ih =>
    intro s f g hs hn hT
    rw [X11_worksOut_L2, n4, i_ltP (by omega) (by omega)]
    by_cases h : s < 4
    · rw [if_pos h]
      obtain ⟨f1, g1, e1, h1⟩ := z_L9 a1 M0 (show s ≤ 3 by omega) (fun x2 M => (X11_worksOut_L2 a1 K n) (x2 + 1) M) 10000 0 f g (by omega) (by omega) hT
      rw [n0, e1]
      simp only [nI_1]
      exact ih (s + 1) f1 g1 (by omega) (by omega) (tab_m h1 fun k' s' l' a' _ _ _ _ _ q => by unfold lx at q ⊢; omega)
    · rw [if_neg h]
      obtain rfl : s = 4 := by omega
      exact ⟨f, g, rfl, hT⟩
theorem nar_b (b : Bool) : vp_nar .boolean (bI b) = bI b := by cases b <;> rfl
theorem t_L138 {c : cns} (a1 : Int32) {M0 : mm} (hE : E0 c M0) {k s l : Nat} (hk : k + 1 ≤ 6) (hs1 : 1 ≤ s) (hs : s ≤ 3) (hl : l < 3) (K : Int32 → Int32 → Int64 → Int32 → mm → Option (Unit × mm)) : ∀ n a f g, a ≤ 100 → 100 - a < n → tab c f g (lx (k + 1) s l a) → ∃ f' g', X11_worksOut_L138 a1 K n (nI (k + 1)) (nI s) (mV c (vV c k) k s) (nI l) (nI a) (mv M0 f g) = K (nI (k + 1)) (nI s) (mV c (vV c k) k s) (nI l) (mv M0 f' g') ∧ tab c f' g' (lx (k + 1) s l 100) := by
  intro n
  induction n with
  | zero => intro a f g _ h; omega
  | succ n ih =>
    intro a f g ha hn hT
    rw [X11_worksOut_L138, n100, i_ltP (by omega) (by omega)]
    by_cases h : a < 100
    · have hp := pl_lt hk hs hl h
      have hg := w_goes (g := g) hE hk hs1 hs hl h fun s' l' a' g1 g2 g3 g4 => (hT k s' l' a' (Or.inl (by omega)) (by omega) g1 g2 g3 g4).1
      have e39 : (mv M0 f g).1 82 39 = nI (cWy c) := by rw [mv_1 _ _ _ 82 (by decide)]; exact hE.1.2.2.1
      have hw4 := hE.2.1.2.2.1
      have eb : (if nI (cWy c) = 4 then (if 0 < lg_cmp (mV c (vV c k) k s) (gV c (vV c k) (pw12 k) s l a) then 1 else 0) else (if nI (cWy c) < nI s then 0 else 1)) = bI (isB c (k + 1) s l a) := by
        rw [n4, i_eqP (by omega) (by omega), i_ltP (by omega) (by omega), i_P (lg_gt0 _ _)]
        rw [show isB c (k + 1) s l a = bV c s (mV c (vV c k) k s) (gV c (vV c k) (pw12 k) s l a) from rfl]
        unfold bV
        by_cases h4 : cWy c = 4
        · rw [if_pos h4, if_pos h4]
          by_cases hlt : gV c (vV c k) (pw12 k) s l a < mV c (vV c k) k s
          · rw [if_pos hlt, decide_eq_true hlt]; rfl
          · rw [if_neg hlt, decide_eq_false hlt]; rfl
        · rw [if_neg h4, if_neg h4]
          by_cases hlt : cWy c < s
          · rw [if_pos hlt, decide_eq_false (by omega)]; rfl
          · rw [if_neg hlt, decide_eq_true (by omega)]; rfl
      rw [if_pos h, hg, bd_s, e39, eb]
      unfold X11_worksOut_b194 X11_worksOut_b237
      rw [w_placeOf, bd_s, n_inb hp (by omega), gd_t, lt_s_, n_cl (by omega), mv_104, mv_A, w_placeOf, bd_s, n_inb hp (by omega), gd_t, lt_s_, n_cl (by omega), mv_103, mv_L, nI_1, nar_b]
      refine ih (a + 1) _ _ (by omega) (by omega) (tab_w hs hl h hT ?_ rfl)
      rw [i_P (bI_0 _)]
      rw [vV]
      rw [show isB c (k + 1) s l a = bV c s (mV c (vV c k) k s) (gV c (vV c k) (pw12 k) s l a) from rfl]
      cases bV c s (mV c (vV c k) k s) (gV c (vV c k) (pw12 k) s l a) <;> rfl
    · rw [if_neg h]
      obtain rfl : a = 100 := by omega
      exact ⟨f, g, rfl, hT⟩
theorem t_L129 {c : cns} (a1 : Int32) {M0 : mm} (hE : E0 c M0) {k s : Nat} (hk : k + 1 ≤ 6) (hs1 : 1 ≤ s) (hs : s ≤ 3) (K : Int32 → Int32 → mm → Option (Unit × mm)) : ∀ n l f g, l ≤ 3 → 3 - l < n → tab c f g (lx (k + 1) s l 0) → ∃ f' g', X11_worksOut_L129 a1 K n (nI (k + 1)) (nI s) (mV c (vV c k) k s) (nI l) (mv M0 f g) = K (nI (k + 1)) (nI s) (mv M0 f' g') ∧ tab c f' g' (lx (k + 1) s 3 0) := by
  intro n
  induction n with
  | zero => intro l f g _ h; omega
  | succ n ih =>
    intro l f g hl hn hT
    rw [X11_worksOut_L129, n3, i_ltP (by omega) (by omega)]
    by_cases h : l < 3
    · rw [if_pos h]
      obtain ⟨f1, g1, e1, h1⟩ := t_L138 a1 hE hk hs1 hs h (fun x2 x3 x5 x7 M => (X11_worksOut_L129 a1 K n) x2 x3 x5 (x7 + 1) M) 10000 0 f g (by omega) (by omega) hT
      rw [n0, e1]
      simp only [nI_1]
      exact ih (l + 1) f1 g1 (by omega) (by omega) (tab_m h1 fun k' s' l' a' _ _ _ _ _ q => by unfold lx at q ⊢; omega)
    · rw [if_neg h]
      obtain rfl : l = 3 := by omega
      exact ⟨f, g, rfl, hT⟩
theorem t_L79 {c : cns} (a1 : Int32) {M0 : mm} (hE : E0 c M0) {k : Nat} (hk : k + 1 ≤ 6) (K : Int32 → mm → Option (Unit × mm)) : ∀ n s f g, 1 ≤ s → s ≤ 4 → 4 - s < n → tab c f g (lx (k + 1) s 0 0) → ∃ f' g', X11_worksOut_L79 a1 K n (nI (k + 1)) (nI s) (mv M0 f g) = K (nI (k + 1)) (mv M0 f' g') ∧ tab c f' g' (lx (k + 1) 4 0 0) := by
  intro n
  induction n with
  | zero => intro s f g _ _ h; omega
  | succ n ih =>
    intro s f g hs1 hs hn hT
    rw [X11_worksOut_L79, n4, i_ltP (by omega) (by omega)]
    by_cases h : s < 4
    · have hr := hE.2.1
      have e37 : (mv M0 f g).1 82 37 = nI (cSk c) := by rw [mv_1 _ _ _ 82 (by decide)]; exact hE.1.1
      have e38 : (mv M0 f g).1 82 38 = nI (cFe c) := by rw [mv_1 _ _ _ 82 (by decide)]; exact hE.1.2.1
      have es : (if nI s < nI (cSk c) then nI (cSk c) else nI s) = nI (if s < cSk c then cSk c else s) := by
        rw [i_ltP (by omega) (by omega)]
        split <;> rfl
      have hg := w_goes (g := g) (s := if s < cSk c then cSk c else s) (l := 0) (a := 0) hE hk (by split <;> omega) (by split <;> omega) (by omega) (by omega) fun s' l' a' g1 g2 g3 g4 => (hT k s' l' a' (Or.inl (by omega)) (by omega) g1 g2 g3 g4).1
      rw [if_pos h, e37, es]
      unfold X11_worksOut_b100
      rw [n0, hg, bd_s, n_inb (by omega) (by omega), gd_t, lt_s_, e38, mv_2 _ _ _ _ (by decide), n_cl (by omega), hE.2.2.1 (k + 1) hk]
      obtain ⟨f1, g1, e1, h1⟩ := t_L129 a1 hE hk hs1 (show s ≤ 3 by omega) (fun x2 x3 M => (X11_worksOut_L79 a1 K n) x2 (x3 + 1) M) 10000 0 f g (by omega) (by omega) hT
      rw [show gV c (vV c k) (pw12 k) (if s < cSk c then cSk c else s) 0 0 - (nI (cFe c)).toInt64 * pw12 (k + 1) = mV c (vV c k) k s from rfl, e1]
      simp only [nI_1]
      exact ih (s + 1) f1 g1 (by omega) (by omega) (by omega) (tab_m h1 fun k' s' l' a' _ _ _ _ _ q => by unfold lx at q ⊢; omega)
    · rw [if_neg h]
      obtain rfl : s = 4 := by omega
      exact ⟨f, g, rfl, hT⟩
theorem t_L72 {c : cns} {y : Nat} (hy : y ≤ 6) {M0 : mm} (hE : E0 c M0) : ∀ n k f g, k ≤ y → y - k < n → tab c f g (lx (k + 1) 1 0 0) → ∃ f' g', X11_worksOut_L72 (nI y) n (nI (k + 1)) (mv M0 f g) = some ((), mv M0 f' g') ∧ tab c f' g' (fun k' _ _ _ => k' ≤ y) := by
  intro n
  induction n with
  | zero => intro k f g _ h; omega
  | succ n ih =>
    intro k f g hk hn hT
    rw [X11_worksOut_L72, i_ltP (by omega) (by omega)]
    by_cases h : y < k + 1
    · rw [if_pos h]
      exact ⟨f, g, rfl, tab_m hT fun k' s' l' a' _ _ _ _ _ q => Or.inl (by omega)⟩
    · rw [if_neg h]
      obtain ⟨f1, g1, e1, h1⟩ := t_L79 (nI y) hE (show k + 1 ≤ 6 by omega) (fun x2 M => (X11_worksOut_L72 (nI y) n) (x2 + 1) M) 10000 1 f g (by omega) (by omega) (by omega) hT
      rw [show nI 1 = (1 : Int32) from rfl] at e1
      rw [e1]
      simp only [nI_1]
      exact ih (k + 1) f1 g1 (by omega) (by omega) (tab_m h1 fun k' s' l' a' _ _ _ _ _ q => by unfold lx at q ⊢; omega)
/-- the whole table, up to y years -/
theorem w_worksOut {c : cns} {y : Nat} (hy : y ≤ 6) {M : mm} (hE : E0 c M) : ∃ f g, X11_worksOut (nI y) M = some ((), mv M f g) ∧ tab c f g (fun k' _ _ _ => k' ≤ y) := by
  unfold X11_worksOut
  obtain ⟨f1, g1, e1, h1⟩ := z_L2 (c := c) (nI y) M (fun M => X11_worksOut_L72 (nI y) 10000 1 M) 10000 1 (M.2.1 103) (M.1 104) (by omega) (by omega) (fun k' s' l' a' q _ _ _ _ _ => by unfold lx at q; omega)
  rw [mv_0, show nI 1 = (1 : Int32) from rfl] at e1
  rw [e1]
  exact t_L72 hy hE 10000 0 f1 g1 (by omega) (by omega) (tab_m h1 fun k' s' l' a' _ _ _ _ _ q => by unfold lx at q ⊢; omega)
