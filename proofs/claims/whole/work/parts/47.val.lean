/-! ===== what a thing may bring: a table of numbers ===== -/
/-- skill, fee, way, worth, bill, forgotten behind, how it wears (state, led, age) -/
abbrev cns : Type := Nat × Nat × Nat × Nat × Nat × Nat × (Nat → Nat → Nat → Nat)
def cSk (c : cns) : Nat := c.1
def cFe (c : cns) : Nat := c.2.1
def cWy (c : cns) : Nat := c.2.2.1
def cWo (c : cns) : Nat := c.2.2.2.1
def cBi (c : cns) : Nat := c.2.2.2.2.1
def cF (c : cns) : Nat := c.2.2.2.2.2.1
def cW (c : cns) : Nat → Nat → Nat → Nat := c.2.2.2.2.2.2
def cL (n : Nat) : Int64 := (nI n).toInt64
def pw12 : Nat → Int64
  | 0 => 1
  | k + 1 => 12 * pw12 k
def oldr (a : Nat) : Nat := if a < 99 then a + 1 else a
/-- led or not, by whose the last nail is (0 own, 1 another's, 2 nobody's) -/
def ledO (l : Nat) : Nat := if l = 2 then 0 else 1
def fgt (F a : Nat) : Bool := decide (0 < F ∧ F ≤ a)
def gV (c : cns) (V : Nat → Nat → Nat → Int64) (pw : Int64) (s l a : Nat) : Int64 :=
  cL (cW c s (ledO l) a) * (if 1 < s then cL (cWo c) * pw + V (s - 1) l (oldr a) else (if l = 1 ∧ fgt (cF c) a = false then 0 else (-(nI (cBi c))).toInt64 * pw) + V 3 2 0) + (12 - nI (cW c s (ledO l) a)).toInt64 * (cL (cWo c) * pw + V s l (oldr a))
def mV (c : cns) (V : Nat → Nat → Nat → Int64) (k s : Nat) : Int64 := gV c V (pw12 k) (if s < cSk c then cSk c else s) 0 0 - cL (cFe c) * pw12 (k + 1)
def bV (c : cns) (s : Nat) (m l : Int64) : Bool := if cWy c = 4 then decide (l < m) else decide (s ≤ cWy c)
def vV (c : cns) : Nat → Nat → Nat → Nat → Int64
  | 0, _, _, _ => 0
  | k + 1, s, l, a => if bV c s (mV c (vV c k) k s) (gV c (vV c k) (pw12 k) s l a) = true then mV c (vV c k) k s else gV c (vV c k) (pw12 k) s l a
def isB (c : cns) : Nat → Nat → Nat → Nat → Bool
  | 0, _, _, _ => false
  | k + 1, s, l, a => bV c s (mV c (vV c k) k s) (gV c (vV c k) (pw12 k) s l a)
/-- the place in the table -/
def pl (k s l a : Nat) : Nat := ((k * 4 + s) * 3 + l) * 100 + a
theorem pl_inj {k s l a k' s' l' a' : Nat} (h1 : s ≤ 3) (h2 : l < 3) (h3 : a < 100) (k1 : s' ≤ 3) (k2 : l' < 3) (k3 : a' < 100) (e : pl k s l a = pl k' s' l' a') : k = k' ∧ s = s' ∧ l = l' ∧ a = a' := by
  unfold pl at e
  omega
/-- what is ahead in the order of the loops -/
def lx (k s l a k' s' l' a' : Nat) : Prop := k' < k ∨ (k' = k ∧ (s' < s ∨ (s' = s ∧ (l' < l ∨ (l' = l ∧ a' < a)))))
def tab (c : cns) (f : Nat → Int64) (g : Nat → Int32) (P : Nat → Nat → Nat → Nat → Prop) : Prop := ∀ k s l a, P k s l a → k ≤ 6 → 1 ≤ s → s ≤ 3 → l < 3 → a < 100 → f (pl k s l a) = vV c k s l a ∧ g (pl k s l a) = bI (isB c k s l a)
def mv (M0 : mm) (f : Nat → Int64) (g : Nat → Int32) : mm := sA (sL M0 103 f) 104 g
theorem mv_1 (M0 : mm) (f : Nat → Int64) (g : Nat → Int32) (k : Nat) (h : k ≠ 104) : (mv M0 f g).1 k = M0.1 k := by
  unfold mv
  rw [sA_n _ _ _ _ h, sL_1]
theorem mv_104 (M0 : mm) (f : Nat → Int64) (g : Nat → Int32) : (mv M0 f g).1 104 = g := sA_s _ _ _
theorem mv_2 (M0 : mm) (f : Nat → Int64) (g : Nat → Int32) (k : Nat) (h : k ≠ 103) : (mv M0 f g).2.1 k = M0.2.1 k := by
  unfold mv
  rw [sA_2, sL_n _ _ _ _ h]
theorem mv_103 (M0 : mm) (f : Nat → Int64) (g : Nat → Int32) : (mv M0 f g).2.1 103 = f := by
  unfold mv
  rw [sA_2, sL_s]
theorem mv_L (M0 : mm) (f f' : Nat → Int64) (g : Nat → Int32) : sL (mv M0 f g) 103 f' = mv M0 f' g := by
  unfold mv
  refine Prod.ext rfl (Prod.ext (funext fun k => ?_) rfl)
  show (if k = 103 then f' else (if k = 103 then f else M0.2.1 k)) = if k = 103 then f' else M0.2.1 k
  by_cases h : k = 103
  · rw [if_pos h, if_pos h]
  · rw [if_neg h, if_neg h, if_neg h]
theorem mv_A (M0 : mm) (f : Nat → Int64) (g g' : Nat → Int32) : sA (mv M0 f g) 104 g' = mv M0 f g' := by
  unfold mv
  rw [sA_sA]
theorem mv_0 (M0 : mm) : mv M0 (M0.2.1 103) (M0.1 104) = M0 := by
  refine Prod.ext (funext fun k => ?_) (Prod.ext (funext fun k => ?_) rfl)
  · by_cases h : k = 104
    · rw [h, mv_104]
    · rw [mv_1 _ _ _ _ h]
  · by_cases h : k = 103
    · rw [h, mv_103]
    · rw [mv_2 _ _ _ _ h]
/-- what stands as the table is worked out -/
def E0 (c : cns) (M : mm) : Prop := (M.1 82 37 = nI (cSk c) ∧ M.1 82 38 = nI (cFe c) ∧ M.1 82 39 = nI (cWy c) ∧ M.1 82 40 = nI (cWo c) ∧ M.1 82 41 = nI (cBi c) ∧ M.1 82 19 = nI (cF c)) ∧ (1 ≤ cSk c ∧ cSk c ≤ 3 ∧ cWy c ≤ 4 ∧ cF c ≤ 9) ∧ (∀ k, k ≤ 6 → M.2.1 101 k = pw12 k) ∧ ∀ s l a, 1 ≤ s → s ≤ 3 → l ≤ 1 → a < 100 → M.1 102 ((s * 2 + l) * 100 + a) = nI (cW c s l a)
theorem w_placeOf (k s l a : Nat) (M : mm) : X11_placeOf (nI k) (nI s) (nI l) (nI a) M = some (nI (pl k s l a), M) := by
  unfold X11_placeOf pl
  simp only [n4, n3, n100, n_mul, n_add]
theorem pl_lt {k s l a : Nat} (h : k ≤ 6) (h1 : s ≤ 3) (h2 : l < 3) (h3 : a < 100) : pl k s l a < 8400 := by
  unfold pl
  omega
theorem w_isForgotten {F a : Nat} (hF : F ≤ 9) (ha : a ≤ 99) {M : mm} (h : M.1 82 19 = nI F) : X11_isForgotten (nI a) M = some (bI (fgt F a), M) := by
  unfold X11_isForgotten fgt
  rw [h, n0, i_ltP (by omega) (by omega), i_ltP (by omega) (by omega)]
  by_cases h1 : 0 < F
  · rw [if_pos h1]
    by_cases h2 : a < F
    · rw [if_pos h2, decide_eq_false (by omega)]; rfl
    · rw [if_neg h2, decide_eq_true (by omega)]; rfl
  · rw [if_neg h1, decide_eq_false (by omega)]; rfl
theorem w_wearsAt {c : cns} {M0 : mm} (hE : E0 c M0) {s l a : Nat} (h1 : 1 ≤ s) (h2 : s ≤ 3) (h3 : l < 3) (h4 : a < 100) {M : mm} (hM : M.1 102 = M0.1 102) : X11_wearsAt (nI s) (nI l) (nI a) M = some (nI (cW c s (ledO l) a), M) := by
  unfold X11_wearsAt ledO
  rw [n2, i_eqP (by omega) (by omega)]
  by_cases hl : l = 2
  · rw [if_pos hl, if_pos hl]
    simp (disch := omega) only [n0, n100, n_mul, n_add, n_inb, n_cl, gd_t]
    rw [hM, hE.2.2.2 s 0 a h1 h2 (by omega) h4]
  · rw [if_neg hl, if_neg hl]
    simp (disch := omega) only [n1, n100, n_mul, n_add, n_inb, n_cl, gd_t]
    rw [hM, hE.2.2.2 s 1 a h1 h2 (by omega) h4]
theorem w_goes {c : cns} {M0 : mm} (hE : E0 c M0) {f : Nat → Int64} {g : Nat → Int32} {k s l a : Nat} (hk : k + 1 ≤ 6) (h1 : 1 ≤ s) (h2 : s ≤ 3) (h3 : l < 3) (h4 : a < 100) (hT : ∀ s l a, 1 ≤ s → s ≤ 3 → l < 3 → a < 100 → f (pl k s l a) = vV c k s l a) : X11_goes (nI (k + 1)) (nI s) (nI l) (nI a) (mv M0 f g) = some (gV c (vV c k) (pw12 k) s l a, mv M0 f g) := by
  have ho : oldr a < 100 := by unfold oldr; split <;> omega
  have e1 : (if nI a < 99 then nI a + 1 else nI a) = nI (oldr a) := by
    rw [n99, i_ltP (by omega) (by omega), nI_1]
    unfold oldr
    split <;> rfl
  obtain ⟨⟨q1, q2, q3, q4, q5, q6⟩, ⟨r1, r2, r3, r4⟩, hp, hw⟩ := hE
  have e101 : (mv M0 f g).2.1 101 (nI k).toNatClampNeg = pw12 k := by
    rw [n_cl (by omega), mv_2 _ _ _ _ (by decide), hp k (by omega)]
  have rd : ∀ s' l' a', 1 ≤ s' → s' ≤ 3 → l' < 3 → a' < 100 → (mv M0 f g).2.1 103 (nI (pl k s' l' a')).toNatClampNeg = vV c k s' l' a' := by
    intro s' l' a' g1 g2 g3 g4
    have := pl_lt (k := k) (by omega) g2 g3 g4
    rw [n_cl (by omega), mv_103]
    exact hT s' l' a' g1 g2 g3 g4
  have ib : ∀ s' l' a', s' ≤ 3 → l' < 3 → a' < 100 → inb (nI (pl k s' l' a')) 8400 = true := by
    intro s' l' a' g2 g3 g4
    exact n_inb (pl_lt (by omega) g2 g3 g4) (by omega)
  have i7 : inb (nI k) 7 = true := n_inb (by omega) (by omega)
  have h147 : ∀ (x7 s0 : Int64), X11_goes_b147 (nI (k + 1)) (nI s) (nI l) (nI a) (nI (cW c s (ledO l) a)) x7 s0 (mv M0 f g) = some (cL (cW c s (ledO l) a) * (s0 + vV c k 3 2 0) + (12 - nI (cW c s (ledO l) a)).toInt64 * x7, mv M0 f g) := by
    intro x7 s0
    unfold X11_goes_b147 X11_goes_b164
    rw [nI_pred, show (3 : Int32) = nI 3 from rfl, show (2 : Int32) = nI 2 from rfl, show (0 : Int32) = nI 0 from rfl, w_placeOf, bd_s, ib 3 2 0 (by omega) (by omega) (by omega), gd_t, rd 3 2 0 (by omega) (by omega) (by omega) (by omega)]
    rfl
  have h116 : ∀ (x7 : Int64), X11_goes_b116 (nI (k + 1)) (nI s) (nI l) (nI a) (nI (cW c s (ledO l) a)) x7 (mv M0 f g) = some (cL (cW c s (ledO l) a) * ((-(nI (cBi c))).toInt64 * pw12 k + vV c k 3 2 0) + (12 - nI (cW c s (ledO l) a)).toInt64 * x7, mv M0 f g) := by
    intro x7
    unfold X11_goes_b116 X11_goes_b121
    rw [i_10, nI_pred, i7, gd_t, e101, mv_1 _ _ _ 82 (by decide), q5, h147]
  unfold X11_goes
  rw [w_wearsAt ⟨⟨q1, q2, q3, q4, q5, q6⟩, ⟨r1, r2, r3, r4⟩, hp, hw⟩ h1 h2 h3 h4 (mv_1 _ _ _ 102 (by decide)), bd_s, e1]
  unfold X11_goes_b26
  rw [nI_pred, i7, gd_t, w_placeOf, bd_s, ib s l _ h2 h3 ho, gd_t, lt_s_, e101, rd s l _ h1 h2 h3 ho, mv_1 _ _ _ 82 (by decide), q4, n1, i_ltP (by omega) (by omega)]
  unfold gV
  by_cases hs : 1 < s
  · rw [if_pos hs, if_pos hs, gd_t, n_sub (by omega), w_placeOf, bd_s, ib (s - 1) l _ (by omega) h3 ho, gd_t, lt_s_, rd (s - 1) l _ (by omega) (by omega) h3 ho]
    unfold X11_goes_b164
    rfl
  · rw [if_neg hs, if_neg hs, i_eqP (by omega) (by omega)]
    by_cases hl : l = 1
    · rw [if_pos hl, w_isForgotten r4 (by omega) (by rw [mv_1 _ _ _ 82 (by decide)]; exact q6), bd_s]
      cases hf : fgt (cF c) a with
      | false =>
        rw [show bI false = 0 from rfl, i_00, if_pos ⟨hl, rfl⟩]
        unfold X11_goes_b121
        rw [i_00, h147]
        rfl
      | true =>
        rw [show bI true = 1 from rfl, i_10, if_neg (fun q => nomatch q.2), h116]
        rfl
    · rw [if_neg hl, if_neg (fun q => hl q.1), h116]
      rfl
