/-! ===== the other side reads a text, and works it out as it reads ===== -/
theorem i_m1 {α : Type} (x y : α) : (if (-1 : Int32) < 0 then x else y) = x := rfl
def mr (M0 : mm) (p fl op : Int32) : mm := sA M0 82 (upd (upd (upd (M0.1 82) 28 p) 30 fl) 31 op)
theorem mr_28 (M0 : mm) (p fl op : Int32) : (mr M0 p fl op).1 82 28 = p := by
  unfold mr
  simp (disch := decide) only [sA_s, upd_n, upd_s]
theorem mr_30 (M0 : mm) (p fl op : Int32) : (mr M0 p fl op).1 82 30 = fl := by
  unfold mr
  simp (disch := decide) only [sA_s, upd_n, upd_s]
theorem mr_31 (M0 : mm) (p fl op : Int32) : (mr M0 p fl op).1 82 31 = op := by
  unfold mr
  simp (disch := decide) only [sA_s, upd_n, upd_s]
theorem mr_o (M0 : mm) (p fl op : Int32) (j : Nat) (h1 : j ≠ 28) (h2 : j ≠ 30) (h3 : j ≠ 31) : (mr M0 p fl op).1 82 j = M0.1 82 j := by
  unfold mr
  rw [sA_s, upd_n _ _ _ _ h3, upd_n _ _ _ _ h2, upd_n _ _ _ _ h1]
theorem mr_k (M0 : mm) (p fl op : Int32) (k : Nat) (h : k ≠ 82) : (mr M0 p fl op).1 k = M0.1 k := by
  unfold mr
  rw [sA_n _ _ _ _ h]
theorem mr_2 (M0 : mm) (p fl op : Int32) : (mr M0 p fl op).2 = M0.2 := rfl
theorem upd_c (f : Nat → Int32) (j k : Nat) (a b : Int32) (h : j ≠ k) : upd (upd f j a) k b = upd (upd f k b) j a := by
  funext i
  simp only [upd_a]
  by_cases h1 : i = j
  · subst h1
    rw [if_neg h, if_pos rfl, if_pos rfl]
  · rw [if_neg h1, if_neg h1]
theorem sA_same (M : mm) (k : Nat) (f : Nat → Int32) (h : f = M.1 k) : sA M k f = M := by
  refine mm_ext (fun j => ?_) rfl
  rw [sA_1]
  split
  · next hj => rw [h, hj]
  · rfl
theorem mr_s28 (M0 : mm) (p fl op q : Int32) : sA (mr M0 p fl op) 82 (upd ((mr M0 p fl op).1 82) 28 q) = mr M0 q fl op := by
  unfold mr
  rw [sA_sA, sA_s, upd_c _ 31 28 _ _ (by decide), upd_c _ 30 28 _ _ (by decide), upd_upd]
theorem mr_s30 (M0 : mm) (p fl op q : Int32) : sA (mr M0 p fl op) 82 (upd ((mr M0 p fl op).1 82) 30 q) = mr M0 p q op := by
  unfold mr
  rw [sA_sA, sA_s, upd_c _ 31 30 _ _ (by decide), upd_upd]
theorem mr_s31 (M0 : mm) (p fl op q : Int32) : sA (mr M0 p fl op) 82 (upd ((mr M0 p fl op).1 82) 31 q) = mr M0 p fl q := by
  unfold mr
  rw [sA_sA, sA_s, upd_upd]
theorem mr_go1 (M0 : mm) (p : Nat) (fl op : Int32) : sA (mr M0 (nI p) fl op) 82 (upd ((mr M0 (nI p) fl op).1 82) 28 ((mr M0 (nI p) fl op).1 82 28 + 1)) = mr M0 (nI (p + 1)) fl op := by
  rw [mr_28, nI_1, mr_s28]
/-- the text that is read -/
def TX (M0 : mm) (x : Nat → Int32) (n : Nat) : Prop := M0.1 82 29 = nI n ∧ n ≤ 120 ∧ ((M0.1 82 27 = -1 ∧ x = M0.1 98) ∨ (M0.1 82 27 = 0 ∧ x = M0.1 99))
theorem w_byteAt {M0 : mm} {x : Nat → Int32} {n p : Nat} (hx : TX M0 x n) (hp : p ≤ n) (fl op : Int32) : X11_byteAt (mr M0 (nI p) fl op) = some (tb x n p, mr M0 (nI p) fl op) := by
  obtain ⟨h1, h2, h3⟩ := hx
  unfold X11_byteAt tb
  rw [mr_28, mr_o _ _ _ _ 29 (by decide) (by decide) (by decide), mr_o _ _ _ _ 27 (by decide) (by decide) (by decide), h1, i_ltP (by omega) (by omega), mr_k _ _ _ _ 98 (by decide), mr_k _ _ _ _ 99 (by decide)]
  by_cases h : p < n
  · rw [if_pos h, if_pos h]
    rcases h3 with ⟨h3, h4⟩ | ⟨h3, h4⟩
    · rw [h3, if_pos (by decide), n_inb (by omega) (by omega), gd_t, n_cl (by omega), h4]
    · rw [h3, if_neg (by decide), n0, n_add, Nat.zero_add, n_inb (by omega) (by omega), gd_t, n_cl (by omega), h4]
  · rw [if_neg h, if_neg h]
theorem neg1_lt : ((-1 : Int32) < 0) = True := eq_true (by decide)
theorem nI_nneg {q : Nat} (h : q < 2 ^ 31) : (nI q < 0) = False := by
  rw [n0, n_lt h (by omega)]
  exact eq_false (by omega)
theorem takes_y {M0 : mm} {x : Nat → Int32} {n p : Nat} (hx : TX M0 x n) (hp : p ≤ n) {c : Int32} (h : tb x n p = c) (op : Int32) : X11_takes c (mr M0 (nI p) (-1) op) = some (1, mr M0 (nI (p + 1)) (-1) op) := by
  unfold X11_takes
  rw [mr_30, i_m1, w_byteAt hx hp, bd_s, if_pos h, lt_s_, mr_go1]
theorem takes_n {M0 : mm} {x : Nat → Int32} {n p : Nat} (hx : TX M0 x n) (hp : p ≤ n) {c : Int32} (h : tb x n p ≠ c) (op : Int32) : X11_takes c (mr M0 (nI p) (-1) op) = some (0, mr M0 (nI p) (-1) op) := by
  unfold X11_takes
  rw [mr_30, i_m1, w_byteAt hx hp, bd_s, if_neg h]
theorem takes_f (M0 : mm) {q : Nat} (h : q < 2 ^ 31) (c p o : Int32) : X11_takes c (mr M0 p (nI q) o) = some (0, mr M0 p (nI q) o) := by
  unfold X11_takes
  rw [mr_30, i_nneg h]
theorem w_wrong (M0 : mm) (p o : Int32) : X11_wrong (mr M0 p (-1) o) = some (0, mr M0 p p o) := by
  unfold X11_wrong X11_wrong_b19
  rw [mr_30, i_m1, lt_s_, mr_28, mr_s30]
theorem w_wrongF (M0 : mm) {q : Nat} (h : q < 2 ^ 31) (p o : Int32) : X11_wrong (mr M0 p (nI q) o) = some (0, mr M0 p (nI q) o) := by
  unfold X11_wrong X11_wrong_b19
  rw [mr_30, i_nneg h, lt_s_, mr_s30]
/-- the other side's answer beside what is read -/
def RP (M0 : mm) (op : Nat) (r : Option (List stp) × Nat) (y : Option (Int32 × mm)) : Prop := match r with
  | (some l, q) => y = some (vS (M0.1 100) l, mr M0 (nI q) (-1) (nI op))
  | (none, q) => ∃ v o, y = some (v, mr M0 (nI q) (nI q) o)
theorem rf_lp {M0 : mm} {x : Nat → Int32} {n f lv op : Nat} (hn : n ≤ 120) (hlv : lv < 5) (hop : op ≤ 6) {R : mm → Option (Int32 × mm)} {L : Nat → Int32 → mm → Option (Int32 × mm)}
    (hR : ∀ p, p ≤ n → RP M0 op (pS x n f (lv + 1) op p) (R (mr M0 (nI p) (-1) (nI op))))
    (h1 : ∀ m v q o, q ≤ n → L (m + 1) v (mr M0 (nI q) (nI q) o) = some (v, mr M0 (nI q) (nI q) o))
    (h2 : ∀ m v p, p ≤ n → lvO (tb x n p) ≠ lv → L (m + 1) v (mr M0 (nI p) (-1) (nI op)) = some (v, mr M0 (nI p) (-1) (nI op)))
    (h3 : ∀ m v p, p < n → lvO (tb x n p) = lv → L (m + 1) v (mr M0 (nI p) (-1) (nI op)) = bd (R (mr M0 (nI (p + 1)) (-1) (nI op))) fun w M9 => L m (j2 (tb x n p) v w) M9) :
    ∀ k m p acc, n - p ≤ k → k < m → p ≤ n → exG acc (5 * op + lv) → RP M0 op (pLp x n (pS x n f (lv + 1) op) lv k p acc) (L m (vS (M0.1 100) acc) (mr M0 (nI p) (-1) (nI op))) := by
  intro k
  induction k with
  | zero =>
    intro m p acc hk hm hp ha
    obtain ⟨m, rfl⟩ : ∃ m', m = m' + 1 := ⟨m - 1, by omega⟩
    refine h2 m _ p hp fun h => ?_
    have := tb_op h hlv
    omega
  | succ k ih =>
    intro m p acc hk hm hp ha
    obtain ⟨m, rfl⟩ : ∃ m', m = m' + 1 := ⟨m - 1, by omega⟩
    rw [pLp]
    by_cases hc : lvO (tb x n p) = lv
    · rw [if_pos hc]
      have hp1 := tb_op hc hlv
      rw [h3 m _ p hp1 hc]
      have h0 := hR (p + 1) (by omega)
      have h9 := gdR_S x n f (lv + 1) op (p + 1) hop (by omega) (by omega)
      rcases hq : pS x n f (lv + 1) op (p + 1) with ⟨_ | l, q⟩
      · rw [hq] at h0 h9
        obtain ⟨v, o, h0⟩ := h0
        have g2 := h9.2.1
        simp only at g2
        obtain ⟨m, rfl⟩ : ∃ m', m = m' + 1 := ⟨m - 1, by omega⟩
        rw [h0, bd_s, h1 m _ q o g2]
        exact ⟨_, _, rfl⟩
      · rw [hq] at h0 h9
        have h0' : R (mr M0 (nI (p + 1)) (-1) (nI op)) = some (vS (M0.1 100) l, mr M0 (nI q) (-1) (nI op)) := h0
        have g1 := h9.1
        have g2 := h9.2.1
        obtain ⟨-, -, g5⟩ := h9.2.2 l rfl
        simp only at g1 g2
        have e := exG_op (c := tb x n p) ha g5 (by omega) (by omega)
        rw [h0', bd_s, ← e.2]
        exact ih m q _ (by omega) (by omega) g2 e.1
    · rw [if_neg hc]
      exact h2 m _ p hp hc
theorem rf_lv {M0 : mm} {x : Nat → Int32} {n f lv op : Nat} (hn : n ≤ 120) (hlv : lv < 5) (hlv2 : lv ≠ 2) (hop : op ≤ 6) {B R : mm → Option (Int32 × mm)} {L : Nat → Int32 → mm → Option (Int32 × mm)}
    (hB : ∀ M, B M = bd (R M) fun v M2 => L 10000 v M2)
    (hR : ∀ p, p ≤ n → RP M0 op (pS x n f (lv + 1) op p) (R (mr M0 (nI p) (-1) (nI op))))
    (h1 : ∀ m v q o, q ≤ n → L (m + 1) v (mr M0 (nI q) (nI q) o) = some (v, mr M0 (nI q) (nI q) o))
    (h2 : ∀ m v p, p ≤ n → lvO (tb x n p) ≠ lv → L (m + 1) v (mr M0 (nI p) (-1) (nI op)) = some (v, mr M0 (nI p) (-1) (nI op)))
    (h3 : ∀ m v p, p < n → lvO (tb x n p) = lv → L (m + 1) v (mr M0 (nI p) (-1) (nI op)) = bd (R (mr M0 (nI (p + 1)) (-1) (nI op))) fun w M9 => L m (j2 (tb x n p) v w) M9) :
    ∀ p, p ≤ n → RP M0 op (pS x n (f + 1) lv op p) (B (mr M0 (nI p) (-1) (nI op))) := by
  intro p hp
  rw [hB, pS, if_pos hlv, if_neg hlv2]
  have h0 := hR p hp
  have h9 := gdR_S x n f (lv + 1) op p hop (by omega) hp
  rcases hq : pS x n f (lv + 1) op p with ⟨_ | l, q⟩
  · rw [hq] at h0 h9
    obtain ⟨v, o, h0⟩ := h0
    have g2 := h9.2.1
    simp only at g2
    rw [h0, bd_s, h1 9999 _ q o g2]
    exact ⟨_, _, rfl⟩
  · rw [hq] at h0 h9
    have h0' : R (mr M0 (nI p) (-1) (nI op)) = some (vS (M0.1 100) l, mr M0 (nI q) (-1) (nI op)) := h0
    have g2 := h9.2.1
    obtain ⟨-, -, g5⟩ := h9.2.2 l rfl
    simp only at g2 ⊢
    rw [h0', bd_s]
    exact rf_lp hn hlv hop hR h1 h2 h3 n 10000 q l (by omega) (by omega) g2 (exG_le g5 (by omega))
theorem lvO_0 {c : Int32} (h : lvO c = 0) : c = 124 := by
  unfold lvO at h
  repeat' split at h
  all_goals first | assumption | omega
theorem lvO_1 {c : Int32} (h : lvO c = 1) : c = 38 := by
  unfold lvO at h
  repeat' split at h
  all_goals first | assumption | omega
theorem lvO_2 {c : Int32} (h : lvO c = 2) : c = 60 ∨ c = 61 ∨ c = 62 := by
  unfold lvO at h
  repeat' split at h
  all_goals first | (simp only [*, true_or, or_true]; done) | omega
theorem lvO_3 {c : Int32} (h : lvO c = 3) : c = 43 ∨ c = 45 := by
  unfold lvO at h
  repeat' split at h
  all_goals first | (simp only [*, true_or, or_true]; done) | omega
theorem lvO_4 {c : Int32} (h : lvO c = 4) : c = 42 ∨ c = 47 ∨ c = 37 := by
  unfold lvO at h
  repeat' split at h
  all_goals first | (simp only [*, true_or, or_true]; done) | omega
theorem rf_either {M0 : mm} {x : Nat → Int32} {n f op : Nat} (hx : TX M0 x n) (hop : op ≤ 6) {rec : Nat → mm → Option (Int32 × mm)} (hR : ∀ p, p ≤ n → RP M0 op (pS x n f 1 op p) (rec 0 (mr M0 (nI p) (-1) (nI op)))) : ∀ p, p ≤ n → RP M0 op (pS x n (f + 1) 0 op p) (X11_either_B rec (mr M0 (nI p) (-1) (nI op))) := by
  have h120 := hx.2.1
  refine rf_lv h120 (by omega) (by omega) hop (R := rec 0) (L := X11_either_L5 rec) (fun M => rfl) hR ?_ ?_ ?_
  · intro m v q o hq
    rw [X11_either_L5, takes_f M0 (by omega), bd_s, i_00]
  · intro m v p hp hc
    rw [X11_either_L5, takes_n hx hp (fun h => hc (by rw [h]; decide)), bd_s, i_00]
  · intro m v p hp hc
    have hc := lvO_0 hc
    rw [X11_either_L5, takes_y hx (by omega) hc, bd_s, i_10, hc]
    refine congrArg (bd _) (funext fun w => funext fun M9 => ?_)
    rw [show j2 124 v w = if v = 0 then (if w = 0 then 0 else 1) else 1 from rfl]
    by_cases hv : v = 0
    · by_cases hw : w = 0
      · rw [if_pos hv, if_pos hw, if_pos hv, if_pos hw]; rfl
      · rw [if_pos hv, if_neg hw, if_pos hv, if_neg hw]; rfl
    · rw [if_neg hv, if_neg hv]; rfl
theorem rf_both {M0 : mm} {x : Nat → Int32} {n f op : Nat} (hx : TX M0 x n) (hop : op ≤ 6) {rec : Nat → mm → Option (Int32 × mm)} (hR : ∀ p, p ≤ n → RP M0 op (pS x n f 2 op p) (rec 1 (mr M0 (nI p) (-1) (nI op)))) : ∀ p, p ≤ n → RP M0 op (pS x n (f + 1) 1 op p) (X11_both_B rec (mr M0 (nI p) (-1) (nI op))) := by
  have h120 := hx.2.1
  refine rf_lv h120 (by omega) (by omega) hop (R := rec 1) (L := X11_both_L5 rec) (fun M => rfl) hR ?_ ?_ ?_
  · intro m v q o hq
    rw [X11_both_L5, takes_f M0 (by omega), bd_s, i_00]
  · intro m v p hp hc
    rw [X11_both_L5, takes_n hx hp (fun h => hc (by rw [h]; decide)), bd_s, i_00]
  · intro m v p hp hc
    have hc := lvO_1 hc
    rw [X11_both_L5, takes_y hx (by omega) hc, bd_s, i_10, hc]
    refine congrArg (bd _) (funext fun w => funext fun M9 => ?_)
    rw [show j2 38 v w = if v = 0 then 0 else if w = 0 then 0 else 1 from rfl]
    by_cases hv : v = 0
    · rw [if_pos hv, if_pos hv]; rfl
    · by_cases hw : w = 0
      · rw [if_neg hv, if_pos hw, if_neg hv, if_pos hw]; rfl
      · rw [if_neg hv, if_neg hw, if_neg hv, if_neg hw]; rfl
theorem rf_sums {M0 : mm} {x : Nat → Int32} {n f op : Nat} (hx : TX M0 x n) (hop : op ≤ 6) {rec : Nat → mm → Option (Int32 × mm)} (hR : ∀ p, p ≤ n → RP M0 op (pS x n f 4 op p) (rec 4 (mr M0 (nI p) (-1) (nI op)))) : ∀ p, p ≤ n → RP M0 op (pS x n (f + 1) 3 op p) (X11_sums_B rec (mr M0 (nI p) (-1) (nI op))) := by
  have h120 := hx.2.1
  refine rf_lv h120 (by omega) (by omega) hop (R := rec 4) (L := X11_sums_L5 rec) (fun M => rfl) hR ?_ ?_ ?_
  · intro m v q o hq
    rw [X11_sums_L5, mr_30, i_nneg (by omega)]
  · intro m v p hp hc
    rw [X11_sums_L5, mr_30, i_m1, w_byteAt hx hp, bd_s, if_neg (fun h => hc (by rw [h]; decide)), w_byteAt hx hp, bd_s, if_neg (fun h => hc (by rw [h]; decide))]
  · intro m v p hp hc
    have hc := lvO_3 hc
    have e : X11_sums_L5 rec (m + 1) v (mr M0 (nI p) (-1) (nI op)) = X11_sums_b30 rec (X11_sums_L5 rec m) v (mr M0 (nI p) (-1) (nI op)) := by
      rw [X11_sums_L5, mr_30, i_m1, w_byteAt hx (by omega), bd_s]
      rcases hc with h | h
      · rw [if_pos h]
      · rw [if_neg (by rw [h]; decide), w_byteAt hx (by omega), bd_s, if_pos h]
    rw [e]
    unfold X11_sums_b30 X11_sums_b44
    rw [w_byteAt hx (by omega), bd_s, lt_s_, mr_go1]
    refine congrArg (bd _) (funext fun w => funext fun M9 => ?_)
    rcases hc with h | h
    · rw [h]; rfl
    · rw [h]; rfl
theorem rf_product {M0 : mm} {x : Nat → Int32} {n f op : Nat} (hx : TX M0 x n) (hop : op ≤ 6) {rec : Nat → mm → Option (Int32 × mm)} (hR : ∀ p, p ≤ n → RP M0 op (pS x n f 5 op p) (rec 3 (mr M0 (nI p) (-1) (nI op)))) : ∀ p, p ≤ n → RP M0 op (pS x n (f + 1) 4 op p) (X11_product_B rec (mr M0 (nI p) (-1) (nI op))) := by
  have h120 := hx.2.1
  refine rf_lv h120 (by omega) (by omega) hop (R := rec 3) (L := fun m v M => bd (X11_byteAt M) fun c M5 => X11_product_L10 rec m v c M5) (fun M => rfl) hR ?_ ?_ ?_
  · intro m v q o hq
    rw [w_byteAt hx hq, bd_s, X11_product_L10, mr_30, i_nneg (by omega)]
  · intro m v p hp hc
    rw [w_byteAt hx hp, bd_s, X11_product_L10, mr_30, i_m1, if_neg (fun h => hc (by rw [h]; decide)), if_neg (fun h => hc (by rw [h]; decide)), if_neg (fun h => hc (by rw [h]; decide))]
  · intro m v p hp hc
    have hc := lvO_4 hc
    have e : X11_product_L10 rec (m + 1) v (tb x n p) (mr M0 (nI p) (-1) (nI op)) = X11_product_b35 rec (X11_product_L10 rec m) v (tb x n p) (mr M0 (nI p) (-1) (nI op)) := by
      rw [X11_product_L10, mr_30, i_m1]
      rcases hc with h | h | h
      · rw [if_pos h]
      · rw [if_neg (by rw [h]; decide), if_pos h]
      · rw [if_neg (by rw [h]; decide), if_neg (by rw [h]; decide), if_pos h]
    rw [w_byteAt hx (by omega), bd_s, e]
    unfold X11_product_b35
    rw [lt_s_, mr_go1]
    refine congrArg (bd _) (funext fun w => funext fun M9 => ?_)
    rcases hc with h | h | h
    · rw [h]; rfl
    · rw [h, show j2 47 v w = if w = 0 then 0 else v / w from rfl, if_neg (by decide)]
      by_cases hw : w = 0
      · rw [if_pos hw, if_pos hw]; rfl
      · rw [if_neg hw, if_neg hw, if_pos rfl, decide_eq_true hw]; rfl
    · rw [h, show j2 37 v w = if w = 0 then 0 else v - v / w * w from rfl, if_neg (by decide)]
      by_cases hw : w = 0
      · rw [if_pos hw, if_pos hw]; rfl
      · rw [if_neg hw, if_neg hw, if_neg (by decide), decide_eq_true hw]; rfl
theorem rf_compared {M0 : mm} {x : Nat → Int32} {n f op : Nat} (hx : TX M0 x n) (hop : op ≤ 6) {rec : Nat → mm → Option (Int32 × mm)} (hR : ∀ p, p ≤ n → RP M0 op (pS x n f 3 op p) (rec 5 (mr M0 (nI p) (-1) (nI op)))) : ∀ p, p ≤ n → RP M0 op (pS x n (f + 1) 2 op p) (X11_compared_B rec (mr M0 (nI p) (-1) (nI op))) := by
  have h120 := hx.2.1
  intro p hp
  rw [pS, if_pos (by omega), if_pos rfl]
  unfold X11_compared_B
  have h0 := hR p hp
  have h9 := gdR_S x n f 3 op p hop (by omega) hp
  rcases hq : pS x n f (2 + 1) op p with ⟨_ | l, q⟩
  · rw [hq] at h0 h9
    obtain ⟨v, o, h0⟩ := h0
    have g2 := h9.2.1
    simp only at g2
    rw [h0, bd_s, w_byteAt hx g2, bd_s, mr_30, i_nneg (by omega)]
    exact ⟨_, _, rfl⟩
  · rw [hq] at h0 h9
    have h0' : rec 5 (mr M0 (nI p) (-1) (nI op)) = some (vS (M0.1 100) l, mr M0 (nI q) (-1) (nI op)) := h0
    have g2 := h9.2.1
    obtain ⟨-, -, g5⟩ := h9.2.2 l rfl
    simp only at g2 ⊢
    rw [h0', bd_s, w_byteAt hx g2, bd_s, mr_30, i_m1, pLp]
    by_cases hc : lvO (tb x n q) = 2
    · rw [if_pos hc]
      have hq1 := tb_op hc (by omega)
      have hc2 := lvO_2 hc
      have e : ∀ y : Option (Int32 × mm), (if tb x n q = 60 then X11_compared_b37 rec (vS (M0.1 100) l) (tb x n q) (mr M0 (nI q) (-1) (nI op)) else if tb x n q = 61 then X11_compared_b37 rec (vS (M0.1 100) l) (tb x n q) (mr M0 (nI q) (-1) (nI op)) else if tb x n q = 62 then X11_compared_b37 rec (vS (M0.1 100) l) (tb x n q) (mr M0 (nI q) (-1) (nI op)) else y) = X11_compared_b37 rec (vS (M0.1 100) l) (tb x n q) (mr M0 (nI q) (-1) (nI op)) := by
        intro y
        repeat' split
        all_goals first | rfl | skip
        rcases hc2 with h | h | h <;> contradiction
      rw [e]
      unfold X11_compared_b37
      rw [lt_s_, mr_go1]
      have k0 := hR (q + 1) (by omega)
      have k9 := gdR_S x n f 3 op (q + 1) hop (by omega) (by omega)
      rcases hr : pS x n f (2 + 1) op (q + 1) with ⟨_ | l2, r⟩
      · rw [hr] at k0
        obtain ⟨v, o, k0⟩ := k0
        rw [k0, bd_s]
        simp only
        repeat' split
        all_goals exact ⟨_, _, rfl⟩
      · rw [hr] at k0 k9
        have k0' : rec 5 (mr M0 (nI (q + 1)) (-1) (nI op)) = some (vS (M0.1 100) l2, mr M0 (nI r) (-1) (nI op)) := k0
        obtain ⟨-, -, m5⟩ := k9.2.2 l2 rfl
        have e2 := exG_op (c := tb x n q) (exG_le g5 (show 5 * op + 2 ≤ 5 * op + 3 by omega)) m5 (by omega) (by omega)
        rw [k0', bd_s]
        show _ = some (vS (M0.1 100) (l ++ (l2 ++ [(tb x n q, 0)])), _)
        rw [e2.2]
        rcases hc2 with h | h | h
        · rw [h, if_pos rfl, show ∀ a b : Int32, j2 60 a b = if a < b then 1 else 0 from fun _ _ => rfl]
          split <;> rfl
        · rw [h, if_neg (by decide), if_pos rfl, show ∀ a b : Int32, j2 61 a b = if a = b then 1 else 0 from fun _ _ => rfl]
          split <;> rfl
        · rw [h, if_neg (by decide), if_neg (by decide), show ∀ a b : Int32, j2 62 a b = if b < a then 1 else 0 from fun _ _ => rfl]
          split <;> rfl
    · rw [if_neg hc, if_neg (fun h => hc (by rw [h]; decide)), if_neg (fun h => hc (by rw [h]; decide)), if_neg (fun h => hc (by rw [h]; decide))]
      rfl
theorem w_nameOf (c : Int32) (M : mm) : X11_nameOf c M = some (if c = 97 then 2 else if c = 108 then 3 else if c = 115 then 0 else if c = 116 then 1 else -1, M) := by
  unfold X11_nameOf
  repeat' split
  all_goals rfl
theorem rf_num {M0 : mm} {x : Nat → Int32} {n : Nat} (hx : TX M0 x n) {rec : Nat → mm → Option (Int32 × mm)} (K : Int32 → Int32 → mm → Option (Int32 × mm)) (o : Int32) : ∀ k m p v, k ≤ 4 → k < m → p ≤ n → ∃ j, 4 - k ≤ j ∧ j ≤ 4 ∧ (k = 4 → ¬ tb x n p < 48 → ¬ 57 < tb x n p → 0 < j) ∧ X11_one_L176 rec K m v (nI (4 - k)) (mr M0 (nI p) (-1) o) = K (dg x n k p v).2 (nI j) (mr M0 (nI (dg x n k p v).1) (-1) o) := by
  intro k
  induction k with
  | zero =>
    intro m p v _ hm hp
    obtain ⟨m, rfl⟩ : ∃ m', m = m' + 1 := ⟨m - 1, by omega⟩
    rw [X11_one_L176, n4, i_ltP (by omega) (by omega), if_neg (by omega)]
    exact ⟨4, by omega, by omega, fun h => by omega, rfl⟩
  | succ k ih =>
    intro m p v hk hm hp
    obtain ⟨m, rfl⟩ : ∃ m', m = m' + 1 := ⟨m - 1, by omega⟩
    rw [X11_one_L176, n4, i_ltP (by omega) (by omega), if_pos (by omega), w_byteAt hx hp, bd_s, dg]
    by_cases h1 : tb x n p < 48
    · rw [if_pos h1, if_pos h1]
      exact ⟨4 - (k + 1), by omega, by omega, fun _ h => absurd h1 h, rfl⟩
    · rw [if_neg h1, if_neg h1, w_byteAt hx hp, bd_s]
      by_cases h2 : 57 < tb x n p
      · rw [if_pos h2, if_pos h2]
        exact ⟨4 - (k + 1), by omega, by omega, fun _ _ h => absurd h2 h, rfl⟩
      · rw [if_neg h2, if_neg h2, w_byteAt hx hp, bd_s, lt_s_, mr_go1, nI_1, show 4 - (k + 1) + 1 = 4 - k from by omega, Int32.mul_comm 10 v]
        have hp1 : p < n := tb_lt fun q => h1 (by rw [q]; decide)
        obtain ⟨j, j1, j2, j3, j4⟩ := ih m (p + 1) (v * 10 + tb x n p - 48) (by omega) (by omega) (by omega)
        exact ⟨j, by omega, j2, fun _ _ _ => by omega, j4⟩
theorem vS_1 (nm : Nat → Int32) {c : stp} {v : Int32} (h : ex1 nm c [] = some [v]) : vS nm [c] = v := by
  unfold vS
  rw [show exB nm [c] [] = (ex1 nm c []).bind (exB nm []) from rfl, h]
  rfl
theorem rf_one {M0 : mm} {x : Nat → Int32} {n f op : Nat} (hx : TX M0 x n) (hop : op ≤ 6) {rec : Nat → mm → Option (Int32 × mm)} (hR : ∀ lv p, op < 6 → (lv = 0 ∨ lv = 5) → p ≤ n → RP M0 (op + 1) (pS x n f lv (op + 1) p) (rec (if lv = 0 then 2 else 3) (mr M0 (nI p) (-1) (nI (op + 1))))) : ∀ p, p ≤ n → RP M0 op (pS x n (f + 1) 5 op p) (X11_one_B rec (mr M0 (nI p) (-1) (nI op))) := by
  have h120 := hx.2.1
  intro p hp
  unfold X11_one_B
  rw [mr_30, i_m1, w_byteAt hx hp, bd_s, pS, if_neg (by omega)]
  by_cases hc : tb x n p = 40 ∨ tb x n p = 33 ∨ tb x n p = 45
  · have hp1 : p < n := tb_lt fun e => by rw [e] at hc; exact absurd hc (by decide)
    have e : ∀ y : Option (Int32 × mm), (if tb x n p = 33 then X11_one_b32 rec (tb x n p) (mr M0 (nI p) (-1) (nI op)) else if tb x n p = 45 then X11_one_b32 rec (tb x n p) (mr M0 (nI p) (-1) (nI op)) else if tb x n p = 40 then X11_one_b32 rec (tb x n p) (mr M0 (nI p) (-1) (nI op)) else y) = X11_one_b32 rec (tb x n p) (mr M0 (nI p) (-1) (nI op)) := by
      intro y
      repeat' split
      all_goals first | rfl | skip
      rcases hc with h | h | h <;> contradiction
    rw [e, if_neg (by rintro ⟨h1, h2⟩; rcases hc with h | h | h <;> rw [h] at h1 h2 <;> revert h1 h2 <;> decide), if_neg (by rintro (h1 | h1 | h1 | h1) <;> rw [h1] at hc <;> revert hc <;> decide)]
    unfold X11_one_b32
    rw [mr_31, n6, i_eqP (by omega) (by omega)]
    by_cases h6 : op < 6
    · rw [if_pos (c := op < 6 ∧ _) ⟨h6, hc⟩, if_neg (c := op = 6) (by omega), lt_s_, nI_1, mr_s31, lt_s_, mr_go1]
      by_cases h40 : tb x n p = 40
      · rw [if_pos h40, if_pos h40]
        have h0 := hR 0 (p + 1) h6 (Or.inl rfl) (by omega)
        have h9 := gdR_S x n f 0 (op + 1) (p + 1) (by omega) (by omega) (by omega)
        rw [if_pos rfl] at h0
        rcases hq : pS x n f 0 (op + 1) (p + 1) with ⟨_ | l, q⟩
        · rw [hq] at h0 h9
          obtain ⟨v, o, h0⟩ := h0
          have g2 := h9.2.1
          simp only at g2
          rw [h0, bd_s]
          unfold X11_one_b83
          rw [if_pos h40, takes_f M0 (by omega), bd_s, i_00, w_wrongF M0 (by omega), bd_s]
          exact ⟨_, _, rfl⟩
        · rw [hq] at h0 h9
          have h0' : rec 2 (mr M0 (nI (p + 1)) (-1) (nI (op + 1))) = some (vS (M0.1 100) l, mr M0 (nI q) (-1) (nI (op + 1))) := h0
          have g2 := h9.2.1
          simp only at g2 ⊢
          rw [h0', bd_s]
          unfold X11_one_b83
          rw [if_pos h40]
          by_cases h41 : tb x n q = 41
          · rw [takes_y hx g2 h41, bd_s, i_10, if_pos h41]
            unfold X11_one_b104
            rw [lt_s_, mr_31, nI_pred, mr_s31, if_pos h40]
            rfl
          · rw [takes_n hx g2 h41, bd_s, i_00, w_wrong, bd_s, if_neg h41]
            exact ⟨_, _, rfl⟩
      · rw [if_neg h40, if_neg h40]
        have h0 := hR 5 (p + 1) h6 (Or.inr rfl) (by omega)
        have h9 := gdR_S x n f 5 (op + 1) (p + 1) (by omega) (by omega) (by omega)
        rw [if_neg (by decide)] at h0
        rcases hq : pS x n f 5 (op + 1) (p + 1) with ⟨_ | l, q⟩
        · rw [hq] at h0 h9
          obtain ⟨v, o, h0⟩ := h0
          have g2 := h9.2.1
          simp only at g2
          rw [h0, bd_s]
          unfold X11_one_b83 X11_one_b104
          rw [if_neg h40, lt_s_, mr_s31, if_neg h40]
          show ∃ v' o', (_ : Option (Int32 × mm)) = some (v', mr M0 (nI q) (nI q) o')
          by_cases h45 : tb x n p = 45
          · rw [if_pos h45]; exact ⟨_, _, rfl⟩
          · rw [if_neg h45]
            by_cases hv : v = 0
            · rw [if_pos hv]; exact ⟨_, _, rfl⟩
            · rw [if_neg hv]; exact ⟨_, _, rfl⟩
        · rw [hq] at h0 h9
          have h0' : rec 3 (mr M0 (nI (p + 1)) (-1) (nI (op + 1))) = some (vS (M0.1 100) l, mr M0 (nI q) (-1) (nI (op + 1))) := h0
          obtain ⟨-, -, g5⟩ := h9.2.2 l rfl
          rw [h0', bd_s]
          unfold X11_one_b83 X11_one_b104
          rw [if_neg h40, lt_s_, mr_31, nI_pred, mr_s31, if_neg h40]
          show _ = some (vS (M0.1 100) (l ++ [(if tb x n p = 45 then 126 else tb x n p, 0)]), _)
          rcases hc with h | h | h
          · exact absurd h h40
          · have e2 := exG_u (c := 33) (exG_le g5 (show 5 * op ≤ _ by omega)) (by omega) (Or.inr rfl)
            have z33 : ¬ ((33 : Int32) = 45) := by decide
            rw [h, if_neg z33, if_neg z33, e2.2, if_neg (show ¬ ((33 : Int32) = 126) by decide)]
            by_cases hv : vS (M0.1 100) l = 0
            · rw [if_pos hv, if_pos hv]
            · rw [if_neg hv, if_neg hv]
          · have e2 := exG_u (c := 126) (exG_le g5 (show 5 * op ≤ _ by omega)) (by omega) (Or.inl rfl)
            rw [h, if_pos rfl, if_pos rfl, e2.2, if_pos rfl]
    · rw [if_neg (c := op < 6 ∧ _) (fun q => h6 q.1), if_pos (c := op = 6) (by omega), w_wrong, bd_s]
      exact ⟨_, _, rfl⟩
  · have h33 : ¬ tb x n p = 33 := fun h => hc (Or.inr (Or.inl h))
    have h45 : ¬ tb x n p = 45 := fun h => hc (Or.inr (Or.inr h))
    have h40 : ¬ tb x n p = 40 := fun h => hc (Or.inl h)
    rw [if_neg (c := op < 6 ∧ _) (fun q => hc q.2), if_neg h33, if_neg h45, if_neg h40, w_nameOf, bd_s]
    have ln : ∀ (c : Int32) (k : Nat), k < 4 → p < n → tb x n p = c → ¬ (¬ c < 48 ∧ ¬ 57 < c) → (c = 115 ∨ c = 116 ∨ c = 97 ∨ c = 108) → (if c = 97 then (2 : Int32) else if c = 108 then 3 else if c = 115 then 0 else if c = 116 then 1 else -1) = nI k → (∀ nm : Nat → Int32, ex1 nm (c, 0) [] = some [nm k]) → RP M0 op (if ¬ tb x n p < 48 ∧ ¬ 57 < tb x n p then (some [(48, (dg x n 4 p 0).2)], (dg x n 4 p 0).1) else if tb x n p = 115 ∨ tb x n p = 116 ∨ tb x n p = 97 ∨ tb x n p = 108 then (some [(tb x n p, 0)], p + 1) else (none, p)) (if (if tb x n p = 97 then (2 : Int32) else if tb x n p = 108 then 3 else if tb x n p = 115 then 0 else if tb x n p = 116 then 1 else -1) < 0 then X11_one_L176 rec (fun x3 x4 M => X11_one_b229 rec x3 x4 M) 10000 0 0 (mr M0 (nI p) (-1) (nI op)) else lt_ (sA (mr M0 (nI p) (-1) (nI op)) 82 (upd ((mr M0 (nI p) (-1) (nI op)).1 82) 28 ((mr M0 (nI p) (-1) (nI op)).1 82 28 + 1))) fun M54 => gd (inb (if tb x n p = 97 then (2 : Int32) else if tb x n p = 108 then 3 else if tb x n p = 115 then 0 else if tb x n p = 116 then 1 else -1) 4) <| some ((M54.1 100 (if tb x n p = 97 then (2 : Int32) else if tb x n p = 108 then 3 else if tb x n p = 115 then 0 else if tb x n p = 116 then 1 else -1).toNatClampNeg), M54)) := by
      intro c k hk hp1 hcc h1 h2 h3 h4
      rw [hcc, if_neg h1, if_pos h2, h3, i_nneg (by omega), lt_s_, mr_go1, n_inb (by omega) (by omega), gd_t, n_cl (by omega), mr_k _ _ _ _ 100 (by decide)]
      show some _ = some (vS (M0.1 100) [(c, 0)], _)
      rw [vS_1 _ (h4 _)]
    have hpl : ∀ c : Int32, c ≠ 0 → tb x n p = c → p < n := fun c h0 h => tb_lt (by rw [h]; exact h0)
    by_cases h115 : tb x n p = 115
    · exact ln 115 0 (by omega) (hpl _ (by decide) h115) h115 (by decide) (by decide) (by decide) (fun nm => rfl)
    by_cases h116 : tb x n p = 116
    · exact ln 116 1 (by omega) (hpl _ (by decide) h116) h116 (by decide) (by decide) (by decide) (fun nm => rfl)
    by_cases h97 : tb x n p = 97
    · exact ln 97 2 (by omega) (hpl _ (by decide) h97) h97 (by decide) (by decide) (by decide) (fun nm => rfl)
    by_cases h108 : tb x n p = 108
    · exact ln 108 3 (by omega) (hpl _ (by decide) h108) h108 (by decide) (by decide) (by decide) (fun nm => rfl)
    rw [if_neg h97, if_neg h108, if_neg h115, if_neg h116, i_m1, if_neg (c := tb x n p = 115 ∨ _) (by rintro (h | h | h | h) <;> contradiction)]
    by_cases hd : ¬ tb x n p < 48 ∧ ¬ 57 < tb x n p
    · obtain ⟨j, j1, j2, j3, j4⟩ := rf_num hx (rec := rec) (fun x3 x4 M => X11_one_b229 rec x3 x4 M) (nI op) 4 10000 p 0 (by omega) (by omega) hp
      rw [show nI (4 - 4) = 0 from rfl] at j4
      rw [j4]
      unfold X11_one_b229
      rw [n0, i_eqP (by omega) (by omega)]
      have := j3 rfl hd.1 hd.2
      rw [if_pos hd, if_neg (by omega)]
      show some _ = some (vS (M0.1 100) [(48, (dg x n 4 p 0).2)], _)
      rw [vS_1 (v := (dg x n 4 p 0).2) _ rfl]
      rfl
    · rw [if_neg hd]
      have e : X11_one_L176 rec (fun x3 x4 M => X11_one_b229 rec x3 x4 M) (9999 + 1) 0 0 (mr M0 (nI p) (-1) (nI op)) = X11_one_b229 rec 0 0 (mr M0 (nI p) (-1) (nI op)) := by
        rw [X11_one_L176, if_pos (by decide), w_byteAt hx hp, bd_s]
        by_cases h1 : tb x n p < 48
        · rw [if_pos h1]
        · rw [if_neg h1, w_byteAt hx hp, bd_s, if_pos (Classical.not_not.mp fun h2 => hd ⟨h1, h2⟩)]
      rw [show (10000 : Nat) = 9999 + 1 from rfl, e]
      unfold X11_one_b229
      rw [if_pos rfl, w_wrong, bd_s]
      exact ⟨_, _, rfl⟩
/-- where each level lies in the group -/
def kd : Nat → Nat
  | 0 => 2
  | 1 => 0
  | 2 => 1
  | 3 => 5
  | 4 => 4
  | _ => 3
theorem rf_S {M0 : mm} {x : Nat → Int32} {n : Nat} (hx : TX M0 x n) : ∀ f lv op p g, 6 * (6 - op) + (5 - lv) < f → f ≤ g → op ≤ 6 → lv ≤ 5 → p ≤ n → RP M0 op (pS x n f lv op p) (G_X11_both g (kd lv) (mr M0 (nI p) (-1) (nI op))) := by
  intro f
  induction f with
  | zero => intro lv op p g h; omega
  | succ f ih =>
    intro lv op p g hf hg hop hlv hp
    obtain ⟨g, rfl⟩ : ∃ g', g = g' + 1 := ⟨g - 1, by omega⟩
    match lv, hlv, hf with
    | 0, _, hf => exact rf_either hx hop (fun p' hp' => ih 1 op p' g (by omega) (by omega) hop (by omega) hp') p hp
    | 1, _, hf => exact rf_both hx hop (fun p' hp' => ih 2 op p' g (by omega) (by omega) hop (by omega) hp') p hp
    | 2, _, hf => exact rf_compared hx hop (fun p' hp' => ih 3 op p' g (by omega) (by omega) hop (by omega) hp') p hp
    | 3, _, hf => exact rf_sums hx hop (fun p' hp' => ih 4 op p' g (by omega) (by omega) hop (by omega) hp') p hp
    | 4, _, hf => exact rf_product hx hop (fun p' hp' => ih 5 op p' g (by omega) (by omega) hop (by omega) hp') p hp
    | 5, _, hf =>
      refine rf_one hx hop (fun lv p' h6 h05 hp' => ?_) p hp
      rcases h05 with rfl | rfl
      · exact ih 0 (op + 1) p' g (by omega) (by omega) (by omega) (by omega) hp'
      · exact ih 5 (op + 1) p' g (by omega) (by omega) (by omega) (by omega) hp'
/-- what follows the lines -/
def KW (x4 : Int32) (M : mm) : Option (Int32 × mm) :=
  if (M.1 82 30) < 0 then
    if (M.1 82 28) < (M.1 82 29) then
      bd (X11_wrong M) fun v26 M27 =>
      some (v26, M27)
    else
      some (x4, M)
  else
    some (x4, M)
theorem rf_wk {M0 : mm} {x : Nat → Int32} {n : Nat} (hx : TX M0 x n) (a1 a2 : Int32) : ∀ k m i p (gv gives : Int32), k < m → i + k = n + 1 → i ≤ p → p ≤ n → (gv = 0 → gives = 0) → match pT x n k p with
    | (some R, q) => X11_workOut_L33 a1 a2 KW m gv gives 1 (mr M0 (nI p) (-1) 0) = some (if gv = 0 then exT (M0.1 100) R [] false else gives, mr M0 (nI q) (-1) 0) ∧ q = n
    | (none, q) => q ≤ n ∧ ∃ v o, X11_workOut_L33 a1 a2 KW m gv gives 1 (mr M0 (nI p) (-1) 0) = some (v, mr M0 (nI q) (nI q) o) := by
  intro k
  induction k with
  | zero => intro m i p gv gives _ h1 h2 h3; omega
  | succ k ih =>
    intro m i p gv gives hm hi hip hp hz
    obtain ⟨m, rfl⟩ : ∃ m', m = m' + 1 + 1 := ⟨m - 2, by omega⟩
    have h120 := hx.2.1
    have hE : ∀ q v o a b, q ≤ n → X11_workOut_L33 a1 a2 KW (m + 1) a b 0 (mr M0 (nI q) (nI q) o) = some (b, mr M0 (nI q) (nI q) o) ∧ (v : Int32) = v := by
      intro q v o a b hq
      refine ⟨?_, rfl⟩
      rw [X11_workOut_L33, if_pos rfl]
      unfold KW
      rw [mr_30, i_nneg (by omega)]
    have hF : ∀ q v o s, q ≤ n → X11_workOut_b74 a1 a2 (X11_workOut_L33 a1 a2 KW (m + 1)) KW gv gives v s (mr M0 (nI q) (nI q) o) = some (gives, mr M0 (nI q) (nI q) o) := by
      intro q v o s hq
      unfold X11_workOut_b74 X11_workOut_b96
      rw [mr_30, i_nneg (by omega), i_nneg (by omega), takes_f M0 (by omega), bd_s, (hE q 0 o gv gives hq).1]
    have hG : ∀ q (gv' gives' : Int32), q ≤ n → ¬ q < n → X11_workOut_b96 a1 a2 (X11_workOut_L33 a1 a2 KW (m + 1)) KW gv' gives' (mr M0 (nI q) (-1) 0) = some (gives', mr M0 (nI q) (-1) 0) := by
      intro q gv' gives' hq hqn
      unfold X11_workOut_b96
      rw [takes_n hx hq (fun h => hqn (tb_lt (by rw [h]; decide))), bd_s, X11_workOut_L33, if_pos rfl]
      unfold KW
      rw [mr_30, i_m1, mr_28, mr_o _ _ _ _ 29 (by decide) (by decide) (by decide), hx.1, i_ltP (by omega) (by omega), if_neg hqn]
    have hH : ∀ q (gv' gives' : Int32), q < n → tb x n q ≠ 59 → X11_workOut_b96 a1 a2 (X11_workOut_L33 a1 a2 KW (m + 1)) KW gv' gives' (mr M0 (nI q) (-1) 0) = some (0, mr M0 (nI q) (nI q) 0) := by
      intro q gv' gives' hq h59
      unfold X11_workOut_b96
      rw [takes_n hx (by omega) h59, bd_s, X11_workOut_L33, if_pos rfl]
      unfold KW
      rw [mr_30, i_m1, mr_28, mr_o _ _ _ _ 29 (by decide) (by decide) (by decide), hx.1, i_ltP (by omega) (by omega), if_pos hq, w_wrong, bd_s]
    have hI : ∀ q (gv' gives' : Int32), q < n → tb x n q = 59 → X11_workOut_b96 a1 a2 (X11_workOut_L33 a1 a2 KW (m + 1)) KW gv' gives' (mr M0 (nI q) (-1) 0) = X11_workOut_L33 a1 a2 KW (m + 1) gv' gives' 1 (mr M0 (nI (q + 1)) (-1) 0) := by
      intro q gv' gives' hq h59
      unfold X11_workOut_b96
      rw [takes_y hx (by omega) h59, bd_s]
    -- what follows a line that gives gv', gives'
    have hJ : ∀ q (l : List stp) (gv' gives' : Int32), p < q → q ≤ n → (gv' = 0 → gives' = 0) → (∀ R : List stp, (if gv' = 0 then exT (M0.1 100) R [] false else gives') = if gv = 0 then exT (M0.1 100) (l ++ R) [] false else gives) → match (if q < n then
          if tb x n q = 59 then
            match pT x n k (q + 1) with
            | (none, r) => (none, r)
            | (some R, r) => (some (l ++ R), r)
          else (none, q)
        else (some l, q)) with
      | (some R, q2) => X11_workOut_b96 a1 a2 (X11_workOut_L33 a1 a2 KW (m + 1)) KW gv' gives' (mr M0 (nI q) (-1) 0) = some (if gv = 0 then exT (M0.1 100) R [] false else gives, mr M0 (nI q2) (-1) 0) ∧ q2 = n
      | (none, q2) => q2 ≤ n ∧ ∃ v o, X11_workOut_b96 a1 a2 (X11_workOut_L33 a1 a2 KW (m + 1)) KW gv' gives' (mr M0 (nI q) (-1) 0) = some (v, mr M0 (nI q2) (nI q2) o) := by
      intro q l gv' gives' hpq hq hz' hgg
      by_cases hqn : q < n
      · rw [if_pos hqn]
        by_cases h59 : tb x n q = 59
        · rw [if_pos h59, hI q gv' gives' hqn h59]
          have h1 := ih (m + 1) (i + 1) (q + 1) gv' gives' (by omega) (by omega) (by omega) (by omega) hz'
          rcases hr : pT x n k (q + 1) with ⟨_ | R, r⟩
          · rw [hr] at h1
            exact h1
          · rw [hr] at h1
            simp only at h1 ⊢
            rw [← hgg R]
            exact h1
        · rw [if_neg h59, hH q gv' gives' hqn h59]
          exact ⟨by omega, _, _, rfl⟩
      · rw [if_neg hqn, hG q gv' gives' hq hqn]
        have h2 := hgg []
        rw [List.append_nil] at h2
        refine ⟨?_, by omega⟩
        rw [← h2]
        by_cases h0 : gv' = 0
        · rw [if_pos h0, hz' h0]
          rfl
        · rw [if_neg h0]
    rw [X11_workOut_L33, if_neg (by decide), pT]
    unfold X11_either pL
    have hR := fun p' (hp' : p' ≤ n) => rf_S hx 42 0 0 p' 100 (by omega) (by omega) (by omega) (by omega) hp'
    have h0 := hR p hp
    have h9 := gdR_S x n 42 0 0 p (by omega) (by omega) hp
    rw [show kd 0 = 2 from rfl] at h0
    rcases hq : pS x n 42 0 0 p with ⟨_ | l, q⟩
    · rw [hq] at h0 h9
      obtain ⟨v, o, h0⟩ := h0
      have g2 := h9.2.1
      simp only at g2 ⊢
      rw [← n0] at h0
      rw [h0, bd_s, takes_f M0 (by omega), bd_s, i_00, hF q v o 1 g2]
      exact ⟨g2, _, _, rfl⟩
    · rw [hq] at h0 h9
      have h0' : G_X11_both 100 2 (mr M0 (nI p) (-1) 0) = some (vS (M0.1 100) l, mr M0 (nI q) (-1) 0) := h0
      have g1 := h9.1
      have g2 := h9.2.1
      obtain ⟨⟨g3, g3'⟩, g4, g5⟩ := h9.2.2 l rfl
      simp only at g1 g2 g3 ⊢
      rw [h0', bd_s]
      by_cases h63 : tb x n q = 63
      · have hq1 : q < n := tb_lt fun e => by rw [e] at h63; exact absurd h63 (by decide)
        rw [takes_y hx g2 h63, bd_s, i_10, if_pos h63]
        unfold X11_workOut_b66 X11_either
        have k0 := hR (q + 1) hq1
        have k9 := gdR_S x n 42 0 0 (q + 1) (by omega) (by omega) hq1
        rw [show kd 0 = 2 from rfl] at k0
        rcases hr : pS x n 42 0 0 (q + 1) with ⟨_ | l2, r⟩
        · rw [hr] at k0 k9
          obtain ⟨v, o, k0⟩ := k0
          have m2 := k9.2.1
          simp only at m2 ⊢
          rw [← n0] at k0
          rw [k0, bd_s, hF r v o _ m2]
          exact ⟨m2, _, _, rfl⟩
        · rw [hr] at k0 k9
          have k0' : G_X11_both 100 2 (mr M0 (nI (q + 1)) (-1) 0) = some (vS (M0.1 100) l2, mr M0 (nI r) (-1) 0) := k0
          have m1 := k9.1
          have m2 := k9.2.1
          obtain ⟨⟨m3, m3'⟩, m4, m5⟩ := k9.2.2 l2 rfl
          simp only at m1 m2 m3 ⊢
          rw [k0', bd_s]
          unfold X11_workOut_b74
          rw [mr_30, i_m1, i_m1]
          refine hJ r _ _ _ (by omega) m2 ?_ fun R => ?_
          · by_cases hv : vS (M0.1 100) l = 0
            · rw [if_pos hv, i_00, i_00]; exact hz
            · rw [if_neg hv, i_10, i_10]
              by_cases hg : gv = 0
              · rw [if_pos hg]; exact fun h => absurd h (by decide)
              · rw [if_neg hg]; exact fun h => absurd h hg
          · rw [show (l ++ (63, 0) :: (l2 ++ [(59, 0)])) ++ R = l ++ (63, 0) :: (l2 ++ (59, 0) :: R) by simp, exT_l2 (M0.1 100) (exG_le g5 (Nat.zero_le _)) g4 (exG_le m5 (Nat.zero_le _)) m4]
            by_cases hv : vS (M0.1 100) l = 0
            · rw [if_pos hv, i_00, i_00, if_pos hv]
            · rw [if_neg hv, i_10, i_10, if_neg hv]
              by_cases hg : gv = 0
              · simp only [if_pos hg]; exact i_10 _ _
              · simp only [if_neg hg]
      · rw [takes_n hx g2 h63, bd_s, i_00, if_neg h63]
        unfold X11_workOut_b74
        rw [mr_30, i_m1, i_m1, i_10, i_10]
        refine hJ q _ _ _ (by omega) g2 ?_ fun R => ?_
        · by_cases hg : gv = 0
          · rw [if_pos hg]; exact fun h => absurd h (by decide)
          · rw [if_neg hg]; exact fun h => absurd h hg
        · rw [show (l ++ [(59, 0)]) ++ R = l ++ (59, 0) :: R by simp, exT_l1 (M0.1 100) (exG_le g5 (Nat.zero_le _)) g4]
          by_cases hg : gv = 0
          · simp only [if_pos hg]; exact i_10 _ _
          · simp only [if_neg hg]
