/-! ===== the first side reads a text ===== -/
theorem n242 : (242 : Int32) = nI 242 := rfl
theorem n3600 : (3600 : Int32) = nI 3600 := rfl
theorem i_ltP {α : Type} {a b : Nat} (ha : a < 2 ^ 31) (hb : b < 2 ^ 31) (x y : α) : (if nI a < nI b then x else y) = if a < b then x else y := by
  have e := n_lt ha hb
  by_cases h : a < b
  · rw [if_pos h, if_pos (by rw [e]; exact h)]
  · rw [if_neg h, if_neg (by rw [e]; exact h)]
theorem i_eqP {α : Type} {a b : Nat} (ha : a < 2 ^ 31) (hb : b < 2 ^ 31) (x y : α) : (if nI a = nI b then x else y) = if a = b then x else y := by
  have e := n_eq ha hb
  by_cases h : a = b
  · rw [if_pos h, if_pos (by rw [e]; exact h)]
  · rw [if_neg h, if_neg (by rw [e]; exact h)]
theorem i_nneg {α : Type} {q : Nat} (h : q < 2 ^ 31) (x y : α) : (if nI q < 0 then x else y) = y := by
  rw [n0, i_ltP h (by omega), if_neg (by omega)]
theorem i_P {α : Type} {p q : Prop} [Decidable p] [Decidable q] (e : p = q) (x y : α) : (if p then x else y) = if q then x else y := by
  by_cases h : q
  · rw [if_pos h, if_pos (by rw [e]; exact h)]
  · rw [if_neg h, if_neg (by rw [e]; exact h)]
theorem n41 : (41 : Int32) = nI 41 := rfl
theorem upd_upd (f : Nat → Int32) (k : Nat) (a b : Int32) : upd (upd f k a) k b = upd f k b := by
  funext j
  rw [upd_a, upd_a, upd_a]
  split <;> rfl
theorem mm_ext {M M' : mm} (h1 : ∀ k, M.1 k = M'.1 k) (h2 : M.2 = M'.2) : M = M' := Prod.ext (funext h1) h2
def mc (M0 : mm) (p : Nat) (L : List stp) : mm := sA (sA (sA (sA M0 11 (upd (M0.1 11) 2 (nI p))) 13 (upd (M0.1 13) 0 (nI L.length))) 14 (fun i => if i < L.length then (L.getD i (0, 0)).1 else M0.1 14 i)) 15 (fun i => if i < L.length then (L.getD i (0, 0)).2 else M0.1 15 i)
theorem mc_at (M0 : mm) (p : Nat) (L : List stp) : (mc M0 p L).1 11 2 = nI p := by
  unfold mc
  simp (disch := decide) only [sA_n, sA_s, upd_s]
theorem mc_len (M0 : mm) (p : Nat) (L : List stp) : (mc M0 p L).1 11 1 = M0.1 11 1 := by
  unfold mc
  simp (disch := decide) only [sA_n, sA_s, upd_n]
theorem mc_sz (M0 : mm) (p : Nat) (L : List stp) : (mc M0 p L).1 13 0 = nI L.length := by
  unfold mc
  simp (disch := decide) only [sA_n, sA_s, upd_s]
theorem mc_k (M0 : mm) (p : Nat) (L : List stp) (k : Nat) (h : k ≠ 11) (h2 : k ≠ 13) (h3 : k ≠ 14) (h4 : k ≠ 15) : (mc M0 p L).1 k = M0.1 k := by
  unfold mc
  rw [sA_n _ _ _ _ h4, sA_n _ _ _ _ h3, sA_n _ _ _ _ h2, sA_n _ _ _ _ h]
theorem mc_2 (M0 : mm) (p : Nat) (L : List stp) : (mc M0 p L).2 = M0.2 := rfl
theorem mc_go (M0 : mm) (p q : Nat) (L : List stp) : sA (mc M0 p L) 11 (upd ((mc M0 p L).1 11) 2 (nI q)) = mc M0 q L := by
  refine mm_ext (fun k => ?_) rfl
  by_cases h : k = 11
  · subst h
    rw [sA_s]
    unfold mc
    simp (disch := decide) only [sA_n, sA_s, upd_upd]
  · rw [sA_n _ _ _ _ h]
    unfold mc
    simp only [sA_1, if_neg h]
theorem mc_go1 (M0 : mm) (p : Nat) (L : List stp) : sA (mc M0 p L) 11 (upd ((mc M0 p L).1 11) 2 ((mc M0 p L).1 11 2 + 1)) = mc M0 (p + 1) L := by
  rw [mc_at, nI_1, mc_go]
theorem i_10 {α : Type} (x y : α) : (if (1 : Int32) = 0 then x else y) = y := rfl
theorem i_00 {α : Type} (x y : α) : (if (0 : Int32) = 0 then x else y) = x := rfl
theorem getD_l {l r : List stp} {i : Nat} (h : i < l.length) : (l ++ r).getD i (0, 0) = l.getD i (0, 0) := by
  rw [List.getD_eq_getElem?_getD, List.getD_eq_getElem?_getD, List.getElem?_append_left h]
theorem getD_r {l : List stp} {s : stp} : (l ++ [s]).getD l.length (0, 0) = s := by
  rw [List.getD_eq_getElem?_getD, List.getElem?_append_right (Nat.le_refl _)]
  simp
theorem ar_add {β : Type} (g : stp → Int32) (f : Nat → Int32) (L : List stp) (s : stp) (a : Int32) (ha : g s = a) : upd (fun i => if i < L.length then g (L.getD i (0, 0)) else f i) L.length a = fun i => if i < (L ++ [s]).length then g ((L ++ [s]).getD i (0, 0)) else f i := by
  funext i
  have hl : (L ++ [s]).length = L.length + 1 := by simp
  rw [upd_a, hl]
  by_cases h : i = L.length
  · subst h
    rw [if_pos rfl, if_pos (by omega), getD_r, ha]
  · rw [if_neg h]
    by_cases h2 : i < L.length
    · rw [if_pos h2, if_pos (by omega), getD_l h2]
    · rw [if_neg h2, if_neg (by omega)]
theorem mc_add {M0 : mm} {p : Nat} {L : List stp} (hL : L.length < 242) (s w : Int32) : X7_add 13 s w (mc M0 p L) = some ((), mc M0 p (L ++ [(s, w)])) := by
  unfold X7_add
  rw [show isO 7 13 = true from by decide, gd_t, mc_sz]
  simp (disch := omega) only [n242, n_lt, hL, if_true, n_inb, n_cl, gd_t, lt_s_]
  have e1 : (sA (mc M0 p L) (13 + 1) (upd ((mc M0 p L).1 (13 + 1)) L.length s)).1 13 0 = nI L.length := by
    rw [sA_n _ _ _ _ (by decide), mc_sz]
  rw [e1]
  simp (disch := omega) only [n_inb, n_cl, gd_t]
  refine congrArg some (Prod.ext rfl ?_)
  refine mm_ext (fun k => ?_) rfl
  simp only [show 13 + 1 = 14 from rfl, show 13 + 2 = 15 from rfl]
  by_cases h13 : k = 13
  · subst h13
    rw [sA_s]
    unfold mc
    simp (disch := decide) only [sA_n, sA_s, upd_s, upd_upd]
    rw [n1, n_add]
    simp
  · rw [sA_n _ _ _ _ h13]
    by_cases h15 : k = 15
    · subst h15
      rw [sA_s, sA_n _ _ _ _ (by decide)]
      unfold mc
      simp only [sA_s]
      exact ar_add (β := Nat) (fun s => s.2) (M0.1 15) L (s, w) w rfl
    · rw [sA_n _ _ _ _ h15]
      by_cases h14 : k = 14
      · subst h14
        rw [sA_s]
        unfold mc
        simp (disch := decide) only [sA_s, sA_n]
        exact ar_add (β := Nat) (fun s => s.1) (M0.1 14) L (s, w) s rfl
      · rw [sA_n _ _ _ _ h14]
        unfold mc
        simp only [sA_1, if_neg h13, if_neg h14, if_neg h15]
/-- the text that is read -/
def TXc (M0 : mm) (x : Nat → Int32) (n : Nat) : Prop := M0.1 11 1 = nI n ∧ n ≤ 120 ∧ M0.2.2 0 = 10 ∧ x = M0.1 10
def nb (x : Nat → Int32) (n p : Nat) : Int32 := if p < n then x p else -1
theorem nb_tb {x : Nat → Int32} {n p : Nat} (h : p < n) : nb x n p = tb x n p := by
  unfold nb tb
  rw [if_pos h, if_pos h]
theorem nb_c (x : Nat → Int32) (n p : Nat) : nb x n p = tb x n p ∨ (nb x n p = -1 ∧ tb x n p = 0) := by
  unfold nb tb
  by_cases h : p < n
  · rw [if_pos h, if_pos h]; exact Or.inl rfl
  · rw [if_neg h, if_neg h]; exact Or.inr ⟨rfl, rfl⟩
theorem nb_eq {x : Nat → Int32} {n p : Nat} {c : Int32} (h0 : c ≠ 0) (h1 : c ≠ -1) : (nb x n p = c) = (tb x n p = c) := by
  rcases nb_c x n p with h | ⟨h, h'⟩
  · rw [h]
  · rw [h, h']
    exact propext ⟨fun e => absurd e.symm h1, fun e => absurd e.symm h0⟩
theorem nb_lt (x : Nat → Int32) (n p : Nat) : (nb x n p < 48) = (tb x n p < 48) := by
  rcases nb_c x n p with h | ⟨h, h'⟩
  · rw [h]
  · rw [h, h']
    exact propext ⟨fun _ => by decide, fun _ => by decide⟩
theorem nb_gt (x : Nat → Int32) (n p : Nat) : (57 < nb x n p) = (57 < tb x n p) := by
  rcases nb_c x n p with h | ⟨h, h'⟩
  · rw [h]
  · rw [h, h']
    exact propext ⟨fun e => absurd e (by decide), fun e => absurd e (by decide)⟩
theorem w_next {M0 : mm} {x : Nat → Int32} {n p : Nat} (hx : TXc M0 x n) (hp : p ≤ n) (L : List stp) : X5_next (mc M0 p L) = some (nb x n p, mc M0 p L) := by
  obtain ⟨h1, h2, h3, h4⟩ := hx
  unfold X5_next nb
  rw [mc_at, mc_len, h1, mc_2, h3, h4, mc_k _ _ _ 10 (by decide) (by decide) (by decide) (by decide), show isA 0 10 = true from by decide, show alN 10 = 120 from by decide]
  rw [n0, i_ltP (by omega) (by omega), if_neg (by omega), i_ltP (by omega) (by omega)]
  by_cases h : p < n
  · rw [if_pos h, if_pos h, gd_t, n_inb (by omega) (by omega), gd_t, n_cl (by omega)]
  · rw [if_neg h, if_neg h]
theorem w_levelOf (c : Int32) (M : mm) : X5_levelOf c M = some (nI (lvO c), M) := by
  by_cases h1 : c = 37
  · subst h1; rfl
  by_cases h2 : c = 38
  · subst h2; rfl
  by_cases h3 : c = 42
  · subst h3; rfl
  by_cases h4 : c = 43
  · subst h4; rfl
  by_cases h5 : c = 45
  · subst h5; rfl
  by_cases h6 : c = 47
  · subst h6; rfl
  by_cases h7 : c = 60
  · subst h7; rfl
  by_cases h8 : c = 61
  · subst h8; rfl
  by_cases h9 : c = 62
  · subst h9; rfl
  by_cases h10 : c = 124
  · subst h10; rfl
  unfold X5_levelOf lvO
  rw [if_neg h1, if_neg h2, if_neg h3, if_neg h4, if_neg h5, if_neg h6, if_neg h7, if_neg h8, if_neg h9, if_neg h10, if_neg h10, if_neg h2, if_neg h7, if_neg h8, if_neg h9, if_neg h4, if_neg h5, if_neg h3, if_neg h6, if_neg h1]
  rfl
theorem lvO_nb (x : Nat → Int32) (n p : Nat) : lvO (nb x n p) = lvO (tb x n p) := by
  rcases nb_c x n p with h | ⟨h, h'⟩
  · rw [h]
  · rw [h, h']; decide
theorem lvO_le (c : Int32) : lvO c ≤ 5 := by
  unfold lvO
  repeat' split
  all_goals decide
theorem w_num {M0 : mm} {x : Nat → Int32} {n : Nat} (hx : TXc M0 x n) (L : List stp) (K : Int32 → mm → Option (Int32 × mm)) : ∀ k m p v, k ≤ 4 → k < m → p ≤ n → X5_number_L4 K m v (nI (4 - k)) (mc M0 p L) = K (dg x n k p v).2 (mc M0 (dg x n k p v).1 L) := by
  intro k
  induction k with
  | zero =>
    intro m p v _ hm hp
    obtain ⟨m, rfl⟩ : ∃ m', m = m' + 1 := ⟨m - 1, by omega⟩
    rw [X5_number_L4, n4, i_ltP (by omega) (by omega), if_neg (by omega)]
    rfl
  | succ k ih =>
    intro m p v hk hm hp
    obtain ⟨m, rfl⟩ : ∃ m', m = m' + 1 := ⟨m - 1, by omega⟩
    rw [X5_number_L4, n4, i_ltP (by omega) (by omega), if_pos (by omega)]
    simp only [w_next hx hp, bd_s, nb_lt, nb_gt, lt_s_]
    rw [dg]
    by_cases h1 : tb x n p < 48
    · rw [if_pos h1, if_pos h1]
    · rw [if_neg h1, if_neg h1]
      by_cases h2 : 57 < tb x n p
      · rw [if_pos h2, if_pos h2]
      · rw [if_neg h2, if_neg h2]
        have hp1 : p < n := tb_lt fun q => h1 (by rw [q]; decide)
        rw [mc_go1, nb_tb hp1, nI_1, show 4 - (k + 1) + 1 = 4 - k from by omega]
        exact ih m (p + 1) _ (by omega) (by omega) (by omega)
/-- the first side's answer beside what is read -/
def CP (M0 : mm) (r : Option (List stp) × Nat) (L : List stp) (y : Option (Int32 × mm)) : Prop := match r with
  | (some l, q) => y = some (1, mc M0 q (L ++ l))
  | (none, q) => ∃ L', y = some (0, mc M0 q L')
theorem cb_lp {M0 : mm} {x : Nat → Int32} {n f lv op : Nat} (hx : TXc M0 x n) (hlv : lv < 5) (hop : op ≤ 6) {rec : Nat → Int32 → Int32 → mm → Option (Int32 × mm)} (hr : ∀ p L, p ≤ n → L.length ≤ p → CP M0 (pS x n f (lv + 1) op p) L (rec 0 (nI (lv + 1)) (nI op) (mc M0 p L))) : ∀ k m i p L acc, k < m → p ≤ n → (L ++ acc).length ≤ p → i + k < 2 ^ 31 → CP M0 (pLp x n (pS x n f (lv + 1) op) lv k p acc) L (X5_binary_L41 rec (nI lv) (nI op) m (nI (i + k)) (nI i) (mc M0 p (L ++ acc))) := by
  intro k
  induction k with
  | zero =>
    intro m i p L acc hm hp hL hi
    obtain ⟨m, rfl⟩ : ∃ m', m = m' + 1 := ⟨m - 1, by omega⟩
    rw [X5_binary_L41, i_ltP (by omega) (by omega), if_neg (by omega)]
    rfl
  | succ k ih =>
    intro m i p L acc hm hp hL hi
    obtain ⟨m, rfl⟩ : ∃ m', m = m' + 1 := ⟨m - 1, by omega⟩
    have h120 := hx.2.1
    rw [X5_binary_L41, i_ltP (by omega) (by omega), if_pos (by omega), w_next hx hp, bd_s, w_levelOf, bd_s, lvO_nb]
    have hle := lvO_le (tb x n p)
    rw [pLp, i_eqP (by omega) (by omega)]
    by_cases hc : lvO (tb x n p) = lv
    · rw [if_pos hc, if_pos hc, lt_s_, mc_go1, nI_1]
      have hp1 := tb_op hc hlv
      have h0 := hr (p + 1) (L ++ acc) (by omega) (by omega)
      have h9 := gdR_S x n f (lv + 1) op (p + 1) hop (by omega) (by omega)
      rcases hq : pS x n f (lv + 1) op (p + 1) with ⟨_ | l, q⟩
      · rw [hq] at h0
        obtain ⟨L', h0⟩ := h0
        rw [h0, bd_s, i_00]
        exact ⟨L', rfl⟩
      · rw [hq] at h0 h9
        have h0' : rec 0 (nI (lv + 1)) (nI op) (mc M0 (p + 1) (L ++ acc)) = some (1, mc M0 q (L ++ acc ++ l)) := h0
        have g1 := h9.1
        have g2 := h9.2.1
        have g3 := (h9.2.2 l rfl).1.1
        simp only at g1 g2 g3
        have hL2 : (L ++ acc ++ l).length ≤ q := by
          rw [List.length_append]; omega
        rw [h0', bd_s, i_10, mc_add (by omega), bd_s, nb_tb hp1]
        have e1 : L ++ acc ++ l ++ [(tb x n p, 0)] = L ++ (acc ++ (l ++ [(tb x n p, 0)])) := by simp
        rw [nI_1, e1, show i + (k + 1) = (i + 1) + k from by omega]
        refine ih m (i + 1) q L _ (by omega) g2 ?_ (by omega)
        rw [← e1, List.length_append]
        simp only [List.length_singleton]
        have := (h9.2.2 l rfl).1.1
        simp only at this
        simp only [List.length_append] at hL ⊢
        omega
    · rw [if_neg hc, if_neg hc]
      rfl
/-- an operand, out of what is read deeper -/
theorem cb_op {M0 : mm} {x : Nat → Int32} {n f op : Nat} (hx : TXc M0 x n) (hop : op ≤ 6) {rec : Nat → Int32 → Int32 → mm → Option (Int32 × mm)} (hr : ∀ lv p L, op < 6 → (lv = 0 ∨ lv = 5) → p ≤ n → L.length ≤ p → CP M0 (pS x n f lv (op + 1) p) L (rec (if lv = 0 then 0 else 1) (if lv = 0 then 0 else nI (op + 1)) (if lv = 0 then nI (op + 1) else 0) (mc M0 p L))) : ∀ p L, p ≤ n → L.length ≤ p → CP M0 (pS x n (f + 1) 5 op p) L (X5_operand_B rec (nI op) (mc M0 p L)) := by
  intro p L hp hL
  have h120 := hx.2.1
  unfold X5_operand_B
  rw [w_next hx hp, bd_s, i_P (nb_lt x n p), i_P (nb_gt x n p), pS, if_neg (by omega)]
  by_cases hd : ¬ tb x n p < 48 ∧ ¬ 57 < tb x n p
  · rw [if_neg hd.1, if_neg hd.2, if_pos hd]
    unfold X5_number
    have h0 := w_num hx L (fun x1 M => X5_number_b56 x1 M) 4 10000 p 0 (by omega) (by omega) hp
    rw [show nI (4 - 4) = 0 from rfl] at h0
    rw [h0]
    unfold X5_number_b56
    rw [mc_add (by omega), bd_s, bd_s]
    rfl
  · rw [if_neg hd]
    have e : ∀ y : Option (Int32 × mm), (if tb x n p < 48 then X5_operand_b22 rec (nI op) (nb x n p) (mc M0 p L) else if 57 < tb x n p then X5_operand_b22 rec (nI op) (nb x n p) (mc M0 p L) else y) = X5_operand_b22 rec (nI op) (nb x n p) (mc M0 p L) := by
      intro y
      by_cases h1 : tb x n p < 48
      · rw [if_pos h1]
      · rw [if_neg h1]
        by_cases h2 : 57 < tb x n p
        · rw [if_pos h2]
        · exact absurd ⟨h1, h2⟩ hd
    rw [e]
    unfold X5_operand_b22
    rw [i_P (nb_eq (c := 115) (by decide) (by decide)), i_P (nb_eq (c := 116) (by decide) (by decide)), i_P (nb_eq (c := 97) (by decide) (by decide)), i_P (nb_eq (c := 108) (by decide) (by decide)), i_P (nb_eq (c := 40) (by decide) (by decide)), i_P (nb_eq (c := 33) (by decide) (by decide)), i_P (nb_eq (c := 45) (by decide) (by decide))]
    have hb46 : p < n → X5_operand_b46 rec (nI op) (nb x n p) (mc M0 p L) = some (1, mc M0 (p + 1) (L ++ [(tb x n p, 0)])) := by
      intro hp1
      unfold X5_operand_b46
      rw [lt_s_, mc_go1, mc_add (by omega), bd_s, nb_tb hp1]
    have hpl : ∀ c : Int32, c ≠ 0 → tb x n p = c → p < n := fun c h0 h => tb_lt (by rw [h]; exact h0)
    by_cases h115 : tb x n p = 115
    · rw [if_pos h115, if_pos (Or.inl h115), hb46 (hpl _ (by decide) h115)]; rfl
    rw [if_neg h115]
    by_cases h116 : tb x n p = 116
    · rw [if_pos h116, if_pos (Or.inr (Or.inl h116)), hb46 (hpl _ (by decide) h116)]; rfl
    rw [if_neg h116]
    by_cases h97 : tb x n p = 97
    · rw [if_pos h97, if_pos (Or.inr (Or.inr (Or.inl h97))), hb46 (hpl _ (by decide) h97)]; rfl
    rw [if_neg h97]
    by_cases h108 : tb x n p = 108
    · rw [if_pos h108, if_pos (Or.inr (Or.inr (Or.inr h108))), hb46 (hpl _ (by decide) h108)]; rfl
    rw [if_neg h108, if_neg (by rintro (h | h | h | h) <;> contradiction), n6, i_ltP (by omega) (by omega)]
    by_cases hop6 : op < 6
    · rw [if_pos hop6]
      by_cases hc : tb x n p = 40 ∨ tb x n p = 33 ∨ tb x n p = 45
      · rw [if_pos ⟨hop6, hc⟩]
        have hp1 : p < n := by rcases hc with h | h | h <;> exact hpl _ (by decide) h
        have e2 : ∀ y : Option (Int32 × mm), (if tb x n p = 40 then X5_operand_b93 rec (nI op) (nb x n p) (mc M0 p L) else if tb x n p = 33 then X5_operand_b93 rec (nI op) (nb x n p) (mc M0 p L) else if tb x n p = 45 then X5_operand_b93 rec (nI op) (nb x n p) (mc M0 p L) else y) = X5_operand_b93 rec (nI op) (nb x n p) (mc M0 p L) := by
          intro y
          repeat' split
          all_goals first | rfl | skip
          rcases hc with h | h | h <;> contradiction
        rw [e2]
        unfold X5_operand_b93
        rw [lt_s_, mc_go1, nI_1, i_P (nb_eq (c := 40) (by decide) (by decide)), i_P (nb_eq (c := 45) (by decide) (by decide))]
        by_cases h40 : tb x n p = 40
        · rw [if_pos h40, if_pos h40]
          have h0 := hr 0 (p + 1) L hop6 (Or.inl rfl) (by omega) (by omega)
          have h9 := gdR_S x n f 0 (op + 1) (p + 1) (by omega) (by omega) (by omega)
          rw [if_pos rfl, if_pos rfl, if_pos rfl] at h0
          rcases hq : pS x n f 0 (op + 1) (p + 1) with ⟨_ | l, q⟩
          · rw [hq] at h0
            obtain ⟨L', h0⟩ := h0
            rw [h0, bd_s, i_00]
            exact ⟨L', rfl⟩
          · rw [hq] at h0 h9
            have h0' : rec 0 0 (nI (op + 1)) (mc M0 (p + 1) L) = some (1, mc M0 q (L ++ l)) := h0
            have g2 := h9.2.1
            simp only at g2 ⊢
            rw [h0', bd_s, i_10, w_next hx g2, bd_s, i_P (nb_eq (c := 41) (by decide) (by decide))]
            by_cases h41 : tb x n q = 41
            · rw [if_pos h41, if_pos h41, lt_s_, mc_go1]
              rfl
            · rw [if_neg h41, if_neg h41]
              exact ⟨_, rfl⟩
        · rw [if_neg h40, if_neg h40]
          have h0 := hr 5 (p + 1) L hop6 (Or.inr rfl) (by omega) (by omega)
          have h9 := gdR_S x n f 5 (op + 1) (p + 1) (by omega) (by omega) (by omega)
          rw [if_neg (by decide), if_neg (by decide), if_neg (by decide)] at h0
          rcases hq : pS x n f 5 (op + 1) (p + 1) with ⟨_ | l, q⟩
          · rw [hq] at h0
            obtain ⟨L', h0⟩ := h0
            rw [h0, bd_s, i_00]
            exact ⟨L', rfl⟩
          · rw [hq] at h0 h9
            have h0' : rec 1 (nI (op + 1)) 0 (mc M0 (p + 1) L) = some (1, mc M0 q (L ++ l)) := h0
            have g2 := h9.2.1
            have g3 := (h9.2.2 l rfl).1.1
            simp only at g2 g3
            rw [h0', bd_s, i_10]
            unfold X5_operand_b171
            rw [mc_add (by rw [List.length_append]; omega), bd_s, nb_tb hp1, List.append_assoc]
            rfl
      · rw [if_neg fun q => hc q.2]
        have e2 : ∀ y z w : Option (Int32 × mm), (if tb x n p = 40 then y else if tb x n p = 33 then z else if tb x n p = 45 then w else some (0, mc M0 p L)) = some (0, mc M0 p L) := by
          intro y z w
          repeat' split
          all_goals first | rfl | (exfalso; apply hc; simp only [*, true_or, or_true]; done) | skip
        rw [e2]
        exact ⟨L, rfl⟩
    · rw [if_neg hop6, if_neg fun q => hop6 q.1]
      exact ⟨L, rfl⟩
theorem cb_S {M0 : mm} {x : Nat → Int32} {n : Nat} (hx : TXc M0 x n) : ∀ f lv op p L, 6 * (6 - op) + (5 - lv) < f → op ≤ 6 → lv ≤ 5 → p ≤ n → L.length ≤ p → (∀ g, 2 * f ≤ g → CP M0 (pS x n f lv op p) L (G_X5_binary g 0 (nI lv) (nI op) (mc M0 p L))) ∧ (lv = 5 → ∀ g, 2 * f ≤ g + 1 → CP M0 (pS x n f lv op p) L (G_X5_binary g 1 (nI op) 0 (mc M0 p L))) := by
  intro f
  induction f with
  | zero => intro lv op p L h; omega
  | succ f ih =>
    intro lv op p L hf hop hlv hp hL
    have h120 := hx.2.1
    have B : lv = 5 → ∀ g, 2 * (f + 1) ≤ g + 1 → CP M0 (pS x n (f + 1) lv op p) L (G_X5_binary g 1 (nI op) 0 (mc M0 p L)) := by
      intro h5 g hg
      subst h5
      obtain ⟨g, rfl⟩ : ∃ g', g = g' + 1 := ⟨g - 1, by omega⟩
      show CP M0 _ L (X5_operand_B (G_X5_binary g) (nI op) (mc M0 p L))
      refine cb_op hx hop ?_ p L hp hL
      intro lv p' L' h6 hlv' hp' hL'
      rcases hlv' with rfl | rfl
      · exact (ih 0 (op + 1) p' L' (by omega) (by omega) (by omega) hp' hL').1 g (by omega)
      · exact (ih 5 (op + 1) p' L' (by omega) (by omega) (by omega) hp' hL').2 rfl g (by omega)
    refine ⟨fun g hg => ?_, B⟩
    obtain ⟨g, rfl⟩ : ∃ g', g = g' + 1 := ⟨g - 1, by omega⟩
    show CP M0 _ L (X5_binary_B (G_X5_binary g) (nI lv) (nI op) (mc M0 p L))
    unfold X5_binary_B
    rw [n5, i_ltP (by omega) (by omega)]
    by_cases h5 : lv < 5
    · rw [if_pos h5, nI_1]
      have hr := fun p' L' hp' hL' => (ih (lv + 1) op p' L' (by omega) hop (by omega) hp' hL').1 g (by omega)
      have h0 := hr p L hp hL
      have h9 := gdR_S x n f (lv + 1) op p hop (by omega) hp
      rw [pS, if_pos h5]
      rcases hq : pS x n f (lv + 1) op p with ⟨_ | l, q⟩
      · rw [hq] at h0
        obtain ⟨L', h0⟩ := h0
        rw [h0, bd_s, i_00]
        exact ⟨L', rfl⟩
      · rw [hq] at h0 h9
        have h0' : G_X5_binary g 0 (nI (lv + 1)) (nI op) (mc M0 p L) = some (1, mc M0 q (L ++ l)) := h0
        have g2 := h9.2.1
        have g3 := (h9.2.2 l rfl).1.1
        simp only at g2 g3 ⊢
        rw [h0', bd_s, i_10]
        unfold X5_binary_b37
        have e : (if nI lv = 2 then (1 : Int32) else (mc M0 q (L ++ l)).1 11 1) = nI (0 + if lv = 2 then 1 else n) := by
          rw [mc_len, hx.1, n2, i_eqP (by omega) (by omega)]
          by_cases h2 : lv = 2
          · rw [if_pos h2, if_pos h2]; rfl
          · rw [if_neg h2, if_neg h2, Nat.zero_add]
        rw [e]
        exact cb_lp hx h5 hop hr _ 10000 0 q L l (by split <;> omega) g2 (by rw [List.length_append]; omega) (by split <;> omega)
    · rw [if_neg h5]
      obtain rfl : lv = 5 := by omega
      have h0 := B rfl g (by omega)
      rcases hq : pS x n (f + 1) 5 op p with ⟨_ | l, q⟩
      · rw [hq] at h0
        obtain ⟨L', h0⟩ := h0
        rw [h0, bd_s]
        exact ⟨L', rfl⟩
      · rw [hq] at h0
        have h0' : G_X5_binary g 1 (nI op) 0 (mc M0 p L) = some (1, mc M0 q (L ++ l)) := h0
        rw [h0', bd_s]
        rfl
theorem cb_line {M0 : mm} {x : Nat → Int32} {n p : Nat} (hx : TXc M0 x n) {L : List stp} (hp : p ≤ n) (hL : L.length ≤ p) : CP M0 (pL x n p) L (X5_line (mc M0 p L)) := by
  have h120 := hx.2.1
  unfold X5_line X5_binary pL
  have hr := fun p' L' (hp' : p' ≤ n) (hL' : L'.length ≤ p') => (cb_S hx 42 0 0 p' L' (by omega) (by omega) (by omega) hp' hL').1 100 (by omega)
  have h0 := hr p L hp hL
  have h9 := gdR_S x n 42 0 0 p (by omega) (by omega) hp
  rcases hq : pS x n 42 0 0 p with ⟨_ | l, q⟩
  · rw [hq] at h0
    obtain ⟨L', h0⟩ := h0
    simp only [← n0] at h0
    rw [h0, bd_s, i_00]
    exact ⟨L', rfl⟩
  · rw [hq] at h0 h9
    have h0' : G_X5_binary 100 0 0 0 (mc M0 p L) = some (1, mc M0 q (L ++ l)) := h0
    have g2 := h9.2.1
    have g3 := (h9.2.2 l rfl).1.1
    simp only at g2 g3 ⊢
    rw [h0', bd_s, i_10, w_next hx g2, bd_s, i_P (nb_eq (c := 63) (by decide) (by decide))]
    by_cases h63 : tb x n q = 63
    · have hq1 : q < n := tb_lt fun e => by rw [e] at h63; exact absurd h63 (by decide)
      rw [if_pos h63, if_pos h63, lt_s_, mc_go1, mc_add (by rw [List.length_append]; omega), bd_s]
      have k0 := hr (q + 1) (L ++ l ++ [(63, 0)]) (by omega) (by rw [List.length_append, List.length_append]; simp only [List.length_singleton]; omega)
      have k9 := gdR_S x n 42 0 0 (q + 1) (by omega) (by omega) (by omega)
      rcases hr2 : pS x n 42 0 0 (q + 1) with ⟨_ | l2, r⟩
      · rw [hr2] at k0
        obtain ⟨L', k0⟩ := k0
        simp only [← n0] at k0
        rw [k0, bd_s, i_00]
        exact ⟨L', rfl⟩
      · rw [hr2] at k0 k9
        have k0' : G_X5_binary 100 0 0 0 (mc M0 (q + 1) (L ++ l ++ [(63, 0)])) = some (1, mc M0 r (L ++ l ++ [(63, 0)] ++ l2)) := k0
        have m2 := k9.2.1
        have m3 := (k9.2.2 l2 rfl).1.1
        simp only at m2 m3 ⊢
        rw [k0', bd_s, i_10]
        unfold X5_line_b51
        rw [mc_add (by simp only [List.length_append, List.length_singleton]; omega), bd_s]
        show some _ = some _
        congr 3
        simp
    · rw [if_neg h63, if_neg h63]
      unfold X5_line_b51
      rw [mc_add (by rw [List.length_append]; omega), bd_s, List.append_assoc]
      rfl
theorem cb_read {M0 : mm} {x : Nat → Int32} {n : Nat} (hx : TXc M0 x n) (a1 : Nat) (a2 : Int32) : ∀ k m i p L, k < m → i + k = n + 1 → i ≤ p → p ≤ n → L.length ≤ p → match pT x n k p with
    | (some R, q) => X5_read_L30 a1 a2 m (nI i) (mc M0 p L) = some (-1, mc M0 q (L ++ R)) ∧ q = n
    | (none, q) => q ≤ n ∧ ∃ L', X5_read_L30 a1 a2 m (nI i) (mc M0 p L) = some (nI q, mc M0 q L') := by
  intro k
  induction k with
  | zero => intro m i p L _ h h1 h2; omega
  | succ k ih =>
    intro m i p L hm hi hip hp hL
    obtain ⟨m, rfl⟩ : ∃ m', m = m' + 1 := ⟨m - 1, by omega⟩
    have h120 := hx.2.1
    rw [X5_read_L30, mc_len, hx.1, i_ltP (by omega) (by omega), if_neg (by omega), pT]
    have h0 := cb_line hx hp hL
    have h9 := pL_ok (x := x) hp
    rcases hq : pL x n p with ⟨_ | l, q⟩
    · rw [hq] at h0 h9
      obtain ⟨L', h0⟩ := h0
      simp only
      rw [h0, bd_s, i_00, mc_at]
      exact ⟨h9.2.1, L', rfl⟩
    · rw [hq] at h0 h9
      have h0' : X5_line (mc M0 p L) = some (1, mc M0 q (L ++ l)) := h0
      obtain ⟨g1, g2, g3⟩ := h9
      obtain ⟨g4, g5, -⟩ := g3 l rfl
      simp only at g1 g2 g4 g5 ⊢
      rw [h0', bd_s, i_10, mc_at, mc_len, hx.1, i_ltP (by omega) (by omega)]
      by_cases hqn : q < n
      · rw [if_pos hqn, if_pos hqn, w_next hx g2, bd_s, i_P (nb_eq (c := 59) (by decide) (by decide))]
        by_cases h59 : tb x n q = 59
        · rw [if_pos h59, if_pos h59, lt_s_, mc_go1, nI_1]
          have h1 := ih m (i + 1) (q + 1) (L ++ l) (by omega) (by omega) (by omega) (by omega) (by rw [List.length_append]; omega)
          rcases hr : pT x n k (q + 1) with ⟨_ | R, r⟩
          · rw [hr] at h1
            exact h1
          · rw [hr] at h1
            simp only at h1 ⊢
            rw [← List.append_assoc]
            exact h1
        · rw [if_neg h59, if_neg h59, mc_at]
          exact ⟨g2, _, rfl⟩
      · rw [if_neg hqn, if_neg hqn]
        exact ⟨rfl, by omega⟩
