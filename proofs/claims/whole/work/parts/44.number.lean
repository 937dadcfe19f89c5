/-! ===== the law's number, on both sides ===== -/
theorem ex1_congr {nm nm' : Nat → Int32} (h : ∀ i, i < 4 → nm i = nm' i) (c : stp) (st : List Int32) : ex1 nm c st = ex1 nm' c st := by
  unfold ex1
  rw [h 0 (by omega), h 1 (by omega), h 2 (by omega), h 3 (by omega)]
theorem exT_congr {nm nm' : Nat → Int32} (h : ∀ i, i < 4 → nm i = nm' i) (l : List stp) : ∀ st b, exT nm l st b = exT nm' l st b := by
  induction l with
  | nil => intro st b; cases b <;> rfl
  | cons c l ih =>
    intro st b
    cases b with
    | true => rw [exT_t, exT_t]; exact ih st _
    | false =>
      rw [exT_f, exT_f, ex1_congr h]
      by_cases h48 : st.length < 48
      · rw [if_pos h48, if_pos h48]
        by_cases h59 : c.1 = 59
        · rw [if_pos h59, if_pos h59]
        · rw [if_neg h59, if_neg h59]
          by_cases h63 : c.1 = 63
          · rw [if_pos h63, if_pos h63]
            cases st with
            | nil => rfl
            | cons a r => exact ih r _
          · rw [if_neg h63, if_neg h63]
            cases ex1 nm' c st with
            | none => rfl
            | some s => exact ih s _
      · rw [if_neg h48, if_neg h48]
def nmO (s t a l : Int32) : Nat → Int32 := fun i => if i = 0 then s else if i = 1 then t else if i = 2 then a else l
/-- the number as it is worked out -/
def wO (O : Option (List stp)) (s t a l : Int32) : Int32 := match O with
  | none => 7 - 2 * s
  | some R => exT (nmO s t a l) R [] false
def cl12 (v : Int32) : Nat := if v < 0 then 0 else if 12 < v then 12 else v.toInt.toNat
def wn (O : Option (List stp)) (s t a l : Nat) : Nat := cl12 (wO O (nI s) (nI t) (nI a) (nI l))
theorem z32_12 : (12 : Int32).toInt = 12 := by decide
theorem cl12_le (v : Int32) : cl12 v ≤ 12 := by
  unfold cl12
  split
  · omega
  · split
    · omega
    · next h1 h2 =>
      rw [q_lt, z32_12] at h2
      omega
theorem wn_le (O : Option (List stp)) (s t a l : Nat) : wn O s t a l ≤ 12 := cl12_le _
theorem cl12_b (v : Int32) (M : mm) (a1 a2 a3 a4 : Int32) : X11_numberOf_b55 a1 a2 a3 a4 v M = some (nI (cl12 v), M) := by
  unfold X11_numberOf_b55 cl12
  by_cases h : v < 0
  · rw [if_pos h, if_pos h]; rfl
  · rw [if_neg h, if_neg h]
    by_cases h2 : 12 < v
    · rw [if_pos h2, if_pos h2]; rfl
    · rw [if_neg h2, if_neg h2]
      rw [q_lt, z32_0] at h
      rw [q_lt, z32_12] at h2
      refine congrArg (fun z => some (z, M)) ?_
      rw [q_eq, nI_toInt (by omega)]
      omega
theorem cl12_a (v : Int32) : (if 0 < (if v < 12 then v else 12) then (if v < 12 then v else 12) else 0) = nI (cl12 v) := by
  unfold cl12
  by_cases h : v < 0
  · have h12 : v < 12 := by
      rw [q_lt, z32_0] at h
      rw [q_lt, z32_12]; omega
    have h0 : ¬ 0 < v := by
      rw [q_lt, z32_0] at h
      rw [q_lt, z32_0]; omega
    rw [if_pos h12, if_neg h0, if_pos h]; rfl
  · rw [if_neg h]
    by_cases h2 : 12 < v
    · have h12 : ¬ v < 12 := by
        rw [q_lt, z32_12] at h2
        rw [q_lt, z32_12]; omega
      rw [if_neg h12, if_pos h2]; rfl
    · rw [if_neg h2]
      rw [q_lt, z32_0] at h
      rw [q_lt, z32_12] at h2
      have hw : v.toInt.toNat ≤ 12 := by omega
      have e : v = nI v.toInt.toNat := by
        rw [q_eq, nI_toInt (by omega)]; omega
      generalize v.toInt.toNat = w at e hw
      subst e
      rw [show (12 : Int32) = nI 12 from rfl, show (0 : Int32) = nI 0 from rfl, i_ltP (by omega) (by omega)]
      by_cases h12 : w < 12
      · rw [if_pos h12, i_ltP (by omega) (by omega)]
        by_cases h0 : 0 < w
        · rw [if_pos h0]
        · rw [if_neg h0]
          obtain rfl : w = 0 := by omega
          rfl
      · rw [if_neg h12, i_ltP (by omega) (by omega), if_pos (by omega)]
        obtain rfl : w = 12 := by omega
        rfl
theorem nar_k : ∀ k, k ≤ 12 → vp_nar .byte ((nI k + 1).toInt8.toInt32) = nI (k + 1)
  | 0, _ => rfl
  | 1, _ => rfl
  | 2, _ => rfl
  | 3, _ => rfl
  | 4, _ => rfl
  | 5, _ => rfl
  | 6, _ => rfl
  | 7, _ => rfl
  | 8, _ => rfl
  | 9, _ => rfl
  | 10, _ => rfl
  | 11, _ => rfl
  | 12, _ => rfl
  | n + 13, h => absurd h (by omega)
def lawA (O : Option (List stp)) (Ma : mm) : Prop := match O with
  | none => Ma.1 16 0 = 0
  | some R => 0 < R.length ∧ R.length ≤ 242 ∧ Ma.1 16 0 = nI R.length ∧ ∀ i, i < R.length → Ma.1 17 i = (R.getD i (0, 0)).1 ∧ Ma.1 18 i = (R.getD i (0, 0)).2
def lawB (O : Option (List stp)) (Mb : mm) : Prop := match O with
  | none => Mb.1 82 26 = -1
  | some R => ∃ n, n ≤ 120 ∧ Mb.1 82 26 = nI n ∧ pT (Mb.1 99) n (n + 1) 0 = (some R, n)
/-- the cell of what was found -/
def fo (t s a l : Nat) : Nat := ((t * 3 + s - 1) * 100 + a) * 2 + l
def rFo (O : Option (List stp)) (Ma : mm) : Prop := ∀ t s a l, t < 6 → 1 ≤ s → s ≤ 3 → a ≤ 99 → l ≤ 1 → Ma.1 20 (fo t s a l) = 0 ∨ Ma.1 20 (fo t s a l) = nI (wn O s t a l + 1)
/-- but for one cell, as before -/
def Eq1 (k0 : Nat) (M M' : mm) : Prop := M'.2 = M.2 ∧ ∀ k, k ≠ k0 → M'.1 k = M.1 k
theorem Eq1_r (k0 : Nat) (M : mm) : Eq1 k0 M M := ⟨rfl, fun _ _ => rfl⟩
theorem Eq1_A {k0 : Nat} {M M' : mm} (h : Eq1 k0 M M') (f : Nat → Int32) : Eq1 k0 M (sA M' k0 f) := ⟨h.1, fun k hk => by rw [sA_n _ _ _ _ hk]; exact h.2 k hk⟩
/-- the numbers held -/
def hSt (st : List Int32) (M : mm) : Prop := ∀ j, j < st.length → M.1 19 j = st.getD (st.length - 1 - j) 0
theorem hSt_push {st : List Int32} {M : mm} (h : hSt st M) (v : Int32) : hSt (v :: st) (sA M 19 (upd (M.1 19) st.length v)) := by
  intro j hj
  rw [sA_s, upd_a]
  simp only [List.length_cons] at hj
  by_cases hjl : j = st.length
  · subst hjl
    simp
  · rw [if_neg hjl, h j (by omega)]
    simp only [List.length_cons]
    rw [show st.length + 1 - 1 - j = (st.length - 1 - j) + 1 from by omega]
    simp
theorem hSt_top {a : Int32} {st : List Int32} {M : mm} (h : hSt (a :: st) M) : M.1 19 st.length = a := by
  rw [h st.length (by simp)]
  simp
theorem hSt_pop {a : Int32} {st : List Int32} {M : mm} (h : hSt (a :: st) M) : hSt st M := by
  intro j hj
  rw [h j (by simp; omega)]
  simp only [List.length_cons]
  rw [show st.length + 1 - 1 - j = (st.length - 1 - j) + 1 from by omega]
  simp
theorem nI_m1 (a : Nat) : nI (a + 1) + -1 = nI a := by
  have h := nI_pred a
  rw [Int32.sub_eq_add_neg] at h
  exact h
def tp1 (v : Int32 → Int32) : List Int32 → Option (List Int32)
  | a :: r => some (v a :: r)
  | [] => none
def tp2 (v : Int32 → Int32 → Int32) : List Int32 → Option (List Int32)
  | b :: a :: r => some (v a b :: r)
  | _ => none
def oxT (nm : Nat → Int32) (l : List stp) : Option (List Int32) → Int32
  | none => 0
  | some st' => exT nm l st' false
theorem exT_g (nm : Nat → Int32) (c : stp) (l : List stp) (st : List Int32) : exT nm (c :: l) st false = if st.length < 48 then
      if c.1 = 59 then st.headD 0
      else if c.1 = 63 then (match st with | [] => 0 | a :: r => exT nm l r (decide (a = 0)))
      else oxT nm l (ex1 nm c st)
    else 0 := by
  rw [exT_f]
  cases ex1 nm c st <;> rfl
theorem ex1_33 (nm : Nat → Int32) {c : stp} {st : List Int32} (h48 : st.length < 48) (h : c.1 = 33) : ex1 nm c st = tp1 (fun a => if a = 0 then 1 else 0) st := by
  unfold ex1
  rw [if_pos h48, h]
  cases st <;> rfl
theorem ex1_126 (nm : Nat → Int32) {c : stp} {st : List Int32} (h48 : st.length < 48) (h : c.1 = 126) : ex1 nm c st = tp1 (fun a => -a) st := by
  unfold ex1
  rw [if_pos h48, h]
  cases st <;> rfl
theorem ex1_2 (nm : Nat → Int32) {c : stp} {st : List Int32} (h48 : st.length < 48) (h0 : ¬ c.1 = 48) (h1 : ¬ c.1 = 115) (h2 : ¬ c.1 = 116) (h3 : ¬ c.1 = 97) (h4 : ¬ c.1 = 108) (h5 : ¬ c.1 = 126) (h6 : ¬ c.1 = 33) : ex1 nm c st = tp2 (j2 c.1) st := by
  unfold ex1
  rw [if_pos h48, if_neg h0, if_neg h1, if_neg h2, if_neg h3, if_neg h4, if_neg h5, if_neg h6]
  match st with
  | [] => rfl
  | [b] => rfl
  | b :: a :: r => rfl
def KZ (x5 : Int32) (M : mm) : Option (Int32 × mm) :=
  if 0 < x5 then
    gd (inb (x5 - 1) 48) <|
    some ((M.1 19 (x5 - 1).toNatClampNeg), M)
  else
    some (0, M)
theorem wk_A {R : List stp} {nm : Nat → Int32} {t s a l : Int32} {M0 : mm} (hn0 : nm 0 = s) (hn1 : nm 1 = t) (hn2 : nm 2 = a) (hn3 : nm 3 = l) (hA : lawA (some R) M0) : ∀ k m i st (sk : Bool) M, i + k = R.length → k < m → Eq1 19 M0 M → hSt st M → st.length ≤ 48 → ∃ M', X8_workOut_L9 t s a l KZ m (nI st.length) (if sk = true then 1 else 0) (nI i) M = some (exT nm (R.drop i) st sk, M') ∧ Eq1 19 M0 M' := by
  obtain ⟨hA1, hA2, hA3, hA4⟩ := hA
  intro k
  induction k with
  | zero =>
    intro m i st sk M hi hm hE hS hl
    obtain ⟨m, rfl⟩ : ∃ m', m = m' + 1 := ⟨m - 1, by omega⟩
    rw [X8_workOut_L9, hE.2 16 (by decide), hA3, i_ltP (by omega) (by omega), if_neg (by omega), List.drop_of_length_le (by omega)]
    refine ⟨M, ?_, hE⟩
    cases sk <;> rfl
  | succ k ih =>
    intro m i st sk M hi hm hE hS hl
    obtain ⟨m, rfl⟩ : ∃ m', m = m' + 1 := ⟨m - 1, by omega⟩
    have hd : R.drop i = R.getD i (0, 0) :: R.drop (i + 1) := by
      rw [List.drop_eq_getElem_cons (by omega), List.getD_eq_getElem?_getD, List.getElem?_eq_getElem (by omega)]
      rfl
    have e1 : M.1 (16 + 1) (nI i).toNatClampNeg = (R.getD i (0, 0)).1 := by
      rw [n_cl (by omega), hE.2 17 (by decide)]
      exact (hA4 i (by omega)).1
    have e2 : M.1 (16 + 2) (nI i).toNatClampNeg = (R.getD i (0, 0)).2 := by
      rw [n_cl (by omega), hE.2 18 (by decide)]
      exact (hA4 i (by omega)).2
    rw [hd]
    generalize R.getD i (0, 0) = c at e1 e2
    rw [X8_workOut_L9, hE.2 16 (by decide), hA3, i_ltP (by omega) (by omega), if_pos (by omega), n_inb (by omega) (by omega), gd_t]
    cases sk with
    | true =>
      rw [if_pos rfl, i_10, e1, exT_t]
      show ∃ M', X8_workOut_L9 t s a l KZ m (nI st.length) (if c.1 = 59 then 0 else 1) (nI i + 1) M = _ ∧ _
      have h := ih m (i + 1) st (decide (c.1 ≠ 59)) M (by omega) (by omega) hE hS hl
      rw [nI_1]
      by_cases h59 : c.1 = 59
      · rw [if_pos h59]
        rw [decide_eq_false (by simp [h59])] at h ⊢
        exact h
      · rw [if_neg h59]
        rw [decide_eq_true h59] at h ⊢
        exact h
    | false =>
      rw [if_neg (show ¬ (false = true) from fun h => nomatch h), i_00, exT_g, e1, e2]
      by_cases h48 : st.length < 48
      · rw [show (48 : Int32) = nI 48 from rfl, i_ltP (by omega) (by omega), if_pos h48, if_pos h48]
        rw [show nI 48 = 48 from rfl]
        have push : ∀ v : Int32, ∃ M', X8_workOut_L9 t s a l KZ m (nI st.length + 1) 0 (nI i + 1) (sA M 19 (upd (M.1 19) (nI st.length).toNatClampNeg v)) = some (exT nm (R.drop (i + 1)) (v :: st) false, M') ∧ Eq1 19 M0 M' := by
          intro v
          rw [n_cl (by omega), nI_1, nI_1]
          exact ih m (i + 1) (v :: st) false _ (by omega) (by omega) (Eq1_A hE _) (hSt_push hS v) (by simp; omega)
        have ib : inb (nI st.length) 48 = true := n_inb h48 (by omega)
        -- a sign that works on the top
        have one : ∀ (v : Int32 → Int32) (y : Option (Int32 × mm)), (∀ b r, st = b :: r → y = gd (inb (nI st.length - 1) 48) (X8_workOut_b331 t s a l (X8_workOut_L9 t s a l KZ m) KZ (nI st.length) 0 (nI i) (nI st.length - 1) (v b) M)) → ∃ M', (if nI st.length < 1 then some (0, M) else y) = some (oxT nm (R.drop (i + 1)) (tp1 v st), M') ∧ Eq1 19 M0 M' := by
          intro v y hy
          cases st with
          | nil => exact ⟨M, rfl, hE⟩
          | cons b r =>
            rw [hy b r rfl]
            rw [List.length_cons] at h48 hl ⊢
            rw [n1, i_ltP (by omega) (by omega), if_neg (by omega), ← n1, nI_pred, n_inb (by omega) (by omega), gd_t]
            unfold X8_workOut_b331
            rw [n_inb (by omega) (by omega), gd_t, lt_s_, n_cl (by omega)]
            have h := ih m (i + 1) (v b :: r) false _ (by omega) (by omega) (Eq1_A hE _) (hSt_push (hSt_pop hS) (v b)) (by simp; omega)
            rw [List.length_cons, ← nI_1 i] at h
            exact h
        by_cases h33 : c.1 = 33
        · rw [if_pos h33, if_neg (c := c.1 = 59) (by rw [h33]; decide), if_neg (c := c.1 = 63) (by rw [h33]; decide), ex1_33 nm h48 h33]
          refine one (fun a => if a = 0 then 1 else 0) _ fun b r hbr => ?_
          rw [if_neg (c := c.1 = 126) (by rw [h33]; decide)]
          have e3 : M.1 19 (nI st.length - 1).toNatClampNeg = b := by
            subst hbr
            rw [List.length_cons] at h48
            rw [List.length_cons, nI_pred, n_cl (by omega), hSt_top hS]
          rw [e3]
        rw [if_neg h33]
        by_cases h0 : c.1 = 48
        · have hx : ex1 nm c st = some (c.2 :: st) := by
            unfold ex1
            rw [if_pos h48, if_pos h0]
          rw [if_pos h0, if_neg (c := c.1 = 59) (by rw [h0]; decide), if_neg (c := c.1 = 63) (by rw [h0]; decide), hx, gd_t, ib, gd_t]
          exact push c.2
        rw [if_neg h0]
        by_cases h59 : c.1 = 59
        · rw [if_pos h59, if_pos h59]
          unfold KZ
          cases st with
          | nil => exact ⟨M, rfl, hE⟩
          | cons b r =>
            rw [List.length_cons] at h48 ⊢
            rw [n0, i_ltP (by omega) (by omega), if_pos (by omega), nI_pred, n_inb (by omega) (by omega), gd_t, n_cl (by omega), hSt_top hS]
            exact ⟨M, rfl, hE⟩
        rw [if_neg h59, if_neg h59]
        by_cases h63 : c.1 = 63
        · rw [if_pos h63, if_pos h63]
          cases st with
          | nil => exact ⟨M, rfl, hE⟩
          | cons b r =>
            rw [List.length_cons] at h48 hl ⊢
            have e3 := nI_m1 r.length
            rw [n1, i_ltP (by omega) (by omega), if_neg (by omega), ← n1, e3, n_inb (by omega) (by omega), gd_t, n_cl (by omega), hSt_top hS]
            have h := ih m (i + 1) r (decide (b = 0)) M (by omega) (by omega) hE (hSt_pop hS) (by omega)
            show ∃ M', X8_workOut_L9 t s a l KZ m (nI r.length) (if b = 0 then 1 else 0) (nI i + 1) M = some (exT nm (R.drop (i + 1)) r (decide (b = 0)), M') ∧ _
            rw [nI_1]
            by_cases hb : b = 0
            · rw [if_pos hb]
              rw [decide_eq_true hb] at h ⊢
              exact h
            · rw [if_neg hb]
              rw [decide_eq_false hb] at h ⊢
              exact h
        rw [if_neg h63, if_neg h63]
        by_cases h97 : c.1 = 97
        · have hx : ex1 nm c st = some (a :: st) := by
            unfold ex1
            rw [if_pos h48, h97, hn2]
            rfl
          rw [if_pos h97, hx, ib, gd_t]
          exact push a
        rw [if_neg h97]
        by_cases h108 : c.1 = 108
        · have hx : ex1 nm c st = some (l :: st) := by
            unfold ex1
            rw [if_pos h48, h108, hn3]
            rfl
          rw [if_pos h108, hx, ib, gd_t]
          exact push l
        rw [if_neg h108]
        by_cases h115 : c.1 = 115
        · have hx : ex1 nm c st = some (s :: st) := by
            unfold ex1
            rw [if_pos h48, h115, hn0]
            rfl
          rw [if_pos h115, hx, ib, gd_t]
          exact push s
        rw [if_neg h115]
        by_cases h116 : c.1 = 116
        · have hx : ex1 nm c st = some (t :: st) := by
            unfold ex1
            rw [if_pos h48, h116, hn1]
            rfl
          rw [if_pos h116, hx, ib, gd_t]
          exact push t
        rw [if_neg h116]
        by_cases h126 : c.1 = 126
        · rw [if_pos h126, ex1_126 nm h48 h126]
          refine one (fun a => -a) _ fun b r hbr => ?_
          rw [if_pos h126]
          have e3 : M.1 19 (nI st.length - 1).toNatClampNeg = b := by
            subst hbr
            rw [List.length_cons] at h48
            rw [List.length_cons, nI_pred, n_cl (by omega), hSt_top hS]
          rw [e3]
        rw [if_neg h126]
        rw [ex1_2 nm h48 h0 h115 h116 h97 h108 h126 h33]
        cases st with
        | nil => exact ⟨M, rfl, hE⟩
        | cons b r =>
          cases r with
          | nil => exact ⟨M, rfl, hE⟩
          | cons a' r =>
            rw [List.length_cons, List.length_cons] at h48 hl ⊢
            have e3 := nI_m1 (r.length + 1)
            have e4 : M.1 19 (r.length + 1) = b := hSt_top hS
            have e5 : M.1 19 r.length = a' := hSt_top (hSt_pop hS)
            rw [n2, i_ltP (by omega) (by omega), if_neg (by omega), e3, nI_pred, n_inb (by omega) (by omega), gd_t, n_inb (by omega) (by omega), gd_t, w_joined, bd_s, gd_t, lt_s_, n_cl (by omega), n_cl (by omega), e4, e5]
            have h := ih m (i + 1) (j2 c.1 a' b :: r) false _ (by omega) (by omega) (Eq1_A hE _) (hSt_push (hSt_pop (hSt_pop hS)) (j2 c.1 a' b)) (by simp; omega)
            rw [List.length_cons, ← nI_1 i] at h
            exact h
      · rw [show (48 : Int32) = nI 48 from rfl, i_ltP (by omega) (by omega), if_neg h48, if_neg h48]
        exact ⟨M, rfl, hE⟩
