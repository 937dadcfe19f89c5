/-! ===== the text: what is read out of it, as rows of signs ===== -/
/-- a byte of the text; 0 behind it -/
def tb (x : Nat → Int32) (n p : Nat) : Int32 := if p < n then x p else 0
abbrev stp : Type := Int32 × Int32
def lvO (c : Int32) : Nat := if c = 124 then 0 else if c = 38 then 1 else if c = 60 then 2 else if c = 61 then 2 else if c = 62 then 2 else if c = 43 then 3 else if c = 45 then 3 else if c = 42 then 4 else if c = 47 then 4 else if c = 37 then 4 else 5
def dg (x : Nat → Int32) (n : Nat) : Nat → Nat → Int32 → Nat × Int32
  | 0, p, v => (p, v)
  | k + 1, p, v => if tb x n p < 48 then (p, v) else if 57 < tb x n p then (p, v) else dg x n k (p + 1) (v * 10 + tb x n p - 48)
def pLp (x : Nat → Int32) (n : Nat) (rec : Nat → Option (List stp) × Nat) (lv : Nat) : Nat → Nat → List stp → Option (List stp) × Nat
  | 0, p, acc => (some acc, p)
  | k + 1, p, acc =>
    if lvO (tb x n p) = lv then
      match rec (p + 1) with
      | (none, q) => (none, q)
      | (some l, q) => pLp x n rec lv k q (acc ++ (l ++ [(tb x n p, 0)]))
    else (some acc, p)
/-- levels 0 .. 4 (E A B S P), 5 (O) from place p on, op brackets and signs being taken -/
def pS (x : Nat → Int32) (n : Nat) : Nat → Nat → Nat → Nat → Option (List stp) × Nat
  | 0, _, _, p => (none, p)
  | f + 1, lv, op, p =>
    if lv < 5 then
      match pS x n f (lv + 1) op p with
      | (none, q) => (none, q)
      | (some l, q) => pLp x n (pS x n f (lv + 1) op) lv (if lv = 2 then 1 else n) q l
    else
      if ¬ tb x n p < 48 ∧ ¬ 57 < tb x n p then (some [(48, (dg x n 4 p 0).2)], (dg x n 4 p 0).1)
      else if tb x n p = 115 ∨ tb x n p = 116 ∨ tb x n p = 97 ∨ tb x n p = 108 then (some [(tb x n p, 0)], p + 1)
      else if op < 6 ∧ (tb x n p = 40 ∨ tb x n p = 33 ∨ tb x n p = 45) then
        if tb x n p = 40 then
          match pS x n f 0 (op + 1) (p + 1) with
          | (none, q) => (none, q)
          | (some l, q) => if tb x n q = 41 then (some l, q + 1) else (none, q)
        else
          match pS x n f 5 (op + 1) (p + 1) with
          | (none, q) => (none, q)
          | (some l, q) => (some (l ++ [(if tb x n p = 45 then 126 else tb x n p, 0)]), q)
      else (none, p)
def j2 (c a b : Int32) : Int32 :=
  if c = 38 then (if a = 0 then 0 else if b = 0 then 0 else 1) else
  if c = 42 then a * b else if c = 43 then a + b else if c = 45 then a - b else
  if c = 47 then (if b = 0 then 0 else a / b) else
  if c = 60 then (if a < b then 1 else 0) else
  if c = 61 then (if a = b then 1 else 0) else
  if c = 62 then (if b < a then 1 else 0) else
  if c = 124 then (if a = 0 then (if b = 0 then 0 else 1) else 1) else
  if b = 0 then 0 else a - a / b * b
theorem w_joined (c a b : Int32) (M : mm) : X8_joined c a b M = some (j2 c a b, M) := by
  unfold X8_joined j2 X8_joined_b92
  by_cases h38 : c = 38
  · rw [if_pos h38, if_pos h38]
    by_cases ha : a = 0
    · rw [if_pos ha, if_pos ha]
    · rw [if_neg ha, if_neg ha]
      by_cases hb : b = 0
      · rw [if_pos hb, if_pos hb]
      · rw [if_neg hb, if_neg hb]
  rw [if_neg h38, if_neg h38]
  by_cases h42 : c = 42
  · rw [if_pos h42, if_pos h42]
  rw [if_neg h42, if_neg h42]
  by_cases h43 : c = 43
  · rw [if_pos h43, if_pos h43]
  rw [if_neg h43, if_neg h43]
  by_cases h45 : c = 45
  · rw [if_pos h45, if_pos h45]
  rw [if_neg h45, if_neg h45]
  by_cases h47 : c = 47
  · rw [if_pos h47, if_pos h47]
    by_cases hb : b = 0
    · rw [if_pos hb, if_pos hb]
    · rw [if_neg hb, if_neg hb, decide_eq_true hb]; rfl
  rw [if_neg h47, if_neg h47]
  by_cases h60 : c = 60
  · rw [if_pos h60, if_pos h60]
    split <;> rfl
  rw [if_neg h60, if_neg h60]
  by_cases h61 : c = 61
  · rw [if_pos h61, if_pos h61]
    split <;> rfl
  rw [if_neg h61, if_neg h61]
  by_cases h62 : c = 62
  · rw [if_pos h62, if_pos h62]
    split <;> rfl
  rw [if_neg h62, if_neg h62]
  by_cases h124 : c = 124
  · rw [if_pos h124, if_pos h124]
    by_cases ha : a = 0
    · rw [if_pos ha, if_pos ha]
      by_cases hb : b = 0
      · rw [if_pos hb, if_pos hb]
      · rw [if_neg hb, if_neg hb]
    · rw [if_neg ha, if_neg ha]
  rw [if_neg h124, if_neg h124]
  by_cases hb : b = 0
  · rw [if_pos hb, if_pos hb]
  · rw [if_neg hb, if_neg hb, decide_eq_true hb]; rfl
def ex1 (nm : Nat → Int32) (c : stp) (st : List Int32) : Option (List Int32) :=
  if st.length < 48 then
    (if c.1 = 48 then some (c.2 :: st) else if c.1 = 115 then some (nm 0 :: st) else if c.1 = 116 then some (nm 1 :: st) else if c.1 = 97 then some (nm 2 :: st) else if c.1 = 108 then some (nm 3 :: st)
     else if c.1 = 126 then (match st with | a :: r => some (-a :: r) | [] => none)
     else if c.1 = 33 then (match st with | a :: r => some ((if a = 0 then 1 else 0) :: r) | [] => none)
     else (match st with | b :: a :: r => some (j2 c.1 a b :: r) | _ => none))
  else none
def exB (nm : Nat → Int32) : List stp → List Int32 → Option (List Int32)
  | [], st => some st
  | c :: l, st => (ex1 nm c st).bind (exB nm l)
theorem exB_app (nm : Nat → Int32) (l r : List stp) : ∀ st, exB nm (l ++ r) st = (exB nm l st).bind (exB nm r) := by
  induction l with
  | nil => intro st; rfl
  | cons c l ih =>
    intro st
    show (ex1 nm c st).bind (exB nm (l ++ r)) = ((ex1 nm c st).bind (exB nm l)).bind (exB nm r)
    cases ex1 nm c st with
    | none => rfl
    | some s => exact ih s
theorem lvO_ne {c : Int32} (h : lvO c < 5) : c ≠ 48 ∧ c ≠ 115 ∧ c ≠ 116 ∧ c ≠ 97 ∧ c ≠ 108 ∧ c ≠ 126 ∧ c ≠ 33 ∧ c ≠ 59 ∧ c ≠ 63 ∧ c ≠ 0 ∧ c ≠ -1 := by
  refine ⟨?_, ?_, ?_, ?_, ?_, ?_, ?_, ?_, ?_, ?_, ?_⟩ <;> (rintro rfl; exact absurd h (by decide))
theorem tb_lt {x : Nat → Int32} {n p : Nat} (h : tb x n p ≠ 0) : p < n := by
  unfold tb at h
  by_cases hp : p < n
  · exact hp
  · rw [if_neg hp] at h
    exact absurd rfl h
theorem tb_op {x : Nat → Int32} {n p lv : Nat} (h : lvO (tb x n p) = lv) (hl : lv < 5) : p < n := tb_lt (lvO_ne (show lvO (tb x n p) < 5 by omega)).2.2.2.2.2.2.2.2.2.1
theorem ex1_op (nm : Nat → Int32) {c a b : Int32} {st : List Int32} (h : lvO c < 5) (hs : st.length + 2 < 48) : ex1 nm (c, 0) (b :: a :: st) = some (j2 c a b :: st) := by
  obtain ⟨h1, h2, h3, h4, h5, h6, h7, -⟩ := lvO_ne h
  unfold ex1
  rw [if_pos (by simp; omega), if_neg h1, if_neg h2, if_neg h3, if_neg h4, if_neg h5, if_neg h6, if_neg h7]
/-- what a row of signs is worth -/
def vS (nm : Nat → Int32) (l : List stp) : Int32 := ((exB nm l []).getD []).headD 0
/-- from a stack of at most k a row of signs leads to one more -/
def exG (l : List stp) (k : Nat) : Prop := ∀ nm : Nat → Int32, ∀ st : List Int32, st.length ≤ k → exB nm l st = some (vS nm l :: st)
theorem exG_of {l : List stp} {k : Nat} (h : ∀ nm : Nat → Int32, ∃ v, ∀ st : List Int32, st.length ≤ k → exB nm l st = some (v :: st)) : exG l k := by
  intro nm st hs
  obtain ⟨v, hv⟩ := h nm
  have h0 := hv [] (Nat.zero_le _)
  have h1 : vS nm l = v := by
    unfold vS
    rw [h0]
    rfl
  rw [h1]
  exact hv st hs
theorem exG_op {acc l : List stp} {c : Int32} {k : Nat} (ha : exG acc k) (hl : exG l (k + 1)) (hc : lvO c < 5) (hk : k + 2 < 48) : exG (acc ++ (l ++ [(c, 0)])) k ∧ ∀ nm, vS nm (acc ++ (l ++ [(c, 0)])) = j2 c (vS nm acc) (vS nm l) := by
  have h : ∀ nm : Nat → Int32, ∀ st : List Int32, st.length ≤ k → exB nm (acc ++ (l ++ [(c, 0)])) st = some (j2 c (vS nm acc) (vS nm l) :: st) := by
    intro nm st hs
    rw [exB_app, ha nm st hs]
    show exB nm (l ++ [(c, 0)]) (vS nm acc :: st) = _
    rw [exB_app, hl nm _ (by simp; omega)]
    show (ex1 nm (c, 0) (vS nm l :: vS nm acc :: st)).bind (exB nm []) = _
    rw [ex1_op nm hc (by omega)]
    rfl
  refine ⟨exG_of fun nm => ⟨_, h nm⟩, fun nm => ?_⟩
  have h0 := h nm [] (Nat.zero_le _)
  unfold vS at h0 ⊢
  rw [h0]
  rfl
/-- what is read is good: within the text, no end of a line in it, of no more signs than bytes -/
def gdR (n op lv p0 : Nat) (r : Option (List stp) × Nat) : Prop := p0 ≤ r.2 ∧ r.2 ≤ n ∧ ∀ l, r.1 = some l → (l.length + p0 ≤ r.2 ∧ 0 < l.length) ∧ (∀ s ∈ l, s.1 ≠ 59 ∧ s.1 ≠ 63) ∧ exG l (5 * op + lv)
theorem gdR_none {n op lv p0 q : Nat} (h : p0 ≤ q) (h2 : q ≤ n) : gdR n op lv p0 (none, q) := ⟨h, h2, fun _ h => (nomatch h)⟩
theorem gdR_lp {x : Nat → Int32} {n op lv : Nat} (hop : op ≤ 6) (hlv : lv < 5) {rec : Nat → Option (List stp) × Nat} (hr : ∀ p, p ≤ n → gdR n op (lv + 1) p (rec p)) : ∀ k p0 p acc, gdR n op lv p0 (some acc, p) → gdR n op lv p0 (pLp x n rec lv k p acc) := by
  intro k
  induction k with
  | zero => intro p0 p acc h; exact h
  | succ k ih =>
    intro p0 p acc h
    rw [pLp]
    by_cases hc : lvO (tb x n p) = lv
    · rw [if_pos hc]
      have hp := tb_op hc hlv
      have h0 := hr (p + 1) (by omega)
      have hh := h.1
      simp only at hh
      rcases hq : rec (p + 1) with ⟨_ | l, q⟩
      · rw [hq] at h0
        have h1 := h0.1
        have h2 := h0.2.1
        simp only at h1 h2
        exact gdR_none (by omega) h2
      · rw [hq] at h0
        obtain ⟨g1, g2, g3⟩ := h0
        obtain ⟨⟨g4, g4'⟩, g5, g6⟩ := g3 l rfl
        obtain ⟨a1, a2, a3⟩ := h
        obtain ⟨⟨a4, a4'⟩, a5, a6⟩ := a3 acc rfl
        simp only at g1 g2 g4 a1 a2 a4
        refine ih p0 q _ ⟨by simp only; omega, g2, fun l' hl' => ?_⟩
        cases hl'
        refine ⟨⟨by simp; omega, by simp only [List.length_append, List.length_singleton]; omega⟩, fun s hs => ?_, (exG_op a6 g6 (by omega) (by omega)).1⟩
        rcases List.mem_append.mp hs with h | h
        · exact a5 s h
        · rcases List.mem_append.mp h with h | h
          · exact g5 s h
          · rw [List.mem_singleton.mp h]
            have := lvO_ne (c := tb x n p) (by omega)
            exact ⟨this.2.2.2.2.2.2.2.1, this.2.2.2.2.2.2.2.2.1⟩
    · rw [if_neg hc]
      exact h
theorem dg_ok (x : Nat → Int32) (n : Nat) : ∀ k p v, p ≤ n → p ≤ (dg x n k p v).1 ∧ (dg x n k p v).1 ≤ n := by
  intro k
  induction k with
  | zero => intro p v h; exact ⟨Nat.le_refl _, h⟩
  | succ k ih =>
    intro p v h
    rw [dg]
    split
    · exact ⟨Nat.le_refl _, h⟩
    · next h1 =>
      split
      · exact ⟨Nat.le_refl _, h⟩
      · have hp : p < n := tb_lt fun q => h1 (by rw [q]; decide)
        have := ih (p + 1) (v * 10 + tb x n p - 48) (by omega)
        exact ⟨by omega, this.2⟩
theorem exG_1 {c : stp} {k : Nat} (hk : k < 48) (h : ∀ nm : Nat → Int32, ∃ v, ∀ st : List Int32, st.length < 48 → ex1 nm c st = some (v :: st)) : exG [c] k := by
  refine exG_of fun nm => ?_
  obtain ⟨v, hv⟩ := h nm
  refine ⟨v, fun st hs => ?_⟩
  show (ex1 nm c st).bind (exB nm []) = _
  rw [hv st (by omega)]
  rfl
theorem exG_u {l : List stp} {c : Int32} {k : Nat} (hl : exG l k) (hk : k + 1 < 48) (hc : c = 126 ∨ c = 33) : exG (l ++ [(c, 0)]) k ∧ ∀ nm, vS nm (l ++ [(c, 0)]) = if c = 126 then -(vS nm l) else if vS nm l = 0 then 1 else 0 := by
  have h : ∀ nm : Nat → Int32, ∀ st : List Int32, st.length ≤ k → exB nm (l ++ [(c, 0)]) st = some ((if c = 126 then -(vS nm l) else if vS nm l = 0 then 1 else 0) :: st) := by
    intro nm st hs
    rw [exB_app, hl nm st hs]
    show (ex1 nm (c, 0) (vS nm l :: st)).bind (exB nm []) = _
    have h48 : (vS nm l :: st).length < 48 := by simp; omega
    rcases hc with rfl | rfl
    · unfold ex1
      rw [if_pos h48]
      rfl
    · unfold ex1
      rw [if_pos h48]
      rfl
  refine ⟨exG_of fun nm => ⟨_, h nm⟩, fun nm => ?_⟩
  have h0 := h nm [] (Nat.zero_le _)
  generalize (if c = 126 then -(vS nm l) else if vS nm l = 0 then 1 else 0) = w at h0 ⊢
  unfold vS
  rw [h0]
  rfl
theorem exG_le {l : List stp} {k k' : Nat} (h : exG l k) (hk : k' ≤ k) : exG l k' := fun nm st hs => h nm st (by omega)
theorem gdR_S (x : Nat → Int32) (n : Nat) : ∀ f lv op p, op ≤ 6 → lv ≤ 5 → p ≤ n → gdR n op lv p (pS x n f lv op p) := by
  intro f
  induction f with
  | zero => intro lv op p _ _ hp; exact gdR_none (Nat.le_refl _) hp
  | succ f ih =>
    intro lv op p hop hlv hp
    rw [pS]
    by_cases h5 : lv < 5
    · rw [if_pos h5]
      have h0 := ih (lv + 1) op p hop (by omega) hp
      rcases hq : pS x n f (lv + 1) op p with ⟨_ | l, q⟩
      · rw [hq] at h0
        exact gdR_none h0.1 h0.2.1
      · rw [hq] at h0
        refine gdR_lp hop h5 (fun p' hp' => ih (lv + 1) op p' hop (by omega) hp') _ p q l ⟨h0.1, h0.2.1, fun l' hl' => ?_⟩
        obtain ⟨g1, g2, g3⟩ := h0.2.2 l' hl'
        exact ⟨g1, g2, exG_le g3 (by omega)⟩
    · rw [if_neg h5]
      obtain rfl : lv = 5 := by omega
      split
      · next hd =>
        have hp1 : p < n := tb_lt fun q => hd.1 (by rw [q]; decide)
        have h1 : p + 1 ≤ (dg x n 4 p 0).1 ∧ (dg x n 4 p 0).1 ≤ n := by
          rw [dg, if_neg hd.1, if_neg hd.2]
          exact dg_ok x n 3 (p + 1) _ (by omega)
        refine ⟨by simp only; omega, h1.2, fun l hl => ?_⟩
        cases hl
        refine ⟨⟨by simp; omega, by simp⟩, fun s hs => ?_, exG_1 (by omega) fun nm => ⟨_, fun st hs => by unfold ex1; rw [if_pos hs]; rfl⟩⟩
        rw [List.mem_singleton.mp hs]
        exact ⟨(by decide : (48 : Int32) ≠ 59), (by decide : (48 : Int32) ≠ 63)⟩
      · split
        · next hd =>
          have hp1 : p < n := tb_lt fun q => by rw [q] at hd; exact absurd hd (by decide)
          refine ⟨by simp only; omega, by simp only; omega, fun l hl => ?_⟩
          cases hl
          refine ⟨⟨by simp; omega, by simp⟩, fun s hs => ?_, exG_1 (by omega) fun nm => ?_⟩
          · rw [List.mem_singleton.mp hs]
            rcases hd with h | h | h | h <;> (simp only [h]; exact ⟨by decide, by decide⟩)
          · rcases hd with h | h | h | h <;> (rw [h]; exact ⟨_, fun st hs => by unfold ex1; rw [if_pos hs]; rfl⟩)
        · split
          · next hd =>
            have hp1 : p < n := tb_lt fun q => by rw [q] at hd; exact absurd hd.2 (by decide)
            split
            · next h40 =>
              have h0 := ih 0 (op + 1) (p + 1) (by omega) (by omega) (by omega)
              rcases hq : pS x n f 0 (op + 1) (p + 1) with ⟨_ | l, q⟩
              · rw [hq] at h0
                have h1 := h0.1
                have h2 := h0.2.1
                simp only at h1 h2
                exact gdR_none (by omega) h2
              · rw [hq] at h0
                have h1 := h0.1
                have h2 := h0.2.1
                obtain ⟨⟨g1, g1'⟩, g2, g3⟩ := h0.2.2 l rfl
                simp only at h1 h2 g1
                by_cases h41 : tb x n q = 41
                · simp only [if_pos h41]
                  have hq1 : q < n := tb_lt fun e => by rw [e] at h41; exact absurd h41 (by decide)
                  refine ⟨by simp only; omega, by simp only; omega, fun l' hl' => ?_⟩
                  cases hl'
                  exact ⟨⟨by simp only; omega, g1'⟩, g2, exG_le g3 (by omega)⟩
                · simp only [if_neg h41]
                  exact gdR_none (by omega) h2
            · next h40 =>
              have h0 := ih 5 (op + 1) (p + 1) (by omega) (by omega) (by omega)
              rcases hq : pS x n f 5 (op + 1) (p + 1) with ⟨_ | l, q⟩
              · rw [hq] at h0
                have h1 := h0.1
                have h2 := h0.2.1
                simp only at h1 h2
                exact gdR_none (by omega) h2
              · rw [hq] at h0
                have h1 := h0.1
                have h2 := h0.2.1
                obtain ⟨⟨g1, g1'⟩, g2, g3⟩ := h0.2.2 l rfl
                simp only at h1 h2 g1
                have hc : (if tb x n p = 45 then (126 : Int32) else tb x n p) = 126 ∨ (if tb x n p = 45 then (126 : Int32) else tb x n p) = 33 := by
                  rcases hd.2 with h | h | h
                  · exact absurd h h40
                  · rw [h]; exact Or.inr (by decide)
                  · rw [h]; exact Or.inl (by decide)
                refine ⟨by simp only; omega, h2, fun l' hl' => ?_⟩
                cases hl'
                refine ⟨⟨by simp; omega, by simp⟩, fun s hs => ?_, (exG_u (exG_le g3 (by omega)) (by omega) hc).1⟩
                rcases List.mem_append.mp hs with h | h
                · exact g2 s h
                · rw [List.mem_singleton.mp h]
                  rcases hc with h | h <;> (simp only [h]; exact ⟨by decide, by decide⟩)
          · exact gdR_none (Nat.le_refl _) hp
/-- a line -/
def pL (x : Nat → Int32) (n p : Nat) : Option (List stp) × Nat :=
  match pS x n 42 0 0 p with
  | (none, q) => (none, q)
  | (some l, q) =>
    if tb x n q = 63 then
      match pS x n 42 0 0 (q + 1) with
      | (none, r) => (none, r)
      | (some l2, r) => (some (l ++ ((63, 0) :: (l2 ++ [(59, 0)]))), r)
    else (some (l ++ [(59, 0)]), q)
/-- a text -/
def pT (x : Nat → Int32) (n : Nat) : Nat → Nat → Option (List stp) × Nat
  | 0, p => (none, p)
  | k + 1, p =>
    match pL x n p with
    | (none, q) => (none, q)
    | (some l, q) =>
      if q < n then
        if tb x n q = 59 then
          match pT x n k (q + 1) with
          | (none, r) => (none, r)
          | (some R, r) => (some (l ++ R), r)
        else (none, q)
      else (some l, q)
/-- what a law is worth: step by step -/
def exT (nm : Nat → Int32) : List stp → List Int32 → Bool → Int32
  | [], _, _ => 0
  | c :: l, st, true => exT nm l st (decide (c.1 ≠ 59))
  | c :: l, st, false =>
    if st.length < 48 then
      if c.1 = 59 then st.headD 0
      else if c.1 = 63 then (match st with | [] => 0 | a :: r => exT nm l r (decide (a = 0)))
      else (match ex1 nm c st with | none => 0 | some st' => exT nm l st' false)
    else 0
theorem exT_f (nm : Nat → Int32) (c : stp) (l : List stp) (st : List Int32) : exT nm (c :: l) st false = if st.length < 48 then
      if c.1 = 59 then st.headD 0
      else if c.1 = 63 then (match st with | [] => 0 | a :: r => exT nm l r (decide (a = 0)))
      else (match ex1 nm c st with | none => 0 | some st' => exT nm l st' false)
    else 0 := rfl
theorem exT_t (nm : Nat → Int32) (c : stp) (l : List stp) (st : List Int32) : exT nm (c :: l) st true = exT nm l st (decide (c.1 ≠ 59)) := rfl
theorem exT_app (nm : Nat → Int32) (l r : List stp) : ∀ st st', exB nm l st = some st' → (∀ s ∈ l, s.1 ≠ 59 ∧ s.1 ≠ 63) → exT nm (l ++ r) st false = exT nm r st' false := by
  induction l with
  | nil => intro st st' h _; cases h; rfl
  | cons c l ih =>
    intro st st' h hs
    have h0 := hs c List.mem_cons_self
    have h48 : st.length < 48 := by
      by_cases h48 : st.length < 48
      · exact h48
      · unfold exB ex1 at h
        rw [if_neg h48] at h
        exact nomatch h
    show exT nm (c :: (l ++ r)) st false = _
    rw [exT_f, if_pos h48, if_neg h0.1, if_neg h0.2]
    rcases he : ex1 nm c st with _ | st1
    · unfold exB at h; rw [he] at h; exact nomatch h
    · unfold exB at h; rw [he] at h
      exact ih st1 st' h fun s hs' => hs s (List.mem_cons_of_mem _ hs')
theorem exT_skip (nm : Nat → Int32) (l r : List stp) : ∀ st, (∀ s ∈ l, s.1 ≠ 59) → exT nm (l ++ (59, 0) :: r) st true = exT nm r st false := by
  induction l with
  | nil => intro st _; rfl
  | cons c l ih =>
    intro st hs
    show exT nm (c :: (l ++ (59, 0) :: r)) st true = _
    rw [exT_t, decide_eq_true (hs c List.mem_cons_self)]
    exact ih st fun s hs' => hs s (List.mem_cons_of_mem _ hs')
theorem exT_l1 (nm : Nat → Int32) {l r : List stp} {k : Nat} (h : exG l k) (hs : ∀ s ∈ l, s.1 ≠ 59 ∧ s.1 ≠ 63) : exT nm (l ++ (59, 0) :: r) [] false = vS nm l := by
  rw [exT_app nm l _ [] _ (h nm [] (Nat.zero_le _)) hs]
  rfl
theorem exT_l2 (nm : Nat → Int32) {l l2 r : List stp} {k : Nat} (h : exG l k) (hs : ∀ s ∈ l, s.1 ≠ 59 ∧ s.1 ≠ 63) (h2 : exG l2 k) (hs2 : ∀ s ∈ l2, s.1 ≠ 59 ∧ s.1 ≠ 63) : exT nm (l ++ (63, 0) :: (l2 ++ (59, 0) :: r)) [] false = if vS nm l = 0 then exT nm r [] false else vS nm l2 := by
  rw [exT_app nm l _ [] _ (h nm [] (Nat.zero_le _)) hs]
  show exT nm (l2 ++ (59, 0) :: r) [] (decide (vS nm l = 0)) = _
  by_cases h0 : vS nm l = 0
  · rw [decide_eq_true h0, if_pos h0]
    exact exT_skip nm l2 r [] fun s hs' => (hs2 s hs').1
  · rw [decide_eq_false h0, if_neg h0]
    exact exT_l1 nm h2 hs2
/-- a line that is read -/
theorem pL_ok {x : Nat → Int32} {n p : Nat} (hp : p ≤ n) : p ≤ (pL x n p).2 ∧ (pL x n p).2 ≤ n ∧ ∀ l, (pL x n p).1 = some l → p < (pL x n p).2 ∧ l.length + p ≤ (pL x n p).2 + 1 ∧ 0 < l.length := by
  unfold pL
  have h0 := gdR_S x n 42 0 0 p (by omega) (by omega) hp
  rcases hq : pS x n 42 0 0 p with ⟨_ | l, q⟩
  · rw [hq] at h0
    exact ⟨h0.1, h0.2.1, fun _ h => (nomatch h)⟩
  · rw [hq] at h0
    have h1 := h0.1
    have h2 := h0.2.1
    obtain ⟨⟨g1, g1'⟩, g2, g3⟩ := h0.2.2 l rfl
    simp only at h1 h2 g1 ⊢
    by_cases h63 : tb x n q = 63
    · rw [if_pos h63]
      have hq1 : q < n := tb_lt fun e => by rw [e] at h63; exact absurd h63 (by decide)
      have k0 := gdR_S x n 42 0 0 (q + 1) (by omega) (by omega) hq1
      rcases hr : pS x n 42 0 0 (q + 1) with ⟨_ | l2, r⟩
      · rw [hr] at k0
        have k1 := k0.1
        have k2 := k0.2.1
        simp only at k1 k2 ⊢
        exact ⟨by omega, k2, fun _ h => (nomatch h)⟩
      · rw [hr] at k0
        have k1 := k0.1
        have k2 := k0.2.1
        obtain ⟨⟨m1, m1'⟩, m2, m3⟩ := k0.2.2 l2 rfl
        simp only at k1 k2 m1 ⊢
        refine ⟨by omega, k2, fun l' hl' => ?_⟩
        cases hl'
        exact ⟨by omega, by simp; omega, by simp; omega⟩
    · rw [if_neg h63]
      refine ⟨h1, h2, fun l' hl' => ?_⟩
      cases hl'
      exact ⟨by simp only; omega, by simp; omega, by simp⟩
