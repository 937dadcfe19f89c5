/-! ===== the frames: which cells each lifted method may change ===== -/
def RefOK (M : mm) : Prop := (M.2.2 1 = 22 ∧ M.2.2 2 = 23) ∨ (M.2.2 1 = 23 ∧ M.2.2 2 = 22)
/-- but for the cells in S, as before; the pages are the two pages -/
def EqS (S : Nat → Bool) (M M' : mm) : Prop := (∀ k, S k = false → M'.1 k = M.1 k ∧ M'.2.1 k = M.2.1 k) ∧ RefOK M'
def Fr {α : Type} (S : Nat → Bool) (M : mm) (x : Option (α × mm)) : Prop := (∀ v M', x = some (v, M') → EqS S M M') ∧ True
theorem Fr_none {α : Type} {S : Nat → Bool} {M0 : mm} : Fr S M0 (none : Option (α × mm)) := ⟨fun _ _ h => (nomatch h), trivial⟩
theorem Fr_some {α : Type} {S : Nat → Bool} {M0 M : mm} {v : α} (e : EqS S M0 M) : Fr S M0 (some (v, M)) := by
  refine ⟨fun _ _ h => ?_, trivial⟩
  cases h
  exact e
theorem Fr_gd {α : Type} {S : Nat → Bool} {M0 : mm} {c : Bool} {x : Option (α × mm)} (h : c = true → Fr S M0 x) : Fr S M0 (gd c x) := by
  cases c with
  | false => exact Fr_none
  | true => exact h rfl
theorem Fr_ite {α : Type} {S : Nat → Bool} {M0 : mm} {c : Prop} [Decidable c] {x y : Option (α × mm)} (h : Fr S M0 x) (h2 : Fr S M0 y) : Fr S M0 (if c then x else y) := by
  split
  · exact h
  · exact h2
theorem Fr_opt {α : Type} {S : Nat → Bool} {M0 : mm} {o : Option Nat} {x : Option (α × mm)} {f : Nat → Option (α × mm)} (h : Fr S M0 x) (h2 : ∀ k, Fr S M0 (f k)) : Fr S M0 (opt o x f) := by
  cases o with
  | none => exact h
  | some k => exact h2 k
theorem Fr_lt {α β : Type} {S : Nat → Bool} {M0 : mm} {x : β} {k : β → Option (α × mm)} (h : ∀ z, Fr S M0 (k z)) : Fr S M0 (lt_ x k) := h x
theorem EqS_sA {S : Nat → Bool} {M0 M : mm} {k : Nat} {f : Nat → Int32} (hs : S k = true) (e : EqS S M0 M) : EqS S M0 (sA M k f) := by
  refine ⟨fun j hj => ⟨?_, (e.1 j hj).2⟩, e.2⟩
  rw [← (e.1 j hj).1]
  exact sA_n M k j f fun q => by rw [q, hs] at hj; cases hj
theorem EqS_sL {S : Nat → Bool} {M0 M : mm} {k : Nat} {f : Nat → Int64} (hs : S k = true) (e : EqS S M0 M) : EqS S M0 (sL M k f) := by
  refine ⟨fun j hj => ⟨(e.1 j hj).1, ?_⟩, e.2⟩
  rw [← (e.1 j hj).2]
  exact sL_n M k j f fun q => by rw [q, hs] at hj; cases hj
theorem EqS_sR0 {S : Nat → Bool} {M0 M : mm} {r : Nat} (e : EqS S M0 M) : EqS S M0 (sR M 0 r) := ⟨e.1, e.2⟩
theorem Fr_sA {α : Type} {S : Nat → Bool} {M0 M : mm} {j : Nat} {f : Nat → Int32} {k : mm → Option (α × mm)} (hs : S j = true) (e : EqS S M0 M) (h : ∀ M', EqS S M0 M' → Fr S M0 (k M')) : Fr S M0 (lt_ (sA M j f) k) := h _ (EqS_sA hs e)
theorem Fr_sL {α : Type} {S : Nat → Bool} {M0 M : mm} {j : Nat} {f : Nat → Int64} {k : mm → Option (α × mm)} (hs : S j = true) (e : EqS S M0 M) (h : ∀ M', EqS S M0 M' → Fr S M0 (k M')) : Fr S M0 (lt_ (sL M j f) k) := h _ (EqS_sL hs e)
theorem Fr_sR0 {α : Type} {S : Nat → Bool} {M0 M : mm} {r : Nat} {k : mm → Option (α × mm)} (e : EqS S M0 M) (h : ∀ M', EqS S M0 M' → Fr S M0 (k M')) : Fr S M0 (lt_ (sR M 0 r) k) := h _ (EqS_sR0 e)
theorem Fr_bd {α β : Type} {S : Nat → Bool} {M0 : mm} {x : Option (β × mm)} {k : β → mm → Option (α × mm)} (hx : Fr S M0 x) (h : ∀ v M', EqS S M0 M' → Fr S M0 (k v M')) : Fr S M0 (bd x k) := by
  cases x with
  | none => exact Fr_none
  | some p => exact h p.1 p.2 (hx.1 p.1 p.2 rfl)
theorem EqS_r1 {S : Nat → Bool} {M0 M : mm} (e : EqS S M0 M) (h1 : S 22 = true) (h2 : S 23 = true) : S (M.2.2 1) = true := by
  rcases e.2 with q | q <;> rw [q.1] <;> assumption
theorem EqS_r2 {S : Nat → Bool} {M0 M : mm} (e : EqS S M0 M) (h1 : S 22 = true) (h2 : S 23 = true) : S (M.2.2 2) = true := by
  rcases e.2 with q | q <;> rw [q.2] <;> assumption
theorem subL {S : Nat → Bool} {l l' : List Nat} (h : ∀ k ∈ l, k ∈ l') (hs : ∀ k, k ∈ l' → S k = true) : ∀ k, k ∈ l → S k = true := fun k hk => hs k (h k hk)
theorem fr_X0_add {S : Nat → Bool} {a1 : Int32} {M0 M : mm} (hS : ∀ k, k ∈ [66, 68] → S k = true) (e : EqS S M0 M) : Fr S M0 (X0_add a1 M) := by
  unfold X0_add
  repeat' (first
      | with_reducible assumption
      | with_reducible exact Fr_none
      | (with_reducible exact Fr_some ‹EqS S M0 _›)
      | (with_reducible refine Fr_gd fun _ => ?_)
      | (with_reducible refine Fr_ite ?_ ?_)
      | (with_reducible refine Fr_opt ?_ fun _ => ?_)
      | (with_reducible refine Fr_sA ?_ ‹EqS S M0 _› fun _ _ => ?_)
      | (with_reducible refine Fr_sR0 ‹EqS S M0 _› fun _ _ => ?_)
      | (with_reducible refine Fr_sL ?_ ‹EqS S M0 _› fun _ _ => ?_)
      | (with_reducible refine Fr_lt fun _ => ?_)
      | exact hS _ (by decide)
      | exact subL (by decide) hS
      | intro _)
theorem fr_X0_kindOf {S : Nat → Bool} {a1 : Int32} {M0 M : mm}  (e : EqS S M0 M) : Fr S M0 (X0_kindOf a1 M) := by
  unfold X0_kindOf
  repeat' (first
      | with_reducible assumption
      | with_reducible exact Fr_none
      | (with_reducible exact Fr_some ‹EqS S M0 _›)
      | (with_reducible refine Fr_gd fun _ => ?_)
      | (with_reducible refine Fr_ite ?_ ?_)
      | (with_reducible refine Fr_opt ?_ fun _ => ?_)
      | (with_reducible refine Fr_sA ?_ ‹EqS S M0 _› fun _ _ => ?_)
      | (with_reducible refine Fr_sR0 ‹EqS S M0 _› fun _ _ => ?_)
      | (with_reducible refine Fr_sL ?_ ‹EqS S M0 _› fun _ _ => ?_)
      | (with_reducible refine Fr_lt fun _ => ?_)
      | intro _)
theorem fr_X0_isOfKind_L9 {S : Nat → Bool} {a1 : Int32} {a2 : Int32} {M0 : mm}  : ∀ (n_ : Nat) (z1 : Int32) (z2 : Int32) (M : mm), EqS S M0 M → Fr S M0 (X0_isOfKind_L9 a1 a2 n_ z1 z2 M) := by
  intro n_
  induction n_ with
  | zero =>
    intros
    exact Fr_none
  | succ n_ ih =>
    intro z1 z2 M e
    rw [X0_isOfKind_L9]
    repeat' (first
        | with_reducible assumption
        | with_reducible exact Fr_none
        | (with_reducible exact Fr_some ‹EqS S M0 _›)
        | (with_reducible refine Fr_gd fun _ => ?_)
        | (with_reducible refine Fr_ite ?_ ?_)
        | (with_reducible refine Fr_opt ?_ fun _ => ?_)
        | (with_reducible refine Fr_sA ?_ ‹EqS S M0 _› fun _ _ => ?_)
        | (with_reducible refine Fr_sR0 ‹EqS S M0 _› fun _ _ => ?_)
        | (with_reducible refine Fr_sL ?_ ‹EqS S M0 _› fun _ _ => ?_)
        | (with_reducible refine Fr_lt fun _ => ?_)
        | (with_reducible refine Fr_bd (ih _ _ _ ‹EqS S M0 _›) fun _ _ _ => ?_)
        | with_reducible exact ih _ _ _ ‹EqS S M0 _›
        | intro _)
theorem fr_X0_isOfKind {S : Nat → Bool} {a1 : Int32} {a2 : Int32} {M0 M : mm}  (e : EqS S M0 M) : Fr S M0 (X0_isOfKind a1 a2 M) := by
  unfold X0_isOfKind
  repeat' (first
      | with_reducible assumption
      | with_reducible exact Fr_none
      | (with_reducible exact Fr_some ‹EqS S M0 _›)
      | (with_reducible refine Fr_gd fun _ => ?_)
      | (with_reducible refine Fr_ite ?_ ?_)
      | (with_reducible refine Fr_opt ?_ fun _ => ?_)
      | (with_reducible refine Fr_sA ?_ ‹EqS S M0 _› fun _ _ => ?_)
      | (with_reducible refine Fr_sR0 ‹EqS S M0 _› fun _ _ => ?_)
      | (with_reducible refine Fr_sL ?_ ‹EqS S M0 _› fun _ _ => ?_)
      | (with_reducible refine Fr_lt fun _ => ?_)
      | (with_reducible refine Fr_bd (fr_X0_kindOf  ‹EqS S M0 _›) fun _ _ _ => ?_)
      | (with_reducible refine fr_X0_kindOf  ‹EqS S M0 _›)
      | (with_reducible refine Fr_bd (fr_X0_isOfKind_L9  _ _ _ _ ‹EqS S M0 _›) fun _ _ _ => ?_)
      | (with_reducible refine fr_X0_isOfKind_L9  _ _ _ _ ‹EqS S M0 _›)
      | intro _)
theorem fr_X0_keptOfTrace {S : Nat → Bool}  {M0 M : mm}  (e : EqS S M0 M) : Fr S M0 (X0_keptOfTrace  M) := by
  unfold X0_keptOfTrace
  repeat' (first
      | with_reducible assumption
      | with_reducible exact Fr_none
      | (with_reducible exact Fr_some ‹EqS S M0 _›)
      | (with_reducible refine Fr_gd fun _ => ?_)
      | (with_reducible refine Fr_ite ?_ ?_)
      | (with_reducible refine Fr_opt ?_ fun _ => ?_)
      | (with_reducible refine Fr_sA ?_ ‹EqS S M0 _› fun _ _ => ?_)
      | (with_reducible refine Fr_sR0 ‹EqS S M0 _› fun _ _ => ?_)
      | (with_reducible refine Fr_sL ?_ ‹EqS S M0 _› fun _ _ => ?_)
      | (with_reducible refine Fr_lt fun _ => ?_)
      | intro _)
theorem fr_X0_begin_b19 {S : Nat → Bool} {a1 : Int32} {M0 M : mm} (hS : ∀ k, k ∈ [66] → S k = true) (e : EqS S M0 M) : Fr S M0 (X0_begin_b19 a1 M) := by
  unfold X0_begin_b19
  repeat' (first
      | with_reducible assumption
      | with_reducible exact Fr_none
      | (with_reducible exact Fr_some ‹EqS S M0 _›)
      | (with_reducible refine Fr_gd fun _ => ?_)
      | (with_reducible refine Fr_ite ?_ ?_)
      | (with_reducible refine Fr_opt ?_ fun _ => ?_)
      | (with_reducible refine Fr_sA ?_ ‹EqS S M0 _› fun _ _ => ?_)
      | (with_reducible refine Fr_sR0 ‹EqS S M0 _› fun _ _ => ?_)
      | (with_reducible refine Fr_sL ?_ ‹EqS S M0 _› fun _ _ => ?_)
      | (with_reducible refine Fr_lt fun _ => ?_)
      | exact hS _ (by decide)
      | exact subL (by decide) hS
      | intro _)
theorem fr_X0_begin {S : Nat → Bool} {a1 : Int32} {M0 M : mm} (hS : ∀ k, k ∈ [66, 67] → S k = true) (e : EqS S M0 M) : Fr S M0 (X0_begin a1 M) := by
  unfold X0_begin
  repeat' (first
      | with_reducible assumption
      | with_reducible exact Fr_none
      | (with_reducible exact Fr_some ‹EqS S M0 _›)
      | (with_reducible refine Fr_gd fun _ => ?_)
      | (with_reducible refine Fr_ite ?_ ?_)
      | (with_reducible refine Fr_opt ?_ fun _ => ?_)
      | (with_reducible refine Fr_sA ?_ ‹EqS S M0 _› fun _ _ => ?_)
      | (with_reducible refine Fr_sR0 ‹EqS S M0 _› fun _ _ => ?_)
      | (with_reducible refine Fr_sL ?_ ‹EqS S M0 _› fun _ _ => ?_)
      | (with_reducible refine Fr_lt fun _ => ?_)
      | exact hS _ (by decide)
      | exact subL (by decide) hS
      | (with_reducible refine Fr_bd (fr_X0_begin_b19 ?_ ‹EqS S M0 _›) fun _ _ _ => ?_)
      | (with_reducible refine fr_X0_begin_b19 ?_ ‹EqS S M0 _›)
      | intro _)
theorem fr_X0_run_L6 {S : Nat → Bool} {rec : Nat → Int32 → Int32 → Int32 → Int32 → mm → Option (Int32 × mm)} {a1 : Int32} {a2 : Int32} {a3 : Int32} {a4 : Int32} {K45 : Int32 → mm → Option (Int32 × mm)} {M0 : mm} (hrec : ∀ (y0 : Nat) (y1 : Int32) (y2 : Int32) (y3 : Int32) (y4 : Int32) (M_ : mm), EqS S M0 M_ → Fr S M0 (rec y0 y1 y2 y3 y4 M_)) (hK45 : ∀ (y0 : Int32) (M_ : mm), EqS S M0 M_ → Fr S M0 (K45 y0 M_)) : ∀ (n_ : Nat) (z1 : Int32) (z2 : Int32) (M : mm), EqS S M0 M → Fr S M0 (X0_run_L6 rec a1 a2 a3 a4 K45 n_ z1 z2 M) := by
  intro n_
  induction n_ with
  | zero =>
    intros
    exact Fr_none
  | succ n_ ih =>
    intro z1 z2 M e
    rw [X0_run_L6]
    repeat' (first
        | with_reducible assumption
        | with_reducible exact Fr_none
        | (with_reducible exact Fr_some ‹EqS S M0 _›)
        | (with_reducible refine Fr_gd fun _ => ?_)
        | (with_reducible refine Fr_ite ?_ ?_)
        | (with_reducible refine Fr_opt ?_ fun _ => ?_)
        | (with_reducible refine Fr_sA ?_ ‹EqS S M0 _› fun _ _ => ?_)
        | (with_reducible refine Fr_sR0 ‹EqS S M0 _› fun _ _ => ?_)
        | (with_reducible refine Fr_sL ?_ ‹EqS S M0 _› fun _ _ => ?_)
        | (with_reducible refine Fr_lt fun _ => ?_)
        | (with_reducible refine Fr_bd (hrec _ _ _ _ _ _ ‹EqS S M0 _›) fun _ _ _ => ?_)
        | with_reducible exact hrec _ _ _ _ _ _ ‹EqS S M0 _›
        | (with_reducible refine Fr_bd (hK45 _ _ ‹EqS S M0 _›) fun _ _ _ => ?_)
        | with_reducible exact hK45 _ _ ‹EqS S M0 _›
        | (with_reducible refine Fr_bd (ih _ _ _ ‹EqS S M0 _›) fun _ _ _ => ?_)
        | with_reducible exact ih _ _ _ ‹EqS S M0 _›
        | intro _)
theorem fr_X0_run_b45 {S : Nat → Bool} {rec : Nat → Int32 → Int32 → Int32 → Int32 → mm → Option (Int32 × mm)} {a1 : Int32} {a2 : Int32} {a3 : Int32} {a4 : Int32} {x5 : Int32} {M0 M : mm} (hS : ∀ k, k ∈ [66, 67] → S k = true) (hrec : ∀ (y0 : Nat) (y1 : Int32) (y2 : Int32) (y3 : Int32) (y4 : Int32) (M_ : mm), EqS S M0 M_ → Fr S M0 (rec y0 y1 y2 y3 y4 M_)) (e : EqS S M0 M) : Fr S M0 (X0_run_b45 rec a1 a2 a3 a4 x5 M) := by
  unfold X0_run_b45
  repeat' (first
      | with_reducible assumption
      | with_reducible exact Fr_none
      | (with_reducible exact Fr_some ‹EqS S M0 _›)
      | (with_reducible refine Fr_gd fun _ => ?_)
      | (with_reducible refine Fr_ite ?_ ?_)
      | (with_reducible refine Fr_opt ?_ fun _ => ?_)
      | (with_reducible refine Fr_sA ?_ ‹EqS S M0 _› fun _ _ => ?_)
      | (with_reducible refine Fr_sR0 ‹EqS S M0 _› fun _ _ => ?_)
      | (with_reducible refine Fr_sL ?_ ‹EqS S M0 _› fun _ _ => ?_)
      | (with_reducible refine Fr_lt fun _ => ?_)
      | exact hS _ (by decide)
      | exact subL (by decide) hS
      | (with_reducible refine Fr_bd (hrec _ _ _ _ _ _ ‹EqS S M0 _›) fun _ _ _ => ?_)
      | with_reducible exact hrec _ _ _ _ _ _ ‹EqS S M0 _›
      | (with_reducible refine Fr_bd (fr_X0_begin ?_ ‹EqS S M0 _›) fun _ _ _ => ?_)
      | (with_reducible refine fr_X0_begin ?_ ‹EqS S M0 _›)
      | intro _)
theorem fr_X0_run_B {S : Nat → Bool} {rec : Nat → Int32 → Int32 → Int32 → Int32 → mm → Option (Int32 × mm)} {a1 : Int32} {a2 : Int32} {a3 : Int32} {a4 : Int32} {M0 M : mm} (hS : ∀ k, k ∈ [66, 67] → S k = true) (hrec : ∀ (y0 : Nat) (y1 : Int32) (y2 : Int32) (y3 : Int32) (y4 : Int32) (M_ : mm), EqS S M0 M_ → Fr S M0 (rec y0 y1 y2 y3 y4 M_)) (e : EqS S M0 M) : Fr S M0 (X0_run_B rec a1 a2 a3 a4 M) := by
  unfold X0_run_B
  repeat' (first
      | with_reducible assumption
      | with_reducible exact Fr_none
      | (with_reducible exact Fr_some ‹EqS S M0 _›)
      | (with_reducible refine Fr_gd fun _ => ?_)
      | (with_reducible refine Fr_ite ?_ ?_)
      | (with_reducible refine Fr_opt ?_ fun _ => ?_)
      | (with_reducible refine Fr_sA ?_ ‹EqS S M0 _› fun _ _ => ?_)
      | (with_reducible refine Fr_sR0 ‹EqS S M0 _› fun _ _ => ?_)
      | (with_reducible refine Fr_sL ?_ ‹EqS S M0 _› fun _ _ => ?_)
      | (with_reducible refine Fr_lt fun _ => ?_)
      | exact hS _ (by decide)
      | exact subL (by decide) hS
      | (with_reducible refine Fr_bd (hrec _ _ _ _ _ _ ‹EqS S M0 _›) fun _ _ _ => ?_)
      | with_reducible exact hrec _ _ _ _ _ _ ‹EqS S M0 _›
      | (with_reducible refine Fr_bd (fr_X0_run_L6 ?_ ?_ _ _ _ _ ‹EqS S M0 _›) fun _ _ _ => ?_)
      | (with_reducible refine fr_X0_run_L6 ?_ ?_ _ _ _ _ ‹EqS S M0 _›)
      | (with_reducible refine Fr_bd (fr_X0_run_b45 ?_ ?_ ‹EqS S M0 _›) fun _ _ _ => ?_)
      | (with_reducible refine fr_X0_run_b45 ?_ ?_ ‹EqS S M0 _›)
      | intro _)
theorem fr_G_X0_run {S : Nat → Bool}  {M0 : mm} (hS : ∀ k, k ∈ [66, 67] → S k = true) : ∀ (n_ : Nat) (z1 : Nat) (z2 : Int32) (z3 : Int32) (z4 : Int32) (z5 : Int32) (M : mm), EqS S M0 M → Fr S M0 (G_X0_run  n_ z1 z2 z3 z4 z5 M) := by
  intro n_
  induction n_ with
  | zero =>
    intros
    exact Fr_none
  | succ n_ ih =>
    intro z1 z2 z3 z4 z5 M e
    unfold G_X0_run
    repeat' (first
        | with_reducible assumption
        | with_reducible exact Fr_none
        | (with_reducible exact Fr_some ‹EqS S M0 _›)
        | (with_reducible refine Fr_gd fun _ => ?_)
        | (with_reducible refine Fr_ite ?_ ?_)
        | (with_reducible refine Fr_opt ?_ fun _ => ?_)
        | (with_reducible refine Fr_sA ?_ ‹EqS S M0 _› fun _ _ => ?_)
        | (with_reducible refine Fr_sR0 ‹EqS S M0 _› fun _ _ => ?_)
        | (with_reducible refine Fr_sL ?_ ‹EqS S M0 _› fun _ _ => ?_)
        | (with_reducible refine Fr_lt fun _ => ?_)
        | exact hS _ (by decide)
        | exact subL (by decide) hS
        | (with_reducible refine Fr_bd (fr_X0_run_B ?_ ?_ ‹EqS S M0 _›) fun _ _ _ => ?_)
        | (with_reducible refine fr_X0_run_B ?_ ?_ ‹EqS S M0 _›)
        | (with_reducible refine Fr_bd (ih _ _ _ _ _ _ ‹EqS S M0 _›) fun _ _ _ => ?_)
        | with_reducible exact ih _ _ _ _ _ _ ‹EqS S M0 _›
        | split
        | intro _)
theorem fr_X0_run {S : Nat → Bool} {a1 : Int32} {a2 : Int32} {a3 : Int32} {a4 : Int32} {M0 M : mm} (hS : ∀ k, k ∈ [66, 67] → S k = true) (e : EqS S M0 M) : Fr S M0 (X0_run a1 a2 a3 a4 M) := by
  unfold X0_run
  repeat' (first
      | with_reducible assumption
      | with_reducible exact Fr_none
      | (with_reducible exact Fr_some ‹EqS S M0 _›)
      | (with_reducible refine Fr_gd fun _ => ?_)
      | (with_reducible refine Fr_ite ?_ ?_)
      | (with_reducible refine Fr_opt ?_ fun _ => ?_)
      | (with_reducible refine Fr_sA ?_ ‹EqS S M0 _› fun _ _ => ?_)
      | (with_reducible refine Fr_sR0 ‹EqS S M0 _› fun _ _ => ?_)
      | (with_reducible refine Fr_sL ?_ ‹EqS S M0 _› fun _ _ => ?_)
      | (with_reducible refine Fr_lt fun _ => ?_)
      | exact hS _ (by decide)
      | exact subL (by decide) hS
      | (with_reducible refine Fr_bd (fr_G_X0_run ?_ _ _ _ _ _ _ _ ‹EqS S M0 _›) fun _ _ _ => ?_)
      | (with_reducible refine fr_G_X0_run ?_ _ _ _ _ _ _ _ ‹EqS S M0 _›)
      | intro _)
theorem fr_X0_perform {S : Nat → Bool} {a1 : Int32} {a2 : Int32} {a3 : Int32} {M0 M : mm} (hS : ∀ k, k ∈ [66, 67] → S k = true) (e : EqS S M0 M) : Fr S M0 (X0_perform a1 a2 a3 M) := by
  unfold X0_perform
  repeat' (first
      | with_reducible assumption
      | with_reducible exact Fr_none
      | (with_reducible exact Fr_some ‹EqS S M0 _›)
      | (with_reducible refine Fr_gd fun _ => ?_)
      | (with_reducible refine Fr_ite ?_ ?_)
      | (with_reducible refine Fr_opt ?_ fun _ => ?_)
      | (with_reducible refine Fr_sA ?_ ‹EqS S M0 _› fun _ _ => ?_)
      | (with_reducible refine Fr_sR0 ‹EqS S M0 _› fun _ _ => ?_)
      | (with_reducible refine Fr_sL ?_ ‹EqS S M0 _› fun _ _ => ?_)
      | (with_reducible refine Fr_lt fun _ => ?_)
      | exact hS _ (by decide)
      | exact subL (by decide) hS
      | (with_reducible refine Fr_bd (fr_X0_run ?_ ‹EqS S M0 _›) fun _ _ _ => ?_)
      | (with_reducible refine fr_X0_run ?_ ‹EqS S M0 _›)
      | intro _)
theorem fr_X1_forgetOldest {S : Nat → Bool}  {M0 M : mm} (hS : ∀ k, k ∈ [61, 62, 63, 64, 65] → S k = true) (e : EqS S M0 M) : Fr S M0 (X1_forgetOldest  M) := by
  unfold X1_forgetOldest
  repeat' (first
      | with_reducible assumption
      | with_reducible exact Fr_none
      | (with_reducible exact Fr_some ‹EqS S M0 _›)
      | (with_reducible refine Fr_gd fun _ => ?_)
      | (with_reducible refine Fr_ite ?_ ?_)
      | (with_reducible refine Fr_opt ?_ fun _ => ?_)
      | (with_reducible refine Fr_sA ?_ ‹EqS S M0 _› fun _ _ => ?_)
      | (with_reducible refine Fr_sR0 ‹EqS S M0 _› fun _ _ => ?_)
      | (with_reducible refine Fr_sL ?_ ‹EqS S M0 _› fun _ _ => ?_)
      | (with_reducible refine Fr_lt fun _ => ?_)
      | exact hS _ (by decide)
      | exact subL (by decide) hS
      | intro _)
theorem fr_X1_note_b13 {S : Nat → Bool} {a1 : Int32} {a2 : Int32} {a3 : Int32} {a4 : Int32} {M0 M : mm} (hS : ∀ k, k ∈ [61, 62, 63, 64, 65] → S k = true) (e : EqS S M0 M) : Fr S M0 (X1_note_b13 a1 a2 a3 a4 M) := by
  unfold X1_note_b13
  repeat' (first
      | with_reducible assumption
      | with_reducible exact Fr_none
      | (with_reducible exact Fr_some ‹EqS S M0 _›)
      | (with_reducible refine Fr_gd fun _ => ?_)
      | (with_reducible refine Fr_ite ?_ ?_)
      | (with_reducible refine Fr_opt ?_ fun _ => ?_)
      | (with_reducible refine Fr_sA ?_ ‹EqS S M0 _› fun _ _ => ?_)
      | (with_reducible refine Fr_sR0 ‹EqS S M0 _› fun _ _ => ?_)
      | (with_reducible refine Fr_sL ?_ ‹EqS S M0 _› fun _ _ => ?_)
      | (with_reducible refine Fr_lt fun _ => ?_)
      | exact hS _ (by decide)
      | exact subL (by decide) hS
      | intro _)
theorem fr_X1_note {S : Nat → Bool} {a1 : Int32} {a2 : Int32} {a3 : Int32} {a4 : Int32} {M0 M : mm} (hS : ∀ k, k ∈ [61, 62, 63, 64, 65] → S k = true) (e : EqS S M0 M) : Fr S M0 (X1_note a1 a2 a3 a4 M) := by
  unfold X1_note
  repeat' (first
      | with_reducible assumption
      | with_reducible exact Fr_none
      | (with_reducible exact Fr_some ‹EqS S M0 _›)
      | (with_reducible refine Fr_gd fun _ => ?_)
      | (with_reducible refine Fr_ite ?_ ?_)
      | (with_reducible refine Fr_opt ?_ fun _ => ?_)
      | (with_reducible refine Fr_sA ?_ ‹EqS S M0 _› fun _ _ => ?_)
      | (with_reducible refine Fr_sR0 ‹EqS S M0 _› fun _ _ => ?_)
      | (with_reducible refine Fr_sL ?_ ‹EqS S M0 _› fun _ _ => ?_)
      | (with_reducible refine Fr_lt fun _ => ?_)
      | exact hS _ (by decide)
      | exact subL (by decide) hS
      | (with_reducible refine Fr_bd (fr_X1_forgetOldest ?_ ‹EqS S M0 _›) fun _ _ _ => ?_)
      | (with_reducible refine fr_X1_forgetOldest ?_ ‹EqS S M0 _›)
      | (with_reducible refine Fr_bd (fr_X1_note_b13 ?_ ‹EqS S M0 _›) fun _ _ _ => ?_)
      | (with_reducible refine fr_X1_note_b13 ?_ ‹EqS S M0 _›)
      | intro _)
theorem fr_X1_undone {S : Nat → Bool}  {M0 M : mm}  (e : EqS S M0 M) : Fr S M0 (X1_undone  M) := by
  unfold X1_undone
  repeat' (first
      | with_reducible assumption
      | with_reducible exact Fr_none
      | (with_reducible exact Fr_some ‹EqS S M0 _›)
      | (with_reducible refine Fr_gd fun _ => ?_)
      | (with_reducible refine Fr_ite ?_ ?_)
      | (with_reducible refine Fr_opt ?_ fun _ => ?_)
      | (with_reducible refine Fr_sA ?_ ‹EqS S M0 _› fun _ _ => ?_)
      | (with_reducible refine Fr_sR0 ‹EqS S M0 _› fun _ _ => ?_)
      | (with_reducible refine Fr_sL ?_ ‹EqS S M0 _› fun _ _ => ?_)
      | (with_reducible refine Fr_lt fun _ => ?_)
      | intro _)
theorem fr_X3_rowOf {S : Nat → Bool} {a1 : Int32} {M0 M : mm}  (e : EqS S M0 M) : Fr S M0 (X3_rowOf a1 M) := by
  unfold X3_rowOf
  repeat' (first
      | with_reducible assumption
      | with_reducible exact Fr_none
      | (with_reducible exact Fr_some ‹EqS S M0 _›)
      | (with_reducible refine Fr_gd fun _ => ?_)
      | (with_reducible refine Fr_ite ?_ ?_)
      | (with_reducible refine Fr_opt ?_ fun _ => ?_)
      | (with_reducible refine Fr_sA ?_ ‹EqS S M0 _› fun _ _ => ?_)
      | (with_reducible refine Fr_sR0 ‹EqS S M0 _› fun _ _ => ?_)
      | (with_reducible refine Fr_sL ?_ ‹EqS S M0 _› fun _ _ => ?_)
      | (with_reducible refine Fr_lt fun _ => ?_)
      | intro _)
theorem fr_X3_tell {S : Nat → Bool} {a1 a2 a3 : Int32} {M0 M : mm} (hS : ∀ k, k ∈ [1, 2, 3, 4, 6, 7, 8] → S k = true) (e : EqS S M0 M) : Fr S M0 (X3_tell a1 a2 a3 M) := by
  unfold X3_tell X3_rowOf
  repeat' split
  all_goals rw [bd_s]
  all_goals repeat' (first
    | with_reducible assumption
    | (with_reducible exact Fr_some ‹EqS S M0 _›)
    | (with_reducible refine Fr_gd fun _ => ?_)
    | (with_reducible refine Fr_ite ?_ ?_)
    | (with_reducible refine Fr_sA ?_ ‹EqS S M0 _› fun _ _ => ?_)
    | exact hS _ (by decide))
theorem fr_X1_takeBack {S : Nat → Bool}  {M0 M : mm} (hS : ∀ k, k ∈ [1, 2, 3, 4, 6, 7, 8, 61] → S k = true) (e : EqS S M0 M) : Fr S M0 (X1_takeBack  M) := by
  unfold X1_takeBack
  repeat' (first
      | with_reducible assumption
      | with_reducible exact Fr_none
      | (with_reducible exact Fr_some ‹EqS S M0 _›)
      | (with_reducible refine Fr_gd fun _ => ?_)
      | (with_reducible refine Fr_ite ?_ ?_)
      | (with_reducible refine Fr_opt ?_ fun _ => ?_)
      | (with_reducible refine Fr_sA ?_ ‹EqS S M0 _› fun _ _ => ?_)
      | (with_reducible refine Fr_sR0 ‹EqS S M0 _› fun _ _ => ?_)
      | (with_reducible refine Fr_sL ?_ ‹EqS S M0 _› fun _ _ => ?_)
      | (with_reducible refine Fr_lt fun _ => ?_)
      | exact hS _ (by decide)
      | exact subL (by decide) hS
      | (with_reducible refine Fr_bd (fr_X3_tell ?_ ‹EqS S M0 _›) fun _ _ _ => ?_)
      | (with_reducible refine fr_X3_tell ?_ ‹EqS S M0 _›)
      | intro _)
theorem fr_X1_doAgain {S : Nat → Bool}  {M0 M : mm} (hS : ∀ k, k ∈ [1, 2, 3, 4, 6, 7, 8, 61] → S k = true) (e : EqS S M0 M) : Fr S M0 (X1_doAgain  M) := by
  unfold X1_doAgain
  repeat' (first
      | with_reducible assumption
      | with_reducible exact Fr_none
      | (with_reducible exact Fr_some ‹EqS S M0 _›)
      | (with_reducible refine Fr_gd fun _ => ?_)
      | (with_reducible refine Fr_ite ?_ ?_)
      | (with_reducible refine Fr_opt ?_ fun _ => ?_)
      | (with_reducible refine Fr_sA ?_ ‹EqS S M0 _› fun _ _ => ?_)
      | (with_reducible refine Fr_sR0 ‹EqS S M0 _› fun _ _ => ?_)
      | (with_reducible refine Fr_sL ?_ ‹EqS S M0 _› fun _ _ => ?_)
      | (with_reducible refine Fr_lt fun _ => ?_)
      | exact hS _ (by decide)
      | exact subL (by decide) hS
      | (with_reducible refine Fr_bd (fr_X1_undone  ‹EqS S M0 _›) fun _ _ _ => ?_)
      | (with_reducible refine fr_X1_undone  ‹EqS S M0 _›)
      | (with_reducible refine Fr_bd (fr_X3_tell ?_ ‹EqS S M0 _›) fun _ _ _ => ?_)
      | (with_reducible refine fr_X3_tell ?_ ‹EqS S M0 _›)
      | intro _)
theorem fr_X2_sow {S : Nat → Bool} {a1 : Int32} {M0 M : mm} (hS : ∀ k, k ∈ [27] → S k = true) (e : EqS S M0 M) : Fr S M0 (X2_sow a1 M) := by
  unfold X2_sow
  repeat' (first
      | with_reducible assumption
      | with_reducible exact Fr_none
      | (with_reducible exact Fr_some ‹EqS S M0 _›)
      | (with_reducible refine Fr_gd fun _ => ?_)
      | (with_reducible refine Fr_ite ?_ ?_)
      | (with_reducible refine Fr_opt ?_ fun _ => ?_)
      | (with_reducible refine Fr_sA ?_ ‹EqS S M0 _› fun _ _ => ?_)
      | (with_reducible refine Fr_sR0 ‹EqS S M0 _› fun _ _ => ?_)
      | (with_reducible refine Fr_sL ?_ ‹EqS S M0 _› fun _ _ => ?_)
      | (with_reducible refine Fr_lt fun _ => ?_)
      | exact hS _ (by decide)
      | exact subL (by decide) hS
      | intro _)
theorem fr_X3_isForgotten {S : Nat → Bool} {a1 : Int32} {M0 M : mm}  (e : EqS S M0 M) : Fr S M0 (X3_isForgotten a1 M) := by
  unfold X3_isForgotten
  repeat' (first
      | with_reducible assumption
      | with_reducible exact Fr_none
      | (with_reducible exact Fr_some ‹EqS S M0 _›)
      | (with_reducible refine Fr_gd fun _ => ?_)
      | (with_reducible refine Fr_ite ?_ ?_)
      | (with_reducible refine Fr_opt ?_ fun _ => ?_)
      | (with_reducible refine Fr_sA ?_ ‹EqS S M0 _› fun _ _ => ?_)
      | (with_reducible refine Fr_sR0 ‹EqS S M0 _› fun _ _ => ?_)
      | (with_reducible refine Fr_sL ?_ ‹EqS S M0 _› fun _ _ => ?_)
      | (with_reducible refine Fr_lt fun _ => ?_)
      | intro _)
theorem fr_X9_pays {S : Nat → Bool} {w : Nat} {a1 : Int32} {a2 : Int32} {M0 M : mm} (hP_w_7 : S (w + 7) = true) (hP_w_8 : S (w + 8) = true) (e : EqS S M0 M) : Fr S M0 (X9_pays w a1 a2 M) := by
  unfold X9_pays
  repeat' (first
      | with_reducible assumption
      | with_reducible exact Fr_none
      | (with_reducible exact Fr_some ‹EqS S M0 _›)
      | (with_reducible refine Fr_gd fun _ => ?_)
      | (with_reducible refine Fr_ite ?_ ?_)
      | (with_reducible refine Fr_opt ?_ fun _ => ?_)
      | (with_reducible refine Fr_sA ?_ ‹EqS S M0 _› fun _ _ => ?_)
      | (with_reducible refine Fr_sR0 ‹EqS S M0 _› fun _ _ => ?_)
      | (with_reducible refine Fr_sL ?_ ‹EqS S M0 _› fun _ _ => ?_)
      | (with_reducible refine Fr_lt fun _ => ?_)
      | intro _)
theorem fr_X2_bills_b48 {S : Nat → Bool} {a1 : Nat} {a2 : Int32} {x5 : Int32} {M0 M : mm} (hP_a1_7 : S (a1 + 7) = true) (hP_a1_8 : S (a1 + 8) = true) (hP_a1_10 : S (a1 + 10) = true) (e : EqS S M0 M) : Fr S M0 (X2_bills_b48 a1 a2 x5 M) := by
  unfold X2_bills_b48
  repeat' (first
      | with_reducible assumption
      | with_reducible exact Fr_none
      | (with_reducible exact Fr_some ‹EqS S M0 _›)
      | (with_reducible refine Fr_gd fun _ => ?_)
      | (with_reducible refine Fr_ite ?_ ?_)
      | (with_reducible refine Fr_opt ?_ fun _ => ?_)
      | (with_reducible refine Fr_sA ?_ ‹EqS S M0 _› fun _ _ => ?_)
      | (with_reducible refine Fr_sR0 ‹EqS S M0 _› fun _ _ => ?_)
      | (with_reducible refine Fr_sL ?_ ‹EqS S M0 _› fun _ _ => ?_)
      | (with_reducible refine Fr_lt fun _ => ?_)
      | (with_reducible refine Fr_bd (fr_X9_pays ?_ ?_ ‹EqS S M0 _›) fun _ _ _ => ?_)
      | (with_reducible refine fr_X9_pays ?_ ?_ ‹EqS S M0 _›)
      | intro _)
theorem fr_X2_bills_b120 {S : Nat → Bool} {a1 : Nat} {a2 : Int32} {x3 : Int32} {x5 : Int32} {x6 : Int32} {M0 M : mm} (hP_a1_7 : S (a1 + 7) = true) (hP_a1_8 : S (a1 + 8) = true) (hP_a1_10 : S (a1 + 10) = true) (e : EqS S M0 M) : Fr S M0 (X2_bills_b120 a1 a2 x3 x5 x6 M) := by
  unfold X2_bills_b120
  repeat' (first
      | with_reducible assumption
      | with_reducible exact Fr_none
      | (with_reducible exact Fr_some ‹EqS S M0 _›)
      | (with_reducible refine Fr_gd fun _ => ?_)
      | (with_reducible refine Fr_ite ?_ ?_)
      | (with_reducible refine Fr_opt ?_ fun _ => ?_)
      | (with_reducible refine Fr_sA ?_ ‹EqS S M0 _› fun _ _ => ?_)
      | (with_reducible refine Fr_sR0 ‹EqS S M0 _› fun _ _ => ?_)
      | (with_reducible refine Fr_sL ?_ ‹EqS S M0 _› fun _ _ => ?_)
      | (with_reducible refine Fr_lt fun _ => ?_)
      | (with_reducible refine Fr_bd (fr_X9_pays ?_ ?_ ‹EqS S M0 _›) fun _ _ _ => ?_)
      | (with_reducible refine fr_X9_pays ?_ ?_ ‹EqS S M0 _›)
      | intro _)
theorem fr_X2_bills_b105 {S : Nat → Bool} {a1 : Nat} {a2 : Int32} {x3 : Int32} {x4 : Int32} {x5 : Int32} {s0 : Int32} {M0 M : mm} (hP_a1_7 : S (a1 + 7) = true) (hP_a1_8 : S (a1 + 8) = true) (hP_a1_10 : S (a1 + 10) = true) (e : EqS S M0 M) : Fr S M0 (X2_bills_b105 a1 a2 x3 x4 x5 s0 M) := by
  unfold X2_bills_b105
  repeat' (first
      | with_reducible assumption
      | with_reducible exact Fr_none
      | (with_reducible exact Fr_some ‹EqS S M0 _›)
      | (with_reducible refine Fr_gd fun _ => ?_)
      | (with_reducible refine Fr_ite ?_ ?_)
      | (with_reducible refine Fr_opt ?_ fun _ => ?_)
      | (with_reducible refine Fr_sA ?_ ‹EqS S M0 _› fun _ _ => ?_)
      | (with_reducible refine Fr_sR0 ‹EqS S M0 _› fun _ _ => ?_)
      | (with_reducible refine Fr_sL ?_ ‹EqS S M0 _› fun _ _ => ?_)
      | (with_reducible refine Fr_lt fun _ => ?_)
      | (with_reducible refine Fr_bd (fr_X9_pays ?_ ?_ ‹EqS S M0 _›) fun _ _ _ => ?_)
      | (with_reducible refine fr_X9_pays ?_ ?_ ‹EqS S M0 _›)
      | (with_reducible refine Fr_bd (fr_X2_bills_b120 ?_ ?_ ?_ ‹EqS S M0 _›) fun _ _ _ => ?_)
      | (with_reducible refine fr_X2_bills_b120 ?_ ?_ ?_ ‹EqS S M0 _›)
      | intro _)
theorem fr_X2_bills_b104 {S : Nat → Bool} {a1 : Nat} {a2 : Int32} {x3 : Int32} {x4 : Int32} {x5 : Int32} {M0 M : mm} (hP_a1_7 : S (a1 + 7) = true) (hP_a1_8 : S (a1 + 8) = true) (hP_a1_10 : S (a1 + 10) = true) (e : EqS S M0 M) : Fr S M0 (X2_bills_b104 a1 a2 x3 x4 x5 M) := by
  unfold X2_bills_b104
  repeat' (first
      | with_reducible assumption
      | with_reducible exact Fr_none
      | (with_reducible exact Fr_some ‹EqS S M0 _›)
      | (with_reducible refine Fr_gd fun _ => ?_)
      | (with_reducible refine Fr_ite ?_ ?_)
      | (with_reducible refine Fr_opt ?_ fun _ => ?_)
      | (with_reducible refine Fr_sA ?_ ‹EqS S M0 _› fun _ _ => ?_)
      | (with_reducible refine Fr_sR0 ‹EqS S M0 _› fun _ _ => ?_)
      | (with_reducible refine Fr_sL ?_ ‹EqS S M0 _› fun _ _ => ?_)
      | (with_reducible refine Fr_lt fun _ => ?_)
      | (with_reducible refine Fr_bd (fr_X2_bills_b105 ?_ ?_ ?_ ‹EqS S M0 _›) fun _ _ _ => ?_)
      | (with_reducible refine fr_X2_bills_b105 ?_ ?_ ?_ ‹EqS S M0 _›)
      | intro _)
theorem fr_X2_bills {S : Nat → Bool} {a1 : Nat} {a2 : Int32} {M0 M : mm} (hP_a1_7 : S (a1 + 7) = true) (hP_a1_8 : S (a1 + 8) = true) (hP_a1_10 : S (a1 + 10) = true) (e : EqS S M0 M) : Fr S M0 (X2_bills a1 a2 M) := by
  unfold X2_bills
  repeat' (first
      | with_reducible assumption
      | with_reducible exact Fr_none
      | (with_reducible exact Fr_some ‹EqS S M0 _›)
      | (with_reducible refine Fr_gd fun _ => ?_)
      | (with_reducible refine Fr_ite ?_ ?_)
      | (with_reducible refine Fr_opt ?_ fun _ => ?_)
      | (with_reducible refine Fr_sA ?_ ‹EqS S M0 _› fun _ _ => ?_)
      | (with_reducible refine Fr_sR0 ‹EqS S M0 _› fun _ _ => ?_)
      | (with_reducible refine Fr_sL ?_ ‹EqS S M0 _› fun _ _ => ?_)
      | (with_reducible refine Fr_lt fun _ => ?_)
      | (with_reducible refine Fr_bd (fr_X2_bills_b48 ?_ ?_ ?_ ‹EqS S M0 _›) fun _ _ _ => ?_)
      | (with_reducible refine fr_X2_bills_b48 ?_ ?_ ?_ ‹EqS S M0 _›)
      | (with_reducible refine Fr_bd (fr_X3_isForgotten  ‹EqS S M0 _›) fun _ _ _ => ?_)
      | (with_reducible refine fr_X3_isForgotten  ‹EqS S M0 _›)
      | (with_reducible refine Fr_bd (fr_X2_bills_b104 ?_ ?_ ?_ ‹EqS S M0 _›) fun _ _ _ => ?_)
      | (with_reducible refine fr_X2_bills_b104 ?_ ?_ ?_ ‹EqS S M0 _›)
      | (with_reducible refine Fr_bd (fr_X2_bills_b105 ?_ ?_ ?_ ‹EqS S M0 _›) fun _ _ _ => ?_)
      | (with_reducible refine fr_X2_bills_b105 ?_ ?_ ?_ ‹EqS S M0 _›)
      | intro _)
theorem fr_X3_hasThing {S : Nat → Bool} {a1 : Int32} {M0 M : mm}  (e : EqS S M0 M) : Fr S M0 (X3_hasThing a1 M) := by
  unfold X3_hasThing
  repeat' (first
      | with_reducible assumption
      | with_reducible exact Fr_none
      | (with_reducible exact Fr_some ‹EqS S M0 _›)
      | (with_reducible refine Fr_gd fun _ => ?_)
      | (with_reducible refine Fr_ite ?_ ?_)
      | (with_reducible refine Fr_opt ?_ fun _ => ?_)
      | (with_reducible refine Fr_sA ?_ ‹EqS S M0 _› fun _ _ => ?_)
      | (with_reducible refine Fr_sR0 ‹EqS S M0 _› fun _ _ => ?_)
      | (with_reducible refine Fr_sL ?_ ‹EqS S M0 _› fun _ _ => ?_)
      | (with_reducible refine Fr_lt fun _ => ?_)
      | intro _)
theorem fr_X9_makeWhole {S : Nat → Bool} {w : Nat} {a1 : Int32} {M0 M : mm} (hP_w_1 : S (w + 1) = true) (hP_w_2 : S (w + 2) = true) (hP_w_3 : S (w + 3) = true) (hP_w_4 : S (w + 4) = true) (e : EqS S M0 M) : Fr S M0 (X9_makeWhole w a1 M) := by
  unfold X9_makeWhole
  repeat' (first
      | with_reducible assumption
      | with_reducible exact Fr_none
      | (with_reducible exact Fr_some ‹EqS S M0 _›)
      | (with_reducible refine Fr_gd fun _ => ?_)
      | (with_reducible refine Fr_ite ?_ ?_)
      | (with_reducible refine Fr_opt ?_ fun _ => ?_)
      | (with_reducible refine Fr_sA ?_ ‹EqS S M0 _› fun _ _ => ?_)
      | (with_reducible refine Fr_sR0 ‹EqS S M0 _› fun _ _ => ?_)
      | (with_reducible refine Fr_sL ?_ ‹EqS S M0 _› fun _ _ => ?_)
      | (with_reducible refine Fr_lt fun _ => ?_)
      | intro _)
theorem fr_X2_breaks_b46 {S : Nat → Bool} {a1 : Nat} {a2 : Int32} {M0 M : mm} (hP_a1_1 : S (a1 + 1) = true) (hP_a1_2 : S (a1 + 2) = true) (hP_a1_3 : S (a1 + 3) = true) (hP_a1_4 : S (a1 + 4) = true) (hP_a1_7 : S (a1 + 7) = true) (hP_a1_8 : S (a1 + 8) = true) (hP_a1_10 : S (a1 + 10) = true) (e : EqS S M0 M) : Fr S M0 (X2_breaks_b46 a1 a2 M) := by
  unfold X2_breaks_b46
  repeat' (first
      | with_reducible assumption
      | with_reducible exact Fr_none
      | (with_reducible exact Fr_some ‹EqS S M0 _›)
      | (with_reducible refine Fr_gd fun _ => ?_)
      | (with_reducible refine Fr_ite ?_ ?_)
      | (with_reducible refine Fr_opt ?_ fun _ => ?_)
      | (with_reducible refine Fr_sA ?_ ‹EqS S M0 _› fun _ _ => ?_)
      | (with_reducible refine Fr_sR0 ‹EqS S M0 _› fun _ _ => ?_)
      | (with_reducible refine Fr_sL ?_ ‹EqS S M0 _› fun _ _ => ?_)
      | (with_reducible refine Fr_lt fun _ => ?_)
      | (with_reducible refine Fr_bd (fr_X2_bills ?_ ?_ ?_ ‹EqS S M0 _›) fun _ _ _ => ?_)
      | (with_reducible refine fr_X2_bills ?_ ?_ ?_ ‹EqS S M0 _›)
      | (with_reducible refine Fr_bd (fr_X9_makeWhole ?_ ?_ ?_ ?_ ‹EqS S M0 _›) fun _ _ _ => ?_)
      | (with_reducible refine fr_X9_makeWhole ?_ ?_ ?_ ?_ ‹EqS S M0 _›)
      | intro _)
theorem fr_X2_breaks {S : Nat → Bool} {a1 : Nat} {a2 : Int32} {M0 M : mm} (hP_a1_1 : S (a1 + 1) = true) (hP_a1_2 : S (a1 + 2) = true) (hP_a1_3 : S (a1 + 3) = true) (hP_a1_4 : S (a1 + 4) = true) (hP_a1_7 : S (a1 + 7) = true) (hP_a1_8 : S (a1 + 8) = true) (hP_a1_10 : S (a1 + 10) = true) (e : EqS S M0 M) : Fr S M0 (X2_breaks a1 a2 M) := by
  unfold X2_breaks
  repeat' (first
      | with_reducible assumption
      | with_reducible exact Fr_none
      | (with_reducible exact Fr_some ‹EqS S M0 _›)
      | (with_reducible refine Fr_gd fun _ => ?_)
      | (with_reducible refine Fr_ite ?_ ?_)
      | (with_reducible refine Fr_opt ?_ fun _ => ?_)
      | (with_reducible refine Fr_sA ?_ ‹EqS S M0 _› fun _ _ => ?_)
      | (with_reducible refine Fr_sR0 ‹EqS S M0 _› fun _ _ => ?_)
      | (with_reducible refine Fr_sL ?_ ‹EqS S M0 _› fun _ _ => ?_)
      | (with_reducible refine Fr_lt fun _ => ?_)
      | (with_reducible refine Fr_bd (fr_X2_breaks_b46 ?_ ?_ ?_ ?_ ?_ ?_ ?_ ‹EqS S M0 _›) fun _ _ _ => ?_)
      | (with_reducible refine fr_X2_breaks_b46 ?_ ?_ ?_ ?_ ?_ ?_ ?_ ‹EqS S M0 _›)
      | (with_reducible refine Fr_bd (fr_X3_hasThing  ‹EqS S M0 _›) fun _ _ _ => ?_)
      | (with_reducible refine fr_X3_hasThing  ‹EqS S M0 _›)
      | intro _)
theorem fr_X4_consider {S : Nat → Bool} {a1 : Int32} {a2 : Int32} {a3 : Int32} {M0 M : mm} (hS : ∀ k, k ∈ [21] → S k = true) (e : EqS S M0 M) : Fr S M0 (X4_consider a1 a2 a3 M) := by
  unfold X4_consider
  repeat' (first
      | with_reducible assumption
      | with_reducible exact Fr_none
      | (with_reducible exact Fr_some ‹EqS S M0 _›)
      | (with_reducible refine Fr_gd fun _ => ?_)
      | (with_reducible refine Fr_ite ?_ ?_)
      | (with_reducible refine Fr_opt ?_ fun _ => ?_)
      | (with_reducible refine Fr_sA ?_ ‹EqS S M0 _› fun _ _ => ?_)
      | (with_reducible refine Fr_sR0 ‹EqS S M0 _› fun _ _ => ?_)
      | (with_reducible refine Fr_sL ?_ ‹EqS S M0 _› fun _ _ => ?_)
      | (with_reducible refine Fr_lt fun _ => ?_)
      | exact hS _ (by decide)
      | exact subL (by decide) hS
      | intro _)
theorem fr_X4_mendsAt {S : Nat → Bool} {a1 : Int32} {M0 M : mm}  (e : EqS S M0 M) : Fr S M0 (X4_mendsAt a1 M) := by
  unfold X4_mendsAt
  repeat' (first
      | with_reducible assumption
      | with_reducible exact Fr_none
      | (with_reducible exact Fr_some ‹EqS S M0 _›)
      | (with_reducible refine Fr_gd fun _ => ?_)
      | (with_reducible refine Fr_ite ?_ ?_)
      | (with_reducible refine Fr_opt ?_ fun _ => ?_)
      | (with_reducible refine Fr_sA ?_ ‹EqS S M0 _› fun _ _ => ?_)
      | (with_reducible refine Fr_sR0 ‹EqS S M0 _› fun _ _ => ?_)
      | (with_reducible refine Fr_sL ?_ ‹EqS S M0 _› fun _ _ => ?_)
      | (with_reducible refine Fr_lt fun _ => ?_)
      | intro _)
theorem fr_X4_sideOf {S : Nat → Bool} {a0 : Int32} {a1 : Int32} {M0 M : mm}  (e : EqS S M0 M) : Fr S M0 (X4_sideOf a0 a1 M) := by
  unfold X4_sideOf
  repeat' (first
      | with_reducible assumption
      | with_reducible exact Fr_none
      | (with_reducible exact Fr_some ‹EqS S M0 _›)
      | (with_reducible refine Fr_gd fun _ => ?_)
      | (with_reducible refine Fr_ite ?_ ?_)
      | (with_reducible refine Fr_opt ?_ fun _ => ?_)
      | (with_reducible refine Fr_sA ?_ ‹EqS S M0 _› fun _ _ => ?_)
      | (with_reducible refine Fr_sR0 ‹EqS S M0 _› fun _ _ => ?_)
      | (with_reducible refine Fr_sL ?_ ‹EqS S M0 _› fun _ _ => ?_)
      | (with_reducible refine Fr_lt fun _ => ?_)
      | intro _)
theorem fr_X4_start {S : Nat → Bool} {a1 : Int32} {a2 : Int32} {M0 M : mm} (hS : ∀ k, k ∈ [21] → S k = true) (e : EqS S M0 M) : Fr S M0 (X4_start a1 a2 M) := by
  unfold X4_start
  repeat' (first
      | with_reducible assumption
      | with_reducible exact Fr_none
      | (with_reducible exact Fr_some ‹EqS S M0 _›)
      | (with_reducible refine Fr_gd fun _ => ?_)
      | (with_reducible refine Fr_ite ?_ ?_)
      | (with_reducible refine Fr_opt ?_ fun _ => ?_)
      | (with_reducible refine Fr_sA ?_ ‹EqS S M0 _› fun _ _ => ?_)
      | (with_reducible refine Fr_sR0 ‹EqS S M0 _› fun _ _ => ?_)
      | (with_reducible refine Fr_sL ?_ ‹EqS S M0 _› fun _ _ => ?_)
      | (with_reducible refine Fr_lt fun _ => ?_)
      | exact hS _ (by decide)
      | exact subL (by decide) hS
      | (with_reducible refine Fr_bd (fr_X4_sideOf  ‹EqS S M0 _›) fun _ _ _ => ?_)
      | (with_reducible refine fr_X4_sideOf  ‹EqS S M0 _›)
      | intro _)
theorem fr_J7_fill_d0a16_L6 {S : Nat → Bool} {a0 : Nat} {a1 : Int64} {M0 : mm} (hP_a0_0 : S (a0) = true) : ∀ (n_ : Nat) (z1 : Int32) (z2 : Int32) (M : mm), EqS S M0 M → Fr S M0 (J7_fill_d0a16_L6 a0 a1 n_ z1 z2 M) := by
  intro n_
  induction n_ with
  | zero =>
    intros
    exact Fr_none
  | succ n_ ih =>
    intro z1 z2 M e
    rw [J7_fill_d0a16_L6]
    repeat' (first
        | with_reducible assumption
        | with_reducible exact Fr_none
        | (with_reducible exact Fr_some ‹EqS S M0 _›)
        | (with_reducible refine Fr_gd fun _ => ?_)
        | (with_reducible refine Fr_ite ?_ ?_)
        | (with_reducible refine Fr_opt ?_ fun _ => ?_)
        | (with_reducible refine Fr_sA ?_ ‹EqS S M0 _› fun _ _ => ?_)
        | (with_reducible refine Fr_sR0 ‹EqS S M0 _› fun _ _ => ?_)
        | (with_reducible refine Fr_sL ?_ ‹EqS S M0 _› fun _ _ => ?_)
        | (with_reducible refine Fr_lt fun _ => ?_)
        | (with_reducible refine Fr_bd (ih _ _ _ ‹EqS S M0 _›) fun _ _ _ => ?_)
        | with_reducible exact ih _ _ _ ‹EqS S M0 _›
        | intro _)
theorem fr_J7_fill_d0a16 {S : Nat → Bool} {a0 : Nat} {a1 : Int64} {M0 M : mm} (hP_a0_0 : S (a0) = true) (e : EqS S M0 M) : Fr S M0 (J7_fill_d0a16 a0 a1 M) := by
  unfold J7_fill_d0a16
  repeat' (first
      | with_reducible assumption
      | with_reducible exact Fr_none
      | (with_reducible exact Fr_some ‹EqS S M0 _›)
      | (with_reducible refine Fr_gd fun _ => ?_)
      | (with_reducible refine Fr_ite ?_ ?_)
      | (with_reducible refine Fr_opt ?_ fun _ => ?_)
      | (with_reducible refine Fr_sA ?_ ‹EqS S M0 _› fun _ _ => ?_)
      | (with_reducible refine Fr_sR0 ‹EqS S M0 _› fun _ _ => ?_)
      | (with_reducible refine Fr_sL ?_ ‹EqS S M0 _› fun _ _ => ?_)
      | (with_reducible refine Fr_lt fun _ => ?_)
      | (with_reducible refine Fr_bd (fr_J7_fill_d0a16_L6 ?_ _ _ _ _ ‹EqS S M0 _›) fun _ _ _ => ?_)
      | (with_reducible refine fr_J7_fill_d0a16_L6 ?_ _ _ _ _ ‹EqS S M0 _›)
      | intro _)
theorem fr_X8_joined_b92 {S : Nat → Bool} {a0 : Int32} {a1 : Int32} {a2 : Int32} {M0 M : mm}  (e : EqS S M0 M) : Fr S M0 (X8_joined_b92 a0 a1 a2 M) := by
  unfold X8_joined_b92
  repeat' (first
      | with_reducible assumption
      | with_reducible exact Fr_none
      | (with_reducible exact Fr_some ‹EqS S M0 _›)
      | (with_reducible refine Fr_gd fun _ => ?_)
      | (with_reducible refine Fr_ite ?_ ?_)
      | (with_reducible refine Fr_opt ?_ fun _ => ?_)
      | (with_reducible refine Fr_sA ?_ ‹EqS S M0 _› fun _ _ => ?_)
      | (with_reducible refine Fr_sR0 ‹EqS S M0 _› fun _ _ => ?_)
      | (with_reducible refine Fr_sL ?_ ‹EqS S M0 _› fun _ _ => ?_)
      | (with_reducible refine Fr_lt fun _ => ?_)
      | intro _)
theorem fr_X8_joined {S : Nat → Bool} {a0 : Int32} {a1 : Int32} {a2 : Int32} {M0 M : mm}  (e : EqS S M0 M) : Fr S M0 (X8_joined a0 a1 a2 M) := by
  unfold X8_joined
  repeat' (first
      | with_reducible assumption
      | with_reducible exact Fr_none
      | (with_reducible exact Fr_some ‹EqS S M0 _›)
      | (with_reducible refine Fr_gd fun _ => ?_)
      | (with_reducible refine Fr_ite ?_ ?_)
      | (with_reducible refine Fr_opt ?_ fun _ => ?_)
      | (with_reducible refine Fr_sA ?_ ‹EqS S M0 _› fun _ _ => ?_)
      | (with_reducible refine Fr_sR0 ‹EqS S M0 _› fun _ _ => ?_)
      | (with_reducible refine Fr_sL ?_ ‹EqS S M0 _› fun _ _ => ?_)
      | (with_reducible refine Fr_lt fun _ => ?_)
      | (with_reducible refine Fr_bd (fr_X8_joined_b92  ‹EqS S M0 _›) fun _ _ _ => ?_)
      | (with_reducible refine fr_X8_joined_b92  ‹EqS S M0 _›)
      | intro _)
theorem fr_X8_workOut_b376 {S : Nat → Bool} {a1 : Int32} {a2 : Int32} {a3 : Int32} {a4 : Int32} {R9 : Int32 → Int32 → Int32 → mm → Option (Int32 × mm)} {K228 : Int32 → mm → Option (Int32 × mm)} {x5 : Int32} {x6 : Int32} {x7 : Int32} {M0 M : mm} (hR9 : ∀ (y0 : Int32) (y1 : Int32) (y2 : Int32) (M_ : mm), EqS S M0 M_ → Fr S M0 (R9 y0 y1 y2 M_)) (hK228 : ∀ (y0 : Int32) (M_ : mm), EqS S M0 M_ → Fr S M0 (K228 y0 M_)) (e : EqS S M0 M) : Fr S M0 (X8_workOut_b376 a1 a2 a3 a4 R9 K228 x5 x6 x7 M) := by
  unfold X8_workOut_b376
  repeat' (first
      | with_reducible assumption
      | with_reducible exact Fr_none
      | (with_reducible exact Fr_some ‹EqS S M0 _›)
      | (with_reducible refine Fr_gd fun _ => ?_)
      | (with_reducible refine Fr_ite ?_ ?_)
      | (with_reducible refine Fr_opt ?_ fun _ => ?_)
      | (with_reducible refine Fr_sA ?_ ‹EqS S M0 _› fun _ _ => ?_)
      | (with_reducible refine Fr_sR0 ‹EqS S M0 _› fun _ _ => ?_)
      | (with_reducible refine Fr_sL ?_ ‹EqS S M0 _› fun _ _ => ?_)
      | (with_reducible refine Fr_lt fun _ => ?_)
      | (with_reducible refine Fr_bd (hR9 _ _ _ _ ‹EqS S M0 _›) fun _ _ _ => ?_)
      | with_reducible exact hR9 _ _ _ _ ‹EqS S M0 _›
      | (with_reducible refine Fr_bd (hK228 _ _ ‹EqS S M0 _›) fun _ _ _ => ?_)
      | with_reducible exact hK228 _ _ ‹EqS S M0 _›
      | intro _)
theorem fr_X8_workOut_b331 {S : Nat → Bool} {a1 : Int32} {a2 : Int32} {a3 : Int32} {a4 : Int32} {R9 : Int32 → Int32 → Int32 → mm → Option (Int32 × mm)} {K228 : Int32 → mm → Option (Int32 × mm)} {x5 : Int32} {x6 : Int32} {x7 : Int32} {s1 : Int32} {s2 : Int32} {M0 M : mm} (hS : ∀ k, k ∈ [19] → S k = true) (hR9 : ∀ (y0 : Int32) (y1 : Int32) (y2 : Int32) (M_ : mm), EqS S M0 M_ → Fr S M0 (R9 y0 y1 y2 M_)) (hK228 : ∀ (y0 : Int32) (M_ : mm), EqS S M0 M_ → Fr S M0 (K228 y0 M_)) (e : EqS S M0 M) : Fr S M0 (X8_workOut_b331 a1 a2 a3 a4 R9 K228 x5 x6 x7 s1 s2 M) := by
  unfold X8_workOut_b331
  repeat' (first
      | with_reducible assumption
      | with_reducible exact Fr_none
      | (with_reducible exact Fr_some ‹EqS S M0 _›)
      | (with_reducible refine Fr_gd fun _ => ?_)
      | (with_reducible refine Fr_ite ?_ ?_)
      | (with_reducible refine Fr_opt ?_ fun _ => ?_)
      | (with_reducible refine Fr_sA ?_ ‹EqS S M0 _› fun _ _ => ?_)
      | (with_reducible refine Fr_sR0 ‹EqS S M0 _› fun _ _ => ?_)
      | (with_reducible refine Fr_sL ?_ ‹EqS S M0 _› fun _ _ => ?_)
      | (with_reducible refine Fr_lt fun _ => ?_)
      | exact hS _ (by decide)
      | exact subL (by decide) hS
      | (with_reducible refine Fr_bd (hR9 _ _ _ _ ‹EqS S M0 _›) fun _ _ _ => ?_)
      | with_reducible exact hR9 _ _ _ _ ‹EqS S M0 _›
      | (with_reducible refine Fr_bd (hK228 _ _ ‹EqS S M0 _›) fun _ _ _ => ?_)
      | with_reducible exact hK228 _ _ ‹EqS S M0 _›
      | (with_reducible refine Fr_bd (fr_X8_workOut_b376 ?_ ?_ ‹EqS S M0 _›) fun _ _ _ => ?_)
      | (with_reducible refine fr_X8_workOut_b376 ?_ ?_ ‹EqS S M0 _›)
      | intro _)
theorem fr_X8_workOut_b273 {S : Nat → Bool} {a1 : Int32} {a2 : Int32} {a3 : Int32} {a4 : Int32} {R9 : Int32 → Int32 → Int32 → mm → Option (Int32 × mm)} {K228 : Int32 → mm → Option (Int32 × mm)} {x5 : Int32} {x7 : Int32} {s0 : Int32} {M0 M : mm} (hR9 : ∀ (y0 : Int32) (y1 : Int32) (y2 : Int32) (M_ : mm), EqS S M0 M_ → Fr S M0 (R9 y0 y1 y2 M_)) (hK228 : ∀ (y0 : Int32) (M_ : mm), EqS S M0 M_ → Fr S M0 (K228 y0 M_)) (e : EqS S M0 M) : Fr S M0 (X8_workOut_b273 a1 a2 a3 a4 R9 K228 x5 x7 s0 M) := by
  unfold X8_workOut_b273
  repeat' (first
      | with_reducible assumption
      | with_reducible exact Fr_none
      | (with_reducible exact Fr_some ‹EqS S M0 _›)
      | (with_reducible refine Fr_gd fun _ => ?_)
      | (with_reducible refine Fr_ite ?_ ?_)
      | (with_reducible refine Fr_opt ?_ fun _ => ?_)
      | (with_reducible refine Fr_sA ?_ ‹EqS S M0 _› fun _ _ => ?_)
      | (with_reducible refine Fr_sR0 ‹EqS S M0 _› fun _ _ => ?_)
      | (with_reducible refine Fr_sL ?_ ‹EqS S M0 _› fun _ _ => ?_)
      | (with_reducible refine Fr_lt fun _ => ?_)
      | (with_reducible refine Fr_bd (hR9 _ _ _ _ ‹EqS S M0 _›) fun _ _ _ => ?_)
      | with_reducible exact hR9 _ _ _ _ ‹EqS S M0 _›
      | (with_reducible refine Fr_bd (hK228 _ _ ‹EqS S M0 _›) fun _ _ _ => ?_)
      | with_reducible exact hK228 _ _ ‹EqS S M0 _›
      | (with_reducible refine Fr_bd (fr_X8_workOut_b376 ?_ ?_ ‹EqS S M0 _›) fun _ _ _ => ?_)
      | (with_reducible refine fr_X8_workOut_b376 ?_ ?_ ‹EqS S M0 _›)
      | intro _)
theorem fr_X8_workOut_b50 {S : Nat → Bool} {a1 : Int32} {a2 : Int32} {a3 : Int32} {a4 : Int32} {R9 : Int32 → Int32 → Int32 → mm → Option (Int32 × mm)} {K228 : Int32 → mm → Option (Int32 × mm)} {x5 : Int32} {x7 : Int32} {s0 : Int32} {M0 M : mm} (hR9 : ∀ (y0 : Int32) (y1 : Int32) (y2 : Int32) (M_ : mm), EqS S M0 M_ → Fr S M0 (R9 y0 y1 y2 M_)) (hK228 : ∀ (y0 : Int32) (M_ : mm), EqS S M0 M_ → Fr S M0 (K228 y0 M_)) (e : EqS S M0 M) : Fr S M0 (X8_workOut_b50 a1 a2 a3 a4 R9 K228 x5 x7 s0 M) := by
  unfold X8_workOut_b50
  repeat' (first
      | with_reducible assumption
      | with_reducible exact Fr_none
      | (with_reducible exact Fr_some ‹EqS S M0 _›)
      | (with_reducible refine Fr_gd fun _ => ?_)
      | (with_reducible refine Fr_ite ?_ ?_)
      | (with_reducible refine Fr_opt ?_ fun _ => ?_)
      | (with_reducible refine Fr_sA ?_ ‹EqS S M0 _› fun _ _ => ?_)
      | (with_reducible refine Fr_sR0 ‹EqS S M0 _› fun _ _ => ?_)
      | (with_reducible refine Fr_sL ?_ ‹EqS S M0 _› fun _ _ => ?_)
      | (with_reducible refine Fr_lt fun _ => ?_)
      | (with_reducible refine Fr_bd (hR9 _ _ _ _ ‹EqS S M0 _›) fun _ _ _ => ?_)
      | with_reducible exact hR9 _ _ _ _ ‹EqS S M0 _›
      | (with_reducible refine Fr_bd (hK228 _ _ ‹EqS S M0 _›) fun _ _ _ => ?_)
      | with_reducible exact hK228 _ _ ‹EqS S M0 _›
      | (with_reducible refine Fr_bd (fr_X8_workOut_b376 ?_ ?_ ‹EqS S M0 _›) fun _ _ _ => ?_)
      | (with_reducible refine fr_X8_workOut_b376 ?_ ?_ ‹EqS S M0 _›)
      | intro _)
theorem fr_X8_workOut_L9 {S : Nat → Bool} {a1 : Int32} {a2 : Int32} {a3 : Int32} {a4 : Int32} {K228 : Int32 → mm → Option (Int32 × mm)} {M0 : mm} (hS : ∀ k, k ∈ [19] → S k = true) (hK228 : ∀ (y0 : Int32) (M_ : mm), EqS S M0 M_ → Fr S M0 (K228 y0 M_)) : ∀ (n_ : Nat) (z1 : Int32) (z2 : Int32) (z3 : Int32) (M : mm), EqS S M0 M → Fr S M0 (X8_workOut_L9 a1 a2 a3 a4 K228 n_ z1 z2 z3 M) := by
  intro n_
  induction n_ with
  | zero =>
    intros
    exact Fr_none
  | succ n_ ih =>
    intro z1 z2 z3 M e
    rw [X8_workOut_L9]
    repeat' (first
        | with_reducible assumption
        | with_reducible exact Fr_none
        | (with_reducible exact Fr_some ‹EqS S M0 _›)
        | (with_reducible refine Fr_gd fun _ => ?_)
        | (with_reducible refine Fr_ite ?_ ?_)
        | (with_reducible refine Fr_opt ?_ fun _ => ?_)
        | (with_reducible refine Fr_sA ?_ ‹EqS S M0 _› fun _ _ => ?_)
        | (with_reducible refine Fr_sR0 ‹EqS S M0 _› fun _ _ => ?_)
        | (with_reducible refine Fr_sL ?_ ‹EqS S M0 _› fun _ _ => ?_)
        | (with_reducible refine Fr_lt fun _ => ?_)
        | exact hS _ (by decide)
        | exact subL (by decide) hS
        | (with_reducible refine Fr_bd (hK228 _ _ ‹EqS S M0 _›) fun _ _ _ => ?_)
        | with_reducible exact hK228 _ _ ‹EqS S M0 _›
        | (with_reducible refine Fr_bd (fr_X8_workOut_b331 ?_ ?_ ?_ ‹EqS S M0 _›) fun _ _ _ => ?_)
        | (with_reducible refine fr_X8_workOut_b331 ?_ ?_ ?_ ‹EqS S M0 _›)
        | (with_reducible refine Fr_bd (fr_X8_workOut_b376 ?_ ?_ ‹EqS S M0 _›) fun _ _ _ => ?_)
        | (with_reducible refine fr_X8_workOut_b376 ?_ ?_ ‹EqS S M0 _›)
        | (with_reducible refine Fr_bd (fr_X8_workOut_b273 ?_ ?_ ‹EqS S M0 _›) fun _ _ _ => ?_)
        | (with_reducible refine fr_X8_workOut_b273 ?_ ?_ ‹EqS S M0 _›)
        | (with_reducible refine Fr_bd (fr_X8_joined  ‹EqS S M0 _›) fun _ _ _ => ?_)
        | (with_reducible refine fr_X8_joined  ‹EqS S M0 _›)
        | (with_reducible refine Fr_bd (fr_X8_workOut_b50 ?_ ?_ ‹EqS S M0 _›) fun _ _ _ => ?_)
        | (with_reducible refine fr_X8_workOut_b50 ?_ ?_ ‹EqS S M0 _›)
        | (with_reducible refine Fr_bd (ih _ _ _ _ ‹EqS S M0 _›) fun _ _ _ => ?_)
        | with_reducible exact ih _ _ _ _ ‹EqS S M0 _›
        | intro _)
theorem fr_X8_workOut {S : Nat → Bool} {a1 : Int32} {a2 : Int32} {a3 : Int32} {a4 : Int32} {M0 M : mm} (hS : ∀ k, k ∈ [19] → S k = true) (e : EqS S M0 M) : Fr S M0 (X8_workOut a1 a2 a3 a4 M) := by
  unfold X8_workOut
  repeat' (first
      | with_reducible assumption
      | with_reducible exact Fr_none
      | (with_reducible exact Fr_some ‹EqS S M0 _›)
      | (with_reducible refine Fr_gd fun _ => ?_)
      | (with_reducible refine Fr_ite ?_ ?_)
      | (with_reducible refine Fr_opt ?_ fun _ => ?_)
      | (with_reducible refine Fr_sA ?_ ‹EqS S M0 _› fun _ _ => ?_)
      | (with_reducible refine Fr_sR0 ‹EqS S M0 _› fun _ _ => ?_)
      | (with_reducible refine Fr_sL ?_ ‹EqS S M0 _› fun _ _ => ?_)
      | (with_reducible refine Fr_lt fun _ => ?_)
      | exact hS _ (by decide)
      | exact subL (by decide) hS
      | (with_reducible refine Fr_bd (fr_X8_workOut_L9 ?_ ?_ _ _ _ _ _ ‹EqS S M0 _›) fun _ _ _ => ?_)
      | (with_reducible refine fr_X8_workOut_L9 ?_ ?_ _ _ _ _ _ ‹EqS S M0 _›)
      | intro _)
theorem fr_X8_number_b105 {S : Nat → Bool} {a1 : Int32} {a2 : Int32} {a3 : Int32} {a4 : Int32} {x5 : Int32} {s0 : Int32} {M0 M : mm} (hS : ∀ k, k ∈ [20] → S k = true) (e : EqS S M0 M) : Fr S M0 (X8_number_b105 a1 a2 a3 a4 x5 s0 M) := by
  unfold X8_number_b105
  repeat' (first
      | with_reducible assumption
      | with_reducible exact Fr_none
      | (with_reducible exact Fr_some ‹EqS S M0 _›)
      | (with_reducible refine Fr_gd fun _ => ?_)
      | (with_reducible refine Fr_ite ?_ ?_)
      | (with_reducible refine Fr_opt ?_ fun _ => ?_)
      | (with_reducible refine Fr_sA ?_ ‹EqS S M0 _› fun _ _ => ?_)
      | (with_reducible refine Fr_sR0 ‹EqS S M0 _› fun _ _ => ?_)
      | (with_reducible refine Fr_sL ?_ ‹EqS S M0 _› fun _ _ => ?_)
      | (with_reducible refine Fr_lt fun _ => ?_)
      | exact hS _ (by decide)
      | exact subL (by decide) hS
      | intro _)
theorem fr_X8_number_b102 {S : Nat → Bool} {a1 : Int32} {a2 : Int32} {a3 : Int32} {a4 : Int32} {x5 : Int32} {s1 : Int32} {s2 : Int32} {s3 : Int32} {s4 : Int32} {M0 M : mm} (hS : ∀ k, k ∈ [19, 20] → S k = true) (e : EqS S M0 M) : Fr S M0 (X8_number_b102 a1 a2 a3 a4 x5 s1 s2 s3 s4 M) := by
  unfold X8_number_b102
  repeat' (first
      | with_reducible assumption
      | with_reducible exact Fr_none
      | (with_reducible exact Fr_some ‹EqS S M0 _›)
      | (with_reducible refine Fr_gd fun _ => ?_)
      | (with_reducible refine Fr_ite ?_ ?_)
      | (with_reducible refine Fr_opt ?_ fun _ => ?_)
      | (with_reducible refine Fr_sA ?_ ‹EqS S M0 _› fun _ _ => ?_)
      | (with_reducible refine Fr_sR0 ‹EqS S M0 _› fun _ _ => ?_)
      | (with_reducible refine Fr_sL ?_ ‹EqS S M0 _› fun _ _ => ?_)
      | (with_reducible refine Fr_lt fun _ => ?_)
      | exact hS _ (by decide)
      | exact subL (by decide) hS
      | (with_reducible refine Fr_bd (fr_X8_workOut ?_ ‹EqS S M0 _›) fun _ _ _ => ?_)
      | (with_reducible refine fr_X8_workOut ?_ ‹EqS S M0 _›)
      | (with_reducible refine Fr_bd (fr_X8_number_b105 ?_ ‹EqS S M0 _›) fun _ _ _ => ?_)
      | (with_reducible refine fr_X8_number_b105 ?_ ‹EqS S M0 _›)
      | intro _)
theorem fr_X8_number_b56 {S : Nat → Bool} {a1 : Int32} {a2 : Int32} {a3 : Int32} {a4 : Int32} {s0 : Int32} {s1 : Int32} {M0 M : mm} (hS : ∀ k, k ∈ [19, 20] → S k = true) (e : EqS S M0 M) : Fr S M0 (X8_number_b56 a1 a2 a3 a4 s0 s1 M) := by
  unfold X8_number_b56
  repeat' (first
      | with_reducible assumption
      | with_reducible exact Fr_none
      | (with_reducible exact Fr_some ‹EqS S M0 _›)
      | (with_reducible refine Fr_gd fun _ => ?_)
      | (with_reducible refine Fr_ite ?_ ?_)
      | (with_reducible refine Fr_opt ?_ fun _ => ?_)
      | (with_reducible refine Fr_sA ?_ ‹EqS S M0 _› fun _ _ => ?_)
      | (with_reducible refine Fr_sR0 ‹EqS S M0 _› fun _ _ => ?_)
      | (with_reducible refine Fr_sL ?_ ‹EqS S M0 _› fun _ _ => ?_)
      | (with_reducible refine Fr_lt fun _ => ?_)
      | exact hS _ (by decide)
      | exact subL (by decide) hS
      | (with_reducible refine Fr_bd (fr_X8_number_b105 ?_ ‹EqS S M0 _›) fun _ _ _ => ?_)
      | (with_reducible refine fr_X8_number_b105 ?_ ‹EqS S M0 _›)
      | (with_reducible refine Fr_bd (fr_X8_number_b102 ?_ ‹EqS S M0 _›) fun _ _ _ => ?_)
      | (with_reducible refine fr_X8_number_b102 ?_ ‹EqS S M0 _›)
      | intro _)
theorem fr_X8_number {S : Nat → Bool} {a1 : Int32} {a2 : Int32} {a3 : Int32} {a4 : Int32} {M0 M : mm} (hS : ∀ k, k ∈ [19, 20] → S k = true) (e : EqS S M0 M) : Fr S M0 (X8_number a1 a2 a3 a4 M) := by
  unfold X8_number
  repeat' (first
      | with_reducible assumption
      | with_reducible exact Fr_none
      | (with_reducible exact Fr_some ‹EqS S M0 _›)
      | (with_reducible refine Fr_gd fun _ => ?_)
      | (with_reducible refine Fr_ite ?_ ?_)
      | (with_reducible refine Fr_opt ?_ fun _ => ?_)
      | (with_reducible refine Fr_sA ?_ ‹EqS S M0 _› fun _ _ => ?_)
      | (with_reducible refine Fr_sR0 ‹EqS S M0 _› fun _ _ => ?_)
      | (with_reducible refine Fr_sL ?_ ‹EqS S M0 _› fun _ _ => ?_)
      | (with_reducible refine Fr_lt fun _ => ?_)
      | exact hS _ (by decide)
      | exact subL (by decide) hS
      | (with_reducible refine Fr_bd (fr_X8_number_b56 ?_ ‹EqS S M0 _›) fun _ _ _ => ?_)
      | (with_reducible refine fr_X8_number_b56 ?_ ‹EqS S M0 _›)
      | intro _)
theorem fr_X4_goOn_b196 {S : Nat → Bool} {a1 : Int32} {a2 : Int32} {x8 : Int64} {x10 : Int64} {s1 : Int32} {s2 : Int32} {s3 : Int32} {s4 : Int32} {M0 M : mm} (hS : ∀ k, k ∈ [19, 20] → S k = true) (e : EqS S M0 M) : Fr S M0 (X4_goOn_b196 a1 a2 x8 x10 s1 s2 s3 s4 M) := by
  unfold X4_goOn_b196
  repeat' (first
      | with_reducible assumption
      | with_reducible exact Fr_none
      | (with_reducible exact Fr_some ‹EqS S M0 _›)
      | (with_reducible refine Fr_gd fun _ => ?_)
      | (with_reducible refine Fr_ite ?_ ?_)
      | (with_reducible refine Fr_opt ?_ fun _ => ?_)
      | (with_reducible refine Fr_sA ?_ ‹EqS S M0 _› fun _ _ => ?_)
      | (with_reducible refine Fr_sR0 ‹EqS S M0 _› fun _ _ => ?_)
      | (with_reducible refine Fr_sL ?_ ‹EqS S M0 _› fun _ _ => ?_)
      | (with_reducible refine Fr_lt fun _ => ?_)
      | exact hS _ (by decide)
      | exact subL (by decide) hS
      | (with_reducible refine Fr_bd (fr_X8_number ?_ ‹EqS S M0 _›) fun _ _ _ => ?_)
      | (with_reducible refine fr_X8_number ?_ ‹EqS S M0 _›)
      | intro _)
theorem fr_X4_goOn_b176 {S : Nat → Bool} {a1 : Int32} {a2 : Int32} {x3 : Int32} {x4 : Int32} {x8 : Int64} {x10 : Int64} {M0 M : mm} (hS : ∀ k, k ∈ [19, 20] → S k = true) (e : EqS S M0 M) : Fr S M0 (X4_goOn_b176 a1 a2 x3 x4 x8 x10 M) := by
  unfold X4_goOn_b176
  repeat' (first
      | with_reducible assumption
      | with_reducible exact Fr_none
      | (with_reducible exact Fr_some ‹EqS S M0 _›)
      | (with_reducible refine Fr_gd fun _ => ?_)
      | (with_reducible refine Fr_ite ?_ ?_)
      | (with_reducible refine Fr_opt ?_ fun _ => ?_)
      | (with_reducible refine Fr_sA ?_ ‹EqS S M0 _› fun _ _ => ?_)
      | (with_reducible refine Fr_sR0 ‹EqS S M0 _› fun _ _ => ?_)
      | (with_reducible refine Fr_sL ?_ ‹EqS S M0 _› fun _ _ => ?_)
      | (with_reducible refine Fr_lt fun _ => ?_)
      | exact hS _ (by decide)
      | exact subL (by decide) hS
      | (with_reducible refine Fr_bd (fr_X4_goOn_b196 ?_ ‹EqS S M0 _›) fun _ _ _ => ?_)
      | (with_reducible refine fr_X4_goOn_b196 ?_ ‹EqS S M0 _›)
      | intro _)
theorem fr_X4_goOn_b173 {S : Nat → Bool} {a1 : Int32} {a2 : Int32} {x3 : Int32} {x4 : Int32} {x8 : Int64} {s0 : Int64} {s1 : Int64} {M0 M : mm} (hS : ∀ k, k ∈ [19, 20] → S k = true) (e : EqS S M0 M) : Fr S M0 (X4_goOn_b173 a1 a2 x3 x4 x8 s0 s1 M) := by
  unfold X4_goOn_b173
  repeat' (first
      | with_reducible assumption
      | with_reducible exact Fr_none
      | (with_reducible exact Fr_some ‹EqS S M0 _›)
      | (with_reducible refine Fr_gd fun _ => ?_)
      | (with_reducible refine Fr_ite ?_ ?_)
      | (with_reducible refine Fr_opt ?_ fun _ => ?_)
      | (with_reducible refine Fr_sA ?_ ‹EqS S M0 _› fun _ _ => ?_)
      | (with_reducible refine Fr_sR0 ‹EqS S M0 _› fun _ _ => ?_)
      | (with_reducible refine Fr_sL ?_ ‹EqS S M0 _› fun _ _ => ?_)
      | (with_reducible refine Fr_lt fun _ => ?_)
      | exact hS _ (by decide)
      | exact subL (by decide) hS
      | (with_reducible refine Fr_bd (fr_X4_goOn_b176 ?_ ‹EqS S M0 _›) fun _ _ _ => ?_)
      | (with_reducible refine fr_X4_goOn_b176 ?_ ‹EqS S M0 _›)
      | intro _)
theorem fr_X4_goOn_b137 {S : Nat → Bool} {a1 : Int32} {a2 : Int32} {x3 : Int32} {x4 : Int32} {x8 : Int64} {s0 : Int32} {M0 M : mm} (hS : ∀ k, k ∈ [19, 20] → S k = true) (e : EqS S M0 M) : Fr S M0 (X4_goOn_b137 a1 a2 x3 x4 x8 s0 M) := by
  unfold X4_goOn_b137
  repeat' (first
      | with_reducible assumption
      | with_reducible exact Fr_none
      | (with_reducible exact Fr_some ‹EqS S M0 _›)
      | (with_reducible refine Fr_gd fun _ => ?_)
      | (with_reducible refine Fr_ite ?_ ?_)
      | (with_reducible refine Fr_opt ?_ fun _ => ?_)
      | (with_reducible refine Fr_sA ?_ ‹EqS S M0 _› fun _ _ => ?_)
      | (with_reducible refine Fr_sR0 ‹EqS S M0 _› fun _ _ => ?_)
      | (with_reducible refine Fr_sL ?_ ‹EqS S M0 _› fun _ _ => ?_)
      | (with_reducible refine Fr_lt fun _ => ?_)
      | exact hS _ (by decide)
      | exact subL (by decide) hS
      | (with_reducible refine Fr_bd (fr_X4_goOn_b173 ?_ ‹EqS S M0 _›) fun _ _ _ => ?_)
      | (with_reducible refine fr_X4_goOn_b173 ?_ ‹EqS S M0 _›)
      | intro _)
theorem fr_X4_goOn_b136 {S : Nat → Bool} {a1 : Int32} {a2 : Int32} {x3 : Int32} {x4 : Int32} {x8 : Int64} {M0 M : mm} (hS : ∀ k, k ∈ [19, 20] → S k = true) (e : EqS S M0 M) : Fr S M0 (X4_goOn_b136 a1 a2 x3 x4 x8 M) := by
  unfold X4_goOn_b136
  repeat' (first
      | with_reducible assumption
      | with_reducible exact Fr_none
      | (with_reducible exact Fr_some ‹EqS S M0 _›)
      | (with_reducible refine Fr_gd fun _ => ?_)
      | (with_reducible refine Fr_ite ?_ ?_)
      | (with_reducible refine Fr_opt ?_ fun _ => ?_)
      | (with_reducible refine Fr_sA ?_ ‹EqS S M0 _› fun _ _ => ?_)
      | (with_reducible refine Fr_sR0 ‹EqS S M0 _› fun _ _ => ?_)
      | (with_reducible refine Fr_sL ?_ ‹EqS S M0 _› fun _ _ => ?_)
      | (with_reducible refine Fr_lt fun _ => ?_)
      | exact hS _ (by decide)
      | exact subL (by decide) hS
      | (with_reducible refine Fr_bd (fr_X4_goOn_b137 ?_ ‹EqS S M0 _›) fun _ _ _ => ?_)
      | (with_reducible refine fr_X4_goOn_b137 ?_ ‹EqS S M0 _›)
      | intro _)
theorem fr_X4_goOn_b53 {S : Nat → Bool} {a1 : Int32} {a2 : Int32} {x3 : Int32} {x4 : Int32} {x5 : Int32} {M0 M : mm} (hS : ∀ k, k ∈ [19, 20] → S k = true) (e : EqS S M0 M) : Fr S M0 (X4_goOn_b53 a1 a2 x3 x4 x5 M) := by
  unfold X4_goOn_b53
  repeat' (first
      | with_reducible assumption
      | with_reducible exact Fr_none
      | (with_reducible exact Fr_some ‹EqS S M0 _›)
      | (with_reducible refine Fr_gd fun _ => ?_)
      | (with_reducible refine Fr_ite ?_ ?_)
      | (with_reducible refine Fr_opt ?_ fun _ => ?_)
      | (with_reducible refine Fr_sA ?_ ‹EqS S M0 _› fun _ _ => ?_)
      | (with_reducible refine Fr_sR0 ‹EqS S M0 _› fun _ _ => ?_)
      | (with_reducible refine Fr_sL ?_ ‹EqS S M0 _› fun _ _ => ?_)
      | (with_reducible refine Fr_lt fun _ => ?_)
      | exact hS _ (by decide)
      | exact subL (by decide) hS
      | (with_reducible refine Fr_bd (fr_X4_goOn_b176 ?_ ‹EqS S M0 _›) fun _ _ _ => ?_)
      | (with_reducible refine fr_X4_goOn_b176 ?_ ‹EqS S M0 _›)
      | (with_reducible refine Fr_bd (fr_X3_isForgotten  ‹EqS S M0 _›) fun _ _ _ => ?_)
      | (with_reducible refine fr_X3_isForgotten  ‹EqS S M0 _›)
      | (with_reducible refine Fr_bd (fr_X4_goOn_b137 ?_ ‹EqS S M0 _›) fun _ _ _ => ?_)
      | (with_reducible refine fr_X4_goOn_b137 ?_ ‹EqS S M0 _›)
      | (with_reducible refine Fr_bd (fr_X4_goOn_b136 ?_ ‹EqS S M0 _›) fun _ _ _ => ?_)
      | (with_reducible refine fr_X4_goOn_b136 ?_ ‹EqS S M0 _›)
      | intro _)
theorem fr_X4_goOn_b40 {S : Nat → Bool} {a1 : Int32} {a2 : Int32} {s0 : Int32} {M0 M : mm} (hS : ∀ k, k ∈ [19, 20] → S k = true) (e : EqS S M0 M) : Fr S M0 (X4_goOn_b40 a1 a2 s0 M) := by
  unfold X4_goOn_b40
  repeat' (first
      | with_reducible assumption
      | with_reducible exact Fr_none
      | (with_reducible exact Fr_some ‹EqS S M0 _›)
      | (with_reducible refine Fr_gd fun _ => ?_)
      | (with_reducible refine Fr_ite ?_ ?_)
      | (with_reducible refine Fr_opt ?_ fun _ => ?_)
      | (with_reducible refine Fr_sA ?_ ‹EqS S M0 _› fun _ _ => ?_)
      | (with_reducible refine Fr_sR0 ‹EqS S M0 _› fun _ _ => ?_)
      | (with_reducible refine Fr_sL ?_ ‹EqS S M0 _› fun _ _ => ?_)
      | (with_reducible refine Fr_lt fun _ => ?_)
      | exact hS _ (by decide)
      | exact subL (by decide) hS
      | (with_reducible refine Fr_bd (fr_X4_goOn_b53 ?_ ‹EqS S M0 _›) fun _ _ _ => ?_)
      | (with_reducible refine fr_X4_goOn_b53 ?_ ‹EqS S M0 _›)
      | intro _)
theorem fr_X4_goOn {S : Nat → Bool} {a1 : Int32} {a2 : Int32} {M0 M : mm} (hS : ∀ k, k ∈ [19, 20] → S k = true) (e : EqS S M0 M) : Fr S M0 (X4_goOn a1 a2 M) := by
  unfold X4_goOn
  repeat' (first
      | with_reducible assumption
      | with_reducible exact Fr_none
      | (with_reducible exact Fr_some ‹EqS S M0 _›)
      | (with_reducible refine Fr_gd fun _ => ?_)
      | (with_reducible refine Fr_ite ?_ ?_)
      | (with_reducible refine Fr_opt ?_ fun _ => ?_)
      | (with_reducible refine Fr_sA ?_ ‹EqS S M0 _› fun _ _ => ?_)
      | (with_reducible refine Fr_sR0 ‹EqS S M0 _› fun _ _ => ?_)
      | (with_reducible refine Fr_sL ?_ ‹EqS S M0 _› fun _ _ => ?_)
      | (with_reducible refine Fr_lt fun _ => ?_)
      | exact hS _ (by decide)
      | exact subL (by decide) hS
      | (with_reducible refine Fr_bd (fr_X4_goOn_b53 ?_ ‹EqS S M0 _›) fun _ _ _ => ?_)
      | (with_reducible refine fr_X4_goOn_b53 ?_ ‹EqS S M0 _›)
      | (with_reducible refine Fr_bd (fr_X4_goOn_b40 ?_ ‹EqS S M0 _›) fun _ _ _ => ?_)
      | (with_reducible refine fr_X4_goOn_b40 ?_ ‹EqS S M0 _›)
      | intro _)
theorem fr_X4_turnPage {S : Nat → Bool} {M0 M : mm} (hS : ∀ k, k ∈ [21] → S k = true) (e : EqS S M0 M) : Fr S M0 (X4_turnPage M) := by
  unfold X4_turnPage
  refine ⟨fun v M' h => ?_, trivial⟩
  simp only [lt_s_, Option.some.injEq, Prod.mk.injEq] at h
  rw [← h.2]
  refine EqS_sL (hS _ (by decide)) ⟨e.1, ?_⟩
  rcases e.2 with q | q
  · exact Or.inr ⟨q.2, q.1⟩
  · exact Or.inl ⟨q.2, q.1⟩
theorem fr_X4_worthAt {S : Nat → Bool} {a1 : Int32} {M0 M : mm}  (e : EqS S M0 M) : Fr S M0 (X4_worthAt a1 M) := by
  unfold X4_worthAt
  repeat' (first
      | with_reducible assumption
      | with_reducible exact Fr_none
      | (with_reducible exact Fr_some ‹EqS S M0 _›)
      | (with_reducible refine Fr_gd fun _ => ?_)
      | (with_reducible refine Fr_ite ?_ ?_)
      | (with_reducible refine Fr_opt ?_ fun _ => ?_)
      | (with_reducible refine Fr_sA ?_ ‹EqS S M0 _› fun _ _ => ?_)
      | (with_reducible refine Fr_sR0 ‹EqS S M0 _› fun _ _ => ?_)
      | (with_reducible refine Fr_sL ?_ ‹EqS S M0 _› fun _ _ => ?_)
      | (with_reducible refine Fr_lt fun _ => ?_)
      | (with_reducible refine Fr_bd (fr_X4_mendsAt  ‹EqS S M0 _›) fun _ _ _ => ?_)
      | (with_reducible refine fr_X4_mendsAt  ‹EqS S M0 _›)
      | intro _)
theorem fr_X4_think_b106 {S : Nat → Bool} {a1 : Int32} {a2 : Int32} {R51 : Int32 → Int32 → mm → Option (Unit × mm)} {K113 : Int32 → mm → Option (Unit × mm)} {x3 : Int32} {x4 : Int32} {s1 : Int32} {s2 : Int64} {M0 M : mm} (hS : ∀ k, k ∈ [25] → S k = true) (hR51 : ∀ (y0 : Int32) (y1 : Int32) (M_ : mm), EqS S M0 M_ → Fr S M0 (R51 y0 y1 M_)) (hK113 : ∀ (y0 : Int32) (M_ : mm), EqS S M0 M_ → Fr S M0 (K113 y0 M_)) (e : EqS S M0 M) : Fr S M0 (X4_think_b106 a1 a2 R51 K113 x3 x4 s1 s2 M) := by
  unfold X4_think_b106
  repeat' (first
      | with_reducible assumption
      | with_reducible exact Fr_none
      | (with_reducible exact Fr_some ‹EqS S M0 _›)
      | (with_reducible refine Fr_gd fun _ => ?_)
      | (with_reducible refine Fr_ite ?_ ?_)
      | (with_reducible refine Fr_opt ?_ fun _ => ?_)
      | (with_reducible refine Fr_sA ?_ ‹EqS S M0 _› fun _ _ => ?_)
      | (with_reducible refine Fr_sR0 ‹EqS S M0 _› fun _ _ => ?_)
      | (with_reducible refine Fr_sL ?_ ‹EqS S M0 _› fun _ _ => ?_)
      | (with_reducible refine Fr_lt fun _ => ?_)
      | exact hS _ (by decide)
      | exact subL (by decide) hS
      | (with_reducible refine Fr_bd (hR51 _ _ _ ‹EqS S M0 _›) fun _ _ _ => ?_)
      | with_reducible exact hR51 _ _ _ ‹EqS S M0 _›
      | (with_reducible refine Fr_bd (hK113 _ _ ‹EqS S M0 _›) fun _ _ _ => ?_)
      | with_reducible exact hK113 _ _ ‹EqS S M0 _›
      | intro _)
theorem fr_X4_think_L51 {S : Nat → Bool} {a1 : Int32} {a2 : Int32} {K113 : Int32 → mm → Option (Unit × mm)} {M0 : mm} (hS : ∀ k, k ∈ [19, 20, 25] → S k = true) (hK113 : ∀ (y0 : Int32) (M_ : mm), EqS S M0 M_ → Fr S M0 (K113 y0 M_)) : ∀ (n_ : Nat) (z1 : Int32) (z2 : Int32) (M : mm), EqS S M0 M → Fr S M0 (X4_think_L51 a1 a2 K113 n_ z1 z2 M) := by
  intro n_
  induction n_ with
  | zero =>
    intros
    exact Fr_none
  | succ n_ ih =>
    intro z1 z2 M e
    rw [X4_think_L51]
    repeat' (first
        | with_reducible assumption
        | with_reducible exact Fr_none
        | (with_reducible exact Fr_some ‹EqS S M0 _›)
        | (with_reducible refine Fr_gd fun _ => ?_)
        | (with_reducible refine Fr_ite ?_ ?_)
        | (with_reducible refine Fr_opt ?_ fun _ => ?_)
        | (with_reducible refine Fr_sA ?_ ‹EqS S M0 _› fun _ _ => ?_)
        | (with_reducible refine Fr_sR0 ‹EqS S M0 _› fun _ _ => ?_)
        | (with_reducible refine Fr_sL ?_ ‹EqS S M0 _› fun _ _ => ?_)
        | (with_reducible refine Fr_lt fun _ => ?_)
        | exact hS _ (by decide)
        | exact subL (by decide) hS
        | (with_reducible refine Fr_bd (hK113 _ _ ‹EqS S M0 _›) fun _ _ _ => ?_)
        | with_reducible exact hK113 _ _ ‹EqS S M0 _›
        | (with_reducible refine Fr_bd (fr_X4_think_b106 ?_ ?_ ?_ ‹EqS S M0 _›) fun _ _ _ => ?_)
        | (with_reducible refine fr_X4_think_b106 ?_ ?_ ?_ ‹EqS S M0 _›)
        | (with_reducible refine Fr_bd (fr_X4_goOn ?_ ‹EqS S M0 _›) fun _ _ _ => ?_)
        | (with_reducible refine fr_X4_goOn ?_ ‹EqS S M0 _›)
        | (with_reducible refine Fr_bd (ih _ _ _ ‹EqS S M0 _›) fun _ _ _ => ?_)
        | with_reducible exact ih _ _ _ ‹EqS S M0 _›
        | intro _)
theorem fr_X4_think_b186 {S : Nat → Bool} {a1 : Int32} {a2 : Int32} {R116 : Int32 → Int32 → mm → Option (Unit × mm)} {K192 : Int32 → mm → Option (Unit × mm)} {x3 : Int32} {x4 : Int32} {M0 M : mm} (hR116 : ∀ (y0 : Int32) (y1 : Int32) (M_ : mm), EqS S M0 M_ → Fr S M0 (R116 y0 y1 M_)) (hK192 : ∀ (y0 : Int32) (M_ : mm), EqS S M0 M_ → Fr S M0 (K192 y0 M_)) (e : EqS S M0 M) : Fr S M0 (X4_think_b186 a1 a2 R116 K192 x3 x4 M) := by
  unfold X4_think_b186
  repeat' (first
      | with_reducible assumption
      | with_reducible exact Fr_none
      | (with_reducible exact Fr_some ‹EqS S M0 _›)
      | (with_reducible refine Fr_gd fun _ => ?_)
      | (with_reducible refine Fr_ite ?_ ?_)
      | (with_reducible refine Fr_opt ?_ fun _ => ?_)
      | (with_reducible refine Fr_sA ?_ ‹EqS S M0 _› fun _ _ => ?_)
      | (with_reducible refine Fr_sR0 ‹EqS S M0 _› fun _ _ => ?_)
      | (with_reducible refine Fr_sL ?_ ‹EqS S M0 _› fun _ _ => ?_)
      | (with_reducible refine Fr_lt fun _ => ?_)
      | (with_reducible refine Fr_bd (hR116 _ _ _ ‹EqS S M0 _›) fun _ _ _ => ?_)
      | with_reducible exact hR116 _ _ _ ‹EqS S M0 _›
      | (with_reducible refine Fr_bd (hK192 _ _ ‹EqS S M0 _›) fun _ _ _ => ?_)
      | with_reducible exact hK192 _ _ ‹EqS S M0 _›
      | intro _)
theorem fr_X4_think_L141 {S : Nat → Bool} {a1 : Int32} {a2 : Int32} {K186 : Int32 → Int32 → mm → Option (Unit × mm)} {M0 : mm} (hS : ∀ k, k ∈ [19, 20, 22, 23, 24] → S k = true) (hK186 : ∀ (y0 : Int32) (y1 : Int32) (M_ : mm), EqS S M0 M_ → Fr S M0 (K186 y0 y1 M_)) : ∀ (n_ : Nat) (z1 : Int32) (z2 : Int32) (z3 : Int32) (M : mm), EqS S M0 M → Fr S M0 (X4_think_L141 a1 a2 K186 n_ z1 z2 z3 M) := by
  intro n_
  induction n_ with
  | zero =>
    intros
    exact Fr_none
  | succ n_ ih =>
    intro z1 z2 z3 M e
    rw [X4_think_L141]
    repeat' (first
        | with_reducible assumption
        | with_reducible exact Fr_none
        | (with_reducible exact Fr_some ‹EqS S M0 _›)
        | (with_reducible refine Fr_gd fun _ => ?_)
        | (with_reducible refine Fr_ite ?_ ?_)
        | (with_reducible refine Fr_opt ?_ fun _ => ?_)
        | (with_reducible refine Fr_sA ?_ ‹EqS S M0 _› fun _ _ => ?_)
        | (with_reducible refine Fr_sR0 ‹EqS S M0 _› fun _ _ => ?_)
        | (with_reducible refine Fr_sL ?_ ‹EqS S M0 _› fun _ _ => ?_)
        | (with_reducible refine Fr_lt fun _ => ?_)
        | exact hS _ (by decide)
        | exact subL (by decide) hS
        | exact EqS_r1 ‹EqS S M0 _› (hS _ (by decide)) (hS _ (by decide))
        | exact EqS_r2 ‹EqS S M0 _› (hS _ (by decide)) (hS _ (by decide))
        | (with_reducible refine Fr_bd (hK186 _ _ _ ‹EqS S M0 _›) fun _ _ _ => ?_)
        | with_reducible exact hK186 _ _ _ ‹EqS S M0 _›
        | (with_reducible refine Fr_bd (fr_X4_goOn ?_ ‹EqS S M0 _›) fun _ _ _ => ?_)
        | (with_reducible refine fr_X4_goOn ?_ ‹EqS S M0 _›)
        | (with_reducible refine Fr_bd (fr_X4_worthAt  ‹EqS S M0 _›) fun _ _ _ => ?_)
        | (with_reducible refine fr_X4_worthAt  ‹EqS S M0 _›)
        | (with_reducible refine Fr_bd (ih _ _ _ _ ‹EqS S M0 _›) fun _ _ _ => ?_)
        | with_reducible exact ih _ _ _ _ ‹EqS S M0 _›
        | intro _)
theorem fr_X4_think_L116 {S : Nat → Bool} {a1 : Int32} {a2 : Int32} {K192 : Int32 → mm → Option (Unit × mm)} {M0 : mm} (hS : ∀ k, k ∈ [19, 20, 22, 23, 24] → S k = true) (hK192 : ∀ (y0 : Int32) (M_ : mm), EqS S M0 M_ → Fr S M0 (K192 y0 M_)) : ∀ (n_ : Nat) (z1 : Int32) (z2 : Int32) (M : mm), EqS S M0 M → Fr S M0 (X4_think_L116 a1 a2 K192 n_ z1 z2 M) := by
  intro n_
  induction n_ with
  | zero =>
    intros
    exact Fr_none
  | succ n_ ih =>
    intro z1 z2 M e
    rw [X4_think_L116]
    repeat' (first
        | with_reducible assumption
        | with_reducible exact Fr_none
        | (with_reducible exact Fr_some ‹EqS S M0 _›)
        | (with_reducible refine Fr_gd fun _ => ?_)
        | (with_reducible refine Fr_ite ?_ ?_)
        | (with_reducible refine Fr_opt ?_ fun _ => ?_)
        | (with_reducible refine Fr_sA ?_ ‹EqS S M0 _› fun _ _ => ?_)
        | (with_reducible refine Fr_sR0 ‹EqS S M0 _› fun _ _ => ?_)
        | (with_reducible refine Fr_sL ?_ ‹EqS S M0 _› fun _ _ => ?_)
        | (with_reducible refine Fr_lt fun _ => ?_)
        | exact hS _ (by decide)
        | exact subL (by decide) hS
        | exact EqS_r1 ‹EqS S M0 _› (hS _ (by decide)) (hS _ (by decide))
        | exact EqS_r2 ‹EqS S M0 _› (hS _ (by decide)) (hS _ (by decide))
        | (with_reducible refine Fr_bd (hK192 _ _ ‹EqS S M0 _›) fun _ _ _ => ?_)
        | with_reducible exact hK192 _ _ ‹EqS S M0 _›
        | (with_reducible refine Fr_bd (fr_X4_think_b186 ?_ ?_ ‹EqS S M0 _›) fun _ _ _ => ?_)
        | (with_reducible refine fr_X4_think_b186 ?_ ?_ ‹EqS S M0 _›)
        | (with_reducible refine Fr_bd (fr_X4_think_L141 ?_ ?_ _ _ _ _ _ ‹EqS S M0 _›) fun _ _ _ => ?_)
        | (with_reducible refine fr_X4_think_L141 ?_ ?_ _ _ _ _ _ ‹EqS S M0 _›)
        | (with_reducible refine Fr_bd (ih _ _ _ ‹EqS S M0 _›) fun _ _ _ => ?_)
        | with_reducible exact ih _ _ _ ‹EqS S M0 _›
        | intro _)
theorem fr_X4_think_L36 {S : Nat → Bool} {a1 : Int32} {a2 : Int32} {M0 : mm} (hS : ∀ k, k ∈ [19, 20, 21, 22, 23, 24, 25] → S k = true) : ∀ (n_ : Nat) (z1 : Int32) (M : mm), EqS S M0 M → Fr S M0 (X4_think_L36 a1 a2 n_ z1 M) := by
  intro n_
  induction n_ with
  | zero =>
    intros
    exact Fr_none
  | succ n_ ih =>
    intro z1 M e
    rw [X4_think_L36]
    repeat' (first
        | with_reducible assumption
        | with_reducible exact Fr_none
        | (with_reducible exact Fr_some ‹EqS S M0 _›)
        | (with_reducible refine Fr_gd fun _ => ?_)
        | (with_reducible refine Fr_ite ?_ ?_)
        | (with_reducible refine Fr_opt ?_ fun _ => ?_)
        | (with_reducible refine Fr_sA ?_ ‹EqS S M0 _› fun _ _ => ?_)
        | (with_reducible refine Fr_sR0 ‹EqS S M0 _› fun _ _ => ?_)
        | (with_reducible refine Fr_sL ?_ ‹EqS S M0 _› fun _ _ => ?_)
        | (with_reducible refine Fr_lt fun _ => ?_)
        | exact hS _ (by decide)
        | exact subL (by decide) hS
        | exact EqS_r1 ‹EqS S M0 _› (hS _ (by decide)) (hS _ (by decide))
        | exact EqS_r2 ‹EqS S M0 _› (hS _ (by decide)) (hS _ (by decide))
        | (with_reducible refine Fr_bd (fr_X4_think_L51 ?_ ?_ _ _ _ _ ‹EqS S M0 _›) fun _ _ _ => ?_)
        | (with_reducible refine fr_X4_think_L51 ?_ ?_ _ _ _ _ ‹EqS S M0 _›)
        | (with_reducible refine Fr_bd (fr_X4_think_L116 ?_ ?_ _ _ _ _ ‹EqS S M0 _›) fun _ _ _ => ?_)
        | (with_reducible refine fr_X4_think_L116 ?_ ?_ _ _ _ _ ‹EqS S M0 _›)
        | (with_reducible refine Fr_bd (fr_X4_turnPage ?_ ‹EqS S M0 _›) fun _ _ _ => ?_)
        | (with_reducible refine fr_X4_turnPage ?_ ‹EqS S M0 _›)
        | (with_reducible refine Fr_bd (ih _ _ ‹EqS S M0 _›) fun _ _ _ => ?_)
        | with_reducible exact ih _ _ ‹EqS S M0 _›
        | intro _)
theorem fr_X4_think {S : Nat → Bool} {a1 : Int32} {a2 : Int32} {M0 M : mm} (hS : ∀ k, k ∈ [19, 20, 21, 22, 23, 24, 25] → S k = true) (e : EqS S M0 M) : Fr S M0 (X4_think a1 a2 M) := by
  unfold X4_think
  repeat' (first
      | with_reducible assumption
      | with_reducible exact Fr_none
      | (with_reducible exact Fr_some ‹EqS S M0 _›)
      | (with_reducible refine Fr_gd fun _ => ?_)
      | (with_reducible refine Fr_ite ?_ ?_)
      | (with_reducible refine Fr_opt ?_ fun _ => ?_)
      | (with_reducible refine Fr_sA ?_ ‹EqS S M0 _› fun _ _ => ?_)
      | (with_reducible refine Fr_sR0 ‹EqS S M0 _› fun _ _ => ?_)
      | (with_reducible refine Fr_sL ?_ ‹EqS S M0 _› fun _ _ => ?_)
      | (with_reducible refine Fr_lt fun _ => ?_)
      | exact hS _ (by decide)
      | exact subL (by decide) hS
      | exact EqS_r1 ‹EqS S M0 _› (hS _ (by decide)) (hS _ (by decide))
      | exact EqS_r2 ‹EqS S M0 _› (hS _ (by decide)) (hS _ (by decide))
      | (with_reducible refine Fr_bd (fr_J7_fill_d0a16 ?_ ‹EqS S M0 _›) fun _ _ _ => ?_)
      | (with_reducible refine fr_J7_fill_d0a16 ?_ ‹EqS S M0 _›)
      | (with_reducible refine Fr_bd (fr_X4_think_L36 ?_ _ _ _ ‹EqS S M0 _›) fun _ _ _ => ?_)
      | (with_reducible refine fr_X4_think_L36 ?_ _ _ _ ‹EqS S M0 _›)
      | intro _)
theorem fr_X4_mendsInDeed_b201 {S : Nat → Bool} {a1 : Nat} {a2 : Int32} {x4 : Int32} {s1 : Int32} {s2 : Int64} {s3 : Int32} {M0 M : mm} (hS : ∀ k, k ∈ [26] → S k = true) (e : EqS S M0 M) : Fr S M0 (X4_mendsInDeed_b201 a1 a2 x4 s1 s2 s3 M) := by
  unfold X4_mendsInDeed_b201
  repeat' (first
      | with_reducible assumption
      | with_reducible exact Fr_none
      | (with_reducible exact Fr_some ‹EqS S M0 _›)
      | (with_reducible refine Fr_gd fun _ => ?_)
      | (with_reducible refine Fr_ite ?_ ?_)
      | (with_reducible refine Fr_opt ?_ fun _ => ?_)
      | (with_reducible refine Fr_sA ?_ ‹EqS S M0 _› fun _ _ => ?_)
      | (with_reducible refine Fr_sR0 ‹EqS S M0 _› fun _ _ => ?_)
      | (with_reducible refine Fr_sL ?_ ‹EqS S M0 _› fun _ _ => ?_)
      | (with_reducible refine Fr_lt fun _ => ?_)
      | exact hS _ (by decide)
      | exact subL (by decide) hS
      | (with_reducible refine Fr_bd (fr_X4_mendsAt  ‹EqS S M0 _›) fun _ _ _ => ?_)
      | (with_reducible refine fr_X4_mendsAt  ‹EqS S M0 _›)
      | intro _)
theorem fr_X4_mendsInDeed {S : Nat → Bool} {a1 : Nat} {a2 : Int32} {M0 M : mm} (hS : ∀ k, k ∈ [19, 20, 21, 22, 23, 24, 25, 26] → S k = true) (e : EqS S M0 M) : Fr S M0 (X4_mendsInDeed a1 a2 M) := by
  unfold X4_mendsInDeed
  repeat' (first
      | with_reducible assumption
      | with_reducible exact Fr_none
      | (with_reducible exact Fr_some ‹EqS S M0 _›)
      | (with_reducible refine Fr_gd fun _ => ?_)
      | (with_reducible refine Fr_ite ?_ ?_)
      | (with_reducible refine Fr_opt ?_ fun _ => ?_)
      | (with_reducible refine Fr_sA ?_ ‹EqS S M0 _› fun _ _ => ?_)
      | (with_reducible refine Fr_sR0 ‹EqS S M0 _› fun _ _ => ?_)
      | (with_reducible refine Fr_sL ?_ ‹EqS S M0 _› fun _ _ => ?_)
      | (with_reducible refine Fr_lt fun _ => ?_)
      | exact hS _ (by decide)
      | exact subL (by decide) hS
      | exact EqS_r1 ‹EqS S M0 _› (hS _ (by decide)) (hS _ (by decide))
      | exact EqS_r2 ‹EqS S M0 _› (hS _ (by decide)) (hS _ (by decide))
      | (with_reducible refine Fr_bd (fr_X4_sideOf  ‹EqS S M0 _›) fun _ _ _ => ?_)
      | (with_reducible refine fr_X4_sideOf  ‹EqS S M0 _›)
      | (with_reducible refine Fr_bd (fr_X4_consider ?_ ‹EqS S M0 _›) fun _ _ _ => ?_)
      | (with_reducible refine fr_X4_consider ?_ ‹EqS S M0 _›)
      | (with_reducible refine Fr_bd (fr_X4_start ?_ ‹EqS S M0 _›) fun _ _ _ => ?_)
      | (with_reducible refine fr_X4_start ?_ ‹EqS S M0 _›)
      | (with_reducible refine Fr_bd (fr_X4_think ?_ ‹EqS S M0 _›) fun _ _ _ => ?_)
      | (with_reducible refine fr_X4_think ?_ ‹EqS S M0 _›)
      | (with_reducible refine Fr_bd (fr_X4_mendsAt  ‹EqS S M0 _›) fun _ _ _ => ?_)
      | (with_reducible refine fr_X4_mendsAt  ‹EqS S M0 _›)
      | (with_reducible refine Fr_bd (fr_X4_mendsInDeed_b201 ?_ ‹EqS S M0 _›) fun _ _ _ => ?_)
      | (with_reducible refine fr_X4_mendsInDeed_b201 ?_ ‹EqS S M0 _›)
      | intro _)
theorem fr_X9_driveNail_b43 {S : Nat → Bool} {w : Nat} {a1 : Int32} {a2 : Int32} {x3 : Int32} {M0 M : mm} (hP_w_5 : S (w + 5) = true) (hP_w_6 : S (w + 6) = true) (e : EqS S M0 M) : Fr S M0 (X9_driveNail_b43 w a1 a2 x3 M) := by
  unfold X9_driveNail_b43
  repeat' (first
      | with_reducible assumption
      | with_reducible exact Fr_none
      | (with_reducible exact Fr_some ‹EqS S M0 _›)
      | (with_reducible refine Fr_gd fun _ => ?_)
      | (with_reducible refine Fr_ite ?_ ?_)
      | (with_reducible refine Fr_opt ?_ fun _ => ?_)
      | (with_reducible refine Fr_sA ?_ ‹EqS S M0 _› fun _ _ => ?_)
      | (with_reducible refine Fr_sR0 ‹EqS S M0 _› fun _ _ => ?_)
      | (with_reducible refine Fr_sL ?_ ‹EqS S M0 _› fun _ _ => ?_)
      | (with_reducible refine Fr_lt fun _ => ?_)
      | intro _)
theorem fr_X9_driveNail {S : Nat → Bool} {w : Nat} {a1 : Int32} {a2 : Int32} {M0 M : mm} (hP_w_5 : S (w + 5) = true) (hP_w_6 : S (w + 6) = true) (e : EqS S M0 M) : Fr S M0 (X9_driveNail w a1 a2 M) := by
  unfold X9_driveNail
  repeat' (first
      | with_reducible assumption
      | with_reducible exact Fr_none
      | (with_reducible exact Fr_some ‹EqS S M0 _›)
      | (with_reducible refine Fr_gd fun _ => ?_)
      | (with_reducible refine Fr_ite ?_ ?_)
      | (with_reducible refine Fr_opt ?_ fun _ => ?_)
      | (with_reducible refine Fr_sA ?_ ‹EqS S M0 _› fun _ _ => ?_)
      | (with_reducible refine Fr_sR0 ‹EqS S M0 _› fun _ _ => ?_)
      | (with_reducible refine Fr_sL ?_ ‹EqS S M0 _› fun _ _ => ?_)
      | (with_reducible refine Fr_lt fun _ => ?_)
      | (with_reducible refine Fr_bd (fr_X9_driveNail_b43 ?_ ?_ ‹EqS S M0 _›) fun _ _ _ => ?_)
      | (with_reducible refine fr_X9_driveNail_b43 ?_ ?_ ‹EqS S M0 _›)
      | intro _)
theorem fr_X9_mendedBy {S : Nat → Bool} {w : Nat} {a1 : Int32} {a2 : Int32} {a3 : Int32} {a4 : Int32} {M0 M : mm} (hP_w_1 : S (w + 1) = true) (hP_w_2 : S (w + 2) = true) (hP_w_3 : S (w + 3) = true) (hP_w_4 : S (w + 4) = true) (hP_w_5 : S (w + 5) = true) (hP_w_6 : S (w + 6) = true) (hP_w_7 : S (w + 7) = true) (hP_w_9 : S (w + 9) = true) (e : EqS S M0 M) : Fr S M0 (X9_mendedBy w a1 a2 a3 a4 M) := by
  unfold X9_mendedBy
  repeat' (first
      | with_reducible assumption
      | with_reducible exact Fr_none
      | (with_reducible exact Fr_some ‹EqS S M0 _›)
      | (with_reducible refine Fr_gd fun _ => ?_)
      | (with_reducible refine Fr_ite ?_ ?_)
      | (with_reducible refine Fr_opt ?_ fun _ => ?_)
      | (with_reducible refine Fr_sA ?_ ‹EqS S M0 _› fun _ _ => ?_)
      | (with_reducible refine Fr_sR0 ‹EqS S M0 _› fun _ _ => ?_)
      | (with_reducible refine Fr_sL ?_ ‹EqS S M0 _› fun _ _ => ?_)
      | (with_reducible refine Fr_lt fun _ => ?_)
      | (with_reducible refine Fr_bd (fr_X9_driveNail ?_ ?_ ‹EqS S M0 _›) fun _ _ _ => ?_)
      | (with_reducible refine fr_X9_driveNail ?_ ?_ ‹EqS S M0 _›)
      | intro _)
theorem fr_X2_year_b99 {S : Nat → Bool} {a1 : Nat} {R2 : Int32 → mm → Option (Int32 × mm)} {K105 : mm → Option (Int32 × mm)} {x2 : Int32} {M0 M : mm} (hR2 : ∀ (y0 : Int32) (M_ : mm), EqS S M0 M_ → Fr S M0 (R2 y0 M_)) (hK105 : ∀  (M_ : mm), EqS S M0 M_ → Fr S M0 (K105  M_)) (e : EqS S M0 M) : Fr S M0 (X2_year_b99 a1 R2 K105 x2 M) := by
  unfold X2_year_b99
  repeat' (first
      | with_reducible assumption
      | with_reducible exact Fr_none
      | (with_reducible exact Fr_some ‹EqS S M0 _›)
      | (with_reducible refine Fr_gd fun _ => ?_)
      | (with_reducible refine Fr_ite ?_ ?_)
      | (with_reducible refine Fr_opt ?_ fun _ => ?_)
      | (with_reducible refine Fr_sA ?_ ‹EqS S M0 _› fun _ _ => ?_)
      | (with_reducible refine Fr_sR0 ‹EqS S M0 _› fun _ _ => ?_)
      | (with_reducible refine Fr_sL ?_ ‹EqS S M0 _› fun _ _ => ?_)
      | (with_reducible refine Fr_lt fun _ => ?_)
      | (with_reducible refine Fr_bd (hR2 _ _ ‹EqS S M0 _›) fun _ _ _ => ?_)
      | with_reducible exact hR2 _ _ ‹EqS S M0 _›
      | (with_reducible refine Fr_bd (hK105  _ ‹EqS S M0 _›) fun _ _ _ => ?_)
      | with_reducible exact hK105  _ ‹EqS S M0 _›
      | intro _)
theorem fr_X2_year_b68 {S : Nat → Bool} {a1 : Nat} {R2 : Int32 → mm → Option (Int32 × mm)} {K105 : mm → Option (Int32 × mm)} {x2 : Int32} {x3 : Int32} {s0 : Int32} {M0 M : mm} (hP_a1_1 : S (a1 + 1) = true) (hP_a1_2 : S (a1 + 2) = true) (hP_a1_3 : S (a1 + 3) = true) (hP_a1_4 : S (a1 + 4) = true) (hP_a1_5 : S (a1 + 5) = true) (hP_a1_6 : S (a1 + 6) = true) (hP_a1_7 : S (a1 + 7) = true) (hP_a1_9 : S (a1 + 9) = true) (hR2 : ∀ (y0 : Int32) (M_ : mm), EqS S M0 M_ → Fr S M0 (R2 y0 M_)) (hK105 : ∀  (M_ : mm), EqS S M0 M_ → Fr S M0 (K105  M_)) (e : EqS S M0 M) : Fr S M0 (X2_year_b68 a1 R2 K105 x2 x3 s0 M) := by
  unfold X2_year_b68
  repeat' (first
      | with_reducible assumption
      | with_reducible exact Fr_none
      | (with_reducible exact Fr_some ‹EqS S M0 _›)
      | (with_reducible refine Fr_gd fun _ => ?_)
      | (with_reducible refine Fr_ite ?_ ?_)
      | (with_reducible refine Fr_opt ?_ fun _ => ?_)
      | (with_reducible refine Fr_sA ?_ ‹EqS S M0 _› fun _ _ => ?_)
      | (with_reducible refine Fr_sR0 ‹EqS S M0 _› fun _ _ => ?_)
      | (with_reducible refine Fr_sL ?_ ‹EqS S M0 _› fun _ _ => ?_)
      | (with_reducible refine Fr_lt fun _ => ?_)
      | (with_reducible refine Fr_bd (hR2 _ _ ‹EqS S M0 _›) fun _ _ _ => ?_)
      | with_reducible exact hR2 _ _ ‹EqS S M0 _›
      | (with_reducible refine Fr_bd (hK105  _ ‹EqS S M0 _›) fun _ _ _ => ?_)
      | with_reducible exact hK105  _ ‹EqS S M0 _›
      | (with_reducible refine Fr_bd (fr_X2_year_b99 ?_ ?_ ‹EqS S M0 _›) fun _ _ _ => ?_)
      | (with_reducible refine fr_X2_year_b99 ?_ ?_ ‹EqS S M0 _›)
      | (with_reducible refine Fr_bd (fr_X9_mendedBy ?_ ?_ ?_ ?_ ?_ ?_ ?_ ?_ ‹EqS S M0 _›) fun _ _ _ => ?_)
      | (with_reducible refine fr_X9_mendedBy ?_ ?_ ?_ ?_ ?_ ?_ ?_ ?_ ‹EqS S M0 _›)
      | intro _)
theorem fr_X2_year_L2 {S : Nat → Bool} {a1 : Nat} {K105 : mm → Option (Int32 × mm)} {M0 : mm} (hS : ∀ k, k ∈ [19, 20, 21, 22, 23, 24, 25, 26] → S k = true) (hP_a1_1 : S (a1 + 1) = true) (hP_a1_2 : S (a1 + 2) = true) (hP_a1_3 : S (a1 + 3) = true) (hP_a1_4 : S (a1 + 4) = true) (hP_a1_5 : S (a1 + 5) = true) (hP_a1_6 : S (a1 + 6) = true) (hP_a1_7 : S (a1 + 7) = true) (hP_a1_9 : S (a1 + 9) = true) (hK105 : ∀  (M_ : mm), EqS S M0 M_ → Fr S M0 (K105  M_)) : ∀ (n_ : Nat) (z1 : Int32) (M : mm), EqS S M0 M → Fr S M0 (X2_year_L2 a1 K105 n_ z1 M) := by
  intro n_
  induction n_ with
  | zero =>
    intros
    exact Fr_none
  | succ n_ ih =>
    intro z1 M e
    rw [X2_year_L2]
    repeat' (first
        | with_reducible assumption
        | with_reducible exact Fr_none
        | (with_reducible exact Fr_some ‹EqS S M0 _›)
        | (with_reducible refine Fr_gd fun _ => ?_)
        | (with_reducible refine Fr_ite ?_ ?_)
        | (with_reducible refine Fr_opt ?_ fun _ => ?_)
        | (with_reducible refine Fr_sA ?_ ‹EqS S M0 _› fun _ _ => ?_)
        | (with_reducible refine Fr_sR0 ‹EqS S M0 _› fun _ _ => ?_)
        | (with_reducible refine Fr_sL ?_ ‹EqS S M0 _› fun _ _ => ?_)
        | (with_reducible refine Fr_lt fun _ => ?_)
        | exact hS _ (by decide)
        | exact subL (by decide) hS
        | exact EqS_r1 ‹EqS S M0 _› (hS _ (by decide)) (hS _ (by decide))
        | exact EqS_r2 ‹EqS S M0 _› (hS _ (by decide)) (hS _ (by decide))
        | (with_reducible refine Fr_bd (hK105  _ ‹EqS S M0 _›) fun _ _ _ => ?_)
        | with_reducible exact hK105  _ ‹EqS S M0 _›
        | (with_reducible refine Fr_bd (fr_X4_mendsInDeed ?_ ‹EqS S M0 _›) fun _ _ _ => ?_)
        | (with_reducible refine fr_X4_mendsInDeed ?_ ‹EqS S M0 _›)
        | (with_reducible refine Fr_bd (fr_X2_year_b68 ?_ ?_ ?_ ?_ ?_ ?_ ?_ ?_ ?_ ?_ ‹EqS S M0 _›) fun _ _ _ => ?_)
        | (with_reducible refine fr_X2_year_b68 ?_ ?_ ?_ ?_ ?_ ?_ ?_ ?_ ?_ ?_ ‹EqS S M0 _›)
        | (with_reducible refine Fr_bd (ih _ _ ‹EqS S M0 _›) fun _ _ _ => ?_)
        | with_reducible exact ih _ _ ‹EqS S M0 _›
        | intro _)
theorem fr_X2_year_b192 {S : Nat → Bool} {a1 : Nat} {R107 : Int32 → mm → Option (Int32 × mm)} {K198 : mm → Option (Int32 × mm)} {x2 : Int32} {M0 M : mm} (hR107 : ∀ (y0 : Int32) (M_ : mm), EqS S M0 M_ → Fr S M0 (R107 y0 M_)) (hK198 : ∀  (M_ : mm), EqS S M0 M_ → Fr S M0 (K198  M_)) (e : EqS S M0 M) : Fr S M0 (X2_year_b192 a1 R107 K198 x2 M) := by
  unfold X2_year_b192
  repeat' (first
      | with_reducible assumption
      | with_reducible exact Fr_none
      | (with_reducible exact Fr_some ‹EqS S M0 _›)
      | (with_reducible refine Fr_gd fun _ => ?_)
      | (with_reducible refine Fr_ite ?_ ?_)
      | (with_reducible refine Fr_opt ?_ fun _ => ?_)
      | (with_reducible refine Fr_sA ?_ ‹EqS S M0 _› fun _ _ => ?_)
      | (with_reducible refine Fr_sR0 ‹EqS S M0 _› fun _ _ => ?_)
      | (with_reducible refine Fr_sL ?_ ‹EqS S M0 _› fun _ _ => ?_)
      | (with_reducible refine Fr_lt fun _ => ?_)
      | (with_reducible refine Fr_bd (hR107 _ _ ‹EqS S M0 _›) fun _ _ _ => ?_)
      | with_reducible exact hR107 _ _ ‹EqS S M0 _›
      | (with_reducible refine Fr_bd (hK198  _ ‹EqS S M0 _›) fun _ _ _ => ?_)
      | with_reducible exact hK198  _ ‹EqS S M0 _›
      | intro _)
theorem fr_X2_year_b176 {S : Nat → Bool} {a1 : Nat} {R107 : Int32 → mm → Option (Int32 × mm)} {K198 : mm → Option (Int32 × mm)} {x2 : Int32} {s0 : Int32} {s2 : Int32} {s3 : Int32} {s4 : Int32} {s5 : Int32} {M0 M : mm} (hS : ∀ k, k ∈ [19, 20] → S k = true) (hP_a1_1 : S (a1 + 1) = true) (hR107 : ∀ (y0 : Int32) (M_ : mm), EqS S M0 M_ → Fr S M0 (R107 y0 M_)) (hK198 : ∀  (M_ : mm), EqS S M0 M_ → Fr S M0 (K198  M_)) (e : EqS S M0 M) : Fr S M0 (X2_year_b176 a1 R107 K198 x2 s0 s2 s3 s4 s5 M) := by
  unfold X2_year_b176
  repeat' (first
      | with_reducible assumption
      | with_reducible exact Fr_none
      | (with_reducible exact Fr_some ‹EqS S M0 _›)
      | (with_reducible refine Fr_gd fun _ => ?_)
      | (with_reducible refine Fr_ite ?_ ?_)
      | (with_reducible refine Fr_opt ?_ fun _ => ?_)
      | (with_reducible refine Fr_sA ?_ ‹EqS S M0 _› fun _ _ => ?_)
      | (with_reducible refine Fr_sR0 ‹EqS S M0 _› fun _ _ => ?_)
      | (with_reducible refine Fr_sL ?_ ‹EqS S M0 _› fun _ _ => ?_)
      | (with_reducible refine Fr_lt fun _ => ?_)
      | exact hS _ (by decide)
      | exact subL (by decide) hS
      | (with_reducible refine Fr_bd (hR107 _ _ ‹EqS S M0 _›) fun _ _ _ => ?_)
      | with_reducible exact hR107 _ _ ‹EqS S M0 _›
      | (with_reducible refine Fr_bd (hK198  _ ‹EqS S M0 _›) fun _ _ _ => ?_)
      | with_reducible exact hK198  _ ‹EqS S M0 _›
      | (with_reducible refine Fr_bd (fr_X8_number ?_ ‹EqS S M0 _›) fun _ _ _ => ?_)
      | (with_reducible refine fr_X8_number ?_ ‹EqS S M0 _›)
      | (with_reducible refine Fr_bd (fr_X2_year_b192 ?_ ?_ ‹EqS S M0 _›) fun _ _ _ => ?_)
      | (with_reducible refine fr_X2_year_b192 ?_ ?_ ‹EqS S M0 _›)
      | intro _)
theorem fr_X2_year_L107 {S : Nat → Bool} {a1 : Nat} {K198 : mm → Option (Int32 × mm)} {M0 : mm} (hS : ∀ k, k ∈ [19, 20, 27] → S k = true) (hP_a1_1 : S (a1 + 1) = true) (hK198 : ∀  (M_ : mm), EqS S M0 M_ → Fr S M0 (K198  M_)) : ∀ (n_ : Nat) (z1 : Int32) (M : mm), EqS S M0 M → Fr S M0 (X2_year_L107 a1 K198 n_ z1 M) := by
  intro n_
  induction n_ with
  | zero =>
    intros
    exact Fr_none
  | succ n_ ih =>
    intro z1 M e
    rw [X2_year_L107]
    repeat' (first
        | with_reducible assumption
        | with_reducible exact Fr_none
        | (with_reducible exact Fr_some ‹EqS S M0 _›)
        | (with_reducible refine Fr_gd fun _ => ?_)
        | (with_reducible refine Fr_ite ?_ ?_)
        | (with_reducible refine Fr_opt ?_ fun _ => ?_)
        | (with_reducible refine Fr_sA ?_ ‹EqS S M0 _› fun _ _ => ?_)
        | (with_reducible refine Fr_sR0 ‹EqS S M0 _› fun _ _ => ?_)
        | (with_reducible refine Fr_sL ?_ ‹EqS S M0 _› fun _ _ => ?_)
        | (with_reducible refine Fr_lt fun _ => ?_)
        | exact hS _ (by decide)
        | exact subL (by decide) hS
        | (with_reducible refine Fr_bd (hK198  _ ‹EqS S M0 _›) fun _ _ _ => ?_)
        | with_reducible exact hK198  _ ‹EqS S M0 _›
        | (with_reducible refine Fr_bd (fr_X2_year_b176 ?_ ?_ ?_ ?_ ‹EqS S M0 _›) fun _ _ _ => ?_)
        | (with_reducible refine fr_X2_year_b176 ?_ ?_ ?_ ?_ ‹EqS S M0 _›)
        | (with_reducible refine Fr_bd (ih _ _ ‹EqS S M0 _›) fun _ _ _ => ?_)
        | with_reducible exact ih _ _ ‹EqS S M0 _›
        | intro _)
theorem fr_X2_year_b287 {S : Nat → Bool} {a1 : Nat} {R202 : Int32 → Int32 → mm → Option (Int32 × mm)} {K293 : Int32 → mm → Option (Int32 × mm)} {x2 : Int32} {x3 : Int32} {M0 M : mm} (hR202 : ∀ (y0 : Int32) (y1 : Int32) (M_ : mm), EqS S M0 M_ → Fr S M0 (R202 y0 y1 M_)) (hK293 : ∀ (y0 : Int32) (M_ : mm), EqS S M0 M_ → Fr S M0 (K293 y0 M_)) (e : EqS S M0 M) : Fr S M0 (X2_year_b287 a1 R202 K293 x2 x3 M) := by
  unfold X2_year_b287
  repeat' (first
      | with_reducible assumption
      | with_reducible exact Fr_none
      | (with_reducible exact Fr_some ‹EqS S M0 _›)
      | (with_reducible refine Fr_gd fun _ => ?_)
      | (with_reducible refine Fr_ite ?_ ?_)
      | (with_reducible refine Fr_opt ?_ fun _ => ?_)
      | (with_reducible refine Fr_sA ?_ ‹EqS S M0 _› fun _ _ => ?_)
      | (with_reducible refine Fr_sR0 ‹EqS S M0 _› fun _ _ => ?_)
      | (with_reducible refine Fr_sL ?_ ‹EqS S M0 _› fun _ _ => ?_)
      | (with_reducible refine Fr_lt fun _ => ?_)
      | (with_reducible refine Fr_bd (hR202 _ _ _ ‹EqS S M0 _›) fun _ _ _ => ?_)
      | with_reducible exact hR202 _ _ _ ‹EqS S M0 _›
      | (with_reducible refine Fr_bd (hK293 _ _ ‹EqS S M0 _›) fun _ _ _ => ?_)
      | with_reducible exact hK293 _ _ ‹EqS S M0 _›
      | intro _)
theorem fr_X2_year_L202 {S : Nat → Bool} {a1 : Nat} {K293 : Int32 → mm → Option (Int32 × mm)} {M0 : mm} (hP_a1_1 : S (a1 + 1) = true) (hP_a1_2 : S (a1 + 2) = true) (hP_a1_3 : S (a1 + 3) = true) (hP_a1_4 : S (a1 + 4) = true) (hP_a1_7 : S (a1 + 7) = true) (hP_a1_8 : S (a1 + 8) = true) (hP_a1_10 : S (a1 + 10) = true) (hK293 : ∀ (y0 : Int32) (M_ : mm), EqS S M0 M_ → Fr S M0 (K293 y0 M_)) : ∀ (n_ : Nat) (z1 : Int32) (z2 : Int32) (M : mm), EqS S M0 M → Fr S M0 (X2_year_L202 a1 K293 n_ z1 z2 M) := by
  intro n_
  induction n_ with
  | zero =>
    intros
    exact Fr_none
  | succ n_ ih =>
    intro z1 z2 M e
    rw [X2_year_L202]
    repeat' (first
        | with_reducible assumption
        | with_reducible exact Fr_none
        | (with_reducible exact Fr_some ‹EqS S M0 _›)
        | (with_reducible refine Fr_gd fun _ => ?_)
        | (with_reducible refine Fr_ite ?_ ?_)
        | (with_reducible refine Fr_opt ?_ fun _ => ?_)
        | (with_reducible refine Fr_sA ?_ ‹EqS S M0 _› fun _ _ => ?_)
        | (with_reducible refine Fr_sR0 ‹EqS S M0 _› fun _ _ => ?_)
        | (with_reducible refine Fr_sL ?_ ‹EqS S M0 _› fun _ _ => ?_)
        | (with_reducible refine Fr_lt fun _ => ?_)
        | (with_reducible refine Fr_bd (hK293 _ _ ‹EqS S M0 _›) fun _ _ _ => ?_)
        | with_reducible exact hK293 _ _ ‹EqS S M0 _›
        | (with_reducible refine Fr_bd (fr_X2_year_b287 ?_ ?_ ‹EqS S M0 _›) fun _ _ _ => ?_)
        | (with_reducible refine fr_X2_year_b287 ?_ ?_ ‹EqS S M0 _›)
        | (with_reducible refine Fr_bd (fr_X2_breaks ?_ ?_ ?_ ?_ ?_ ?_ ?_ ‹EqS S M0 _›) fun _ _ _ => ?_)
        | (with_reducible refine fr_X2_breaks ?_ ?_ ?_ ?_ ?_ ?_ ?_ ‹EqS S M0 _›)
        | (with_reducible refine Fr_bd (ih _ _ _ ‹EqS S M0 _›) fun _ _ _ => ?_)
        | with_reducible exact ih _ _ _ ‹EqS S M0 _›
        | intro _)
theorem fr_X2_year {S : Nat → Bool} {a1 : Nat} {M0 M : mm} (hS : ∀ k, k ∈ [19, 20, 21, 22, 23, 24, 25, 26, 27] → S k = true) (hP_a1_0 : S (a1) = true) (hP_a1_1 : S (a1 + 1) = true) (hP_a1_2 : S (a1 + 2) = true) (hP_a1_3 : S (a1 + 3) = true) (hP_a1_4 : S (a1 + 4) = true) (hP_a1_5 : S (a1 + 5) = true) (hP_a1_6 : S (a1 + 6) = true) (hP_a1_7 : S (a1 + 7) = true) (hP_a1_8 : S (a1 + 8) = true) (hP_a1_9 : S (a1 + 9) = true) (hP_a1_10 : S (a1 + 10) = true) (e : EqS S M0 M) : Fr S M0 (X2_year a1 M) := by
  unfold X2_year
  repeat' (first
      | with_reducible assumption
      | with_reducible exact Fr_none
      | (with_reducible exact Fr_some ‹EqS S M0 _›)
      | (with_reducible refine Fr_gd fun _ => ?_)
      | (with_reducible refine Fr_ite ?_ ?_)
      | (with_reducible refine Fr_opt ?_ fun _ => ?_)
      | (with_reducible refine Fr_sA ?_ ‹EqS S M0 _› fun _ _ => ?_)
      | (with_reducible refine Fr_sR0 ‹EqS S M0 _› fun _ _ => ?_)
      | (with_reducible refine Fr_sL ?_ ‹EqS S M0 _› fun _ _ => ?_)
      | (with_reducible refine Fr_lt fun _ => ?_)
      | exact hS _ (by decide)
      | exact subL (by decide) hS
      | exact EqS_r1 ‹EqS S M0 _› (hS _ (by decide)) (hS _ (by decide))
      | exact EqS_r2 ‹EqS S M0 _› (hS _ (by decide)) (hS _ (by decide))
      | (with_reducible refine Fr_bd (fr_X2_year_L2 ?_ ?_ ?_ ?_ ?_ ?_ ?_ ?_ ?_ ?_ _ _ _ ‹EqS S M0 _›) fun _ _ _ => ?_)
      | (with_reducible refine fr_X2_year_L2 ?_ ?_ ?_ ?_ ?_ ?_ ?_ ?_ ?_ ?_ _ _ _ ‹EqS S M0 _›)
      | (with_reducible refine Fr_bd (fr_X2_year_L107 ?_ ?_ ?_ _ _ _ ‹EqS S M0 _›) fun _ _ _ => ?_)
      | (with_reducible refine fr_X2_year_L107 ?_ ?_ ?_ _ _ _ ‹EqS S M0 _›)
      | (with_reducible refine Fr_bd (fr_X2_year_L202 ?_ ?_ ?_ ?_ ?_ ?_ ?_ ?_ _ _ _ _ ‹EqS S M0 _›) fun _ _ _ => ?_)
      | (with_reducible refine fr_X2_year_L202 ?_ ?_ ?_ ?_ ?_ ?_ ?_ ?_ _ _ _ _ ‹EqS S M0 _›)
      | intro _)
theorem fr_X3_hasPerson {S : Nat → Bool} {a1 : Int32} {M0 M : mm}  (e : EqS S M0 M) : Fr S M0 (X3_hasPerson a1 M) := by
  unfold X3_hasPerson
  repeat' (first
      | with_reducible assumption
      | with_reducible exact Fr_none
      | (with_reducible exact Fr_some ‹EqS S M0 _›)
      | (with_reducible refine Fr_gd fun _ => ?_)
      | (with_reducible refine Fr_ite ?_ ?_)
      | (with_reducible refine Fr_opt ?_ fun _ => ?_)
      | (with_reducible refine Fr_sA ?_ ‹EqS S M0 _› fun _ _ => ?_)
      | (with_reducible refine Fr_sR0 ‹EqS S M0 _› fun _ _ => ?_)
      | (with_reducible refine Fr_sL ?_ ‹EqS S M0 _› fun _ _ => ?_)
      | (with_reducible refine Fr_lt fun _ => ?_)
      | intro _)
theorem fr_X3_addPerson {S : Nat → Bool} {a1 : Int32} {a2 : Int32} {M0 M : mm} (hS : ∀ k, k ∈ [1, 2, 3] → S k = true) (e : EqS S M0 M) : Fr S M0 (X3_addPerson a1 a2 M) := by
  unfold X3_addPerson
  repeat' (first
      | with_reducible assumption
      | with_reducible exact Fr_none
      | (with_reducible exact Fr_some ‹EqS S M0 _›)
      | (with_reducible refine Fr_gd fun _ => ?_)
      | (with_reducible refine Fr_ite ?_ ?_)
      | (with_reducible refine Fr_opt ?_ fun _ => ?_)
      | (with_reducible refine Fr_sA ?_ ‹EqS S M0 _› fun _ _ => ?_)
      | (with_reducible refine Fr_sR0 ‹EqS S M0 _› fun _ _ => ?_)
      | (with_reducible refine Fr_sL ?_ ‹EqS S M0 _› fun _ _ => ?_)
      | (with_reducible refine Fr_lt fun _ => ?_)
      | exact hS _ (by decide)
      | exact subL (by decide) hS
      | intro _)
theorem fr_X3_addThing {S : Nat → Bool} {a1 : Int32} {a2 : Int32} {a3 : Int32} {M0 M : mm} (hS : ∀ k, k ∈ [1, 5, 6, 7, 8] → S k = true) (e : EqS S M0 M) : Fr S M0 (X3_addThing a1 a2 a3 M) := by
  unfold X3_addThing
  repeat' (first
      | with_reducible assumption
      | with_reducible exact Fr_none
      | (with_reducible exact Fr_some ‹EqS S M0 _›)
      | (with_reducible refine Fr_gd fun _ => ?_)
      | (with_reducible refine Fr_ite ?_ ?_)
      | (with_reducible refine Fr_opt ?_ fun _ => ?_)
      | (with_reducible refine Fr_sA ?_ ‹EqS S M0 _› fun _ _ => ?_)
      | (with_reducible refine Fr_sR0 ‹EqS S M0 _› fun _ _ => ?_)
      | (with_reducible refine Fr_sL ?_ ‹EqS S M0 _› fun _ _ => ?_)
      | (with_reducible refine Fr_lt fun _ => ?_)
      | exact hS _ (by decide)
      | exact subL (by decide) hS
      | intro _)
theorem fr_X3_mayTell {S : Nat → Bool} {a1 : Int32} {a2 : Int32} {a3 : Int32} {M0 M : mm}  (e : EqS S M0 M) : Fr S M0 (X3_mayTell a1 a2 a3 M) := by
  unfold X3_mayTell
  repeat' (first
      | with_reducible assumption
      | with_reducible exact Fr_none
      | (with_reducible exact Fr_some ‹EqS S M0 _›)
      | (with_reducible refine Fr_gd fun _ => ?_)
      | (with_reducible refine Fr_ite ?_ ?_)
      | (with_reducible refine Fr_opt ?_ fun _ => ?_)
      | (with_reducible refine Fr_sA ?_ ‹EqS S M0 _› fun _ _ => ?_)
      | (with_reducible refine Fr_sR0 ‹EqS S M0 _› fun _ _ => ?_)
      | (with_reducible refine Fr_sL ?_ ‹EqS S M0 _› fun _ _ => ?_)
      | (with_reducible refine Fr_lt fun _ => ?_)
      | (with_reducible refine Fr_bd (fr_X3_hasPerson  ‹EqS S M0 _›) fun _ _ _ => ?_)
      | (with_reducible refine fr_X3_hasPerson  ‹EqS S M0 _›)
      | (with_reducible refine Fr_bd (fr_X3_hasThing  ‹EqS S M0 _›) fun _ _ _ => ?_)
      | (with_reducible refine fr_X3_hasThing  ‹EqS S M0 _›)
      | intro _)
theorem fr_X3_anyBest_L2 {S : Nat → Bool}  {M0 : mm}  : ∀ (n_ : Nat) (z1 : Int32) (M : mm), EqS S M0 M → Fr S M0 (X3_anyBest_L2  n_ z1 M) := by
  intro n_
  induction n_ with
  | zero =>
    intros
    exact Fr_none
  | succ n_ ih =>
    intro z1 M e
    rw [X3_anyBest_L2]
    repeat' (first
        | with_reducible assumption
        | with_reducible exact Fr_none
        | (with_reducible exact Fr_some ‹EqS S M0 _›)
        | (with_reducible refine Fr_gd fun _ => ?_)
        | (with_reducible refine Fr_ite ?_ ?_)
        | (with_reducible refine Fr_opt ?_ fun _ => ?_)
        | (with_reducible refine Fr_sA ?_ ‹EqS S M0 _› fun _ _ => ?_)
        | (with_reducible refine Fr_sR0 ‹EqS S M0 _› fun _ _ => ?_)
        | (with_reducible refine Fr_sL ?_ ‹EqS S M0 _› fun _ _ => ?_)
        | (with_reducible refine Fr_lt fun _ => ?_)
        | (with_reducible refine Fr_bd (ih _ _ ‹EqS S M0 _›) fun _ _ _ => ?_)
        | with_reducible exact ih _ _ ‹EqS S M0 _›
        | intro _)
theorem fr_X3_anyBest {S : Nat → Bool}  {M0 M : mm}  (e : EqS S M0 M) : Fr S M0 (X3_anyBest  M) := by
  unfold X3_anyBest
  repeat' (first
      | with_reducible assumption
      | with_reducible exact Fr_none
      | (with_reducible exact Fr_some ‹EqS S M0 _›)
      | (with_reducible refine Fr_gd fun _ => ?_)
      | (with_reducible refine Fr_ite ?_ ?_)
      | (with_reducible refine Fr_opt ?_ fun _ => ?_)
      | (with_reducible refine Fr_sA ?_ ‹EqS S M0 _› fun _ _ => ?_)
      | (with_reducible refine Fr_sR0 ‹EqS S M0 _› fun _ _ => ?_)
      | (with_reducible refine Fr_sL ?_ ‹EqS S M0 _› fun _ _ => ?_)
      | (with_reducible refine Fr_lt fun _ => ?_)
      | (with_reducible refine Fr_bd (fr_X3_anyBest_L2  _ _ _ ‹EqS S M0 _›) fun _ _ _ => ?_)
      | (with_reducible refine fr_X3_anyBest_L2  _ _ _ ‹EqS S M0 _›)
      | intro _)
theorem fr_X4_leftAt {S : Nat → Bool} {a1 : Int32} {M0 M : mm}  (e : EqS S M0 M) : Fr S M0 (X4_leftAt a1 M) := by
  unfold X4_leftAt
  repeat' (first
      | with_reducible assumption
      | with_reducible exact Fr_none
      | (with_reducible exact Fr_some ‹EqS S M0 _›)
      | (with_reducible refine Fr_gd fun _ => ?_)
      | (with_reducible refine Fr_ite ?_ ?_)
      | (with_reducible refine Fr_opt ?_ fun _ => ?_)
      | (with_reducible refine Fr_sA ?_ ‹EqS S M0 _› fun _ _ => ?_)
      | (with_reducible refine Fr_sR0 ‹EqS S M0 _› fun _ _ => ?_)
      | (with_reducible refine Fr_sL ?_ ‹EqS S M0 _› fun _ _ => ?_)
      | (with_reducible refine Fr_lt fun _ => ?_)
      | intro _)
theorem fr_X4_risk_b149 {S : Nat → Bool} {a1 : Int32} {a2 : Int32} {a3 : Int32} {a4 : Int32} {R42 : Int64 → Int64 → Int64 → Int64 → Int32 → mm → Option (Int64 × mm)} {x5 : Int64} {x7 : Int64} {x9 : Int64} {x13 : Int32} {x15 : Int64} {x17 : Int64} {x19 : Int64} {s0 : Int64} {s1 : Int64} {M0 M : mm} (hR42 : ∀ (y0 : Int64) (y1 : Int64) (y2 : Int64) (y3 : Int64) (y4 : Int32) (M_ : mm), EqS S M0 M_ → Fr S M0 (R42 y0 y1 y2 y3 y4 M_)) (e : EqS S M0 M) : Fr S M0 (X4_risk_b149 a1 a2 a3 a4 R42 x5 x7 x9 x13 x15 x17 x19 s0 s1 M) := by
  unfold X4_risk_b149
  repeat' (first
      | with_reducible assumption
      | with_reducible exact Fr_none
      | (with_reducible exact Fr_some ‹EqS S M0 _›)
      | (with_reducible refine Fr_gd fun _ => ?_)
      | (with_reducible refine Fr_ite ?_ ?_)
      | (with_reducible refine Fr_opt ?_ fun _ => ?_)
      | (with_reducible refine Fr_sA ?_ ‹EqS S M0 _› fun _ _ => ?_)
      | (with_reducible refine Fr_sR0 ‹EqS S M0 _› fun _ _ => ?_)
      | (with_reducible refine Fr_sL ?_ ‹EqS S M0 _› fun _ _ => ?_)
      | (with_reducible refine Fr_lt fun _ => ?_)
      | (with_reducible refine Fr_bd (hR42 _ _ _ _ _ _ ‹EqS S M0 _›) fun _ _ _ => ?_)
      | with_reducible exact hR42 _ _ _ _ _ _ ‹EqS S M0 _›
      | intro _)
theorem fr_X4_risk_L42 {S : Nat → Bool} {a1 : Int32} {a2 : Int32} {a3 : Int32} {a4 : Int32} {M0 : mm} (hS : ∀ k, k ∈ [19, 20] → S k = true) : ∀ (n_ : Nat) (z1 : Int64) (z2 : Int64) (z3 : Int64) (z4 : Int64) (z5 : Int32) (M : mm), EqS S M0 M → Fr S M0 (X4_risk_L42 a1 a2 a3 a4 n_ z1 z2 z3 z4 z5 M) := by
  intro n_
  induction n_ with
  | zero =>
    intros
    exact Fr_none
  | succ n_ ih =>
    intro z1 z2 z3 z4 z5 M e
    rw [X4_risk_L42]
    repeat' (first
        | with_reducible assumption
        | with_reducible exact Fr_none
        | (with_reducible exact Fr_some ‹EqS S M0 _›)
        | (with_reducible refine Fr_gd fun _ => ?_)
        | (with_reducible refine Fr_ite ?_ ?_)
        | (with_reducible refine Fr_opt ?_ fun _ => ?_)
        | (with_reducible refine Fr_sA ?_ ‹EqS S M0 _› fun _ _ => ?_)
        | (with_reducible refine Fr_sR0 ‹EqS S M0 _› fun _ _ => ?_)
        | (with_reducible refine Fr_sL ?_ ‹EqS S M0 _› fun _ _ => ?_)
        | (with_reducible refine Fr_lt fun _ => ?_)
        | exact hS _ (by decide)
        | exact subL (by decide) hS
        | (with_reducible refine Fr_bd (fr_X8_number ?_ ‹EqS S M0 _›) fun _ _ _ => ?_)
        | (with_reducible refine fr_X8_number ?_ ‹EqS S M0 _›)
        | (with_reducible refine Fr_bd (fr_X3_isForgotten  ‹EqS S M0 _›) fun _ _ _ => ?_)
        | (with_reducible refine fr_X3_isForgotten  ‹EqS S M0 _›)
        | (with_reducible refine Fr_bd (fr_X4_risk_b149 ?_ ‹EqS S M0 _›) fun _ _ _ => ?_)
        | (with_reducible refine fr_X4_risk_b149 ?_ ‹EqS S M0 _›)
        | (with_reducible refine Fr_bd (ih _ _ _ _ _ _ ‹EqS S M0 _›) fun _ _ _ => ?_)
        | with_reducible exact ih _ _ _ _ _ _ ‹EqS S M0 _›
        | intro _)
theorem fr_X4_risk_b34 {S : Nat → Bool} {a1 : Int32} {a2 : Int32} {a3 : Int32} {a4 : Int32} {x5 : Int64} {x7 : Int64} {s0 : Int64} {M0 M : mm} (hS : ∀ k, k ∈ [19, 20] → S k = true) (e : EqS S M0 M) : Fr S M0 (X4_risk_b34 a1 a2 a3 a4 x5 x7 s0 M) := by
  unfold X4_risk_b34
  repeat' (first
      | with_reducible assumption
      | with_reducible exact Fr_none
      | (with_reducible exact Fr_some ‹EqS S M0 _›)
      | (with_reducible refine Fr_gd fun _ => ?_)
      | (with_reducible refine Fr_ite ?_ ?_)
      | (with_reducible refine Fr_opt ?_ fun _ => ?_)
      | (with_reducible refine Fr_sA ?_ ‹EqS S M0 _› fun _ _ => ?_)
      | (with_reducible refine Fr_sR0 ‹EqS S M0 _› fun _ _ => ?_)
      | (with_reducible refine Fr_sL ?_ ‹EqS S M0 _› fun _ _ => ?_)
      | (with_reducible refine Fr_lt fun _ => ?_)
      | exact hS _ (by decide)
      | exact subL (by decide) hS
      | (with_reducible refine Fr_bd (fr_X4_risk_L42 ?_ _ _ _ _ _ _ _ ‹EqS S M0 _›) fun _ _ _ => ?_)
      | (with_reducible refine fr_X4_risk_L42 ?_ _ _ _ _ _ _ _ ‹EqS S M0 _›)
      | intro _)
theorem fr_X4_risk_b22 {S : Nat → Bool} {a1 : Int32} {a2 : Int32} {a3 : Int32} {a4 : Int32} {x5 : Int64} {s0 : Int64} {M0 M : mm} (hS : ∀ k, k ∈ [19, 20] → S k = true) (e : EqS S M0 M) : Fr S M0 (X4_risk_b22 a1 a2 a3 a4 x5 s0 M) := by
  unfold X4_risk_b22
  repeat' (first
      | with_reducible assumption
      | with_reducible exact Fr_none
      | (with_reducible exact Fr_some ‹EqS S M0 _›)
      | (with_reducible refine Fr_gd fun _ => ?_)
      | (with_reducible refine Fr_ite ?_ ?_)
      | (with_reducible refine Fr_opt ?_ fun _ => ?_)
      | (with_reducible refine Fr_sA ?_ ‹EqS S M0 _› fun _ _ => ?_)
      | (with_reducible refine Fr_sR0 ‹EqS S M0 _› fun _ _ => ?_)
      | (with_reducible refine Fr_sL ?_ ‹EqS S M0 _› fun _ _ => ?_)
      | (with_reducible refine Fr_lt fun _ => ?_)
      | exact hS _ (by decide)
      | exact subL (by decide) hS
      | (with_reducible refine Fr_bd (fr_X4_risk_b34 ?_ ‹EqS S M0 _›) fun _ _ _ => ?_)
      | (with_reducible refine fr_X4_risk_b34 ?_ ‹EqS S M0 _›)
      | intro _)
theorem fr_X4_risk_b10 {S : Nat → Bool} {a1 : Int32} {a2 : Int32} {a3 : Int32} {a4 : Int32} {s0 : Int64} {M0 M : mm} (hS : ∀ k, k ∈ [19, 20] → S k = true) (e : EqS S M0 M) : Fr S M0 (X4_risk_b10 a1 a2 a3 a4 s0 M) := by
  unfold X4_risk_b10
  repeat' (first
      | with_reducible assumption
      | with_reducible exact Fr_none
      | (with_reducible exact Fr_some ‹EqS S M0 _›)
      | (with_reducible refine Fr_gd fun _ => ?_)
      | (with_reducible refine Fr_ite ?_ ?_)
      | (with_reducible refine Fr_opt ?_ fun _ => ?_)
      | (with_reducible refine Fr_sA ?_ ‹EqS S M0 _› fun _ _ => ?_)
      | (with_reducible refine Fr_sR0 ‹EqS S M0 _› fun _ _ => ?_)
      | (with_reducible refine Fr_sL ?_ ‹EqS S M0 _› fun _ _ => ?_)
      | (with_reducible refine Fr_lt fun _ => ?_)
      | exact hS _ (by decide)
      | exact subL (by decide) hS
      | (with_reducible refine Fr_bd (fr_X4_risk_b22 ?_ ‹EqS S M0 _›) fun _ _ _ => ?_)
      | (with_reducible refine fr_X4_risk_b22 ?_ ‹EqS S M0 _›)
      | intro _)
theorem fr_X4_risk {S : Nat → Bool} {a1 : Int32} {a2 : Int32} {a3 : Int32} {a4 : Int32} {M0 M : mm} (hS : ∀ k, k ∈ [19, 20] → S k = true) (e : EqS S M0 M) : Fr S M0 (X4_risk a1 a2 a3 a4 M) := by
  unfold X4_risk
  repeat' (first
      | with_reducible assumption
      | with_reducible exact Fr_none
      | (with_reducible exact Fr_some ‹EqS S M0 _›)
      | (with_reducible refine Fr_gd fun _ => ?_)
      | (with_reducible refine Fr_ite ?_ ?_)
      | (with_reducible refine Fr_opt ?_ fun _ => ?_)
      | (with_reducible refine Fr_sA ?_ ‹EqS S M0 _› fun _ _ => ?_)
      | (with_reducible refine Fr_sR0 ‹EqS S M0 _› fun _ _ => ?_)
      | (with_reducible refine Fr_sL ?_ ‹EqS S M0 _› fun _ _ => ?_)
      | (with_reducible refine Fr_lt fun _ => ?_)
      | exact hS _ (by decide)
      | exact subL (by decide) hS
      | (with_reducible refine Fr_bd (fr_X4_risk_b10 ?_ ‹EqS S M0 _›) fun _ _ _ => ?_)
      | (with_reducible refine fr_X4_risk_b10 ?_ ‹EqS S M0 _›)
      | intro _)
theorem fr_X5_levelOf {S : Nat → Bool} {a0 : Int32} {M0 M : mm}  (e : EqS S M0 M) : Fr S M0 (X5_levelOf a0 M) := by
  unfold X5_levelOf
  repeat' (first
      | with_reducible assumption
      | with_reducible exact Fr_none
      | (with_reducible exact Fr_some ‹EqS S M0 _›)
      | (with_reducible refine Fr_gd fun _ => ?_)
      | (with_reducible refine Fr_ite ?_ ?_)
      | (with_reducible refine Fr_opt ?_ fun _ => ?_)
      | (with_reducible refine Fr_sA ?_ ‹EqS S M0 _› fun _ _ => ?_)
      | (with_reducible refine Fr_sR0 ‹EqS S M0 _› fun _ _ => ?_)
      | (with_reducible refine Fr_sL ?_ ‹EqS S M0 _› fun _ _ => ?_)
      | (with_reducible refine Fr_lt fun _ => ?_)
      | intro _)
theorem fr_X5_next {S : Nat → Bool}  {M0 M : mm}  (e : EqS S M0 M) : Fr S M0 (X5_next  M) := by
  unfold X5_next
  repeat' (first
      | with_reducible assumption
      | with_reducible exact Fr_none
      | (with_reducible exact Fr_some ‹EqS S M0 _›)
      | (with_reducible refine Fr_gd fun _ => ?_)
      | (with_reducible refine Fr_ite ?_ ?_)
      | (with_reducible refine Fr_opt ?_ fun _ => ?_)
      | (with_reducible refine Fr_sA ?_ ‹EqS S M0 _› fun _ _ => ?_)
      | (with_reducible refine Fr_sR0 ‹EqS S M0 _› fun _ _ => ?_)
      | (with_reducible refine Fr_sL ?_ ‹EqS S M0 _› fun _ _ => ?_)
      | (with_reducible refine Fr_lt fun _ => ?_)
      | intro _)
theorem fr_X7_add {S : Nat → Bool} {w : Nat} {a1 : Int32} {a2 : Int32} {M0 M : mm} (hP_w_0 : S (w) = true) (hP_w_1 : S (w + 1) = true) (hP_w_2 : S (w + 2) = true) (e : EqS S M0 M) : Fr S M0 (X7_add w a1 a2 M) := by
  unfold X7_add
  repeat' (first
      | with_reducible assumption
      | with_reducible exact Fr_none
      | (with_reducible exact Fr_some ‹EqS S M0 _›)
      | (with_reducible refine Fr_gd fun _ => ?_)
      | (with_reducible refine Fr_ite ?_ ?_)
      | (with_reducible refine Fr_opt ?_ fun _ => ?_)
      | (with_reducible refine Fr_sA ?_ ‹EqS S M0 _› fun _ _ => ?_)
      | (with_reducible refine Fr_sR0 ‹EqS S M0 _› fun _ _ => ?_)
      | (with_reducible refine Fr_sL ?_ ‹EqS S M0 _› fun _ _ => ?_)
      | (with_reducible refine Fr_lt fun _ => ?_)
      | intro _)
theorem fr_X5_number_L4 {S : Nat → Bool} {K56 : Int32 → mm → Option (Int32 × mm)} {M0 : mm} (hS : ∀ k, k ∈ [11] → S k = true) (hK56 : ∀ (y0 : Int32) (M_ : mm), EqS S M0 M_ → Fr S M0 (K56 y0 M_)) : ∀ (n_ : Nat) (z1 : Int32) (z2 : Int32) (M : mm), EqS S M0 M → Fr S M0 (X5_number_L4 K56 n_ z1 z2 M) := by
  intro n_
  induction n_ with
  | zero =>
    intros
    exact Fr_none
  | succ n_ ih =>
    intro z1 z2 M e
    rw [X5_number_L4]
    repeat' (first
        | with_reducible assumption
        | with_reducible exact Fr_none
        | (with_reducible exact Fr_some ‹EqS S M0 _›)
        | (with_reducible refine Fr_gd fun _ => ?_)
        | (with_reducible refine Fr_ite ?_ ?_)
        | (with_reducible refine Fr_opt ?_ fun _ => ?_)
        | (with_reducible refine Fr_sA ?_ ‹EqS S M0 _› fun _ _ => ?_)
        | (with_reducible refine Fr_sR0 ‹EqS S M0 _› fun _ _ => ?_)
        | (with_reducible refine Fr_sL ?_ ‹EqS S M0 _› fun _ _ => ?_)
        | (with_reducible refine Fr_lt fun _ => ?_)
        | exact hS _ (by decide)
        | exact subL (by decide) hS
        | (with_reducible refine Fr_bd (hK56 _ _ ‹EqS S M0 _›) fun _ _ _ => ?_)
        | with_reducible exact hK56 _ _ ‹EqS S M0 _›
        | (with_reducible refine Fr_bd (fr_X5_next  ‹EqS S M0 _›) fun _ _ _ => ?_)
        | (with_reducible refine fr_X5_next  ‹EqS S M0 _›)
        | (with_reducible refine Fr_bd (ih _ _ _ ‹EqS S M0 _›) fun _ _ _ => ?_)
        | with_reducible exact ih _ _ _ ‹EqS S M0 _›
        | intro _)
theorem fr_X5_number_b56 {S : Nat → Bool} {x1 : Int32} {M0 M : mm} (hS : ∀ k, k ∈ [13, 14, 15] → S k = true) (e : EqS S M0 M) : Fr S M0 (X5_number_b56 x1 M) := by
  unfold X5_number_b56
  repeat' (first
      | with_reducible assumption
      | with_reducible exact Fr_none
      | (with_reducible exact Fr_some ‹EqS S M0 _›)
      | (with_reducible refine Fr_gd fun _ => ?_)
      | (with_reducible refine Fr_ite ?_ ?_)
      | (with_reducible refine Fr_opt ?_ fun _ => ?_)
      | (with_reducible refine Fr_sA ?_ ‹EqS S M0 _› fun _ _ => ?_)
      | (with_reducible refine Fr_sR0 ‹EqS S M0 _› fun _ _ => ?_)
      | (with_reducible refine Fr_sL ?_ ‹EqS S M0 _› fun _ _ => ?_)
      | (with_reducible refine Fr_lt fun _ => ?_)
      | exact hS _ (by decide)
      | exact subL (by decide) hS
      | (with_reducible refine Fr_bd (fr_X7_add ?_ ?_ ?_ ‹EqS S M0 _›) fun _ _ _ => ?_)
      | (with_reducible refine fr_X7_add ?_ ?_ ?_ ‹EqS S M0 _›)
      | intro _)
theorem fr_X5_number {S : Nat → Bool}  {M0 M : mm} (hS : ∀ k, k ∈ [11, 13, 14, 15] → S k = true) (e : EqS S M0 M) : Fr S M0 (X5_number  M) := by
  unfold X5_number
  repeat' (first
      | with_reducible assumption
      | with_reducible exact Fr_none
      | (with_reducible exact Fr_some ‹EqS S M0 _›)
      | (with_reducible refine Fr_gd fun _ => ?_)
      | (with_reducible refine Fr_ite ?_ ?_)
      | (with_reducible refine Fr_opt ?_ fun _ => ?_)
      | (with_reducible refine Fr_sA ?_ ‹EqS S M0 _› fun _ _ => ?_)
      | (with_reducible refine Fr_sR0 ‹EqS S M0 _› fun _ _ => ?_)
      | (with_reducible refine Fr_sL ?_ ‹EqS S M0 _› fun _ _ => ?_)
      | (with_reducible refine Fr_lt fun _ => ?_)
      | exact hS _ (by decide)
      | exact subL (by decide) hS
      | (with_reducible refine Fr_bd (fr_X5_number_L4 ?_ ?_ _ _ _ _ ‹EqS S M0 _›) fun _ _ _ => ?_)
      | (with_reducible refine fr_X5_number_L4 ?_ ?_ _ _ _ _ ‹EqS S M0 _›)
      | (with_reducible refine Fr_bd (fr_X5_number_b56 ?_ ‹EqS S M0 _›) fun _ _ _ => ?_)
      | (with_reducible refine fr_X5_number_b56 ?_ ‹EqS S M0 _›)
      | intro _)
theorem fr_X5_binary_L41 {S : Nat → Bool} {rec : Nat → Int32 → Int32 → mm → Option (Int32 × mm)} {a1 : Int32} {a2 : Int32} {M0 : mm} (hS : ∀ k, k ∈ [11, 13, 14, 15] → S k = true) (hrec : ∀ (y0 : Nat) (y1 : Int32) (y2 : Int32) (M_ : mm), EqS S M0 M_ → Fr S M0 (rec y0 y1 y2 M_)) : ∀ (n_ : Nat) (z1 : Int32) (z2 : Int32) (M : mm), EqS S M0 M → Fr S M0 (X5_binary_L41 rec a1 a2 n_ z1 z2 M) := by
  intro n_
  induction n_ with
  | zero =>
    intros
    exact Fr_none
  | succ n_ ih =>
    intro z1 z2 M e
    rw [X5_binary_L41]
    repeat' (first
        | with_reducible assumption
        | with_reducible exact Fr_none
        | (with_reducible exact Fr_some ‹EqS S M0 _›)
        | (with_reducible refine Fr_gd fun _ => ?_)
        | (with_reducible refine Fr_ite ?_ ?_)
        | (with_reducible refine Fr_opt ?_ fun _ => ?_)
        | (with_reducible refine Fr_sA ?_ ‹EqS S M0 _› fun _ _ => ?_)
        | (with_reducible refine Fr_sR0 ‹EqS S M0 _› fun _ _ => ?_)
        | (with_reducible refine Fr_sL ?_ ‹EqS S M0 _› fun _ _ => ?_)
        | (with_reducible refine Fr_lt fun _ => ?_)
        | exact hS _ (by decide)
        | exact subL (by decide) hS
        | (with_reducible refine Fr_bd (hrec _ _ _ _ ‹EqS S M0 _›) fun _ _ _ => ?_)
        | with_reducible exact hrec _ _ _ _ ‹EqS S M0 _›
        | (with_reducible refine Fr_bd (fr_X5_next  ‹EqS S M0 _›) fun _ _ _ => ?_)
        | (with_reducible refine fr_X5_next  ‹EqS S M0 _›)
        | (with_reducible refine Fr_bd (fr_X5_levelOf  ‹EqS S M0 _›) fun _ _ _ => ?_)
        | (with_reducible refine fr_X5_levelOf  ‹EqS S M0 _›)
        | (with_reducible refine Fr_bd (fr_X7_add ?_ ?_ ?_ ‹EqS S M0 _›) fun _ _ _ => ?_)
        | (with_reducible refine fr_X7_add ?_ ?_ ?_ ‹EqS S M0 _›)
        | (with_reducible refine Fr_bd (ih _ _ _ ‹EqS S M0 _›) fun _ _ _ => ?_)
        | with_reducible exact ih _ _ _ ‹EqS S M0 _›
        | intro _)
theorem fr_X5_binary_b37 {S : Nat → Bool} {rec : Nat → Int32 → Int32 → mm → Option (Int32 × mm)} {a1 : Int32} {a2 : Int32} {s0 : Int32} {M0 M : mm} (hS : ∀ k, k ∈ [11, 13, 14, 15] → S k = true) (hrec : ∀ (y0 : Nat) (y1 : Int32) (y2 : Int32) (M_ : mm), EqS S M0 M_ → Fr S M0 (rec y0 y1 y2 M_)) (e : EqS S M0 M) : Fr S M0 (X5_binary_b37 rec a1 a2 s0 M) := by
  unfold X5_binary_b37
  repeat' (first
      | with_reducible assumption
      | with_reducible exact Fr_none
      | (with_reducible exact Fr_some ‹EqS S M0 _›)
      | (with_reducible refine Fr_gd fun _ => ?_)
      | (with_reducible refine Fr_ite ?_ ?_)
      | (with_reducible refine Fr_opt ?_ fun _ => ?_)
      | (with_reducible refine Fr_sA ?_ ‹EqS S M0 _› fun _ _ => ?_)
      | (with_reducible refine Fr_sR0 ‹EqS S M0 _› fun _ _ => ?_)
      | (with_reducible refine Fr_sL ?_ ‹EqS S M0 _› fun _ _ => ?_)
      | (with_reducible refine Fr_lt fun _ => ?_)
      | exact hS _ (by decide)
      | exact subL (by decide) hS
      | (with_reducible refine Fr_bd (hrec _ _ _ _ ‹EqS S M0 _›) fun _ _ _ => ?_)
      | with_reducible exact hrec _ _ _ _ ‹EqS S M0 _›
      | (with_reducible refine Fr_bd (fr_X5_binary_L41 ?_ ?_ _ _ _ _ ‹EqS S M0 _›) fun _ _ _ => ?_)
      | (with_reducible refine fr_X5_binary_L41 ?_ ?_ _ _ _ _ ‹EqS S M0 _›)
      | intro _)
theorem fr_X5_binary_B {S : Nat → Bool} {rec : Nat → Int32 → Int32 → mm → Option (Int32 × mm)} {a1 : Int32} {a2 : Int32} {M0 M : mm} (hS : ∀ k, k ∈ [11, 13, 14, 15] → S k = true) (hrec : ∀ (y0 : Nat) (y1 : Int32) (y2 : Int32) (M_ : mm), EqS S M0 M_ → Fr S M0 (rec y0 y1 y2 M_)) (e : EqS S M0 M) : Fr S M0 (X5_binary_B rec a1 a2 M) := by
  unfold X5_binary_B
  repeat' (first
      | with_reducible assumption
      | with_reducible exact Fr_none
      | (with_reducible exact Fr_some ‹EqS S M0 _›)
      | (with_reducible refine Fr_gd fun _ => ?_)
      | (with_reducible refine Fr_ite ?_ ?_)
      | (with_reducible refine Fr_opt ?_ fun _ => ?_)
      | (with_reducible refine Fr_sA ?_ ‹EqS S M0 _› fun _ _ => ?_)
      | (with_reducible refine Fr_sR0 ‹EqS S M0 _› fun _ _ => ?_)
      | (with_reducible refine Fr_sL ?_ ‹EqS S M0 _› fun _ _ => ?_)
      | (with_reducible refine Fr_lt fun _ => ?_)
      | exact hS _ (by decide)
      | exact subL (by decide) hS
      | (with_reducible refine Fr_bd (hrec _ _ _ _ ‹EqS S M0 _›) fun _ _ _ => ?_)
      | with_reducible exact hrec _ _ _ _ ‹EqS S M0 _›
      | (with_reducible refine Fr_bd (fr_X5_binary_b37 ?_ ?_ ‹EqS S M0 _›) fun _ _ _ => ?_)
      | (with_reducible refine fr_X5_binary_b37 ?_ ?_ ‹EqS S M0 _›)
      | intro _)
theorem fr_X5_operand_b46 {S : Nat → Bool} {rec : Nat → Int32 → Int32 → mm → Option (Int32 × mm)} {a1 : Int32} {x2 : Int32} {M0 M : mm} (hS : ∀ k, k ∈ [11, 13, 14, 15] → S k = true) (hrec : ∀ (y0 : Nat) (y1 : Int32) (y2 : Int32) (M_ : mm), EqS S M0 M_ → Fr S M0 (rec y0 y1 y2 M_)) (e : EqS S M0 M) : Fr S M0 (X5_operand_b46 rec a1 x2 M) := by
  unfold X5_operand_b46
  repeat' (first
      | with_reducible assumption
      | with_reducible exact Fr_none
      | (with_reducible exact Fr_some ‹EqS S M0 _›)
      | (with_reducible refine Fr_gd fun _ => ?_)
      | (with_reducible refine Fr_ite ?_ ?_)
      | (with_reducible refine Fr_opt ?_ fun _ => ?_)
      | (with_reducible refine Fr_sA ?_ ‹EqS S M0 _› fun _ _ => ?_)
      | (with_reducible refine Fr_sR0 ‹EqS S M0 _› fun _ _ => ?_)
      | (with_reducible refine Fr_sL ?_ ‹EqS S M0 _› fun _ _ => ?_)
      | (with_reducible refine Fr_lt fun _ => ?_)
      | exact hS _ (by decide)
      | exact subL (by decide) hS
      | (with_reducible refine Fr_bd (hrec _ _ _ _ ‹EqS S M0 _›) fun _ _ _ => ?_)
      | with_reducible exact hrec _ _ _ _ ‹EqS S M0 _›
      | (with_reducible refine Fr_bd (fr_X7_add ?_ ?_ ?_ ‹EqS S M0 _›) fun _ _ _ => ?_)
      | (with_reducible refine fr_X7_add ?_ ?_ ?_ ‹EqS S M0 _›)
      | intro _)
theorem fr_X5_operand_b171 {S : Nat → Bool} {rec : Nat → Int32 → Int32 → mm → Option (Int32 × mm)} {a1 : Int32} {s1 : Int32} {M0 M : mm} (hS : ∀ k, k ∈ [13, 14, 15] → S k = true) (hrec : ∀ (y0 : Nat) (y1 : Int32) (y2 : Int32) (M_ : mm), EqS S M0 M_ → Fr S M0 (rec y0 y1 y2 M_)) (e : EqS S M0 M) : Fr S M0 (X5_operand_b171 rec a1 s1 M) := by
  unfold X5_operand_b171
  repeat' (first
      | with_reducible assumption
      | with_reducible exact Fr_none
      | (with_reducible exact Fr_some ‹EqS S M0 _›)
      | (with_reducible refine Fr_gd fun _ => ?_)
      | (with_reducible refine Fr_ite ?_ ?_)
      | (with_reducible refine Fr_opt ?_ fun _ => ?_)
      | (with_reducible refine Fr_sA ?_ ‹EqS S M0 _› fun _ _ => ?_)
      | (with_reducible refine Fr_sR0 ‹EqS S M0 _› fun _ _ => ?_)
      | (with_reducible refine Fr_sL ?_ ‹EqS S M0 _› fun _ _ => ?_)
      | (with_reducible refine Fr_lt fun _ => ?_)
      | exact hS _ (by decide)
      | exact subL (by decide) hS
      | (with_reducible refine Fr_bd (hrec _ _ _ _ ‹EqS S M0 _›) fun _ _ _ => ?_)
      | with_reducible exact hrec _ _ _ _ ‹EqS S M0 _›
      | (with_reducible refine Fr_bd (fr_X7_add ?_ ?_ ?_ ‹EqS S M0 _›) fun _ _ _ => ?_)
      | (with_reducible refine fr_X7_add ?_ ?_ ?_ ‹EqS S M0 _›)
      | intro _)
theorem fr_X5_operand_b93 {S : Nat → Bool} {rec : Nat → Int32 → Int32 → mm → Option (Int32 × mm)} {a1 : Int32} {x2 : Int32} {M0 M : mm} (hS : ∀ k, k ∈ [11, 13, 14, 15] → S k = true) (hrec : ∀ (y0 : Nat) (y1 : Int32) (y2 : Int32) (M_ : mm), EqS S M0 M_ → Fr S M0 (rec y0 y1 y2 M_)) (e : EqS S M0 M) : Fr S M0 (X5_operand_b93 rec a1 x2 M) := by
  unfold X5_operand_b93
  repeat' (first
      | with_reducible assumption
      | with_reducible exact Fr_none
      | (with_reducible exact Fr_some ‹EqS S M0 _›)
      | (with_reducible refine Fr_gd fun _ => ?_)
      | (with_reducible refine Fr_ite ?_ ?_)
      | (with_reducible refine Fr_opt ?_ fun _ => ?_)
      | (with_reducible refine Fr_sA ?_ ‹EqS S M0 _› fun _ _ => ?_)
      | (with_reducible refine Fr_sR0 ‹EqS S M0 _› fun _ _ => ?_)
      | (with_reducible refine Fr_sL ?_ ‹EqS S M0 _› fun _ _ => ?_)
      | (with_reducible refine Fr_lt fun _ => ?_)
      | exact hS _ (by decide)
      | exact subL (by decide) hS
      | (with_reducible refine Fr_bd (hrec _ _ _ _ ‹EqS S M0 _›) fun _ _ _ => ?_)
      | with_reducible exact hrec _ _ _ _ ‹EqS S M0 _›
      | (with_reducible refine Fr_bd (fr_X5_next  ‹EqS S M0 _›) fun _ _ _ => ?_)
      | (with_reducible refine fr_X5_next  ‹EqS S M0 _›)
      | (with_reducible refine Fr_bd (fr_X5_operand_b171 ?_ ?_ ‹EqS S M0 _›) fun _ _ _ => ?_)
      | (with_reducible refine fr_X5_operand_b171 ?_ ?_ ‹EqS S M0 _›)
      | intro _)
theorem fr_X5_operand_b22 {S : Nat → Bool} {rec : Nat → Int32 → Int32 → mm → Option (Int32 × mm)} {a1 : Int32} {x2 : Int32} {M0 M : mm} (hS : ∀ k, k ∈ [11, 13, 14, 15] → S k = true) (hrec : ∀ (y0 : Nat) (y1 : Int32) (y2 : Int32) (M_ : mm), EqS S M0 M_ → Fr S M0 (rec y0 y1 y2 M_)) (e : EqS S M0 M) : Fr S M0 (X5_operand_b22 rec a1 x2 M) := by
  unfold X5_operand_b22
  repeat' (first
      | with_reducible assumption
      | with_reducible exact Fr_none
      | (with_reducible exact Fr_some ‹EqS S M0 _›)
      | (with_reducible refine Fr_gd fun _ => ?_)
      | (with_reducible refine Fr_ite ?_ ?_)
      | (with_reducible refine Fr_opt ?_ fun _ => ?_)
      | (with_reducible refine Fr_sA ?_ ‹EqS S M0 _› fun _ _ => ?_)
      | (with_reducible refine Fr_sR0 ‹EqS S M0 _› fun _ _ => ?_)
      | (with_reducible refine Fr_sL ?_ ‹EqS S M0 _› fun _ _ => ?_)
      | (with_reducible refine Fr_lt fun _ => ?_)
      | exact hS _ (by decide)
      | exact subL (by decide) hS
      | (with_reducible refine Fr_bd (hrec _ _ _ _ ‹EqS S M0 _›) fun _ _ _ => ?_)
      | with_reducible exact hrec _ _ _ _ ‹EqS S M0 _›
      | (with_reducible refine Fr_bd (fr_X5_operand_b46 ?_ ?_ ‹EqS S M0 _›) fun _ _ _ => ?_)
      | (with_reducible refine fr_X5_operand_b46 ?_ ?_ ‹EqS S M0 _›)
      | (with_reducible refine Fr_bd (fr_X5_operand_b93 ?_ ?_ ‹EqS S M0 _›) fun _ _ _ => ?_)
      | (with_reducible refine fr_X5_operand_b93 ?_ ?_ ‹EqS S M0 _›)
      | intro _)
theorem fr_X5_operand_B {S : Nat → Bool} {rec : Nat → Int32 → Int32 → mm → Option (Int32 × mm)} {a1 : Int32} {M0 M : mm} (hS : ∀ k, k ∈ [11, 13, 14, 15] → S k = true) (hrec : ∀ (y0 : Nat) (y1 : Int32) (y2 : Int32) (M_ : mm), EqS S M0 M_ → Fr S M0 (rec y0 y1 y2 M_)) (e : EqS S M0 M) : Fr S M0 (X5_operand_B rec a1 M) := by
  unfold X5_operand_B
  repeat' (first
      | with_reducible assumption
      | with_reducible exact Fr_none
      | (with_reducible exact Fr_some ‹EqS S M0 _›)
      | (with_reducible refine Fr_gd fun _ => ?_)
      | (with_reducible refine Fr_ite ?_ ?_)
      | (with_reducible refine Fr_opt ?_ fun _ => ?_)
      | (with_reducible refine Fr_sA ?_ ‹EqS S M0 _› fun _ _ => ?_)
      | (with_reducible refine Fr_sR0 ‹EqS S M0 _› fun _ _ => ?_)
      | (with_reducible refine Fr_sL ?_ ‹EqS S M0 _› fun _ _ => ?_)
      | (with_reducible refine Fr_lt fun _ => ?_)
      | exact hS _ (by decide)
      | exact subL (by decide) hS
      | (with_reducible refine Fr_bd (hrec _ _ _ _ ‹EqS S M0 _›) fun _ _ _ => ?_)
      | with_reducible exact hrec _ _ _ _ ‹EqS S M0 _›
      | (with_reducible refine Fr_bd (fr_X5_next  ‹EqS S M0 _›) fun _ _ _ => ?_)
      | (with_reducible refine fr_X5_next  ‹EqS S M0 _›)
      | (with_reducible refine Fr_bd (fr_X5_operand_b22 ?_ ?_ ‹EqS S M0 _›) fun _ _ _ => ?_)
      | (with_reducible refine fr_X5_operand_b22 ?_ ?_ ‹EqS S M0 _›)
      | (with_reducible refine Fr_bd (fr_X5_number ?_ ‹EqS S M0 _›) fun _ _ _ => ?_)
      | (with_reducible refine fr_X5_number ?_ ‹EqS S M0 _›)
      | intro _)
theorem fr_G_X5_binary {S : Nat → Bool}  {M0 : mm} (hS : ∀ k, k ∈ [11, 13, 14, 15] → S k = true) : ∀ (n_ : Nat) (z1 : Nat) (z2 : Int32) (z3 : Int32) (M : mm), EqS S M0 M → Fr S M0 (G_X5_binary  n_ z1 z2 z3 M) := by
  intro n_
  induction n_ with
  | zero =>
    intros
    exact Fr_none
  | succ n_ ih =>
    intro z1 z2 z3 M e
    unfold G_X5_binary
    repeat' (first
        | with_reducible assumption
        | with_reducible exact Fr_none
        | (with_reducible exact Fr_some ‹EqS S M0 _›)
        | (with_reducible refine Fr_gd fun _ => ?_)
        | (with_reducible refine Fr_ite ?_ ?_)
        | (with_reducible refine Fr_opt ?_ fun _ => ?_)
        | (with_reducible refine Fr_sA ?_ ‹EqS S M0 _› fun _ _ => ?_)
        | (with_reducible refine Fr_sR0 ‹EqS S M0 _› fun _ _ => ?_)
        | (with_reducible refine Fr_sL ?_ ‹EqS S M0 _› fun _ _ => ?_)
        | (with_reducible refine Fr_lt fun _ => ?_)
        | exact hS _ (by decide)
        | exact subL (by decide) hS
        | (with_reducible refine Fr_bd (fr_X5_binary_B ?_ ?_ ‹EqS S M0 _›) fun _ _ _ => ?_)
        | (with_reducible refine fr_X5_binary_B ?_ ?_ ‹EqS S M0 _›)
        | (with_reducible refine Fr_bd (fr_X5_operand_B ?_ ?_ ‹EqS S M0 _›) fun _ _ _ => ?_)
        | (with_reducible refine fr_X5_operand_B ?_ ?_ ‹EqS S M0 _›)
        | (with_reducible refine Fr_bd (ih _ _ _ _ ‹EqS S M0 _›) fun _ _ _ => ?_)
        | with_reducible exact ih _ _ _ _ ‹EqS S M0 _›
        | split
        | intro _)
theorem fr_X5_binary {S : Nat → Bool} {a1 : Int32} {a2 : Int32} {M0 M : mm} (hS : ∀ k, k ∈ [11, 13, 14, 15] → S k = true) (e : EqS S M0 M) : Fr S M0 (X5_binary a1 a2 M) := by
  unfold X5_binary
  repeat' (first
      | with_reducible assumption
      | with_reducible exact Fr_none
      | (with_reducible exact Fr_some ‹EqS S M0 _›)
      | (with_reducible refine Fr_gd fun _ => ?_)
      | (with_reducible refine Fr_ite ?_ ?_)
      | (with_reducible refine Fr_opt ?_ fun _ => ?_)
      | (with_reducible refine Fr_sA ?_ ‹EqS S M0 _› fun _ _ => ?_)
      | (with_reducible refine Fr_sR0 ‹EqS S M0 _› fun _ _ => ?_)
      | (with_reducible refine Fr_sL ?_ ‹EqS S M0 _› fun _ _ => ?_)
      | (with_reducible refine Fr_lt fun _ => ?_)
      | exact hS _ (by decide)
      | exact subL (by decide) hS
      | (with_reducible refine Fr_bd (fr_G_X5_binary ?_ _ _ _ _ _ ‹EqS S M0 _›) fun _ _ _ => ?_)
      | (with_reducible refine fr_G_X5_binary ?_ _ _ _ _ _ ‹EqS S M0 _›)
      | intro _)
theorem fr_X5_operand {S : Nat → Bool} {a1 : Int32} {M0 M : mm} (hS : ∀ k, k ∈ [11, 13, 14, 15] → S k = true) (e : EqS S M0 M) : Fr S M0 (X5_operand a1 M) := by
  unfold X5_operand
  repeat' (first
      | with_reducible assumption
      | with_reducible exact Fr_none
      | (with_reducible exact Fr_some ‹EqS S M0 _›)
      | (with_reducible refine Fr_gd fun _ => ?_)
      | (with_reducible refine Fr_ite ?_ ?_)
      | (with_reducible refine Fr_opt ?_ fun _ => ?_)
      | (with_reducible refine Fr_sA ?_ ‹EqS S M0 _› fun _ _ => ?_)
      | (with_reducible refine Fr_sR0 ‹EqS S M0 _› fun _ _ => ?_)
      | (with_reducible refine Fr_sL ?_ ‹EqS S M0 _› fun _ _ => ?_)
      | (with_reducible refine Fr_lt fun _ => ?_)
      | exact hS _ (by decide)
      | exact subL (by decide) hS
      | (with_reducible refine Fr_bd (fr_G_X5_binary ?_ _ _ _ _ _ ‹EqS S M0 _›) fun _ _ _ => ?_)
      | (with_reducible refine fr_G_X5_binary ?_ _ _ _ _ _ ‹EqS S M0 _›)
      | intro _)
theorem fr_X5_line_b51 {S : Nat → Bool}  {M0 M : mm} (hS : ∀ k, k ∈ [13, 14, 15] → S k = true) (e : EqS S M0 M) : Fr S M0 (X5_line_b51  M) := by
  unfold X5_line_b51
  repeat' (first
      | with_reducible assumption
      | with_reducible exact Fr_none
      | (with_reducible exact Fr_some ‹EqS S M0 _›)
      | (with_reducible refine Fr_gd fun _ => ?_)
      | (with_reducible refine Fr_ite ?_ ?_)
      | (with_reducible refine Fr_opt ?_ fun _ => ?_)
      | (with_reducible refine Fr_sA ?_ ‹EqS S M0 _› fun _ _ => ?_)
      | (with_reducible refine Fr_sR0 ‹EqS S M0 _› fun _ _ => ?_)
      | (with_reducible refine Fr_sL ?_ ‹EqS S M0 _› fun _ _ => ?_)
      | (with_reducible refine Fr_lt fun _ => ?_)
      | exact hS _ (by decide)
      | exact subL (by decide) hS
      | (with_reducible refine Fr_bd (fr_X7_add ?_ ?_ ?_ ‹EqS S M0 _›) fun _ _ _ => ?_)
      | (with_reducible refine fr_X7_add ?_ ?_ ?_ ‹EqS S M0 _›)
      | intro _)
theorem fr_X5_line {S : Nat → Bool}  {M0 M : mm} (hS : ∀ k, k ∈ [11, 13, 14, 15] → S k = true) (e : EqS S M0 M) : Fr S M0 (X5_line  M) := by
  unfold X5_line
  repeat' (first
      | with_reducible assumption
      | with_reducible exact Fr_none
      | (with_reducible exact Fr_some ‹EqS S M0 _›)
      | (with_reducible refine Fr_gd fun _ => ?_)
      | (with_reducible refine Fr_ite ?_ ?_)
      | (with_reducible refine Fr_opt ?_ fun _ => ?_)
      | (with_reducible refine Fr_sA ?_ ‹EqS S M0 _› fun _ _ => ?_)
      | (with_reducible refine Fr_sR0 ‹EqS S M0 _› fun _ _ => ?_)
      | (with_reducible refine Fr_sL ?_ ‹EqS S M0 _› fun _ _ => ?_)
      | (with_reducible refine Fr_lt fun _ => ?_)
      | exact hS _ (by decide)
      | exact subL (by decide) hS
      | (with_reducible refine Fr_bd (fr_X5_binary ?_ ‹EqS S M0 _›) fun _ _ _ => ?_)
      | (with_reducible refine fr_X5_binary ?_ ‹EqS S M0 _›)
      | (with_reducible refine Fr_bd (fr_X5_next  ‹EqS S M0 _›) fun _ _ _ => ?_)
      | (with_reducible refine fr_X5_next  ‹EqS S M0 _›)
      | (with_reducible refine Fr_bd (fr_X7_add ?_ ?_ ?_ ‹EqS S M0 _›) fun _ _ _ => ?_)
      | (with_reducible refine fr_X7_add ?_ ?_ ?_ ‹EqS S M0 _›)
      | (with_reducible refine Fr_bd (fr_X5_line_b51 ?_ ‹EqS S M0 _›) fun _ _ _ => ?_)
      | (with_reducible refine fr_X5_line_b51 ?_ ‹EqS S M0 _›)
      | intro _)
theorem fr_X5_read_L30 {S : Nat → Bool} {a1 : Nat} {a2 : Int32} {M0 : mm} (hS : ∀ k, k ∈ [11, 13, 14, 15] → S k = true) : ∀ (n_ : Nat) (z1 : Int32) (M : mm), EqS S M0 M → Fr S M0 (X5_read_L30 a1 a2 n_ z1 M) := by
  intro n_
  induction n_ with
  | zero =>
    intros
    exact Fr_none
  | succ n_ ih =>
    intro z1 M e
    rw [X5_read_L30]
    repeat' (first
        | with_reducible assumption
        | with_reducible exact Fr_none
        | (with_reducible exact Fr_some ‹EqS S M0 _›)
        | (with_reducible refine Fr_gd fun _ => ?_)
        | (with_reducible refine Fr_ite ?_ ?_)
        | (with_reducible refine Fr_opt ?_ fun _ => ?_)
        | (with_reducible refine Fr_sA ?_ ‹EqS S M0 _› fun _ _ => ?_)
        | (with_reducible refine Fr_sR0 ‹EqS S M0 _› fun _ _ => ?_)
        | (with_reducible refine Fr_sL ?_ ‹EqS S M0 _› fun _ _ => ?_)
        | (with_reducible refine Fr_lt fun _ => ?_)
        | exact hS _ (by decide)
        | exact subL (by decide) hS
        | (with_reducible refine Fr_bd (fr_X5_line ?_ ‹EqS S M0 _›) fun _ _ _ => ?_)
        | (with_reducible refine fr_X5_line ?_ ‹EqS S M0 _›)
        | (with_reducible refine Fr_bd (fr_X5_next  ‹EqS S M0 _›) fun _ _ _ => ?_)
        | (with_reducible refine fr_X5_next  ‹EqS S M0 _›)
        | (with_reducible refine Fr_bd (ih _ _ ‹EqS S M0 _›) fun _ _ _ => ?_)
        | with_reducible exact ih _ _ ‹EqS S M0 _›
        | intro _)
theorem fr_X5_read {S : Nat → Bool} {a1 : Nat} {a2 : Int32} {M0 M : mm} (hS : ∀ k, k ∈ [11, 13, 14, 15] → S k = true) (e : EqS S M0 M) : Fr S M0 (X5_read a1 a2 M) := by
  unfold X5_read
  repeat' (first
      | with_reducible assumption
      | with_reducible exact Fr_none
      | (with_reducible exact Fr_some ‹EqS S M0 _›)
      | (with_reducible refine Fr_gd fun _ => ?_)
      | (with_reducible refine Fr_ite ?_ ?_)
      | (with_reducible refine Fr_opt ?_ fun _ => ?_)
      | (with_reducible refine Fr_sA ?_ ‹EqS S M0 _› fun _ _ => ?_)
      | (with_reducible refine Fr_sR0 ‹EqS S M0 _› fun _ _ => ?_)
      | (with_reducible refine Fr_sL ?_ ‹EqS S M0 _› fun _ _ => ?_)
      | (with_reducible refine Fr_lt fun _ => ?_)
      | exact hS _ (by decide)
      | exact subL (by decide) hS
      | (with_reducible refine Fr_bd (fr_X5_read_L30 ?_ _ _ _ ‹EqS S M0 _›) fun _ _ _ => ?_)
      | (with_reducible refine fr_X5_read_L30 ?_ _ _ _ ‹EqS S M0 _›)
      | intro _)
theorem fr_X6_holdNothing {S : Nat → Bool} {w : Nat} {M0 M : mm} (hC_6_0 : ∀ k, isO 6 k = true → S (k) = true) (e : EqS S M0 M) : Fr S M0 (X6_holdNothing w M) := by
  unfold X6_holdNothing
  repeat' (first
      | with_reducible assumption
      | with_reducible exact Fr_none
      | (with_reducible exact Fr_some ‹EqS S M0 _›)
      | (with_reducible refine Fr_gd fun _ => ?_)
      | (with_reducible refine Fr_ite ?_ ?_)
      | (with_reducible refine Fr_opt ?_ fun _ => ?_)
      | (with_reducible refine Fr_sA ?_ ‹EqS S M0 _› fun _ _ => ?_)
      | (with_reducible refine Fr_sR0 ‹EqS S M0 _› fun _ _ => ?_)
      | (with_reducible refine Fr_sL ?_ ‹EqS S M0 _› fun _ _ => ?_)
      | (with_reducible refine Fr_lt fun _ => ?_)
      | exact hC_6_0 _ (by assumption)
      | intro _)
theorem fr_X6_holdPerson {S : Nat → Bool} {w : Nat} {a1 : Int32} {M0 M : mm} (hC_6_0 : ∀ k, isO 6 k = true → S (k) = true) (e : EqS S M0 M) : Fr S M0 (X6_holdPerson w a1 M) := by
  unfold X6_holdPerson
  repeat' (first
      | with_reducible assumption
      | with_reducible exact Fr_none
      | (with_reducible exact Fr_some ‹EqS S M0 _›)
      | (with_reducible refine Fr_gd fun _ => ?_)
      | (with_reducible refine Fr_ite ?_ ?_)
      | (with_reducible refine Fr_opt ?_ fun _ => ?_)
      | (with_reducible refine Fr_sA ?_ ‹EqS S M0 _› fun _ _ => ?_)
      | (with_reducible refine Fr_sR0 ‹EqS S M0 _› fun _ _ => ?_)
      | (with_reducible refine Fr_sL ?_ ‹EqS S M0 _› fun _ _ => ?_)
      | (with_reducible refine Fr_lt fun _ => ?_)
      | exact hC_6_0 _ (by assumption)
      | intro _)
theorem fr_X6_holdRow {S : Nat → Bool} {w : Nat} {a1 : Int32} {a2 : Int32} {M0 M : mm} (hC_6_0 : ∀ k, isO 6 k = true → S (k) = true) (hC_6_1 : ∀ k, isO 6 k = true → S (k + 1) = true) (e : EqS S M0 M) : Fr S M0 (X6_holdRow w a1 a2 M) := by
  unfold X6_holdRow
  repeat' (first
      | with_reducible assumption
      | with_reducible exact Fr_none
      | (with_reducible exact Fr_some ‹EqS S M0 _›)
      | (with_reducible refine Fr_gd fun _ => ?_)
      | (with_reducible refine Fr_ite ?_ ?_)
      | (with_reducible refine Fr_opt ?_ fun _ => ?_)
      | (with_reducible refine Fr_sA ?_ ‹EqS S M0 _› fun _ _ => ?_)
      | (with_reducible refine Fr_sR0 ‹EqS S M0 _› fun _ _ => ?_)
      | (with_reducible refine Fr_sL ?_ ‹EqS S M0 _› fun _ _ => ?_)
      | (with_reducible refine Fr_lt fun _ => ?_)
      | exact hC_6_0 _ (by assumption)
      | exact hC_6_1 _ (by assumption)
      | (with_reducible refine Fr_bd (fr_J7_fill_d0a16 ?_ ‹EqS S M0 _›) fun _ _ _ => ?_)
      | (with_reducible refine fr_J7_fill_d0a16 ?_ ‹EqS S M0 _›)
      | intro _)
theorem fr_X6_isRowOf {S : Nat → Bool} {w : Nat} {a1 : Int32} {M0 M : mm}  (e : EqS S M0 M) : Fr S M0 (X6_isRowOf w a1 M) := by
  unfold X6_isRowOf
  repeat' (first
      | with_reducible assumption
      | with_reducible exact Fr_none
      | (with_reducible exact Fr_some ‹EqS S M0 _›)
      | (with_reducible refine Fr_gd fun _ => ?_)
      | (with_reducible refine Fr_ite ?_ ?_)
      | (with_reducible refine Fr_opt ?_ fun _ => ?_)
      | (with_reducible refine Fr_sA ?_ ‹EqS S M0 _› fun _ _ => ?_)
      | (with_reducible refine Fr_sR0 ‹EqS S M0 _› fun _ _ => ?_)
      | (with_reducible refine Fr_sL ?_ ‹EqS S M0 _› fun _ _ => ?_)
      | (with_reducible refine Fr_lt fun _ => ?_)
      | intro _)
theorem fr_X6_hasPlaces {S : Nat → Bool} {w : Nat} {a1 : Int32} {a2 : Int32} {M0 M : mm}  (e : EqS S M0 M) : Fr S M0 (X6_hasPlaces w a1 a2 M) := by
  unfold X6_hasPlaces
  repeat' (first
      | with_reducible assumption
      | with_reducible exact Fr_none
      | (with_reducible exact Fr_some ‹EqS S M0 _›)
      | (with_reducible refine Fr_gd fun _ => ?_)
      | (with_reducible refine Fr_ite ?_ ?_)
      | (with_reducible refine Fr_opt ?_ fun _ => ?_)
      | (with_reducible refine Fr_sA ?_ ‹EqS S M0 _› fun _ _ => ?_)
      | (with_reducible refine Fr_sR0 ‹EqS S M0 _› fun _ _ => ?_)
      | (with_reducible refine Fr_sL ?_ ‹EqS S M0 _› fun _ _ => ?_)
      | (with_reducible refine Fr_lt fun _ => ?_)
      | intro _)
theorem fr_X6_refusal {S : Nat → Bool} {w : Nat} {a1 : Int32} {M0 M : mm}  (e : EqS S M0 M) : Fr S M0 (X6_refusal w a1 M) := by
  unfold X6_refusal
  repeat' (first
      | with_reducible assumption
      | with_reducible exact Fr_none
      | (with_reducible exact Fr_some ‹EqS S M0 _›)
      | (with_reducible refine Fr_gd fun _ => ?_)
      | (with_reducible refine Fr_ite ?_ ?_)
      | (with_reducible refine Fr_opt ?_ fun _ => ?_)
      | (with_reducible refine Fr_sA ?_ ‹EqS S M0 _› fun _ _ => ?_)
      | (with_reducible refine Fr_sR0 ‹EqS S M0 _› fun _ _ => ?_)
      | (with_reducible refine Fr_sL ?_ ‹EqS S M0 _› fun _ _ => ?_)
      | (with_reducible refine Fr_lt fun _ => ?_)
      | intro _)
theorem fr_X6_keptOf {S : Nat → Bool} {w : Nat} {a1 : Int64} {M0 M : mm}  (e : EqS S M0 M) : Fr S M0 (X6_keptOf w a1 M) := by
  unfold X6_keptOf
  repeat' (first
      | with_reducible assumption
      | with_reducible exact Fr_none
      | (with_reducible exact Fr_some ‹EqS S M0 _›)
      | (with_reducible refine Fr_gd fun _ => ?_)
      | (with_reducible refine Fr_ite ?_ ?_)
      | (with_reducible refine Fr_opt ?_ fun _ => ?_)
      | (with_reducible refine Fr_sA ?_ ‹EqS S M0 _› fun _ _ => ?_)
      | (with_reducible refine Fr_sR0 ‹EqS S M0 _› fun _ _ => ?_)
      | (with_reducible refine Fr_sL ?_ ‹EqS S M0 _› fun _ _ => ?_)
      | (with_reducible refine Fr_lt fun _ => ?_)
      | intro _)
theorem fr_X7_become {S : Nat → Bool} {w : Nat} {a1 : Nat} {M0 M : mm} (hP_w_0 : S (w) = true) (hP_w_1 : S (w + 1) = true) (hP_w_2 : S (w + 2) = true) (e : EqS S M0 M) : Fr S M0 (X7_become w a1 M) := by
  unfold X7_become
  repeat' (first
      | with_reducible assumption
      | with_reducible exact Fr_none
      | (with_reducible exact Fr_some ‹EqS S M0 _›)
      | (with_reducible refine Fr_gd fun _ => ?_)
      | (with_reducible refine Fr_ite ?_ ?_)
      | (with_reducible refine Fr_opt ?_ fun _ => ?_)
      | (with_reducible refine Fr_sA ?_ ‹EqS S M0 _› fun _ _ => ?_)
      | (with_reducible refine Fr_sR0 ‹EqS S M0 _› fun _ _ => ?_)
      | (with_reducible refine Fr_sL ?_ ‹EqS S M0 _› fun _ _ => ?_)
      | (with_reducible refine Fr_lt fun _ => ?_)
      | intro _)
theorem fr_X8_take {S : Nat → Bool} {a1 : Int32} {M0 M : mm} (hS : ∀ k, k ∈ [9, 10] → S k = true) (e : EqS S M0 M) : Fr S M0 (X8_take a1 M) := by
  unfold X8_take
  repeat' (first
      | with_reducible assumption
      | with_reducible exact Fr_none
      | (with_reducible exact Fr_some ‹EqS S M0 _›)
      | (with_reducible refine Fr_gd fun _ => ?_)
      | (with_reducible refine Fr_ite ?_ ?_)
      | (with_reducible refine Fr_opt ?_ fun _ => ?_)
      | (with_reducible refine Fr_sA ?_ ‹EqS S M0 _› fun _ _ => ?_)
      | (with_reducible refine Fr_sR0 ‹EqS S M0 _› fun _ _ => ?_)
      | (with_reducible refine Fr_sL ?_ ‹EqS S M0 _› fun _ _ => ?_)
      | (with_reducible refine Fr_lt fun _ => ?_)
      | exact hS _ (by decide)
      | exact subL (by decide) hS
      | intro _)
theorem fr_J7_fill_031fb_L5 {S : Nat → Bool} {a0 : Nat} {a1 : Int32} {M0 : mm} (hP_a0_0 : S (a0) = true) : ∀ (n_ : Nat) (z1 : Int32) (z2 : Int32) (M : mm), EqS S M0 M → Fr S M0 (J7_fill_031fb_L5 a0 a1 n_ z1 z2 M) := by
  intro n_
  induction n_ with
  | zero =>
    intros
    exact Fr_none
  | succ n_ ih =>
    intro z1 z2 M e
    rw [J7_fill_031fb_L5]
    repeat' (first
        | with_reducible assumption
        | with_reducible exact Fr_none
        | (with_reducible exact Fr_some ‹EqS S M0 _›)
        | (with_reducible refine Fr_gd fun _ => ?_)
        | (with_reducible refine Fr_ite ?_ ?_)
        | (with_reducible refine Fr_opt ?_ fun _ => ?_)
        | (with_reducible refine Fr_sA ?_ ‹EqS S M0 _› fun _ _ => ?_)
        | (with_reducible refine Fr_sR0 ‹EqS S M0 _› fun _ _ => ?_)
        | (with_reducible refine Fr_sL ?_ ‹EqS S M0 _› fun _ _ => ?_)
        | (with_reducible refine Fr_lt fun _ => ?_)
        | (with_reducible refine Fr_bd (ih _ _ _ ‹EqS S M0 _›) fun _ _ _ => ?_)
        | with_reducible exact ih _ _ _ ‹EqS S M0 _›
        | intro _)
theorem fr_J7_fill_031fb {S : Nat → Bool} {a0 : Nat} {a1 : Int32} {M0 M : mm} (hP_a0_0 : S (a0) = true) (e : EqS S M0 M) : Fr S M0 (J7_fill_031fb a0 a1 M) := by
  unfold J7_fill_031fb
  repeat' (first
      | with_reducible assumption
      | with_reducible exact Fr_none
      | (with_reducible exact Fr_some ‹EqS S M0 _›)
      | (with_reducible refine Fr_gd fun _ => ?_)
      | (with_reducible refine Fr_ite ?_ ?_)
      | (with_reducible refine Fr_opt ?_ fun _ => ?_)
      | (with_reducible refine Fr_sA ?_ ‹EqS S M0 _› fun _ _ => ?_)
      | (with_reducible refine Fr_sR0 ‹EqS S M0 _› fun _ _ => ?_)
      | (with_reducible refine Fr_sL ?_ ‹EqS S M0 _› fun _ _ => ?_)
      | (with_reducible refine Fr_lt fun _ => ?_)
      | (with_reducible refine Fr_bd (fr_J7_fill_031fb_L5 ?_ _ _ _ _ ‹EqS S M0 _›) fun _ _ _ => ?_)
      | (with_reducible refine fr_J7_fill_031fb_L5 ?_ _ _ _ _ ‹EqS S M0 _›)
      | intro _)
theorem fr_X8_becomeTape {S : Nat → Bool}  {M0 M : mm} (hS : ∀ k, k ∈ [9, 11, 13, 14, 15, 16, 17, 18, 20] → S k = true) (e : EqS S M0 M) : Fr S M0 (X8_becomeTape  M) := by
  unfold X8_becomeTape
  repeat' (first
      | with_reducible assumption
      | with_reducible exact Fr_none
      | (with_reducible exact Fr_some ‹EqS S M0 _›)
      | (with_reducible refine Fr_gd fun _ => ?_)
      | (with_reducible refine Fr_ite ?_ ?_)
      | (with_reducible refine Fr_opt ?_ fun _ => ?_)
      | (with_reducible refine Fr_sA ?_ ‹EqS S M0 _› fun _ _ => ?_)
      | (with_reducible refine Fr_sR0 ‹EqS S M0 _› fun _ _ => ?_)
      | (with_reducible refine Fr_sL ?_ ‹EqS S M0 _› fun _ _ => ?_)
      | (with_reducible refine Fr_lt fun _ => ?_)
      | exact hS _ (by decide)
      | exact subL (by decide) hS
      | (with_reducible refine Fr_bd (fr_X5_read ?_ ‹EqS S M0 _›) fun _ _ _ => ?_)
      | (with_reducible refine fr_X5_read ?_ ‹EqS S M0 _›)
      | (with_reducible refine Fr_bd (fr_X7_become ?_ ?_ ?_ ‹EqS S M0 _›) fun _ _ _ => ?_)
      | (with_reducible refine fr_X7_become ?_ ?_ ?_ ‹EqS S M0 _›)
      | (with_reducible refine Fr_bd (fr_J7_fill_031fb ?_ ‹EqS S M0 _›) fun _ _ _ => ?_)
      | (with_reducible refine fr_J7_fill_031fb ?_ ‹EqS S M0 _›)
      | intro _)
theorem fr_X9_become {S : Nat → Bool} {w : Nat} {a1 : Nat} {a2 : Int32} {a3 : Int32} {M0 M : mm} (hP_w_0 : S (w) = true) (hP_w_1 : S (w + 1) = true) (hP_w_2 : S (w + 2) = true) (hP_w_3 : S (w + 3) = true) (hP_w_4 : S (w + 4) = true) (hP_w_5 : S (w + 5) = true) (hP_w_6 : S (w + 6) = true) (hP_w_7 : S (w + 7) = true) (hP_w_8 : S (w + 8) = true) (hP_w_9 : S (w + 9) = true) (e : EqS S M0 M) : Fr S M0 (X9_become w a1 a2 a3 M) := by
  unfold X9_become
  repeat' (first
      | with_reducible assumption
      | with_reducible exact Fr_none
      | (with_reducible exact Fr_some ‹EqS S M0 _›)
      | (with_reducible refine Fr_gd fun _ => ?_)
      | (with_reducible refine Fr_ite ?_ ?_)
      | (with_reducible refine Fr_opt ?_ fun _ => ?_)
      | (with_reducible refine Fr_sA ?_ ‹EqS S M0 _› fun _ _ => ?_)
      | (with_reducible refine Fr_sR0 ‹EqS S M0 _› fun _ _ => ?_)
      | (with_reducible refine Fr_sL ?_ ‹EqS S M0 _› fun _ _ => ?_)
      | (with_reducible refine Fr_lt fun _ => ?_)
      | intro _)
theorem fr_X9_nail {S : Nat → Bool} {w : Nat} {a1 : Int32} {a2 : Int32} {M0 M : mm}  (e : EqS S M0 M) : Fr S M0 (X9_nail w a1 a2 M) := by
  unfold X9_nail
  repeat' (first
      | with_reducible assumption
      | with_reducible exact Fr_none
      | (with_reducible exact Fr_some ‹EqS S M0 _›)
      | (with_reducible refine Fr_gd fun _ => ?_)
      | (with_reducible refine Fr_ite ?_ ?_)
      | (with_reducible refine Fr_opt ?_ fun _ => ?_)
      | (with_reducible refine Fr_sA ?_ ‹EqS S M0 _› fun _ _ => ?_)
      | (with_reducible refine Fr_sR0 ‹EqS S M0 _› fun _ _ => ?_)
      | (with_reducible refine Fr_sL ?_ ‹EqS S M0 _› fun _ _ => ?_)
      | (with_reducible refine Fr_lt fun _ => ?_)
      | intro _)
theorem fr_X9_oftenOver_b44 {S : Nat → Bool} {w : Nat} {a1 : Int32} {a2 : Int32} {a3 : Int32} {R6 : Int32 → Int32 → mm → Option (Int32 × mm)} {x4 : Int32} {x5 : Int32} {M0 M : mm} (hR6 : ∀ (y0 : Int32) (y1 : Int32) (M_ : mm), EqS S M0 M_ → Fr S M0 (R6 y0 y1 M_)) (e : EqS S M0 M) : Fr S M0 (X9_oftenOver_b44 w a1 a2 a3 R6 x4 x5 M) := by
  unfold X9_oftenOver_b44
  repeat' (first
      | with_reducible assumption
      | with_reducible exact Fr_none
      | (with_reducible exact Fr_some ‹EqS S M0 _›)
      | (with_reducible refine Fr_gd fun _ => ?_)
      | (with_reducible refine Fr_ite ?_ ?_)
      | (with_reducible refine Fr_opt ?_ fun _ => ?_)
      | (with_reducible refine Fr_sA ?_ ‹EqS S M0 _› fun _ _ => ?_)
      | (with_reducible refine Fr_sR0 ‹EqS S M0 _› fun _ _ => ?_)
      | (with_reducible refine Fr_sL ?_ ‹EqS S M0 _› fun _ _ => ?_)
      | (with_reducible refine Fr_lt fun _ => ?_)
      | (with_reducible refine Fr_bd (hR6 _ _ _ ‹EqS S M0 _›) fun _ _ _ => ?_)
      | with_reducible exact hR6 _ _ _ ‹EqS S M0 _›
      | intro _)
theorem fr_X9_oftenOver_L6 {S : Nat → Bool} {w : Nat} {a1 : Int32} {a2 : Int32} {a3 : Int32} {M0 : mm}  : ∀ (n_ : Nat) (z1 : Int32) (z2 : Int32) (M : mm), EqS S M0 M → Fr S M0 (X9_oftenOver_L6 w a1 a2 a3 n_ z1 z2 M) := by
  intro n_
  induction n_ with
  | zero =>
    intros
    exact Fr_none
  | succ n_ ih =>
    intro z1 z2 M e
    rw [X9_oftenOver_L6]
    repeat' (first
        | with_reducible assumption
        | with_reducible exact Fr_none
        | (with_reducible exact Fr_some ‹EqS S M0 _›)
        | (with_reducible refine Fr_gd fun _ => ?_)
        | (with_reducible refine Fr_ite ?_ ?_)
        | (with_reducible refine Fr_opt ?_ fun _ => ?_)
        | (with_reducible refine Fr_sA ?_ ‹EqS S M0 _› fun _ _ => ?_)
        | (with_reducible refine Fr_sR0 ‹EqS S M0 _› fun _ _ => ?_)
        | (with_reducible refine Fr_sL ?_ ‹EqS S M0 _› fun _ _ => ?_)
        | (with_reducible refine Fr_lt fun _ => ?_)
        | (with_reducible refine Fr_bd (fr_X9_nail  ‹EqS S M0 _›) fun _ _ _ => ?_)
        | (with_reducible refine fr_X9_nail  ‹EqS S M0 _›)
        | (with_reducible refine Fr_bd (fr_X9_oftenOver_b44 ?_ ‹EqS S M0 _›) fun _ _ _ => ?_)
        | (with_reducible refine fr_X9_oftenOver_b44 ?_ ‹EqS S M0 _›)
        | (with_reducible refine Fr_bd (ih _ _ _ ‹EqS S M0 _›) fun _ _ _ => ?_)
        | with_reducible exact ih _ _ _ ‹EqS S M0 _›
        | intro _)
theorem fr_X9_oftenOver {S : Nat → Bool} {w : Nat} {a1 : Int32} {a2 : Int32} {a3 : Int32} {M0 M : mm}  (e : EqS S M0 M) : Fr S M0 (X9_oftenOver w a1 a2 a3 M) := by
  unfold X9_oftenOver
  repeat' (first
      | with_reducible assumption
      | with_reducible exact Fr_none
      | (with_reducible exact Fr_some ‹EqS S M0 _›)
      | (with_reducible refine Fr_gd fun _ => ?_)
      | (with_reducible refine Fr_ite ?_ ?_)
      | (with_reducible refine Fr_opt ?_ fun _ => ?_)
      | (with_reducible refine Fr_sA ?_ ‹EqS S M0 _› fun _ _ => ?_)
      | (with_reducible refine Fr_sR0 ‹EqS S M0 _› fun _ _ => ?_)
      | (with_reducible refine Fr_sL ?_ ‹EqS S M0 _› fun _ _ => ?_)
      | (with_reducible refine Fr_lt fun _ => ?_)
      | (with_reducible refine Fr_bd (fr_X9_oftenOver_L6  _ _ _ _ ‹EqS S M0 _›) fun _ _ _ => ?_)
      | (with_reducible refine fr_X9_oftenOver_L6  _ _ _ _ ‹EqS S M0 _›)
      | intro _)
theorem fr_X10_person {S : Nat → Bool} {a1 : Int32} {a2 : Int32} {M0 M : mm} (hS : ∀ k, k ∈ [1, 2, 3] → S k = true) (e : EqS S M0 M) : Fr S M0 (X10_person a1 a2 M) := by
  unfold X10_person
  repeat' (first
      | with_reducible assumption
      | with_reducible exact Fr_none
      | (with_reducible exact Fr_some ‹EqS S M0 _›)
      | (with_reducible refine Fr_gd fun _ => ?_)
      | (with_reducible refine Fr_ite ?_ ?_)
      | (with_reducible refine Fr_opt ?_ fun _ => ?_)
      | (with_reducible refine Fr_sA ?_ ‹EqS S M0 _› fun _ _ => ?_)
      | (with_reducible refine Fr_sR0 ‹EqS S M0 _› fun _ _ => ?_)
      | (with_reducible refine Fr_sL ?_ ‹EqS S M0 _› fun _ _ => ?_)
      | (with_reducible refine Fr_lt fun _ => ?_)
      | exact hS _ (by decide)
      | exact subL (by decide) hS
      | (with_reducible refine Fr_bd (fr_X3_addPerson ?_ ‹EqS S M0 _›) fun _ _ _ => ?_)
      | (with_reducible refine fr_X3_addPerson ?_ ‹EqS S M0 _›)
      | intro _)
theorem fr_X10_addThing {S : Nat → Bool} {a1 : Int32} {a2 : Int32} {a3 : Int32} {M0 M : mm} (hS : ∀ k, k ∈ [1, 5, 6, 7, 8, 29, 30, 31, 32] → S k = true) (e : EqS S M0 M) : Fr S M0 (X10_addThing a1 a2 a3 M) := by
  unfold X10_addThing
  repeat' (first
      | with_reducible assumption
      | with_reducible exact Fr_none
      | (with_reducible exact Fr_some ‹EqS S M0 _›)
      | (with_reducible refine Fr_gd fun _ => ?_)
      | (with_reducible refine Fr_ite ?_ ?_)
      | (with_reducible refine Fr_opt ?_ fun _ => ?_)
      | (with_reducible refine Fr_sA ?_ ‹EqS S M0 _› fun _ _ => ?_)
      | (with_reducible refine Fr_sR0 ‹EqS S M0 _› fun _ _ => ?_)
      | (with_reducible refine Fr_sL ?_ ‹EqS S M0 _› fun _ _ => ?_)
      | (with_reducible refine Fr_lt fun _ => ?_)
      | exact hS _ (by decide)
      | exact subL (by decide) hS
      | (with_reducible refine Fr_bd (fr_X3_hasPerson  ‹EqS S M0 _›) fun _ _ _ => ?_)
      | (with_reducible refine fr_X3_hasPerson  ‹EqS S M0 _›)
      | (with_reducible refine Fr_bd (fr_X3_addThing ?_ ‹EqS S M0 _›) fun _ _ _ => ?_)
      | (with_reducible refine fr_X3_addThing ?_ ‹EqS S M0 _›)
      | (with_reducible refine Fr_bd (fr_X9_makeWhole ?_ ?_ ?_ ?_ ‹EqS S M0 _›) fun _ _ _ => ?_)
      | (with_reducible refine fr_X9_makeWhole ?_ ?_ ?_ ?_ ‹EqS S M0 _›)
      | intro _)
theorem fr_X10_thing {S : Nat → Bool} {a1 : Int32} {a2 : Int32} {M0 M : mm} (hS : ∀ k, k ∈ [1, 5, 6, 7, 8, 29, 30, 31, 32] → S k = true) (e : EqS S M0 M) : Fr S M0 (X10_thing a1 a2 M) := by
  unfold X10_thing
  repeat' (first
      | with_reducible assumption
      | with_reducible exact Fr_none
      | (with_reducible exact Fr_some ‹EqS S M0 _›)
      | (with_reducible refine Fr_gd fun _ => ?_)
      | (with_reducible refine Fr_ite ?_ ?_)
      | (with_reducible refine Fr_opt ?_ fun _ => ?_)
      | (with_reducible refine Fr_sA ?_ ‹EqS S M0 _› fun _ _ => ?_)
      | (with_reducible refine Fr_sR0 ‹EqS S M0 _› fun _ _ => ?_)
      | (with_reducible refine Fr_sL ?_ ‹EqS S M0 _› fun _ _ => ?_)
      | (with_reducible refine Fr_lt fun _ => ?_)
      | exact hS _ (by decide)
      | exact subL (by decide) hS
      | (with_reducible refine Fr_bd (fr_X10_addThing ?_ ‹EqS S M0 _›) fun _ _ _ => ?_)
      | (with_reducible refine fr_X10_addThing ?_ ‹EqS S M0 _›)
      | intro _)
theorem fr_X10_shelfAt {S : Nat → Bool} {a1 : Int32} {M0 M : mm}  (e : EqS S M0 M) : Fr S M0 (X10_shelfAt a1 M) := by
  unfold X10_shelfAt
  repeat' (first
      | with_reducible assumption
      | with_reducible exact Fr_none
      | (with_reducible exact Fr_some ‹EqS S M0 _›)
      | (with_reducible refine Fr_gd fun _ => ?_)
      | (with_reducible refine Fr_ite ?_ ?_)
      | (with_reducible refine Fr_opt ?_ fun _ => ?_)
      | (with_reducible refine Fr_sA ?_ ‹EqS S M0 _› fun _ _ => ?_)
      | (with_reducible refine Fr_sR0 ‹EqS S M0 _› fun _ _ => ?_)
      | (with_reducible refine Fr_sL ?_ ‹EqS S M0 _› fun _ _ => ?_)
      | (with_reducible refine Fr_lt fun _ => ?_)
      | intro _)
theorem fr_X10_things_L59 {S : Nat → Bool} {a1 : Int32} {a2 : Int32} {a3 : Int32} {K115 : Int32 → mm → Option (Int32 × mm)} {M0 : mm} (hS : ∀ k, k ∈ [1, 5, 6, 7, 8, 29, 30, 31, 32] → S k = true) (hK115 : ∀ (y0 : Int32) (M_ : mm), EqS S M0 M_ → Fr S M0 (K115 y0 M_)) : ∀ (n_ : Nat) (z1 : Nat) (z2 : Int32) (z3 : Int32) (M : mm), EqS S M0 M → Fr S M0 (X10_things_L59 a1 a2 a3 K115 n_ z1 z2 z3 M) := by
  intro n_
  induction n_ with
  | zero =>
    intros
    exact Fr_none
  | succ n_ ih =>
    intro z1 z2 z3 M e
    rw [X10_things_L59]
    repeat' (first
        | with_reducible assumption
        | with_reducible exact Fr_none
        | (with_reducible exact Fr_some ‹EqS S M0 _›)
        | (with_reducible refine Fr_gd fun _ => ?_)
        | (with_reducible refine Fr_ite ?_ ?_)
        | (with_reducible refine Fr_opt ?_ fun _ => ?_)
        | (with_reducible refine Fr_sA ?_ ‹EqS S M0 _› fun _ _ => ?_)
        | (with_reducible refine Fr_sR0 ‹EqS S M0 _› fun _ _ => ?_)
        | (with_reducible refine Fr_sL ?_ ‹EqS S M0 _› fun _ _ => ?_)
        | (with_reducible refine Fr_lt fun _ => ?_)
        | exact hS _ (by decide)
        | exact subL (by decide) hS
        | (with_reducible refine Fr_bd (hK115 _ _ ‹EqS S M0 _›) fun _ _ _ => ?_)
        | with_reducible exact hK115 _ _ ‹EqS S M0 _›
        | (with_reducible refine Fr_bd (fr_X10_addThing ?_ ‹EqS S M0 _›) fun _ _ _ => ?_)
        | (with_reducible refine fr_X10_addThing ?_ ‹EqS S M0 _›)
        | (with_reducible refine Fr_bd (ih _ _ _ _ ‹EqS S M0 _›) fun _ _ _ => ?_)
        | with_reducible exact ih _ _ _ _ ‹EqS S M0 _›
        | intro _)
theorem fr_X10_things {S : Nat → Bool} {a1 : Int32} {a2 : Int32} {a3 : Int32} {M0 M : mm} (hS : ∀ k, k ∈ [1, 5, 6, 7, 8, 29, 30, 31, 32] → S k = true) (e : EqS S M0 M) : Fr S M0 (X10_things a1 a2 a3 M) := by
  unfold X10_things
  repeat' (first
      | with_reducible assumption
      | with_reducible exact Fr_none
      | (with_reducible exact Fr_some ‹EqS S M0 _›)
      | (with_reducible refine Fr_gd fun _ => ?_)
      | (with_reducible refine Fr_ite ?_ ?_)
      | (with_reducible refine Fr_opt ?_ fun _ => ?_)
      | (with_reducible refine Fr_sA ?_ ‹EqS S M0 _› fun _ _ => ?_)
      | (with_reducible refine Fr_sR0 ‹EqS S M0 _› fun _ _ => ?_)
      | (with_reducible refine Fr_sL ?_ ‹EqS S M0 _› fun _ _ => ?_)
      | (with_reducible refine Fr_lt fun _ => ?_)
      | exact hS _ (by decide)
      | exact subL (by decide) hS
      | (with_reducible refine Fr_bd (fr_X10_shelfAt  ‹EqS S M0 _›) fun _ _ _ => ?_)
      | (with_reducible refine fr_X10_shelfAt  ‹EqS S M0 _›)
      | (with_reducible refine Fr_bd (fr_X6_isRowOf  ‹EqS S M0 _›) fun _ _ _ => ?_)
      | (with_reducible refine fr_X6_isRowOf  ‹EqS S M0 _›)
      | (with_reducible refine Fr_bd (fr_X10_things_L59 ?_ ?_ _ _ _ _ _ ‹EqS S M0 _›) fun _ _ _ => ?_)
      | (with_reducible refine fr_X10_things_L59 ?_ ?_ _ _ _ _ _ ‹EqS S M0 _›)
      | intro _)
theorem fr_X10_rule_b50 {S : Nat → Bool} {a1 : Int32} {a2 : Int32} {s0 : Int32} {M0 M : mm} (hS : ∀ k, k ∈ [1] → S k = true) (e : EqS S M0 M) : Fr S M0 (X10_rule_b50 a1 a2 s0 M) := by
  unfold X10_rule_b50
  repeat' (first
      | with_reducible assumption
      | with_reducible exact Fr_none
      | (with_reducible exact Fr_some ‹EqS S M0 _›)
      | (with_reducible refine Fr_gd fun _ => ?_)
      | (with_reducible refine Fr_ite ?_ ?_)
      | (with_reducible refine Fr_opt ?_ fun _ => ?_)
      | (with_reducible refine Fr_sA ?_ ‹EqS S M0 _› fun _ _ => ?_)
      | (with_reducible refine Fr_sR0 ‹EqS S M0 _› fun _ _ => ?_)
      | (with_reducible refine Fr_sL ?_ ‹EqS S M0 _› fun _ _ => ?_)
      | (with_reducible refine Fr_lt fun _ => ?_)
      | exact hS _ (by decide)
      | exact subL (by decide) hS
      | intro _)
theorem fr_X10_rule_b24 {S : Nat → Bool} {a1 : Int32} {a2 : Int32} {s0 : Int32} {s1 : Int32} {M0 M : mm} (hS : ∀ k, k ∈ [1] → S k = true) (e : EqS S M0 M) : Fr S M0 (X10_rule_b24 a1 a2 s0 s1 M) := by
  unfold X10_rule_b24
  repeat' (first
      | with_reducible assumption
      | with_reducible exact Fr_none
      | (with_reducible exact Fr_some ‹EqS S M0 _›)
      | (with_reducible refine Fr_gd fun _ => ?_)
      | (with_reducible refine Fr_ite ?_ ?_)
      | (with_reducible refine Fr_opt ?_ fun _ => ?_)
      | (with_reducible refine Fr_sA ?_ ‹EqS S M0 _› fun _ _ => ?_)
      | (with_reducible refine Fr_sR0 ‹EqS S M0 _› fun _ _ => ?_)
      | (with_reducible refine Fr_sL ?_ ‹EqS S M0 _› fun _ _ => ?_)
      | (with_reducible refine Fr_lt fun _ => ?_)
      | exact hS _ (by decide)
      | exact subL (by decide) hS
      | (with_reducible refine Fr_bd (fr_X10_rule_b50 ?_ ‹EqS S M0 _›) fun _ _ _ => ?_)
      | (with_reducible refine fr_X10_rule_b50 ?_ ‹EqS S M0 _›)
      | intro _)
theorem fr_X10_rule {S : Nat → Bool} {a1 : Int32} {a2 : Int32} {M0 M : mm} (hS : ∀ k, k ∈ [1] → S k = true) (e : EqS S M0 M) : Fr S M0 (X10_rule a1 a2 M) := by
  unfold X10_rule
  repeat' (first
      | with_reducible assumption
      | with_reducible exact Fr_none
      | (with_reducible exact Fr_some ‹EqS S M0 _›)
      | (with_reducible refine Fr_gd fun _ => ?_)
      | (with_reducible refine Fr_ite ?_ ?_)
      | (with_reducible refine Fr_opt ?_ fun _ => ?_)
      | (with_reducible refine Fr_sA ?_ ‹EqS S M0 _› fun _ _ => ?_)
      | (with_reducible refine Fr_sR0 ‹EqS S M0 _› fun _ _ => ?_)
      | (with_reducible refine Fr_sL ?_ ‹EqS S M0 _› fun _ _ => ?_)
      | (with_reducible refine Fr_lt fun _ => ?_)
      | exact hS _ (by decide)
      | exact subL (by decide) hS
      | (with_reducible refine Fr_bd (fr_X10_rule_b24 ?_ ‹EqS S M0 _›) fun _ _ _ => ?_)
      | (with_reducible refine fr_X10_rule_b24 ?_ ‹EqS S M0 _›)
      | intro _)
theorem fr_X10_mend {S : Nat → Bool} {a1 : Int32} {a2 : Int32} {a3 : Int32} {M0 M : mm} (hS : ∀ k, k ∈ [1, 2, 3, 4, 6, 7, 8, 61, 62, 63, 64, 65] → S k = true) (e : EqS S M0 M) : Fr S M0 (X10_mend a1 a2 a3 M) := by
  unfold X10_mend
  repeat' (first
      | with_reducible assumption
      | with_reducible exact Fr_none
      | (with_reducible exact Fr_some ‹EqS S M0 _›)
      | (with_reducible refine Fr_gd fun _ => ?_)
      | (with_reducible refine Fr_ite ?_ ?_)
      | (with_reducible refine Fr_opt ?_ fun _ => ?_)
      | (with_reducible refine Fr_sA ?_ ‹EqS S M0 _› fun _ _ => ?_)
      | (with_reducible refine Fr_sR0 ‹EqS S M0 _› fun _ _ => ?_)
      | (with_reducible refine Fr_sL ?_ ‹EqS S M0 _› fun _ _ => ?_)
      | (with_reducible refine Fr_lt fun _ => ?_)
      | exact hS _ (by decide)
      | exact subL (by decide) hS
      | (with_reducible refine Fr_bd (fr_X3_mayTell  ‹EqS S M0 _›) fun _ _ _ => ?_)
      | (with_reducible refine fr_X3_mayTell  ‹EqS S M0 _›)
      | (with_reducible refine Fr_bd (fr_X3_tell ?_ ‹EqS S M0 _›) fun _ _ _ => ?_)
      | (with_reducible refine fr_X3_tell ?_ ‹EqS S M0 _›)
      | (with_reducible refine Fr_bd (fr_X1_note ?_ ‹EqS S M0 _›) fun _ _ _ => ?_)
      | (with_reducible refine fr_X1_note ?_ ‹EqS S M0 _›)
      | intro _)
theorem fr_X10_ofPerson {S : Nat → Bool} {a1 : Int32} {a2 : Int32} {M0 M : mm}  (e : EqS S M0 M) : Fr S M0 (X10_ofPerson a1 a2 M) := by
  unfold X10_ofPerson
  repeat' (first
      | with_reducible assumption
      | with_reducible exact Fr_none
      | (with_reducible exact Fr_some ‹EqS S M0 _›)
      | (with_reducible refine Fr_gd fun _ => ?_)
      | (with_reducible refine Fr_ite ?_ ?_)
      | (with_reducible refine Fr_opt ?_ fun _ => ?_)
      | (with_reducible refine Fr_sA ?_ ‹EqS S M0 _› fun _ _ => ?_)
      | (with_reducible refine Fr_sR0 ‹EqS S M0 _› fun _ _ => ?_)
      | (with_reducible refine Fr_sL ?_ ‹EqS S M0 _› fun _ _ => ?_)
      | (with_reducible refine Fr_lt fun _ => ?_)
      | intro _)
theorem fr_X10_ofThing_b184 {S : Nat → Bool} {a1 : Int32} {a2 : Int32} {s1 : Int32} {s2 : Int32} {s3 : Int32} {s4 : Int32} {M0 M : mm} (hS : ∀ k, k ∈ [19, 20] → S k = true) (e : EqS S M0 M) : Fr S M0 (X10_ofThing_b184 a1 a2 s1 s2 s3 s4 M) := by
  unfold X10_ofThing_b184
  repeat' (first
      | with_reducible assumption
      | with_reducible exact Fr_none
      | (with_reducible exact Fr_some ‹EqS S M0 _›)
      | (with_reducible refine Fr_gd fun _ => ?_)
      | (with_reducible refine Fr_ite ?_ ?_)
      | (with_reducible refine Fr_opt ?_ fun _ => ?_)
      | (with_reducible refine Fr_sA ?_ ‹EqS S M0 _› fun _ _ => ?_)
      | (with_reducible refine Fr_sR0 ‹EqS S M0 _› fun _ _ => ?_)
      | (with_reducible refine Fr_sL ?_ ‹EqS S M0 _› fun _ _ => ?_)
      | (with_reducible refine Fr_lt fun _ => ?_)
      | exact hS _ (by decide)
      | exact subL (by decide) hS
      | (with_reducible refine Fr_bd (fr_X8_number ?_ ‹EqS S M0 _›) fun _ _ _ => ?_)
      | (with_reducible refine fr_X8_number ?_ ‹EqS S M0 _›)
      | intro _)
theorem fr_X10_ofThing {S : Nat → Bool} {a1 : Int32} {a2 : Int32} {M0 M : mm} (hS : ∀ k, k ∈ [19, 20] → S k = true) (e : EqS S M0 M) : Fr S M0 (X10_ofThing a1 a2 M) := by
  unfold X10_ofThing
  repeat' (first
      | with_reducible assumption
      | with_reducible exact Fr_none
      | (with_reducible exact Fr_some ‹EqS S M0 _›)
      | (with_reducible refine Fr_gd fun _ => ?_)
      | (with_reducible refine Fr_ite ?_ ?_)
      | (with_reducible refine Fr_opt ?_ fun _ => ?_)
      | (with_reducible refine Fr_sA ?_ ‹EqS S M0 _› fun _ _ => ?_)
      | (with_reducible refine Fr_sR0 ‹EqS S M0 _› fun _ _ => ?_)
      | (with_reducible refine Fr_sL ?_ ‹EqS S M0 _› fun _ _ => ?_)
      | (with_reducible refine Fr_lt fun _ => ?_)
      | exact hS _ (by decide)
      | exact subL (by decide) hS
      | (with_reducible refine Fr_bd (fr_X10_ofThing_b184 ?_ ‹EqS S M0 _›) fun _ _ _ => ?_)
      | (with_reducible refine fr_X10_ofThing_b184 ?_ ‹EqS S M0 _›)
      | intro _)
theorem fr_X10_of_b32 {S : Nat → Bool} {a1 : Int32} {a2 : Int32} {M0 M : mm} (hS : ∀ k, k ∈ [19, 20] → S k = true) (e : EqS S M0 M) : Fr S M0 (X10_of_b32 a1 a2 M) := by
  unfold X10_of_b32
  repeat' (first
      | with_reducible assumption
      | with_reducible exact Fr_none
      | (with_reducible exact Fr_some ‹EqS S M0 _›)
      | (with_reducible refine Fr_gd fun _ => ?_)
      | (with_reducible refine Fr_ite ?_ ?_)
      | (with_reducible refine Fr_opt ?_ fun _ => ?_)
      | (with_reducible refine Fr_sA ?_ ‹EqS S M0 _› fun _ _ => ?_)
      | (with_reducible refine Fr_sR0 ‹EqS S M0 _› fun _ _ => ?_)
      | (with_reducible refine Fr_sL ?_ ‹EqS S M0 _› fun _ _ => ?_)
      | (with_reducible refine Fr_lt fun _ => ?_)
      | exact hS _ (by decide)
      | exact subL (by decide) hS
      | (with_reducible refine Fr_bd (fr_X3_hasThing  ‹EqS S M0 _›) fun _ _ _ => ?_)
      | (with_reducible refine fr_X3_hasThing  ‹EqS S M0 _›)
      | (with_reducible refine Fr_bd (fr_X10_ofThing ?_ ‹EqS S M0 _›) fun _ _ _ => ?_)
      | (with_reducible refine fr_X10_ofThing ?_ ‹EqS S M0 _›)
      | intro _)
theorem fr_X10_of {S : Nat → Bool} {a1 : Int32} {a2 : Int32} {M0 M : mm} (hS : ∀ k, k ∈ [19, 20] → S k = true) (e : EqS S M0 M) : Fr S M0 (X10_of a1 a2 M) := by
  unfold X10_of
  repeat' (first
      | with_reducible assumption
      | with_reducible exact Fr_none
      | (with_reducible exact Fr_some ‹EqS S M0 _›)
      | (with_reducible refine Fr_gd fun _ => ?_)
      | (with_reducible refine Fr_ite ?_ ?_)
      | (with_reducible refine Fr_opt ?_ fun _ => ?_)
      | (with_reducible refine Fr_sA ?_ ‹EqS S M0 _› fun _ _ => ?_)
      | (with_reducible refine Fr_sR0 ‹EqS S M0 _› fun _ _ => ?_)
      | (with_reducible refine Fr_sL ?_ ‹EqS S M0 _› fun _ _ => ?_)
      | (with_reducible refine Fr_lt fun _ => ?_)
      | exact hS _ (by decide)
      | exact subL (by decide) hS
      | (with_reducible refine Fr_bd (fr_X10_of_b32 ?_ ‹EqS S M0 _›) fun _ _ _ => ?_)
      | (with_reducible refine fr_X10_of_b32 ?_ ‹EqS S M0 _›)
      | (with_reducible refine Fr_bd (fr_X3_hasPerson  ‹EqS S M0 _›) fun _ _ _ => ?_)
      | (with_reducible refine fr_X3_hasPerson  ‹EqS S M0 _›)
      | (with_reducible refine Fr_bd (fr_X10_ofPerson  ‹EqS S M0 _›) fun _ _ _ => ?_)
      | (with_reducible refine fr_X10_ofPerson  ‹EqS S M0 _›)
      | intro _)
theorem fr_X10_feed {S : Nat → Bool} {a1 : Int32} {M0 M : mm} (hS : ∀ k, k ∈ [9, 10] → S k = true) (e : EqS S M0 M) : Fr S M0 (X10_feed a1 M) := by
  unfold X10_feed
  repeat' (first
      | with_reducible assumption
      | with_reducible exact Fr_none
      | (with_reducible exact Fr_some ‹EqS S M0 _›)
      | (with_reducible refine Fr_gd fun _ => ?_)
      | (with_reducible refine Fr_ite ?_ ?_)
      | (with_reducible refine Fr_opt ?_ fun _ => ?_)
      | (with_reducible refine Fr_sA ?_ ‹EqS S M0 _› fun _ _ => ?_)
      | (with_reducible refine Fr_sR0 ‹EqS S M0 _› fun _ _ => ?_)
      | (with_reducible refine Fr_sL ?_ ‹EqS S M0 _› fun _ _ => ?_)
      | (with_reducible refine Fr_lt fun _ => ?_)
      | exact hS _ (by decide)
      | exact subL (by decide) hS
      | (with_reducible refine Fr_bd (fr_X8_take ?_ ‹EqS S M0 _›) fun _ _ _ => ?_)
      | (with_reducible refine fr_X8_take ?_ ‹EqS S M0 _›)
      | intro _)
theorem fr_X10_law {S : Nat → Bool}  {M0 M : mm} (hS : ∀ k, k ∈ [1, 9, 11, 13, 14, 15, 16, 17, 18, 20] → S k = true) (e : EqS S M0 M) : Fr S M0 (X10_law  M) := by
  unfold X10_law
  repeat' (first
      | with_reducible assumption
      | with_reducible exact Fr_none
      | (with_reducible exact Fr_some ‹EqS S M0 _›)
      | (with_reducible refine Fr_gd fun _ => ?_)
      | (with_reducible refine Fr_ite ?_ ?_)
      | (with_reducible refine Fr_opt ?_ fun _ => ?_)
      | (with_reducible refine Fr_sA ?_ ‹EqS S M0 _› fun _ _ => ?_)
      | (with_reducible refine Fr_sR0 ‹EqS S M0 _› fun _ _ => ?_)
      | (with_reducible refine Fr_sL ?_ ‹EqS S M0 _› fun _ _ => ?_)
      | (with_reducible refine Fr_lt fun _ => ?_)
      | exact hS _ (by decide)
      | exact subL (by decide) hS
      | (with_reducible refine Fr_bd (fr_X8_becomeTape ?_ ‹EqS S M0 _›) fun _ _ _ => ?_)
      | (with_reducible refine fr_X8_becomeTape ?_ ‹EqS S M0 _›)
      | intro _)
theorem fr_X10_fix {S : Nat → Bool} {a1 : Int32} {M0 M : mm} (hS : ∀ k, k ∈ [29, 30, 31, 32, 33, 34, 35, 37] → S k = true) (e : EqS S M0 M) : Fr S M0 (X10_fix a1 M) := by
  unfold X10_fix
  repeat' (first
      | with_reducible assumption
      | with_reducible exact Fr_none
      | (with_reducible exact Fr_some ‹EqS S M0 _›)
      | (with_reducible refine Fr_gd fun _ => ?_)
      | (with_reducible refine Fr_ite ?_ ?_)
      | (with_reducible refine Fr_opt ?_ fun _ => ?_)
      | (with_reducible refine Fr_sA ?_ ‹EqS S M0 _› fun _ _ => ?_)
      | (with_reducible refine Fr_sR0 ‹EqS S M0 _› fun _ _ => ?_)
      | (with_reducible refine Fr_sL ?_ ‹EqS S M0 _› fun _ _ => ?_)
      | (with_reducible refine Fr_lt fun _ => ?_)
      | exact hS _ (by decide)
      | exact subL (by decide) hS
      | (with_reducible refine Fr_bd (fr_X3_hasThing  ‹EqS S M0 _›) fun _ _ _ => ?_)
      | (with_reducible refine fr_X3_hasThing  ‹EqS S M0 _›)
      | (with_reducible refine Fr_bd (fr_X3_hasPerson  ‹EqS S M0 _›) fun _ _ _ => ?_)
      | (with_reducible refine fr_X3_hasPerson  ‹EqS S M0 _›)
      | (with_reducible refine Fr_bd (fr_X9_mendedBy ?_ ?_ ?_ ?_ ?_ ?_ ?_ ?_ ‹EqS S M0 _›) fun _ _ _ => ?_)
      | (with_reducible refine fr_X9_mendedBy ?_ ?_ ?_ ?_ ?_ ?_ ?_ ?_ ‹EqS S M0 _›)
      | intro _)
theorem fr_X10_years_L26 {S : Nat → Bool} {a1 : Int32} {a2 : Int32} {K52 : Int32 → mm → Option (Int32 × mm)} {M0 : mm} (hS : ∀ k, k ∈ [19, 20, 21, 22, 23, 24, 25, 26, 27, 28, 29, 30, 31, 32, 33, 34, 35, 36, 37, 38] → S k = true) (hK52 : ∀ (y0 : Int32) (M_ : mm), EqS S M0 M_ → Fr S M0 (K52 y0 M_)) : ∀ (n_ : Nat) (z1 : Int32) (z2 : Int32) (M : mm), EqS S M0 M → Fr S M0 (X10_years_L26 a1 a2 K52 n_ z1 z2 M) := by
  intro n_
  induction n_ with
  | zero =>
    intros
    exact Fr_none
  | succ n_ ih =>
    intro z1 z2 M e
    rw [X10_years_L26]
    repeat' (first
        | with_reducible assumption
        | with_reducible exact Fr_none
        | (with_reducible exact Fr_some ‹EqS S M0 _›)
        | (with_reducible refine Fr_gd fun _ => ?_)
        | (with_reducible refine Fr_ite ?_ ?_)
        | (with_reducible refine Fr_opt ?_ fun _ => ?_)
        | (with_reducible refine Fr_sA ?_ ‹EqS S M0 _› fun _ _ => ?_)
        | (with_reducible refine Fr_sR0 ‹EqS S M0 _› fun _ _ => ?_)
        | (with_reducible refine Fr_sL ?_ ‹EqS S M0 _› fun _ _ => ?_)
        | (with_reducible refine Fr_lt fun _ => ?_)
        | exact hS _ (by decide)
        | exact subL (by decide) hS
        | exact EqS_r1 ‹EqS S M0 _› (hS _ (by decide)) (hS _ (by decide))
        | exact EqS_r2 ‹EqS S M0 _› (hS _ (by decide)) (hS _ (by decide))
        | (with_reducible refine Fr_bd (hK52 _ _ ‹EqS S M0 _›) fun _ _ _ => ?_)
        | with_reducible exact hK52 _ _ ‹EqS S M0 _›
        | (with_reducible refine Fr_bd (fr_X2_year ?_ ?_ ?_ ?_ ?_ ?_ ?_ ?_ ?_ ?_ ?_ ?_ ‹EqS S M0 _›) fun _ _ _ => ?_)
        | (with_reducible refine fr_X2_year ?_ ?_ ?_ ?_ ?_ ?_ ?_ ?_ ?_ ?_ ?_ ?_ ‹EqS S M0 _›)
        | (with_reducible refine Fr_bd (ih _ _ _ ‹EqS S M0 _›) fun _ _ _ => ?_)
        | with_reducible exact ih _ _ _ ‹EqS S M0 _›
        | intro _)
theorem fr_X10_years {S : Nat → Bool} {a1 : Int32} {a2 : Int32} {M0 M : mm} (hS : ∀ k, k ∈ [0, 19, 20, 21, 22, 23, 24, 25, 26, 27, 28, 29, 30, 31, 32, 33, 34, 35, 36, 37, 38] → S k = true) (e : EqS S M0 M) : Fr S M0 (X10_years a1 a2 M) := by
  unfold X10_years
  repeat' (first
      | with_reducible assumption
      | with_reducible exact Fr_none
      | (with_reducible exact Fr_some ‹EqS S M0 _›)
      | (with_reducible refine Fr_gd fun _ => ?_)
      | (with_reducible refine Fr_ite ?_ ?_)
      | (with_reducible refine Fr_opt ?_ fun _ => ?_)
      | (with_reducible refine Fr_sA ?_ ‹EqS S M0 _› fun _ _ => ?_)
      | (with_reducible refine Fr_sR0 ‹EqS S M0 _› fun _ _ => ?_)
      | (with_reducible refine Fr_sL ?_ ‹EqS S M0 _› fun _ _ => ?_)
      | (with_reducible refine Fr_lt fun _ => ?_)
      | exact hS _ (by decide)
      | exact subL (by decide) hS
      | exact EqS_r1 ‹EqS S M0 _› (hS _ (by decide)) (hS _ (by decide))
      | exact EqS_r2 ‹EqS S M0 _› (hS _ (by decide)) (hS _ (by decide))
      | (with_reducible refine Fr_bd (fr_X2_sow ?_ ‹EqS S M0 _›) fun _ _ _ => ?_)
      | (with_reducible refine fr_X2_sow ?_ ‹EqS S M0 _›)
      | (with_reducible refine Fr_bd (fr_X10_years_L26 ?_ ?_ _ _ _ _ ‹EqS S M0 _›) fun _ _ _ => ?_)
      | (with_reducible refine fr_X10_years_L26 ?_ ?_ _ _ _ _ ‹EqS S M0 _›)
      | intro _)
theorem fr_X10_paid {S : Nat → Bool} {a1 : Int32} {M0 M : mm}  (e : EqS S M0 M) : Fr S M0 (X10_paid a1 M) := by
  unfold X10_paid
  repeat' (first
      | with_reducible assumption
      | with_reducible exact Fr_none
      | (with_reducible exact Fr_some ‹EqS S M0 _›)
      | (with_reducible refine Fr_gd fun _ => ?_)
      | (with_reducible refine Fr_ite ?_ ?_)
      | (with_reducible refine Fr_opt ?_ fun _ => ?_)
      | (with_reducible refine Fr_sA ?_ ‹EqS S M0 _› fun _ _ => ?_)
      | (with_reducible refine Fr_sR0 ‹EqS S M0 _› fun _ _ => ?_)
      | (with_reducible refine Fr_sL ?_ ‹EqS S M0 _› fun _ _ => ?_)
      | (with_reducible refine Fr_lt fun _ => ?_)
      | (with_reducible refine Fr_bd (fr_X3_hasThing  ‹EqS S M0 _›) fun _ _ _ => ?_)
      | (with_reducible refine fr_X3_hasThing  ‹EqS S M0 _›)
      | intro _)
theorem fr_X10_layer {S : Nat → Bool} {a1 : Int32} {a2 : Int32} {M0 M : mm}  (e : EqS S M0 M) : Fr S M0 (X10_layer a1 a2 M) := by
  unfold X10_layer
  repeat' (first
      | with_reducible assumption
      | with_reducible exact Fr_none
      | (with_reducible exact Fr_some ‹EqS S M0 _›)
      | (with_reducible refine Fr_gd fun _ => ?_)
      | (with_reducible refine Fr_ite ?_ ?_)
      | (with_reducible refine Fr_opt ?_ fun _ => ?_)
      | (with_reducible refine Fr_sA ?_ ‹EqS S M0 _› fun _ _ => ?_)
      | (with_reducible refine Fr_sR0 ‹EqS S M0 _› fun _ _ => ?_)
      | (with_reducible refine Fr_sL ?_ ‹EqS S M0 _› fun _ _ => ?_)
      | (with_reducible refine Fr_lt fun _ => ?_)
      | (with_reducible refine Fr_bd (fr_X3_hasThing  ‹EqS S M0 _›) fun _ _ _ => ?_)
      | (with_reducible refine fr_X3_hasThing  ‹EqS S M0 _›)
      | (with_reducible refine Fr_bd (fr_X9_nail  ‹EqS S M0 _›) fun _ _ _ => ?_)
      | (with_reducible refine fr_X9_nail  ‹EqS S M0 _›)
      | intro _)
theorem fr_X10_told_L69 {S : Nat → Bool} {a1 : Int32} {a2 : Int32} {K107 : Nat → Int32 → Int32 → mm → Option (Int32 × mm)} {M0 : mm} (hK107 : ∀ (y0 : Nat) (y1 : Int32) (y2 : Int32) (M_ : mm), EqS S M0 M_ → Fr S M0 (K107 y0 y1 y2 M_)) : ∀ (n_ : Nat) (z1 : Nat) (z2 : Int32) (z3 : Int32) (z4 : Int32) (M : mm), EqS S M0 M → Fr S M0 (X10_told_L69 a1 a2 K107 n_ z1 z2 z3 z4 M) := by
  intro n_
  induction n_ with
  | zero =>
    intros
    exact Fr_none
  | succ n_ ih =>
    intro z1 z2 z3 z4 M e
    rw [X10_told_L69]
    repeat' (first
        | with_reducible assumption
        | with_reducible exact Fr_none
        | (with_reducible exact Fr_some ‹EqS S M0 _›)
        | (with_reducible refine Fr_gd fun _ => ?_)
        | (with_reducible refine Fr_ite ?_ ?_)
        | (with_reducible refine Fr_opt ?_ fun _ => ?_)
        | (with_reducible refine Fr_sA ?_ ‹EqS S M0 _› fun _ _ => ?_)
        | (with_reducible refine Fr_sR0 ‹EqS S M0 _› fun _ _ => ?_)
        | (with_reducible refine Fr_sL ?_ ‹EqS S M0 _› fun _ _ => ?_)
        | (with_reducible refine Fr_lt fun _ => ?_)
        | (with_reducible refine Fr_bd (hK107 _ _ _ _ ‹EqS S M0 _›) fun _ _ _ => ?_)
        | with_reducible exact hK107 _ _ _ _ ‹EqS S M0 _›
        | (with_reducible refine Fr_bd (fr_X9_nail  ‹EqS S M0 _›) fun _ _ _ => ?_)
        | (with_reducible refine fr_X9_nail  ‹EqS S M0 _›)
        | (with_reducible refine Fr_bd (ih _ _ _ _ _ ‹EqS S M0 _›) fun _ _ _ => ?_)
        | with_reducible exact ih _ _ _ _ _ ‹EqS S M0 _›
        | intro _)
theorem fr_X10_told {S : Nat → Bool} {a1 : Int32} {a2 : Int32} {M0 M : mm}  (e : EqS S M0 M) : Fr S M0 (X10_told a1 a2 M) := by
  unfold X10_told
  repeat' (first
      | with_reducible assumption
      | with_reducible exact Fr_none
      | (with_reducible exact Fr_some ‹EqS S M0 _›)
      | (with_reducible refine Fr_gd fun _ => ?_)
      | (with_reducible refine Fr_ite ?_ ?_)
      | (with_reducible refine Fr_opt ?_ fun _ => ?_)
      | (with_reducible refine Fr_sA ?_ ‹EqS S M0 _› fun _ _ => ?_)
      | (with_reducible refine Fr_sR0 ‹EqS S M0 _› fun _ _ => ?_)
      | (with_reducible refine Fr_sL ?_ ‹EqS S M0 _› fun _ _ => ?_)
      | (with_reducible refine Fr_lt fun _ => ?_)
      | (with_reducible refine Fr_bd (fr_X10_shelfAt  ‹EqS S M0 _›) fun _ _ _ => ?_)
      | (with_reducible refine fr_X10_shelfAt  ‹EqS S M0 _›)
      | (with_reducible refine Fr_bd (fr_X3_hasThing  ‹EqS S M0 _›) fun _ _ _ => ?_)
      | (with_reducible refine fr_X3_hasThing  ‹EqS S M0 _›)
      | (with_reducible refine Fr_bd (fr_X6_isRowOf  ‹EqS S M0 _›) fun _ _ _ => ?_)
      | (with_reducible refine fr_X6_isRowOf  ‹EqS S M0 _›)
      | (with_reducible refine Fr_bd (fr_X10_told_L69 ?_ _ _ _ _ _ _ ‹EqS S M0 _›) fun _ _ _ => ?_)
      | (with_reducible refine fr_X10_told_L69 ?_ _ _ _ _ _ _ ‹EqS S M0 _›)
      | intro _)
theorem fr_X10_over_L49 {S : Nat → Bool} {a1 : Int32} {M0 : mm}  : ∀ (n_ : Nat) (z1 : Int32) (z2 : Int32) (M : mm), EqS S M0 M → Fr S M0 (X10_over_L49 a1 n_ z1 z2 M) := by
  intro n_
  induction n_ with
  | zero =>
    intros
    exact Fr_none
  | succ n_ ih =>
    intro z1 z2 M e
    rw [X10_over_L49]
    repeat' (first
        | with_reducible assumption
        | with_reducible exact Fr_none
        | (with_reducible exact Fr_some ‹EqS S M0 _›)
        | (with_reducible refine Fr_gd fun _ => ?_)
        | (with_reducible refine Fr_ite ?_ ?_)
        | (with_reducible refine Fr_opt ?_ fun _ => ?_)
        | (with_reducible refine Fr_sA ?_ ‹EqS S M0 _› fun _ _ => ?_)
        | (with_reducible refine Fr_sR0 ‹EqS S M0 _› fun _ _ => ?_)
        | (with_reducible refine Fr_sL ?_ ‹EqS S M0 _› fun _ _ => ?_)
        | (with_reducible refine Fr_lt fun _ => ?_)
        | (with_reducible refine Fr_bd (fr_X9_oftenOver  ‹EqS S M0 _›) fun _ _ _ => ?_)
        | (with_reducible refine fr_X9_oftenOver  ‹EqS S M0 _›)
        | (with_reducible refine Fr_bd (ih _ _ _ ‹EqS S M0 _›) fun _ _ _ => ?_)
        | with_reducible exact ih _ _ _ ‹EqS S M0 _›
        | intro _)
theorem fr_X10_over {S : Nat → Bool} {a1 : Int32} {M0 M : mm}  (e : EqS S M0 M) : Fr S M0 (X10_over a1 M) := by
  unfold X10_over
  repeat' (first
      | with_reducible assumption
      | with_reducible exact Fr_none
      | (with_reducible exact Fr_some ‹EqS S M0 _›)
      | (with_reducible refine Fr_gd fun _ => ?_)
      | (with_reducible refine Fr_ite ?_ ?_)
      | (with_reducible refine Fr_opt ?_ fun _ => ?_)
      | (with_reducible refine Fr_sA ?_ ‹EqS S M0 _› fun _ _ => ?_)
      | (with_reducible refine Fr_sR0 ‹EqS S M0 _› fun _ _ => ?_)
      | (with_reducible refine Fr_sL ?_ ‹EqS S M0 _› fun _ _ => ?_)
      | (with_reducible refine Fr_lt fun _ => ?_)
      | (with_reducible refine Fr_bd (fr_X3_hasPerson  ‹EqS S M0 _›) fun _ _ _ => ?_)
      | (with_reducible refine fr_X3_hasPerson  ‹EqS S M0 _›)
      | (with_reducible refine Fr_bd (fr_X10_over_L49  _ _ _ _ ‹EqS S M0 _›) fun _ _ _ => ?_)
      | (with_reducible refine fr_X10_over_L49  _ _ _ _ ‹EqS S M0 _›)
      | intro _)
theorem fr_X10_isThought {S : Nat → Bool} {a1 : Int32} {M0 M : mm}  (e : EqS S M0 M) : Fr S M0 (X10_isThought a1 M) := by
  unfold X10_isThought
  repeat' (first
      | with_reducible assumption
      | with_reducible exact Fr_none
      | (with_reducible exact Fr_some ‹EqS S M0 _›)
      | (with_reducible refine Fr_gd fun _ => ?_)
      | (with_reducible refine Fr_ite ?_ ?_)
      | (with_reducible refine Fr_opt ?_ fun _ => ?_)
      | (with_reducible refine Fr_sA ?_ ‹EqS S M0 _› fun _ _ => ?_)
      | (with_reducible refine Fr_sR0 ‹EqS S M0 _› fun _ _ => ?_)
      | (with_reducible refine Fr_sL ?_ ‹EqS S M0 _› fun _ _ => ?_)
      | (with_reducible refine Fr_lt fun _ => ?_)
      | (with_reducible refine Fr_bd (fr_X3_hasThing  ‹EqS S M0 _›) fun _ _ _ => ?_)
      | (with_reducible refine fr_X3_hasThing  ‹EqS S M0 _›)
      | intro _)
theorem fr_X10_isZeroOrOne_b9 {S : Nat → Bool} {a0 : Int32} {M0 M : mm}  (e : EqS S M0 M) : Fr S M0 (X10_isZeroOrOne_b9 a0 M) := by
  unfold X10_isZeroOrOne_b9
  repeat' (first
      | with_reducible assumption
      | with_reducible exact Fr_none
      | (with_reducible exact Fr_some ‹EqS S M0 _›)
      | (with_reducible refine Fr_gd fun _ => ?_)
      | (with_reducible refine Fr_ite ?_ ?_)
      | (with_reducible refine Fr_opt ?_ fun _ => ?_)
      | (with_reducible refine Fr_sA ?_ ‹EqS S M0 _› fun _ _ => ?_)
      | (with_reducible refine Fr_sR0 ‹EqS S M0 _› fun _ _ => ?_)
      | (with_reducible refine Fr_sL ?_ ‹EqS S M0 _› fun _ _ => ?_)
      | (with_reducible refine Fr_lt fun _ => ?_)
      | intro _)
theorem fr_X10_isZeroOrOne {S : Nat → Bool} {a0 : Int32} {M0 M : mm}  (e : EqS S M0 M) : Fr S M0 (X10_isZeroOrOne a0 M) := by
  unfold X10_isZeroOrOne
  repeat' (first
      | with_reducible assumption
      | with_reducible exact Fr_none
      | (with_reducible exact Fr_some ‹EqS S M0 _›)
      | (with_reducible refine Fr_gd fun _ => ?_)
      | (with_reducible refine Fr_ite ?_ ?_)
      | (with_reducible refine Fr_opt ?_ fun _ => ?_)
      | (with_reducible refine Fr_sA ?_ ‹EqS S M0 _› fun _ _ => ?_)
      | (with_reducible refine Fr_sR0 ‹EqS S M0 _› fun _ _ => ?_)
      | (with_reducible refine Fr_sL ?_ ‹EqS S M0 _› fun _ _ => ?_)
      | (with_reducible refine Fr_lt fun _ => ?_)
      | (with_reducible refine Fr_bd (fr_X10_isZeroOrOne_b9  ‹EqS S M0 _›) fun _ _ _ => ?_)
      | (with_reducible refine fr_X10_isZeroOrOne_b9  ‹EqS S M0 _›)
      | intro _)
theorem fr_X10_fraction_L6 {S : Nat → Bool} {a0 : Int64} {a2 : Int32} {a3 : Int32} {K26 : Int64 → mm → Option (Int64 × mm)} {M0 : mm} (hK26 : ∀ (y0 : Int64) (M_ : mm), EqS S M0 M_ → Fr S M0 (K26 y0 M_)) : ∀ (n_ : Nat) (z1 : Int64) (z2 : Int32) (M : mm), EqS S M0 M → Fr S M0 (X10_fraction_L6 a0 a2 a3 K26 n_ z1 z2 M) := by
  intro n_
  induction n_ with
  | zero =>
    intros
    exact Fr_none
  | succ n_ ih =>
    intro z1 z2 M e
    rw [X10_fraction_L6]
    repeat' (first
        | with_reducible assumption
        | with_reducible exact Fr_none
        | (with_reducible exact Fr_some ‹EqS S M0 _›)
        | (with_reducible refine Fr_gd fun _ => ?_)
        | (with_reducible refine Fr_ite ?_ ?_)
        | (with_reducible refine Fr_opt ?_ fun _ => ?_)
        | (with_reducible refine Fr_sA ?_ ‹EqS S M0 _› fun _ _ => ?_)
        | (with_reducible refine Fr_sR0 ‹EqS S M0 _› fun _ _ => ?_)
        | (with_reducible refine Fr_sL ?_ ‹EqS S M0 _› fun _ _ => ?_)
        | (with_reducible refine Fr_lt fun _ => ?_)
        | (with_reducible refine Fr_bd (hK26 _ _ ‹EqS S M0 _›) fun _ _ _ => ?_)
        | with_reducible exact hK26 _ _ ‹EqS S M0 _›
        | (with_reducible refine Fr_bd (ih _ _ _ ‹EqS S M0 _›) fun _ _ _ => ?_)
        | with_reducible exact ih _ _ _ ‹EqS S M0 _›
        | intro _)
theorem fr_X10_fraction_L39 {S : Nat → Bool} {a0 : Int64} {a2 : Int32} {a3 : Int32} {K74 : Int64 → Int64 → mm → Option (Int64 × mm)} {M0 : mm} (hK74 : ∀ (y0 : Int64) (y1 : Int64) (M_ : mm), EqS S M0 M_ → Fr S M0 (K74 y0 y1 M_)) : ∀ (n_ : Nat) (z1 : Int64) (z2 : Int64) (z3 : Int64) (z4 : Int32) (M : mm), EqS S M0 M → Fr S M0 (X10_fraction_L39 a0 a2 a3 K74 n_ z1 z2 z3 z4 M) := by
  intro n_
  induction n_ with
  | zero =>
    intros
    exact Fr_none
  | succ n_ ih =>
    intro z1 z2 z3 z4 M e
    rw [X10_fraction_L39]
    repeat' (first
        | with_reducible assumption
        | with_reducible exact Fr_none
        | (with_reducible exact Fr_some ‹EqS S M0 _›)
        | (with_reducible refine Fr_gd fun _ => ?_)
        | (with_reducible refine Fr_ite ?_ ?_)
        | (with_reducible refine Fr_opt ?_ fun _ => ?_)
        | (with_reducible refine Fr_sA ?_ ‹EqS S M0 _› fun _ _ => ?_)
        | (with_reducible refine Fr_sR0 ‹EqS S M0 _› fun _ _ => ?_)
        | (with_reducible refine Fr_sL ?_ ‹EqS S M0 _› fun _ _ => ?_)
        | (with_reducible refine Fr_lt fun _ => ?_)
        | (with_reducible refine Fr_bd (hK74 _ _ _ ‹EqS S M0 _›) fun _ _ _ => ?_)
        | with_reducible exact hK74 _ _ _ ‹EqS S M0 _›
        | (with_reducible refine Fr_bd (ih _ _ _ _ _ ‹EqS S M0 _›) fun _ _ _ => ?_)
        | with_reducible exact ih _ _ _ _ _ ‹EqS S M0 _›
        | intro _)
theorem fr_X10_fraction_b74 {S : Nat → Bool} {a0 : Int64} {a2 : Int32} {a3 : Int32} {x4 : Int64} {x6 : Int64} {M0 M : mm}  (e : EqS S M0 M) : Fr S M0 (X10_fraction_b74 a0 a2 a3 x4 x6 M) := by
  unfold X10_fraction_b74
  repeat' (first
      | with_reducible assumption
      | with_reducible exact Fr_none
      | (with_reducible exact Fr_some ‹EqS S M0 _›)
      | (with_reducible refine Fr_gd fun _ => ?_)
      | (with_reducible refine Fr_ite ?_ ?_)
      | (with_reducible refine Fr_opt ?_ fun _ => ?_)
      | (with_reducible refine Fr_sA ?_ ‹EqS S M0 _› fun _ _ => ?_)
      | (with_reducible refine Fr_sR0 ‹EqS S M0 _› fun _ _ => ?_)
      | (with_reducible refine Fr_sL ?_ ‹EqS S M0 _› fun _ _ => ?_)
      | (with_reducible refine Fr_lt fun _ => ?_)
      | intro _)
theorem fr_X10_fraction {S : Nat → Bool} {a0 : Int64} {a2 : Int32} {a3 : Int32} {M0 M : mm}  (e : EqS S M0 M) : Fr S M0 (X10_fraction a0 a2 a3 M) := by
  unfold X10_fraction
  repeat' (first
      | with_reducible assumption
      | with_reducible exact Fr_none
      | (with_reducible exact Fr_some ‹EqS S M0 _›)
      | (with_reducible refine Fr_gd fun _ => ?_)
      | (with_reducible refine Fr_ite ?_ ?_)
      | (with_reducible refine Fr_opt ?_ fun _ => ?_)
      | (with_reducible refine Fr_sA ?_ ‹EqS S M0 _› fun _ _ => ?_)
      | (with_reducible refine Fr_sR0 ‹EqS S M0 _› fun _ _ => ?_)
      | (with_reducible refine Fr_sL ?_ ‹EqS S M0 _› fun _ _ => ?_)
      | (with_reducible refine Fr_lt fun _ => ?_)
      | (with_reducible refine Fr_bd (fr_X10_fraction_L6 ?_ _ _ _ _ ‹EqS S M0 _›) fun _ _ _ => ?_)
      | (with_reducible refine fr_X10_fraction_L6 ?_ _ _ _ _ ‹EqS S M0 _›)
      | (with_reducible refine Fr_bd (fr_X10_fraction_L39 ?_ _ _ _ _ _ _ ‹EqS S M0 _›) fun _ _ _ => ?_)
      | (with_reducible refine fr_X10_fraction_L39 ?_ _ _ _ _ _ _ ‹EqS S M0 _›)
      | (with_reducible refine Fr_bd (fr_X10_fraction_b74  ‹EqS S M0 _›) fun _ _ _ => ?_)
      | (with_reducible refine fr_X10_fraction_b74  ‹EqS S M0 _›)
      | intro _)
theorem fr_X10_worth_b118 {S : Nat → Bool} {a1 : Int32} {a2 : Int32} {a3 : Int32} {x4 : Int32} {s1 : Int32} {s2 : Int32} {M0 M : mm} (hS : ∀ k, k ∈ [19, 20, 21, 22, 23, 24, 25] → S k = true) (e : EqS S M0 M) : Fr S M0 (X10_worth_b118 a1 a2 a3 x4 s1 s2 M) := by
  unfold X10_worth_b118
  repeat' (first
      | with_reducible assumption
      | with_reducible exact Fr_none
      | (with_reducible exact Fr_some ‹EqS S M0 _›)
      | (with_reducible refine Fr_gd fun _ => ?_)
      | (with_reducible refine Fr_ite ?_ ?_)
      | (with_reducible refine Fr_opt ?_ fun _ => ?_)
      | (with_reducible refine Fr_sA ?_ ‹EqS S M0 _› fun _ _ => ?_)
      | (with_reducible refine Fr_sR0 ‹EqS S M0 _› fun _ _ => ?_)
      | (with_reducible refine Fr_sL ?_ ‹EqS S M0 _› fun _ _ => ?_)
      | (with_reducible refine Fr_lt fun _ => ?_)
      | exact hS _ (by decide)
      | exact subL (by decide) hS
      | exact EqS_r1 ‹EqS S M0 _› (hS _ (by decide)) (hS _ (by decide))
      | exact EqS_r2 ‹EqS S M0 _› (hS _ (by decide)) (hS _ (by decide))
      | (with_reducible refine Fr_bd (fr_X4_think ?_ ‹EqS S M0 _›) fun _ _ _ => ?_)
      | (with_reducible refine fr_X4_think ?_ ‹EqS S M0 _›)
      | (with_reducible refine Fr_bd (fr_X4_worthAt  ‹EqS S M0 _›) fun _ _ _ => ?_)
      | (with_reducible refine fr_X4_worthAt  ‹EqS S M0 _›)
      | (with_reducible refine Fr_bd (fr_X10_fraction  ‹EqS S M0 _›) fun _ _ _ => ?_)
      | (with_reducible refine fr_X10_fraction  ‹EqS S M0 _›)
      | intro _)
theorem fr_X10_worth {S : Nat → Bool} {a1 : Int32} {a2 : Int32} {a3 : Int32} {M0 M : mm} (hS : ∀ k, k ∈ [19, 20, 21, 22, 23, 24, 25] → S k = true) (e : EqS S M0 M) : Fr S M0 (X10_worth a1 a2 a3 M) := by
  unfold X10_worth
  repeat' (first
      | with_reducible assumption
      | with_reducible exact Fr_none
      | (with_reducible exact Fr_some ‹EqS S M0 _›)
      | (with_reducible refine Fr_gd fun _ => ?_)
      | (with_reducible refine Fr_ite ?_ ?_)
      | (with_reducible refine Fr_opt ?_ fun _ => ?_)
      | (with_reducible refine Fr_sA ?_ ‹EqS S M0 _› fun _ _ => ?_)
      | (with_reducible refine Fr_sR0 ‹EqS S M0 _› fun _ _ => ?_)
      | (with_reducible refine Fr_sL ?_ ‹EqS S M0 _› fun _ _ => ?_)
      | (with_reducible refine Fr_lt fun _ => ?_)
      | exact hS _ (by decide)
      | exact subL (by decide) hS
      | exact EqS_r1 ‹EqS S M0 _› (hS _ (by decide)) (hS _ (by decide))
      | exact EqS_r2 ‹EqS S M0 _› (hS _ (by decide)) (hS _ (by decide))
      | (with_reducible refine Fr_bd (fr_X10_isThought  ‹EqS S M0 _›) fun _ _ _ => ?_)
      | (with_reducible refine fr_X10_isThought  ‹EqS S M0 _›)
      | (with_reducible refine Fr_bd (fr_X10_isZeroOrOne  ‹EqS S M0 _›) fun _ _ _ => ?_)
      | (with_reducible refine fr_X10_isZeroOrOne  ‹EqS S M0 _›)
      | (with_reducible refine Fr_bd (fr_X4_consider ?_ ‹EqS S M0 _›) fun _ _ _ => ?_)
      | (with_reducible refine fr_X4_consider ?_ ‹EqS S M0 _›)
      | (with_reducible refine Fr_bd (fr_X4_start ?_ ‹EqS S M0 _›) fun _ _ _ => ?_)
      | (with_reducible refine fr_X4_start ?_ ‹EqS S M0 _›)
      | (with_reducible refine Fr_bd (fr_X10_worth_b118 ?_ ‹EqS S M0 _›) fun _ _ _ => ?_)
      | (with_reducible refine fr_X10_worth_b118 ?_ ‹EqS S M0 _›)
      | intro _)
theorem fr_X10_leastSkill_L2 {S : Nat → Bool} {a1 : Int32} {a2 : Int32} {M0 : mm} (hS : ∀ k, k ∈ [19, 20, 21, 22, 23, 24, 25] → S k = true) : ∀ (n_ : Nat) (z1 : Int32) (M : mm), EqS S M0 M → Fr S M0 (X10_leastSkill_L2 a1 a2 n_ z1 M) := by
  intro n_
  induction n_ with
  | zero =>
    intros
    exact Fr_none
  | succ n_ ih =>
    intro z1 M e
    rw [X10_leastSkill_L2]
    repeat' (first
        | with_reducible assumption
        | with_reducible exact Fr_none
        | (with_reducible exact Fr_some ‹EqS S M0 _›)
        | (with_reducible refine Fr_gd fun _ => ?_)
        | (with_reducible refine Fr_ite ?_ ?_)
        | (with_reducible refine Fr_opt ?_ fun _ => ?_)
        | (with_reducible refine Fr_sA ?_ ‹EqS S M0 _› fun _ _ => ?_)
        | (with_reducible refine Fr_sR0 ‹EqS S M0 _› fun _ _ => ?_)
        | (with_reducible refine Fr_sL ?_ ‹EqS S M0 _› fun _ _ => ?_)
        | (with_reducible refine Fr_lt fun _ => ?_)
        | exact hS _ (by decide)
        | exact subL (by decide) hS
        | exact EqS_r1 ‹EqS S M0 _› (hS _ (by decide)) (hS _ (by decide))
        | exact EqS_r2 ‹EqS S M0 _› (hS _ (by decide)) (hS _ (by decide))
        | (with_reducible refine Fr_bd (fr_X4_consider ?_ ‹EqS S M0 _›) fun _ _ _ => ?_)
        | (with_reducible refine fr_X4_consider ?_ ‹EqS S M0 _›)
        | (with_reducible refine Fr_bd (fr_X4_start ?_ ‹EqS S M0 _›) fun _ _ _ => ?_)
        | (with_reducible refine fr_X4_start ?_ ‹EqS S M0 _›)
        | (with_reducible refine Fr_bd (fr_X4_think ?_ ‹EqS S M0 _›) fun _ _ _ => ?_)
        | (with_reducible refine fr_X4_think ?_ ‹EqS S M0 _›)
        | (with_reducible refine Fr_bd (fr_X4_mendsAt  ‹EqS S M0 _›) fun _ _ _ => ?_)
        | (with_reducible refine fr_X4_mendsAt  ‹EqS S M0 _›)
        | (with_reducible refine Fr_bd (ih _ _ ‹EqS S M0 _›) fun _ _ _ => ?_)
        | with_reducible exact ih _ _ ‹EqS S M0 _›
        | intro _)
theorem fr_X10_leastSkill {S : Nat → Bool} {a1 : Int32} {a2 : Int32} {M0 M : mm} (hS : ∀ k, k ∈ [19, 20, 21, 22, 23, 24, 25] → S k = true) (e : EqS S M0 M) : Fr S M0 (X10_leastSkill a1 a2 M) := by
  unfold X10_leastSkill
  repeat' (first
      | with_reducible assumption
      | with_reducible exact Fr_none
      | (with_reducible exact Fr_some ‹EqS S M0 _›)
      | (with_reducible refine Fr_gd fun _ => ?_)
      | (with_reducible refine Fr_ite ?_ ?_)
      | (with_reducible refine Fr_opt ?_ fun _ => ?_)
      | (with_reducible refine Fr_sA ?_ ‹EqS S M0 _› fun _ _ => ?_)
      | (with_reducible refine Fr_sR0 ‹EqS S M0 _› fun _ _ => ?_)
      | (with_reducible refine Fr_sL ?_ ‹EqS S M0 _› fun _ _ => ?_)
      | (with_reducible refine Fr_lt fun _ => ?_)
      | exact hS _ (by decide)
      | exact subL (by decide) hS
      | exact EqS_r1 ‹EqS S M0 _› (hS _ (by decide)) (hS _ (by decide))
      | exact EqS_r2 ‹EqS S M0 _› (hS _ (by decide)) (hS _ (by decide))
      | (with_reducible refine Fr_bd (fr_X10_leastSkill_L2 ?_ _ _ _ ‹EqS S M0 _›) fun _ _ _ => ?_)
      | (with_reducible refine fr_X10_leastSkill_L2 ?_ _ _ _ ‹EqS S M0 _›)
      | intro _)
theorem fr_X10_now_b173 {S : Nat → Bool} {a1 : Int32} {a2 : Int32} {R144 : Int32 → Int32 → mm → Option (Int32 × mm)} {x6 : Int32} {x7 : Int32} {M0 M : mm} (hR144 : ∀ (y0 : Int32) (y1 : Int32) (M_ : mm), EqS S M0 M_ → Fr S M0 (R144 y0 y1 M_)) (e : EqS S M0 M) : Fr S M0 (X10_now_b173 a1 a2 R144 x6 x7 M) := by
  unfold X10_now_b173
  repeat' (first
      | with_reducible assumption
      | with_reducible exact Fr_none
      | (with_reducible exact Fr_some ‹EqS S M0 _›)
      | (with_reducible refine Fr_gd fun _ => ?_)
      | (with_reducible refine Fr_ite ?_ ?_)
      | (with_reducible refine Fr_opt ?_ fun _ => ?_)
      | (with_reducible refine Fr_sA ?_ ‹EqS S M0 _› fun _ _ => ?_)
      | (with_reducible refine Fr_sR0 ‹EqS S M0 _› fun _ _ => ?_)
      | (with_reducible refine Fr_sL ?_ ‹EqS S M0 _› fun _ _ => ?_)
      | (with_reducible refine Fr_lt fun _ => ?_)
      | (with_reducible refine Fr_bd (hR144 _ _ _ ‹EqS S M0 _›) fun _ _ _ => ?_)
      | with_reducible exact hR144 _ _ _ ‹EqS S M0 _›
      | intro _)
theorem fr_X10_now_L144 {S : Nat → Bool} {a1 : Int32} {a2 : Int32} {M0 : mm}  : ∀ (n_ : Nat) (z1 : Int32) (z2 : Int32) (M : mm), EqS S M0 M → Fr S M0 (X10_now_L144 a1 a2 n_ z1 z2 M) := by
  intro n_
  induction n_ with
  | zero =>
    intros
    exact Fr_none
  | succ n_ ih =>
    intro z1 z2 M e
    rw [X10_now_L144]
    repeat' (first
        | with_reducible assumption
        | with_reducible exact Fr_none
        | (with_reducible exact Fr_some ‹EqS S M0 _›)
        | (with_reducible refine Fr_gd fun _ => ?_)
        | (with_reducible refine Fr_ite ?_ ?_)
        | (with_reducible refine Fr_opt ?_ fun _ => ?_)
        | (with_reducible refine Fr_sA ?_ ‹EqS S M0 _› fun _ _ => ?_)
        | (with_reducible refine Fr_sR0 ‹EqS S M0 _› fun _ _ => ?_)
        | (with_reducible refine Fr_sL ?_ ‹EqS S M0 _› fun _ _ => ?_)
        | (with_reducible refine Fr_lt fun _ => ?_)
        | (with_reducible refine Fr_bd (fr_X4_mendsAt  ‹EqS S M0 _›) fun _ _ _ => ?_)
        | (with_reducible refine fr_X4_mendsAt  ‹EqS S M0 _›)
        | (with_reducible refine Fr_bd (fr_X10_now_b173 ?_ ‹EqS S M0 _›) fun _ _ _ => ?_)
        | (with_reducible refine fr_X10_now_b173 ?_ ‹EqS S M0 _›)
        | (with_reducible refine Fr_bd (ih _ _ _ ‹EqS S M0 _›) fun _ _ _ => ?_)
        | with_reducible exact ih _ _ _ ‹EqS S M0 _›
        | intro _)
theorem fr_X10_now {S : Nat → Bool} {a1 : Int32} {a2 : Int32} {M0 M : mm} (hS : ∀ k, k ∈ [19, 20, 21, 22, 23, 24, 25] → S k = true) (e : EqS S M0 M) : Fr S M0 (X10_now a1 a2 M) := by
  unfold X10_now
  repeat' (first
      | with_reducible assumption
      | with_reducible exact Fr_none
      | (with_reducible exact Fr_some ‹EqS S M0 _›)
      | (with_reducible refine Fr_gd fun _ => ?_)
      | (with_reducible refine Fr_ite ?_ ?_)
      | (with_reducible refine Fr_opt ?_ fun _ => ?_)
      | (with_reducible refine Fr_sA ?_ ‹EqS S M0 _› fun _ _ => ?_)
      | (with_reducible refine Fr_sR0 ‹EqS S M0 _› fun _ _ => ?_)
      | (with_reducible refine Fr_sL ?_ ‹EqS S M0 _› fun _ _ => ?_)
      | (with_reducible refine Fr_lt fun _ => ?_)
      | exact hS _ (by decide)
      | exact subL (by decide) hS
      | exact EqS_r1 ‹EqS S M0 _› (hS _ (by decide)) (hS _ (by decide))
      | exact EqS_r2 ‹EqS S M0 _› (hS _ (by decide)) (hS _ (by decide))
      | (with_reducible refine Fr_bd (fr_X10_isThought  ‹EqS S M0 _›) fun _ _ _ => ?_)
      | (with_reducible refine fr_X10_isThought  ‹EqS S M0 _›)
      | (with_reducible refine Fr_bd (fr_X10_leastSkill ?_ ‹EqS S M0 _›) fun _ _ _ => ?_)
      | (with_reducible refine fr_X10_leastSkill ?_ ‹EqS S M0 _›)
      | (with_reducible refine Fr_bd (fr_X4_consider ?_ ‹EqS S M0 _›) fun _ _ _ => ?_)
      | (with_reducible refine fr_X4_consider ?_ ‹EqS S M0 _›)
      | (with_reducible refine Fr_bd (fr_X4_start ?_ ‹EqS S M0 _›) fun _ _ _ => ?_)
      | (with_reducible refine fr_X4_start ?_ ‹EqS S M0 _›)
      | (with_reducible refine Fr_bd (fr_X4_think ?_ ‹EqS S M0 _›) fun _ _ _ => ?_)
      | (with_reducible refine fr_X4_think ?_ ‹EqS S M0 _›)
      | (with_reducible refine Fr_bd (fr_X4_mendsAt  ‹EqS S M0 _›) fun _ _ _ => ?_)
      | (with_reducible refine fr_X4_mendsAt  ‹EqS S M0 _›)
      | (with_reducible refine Fr_bd (fr_X10_now_L144  _ _ _ _ ‹EqS S M0 _›) fun _ _ _ => ?_)
      | (with_reducible refine fr_X10_now_L144  _ _ _ _ ‹EqS S M0 _›)
      | intro _)
theorem fr_X10_smith {S : Nat → Bool} {a1 : Int32} {a2 : Int32} {a3 : Int32} {a4 : Int32} {M0 M : mm} (hS : ∀ k, k ∈ [19, 20, 21, 22, 23, 24, 25] → S k = true) (e : EqS S M0 M) : Fr S M0 (X10_smith a1 a2 a3 a4 M) := by
  unfold X10_smith
  repeat' (first
      | with_reducible assumption
      | with_reducible exact Fr_none
      | (with_reducible exact Fr_some ‹EqS S M0 _›)
      | (with_reducible refine Fr_gd fun _ => ?_)
      | (with_reducible refine Fr_ite ?_ ?_)
      | (with_reducible refine Fr_opt ?_ fun _ => ?_)
      | (with_reducible refine Fr_sA ?_ ‹EqS S M0 _› fun _ _ => ?_)
      | (with_reducible refine Fr_sR0 ‹EqS S M0 _› fun _ _ => ?_)
      | (with_reducible refine Fr_sL ?_ ‹EqS S M0 _› fun _ _ => ?_)
      | (with_reducible refine Fr_lt fun _ => ?_)
      | exact hS _ (by decide)
      | exact subL (by decide) hS
      | exact EqS_r1 ‹EqS S M0 _› (hS _ (by decide)) (hS _ (by decide))
      | exact EqS_r2 ‹EqS S M0 _› (hS _ (by decide)) (hS _ (by decide))
      | (with_reducible refine Fr_bd (fr_X10_isThought  ‹EqS S M0 _›) fun _ _ _ => ?_)
      | (with_reducible refine fr_X10_isThought  ‹EqS S M0 _›)
      | (with_reducible refine Fr_bd (fr_X3_hasPerson  ‹EqS S M0 _›) fun _ _ _ => ?_)
      | (with_reducible refine fr_X3_hasPerson  ‹EqS S M0 _›)
      | (with_reducible refine Fr_bd (fr_X10_isZeroOrOne  ‹EqS S M0 _›) fun _ _ _ => ?_)
      | (with_reducible refine fr_X10_isZeroOrOne  ‹EqS S M0 _›)
      | (with_reducible refine Fr_bd (fr_X4_risk ?_ ‹EqS S M0 _›) fun _ _ _ => ?_)
      | (with_reducible refine fr_X4_risk ?_ ‹EqS S M0 _›)
      | (with_reducible refine Fr_bd (fr_X10_fraction  ‹EqS S M0 _›) fun _ _ _ => ?_)
      | (with_reducible refine fr_X10_fraction  ‹EqS S M0 _›)
      | (with_reducible refine Fr_bd (fr_X4_consider ?_ ‹EqS S M0 _›) fun _ _ _ => ?_)
      | (with_reducible refine fr_X4_consider ?_ ‹EqS S M0 _›)
      | (with_reducible refine Fr_bd (fr_X4_start ?_ ‹EqS S M0 _›) fun _ _ _ => ?_)
      | (with_reducible refine fr_X4_start ?_ ‹EqS S M0 _›)
      | (with_reducible refine Fr_bd (fr_X4_think ?_ ‹EqS S M0 _›) fun _ _ _ => ?_)
      | (with_reducible refine fr_X4_think ?_ ‹EqS S M0 _›)
      | (with_reducible refine Fr_bd (fr_X4_leftAt  ‹EqS S M0 _›) fun _ _ _ => ?_)
      | (with_reducible refine fr_X4_leftAt  ‹EqS S M0 _›)
      | intro _)
theorem fr_X10_gift {S : Nat → Bool} {a1 : Int32} {a2 : Int32} {a3 : Int32} {M0 M : mm} (hS : ∀ k, k ∈ [19, 20, 21, 22, 23, 24, 25] → S k = true) (e : EqS S M0 M) : Fr S M0 (X10_gift a1 a2 a3 M) := by
  unfold X10_gift
  repeat' (first
      | with_reducible assumption
      | with_reducible exact Fr_none
      | (with_reducible exact Fr_some ‹EqS S M0 _›)
      | (with_reducible refine Fr_gd fun _ => ?_)
      | (with_reducible refine Fr_ite ?_ ?_)
      | (with_reducible refine Fr_opt ?_ fun _ => ?_)
      | (with_reducible refine Fr_sA ?_ ‹EqS S M0 _› fun _ _ => ?_)
      | (with_reducible refine Fr_sR0 ‹EqS S M0 _› fun _ _ => ?_)
      | (with_reducible refine Fr_sL ?_ ‹EqS S M0 _› fun _ _ => ?_)
      | (with_reducible refine Fr_lt fun _ => ?_)
      | exact hS _ (by decide)
      | exact subL (by decide) hS
      | exact EqS_r1 ‹EqS S M0 _› (hS _ (by decide)) (hS _ (by decide))
      | exact EqS_r2 ‹EqS S M0 _› (hS _ (by decide)) (hS _ (by decide))
      | (with_reducible refine Fr_bd (fr_X10_isThought  ‹EqS S M0 _›) fun _ _ _ => ?_)
      | (with_reducible refine fr_X10_isThought  ‹EqS S M0 _›)
      | (with_reducible refine Fr_bd (fr_X3_hasPerson  ‹EqS S M0 _›) fun _ _ _ => ?_)
      | (with_reducible refine fr_X3_hasPerson  ‹EqS S M0 _›)
      | (with_reducible refine Fr_bd (fr_X10_isZeroOrOne  ‹EqS S M0 _›) fun _ _ _ => ?_)
      | (with_reducible refine fr_X10_isZeroOrOne  ‹EqS S M0 _›)
      | (with_reducible refine Fr_bd (fr_X4_consider ?_ ‹EqS S M0 _›) fun _ _ _ => ?_)
      | (with_reducible refine fr_X4_consider ?_ ‹EqS S M0 _›)
      | (with_reducible refine Fr_bd (fr_X4_start ?_ ‹EqS S M0 _›) fun _ _ _ => ?_)
      | (with_reducible refine fr_X4_start ?_ ‹EqS S M0 _›)
      | (with_reducible refine Fr_bd (fr_X4_think ?_ ‹EqS S M0 _›) fun _ _ _ => ?_)
      | (with_reducible refine fr_X4_think ?_ ‹EqS S M0 _›)
      | (with_reducible refine Fr_bd (fr_X4_worthAt  ‹EqS S M0 _›) fun _ _ _ => ?_)
      | (with_reducible refine fr_X4_worthAt  ‹EqS S M0 _›)
      | (with_reducible refine Fr_bd (fr_X10_fraction  ‹EqS S M0 _›) fun _ _ _ => ?_)
      | (with_reducible refine fr_X10_fraction  ‹EqS S M0 _›)
      | intro _)
theorem fr_X10_debts_b108 {S : Nat → Bool} {a1 : Int32} {a2 : Int32} {R43 : Int64 → Int32 → mm → Option (Int64 × mm)} {K114 : Int64 → mm → Option (Int64 × mm)} {x3 : Int64} {x5 : Int32} {M0 M : mm} (hR43 : ∀ (y0 : Int64) (y1 : Int32) (M_ : mm), EqS S M0 M_ → Fr S M0 (R43 y0 y1 M_)) (hK114 : ∀ (y0 : Int64) (M_ : mm), EqS S M0 M_ → Fr S M0 (K114 y0 M_)) (e : EqS S M0 M) : Fr S M0 (X10_debts_b108 a1 a2 R43 K114 x3 x5 M) := by
  unfold X10_debts_b108
  repeat' (first
      | with_reducible assumption
      | with_reducible exact Fr_none
      | (with_reducible exact Fr_some ‹EqS S M0 _›)
      | (with_reducible refine Fr_gd fun _ => ?_)
      | (with_reducible refine Fr_ite ?_ ?_)
      | (with_reducible refine Fr_opt ?_ fun _ => ?_)
      | (with_reducible refine Fr_sA ?_ ‹EqS S M0 _› fun _ _ => ?_)
      | (with_reducible refine Fr_sR0 ‹EqS S M0 _› fun _ _ => ?_)
      | (with_reducible refine Fr_sL ?_ ‹EqS S M0 _› fun _ _ => ?_)
      | (with_reducible refine Fr_lt fun _ => ?_)
      | (with_reducible refine Fr_bd (hR43 _ _ _ ‹EqS S M0 _›) fun _ _ _ => ?_)
      | with_reducible exact hR43 _ _ _ ‹EqS S M0 _›
      | (with_reducible refine Fr_bd (hK114 _ _ ‹EqS S M0 _›) fun _ _ _ => ?_)
      | with_reducible exact hK114 _ _ ‹EqS S M0 _›
      | intro _)
theorem fr_X10_debts_L43 {S : Nat → Bool} {a1 : Int32} {a2 : Int32} {K114 : Int64 → mm → Option (Int64 × mm)} {M0 : mm} (hS : ∀ k, k ∈ [19, 20] → S k = true) (hK114 : ∀ (y0 : Int64) (M_ : mm), EqS S M0 M_ → Fr S M0 (K114 y0 M_)) : ∀ (n_ : Nat) (z1 : Int64) (z2 : Int32) (M : mm), EqS S M0 M → Fr S M0 (X10_debts_L43 a1 a2 K114 n_ z1 z2 M) := by
  intro n_
  induction n_ with
  | zero =>
    intros
    exact Fr_none
  | succ n_ ih =>
    intro z1 z2 M e
    rw [X10_debts_L43]
    repeat' (first
        | with_reducible assumption
        | with_reducible exact Fr_none
        | (with_reducible exact Fr_some ‹EqS S M0 _›)
        | (with_reducible refine Fr_gd fun _ => ?_)
        | (with_reducible refine Fr_ite ?_ ?_)
        | (with_reducible refine Fr_opt ?_ fun _ => ?_)
        | (with_reducible refine Fr_sA ?_ ‹EqS S M0 _› fun _ _ => ?_)
        | (with_reducible refine Fr_sR0 ‹EqS S M0 _› fun _ _ => ?_)
        | (with_reducible refine Fr_sL ?_ ‹EqS S M0 _› fun _ _ => ?_)
        | (with_reducible refine Fr_lt fun _ => ?_)
        | exact hS _ (by decide)
        | exact subL (by decide) hS
        | (with_reducible refine Fr_bd (hK114 _ _ ‹EqS S M0 _›) fun _ _ _ => ?_)
        | with_reducible exact hK114 _ _ ‹EqS S M0 _›
        | (with_reducible refine Fr_bd (fr_X4_risk ?_ ‹EqS S M0 _›) fun _ _ _ => ?_)
        | (with_reducible refine fr_X4_risk ?_ ‹EqS S M0 _›)
        | (with_reducible refine Fr_bd (fr_X10_debts_b108 ?_ ?_ ‹EqS S M0 _›) fun _ _ _ => ?_)
        | (with_reducible refine fr_X10_debts_b108 ?_ ?_ ‹EqS S M0 _›)
        | (with_reducible refine Fr_bd (ih _ _ _ ‹EqS S M0 _›) fun _ _ _ => ?_)
        | with_reducible exact ih _ _ _ ‹EqS S M0 _›
        | intro _)
theorem fr_X10_debts {S : Nat → Bool} {a1 : Int32} {a2 : Int32} {M0 M : mm} (hS : ∀ k, k ∈ [19, 20] → S k = true) (e : EqS S M0 M) : Fr S M0 (X10_debts a1 a2 M) := by
  unfold X10_debts
  repeat' (first
      | with_reducible assumption
      | with_reducible exact Fr_none
      | (with_reducible exact Fr_some ‹EqS S M0 _›)
      | (with_reducible refine Fr_gd fun _ => ?_)
      | (with_reducible refine Fr_ite ?_ ?_)
      | (with_reducible refine Fr_opt ?_ fun _ => ?_)
      | (with_reducible refine Fr_sA ?_ ‹EqS S M0 _› fun _ _ => ?_)
      | (with_reducible refine Fr_sR0 ‹EqS S M0 _› fun _ _ => ?_)
      | (with_reducible refine Fr_sL ?_ ‹EqS S M0 _› fun _ _ => ?_)
      | (with_reducible refine Fr_lt fun _ => ?_)
      | exact hS _ (by decide)
      | exact subL (by decide) hS
      | (with_reducible refine Fr_bd (fr_X3_hasPerson  ‹EqS S M0 _›) fun _ _ _ => ?_)
      | (with_reducible refine fr_X3_hasPerson  ‹EqS S M0 _›)
      | (with_reducible refine Fr_bd (fr_X10_isZeroOrOne  ‹EqS S M0 _›) fun _ _ _ => ?_)
      | (with_reducible refine fr_X10_isZeroOrOne  ‹EqS S M0 _›)
      | (with_reducible refine Fr_bd (fr_X10_debts_L43 ?_ ?_ _ _ _ _ ‹EqS S M0 _›) fun _ _ _ => ?_)
      | (with_reducible refine fr_X10_debts_L43 ?_ ?_ _ _ _ _ ‹EqS S M0 _›)
      | (with_reducible refine Fr_bd (fr_X10_fraction  ‹EqS S M0 _›) fun _ _ _ => ?_)
      | (with_reducible refine fr_X10_fraction  ‹EqS S M0 _›)
      | intro _)
theorem fr_X10_startThought {S : Nat → Bool} {a1 : Int32} {M0 M : mm} (hS : ∀ k, k ∈ [27, 39, 40, 41, 42, 43, 44, 45, 46, 47, 48] → S k = true) (e : EqS S M0 M) : Fr S M0 (X10_startThought a1 M) := by
  unfold X10_startThought
  repeat' (first
      | with_reducible assumption
      | with_reducible exact Fr_none
      | (with_reducible exact Fr_some ‹EqS S M0 _›)
      | (with_reducible refine Fr_gd fun _ => ?_)
      | (with_reducible refine Fr_ite ?_ ?_)
      | (with_reducible refine Fr_opt ?_ fun _ => ?_)
      | (with_reducible refine Fr_sA ?_ ‹EqS S M0 _› fun _ _ => ?_)
      | (with_reducible refine Fr_sR0 ‹EqS S M0 _› fun _ _ => ?_)
      | (with_reducible refine Fr_sL ?_ ‹EqS S M0 _› fun _ _ => ?_)
      | (with_reducible refine Fr_lt fun _ => ?_)
      | exact hS _ (by decide)
      | exact subL (by decide) hS
      | (with_reducible refine Fr_bd (fr_X9_become ?_ ?_ ?_ ?_ ?_ ?_ ?_ ?_ ?_ ?_ ‹EqS S M0 _›) fun _ _ _ => ?_)
      | (with_reducible refine fr_X9_become ?_ ?_ ?_ ?_ ?_ ?_ ?_ ?_ ?_ ?_ ‹EqS S M0 _›)
      | (with_reducible refine Fr_bd (fr_X2_sow ?_ ‹EqS S M0 _›) fun _ _ _ => ?_)
      | (with_reducible refine fr_X2_sow ?_ ‹EqS S M0 _›)
      | intro _)
theorem fr_X10_ruled_L83 {S : Nat → Bool} {a1 : Int32} {a2 : Int32} {a3 : Int32} {K111 : Int32 → Int32 → Int32 → Int32 → Int32 → Int32 → mm → Option (Int32 × mm)} {M0 : mm} (hS : ∀ k, k ∈ [19, 20, 21, 22, 23, 24, 25, 26, 27, 39, 40, 41, 42, 43, 44, 45, 46, 47, 48, 49] → S k = true) (hK111 : ∀ (y0 : Int32) (y1 : Int32) (y2 : Int32) (y3 : Int32) (y4 : Int32) (y5 : Int32) (M_ : mm), EqS S M0 M_ → Fr S M0 (K111 y0 y1 y2 y3 y4 y5 M_)) : ∀ (n_ : Nat) (z1 : Int32) (z2 : Int32) (z3 : Int32) (z4 : Int32) (z5 : Int32) (z6 : Int32) (z7 : Int32) (M : mm), EqS S M0 M → Fr S M0 (X10_ruled_L83 a1 a2 a3 K111 n_ z1 z2 z3 z4 z5 z6 z7 M) := by
  intro n_
  induction n_ with
  | zero =>
    intros
    exact Fr_none
  | succ n_ ih =>
    intro z1 z2 z3 z4 z5 z6 z7 M e
    rw [X10_ruled_L83]
    repeat' (first
        | with_reducible assumption
        | with_reducible exact Fr_none
        | (with_reducible exact Fr_some ‹EqS S M0 _›)
        | (with_reducible refine Fr_gd fun _ => ?_)
        | (with_reducible refine Fr_ite ?_ ?_)
        | (with_reducible refine Fr_opt ?_ fun _ => ?_)
        | (with_reducible refine Fr_sA ?_ ‹EqS S M0 _› fun _ _ => ?_)
        | (with_reducible refine Fr_sR0 ‹EqS S M0 _› fun _ _ => ?_)
        | (with_reducible refine Fr_sL ?_ ‹EqS S M0 _› fun _ _ => ?_)
        | (with_reducible refine Fr_lt fun _ => ?_)
        | exact hS _ (by decide)
        | exact subL (by decide) hS
        | exact EqS_r1 ‹EqS S M0 _› (hS _ (by decide)) (hS _ (by decide))
        | exact EqS_r2 ‹EqS S M0 _› (hS _ (by decide)) (hS _ (by decide))
        | (with_reducible refine Fr_bd (hK111 _ _ _ _ _ _ _ ‹EqS S M0 _›) fun _ _ _ => ?_)
        | with_reducible exact hK111 _ _ _ _ _ _ _ ‹EqS S M0 _›
        | (with_reducible refine Fr_bd (fr_X2_year ?_ ?_ ?_ ?_ ?_ ?_ ?_ ?_ ?_ ?_ ?_ ?_ ‹EqS S M0 _›) fun _ _ _ => ?_)
        | (with_reducible refine fr_X2_year ?_ ?_ ?_ ?_ ?_ ?_ ?_ ?_ ?_ ?_ ?_ ?_ ‹EqS S M0 _›)
        | (with_reducible refine Fr_bd (ih _ _ _ _ _ _ _ _ ‹EqS S M0 _›) fun _ _ _ => ?_)
        | with_reducible exact ih _ _ _ _ _ _ _ _ ‹EqS S M0 _›
        | intro _)
theorem fr_X10_ruled_b131 {S : Nat → Bool} {a1 : Int32} {a2 : Int32} {a3 : Int32} {R56 : Int32 → Int32 → Int32 → Int32 → Int32 → mm → Option (Int32 × mm)} {K137 : Int32 → Int32 → Int32 → mm → Option (Int32 × mm)} {x4 : Int32} {x5 : Int32} {x6 : Int32} {x7 : Int32} {x8 : Int32} {M0 M : mm} (hR56 : ∀ (y0 : Int32) (y1 : Int32) (y2 : Int32) (y3 : Int32) (y4 : Int32) (M_ : mm), EqS S M0 M_ → Fr S M0 (R56 y0 y1 y2 y3 y4 M_)) (hK137 : ∀ (y0 : Int32) (y1 : Int32) (y2 : Int32) (M_ : mm), EqS S M0 M_ → Fr S M0 (K137 y0 y1 y2 M_)) (e : EqS S M0 M) : Fr S M0 (X10_ruled_b131 a1 a2 a3 R56 K137 x4 x5 x6 x7 x8 M) := by
  unfold X10_ruled_b131
  repeat' (first
      | with_reducible assumption
      | with_reducible exact Fr_none
      | (with_reducible exact Fr_some ‹EqS S M0 _›)
      | (with_reducible refine Fr_gd fun _ => ?_)
      | (with_reducible refine Fr_ite ?_ ?_)
      | (with_reducible refine Fr_opt ?_ fun _ => ?_)
      | (with_reducible refine Fr_sA ?_ ‹EqS S M0 _› fun _ _ => ?_)
      | (with_reducible refine Fr_sR0 ‹EqS S M0 _› fun _ _ => ?_)
      | (with_reducible refine Fr_sL ?_ ‹EqS S M0 _› fun _ _ => ?_)
      | (with_reducible refine Fr_lt fun _ => ?_)
      | (with_reducible refine Fr_bd (hR56 _ _ _ _ _ _ ‹EqS S M0 _›) fun _ _ _ => ?_)
      | with_reducible exact hR56 _ _ _ _ _ _ ‹EqS S M0 _›
      | (with_reducible refine Fr_bd (hK137 _ _ _ _ ‹EqS S M0 _›) fun _ _ _ => ?_)
      | with_reducible exact hK137 _ _ _ _ ‹EqS S M0 _›
      | intro _)
theorem fr_X10_ruled_b123 {S : Nat → Bool} {a1 : Int32} {a2 : Int32} {a3 : Int32} {R56 : Int32 → Int32 → Int32 → Int32 → Int32 → mm → Option (Int32 × mm)} {K137 : Int32 → Int32 → Int32 → mm → Option (Int32 × mm)} {x4 : Int32} {x7 : Int32} {x8 : Int32} {x9 : Int32} {M0 M : mm} (hR56 : ∀ (y0 : Int32) (y1 : Int32) (y2 : Int32) (y3 : Int32) (y4 : Int32) (M_ : mm), EqS S M0 M_ → Fr S M0 (R56 y0 y1 y2 y3 y4 M_)) (hK137 : ∀ (y0 : Int32) (y1 : Int32) (y2 : Int32) (M_ : mm), EqS S M0 M_ → Fr S M0 (K137 y0 y1 y2 M_)) (e : EqS S M0 M) : Fr S M0 (X10_ruled_b123 a1 a2 a3 R56 K137 x4 x7 x8 x9 M) := by
  unfold X10_ruled_b123
  repeat' (first
      | with_reducible assumption
      | with_reducible exact Fr_none
      | (with_reducible exact Fr_some ‹EqS S M0 _›)
      | (with_reducible refine Fr_gd fun _ => ?_)
      | (with_reducible refine Fr_ite ?_ ?_)
      | (with_reducible refine Fr_opt ?_ fun _ => ?_)
      | (with_reducible refine Fr_sA ?_ ‹EqS S M0 _› fun _ _ => ?_)
      | (with_reducible refine Fr_sR0 ‹EqS S M0 _› fun _ _ => ?_)
      | (with_reducible refine Fr_sL ?_ ‹EqS S M0 _› fun _ _ => ?_)
      | (with_reducible refine Fr_lt fun _ => ?_)
      | (with_reducible refine Fr_bd (hR56 _ _ _ _ _ _ ‹EqS S M0 _›) fun _ _ _ => ?_)
      | with_reducible exact hR56 _ _ _ _ _ _ ‹EqS S M0 _›
      | (with_reducible refine Fr_bd (hK137 _ _ _ _ ‹EqS S M0 _›) fun _ _ _ => ?_)
      | with_reducible exact hK137 _ _ _ _ ‹EqS S M0 _›
      | (with_reducible refine Fr_bd (fr_X10_ruled_b131 ?_ ?_ ‹EqS S M0 _›) fun _ _ _ => ?_)
      | (with_reducible refine fr_X10_ruled_b131 ?_ ?_ ‹EqS S M0 _›)
      | intro _)
theorem fr_X10_ruled_L56 {S : Nat → Bool} {a1 : Int32} {a2 : Int32} {a3 : Int32} {K137 : Int32 → Int32 → Int32 → mm → Option (Int32 × mm)} {M0 : mm} (hS : ∀ k, k ∈ [1, 19, 20, 21, 22, 23, 24, 25, 26, 27, 39, 40, 41, 42, 43, 44, 45, 46, 47, 48, 49] → S k = true) (hK137 : ∀ (y0 : Int32) (y1 : Int32) (y2 : Int32) (M_ : mm), EqS S M0 M_ → Fr S M0 (K137 y0 y1 y2 M_)) : ∀ (n_ : Nat) (z1 : Int32) (z2 : Int32) (z3 : Int32) (z4 : Int32) (z5 : Int32) (M : mm), EqS S M0 M → Fr S M0 (X10_ruled_L56 a1 a2 a3 K137 n_ z1 z2 z3 z4 z5 M) := by
  intro n_
  induction n_ with
  | zero =>
    intros
    exact Fr_none
  | succ n_ ih =>
    intro z1 z2 z3 z4 z5 M e
    rw [X10_ruled_L56]
    repeat' (first
        | with_reducible assumption
        | with_reducible exact Fr_none
        | (with_reducible exact Fr_some ‹EqS S M0 _›)
        | (with_reducible refine Fr_gd fun _ => ?_)
        | (with_reducible refine Fr_ite ?_ ?_)
        | (with_reducible refine Fr_opt ?_ fun _ => ?_)
        | (with_reducible refine Fr_sA ?_ ‹EqS S M0 _› fun _ _ => ?_)
        | (with_reducible refine Fr_sR0 ‹EqS S M0 _› fun _ _ => ?_)
        | (with_reducible refine Fr_sL ?_ ‹EqS S M0 _› fun _ _ => ?_)
        | (with_reducible refine Fr_lt fun _ => ?_)
        | exact hS _ (by decide)
        | exact subL (by decide) hS
        | exact EqS_r1 ‹EqS S M0 _› (hS _ (by decide)) (hS _ (by decide))
        | exact EqS_r2 ‹EqS S M0 _› (hS _ (by decide)) (hS _ (by decide))
        | (with_reducible refine Fr_bd (hK137 _ _ _ _ ‹EqS S M0 _›) fun _ _ _ => ?_)
        | with_reducible exact hK137 _ _ _ _ ‹EqS S M0 _›
        | (with_reducible refine Fr_bd (fr_X10_startThought ?_ ‹EqS S M0 _›) fun _ _ _ => ?_)
        | (with_reducible refine fr_X10_startThought ?_ ‹EqS S M0 _›)
        | (with_reducible refine Fr_bd (fr_X10_ruled_L83 ?_ ?_ _ _ _ _ _ _ _ _ _ ‹EqS S M0 _›) fun _ _ _ => ?_)
        | (with_reducible refine fr_X10_ruled_L83 ?_ ?_ _ _ _ _ _ _ _ _ _ ‹EqS S M0 _›)
        | (with_reducible refine Fr_bd (fr_X10_ruled_b123 ?_ ?_ ‹EqS S M0 _›) fun _ _ _ => ?_)
        | (with_reducible refine fr_X10_ruled_b123 ?_ ?_ ‹EqS S M0 _›)
        | (with_reducible refine Fr_bd (fr_X10_ruled_b131 ?_ ?_ ‹EqS S M0 _›) fun _ _ _ => ?_)
        | (with_reducible refine fr_X10_ruled_b131 ?_ ?_ ‹EqS S M0 _›)
        | (with_reducible refine Fr_bd (ih _ _ _ _ _ _ ‹EqS S M0 _›) fun _ _ _ => ?_)
        | with_reducible exact ih _ _ _ _ _ _ ‹EqS S M0 _›
        | intro _)
theorem fr_X10_ruled_b51 {S : Nat → Bool} {a1 : Int32} {a2 : Int32} {a3 : Int32} {x4 : Int32} {x5 : Int32} {x6 : Int32} {s0 : Int32} {M0 M : mm} (hS : ∀ k, k ∈ [1, 19, 20, 21, 22, 23, 24, 25, 26, 27, 39, 40, 41, 42, 43, 44, 45, 46, 47, 48, 49] → S k = true) (e : EqS S M0 M) : Fr S M0 (X10_ruled_b51 a1 a2 a3 x4 x5 x6 s0 M) := by
  unfold X10_ruled_b51
  repeat' (first
      | with_reducible assumption
      | with_reducible exact Fr_none
      | (with_reducible exact Fr_some ‹EqS S M0 _›)
      | (with_reducible refine Fr_gd fun _ => ?_)
      | (with_reducible refine Fr_ite ?_ ?_)
      | (with_reducible refine Fr_opt ?_ fun _ => ?_)
      | (with_reducible refine Fr_sA ?_ ‹EqS S M0 _› fun _ _ => ?_)
      | (with_reducible refine Fr_sR0 ‹EqS S M0 _› fun _ _ => ?_)
      | (with_reducible refine Fr_sL ?_ ‹EqS S M0 _› fun _ _ => ?_)
      | (with_reducible refine Fr_lt fun _ => ?_)
      | exact hS _ (by decide)
      | exact subL (by decide) hS
      | exact EqS_r1 ‹EqS S M0 _› (hS _ (by decide)) (hS _ (by decide))
      | exact EqS_r2 ‹EqS S M0 _› (hS _ (by decide)) (hS _ (by decide))
      | (with_reducible refine Fr_bd (fr_X10_ruled_L56 ?_ ?_ _ _ _ _ _ _ _ ‹EqS S M0 _›) fun _ _ _ => ?_)
      | (with_reducible refine fr_X10_ruled_L56 ?_ ?_ _ _ _ _ _ _ _ ‹EqS S M0 _›)
      | intro _)
theorem fr_X10_ruled {S : Nat → Bool} {a1 : Int32} {a2 : Int32} {a3 : Int32} {M0 M : mm} (hS : ∀ k, k ∈ [1, 19, 20, 21, 22, 23, 24, 25, 26, 27, 39, 40, 41, 42, 43, 44, 45, 46, 47, 48, 49] → S k = true) (e : EqS S M0 M) : Fr S M0 (X10_ruled a1 a2 a3 M) := by
  unfold X10_ruled
  repeat' (first
      | with_reducible assumption
      | with_reducible exact Fr_none
      | (with_reducible exact Fr_some ‹EqS S M0 _›)
      | (with_reducible refine Fr_gd fun _ => ?_)
      | (with_reducible refine Fr_ite ?_ ?_)
      | (with_reducible refine Fr_opt ?_ fun _ => ?_)
      | (with_reducible refine Fr_sA ?_ ‹EqS S M0 _› fun _ _ => ?_)
      | (with_reducible refine Fr_sR0 ‹EqS S M0 _› fun _ _ => ?_)
      | (with_reducible refine Fr_sL ?_ ‹EqS S M0 _› fun _ _ => ?_)
      | (with_reducible refine Fr_lt fun _ => ?_)
      | exact hS _ (by decide)
      | exact subL (by decide) hS
      | exact EqS_r1 ‹EqS S M0 _› (hS _ (by decide)) (hS _ (by decide))
      | exact EqS_r2 ‹EqS S M0 _› (hS _ (by decide)) (hS _ (by decide))
      | (with_reducible refine Fr_bd (fr_X10_isZeroOrOne  ‹EqS S M0 _›) fun _ _ _ => ?_)
      | (with_reducible refine fr_X10_isZeroOrOne  ‹EqS S M0 _›)
      | (with_reducible refine Fr_bd (fr_X3_anyBest  ‹EqS S M0 _›) fun _ _ _ => ?_)
      | (with_reducible refine fr_X3_anyBest  ‹EqS S M0 _›)
      | (with_reducible refine Fr_bd (fr_X10_ruled_b51 ?_ ‹EqS S M0 _›) fun _ _ _ => ?_)
      | (with_reducible refine fr_X10_ruled_b51 ?_ ‹EqS S M0 _›)
      | intro _)
theorem fr_X10_ruined_L50 {S : Nat → Bool} {a1 : Int32} {a2 : Int32} {a3 : Int32} {K76 : Int32 → Int32 → mm → Option (Int32 × mm)} {K94 : Int32 → mm → Option (Int32 × mm)} {M0 : mm} (hK76 : ∀ (y0 : Int32) (y1 : Int32) (M_ : mm), EqS S M0 M_ → Fr S M0 (K76 y0 y1 M_)) (hK94 : ∀ (y0 : Int32) (M_ : mm), EqS S M0 M_ → Fr S M0 (K94 y0 M_)) : ∀ (n_ : Nat) (z1 : Int32) (z2 : Int32) (M : mm), EqS S M0 M → Fr S M0 (X10_ruined_L50 a1 a2 a3 K76 K94 n_ z1 z2 M) := by
  intro n_
  induction n_ with
  | zero =>
    intros
    exact Fr_none
  | succ n_ ih =>
    intro z1 z2 M e
    rw [X10_ruined_L50]
    repeat' (first
        | with_reducible assumption
        | with_reducible exact Fr_none
        | (with_reducible exact Fr_some ‹EqS S M0 _›)
        | (with_reducible refine Fr_gd fun _ => ?_)
        | (with_reducible refine Fr_ite ?_ ?_)
        | (with_reducible refine Fr_opt ?_ fun _ => ?_)
        | (with_reducible refine Fr_sA ?_ ‹EqS S M0 _› fun _ _ => ?_)
        | (with_reducible refine Fr_sR0 ‹EqS S M0 _› fun _ _ => ?_)
        | (with_reducible refine Fr_sL ?_ ‹EqS S M0 _› fun _ _ => ?_)
        | (with_reducible refine Fr_lt fun _ => ?_)
        | (with_reducible refine Fr_bd (hK76 _ _ _ ‹EqS S M0 _›) fun _ _ _ => ?_)
        | with_reducible exact hK76 _ _ _ ‹EqS S M0 _›
        | (with_reducible refine Fr_bd (hK94 _ _ ‹EqS S M0 _›) fun _ _ _ => ?_)
        | with_reducible exact hK94 _ _ ‹EqS S M0 _›
        | (with_reducible refine Fr_bd (ih _ _ _ ‹EqS S M0 _›) fun _ _ _ => ?_)
        | with_reducible exact ih _ _ _ ‹EqS S M0 _›
        | intro _)
theorem fr_X10_ruined_L28 {S : Nat → Bool} {a1 : Int32} {a2 : Int32} {a3 : Int32} {K76 : Int32 → Int32 → mm → Option (Int32 × mm)} {M0 : mm} (hS : ∀ k, k ∈ [19, 20, 21, 22, 23, 24, 25, 26, 27, 39, 40, 41, 42, 43, 44, 45, 46, 47, 48, 49] → S k = true) (hK76 : ∀ (y0 : Int32) (y1 : Int32) (M_ : mm), EqS S M0 M_ → Fr S M0 (K76 y0 y1 M_)) : ∀ (n_ : Nat) (z1 : Int32) (M : mm), EqS S M0 M → Fr S M0 (X10_ruined_L28 a1 a2 a3 K76 n_ z1 M) := by
  intro n_
  induction n_ with
  | zero =>
    intros
    exact Fr_none
  | succ n_ ih =>
    intro z1 M e
    rw [X10_ruined_L28]
    repeat' (first
        | with_reducible assumption
        | with_reducible exact Fr_none
        | (with_reducible exact Fr_some ‹EqS S M0 _›)
        | (with_reducible refine Fr_gd fun _ => ?_)
        | (with_reducible refine Fr_ite ?_ ?_)
        | (with_reducible refine Fr_opt ?_ fun _ => ?_)
        | (with_reducible refine Fr_sA ?_ ‹EqS S M0 _› fun _ _ => ?_)
        | (with_reducible refine Fr_sR0 ‹EqS S M0 _› fun _ _ => ?_)
        | (with_reducible refine Fr_sL ?_ ‹EqS S M0 _› fun _ _ => ?_)
        | (with_reducible refine Fr_lt fun _ => ?_)
        | exact hS _ (by decide)
        | exact subL (by decide) hS
        | exact EqS_r1 ‹EqS S M0 _› (hS _ (by decide)) (hS _ (by decide))
        | exact EqS_r2 ‹EqS S M0 _› (hS _ (by decide)) (hS _ (by decide))
        | (with_reducible refine Fr_bd (hK76 _ _ _ ‹EqS S M0 _›) fun _ _ _ => ?_)
        | with_reducible exact hK76 _ _ _ ‹EqS S M0 _›
        | (with_reducible refine Fr_bd (fr_X2_year ?_ ?_ ?_ ?_ ?_ ?_ ?_ ?_ ?_ ?_ ?_ ?_ ‹EqS S M0 _›) fun _ _ _ => ?_)
        | (with_reducible refine fr_X2_year ?_ ?_ ?_ ?_ ?_ ?_ ?_ ?_ ?_ ?_ ?_ ?_ ‹EqS S M0 _›)
        | (with_reducible refine Fr_bd (fr_X10_ruined_L50 ?_ ?_ _ _ _ _ ‹EqS S M0 _›) fun _ _ _ => ?_)
        | (with_reducible refine fr_X10_ruined_L50 ?_ ?_ _ _ _ _ ‹EqS S M0 _›)
        | (with_reducible refine Fr_bd (ih _ _ ‹EqS S M0 _›) fun _ _ _ => ?_)
        | with_reducible exact ih _ _ ‹EqS S M0 _›
        | intro _)
theorem fr_X10_ruined {S : Nat → Bool} {a1 : Int32} {a2 : Int32} {a3 : Int32} {M0 M : mm} (hS : ∀ k, k ∈ [19, 20, 21, 22, 23, 24, 25, 26, 27, 39, 40, 41, 42, 43, 44, 45, 46, 47, 48, 49] → S k = true) (e : EqS S M0 M) : Fr S M0 (X10_ruined a1 a2 a3 M) := by
  unfold X10_ruined
  repeat' (first
      | with_reducible assumption
      | with_reducible exact Fr_none
      | (with_reducible exact Fr_some ‹EqS S M0 _›)
      | (with_reducible refine Fr_gd fun _ => ?_)
      | (with_reducible refine Fr_ite ?_ ?_)
      | (with_reducible refine Fr_opt ?_ fun _ => ?_)
      | (with_reducible refine Fr_sA ?_ ‹EqS S M0 _› fun _ _ => ?_)
      | (with_reducible refine Fr_sR0 ‹EqS S M0 _› fun _ _ => ?_)
      | (with_reducible refine Fr_sL ?_ ‹EqS S M0 _› fun _ _ => ?_)
      | (with_reducible refine Fr_lt fun _ => ?_)
      | exact hS _ (by decide)
      | exact subL (by decide) hS
      | exact EqS_r1 ‹EqS S M0 _› (hS _ (by decide)) (hS _ (by decide))
      | exact EqS_r2 ‹EqS S M0 _› (hS _ (by decide)) (hS _ (by decide))
      | (with_reducible refine Fr_bd (fr_X10_isZeroOrOne  ‹EqS S M0 _›) fun _ _ _ => ?_)
      | (with_reducible refine fr_X10_isZeroOrOne  ‹EqS S M0 _›)
      | (with_reducible refine Fr_bd (fr_X10_startThought ?_ ‹EqS S M0 _›) fun _ _ _ => ?_)
      | (with_reducible refine fr_X10_startThought ?_ ‹EqS S M0 _›)
      | (with_reducible refine Fr_bd (fr_X10_ruined_L28 ?_ ?_ _ _ _ ‹EqS S M0 _›) fun _ _ _ => ?_)
      | (with_reducible refine fr_X10_ruined_L28 ?_ ?_ _ _ _ ‹EqS S M0 _›)
      | intro _)
theorem fr_X10_image {S : Nat → Bool}  {M0 M : mm} (hS : ∀ k, k ∈ [0, 50, 51, 52, 53, 54, 55, 56, 57, 58, 59] → S k = true) (e : EqS S M0 M) : Fr S M0 (X10_image  M) := by
  unfold X10_image
  repeat' (first
      | with_reducible assumption
      | with_reducible exact Fr_none
      | (with_reducible exact Fr_some ‹EqS S M0 _›)
      | (with_reducible refine Fr_gd fun _ => ?_)
      | (with_reducible refine Fr_ite ?_ ?_)
      | (with_reducible refine Fr_opt ?_ fun _ => ?_)
      | (with_reducible refine Fr_sA ?_ ‹EqS S M0 _› fun _ _ => ?_)
      | (with_reducible refine Fr_sR0 ‹EqS S M0 _› fun _ _ => ?_)
      | (with_reducible refine Fr_sL ?_ ‹EqS S M0 _› fun _ _ => ?_)
      | (with_reducible refine Fr_lt fun _ => ?_)
      | exact hS _ (by decide)
      | exact subL (by decide) hS
      | (with_reducible refine Fr_bd (fr_X9_become ?_ ?_ ?_ ?_ ?_ ?_ ?_ ?_ ?_ ?_ ‹EqS S M0 _›) fun _ _ _ => ?_)
      | (with_reducible refine fr_X9_become ?_ ?_ ?_ ?_ ?_ ?_ ?_ ?_ ?_ ?_ ‹EqS S M0 _›)
      | intro _)
theorem fr_X10_back {S : Nat → Bool}  {M0 M : mm} (hS : ∀ k, k ∈ [28, 29, 30, 31, 32, 33, 34, 35, 36, 37] → S k = true) (e : EqS S M0 M) : Fr S M0 (X10_back  M) := by
  unfold X10_back
  repeat' (first
      | with_reducible assumption
      | with_reducible exact Fr_none
      | (with_reducible exact Fr_some ‹EqS S M0 _›)
      | (with_reducible refine Fr_gd fun _ => ?_)
      | (with_reducible refine Fr_ite ?_ ?_)
      | (with_reducible refine Fr_opt ?_ fun _ => ?_)
      | (with_reducible refine Fr_sA ?_ ‹EqS S M0 _› fun _ _ => ?_)
      | (with_reducible refine Fr_sR0 ‹EqS S M0 _› fun _ _ => ?_)
      | (with_reducible refine Fr_sL ?_ ‹EqS S M0 _› fun _ _ => ?_)
      | (with_reducible refine Fr_lt fun _ => ?_)
      | exact hS _ (by decide)
      | exact subL (by decide) hS
      | (with_reducible refine Fr_bd (fr_X9_become ?_ ?_ ?_ ?_ ?_ ?_ ?_ ?_ ?_ ?_ ‹EqS S M0 _›) fun _ _ _ => ?_)
      | (with_reducible refine fr_X9_become ?_ ?_ ?_ ?_ ?_ ?_ ?_ ?_ ?_ ?_ ‹EqS S M0 _›)
      | intro _)
theorem fr_X10_undo {S : Nat → Bool}  {M0 M : mm} (hS : ∀ k, k ∈ [1, 2, 3, 4, 6, 7, 8, 61] → S k = true) (e : EqS S M0 M) : Fr S M0 (X10_undo  M) := by
  unfold X10_undo
  repeat' (first
      | with_reducible assumption
      | with_reducible exact Fr_none
      | (with_reducible exact Fr_some ‹EqS S M0 _›)
      | (with_reducible refine Fr_gd fun _ => ?_)
      | (with_reducible refine Fr_ite ?_ ?_)
      | (with_reducible refine Fr_opt ?_ fun _ => ?_)
      | (with_reducible refine Fr_sA ?_ ‹EqS S M0 _› fun _ _ => ?_)
      | (with_reducible refine Fr_sR0 ‹EqS S M0 _› fun _ _ => ?_)
      | (with_reducible refine Fr_sL ?_ ‹EqS S M0 _› fun _ _ => ?_)
      | (with_reducible refine Fr_lt fun _ => ?_)
      | exact hS _ (by decide)
      | exact subL (by decide) hS
      | (with_reducible refine Fr_bd (fr_X1_takeBack ?_ ‹EqS S M0 _›) fun _ _ _ => ?_)
      | (with_reducible refine fr_X1_takeBack ?_ ‹EqS S M0 _›)
      | intro _)
theorem fr_X10_redo {S : Nat → Bool}  {M0 M : mm} (hS : ∀ k, k ∈ [1, 2, 3, 4, 6, 7, 8, 61] → S k = true) (e : EqS S M0 M) : Fr S M0 (X10_redo  M) := by
  unfold X10_redo
  repeat' (first
      | with_reducible assumption
      | with_reducible exact Fr_none
      | (with_reducible exact Fr_some ‹EqS S M0 _›)
      | (with_reducible refine Fr_gd fun _ => ?_)
      | (with_reducible refine Fr_ite ?_ ?_)
      | (with_reducible refine Fr_opt ?_ fun _ => ?_)
      | (with_reducible refine Fr_sA ?_ ‹EqS S M0 _› fun _ _ => ?_)
      | (with_reducible refine Fr_sR0 ‹EqS S M0 _› fun _ _ => ?_)
      | (with_reducible refine Fr_sL ?_ ‹EqS S M0 _› fun _ _ => ?_)
      | (with_reducible refine Fr_lt fun _ => ?_)
      | exact hS _ (by decide)
      | exact subL (by decide) hS
      | (with_reducible refine Fr_bd (fr_X1_doAgain ?_ ‹EqS S M0 _›) fun _ _ _ => ?_)
      | (with_reducible refine fr_X1_doAgain ?_ ‹EqS S M0 _›)
      | (with_reducible refine Fr_bd (fr_X1_undone  ‹EqS S M0 _›) fun _ _ _ => ?_)
      | (with_reducible refine fr_X1_undone  ‹EqS S M0 _›)
      | intro _)
theorem fr_X10_body {S : Nat → Bool} {a1 : Int32} {M0 M : mm} (hS : ∀ k, k ∈ [66, 68] → S k = true) (e : EqS S M0 M) : Fr S M0 (X10_body a1 M) := by
  unfold X10_body
  repeat' (first
      | with_reducible assumption
      | with_reducible exact Fr_none
      | (with_reducible exact Fr_some ‹EqS S M0 _›)
      | (with_reducible refine Fr_gd fun _ => ?_)
      | (with_reducible refine Fr_ite ?_ ?_)
      | (with_reducible refine Fr_opt ?_ fun _ => ?_)
      | (with_reducible refine Fr_sA ?_ ‹EqS S M0 _› fun _ _ => ?_)
      | (with_reducible refine Fr_sR0 ‹EqS S M0 _› fun _ _ => ?_)
      | (with_reducible refine Fr_sL ?_ ‹EqS S M0 _› fun _ _ => ?_)
      | (with_reducible refine Fr_lt fun _ => ?_)
      | exact hS _ (by decide)
      | exact subL (by decide) hS
      | (with_reducible refine Fr_bd (fr_X0_add ?_ ‹EqS S M0 _›) fun _ _ _ => ?_)
      | (with_reducible refine fr_X0_add ?_ ‹EqS S M0 _›)
      | intro _)
theorem fr_X10_act {S : Nat → Bool} {a1 : Int32} {a2 : Int32} {a3 : Int32} {M0 M : mm} (hS : ∀ k, k ∈ [66, 67] → S k = true) (e : EqS S M0 M) : Fr S M0 (X10_act a1 a2 a3 M) := by
  unfold X10_act
  repeat' (first
      | with_reducible assumption
      | with_reducible exact Fr_none
      | (with_reducible exact Fr_some ‹EqS S M0 _›)
      | (with_reducible refine Fr_gd fun _ => ?_)
      | (with_reducible refine Fr_ite ?_ ?_)
      | (with_reducible refine Fr_opt ?_ fun _ => ?_)
      | (with_reducible refine Fr_sA ?_ ‹EqS S M0 _› fun _ _ => ?_)
      | (with_reducible refine Fr_sR0 ‹EqS S M0 _› fun _ _ => ?_)
      | (with_reducible refine Fr_sL ?_ ‹EqS S M0 _› fun _ _ => ?_)
      | (with_reducible refine Fr_lt fun _ => ?_)
      | exact hS _ (by decide)
      | exact subL (by decide) hS
      | (with_reducible refine Fr_bd (fr_X0_perform ?_ ‹EqS S M0 _›) fun _ _ _ => ?_)
      | (with_reducible refine fr_X0_perform ?_ ‹EqS S M0 _›)
      | intro _)
theorem fr_X10_trace {S : Nat → Bool} {a1 : Int32} {M0 M : mm}  (e : EqS S M0 M) : Fr S M0 (X10_trace a1 M) := by
  unfold X10_trace
  repeat' (first
      | with_reducible assumption
      | with_reducible exact Fr_none
      | (with_reducible exact Fr_some ‹EqS S M0 _›)
      | (with_reducible refine Fr_gd fun _ => ?_)
      | (with_reducible refine Fr_ite ?_ ?_)
      | (with_reducible refine Fr_opt ?_ fun _ => ?_)
      | (with_reducible refine Fr_sA ?_ ‹EqS S M0 _› fun _ _ => ?_)
      | (with_reducible refine Fr_sR0 ‹EqS S M0 _› fun _ _ => ?_)
      | (with_reducible refine Fr_sL ?_ ‹EqS S M0 _› fun _ _ => ?_)
      | (with_reducible refine Fr_lt fun _ => ?_)
      | (with_reducible refine Fr_bd (fr_X0_keptOfTrace  ‹EqS S M0 _›) fun _ _ _ => ?_)
      | (with_reducible refine fr_X0_keptOfTrace  ‹EqS S M0 _›)
      | intro _)
theorem fr_X10_keep {S : Nat → Bool} {a1 : Int32} {a2 : Int32} {M0 M : mm} (hC_6_0 : ∀ k, isO 6 k = true → S (k) = true) (e : EqS S M0 M) : Fr S M0 (X10_keep a1 a2 M) := by
  unfold X10_keep
  repeat' (first
      | with_reducible assumption
      | with_reducible exact Fr_none
      | (with_reducible exact Fr_some ‹EqS S M0 _›)
      | (with_reducible refine Fr_gd fun _ => ?_)
      | (with_reducible refine Fr_ite ?_ ?_)
      | (with_reducible refine Fr_opt ?_ fun _ => ?_)
      | (with_reducible refine Fr_sA ?_ ‹EqS S M0 _› fun _ _ => ?_)
      | (with_reducible refine Fr_sR0 ‹EqS S M0 _› fun _ _ => ?_)
      | (with_reducible refine Fr_sL ?_ ‹EqS S M0 _› fun _ _ => ?_)
      | (with_reducible refine Fr_lt fun _ => ?_)
      | exact hC_6_0 _ (by assumption)
      | (with_reducible refine Fr_bd (fr_X10_shelfAt  ‹EqS S M0 _›) fun _ _ _ => ?_)
      | (with_reducible refine fr_X10_shelfAt  ‹EqS S M0 _›)
      | (with_reducible refine Fr_bd (fr_X6_holdNothing ?_ ‹EqS S M0 _›) fun _ _ _ => ?_)
      | (with_reducible refine fr_X6_holdNothing ?_ ‹EqS S M0 _›)
      | (with_reducible refine Fr_bd (fr_X6_holdPerson ?_ ‹EqS S M0 _›) fun _ _ _ => ?_)
      | (with_reducible refine fr_X6_holdPerson ?_ ‹EqS S M0 _›)
      | intro _)
theorem fr_X10_row {S : Nat → Bool} {a1 : Int32} {a2 : Int32} {a3 : Int32} {M0 M : mm} (hC_6_0 : ∀ k, isO 6 k = true → S (k) = true) (hC_6_1 : ∀ k, isO 6 k = true → S (k + 1) = true) (e : EqS S M0 M) : Fr S M0 (X10_row a1 a2 a3 M) := by
  unfold X10_row
  repeat' (first
      | with_reducible assumption
      | with_reducible exact Fr_none
      | (with_reducible exact Fr_some ‹EqS S M0 _›)
      | (with_reducible refine Fr_gd fun _ => ?_)
      | (with_reducible refine Fr_ite ?_ ?_)
      | (with_reducible refine Fr_opt ?_ fun _ => ?_)
      | (with_reducible refine Fr_sA ?_ ‹EqS S M0 _› fun _ _ => ?_)
      | (with_reducible refine Fr_sR0 ‹EqS S M0 _› fun _ _ => ?_)
      | (with_reducible refine Fr_sL ?_ ‹EqS S M0 _› fun _ _ => ?_)
      | (with_reducible refine Fr_lt fun _ => ?_)
      | exact hC_6_0 _ (by assumption)
      | exact hC_6_1 _ (by assumption)
      | (with_reducible refine Fr_bd (fr_X10_shelfAt  ‹EqS S M0 _›) fun _ _ _ => ?_)
      | (with_reducible refine fr_X10_shelfAt  ‹EqS S M0 _›)
      | (with_reducible refine Fr_bd (fr_X6_holdRow ?_ ?_ ‹EqS S M0 _›) fun _ _ _ => ?_)
      | (with_reducible refine fr_X6_holdRow ?_ ?_ ‹EqS S M0 _›)
      | intro _)
theorem fr_X10_put {S : Nat → Bool} {a1 : Int32} {a2 : Int32} {a3 : Int64} {M0 M : mm} (hC_6_1 : ∀ k, isO 6 k = true → S (k + 1) = true) (e : EqS S M0 M) : Fr S M0 (X10_put a1 a2 a3 M) := by
  unfold X10_put
  repeat' (first
      | with_reducible assumption
      | with_reducible exact Fr_none
      | (with_reducible exact Fr_some ‹EqS S M0 _›)
      | (with_reducible refine Fr_gd fun _ => ?_)
      | (with_reducible refine Fr_ite ?_ ?_)
      | (with_reducible refine Fr_opt ?_ fun _ => ?_)
      | (with_reducible refine Fr_sA ?_ ‹EqS S M0 _› fun _ _ => ?_)
      | (with_reducible refine Fr_sR0 ‹EqS S M0 _› fun _ _ => ?_)
      | (with_reducible refine Fr_sL ?_ ‹EqS S M0 _› fun _ _ => ?_)
      | (with_reducible refine Fr_lt fun _ => ?_)
      | exact hC_6_1 _ (by assumption)
      | (with_reducible refine Fr_bd (fr_X10_shelfAt  ‹EqS S M0 _›) fun _ _ _ => ?_)
      | (with_reducible refine fr_X10_shelfAt  ‹EqS S M0 _›)
      | (with_reducible refine Fr_bd (fr_X6_refusal  ‹EqS S M0 _›) fun _ _ _ => ?_)
      | (with_reducible refine fr_X6_refusal  ‹EqS S M0 _›)
      | (with_reducible refine Fr_bd (fr_X6_keptOf  ‹EqS S M0 _›) fun _ _ _ => ?_)
      | (with_reducible refine fr_X6_keptOf  ‹EqS S M0 _›)
      | intro _)
theorem fr_X10_element_b18 {S : Nat → Bool} {a1 : Int32} {a2 : Int32} {M0 M : mm}  (e : EqS S M0 M) : Fr S M0 (X10_element_b18 a1 a2 M) := by
  unfold X10_element_b18
  repeat' (first
      | with_reducible assumption
      | with_reducible exact Fr_none
      | (with_reducible exact Fr_some ‹EqS S M0 _›)
      | (with_reducible refine Fr_gd fun _ => ?_)
      | (with_reducible refine Fr_ite ?_ ?_)
      | (with_reducible refine Fr_opt ?_ fun _ => ?_)
      | (with_reducible refine Fr_sA ?_ ‹EqS S M0 _› fun _ _ => ?_)
      | (with_reducible refine Fr_sR0 ‹EqS S M0 _› fun _ _ => ?_)
      | (with_reducible refine Fr_sL ?_ ‹EqS S M0 _› fun _ _ => ?_)
      | (with_reducible refine Fr_lt fun _ => ?_)
      | intro _)
theorem fr_X10_element {S : Nat → Bool} {a1 : Int32} {a2 : Int32} {M0 M : mm}  (e : EqS S M0 M) : Fr S M0 (X10_element a1 a2 M) := by
  unfold X10_element
  repeat' (first
      | with_reducible assumption
      | with_reducible exact Fr_none
      | (with_reducible exact Fr_some ‹EqS S M0 _›)
      | (with_reducible refine Fr_gd fun _ => ?_)
      | (with_reducible refine Fr_ite ?_ ?_)
      | (with_reducible refine Fr_opt ?_ fun _ => ?_)
      | (with_reducible refine Fr_sA ?_ ‹EqS S M0 _› fun _ _ => ?_)
      | (with_reducible refine Fr_sR0 ‹EqS S M0 _› fun _ _ => ?_)
      | (with_reducible refine Fr_sL ?_ ‹EqS S M0 _› fun _ _ => ?_)
      | (with_reducible refine Fr_lt fun _ => ?_)
      | (with_reducible refine Fr_bd (fr_X10_shelfAt  ‹EqS S M0 _›) fun _ _ _ => ?_)
      | (with_reducible refine fr_X10_shelfAt  ‹EqS S M0 _›)
      | (with_reducible refine Fr_bd (fr_X10_element_b18  ‹EqS S M0 _›) fun _ _ _ => ?_)
      | (with_reducible refine fr_X10_element_b18  ‹EqS S M0 _›)
      | (with_reducible refine Fr_bd (fr_X6_refusal  ‹EqS S M0 _›) fun _ _ _ => ?_)
      | (with_reducible refine fr_X6_refusal  ‹EqS S M0 _›)
      | intro _)
theorem fr_X10_shift {S : Nat → Bool} {a1 : Int32} {a2 : Int32} {a3 : Int32} {a4 : Int32} {a5 : Int32} {M0 M : mm} (hC_6_1 : ∀ k, isO 6 k = true → S (k + 1) = true) (e : EqS S M0 M) : Fr S M0 (X10_shift a1 a2 a3 a4 a5 M) := by
  unfold X10_shift
  repeat' (first
      | with_reducible assumption
      | with_reducible exact Fr_none
      | (with_reducible exact Fr_some ‹EqS S M0 _›)
      | (with_reducible refine Fr_gd fun _ => ?_)
      | (with_reducible refine Fr_ite ?_ ?_)
      | (with_reducible refine Fr_opt ?_ fun _ => ?_)
      | (with_reducible refine Fr_sA ?_ ‹EqS S M0 _› fun _ _ => ?_)
      | (with_reducible refine Fr_sR0 ‹EqS S M0 _› fun _ _ => ?_)
      | (with_reducible refine Fr_sL ?_ ‹EqS S M0 _› fun _ _ => ?_)
      | (with_reducible refine Fr_lt fun _ => ?_)
      | exact hC_6_1 _ (by assumption)
      | (with_reducible refine Fr_bd (fr_X10_shelfAt  ‹EqS S M0 _›) fun _ _ _ => ?_)
      | (with_reducible refine fr_X10_shelfAt  ‹EqS S M0 _›)
      | (with_reducible refine Fr_bd (fr_X6_isRowOf  ‹EqS S M0 _›) fun _ _ _ => ?_)
      | (with_reducible refine fr_X6_isRowOf  ‹EqS S M0 _›)
      | (with_reducible refine Fr_bd (fr_X6_hasPlaces  ‹EqS S M0 _›) fun _ _ _ => ?_)
      | (with_reducible refine fr_X6_hasPlaces  ‹EqS S M0 _›)
      | intro _)
theorem fr_X10_taken {S : Nat → Bool} {a1 : Int32} {a2 : Int32} {M0 M : mm}  (e : EqS S M0 M) : Fr S M0 (X10_taken a1 a2 M) := by
  unfold X10_taken
  repeat' (first
      | with_reducible assumption
      | with_reducible exact Fr_none
      | (with_reducible exact Fr_some ‹EqS S M0 _›)
      | (with_reducible refine Fr_gd fun _ => ?_)
      | (with_reducible refine Fr_ite ?_ ?_)
      | (with_reducible refine Fr_opt ?_ fun _ => ?_)
      | (with_reducible refine Fr_sA ?_ ‹EqS S M0 _› fun _ _ => ?_)
      | (with_reducible refine Fr_sR0 ‹EqS S M0 _› fun _ _ => ?_)
      | (with_reducible refine Fr_sL ?_ ‹EqS S M0 _› fun _ _ => ?_)
      | (with_reducible refine Fr_lt fun _ => ?_)
      | (with_reducible refine Fr_bd (fr_X10_shelfAt  ‹EqS S M0 _›) fun _ _ _ => ?_)
      | (with_reducible refine fr_X10_shelfAt  ‹EqS S M0 _›)
      | (with_reducible refine Fr_bd (fr_X0_isOfKind  ‹EqS S M0 _›) fun _ _ _ => ?_)
      | (with_reducible refine fr_X0_isOfKind  ‹EqS S M0 _›)
      | (with_reducible refine Fr_bd (fr_X0_kindOf  ‹EqS S M0 _›) fun _ _ _ => ?_)
      | (with_reducible refine fr_X0_kindOf  ‹EqS S M0 _›)
      | intro _)
theorem fr_X10_count {S : Nat → Bool} {a1 : Int32} {M0 M : mm}  (e : EqS S M0 M) : Fr S M0 (X10_count a1 M) := by
  unfold X10_count
  repeat' (first
      | with_reducible assumption
      | with_reducible exact Fr_none
      | (with_reducible exact Fr_some ‹EqS S M0 _›)
      | (with_reducible refine Fr_gd fun _ => ?_)
      | (with_reducible refine Fr_ite ?_ ?_)
      | (with_reducible refine Fr_opt ?_ fun _ => ?_)
      | (with_reducible refine Fr_sA ?_ ‹EqS S M0 _› fun _ _ => ?_)
      | (with_reducible refine Fr_sR0 ‹EqS S M0 _› fun _ _ => ?_)
      | (with_reducible refine Fr_sL ?_ ‹EqS S M0 _› fun _ _ => ?_)
      | (with_reducible refine Fr_lt fun _ => ?_)
      | intro _)
theorem fr_X11_within {S : Nat → Bool} {a0 : Int64} {a2 : Int64} {a4 : Int64} {M0 M : mm}  (e : EqS S M0 M) : Fr S M0 (X11_within a0 a2 a4 M) := by
  unfold X11_within
  repeat' (first
      | with_reducible assumption
      | with_reducible exact Fr_none
      | (with_reducible exact Fr_some ‹EqS S M0 _›)
      | (with_reducible refine Fr_gd fun _ => ?_)
      | (with_reducible refine Fr_ite ?_ ?_)
      | (with_reducible refine Fr_opt ?_ fun _ => ?_)
      | (with_reducible refine Fr_sA ?_ ‹EqS S M0 _› fun _ _ => ?_)
      | (with_reducible refine Fr_sR0 ‹EqS S M0 _› fun _ _ => ?_)
      | (with_reducible refine Fr_sL ?_ ‹EqS S M0 _› fun _ _ => ?_)
      | (with_reducible refine Fr_lt fun _ => ?_)
      | intro _)
theorem fr_X11_becomes_L26 {S : Nat → Bool} {a1 : Int32} {a2 : Int32} {K87 : Int32 → mm → Option (Int32 × mm)} {M0 : mm} (hS : ∀ k, k ∈ [84, 85, 86] → S k = true) (hK87 : ∀ (y0 : Int32) (M_ : mm), EqS S M0 M_ → Fr S M0 (K87 y0 M_)) : ∀ (n_ : Nat) (z1 : Int32) (z2 : Int32) (M : mm), EqS S M0 M → Fr S M0 (X11_becomes_L26 a1 a2 K87 n_ z1 z2 M) := by
  intro n_
  induction n_ with
  | zero =>
    intros
    exact Fr_none
  | succ n_ ih =>
    intro z1 z2 M e
    rw [X11_becomes_L26]
    repeat' (first
        | with_reducible assumption
        | with_reducible exact Fr_none
        | (with_reducible exact Fr_some ‹EqS S M0 _›)
        | (with_reducible refine Fr_gd fun _ => ?_)
        | (with_reducible refine Fr_ite ?_ ?_)
        | (with_reducible refine Fr_opt ?_ fun _ => ?_)
        | (with_reducible refine Fr_sA ?_ ‹EqS S M0 _› fun _ _ => ?_)
        | (with_reducible refine Fr_sR0 ‹EqS S M0 _› fun _ _ => ?_)
        | (with_reducible refine Fr_sL ?_ ‹EqS S M0 _› fun _ _ => ?_)
        | (with_reducible refine Fr_lt fun _ => ?_)
        | exact hS _ (by decide)
        | exact subL (by decide) hS
        | (with_reducible refine Fr_bd (hK87 _ _ ‹EqS S M0 _›) fun _ _ _ => ?_)
        | with_reducible exact hK87 _ _ ‹EqS S M0 _›
        | (with_reducible refine Fr_bd (ih _ _ _ ‹EqS S M0 _›) fun _ _ _ => ?_)
        | with_reducible exact ih _ _ _ ‹EqS S M0 _›
        | intro _)
theorem fr_X11_becomes_b97 {S : Nat → Bool} {a1 : Int32} {a2 : Int32} {x3 : Int32} {M0 M : mm} (hS : ∀ k, k ∈ [82, 83, 84, 85, 86] → S k = true) (e : EqS S M0 M) : Fr S M0 (X11_becomes_b97 a1 a2 x3 M) := by
  unfold X11_becomes_b97
  repeat' (first
      | with_reducible assumption
      | with_reducible exact Fr_none
      | (with_reducible exact Fr_some ‹EqS S M0 _›)
      | (with_reducible refine Fr_gd fun _ => ?_)
      | (with_reducible refine Fr_ite ?_ ?_)
      | (with_reducible refine Fr_opt ?_ fun _ => ?_)
      | (with_reducible refine Fr_sA ?_ ‹EqS S M0 _› fun _ _ => ?_)
      | (with_reducible refine Fr_sR0 ‹EqS S M0 _› fun _ _ => ?_)
      | (with_reducible refine Fr_sL ?_ ‹EqS S M0 _› fun _ _ => ?_)
      | (with_reducible refine Fr_lt fun _ => ?_)
      | exact hS _ (by decide)
      | exact subL (by decide) hS
      | intro _)
theorem fr_X11_becomes {S : Nat → Bool} {a1 : Int32} {a2 : Int32} {M0 M : mm} (hS : ∀ k, k ∈ [82, 83, 84, 85, 86] → S k = true) (e : EqS S M0 M) : Fr S M0 (X11_becomes a1 a2 M) := by
  unfold X11_becomes
  repeat' (first
      | with_reducible assumption
      | with_reducible exact Fr_none
      | (with_reducible exact Fr_some ‹EqS S M0 _›)
      | (with_reducible refine Fr_gd fun _ => ?_)
      | (with_reducible refine Fr_ite ?_ ?_)
      | (with_reducible refine Fr_opt ?_ fun _ => ?_)
      | (with_reducible refine Fr_sA ?_ ‹EqS S M0 _› fun _ _ => ?_)
      | (with_reducible refine Fr_sR0 ‹EqS S M0 _› fun _ _ => ?_)
      | (with_reducible refine Fr_sL ?_ ‹EqS S M0 _› fun _ _ => ?_)
      | (with_reducible refine Fr_lt fun _ => ?_)
      | exact hS _ (by decide)
      | exact subL (by decide) hS
      | (with_reducible refine Fr_bd (fr_X11_becomes_L26 ?_ ?_ _ _ _ _ ‹EqS S M0 _›) fun _ _ _ => ?_)
      | (with_reducible refine fr_X11_becomes_L26 ?_ ?_ _ _ _ _ ‹EqS S M0 _›)
      | (with_reducible refine Fr_bd (fr_X11_becomes_b97 ?_ ‹EqS S M0 _›) fun _ _ _ => ?_)
      | (with_reducible refine fr_X11_becomes_b97 ?_ ‹EqS S M0 _›)
      | intro _)
theorem fr_X11_undo {S : Nat → Bool}  {M0 M : mm} (hS : ∀ k, k ∈ [82, 83] → S k = true) (e : EqS S M0 M) : Fr S M0 (X11_undo  M) := by
  unfold X11_undo
  repeat' (first
      | with_reducible assumption
      | with_reducible exact Fr_none
      | (with_reducible exact Fr_some ‹EqS S M0 _›)
      | (with_reducible refine Fr_gd fun _ => ?_)
      | (with_reducible refine Fr_ite ?_ ?_)
      | (with_reducible refine Fr_opt ?_ fun _ => ?_)
      | (with_reducible refine Fr_sA ?_ ‹EqS S M0 _› fun _ _ => ?_)
      | (with_reducible refine Fr_sR0 ‹EqS S M0 _› fun _ _ => ?_)
      | (with_reducible refine Fr_sL ?_ ‹EqS S M0 _› fun _ _ => ?_)
      | (with_reducible refine Fr_lt fun _ => ?_)
      | exact hS _ (by decide)
      | exact subL (by decide) hS
      | intro _)
theorem fr_X11_redo {S : Nat → Bool}  {M0 M : mm} (hS : ∀ k, k ∈ [82, 83] → S k = true) (e : EqS S M0 M) : Fr S M0 (X11_redo  M) := by
  unfold X11_redo
  repeat' (first
      | with_reducible assumption
      | with_reducible exact Fr_none
      | (with_reducible exact Fr_some ‹EqS S M0 _›)
      | (with_reducible refine Fr_gd fun _ => ?_)
      | (with_reducible refine Fr_ite ?_ ?_)
      | (with_reducible refine Fr_opt ?_ fun _ => ?_)
      | (with_reducible refine Fr_sA ?_ ‹EqS S M0 _› fun _ _ => ?_)
      | (with_reducible refine Fr_sR0 ‹EqS S M0 _› fun _ _ => ?_)
      | (with_reducible refine Fr_sL ?_ ‹EqS S M0 _› fun _ _ => ?_)
      | (with_reducible refine Fr_lt fun _ => ?_)
      | exact hS _ (by decide)
      | exact subL (by decide) hS
      | intro _)
theorem fr_X11_isPerson {S : Nat → Bool} {a1 : Int32} {M0 M : mm}  (e : EqS S M0 M) : Fr S M0 (X11_isPerson a1 M) := by
  unfold X11_isPerson
  repeat' (first
      | with_reducible assumption
      | with_reducible exact Fr_none
      | (with_reducible exact Fr_some ‹EqS S M0 _›)
      | (with_reducible refine Fr_gd fun _ => ?_)
      | (with_reducible refine Fr_ite ?_ ?_)
      | (with_reducible refine Fr_opt ?_ fun _ => ?_)
      | (with_reducible refine Fr_sA ?_ ‹EqS S M0 _› fun _ _ => ?_)
      | (with_reducible refine Fr_sR0 ‹EqS S M0 _› fun _ _ => ?_)
      | (with_reducible refine Fr_sL ?_ ‹EqS S M0 _› fun _ _ => ?_)
      | (with_reducible refine Fr_lt fun _ => ?_)
      | (with_reducible refine Fr_bd (fr_X11_within  ‹EqS S M0 _›) fun _ _ _ => ?_)
      | (with_reducible refine fr_X11_within  ‹EqS S M0 _›)
      | intro _)
theorem fr_X11_isThing {S : Nat → Bool} {a1 : Int32} {M0 M : mm}  (e : EqS S M0 M) : Fr S M0 (X11_isThing a1 M) := by
  unfold X11_isThing
  repeat' (first
      | with_reducible assumption
      | with_reducible exact Fr_none
      | (with_reducible exact Fr_some ‹EqS S M0 _›)
      | (with_reducible refine Fr_gd fun _ => ?_)
      | (with_reducible refine Fr_ite ?_ ?_)
      | (with_reducible refine Fr_opt ?_ fun _ => ?_)
      | (with_reducible refine Fr_sA ?_ ‹EqS S M0 _› fun _ _ => ?_)
      | (with_reducible refine Fr_sR0 ‹EqS S M0 _› fun _ _ => ?_)
      | (with_reducible refine Fr_sL ?_ ‹EqS S M0 _› fun _ _ => ?_)
      | (with_reducible refine Fr_lt fun _ => ?_)
      | (with_reducible refine Fr_bd (fr_X11_within  ‹EqS S M0 _›) fun _ _ _ => ?_)
      | (with_reducible refine fr_X11_within  ‹EqS S M0 _›)
      | intro _)
theorem fr_X11_person {S : Nat → Bool} {a1 : Int32} {a2 : Int32} {M0 M : mm} (hS : ∀ k, k ∈ [82, 83] → S k = true) (e : EqS S M0 M) : Fr S M0 (X11_person a1 a2 M) := by
  unfold X11_person
  repeat' (first
      | with_reducible assumption
      | with_reducible exact Fr_none
      | (with_reducible exact Fr_some ‹EqS S M0 _›)
      | (with_reducible refine Fr_gd fun _ => ?_)
      | (with_reducible refine Fr_ite ?_ ?_)
      | (with_reducible refine Fr_opt ?_ fun _ => ?_)
      | (with_reducible refine Fr_sA ?_ ‹EqS S M0 _› fun _ _ => ?_)
      | (with_reducible refine Fr_sR0 ‹EqS S M0 _› fun _ _ => ?_)
      | (with_reducible refine Fr_sL ?_ ‹EqS S M0 _› fun _ _ => ?_)
      | (with_reducible refine Fr_lt fun _ => ?_)
      | exact hS _ (by decide)
      | exact subL (by decide) hS
      | (with_reducible refine Fr_bd (fr_X11_within  ‹EqS S M0 _›) fun _ _ _ => ?_)
      | (with_reducible refine fr_X11_within  ‹EqS S M0 _›)
      | intro _)
theorem fr_X11_isOne {S : Nat → Bool} {a1 : Int64} {a3 : Int64} {a5 : Int64} {M0 M : mm}  (e : EqS S M0 M) : Fr S M0 (X11_isOne a1 a3 a5 M) := by
  unfold X11_isOne
  repeat' (first
      | with_reducible assumption
      | with_reducible exact Fr_none
      | (with_reducible exact Fr_some ‹EqS S M0 _›)
      | (with_reducible refine Fr_gd fun _ => ?_)
      | (with_reducible refine Fr_ite ?_ ?_)
      | (with_reducible refine Fr_opt ?_ fun _ => ?_)
      | (with_reducible refine Fr_sA ?_ ‹EqS S M0 _› fun _ _ => ?_)
      | (with_reducible refine Fr_sR0 ‹EqS S M0 _› fun _ _ => ?_)
      | (with_reducible refine Fr_sL ?_ ‹EqS S M0 _› fun _ _ => ?_)
      | (with_reducible refine Fr_lt fun _ => ?_)
      | (with_reducible refine Fr_bd (fr_X11_within  ‹EqS S M0 _›) fun _ _ _ => ?_)
      | (with_reducible refine fr_X11_within  ‹EqS S M0 _›)
      | intro _)
theorem fr_X11_adds {S : Nat → Bool} {a1 : Int32} {a2 : Int32} {a3 : Int32} {M0 M : mm} (hS : ∀ k, k ∈ [82, 83, 90, 91, 92, 93, 94, 96, 97] → S k = true) (e : EqS S M0 M) : Fr S M0 (X11_adds a1 a2 a3 M) := by
  unfold X11_adds
  repeat' (first
      | with_reducible assumption
      | with_reducible exact Fr_none
      | (with_reducible exact Fr_some ‹EqS S M0 _›)
      | (with_reducible refine Fr_gd fun _ => ?_)
      | (with_reducible refine Fr_ite ?_ ?_)
      | (with_reducible refine Fr_opt ?_ fun _ => ?_)
      | (with_reducible refine Fr_sA ?_ ‹EqS S M0 _› fun _ _ => ?_)
      | (with_reducible refine Fr_sR0 ‹EqS S M0 _› fun _ _ => ?_)
      | (with_reducible refine Fr_sL ?_ ‹EqS S M0 _› fun _ _ => ?_)
      | (with_reducible refine Fr_lt fun _ => ?_)
      | exact hS _ (by decide)
      | exact subL (by decide) hS
      | intro _)
theorem fr_X11_thing {S : Nat → Bool} {a1 : Int32} {a2 : Int32} {M0 M : mm} (hS : ∀ k, k ∈ [82, 83, 90, 91, 92, 93, 94, 96, 97] → S k = true) (e : EqS S M0 M) : Fr S M0 (X11_thing a1 a2 M) := by
  unfold X11_thing
  repeat' (first
      | with_reducible assumption
      | with_reducible exact Fr_none
      | (with_reducible exact Fr_some ‹EqS S M0 _›)
      | (with_reducible refine Fr_gd fun _ => ?_)
      | (with_reducible refine Fr_ite ?_ ?_)
      | (with_reducible refine Fr_opt ?_ fun _ => ?_)
      | (with_reducible refine Fr_sA ?_ ‹EqS S M0 _› fun _ _ => ?_)
      | (with_reducible refine Fr_sR0 ‹EqS S M0 _› fun _ _ => ?_)
      | (with_reducible refine Fr_sL ?_ ‹EqS S M0 _› fun _ _ => ?_)
      | (with_reducible refine Fr_lt fun _ => ?_)
      | exact hS _ (by decide)
      | exact subL (by decide) hS
      | (with_reducible refine Fr_bd (fr_X11_isOne  ‹EqS S M0 _›) fun _ _ _ => ?_)
      | (with_reducible refine fr_X11_isOne  ‹EqS S M0 _›)
      | (with_reducible refine Fr_bd (fr_X11_adds ?_ ‹EqS S M0 _›) fun _ _ _ => ?_)
      | (with_reducible refine fr_X11_adds ?_ ‹EqS S M0 _›)
      | intro _)
theorem fr_X11_isShelf {S : Nat → Bool} {a0 : Int32} {M0 M : mm}  (e : EqS S M0 M) : Fr S M0 (X11_isShelf a0 M) := by
  unfold X11_isShelf
  repeat' (first
      | with_reducible assumption
      | with_reducible exact Fr_none
      | (with_reducible exact Fr_some ‹EqS S M0 _›)
      | (with_reducible refine Fr_gd fun _ => ?_)
      | (with_reducible refine Fr_ite ?_ ?_)
      | (with_reducible refine Fr_opt ?_ fun _ => ?_)
      | (with_reducible refine Fr_sA ?_ ‹EqS S M0 _› fun _ _ => ?_)
      | (with_reducible refine Fr_sR0 ‹EqS S M0 _› fun _ _ => ?_)
      | (with_reducible refine Fr_sL ?_ ‹EqS S M0 _› fun _ _ => ?_)
      | (with_reducible refine Fr_lt fun _ => ?_)
      | (with_reducible refine Fr_bd (fr_X11_within  ‹EqS S M0 _›) fun _ _ _ => ?_)
      | (with_reducible refine fr_X11_within  ‹EqS S M0 _›)
      | intro _)
theorem fr_X11_things_b210 {S : Nat → Bool} {a1 : Int32} {a2 : Int32} {a3 : Int32} {R69 : Int32 → Int32 → mm → Option (Int32 × mm)} {x4 : Int32} {x5 : Int32} {M0 M : mm} (hR69 : ∀ (y0 : Int32) (y1 : Int32) (M_ : mm), EqS S M0 M_ → Fr S M0 (R69 y0 y1 M_)) (e : EqS S M0 M) : Fr S M0 (X11_things_b210 a1 a2 a3 R69 x4 x5 M) := by
  unfold X11_things_b210
  repeat' (first
      | with_reducible assumption
      | with_reducible exact Fr_none
      | (with_reducible exact Fr_some ‹EqS S M0 _›)
      | (with_reducible refine Fr_gd fun _ => ?_)
      | (with_reducible refine Fr_ite ?_ ?_)
      | (with_reducible refine Fr_opt ?_ fun _ => ?_)
      | (with_reducible refine Fr_sA ?_ ‹EqS S M0 _› fun _ _ => ?_)
      | (with_reducible refine Fr_sR0 ‹EqS S M0 _› fun _ _ => ?_)
      | (with_reducible refine Fr_sL ?_ ‹EqS S M0 _› fun _ _ => ?_)
      | (with_reducible refine Fr_lt fun _ => ?_)
      | (with_reducible refine Fr_bd (hR69 _ _ _ ‹EqS S M0 _›) fun _ _ _ => ?_)
      | with_reducible exact hR69 _ _ _ ‹EqS S M0 _›
      | intro _)
theorem fr_X11_things_b168 {S : Nat → Bool} {a1 : Int32} {a2 : Int32} {a3 : Int32} {R69 : Int32 → Int32 → mm → Option (Int32 × mm)} {x4 : Int32} {x6 : Int32} {s0 : Int32} {M0 M : mm} (hS : ∀ k, k ∈ [82, 83, 90, 91, 92, 93, 94, 96, 97] → S k = true) (hR69 : ∀ (y0 : Int32) (y1 : Int32) (M_ : mm), EqS S M0 M_ → Fr S M0 (R69 y0 y1 M_)) (e : EqS S M0 M) : Fr S M0 (X11_things_b168 a1 a2 a3 R69 x4 x6 s0 M) := by
  unfold X11_things_b168
  repeat' (first
      | with_reducible assumption
      | with_reducible exact Fr_none
      | (with_reducible exact Fr_some ‹EqS S M0 _›)
      | (with_reducible refine Fr_gd fun _ => ?_)
      | (with_reducible refine Fr_ite ?_ ?_)
      | (with_reducible refine Fr_opt ?_ fun _ => ?_)
      | (with_reducible refine Fr_sA ?_ ‹EqS S M0 _› fun _ _ => ?_)
      | (with_reducible refine Fr_sR0 ‹EqS S M0 _› fun _ _ => ?_)
      | (with_reducible refine Fr_sL ?_ ‹EqS S M0 _› fun _ _ => ?_)
      | (with_reducible refine Fr_lt fun _ => ?_)
      | exact hS _ (by decide)
      | exact subL (by decide) hS
      | (with_reducible refine Fr_bd (hR69 _ _ _ ‹EqS S M0 _›) fun _ _ _ => ?_)
      | with_reducible exact hR69 _ _ _ ‹EqS S M0 _›
      | (with_reducible refine Fr_bd (fr_X11_things_b210 ?_ ‹EqS S M0 _›) fun _ _ _ => ?_)
      | (with_reducible refine fr_X11_things_b210 ?_ ‹EqS S M0 _›)
      | (with_reducible refine Fr_bd (fr_X11_adds ?_ ‹EqS S M0 _›) fun _ _ _ => ?_)
      | (with_reducible refine fr_X11_adds ?_ ‹EqS S M0 _›)
      | intro _)
theorem fr_X11_things_b167 {S : Nat → Bool} {a1 : Int32} {a2 : Int32} {a3 : Int32} {R69 : Int32 → Int32 → mm → Option (Int32 × mm)} {x4 : Int32} {x6 : Int32} {M0 M : mm} (hS : ∀ k, k ∈ [82, 83, 90, 91, 92, 93, 94, 96, 97] → S k = true) (hR69 : ∀ (y0 : Int32) (y1 : Int32) (M_ : mm), EqS S M0 M_ → Fr S M0 (R69 y0 y1 M_)) (e : EqS S M0 M) : Fr S M0 (X11_things_b167 a1 a2 a3 R69 x4 x6 M) := by
  unfold X11_things_b167
  repeat' (first
      | with_reducible assumption
      | with_reducible exact Fr_none
      | (with_reducible exact Fr_some ‹EqS S M0 _›)
      | (with_reducible refine Fr_gd fun _ => ?_)
      | (with_reducible refine Fr_ite ?_ ?_)
      | (with_reducible refine Fr_opt ?_ fun _ => ?_)
      | (with_reducible refine Fr_sA ?_ ‹EqS S M0 _› fun _ _ => ?_)
      | (with_reducible refine Fr_sR0 ‹EqS S M0 _› fun _ _ => ?_)
      | (with_reducible refine Fr_sL ?_ ‹EqS S M0 _› fun _ _ => ?_)
      | (with_reducible refine Fr_lt fun _ => ?_)
      | exact hS _ (by decide)
      | exact subL (by decide) hS
      | (with_reducible refine Fr_bd (hR69 _ _ _ ‹EqS S M0 _›) fun _ _ _ => ?_)
      | with_reducible exact hR69 _ _ _ ‹EqS S M0 _›
      | (with_reducible refine Fr_bd (fr_X11_things_b168 ?_ ?_ ‹EqS S M0 _›) fun _ _ _ => ?_)
      | (with_reducible refine fr_X11_things_b168 ?_ ?_ ‹EqS S M0 _›)
      | intro _)
theorem fr_X11_things_b111 {S : Nat → Bool} {a1 : Int32} {a2 : Int32} {a3 : Int32} {R69 : Int32 → Int32 → mm → Option (Int32 × mm)} {x4 : Int32} {s0 : Int32} {M0 M : mm} (hS : ∀ k, k ∈ [82, 83, 90, 91, 92, 93, 94, 96, 97] → S k = true) (hR69 : ∀ (y0 : Int32) (y1 : Int32) (M_ : mm), EqS S M0 M_ → Fr S M0 (R69 y0 y1 M_)) (e : EqS S M0 M) : Fr S M0 (X11_things_b111 a1 a2 a3 R69 x4 s0 M) := by
  unfold X11_things_b111
  repeat' (first
      | with_reducible assumption
      | with_reducible exact Fr_none
      | (with_reducible exact Fr_some ‹EqS S M0 _›)
      | (with_reducible refine Fr_gd fun _ => ?_)
      | (with_reducible refine Fr_ite ?_ ?_)
      | (with_reducible refine Fr_opt ?_ fun _ => ?_)
      | (with_reducible refine Fr_sA ?_ ‹EqS S M0 _› fun _ _ => ?_)
      | (with_reducible refine Fr_sR0 ‹EqS S M0 _› fun _ _ => ?_)
      | (with_reducible refine Fr_sL ?_ ‹EqS S M0 _› fun _ _ => ?_)
      | (with_reducible refine Fr_lt fun _ => ?_)
      | exact hS _ (by decide)
      | exact subL (by decide) hS
      | (with_reducible refine Fr_bd (hR69 _ _ _ ‹EqS S M0 _›) fun _ _ _ => ?_)
      | with_reducible exact hR69 _ _ _ ‹EqS S M0 _›
      | (with_reducible refine Fr_bd (fr_X11_things_b167 ?_ ?_ ‹EqS S M0 _›) fun _ _ _ => ?_)
      | (with_reducible refine fr_X11_things_b167 ?_ ?_ ‹EqS S M0 _›)
      | (with_reducible refine Fr_bd (fr_X11_isOne  ‹EqS S M0 _›) fun _ _ _ => ?_)
      | (with_reducible refine fr_X11_isOne  ‹EqS S M0 _›)
      | (with_reducible refine Fr_bd (fr_X11_things_b168 ?_ ?_ ‹EqS S M0 _›) fun _ _ _ => ?_)
      | (with_reducible refine fr_X11_things_b168 ?_ ?_ ‹EqS S M0 _›)
      | intro _)
theorem fr_X11_things_b110 {S : Nat → Bool} {a1 : Int32} {a2 : Int32} {a3 : Int32} {R69 : Int32 → Int32 → mm → Option (Int32 × mm)} {x4 : Int32} {M0 M : mm} (hS : ∀ k, k ∈ [82, 83, 90, 91, 92, 93, 94, 96, 97] → S k = true) (hR69 : ∀ (y0 : Int32) (y1 : Int32) (M_ : mm), EqS S M0 M_ → Fr S M0 (R69 y0 y1 M_)) (e : EqS S M0 M) : Fr S M0 (X11_things_b110 a1 a2 a3 R69 x4 M) := by
  unfold X11_things_b110
  repeat' (first
      | with_reducible assumption
      | with_reducible exact Fr_none
      | (with_reducible exact Fr_some ‹EqS S M0 _›)
      | (with_reducible refine Fr_gd fun _ => ?_)
      | (with_reducible refine Fr_ite ?_ ?_)
      | (with_reducible refine Fr_opt ?_ fun _ => ?_)
      | (with_reducible refine Fr_sA ?_ ‹EqS S M0 _› fun _ _ => ?_)
      | (with_reducible refine Fr_sR0 ‹EqS S M0 _› fun _ _ => ?_)
      | (with_reducible refine Fr_sL ?_ ‹EqS S M0 _› fun _ _ => ?_)
      | (with_reducible refine Fr_lt fun _ => ?_)
      | exact hS _ (by decide)
      | exact subL (by decide) hS
      | (with_reducible refine Fr_bd (hR69 _ _ _ ‹EqS S M0 _›) fun _ _ _ => ?_)
      | with_reducible exact hR69 _ _ _ ‹EqS S M0 _›
      | (with_reducible refine Fr_bd (fr_X11_things_b111 ?_ ?_ ‹EqS S M0 _›) fun _ _ _ => ?_)
      | (with_reducible refine fr_X11_things_b111 ?_ ?_ ‹EqS S M0 _›)
      | intro _)
theorem fr_X11_things_L69 {S : Nat → Bool} {a1 : Int32} {a2 : Int32} {a3 : Int32} {M0 : mm} (hS : ∀ k, k ∈ [82, 83, 90, 91, 92, 93, 94, 96, 97] → S k = true) : ∀ (n_ : Nat) (z1 : Int32) (z2 : Int32) (M : mm), EqS S M0 M → Fr S M0 (X11_things_L69 a1 a2 a3 n_ z1 z2 M) := by
  intro n_
  induction n_ with
  | zero =>
    intros
    exact Fr_none
  | succ n_ ih =>
    intro z1 z2 M e
    rw [X11_things_L69]
    repeat' (first
        | with_reducible assumption
        | with_reducible exact Fr_none
        | (with_reducible exact Fr_some ‹EqS S M0 _›)
        | (with_reducible refine Fr_gd fun _ => ?_)
        | (with_reducible refine Fr_ite ?_ ?_)
        | (with_reducible refine Fr_opt ?_ fun _ => ?_)
        | (with_reducible refine Fr_sA ?_ ‹EqS S M0 _› fun _ _ => ?_)
        | (with_reducible refine Fr_sR0 ‹EqS S M0 _› fun _ _ => ?_)
        | (with_reducible refine Fr_sL ?_ ‹EqS S M0 _› fun _ _ => ?_)
        | (with_reducible refine Fr_lt fun _ => ?_)
        | exact hS _ (by decide)
        | exact subL (by decide) hS
        | (with_reducible refine Fr_bd (fr_X11_things_b110 ?_ ?_ ‹EqS S M0 _›) fun _ _ _ => ?_)
        | (with_reducible refine fr_X11_things_b110 ?_ ?_ ‹EqS S M0 _›)
        | (with_reducible refine Fr_bd (fr_X11_things_b111 ?_ ?_ ‹EqS S M0 _›) fun _ _ _ => ?_)
        | (with_reducible refine fr_X11_things_b111 ?_ ?_ ‹EqS S M0 _›)
        | (with_reducible refine Fr_bd (ih _ _ _ ‹EqS S M0 _›) fun _ _ _ => ?_)
        | with_reducible exact ih _ _ _ ‹EqS S M0 _›
        | intro _)
theorem fr_X11_things_b67 {S : Nat → Bool} {a1 : Int32} {a2 : Int32} {a3 : Int32} {x4 : Int32} {s0 : Int32} {M0 M : mm} (hS : ∀ k, k ∈ [82, 83, 90, 91, 92, 93, 94, 96, 97] → S k = true) (e : EqS S M0 M) : Fr S M0 (X11_things_b67 a1 a2 a3 x4 s0 M) := by
  unfold X11_things_b67
  repeat' (first
      | with_reducible assumption
      | with_reducible exact Fr_none
      | (with_reducible exact Fr_some ‹EqS S M0 _›)
      | (with_reducible refine Fr_gd fun _ => ?_)
      | (with_reducible refine Fr_ite ?_ ?_)
      | (with_reducible refine Fr_opt ?_ fun _ => ?_)
      | (with_reducible refine Fr_sA ?_ ‹EqS S M0 _› fun _ _ => ?_)
      | (with_reducible refine Fr_sR0 ‹EqS S M0 _› fun _ _ => ?_)
      | (with_reducible refine Fr_sL ?_ ‹EqS S M0 _› fun _ _ => ?_)
      | (with_reducible refine Fr_lt fun _ => ?_)
      | exact hS _ (by decide)
      | exact subL (by decide) hS
      | (with_reducible refine Fr_bd (fr_X11_things_L69 ?_ _ _ _ _ ‹EqS S M0 _›) fun _ _ _ => ?_)
      | (with_reducible refine fr_X11_things_L69 ?_ _ _ _ _ ‹EqS S M0 _›)
      | intro _)
theorem fr_X11_things_b66 {S : Nat → Bool} {a1 : Int32} {a2 : Int32} {a3 : Int32} {x4 : Int32} {M0 M : mm} (hS : ∀ k, k ∈ [82, 83, 90, 91, 92, 93, 94, 96, 97] → S k = true) (e : EqS S M0 M) : Fr S M0 (X11_things_b66 a1 a2 a3 x4 M) := by
  unfold X11_things_b66
  repeat' (first
      | with_reducible assumption
      | with_reducible exact Fr_none
      | (with_reducible exact Fr_some ‹EqS S M0 _›)
      | (with_reducible refine Fr_gd fun _ => ?_)
      | (with_reducible refine Fr_ite ?_ ?_)
      | (with_reducible refine Fr_opt ?_ fun _ => ?_)
      | (with_reducible refine Fr_sA ?_ ‹EqS S M0 _› fun _ _ => ?_)
      | (with_reducible refine Fr_sR0 ‹EqS S M0 _› fun _ _ => ?_)
      | (with_reducible refine Fr_sL ?_ ‹EqS S M0 _› fun _ _ => ?_)
      | (with_reducible refine Fr_lt fun _ => ?_)
      | exact hS _ (by decide)
      | exact subL (by decide) hS
      | (with_reducible refine Fr_bd (fr_X11_things_b67 ?_ ‹EqS S M0 _›) fun _ _ _ => ?_)
      | (with_reducible refine fr_X11_things_b67 ?_ ‹EqS S M0 _›)
      | intro _)
theorem fr_X11_things_b44 {S : Nat → Bool} {a1 : Int32} {a2 : Int32} {a3 : Int32} {M0 M : mm} (hS : ∀ k, k ∈ [82, 83, 90, 91, 92, 93, 94, 96, 97] → S k = true) (e : EqS S M0 M) : Fr S M0 (X11_things_b44 a1 a2 a3 M) := by
  unfold X11_things_b44
  repeat' (first
      | with_reducible assumption
      | with_reducible exact Fr_none
      | (with_reducible exact Fr_some ‹EqS S M0 _›)
      | (with_reducible refine Fr_gd fun _ => ?_)
      | (with_reducible refine Fr_ite ?_ ?_)
      | (with_reducible refine Fr_opt ?_ fun _ => ?_)
      | (with_reducible refine Fr_sA ?_ ‹EqS S M0 _› fun _ _ => ?_)
      | (with_reducible refine Fr_sR0 ‹EqS S M0 _› fun _ _ => ?_)
      | (with_reducible refine Fr_sL ?_ ‹EqS S M0 _› fun _ _ => ?_)
      | (with_reducible refine Fr_lt fun _ => ?_)
      | exact hS _ (by decide)
      | exact subL (by decide) hS
      | (with_reducible refine Fr_bd (fr_X11_things_b66 ?_ ‹EqS S M0 _›) fun _ _ _ => ?_)
      | (with_reducible refine fr_X11_things_b66 ?_ ‹EqS S M0 _›)
      | (with_reducible refine Fr_bd (fr_X11_things_b67 ?_ ‹EqS S M0 _›) fun _ _ _ => ?_)
      | (with_reducible refine fr_X11_things_b67 ?_ ‹EqS S M0 _›)
      | intro _)
theorem fr_X11_things {S : Nat → Bool} {a1 : Int32} {a2 : Int32} {a3 : Int32} {M0 M : mm} (hS : ∀ k, k ∈ [82, 83, 90, 91, 92, 93, 94, 96, 97] → S k = true) (e : EqS S M0 M) : Fr S M0 (X11_things a1 a2 a3 M) := by
  unfold X11_things
  repeat' (first
      | with_reducible assumption
      | with_reducible exact Fr_none
      | (with_reducible exact Fr_some ‹EqS S M0 _›)
      | (with_reducible refine Fr_gd fun _ => ?_)
      | (with_reducible refine Fr_ite ?_ ?_)
      | (with_reducible refine Fr_opt ?_ fun _ => ?_)
      | (with_reducible refine Fr_sA ?_ ‹EqS S M0 _› fun _ _ => ?_)
      | (with_reducible refine Fr_sR0 ‹EqS S M0 _› fun _ _ => ?_)
      | (with_reducible refine Fr_sL ?_ ‹EqS S M0 _› fun _ _ => ?_)
      | (with_reducible refine Fr_lt fun _ => ?_)
      | exact hS _ (by decide)
      | exact subL (by decide) hS
      | (with_reducible refine Fr_bd (fr_X11_isShelf  ‹EqS S M0 _›) fun _ _ _ => ?_)
      | (with_reducible refine fr_X11_isShelf  ‹EqS S M0 _›)
      | (with_reducible refine Fr_bd (fr_X11_within  ‹EqS S M0 _›) fun _ _ _ => ?_)
      | (with_reducible refine fr_X11_within  ‹EqS S M0 _›)
      | (with_reducible refine Fr_bd (fr_X11_things_b44 ?_ ‹EqS S M0 _›) fun _ _ _ => ?_)
      | (with_reducible refine fr_X11_things_b44 ?_ ‹EqS S M0 _›)
      | intro _)
theorem fr_X11_rule_b78 {S : Nat → Bool} {a1 : Int32} {a2 : Int32} {x3 : Int32} {s1 : Int32} {M0 M : mm} (hS : ∀ k, k ∈ [82] → S k = true) (e : EqS S M0 M) : Fr S M0 (X11_rule_b78 a1 a2 x3 s1 M) := by
  unfold X11_rule_b78
  repeat' (first
      | with_reducible assumption
      | with_reducible exact Fr_none
      | (with_reducible exact Fr_some ‹EqS S M0 _›)
      | (with_reducible refine Fr_gd fun _ => ?_)
      | (with_reducible refine Fr_ite ?_ ?_)
      | (with_reducible refine Fr_opt ?_ fun _ => ?_)
      | (with_reducible refine Fr_sA ?_ ‹EqS S M0 _› fun _ _ => ?_)
      | (with_reducible refine Fr_sR0 ‹EqS S M0 _› fun _ _ => ?_)
      | (with_reducible refine Fr_sL ?_ ‹EqS S M0 _› fun _ _ => ?_)
      | (with_reducible refine Fr_lt fun _ => ?_)
      | exact hS _ (by decide)
      | exact subL (by decide) hS
      | intro _)
theorem fr_X11_rule_b61 {S : Nat → Bool} {a1 : Int32} {a2 : Int32} {x3 : Int32} {s1 : Int32} {M0 M : mm} (hS : ∀ k, k ∈ [82] → S k = true) (e : EqS S M0 M) : Fr S M0 (X11_rule_b61 a1 a2 x3 s1 M) := by
  unfold X11_rule_b61
  repeat' (first
      | with_reducible assumption
      | with_reducible exact Fr_none
      | (with_reducible exact Fr_some ‹EqS S M0 _›)
      | (with_reducible refine Fr_gd fun _ => ?_)
      | (with_reducible refine Fr_ite ?_ ?_)
      | (with_reducible refine Fr_opt ?_ fun _ => ?_)
      | (with_reducible refine Fr_sA ?_ ‹EqS S M0 _› fun _ _ => ?_)
      | (with_reducible refine Fr_sR0 ‹EqS S M0 _› fun _ _ => ?_)
      | (with_reducible refine Fr_sL ?_ ‹EqS S M0 _› fun _ _ => ?_)
      | (with_reducible refine Fr_lt fun _ => ?_)
      | exact hS _ (by decide)
      | exact subL (by decide) hS
      | (with_reducible refine Fr_bd (fr_X11_rule_b78 ?_ ‹EqS S M0 _›) fun _ _ _ => ?_)
      | (with_reducible refine fr_X11_rule_b78 ?_ ‹EqS S M0 _›)
      | intro _)
theorem fr_X11_rule_b47 {S : Nat → Bool} {a1 : Int32} {a2 : Int32} {s0 : Int32} {M0 M : mm} (hS : ∀ k, k ∈ [82] → S k = true) (e : EqS S M0 M) : Fr S M0 (X11_rule_b47 a1 a2 s0 M) := by
  unfold X11_rule_b47
  repeat' (first
      | with_reducible assumption
      | with_reducible exact Fr_none
      | (with_reducible exact Fr_some ‹EqS S M0 _›)
      | (with_reducible refine Fr_gd fun _ => ?_)
      | (with_reducible refine Fr_ite ?_ ?_)
      | (with_reducible refine Fr_opt ?_ fun _ => ?_)
      | (with_reducible refine Fr_sA ?_ ‹EqS S M0 _› fun _ _ => ?_)
      | (with_reducible refine Fr_sR0 ‹EqS S M0 _› fun _ _ => ?_)
      | (with_reducible refine Fr_sL ?_ ‹EqS S M0 _› fun _ _ => ?_)
      | (with_reducible refine Fr_lt fun _ => ?_)
      | exact hS _ (by decide)
      | exact subL (by decide) hS
      | (with_reducible refine Fr_bd (fr_X11_rule_b61 ?_ ‹EqS S M0 _›) fun _ _ _ => ?_)
      | (with_reducible refine fr_X11_rule_b61 ?_ ‹EqS S M0 _›)
      | intro _)
theorem fr_X11_rule_b24 {S : Nat → Bool} {a1 : Int32} {a2 : Int32} {s0 : Int64} {s1 : Int64} {s2 : Int64} {M0 M : mm} (hS : ∀ k, k ∈ [82] → S k = true) (e : EqS S M0 M) : Fr S M0 (X11_rule_b24 a1 a2 s0 s1 s2 M) := by
  unfold X11_rule_b24
  repeat' (first
      | with_reducible assumption
      | with_reducible exact Fr_none
      | (with_reducible exact Fr_some ‹EqS S M0 _›)
      | (with_reducible refine Fr_gd fun _ => ?_)
      | (with_reducible refine Fr_ite ?_ ?_)
      | (with_reducible refine Fr_opt ?_ fun _ => ?_)
      | (with_reducible refine Fr_sA ?_ ‹EqS S M0 _› fun _ _ => ?_)
      | (with_reducible refine Fr_sR0 ‹EqS S M0 _› fun _ _ => ?_)
      | (with_reducible refine Fr_sL ?_ ‹EqS S M0 _› fun _ _ => ?_)
      | (with_reducible refine Fr_lt fun _ => ?_)
      | exact hS _ (by decide)
      | exact subL (by decide) hS
      | (with_reducible refine Fr_bd (fr_X11_within  ‹EqS S M0 _›) fun _ _ _ => ?_)
      | (with_reducible refine fr_X11_within  ‹EqS S M0 _›)
      | (with_reducible refine Fr_bd (fr_X11_rule_b47 ?_ ‹EqS S M0 _›) fun _ _ _ => ?_)
      | (with_reducible refine fr_X11_rule_b47 ?_ ‹EqS S M0 _›)
      | intro _)
theorem fr_X11_rule {S : Nat → Bool} {a1 : Int32} {a2 : Int32} {M0 M : mm} (hS : ∀ k, k ∈ [82] → S k = true) (e : EqS S M0 M) : Fr S M0 (X11_rule a1 a2 M) := by
  unfold X11_rule
  repeat' (first
      | with_reducible assumption
      | with_reducible exact Fr_none
      | (with_reducible exact Fr_some ‹EqS S M0 _›)
      | (with_reducible refine Fr_gd fun _ => ?_)
      | (with_reducible refine Fr_ite ?_ ?_)
      | (with_reducible refine Fr_opt ?_ fun _ => ?_)
      | (with_reducible refine Fr_sA ?_ ‹EqS S M0 _› fun _ _ => ?_)
      | (with_reducible refine Fr_sR0 ‹EqS S M0 _› fun _ _ => ?_)
      | (with_reducible refine Fr_sL ?_ ‹EqS S M0 _› fun _ _ => ?_)
      | (with_reducible refine Fr_lt fun _ => ?_)
      | exact hS _ (by decide)
      | exact subL (by decide) hS
      | (with_reducible refine Fr_bd (fr_X11_within  ‹EqS S M0 _›) fun _ _ _ => ?_)
      | (with_reducible refine fr_X11_within  ‹EqS S M0 _›)
      | (with_reducible refine Fr_bd (fr_X11_rule_b24 ?_ ‹EqS S M0 _›) fun _ _ _ => ?_)
      | (with_reducible refine fr_X11_rule_b24 ?_ ‹EqS S M0 _›)
      | intro _)
theorem fr_X11_mend {S : Nat → Bool} {a1 : Int32} {a2 : Int32} {a3 : Int32} {M0 M : mm} (hS : ∀ k, k ∈ [82, 83, 84, 85, 86] → S k = true) (e : EqS S M0 M) : Fr S M0 (X11_mend a1 a2 a3 M) := by
  unfold X11_mend
  repeat' (first
      | with_reducible assumption
      | with_reducible exact Fr_none
      | (with_reducible exact Fr_some ‹EqS S M0 _›)
      | (with_reducible refine Fr_gd fun _ => ?_)
      | (with_reducible refine Fr_ite ?_ ?_)
      | (with_reducible refine Fr_opt ?_ fun _ => ?_)
      | (with_reducible refine Fr_sA ?_ ‹EqS S M0 _› fun _ _ => ?_)
      | (with_reducible refine Fr_sR0 ‹EqS S M0 _› fun _ _ => ?_)
      | (with_reducible refine Fr_sL ?_ ‹EqS S M0 _› fun _ _ => ?_)
      | (with_reducible refine Fr_lt fun _ => ?_)
      | exact hS _ (by decide)
      | exact subL (by decide) hS
      | (with_reducible refine Fr_bd (fr_X11_isPerson  ‹EqS S M0 _›) fun _ _ _ => ?_)
      | (with_reducible refine fr_X11_isPerson  ‹EqS S M0 _›)
      | (with_reducible refine Fr_bd (fr_X11_within  ‹EqS S M0 _›) fun _ _ _ => ?_)
      | (with_reducible refine fr_X11_within  ‹EqS S M0 _›)
      | (with_reducible refine Fr_bd (fr_X11_becomes ?_ ‹EqS S M0 _›) fun _ _ _ => ?_)
      | (with_reducible refine fr_X11_becomes ?_ ‹EqS S M0 _›)
      | (with_reducible refine Fr_bd (fr_X11_isThing  ‹EqS S M0 _›) fun _ _ _ => ?_)
      | (with_reducible refine fr_X11_isThing  ‹EqS S M0 _›)
      | intro _)
theorem fr_X11_ofPerson {S : Nat → Bool} {a1 : Int32} {a2 : Int32} {M0 M : mm}  (e : EqS S M0 M) : Fr S M0 (X11_ofPerson a1 a2 M) := by
  unfold X11_ofPerson
  repeat' (first
      | with_reducible assumption
      | with_reducible exact Fr_none
      | (with_reducible exact Fr_some ‹EqS S M0 _›)
      | (with_reducible refine Fr_gd fun _ => ?_)
      | (with_reducible refine Fr_ite ?_ ?_)
      | (with_reducible refine Fr_opt ?_ fun _ => ?_)
      | (with_reducible refine Fr_sA ?_ ‹EqS S M0 _› fun _ _ => ?_)
      | (with_reducible refine Fr_sR0 ‹EqS S M0 _› fun _ _ => ?_)
      | (with_reducible refine Fr_sL ?_ ‹EqS S M0 _› fun _ _ => ?_)
      | (with_reducible refine Fr_lt fun _ => ?_)
      | intro _)
theorem fr_X11_byteAt {S : Nat → Bool}  {M0 M : mm}  (e : EqS S M0 M) : Fr S M0 (X11_byteAt  M) := by
  unfold X11_byteAt
  repeat' (first
      | with_reducible assumption
      | with_reducible exact Fr_none
      | (with_reducible exact Fr_some ‹EqS S M0 _›)
      | (with_reducible refine Fr_gd fun _ => ?_)
      | (with_reducible refine Fr_ite ?_ ?_)
      | (with_reducible refine Fr_opt ?_ fun _ => ?_)
      | (with_reducible refine Fr_sA ?_ ‹EqS S M0 _› fun _ _ => ?_)
      | (with_reducible refine Fr_sR0 ‹EqS S M0 _› fun _ _ => ?_)
      | (with_reducible refine Fr_sL ?_ ‹EqS S M0 _› fun _ _ => ?_)
      | (with_reducible refine Fr_lt fun _ => ?_)
      | intro _)
theorem fr_X11_nameOf {S : Nat → Bool} {a0 : Int32} {M0 M : mm}  (e : EqS S M0 M) : Fr S M0 (X11_nameOf a0 M) := by
  unfold X11_nameOf
  repeat' (first
      | with_reducible assumption
      | with_reducible exact Fr_none
      | (with_reducible exact Fr_some ‹EqS S M0 _›)
      | (with_reducible refine Fr_gd fun _ => ?_)
      | (with_reducible refine Fr_ite ?_ ?_)
      | (with_reducible refine Fr_opt ?_ fun _ => ?_)
      | (with_reducible refine Fr_sA ?_ ‹EqS S M0 _› fun _ _ => ?_)
      | (with_reducible refine Fr_sR0 ‹EqS S M0 _› fun _ _ => ?_)
      | (with_reducible refine Fr_sL ?_ ‹EqS S M0 _› fun _ _ => ?_)
      | (with_reducible refine Fr_lt fun _ => ?_)
      | intro _)
theorem fr_X11_takes {S : Nat → Bool} {a1 : Int32} {M0 M : mm} (hS : ∀ k, k ∈ [82] → S k = true) (e : EqS S M0 M) : Fr S M0 (X11_takes a1 M) := by
  unfold X11_takes
  repeat' (first
      | with_reducible assumption
      | with_reducible exact Fr_none
      | (with_reducible exact Fr_some ‹EqS S M0 _›)
      | (with_reducible refine Fr_gd fun _ => ?_)
      | (with_reducible refine Fr_ite ?_ ?_)
      | (with_reducible refine Fr_opt ?_ fun _ => ?_)
      | (with_reducible refine Fr_sA ?_ ‹EqS S M0 _› fun _ _ => ?_)
      | (with_reducible refine Fr_sR0 ‹EqS S M0 _› fun _ _ => ?_)
      | (with_reducible refine Fr_sL ?_ ‹EqS S M0 _› fun _ _ => ?_)
      | (with_reducible refine Fr_lt fun _ => ?_)
      | exact hS _ (by decide)
      | exact subL (by decide) hS
      | (with_reducible refine Fr_bd (fr_X11_byteAt  ‹EqS S M0 _›) fun _ _ _ => ?_)
      | (with_reducible refine fr_X11_byteAt  ‹EqS S M0 _›)
      | intro _)
theorem fr_X11_wrong_b19 {S : Nat → Bool} {s1 : Int32} {M0 M : mm} (hS : ∀ k, k ∈ [82] → S k = true) (e : EqS S M0 M) : Fr S M0 (X11_wrong_b19 s1 M) := by
  unfold X11_wrong_b19
  repeat' (first
      | with_reducible assumption
      | with_reducible exact Fr_none
      | (with_reducible exact Fr_some ‹EqS S M0 _›)
      | (with_reducible refine Fr_gd fun _ => ?_)
      | (with_reducible refine Fr_ite ?_ ?_)
      | (with_reducible refine Fr_opt ?_ fun _ => ?_)
      | (with_reducible refine Fr_sA ?_ ‹EqS S M0 _› fun _ _ => ?_)
      | (with_reducible refine Fr_sR0 ‹EqS S M0 _› fun _ _ => ?_)
      | (with_reducible refine Fr_sL ?_ ‹EqS S M0 _› fun _ _ => ?_)
      | (with_reducible refine Fr_lt fun _ => ?_)
      | exact hS _ (by decide)
      | exact subL (by decide) hS
      | intro _)
theorem fr_X11_wrong {S : Nat → Bool}  {M0 M : mm} (hS : ∀ k, k ∈ [82] → S k = true) (e : EqS S M0 M) : Fr S M0 (X11_wrong  M) := by
  unfold X11_wrong
  repeat' (first
      | with_reducible assumption
      | with_reducible exact Fr_none
      | (with_reducible exact Fr_some ‹EqS S M0 _›)
      | (with_reducible refine Fr_gd fun _ => ?_)
      | (with_reducible refine Fr_ite ?_ ?_)
      | (with_reducible refine Fr_opt ?_ fun _ => ?_)
      | (with_reducible refine Fr_sA ?_ ‹EqS S M0 _› fun _ _ => ?_)
      | (with_reducible refine Fr_sR0 ‹EqS S M0 _› fun _ _ => ?_)
      | (with_reducible refine Fr_sL ?_ ‹EqS S M0 _› fun _ _ => ?_)
      | (with_reducible refine Fr_lt fun _ => ?_)
      | exact hS _ (by decide)
      | exact subL (by decide) hS
      | (with_reducible refine Fr_bd (fr_X11_wrong_b19 ?_ ‹EqS S M0 _›) fun _ _ _ => ?_)
      | (with_reducible refine fr_X11_wrong_b19 ?_ ‹EqS S M0 _›)
      | intro _)
theorem fr_X11_both_b32 {S : Nat → Bool} {rec : Nat → mm → Option (Int32 × mm)} {R5 : Int32 → mm → Option (Int32 × mm)} {s0 : Int32} {M0 M : mm} (hrec : ∀ (y0 : Nat) (M_ : mm), EqS S M0 M_ → Fr S M0 (rec y0 M_)) (hR5 : ∀ (y0 : Int32) (M_ : mm), EqS S M0 M_ → Fr S M0 (R5 y0 M_)) (e : EqS S M0 M) : Fr S M0 (X11_both_b32 rec R5 s0 M) := by
  unfold X11_both_b32
  repeat' (first
      | with_reducible assumption
      | with_reducible exact Fr_none
      | (with_reducible exact Fr_some ‹EqS S M0 _›)
      | (with_reducible refine Fr_gd fun _ => ?_)
      | (with_reducible refine Fr_ite ?_ ?_)
      | (with_reducible refine Fr_opt ?_ fun _ => ?_)
      | (with_reducible refine Fr_sA ?_ ‹EqS S M0 _› fun _ _ => ?_)
      | (with_reducible refine Fr_sR0 ‹EqS S M0 _› fun _ _ => ?_)
      | (with_reducible refine Fr_sL ?_ ‹EqS S M0 _› fun _ _ => ?_)
      | (with_reducible refine Fr_lt fun _ => ?_)
      | (with_reducible refine Fr_bd (hrec _ _ ‹EqS S M0 _›) fun _ _ _ => ?_)
      | with_reducible exact hrec _ _ ‹EqS S M0 _›
      | (with_reducible refine Fr_bd (hR5 _ _ ‹EqS S M0 _›) fun _ _ _ => ?_)
      | with_reducible exact hR5 _ _ ‹EqS S M0 _›
      | intro _)
theorem fr_X11_both_b31 {S : Nat → Bool} {rec : Nat → mm → Option (Int32 × mm)} {R5 : Int32 → mm → Option (Int32 × mm)} {M0 M : mm} (hrec : ∀ (y0 : Nat) (M_ : mm), EqS S M0 M_ → Fr S M0 (rec y0 M_)) (hR5 : ∀ (y0 : Int32) (M_ : mm), EqS S M0 M_ → Fr S M0 (R5 y0 M_)) (e : EqS S M0 M) : Fr S M0 (X11_both_b31 rec R5 M) := by
  unfold X11_both_b31
  repeat' (first
      | with_reducible assumption
      | with_reducible exact Fr_none
      | (with_reducible exact Fr_some ‹EqS S M0 _›)
      | (with_reducible refine Fr_gd fun _ => ?_)
      | (with_reducible refine Fr_ite ?_ ?_)
      | (with_reducible refine Fr_opt ?_ fun _ => ?_)
      | (with_reducible refine Fr_sA ?_ ‹EqS S M0 _› fun _ _ => ?_)
      | (with_reducible refine Fr_sR0 ‹EqS S M0 _› fun _ _ => ?_)
      | (with_reducible refine Fr_sL ?_ ‹EqS S M0 _› fun _ _ => ?_)
      | (with_reducible refine Fr_lt fun _ => ?_)
      | (with_reducible refine Fr_bd (hrec _ _ ‹EqS S M0 _›) fun _ _ _ => ?_)
      | with_reducible exact hrec _ _ ‹EqS S M0 _›
      | (with_reducible refine Fr_bd (hR5 _ _ ‹EqS S M0 _›) fun _ _ _ => ?_)
      | with_reducible exact hR5 _ _ ‹EqS S M0 _›
      | (with_reducible refine Fr_bd (fr_X11_both_b32 ?_ ?_ ‹EqS S M0 _›) fun _ _ _ => ?_)
      | (with_reducible refine fr_X11_both_b32 ?_ ?_ ‹EqS S M0 _›)
      | intro _)
theorem fr_X11_both_L5 {S : Nat → Bool} {rec : Nat → mm → Option (Int32 × mm)} {M0 : mm} (hS : ∀ k, k ∈ [82] → S k = true) (hrec : ∀ (y0 : Nat) (M_ : mm), EqS S M0 M_ → Fr S M0 (rec y0 M_)) : ∀ (n_ : Nat) (z1 : Int32) (M : mm), EqS S M0 M → Fr S M0 (X11_both_L5 rec n_ z1 M) := by
  intro n_
  induction n_ with
  | zero =>
    intros
    exact Fr_none
  | succ n_ ih =>
    intro z1 M e
    rw [X11_both_L5]
    repeat' (first
        | with_reducible assumption
        | with_reducible exact Fr_none
        | (with_reducible exact Fr_some ‹EqS S M0 _›)
        | (with_reducible refine Fr_gd fun _ => ?_)
        | (with_reducible refine Fr_ite ?_ ?_)
        | (with_reducible refine Fr_opt ?_ fun _ => ?_)
        | (with_reducible refine Fr_sA ?_ ‹EqS S M0 _› fun _ _ => ?_)
        | (with_reducible refine Fr_sR0 ‹EqS S M0 _› fun _ _ => ?_)
        | (with_reducible refine Fr_sL ?_ ‹EqS S M0 _› fun _ _ => ?_)
        | (with_reducible refine Fr_lt fun _ => ?_)
        | exact hS _ (by decide)
        | exact subL (by decide) hS
        | (with_reducible refine Fr_bd (hrec _ _ ‹EqS S M0 _›) fun _ _ _ => ?_)
        | with_reducible exact hrec _ _ ‹EqS S M0 _›
        | (with_reducible refine Fr_bd (fr_X11_takes ?_ ‹EqS S M0 _›) fun _ _ _ => ?_)
        | (with_reducible refine fr_X11_takes ?_ ‹EqS S M0 _›)
        | (with_reducible refine Fr_bd (fr_X11_both_b31 ?_ ?_ ‹EqS S M0 _›) fun _ _ _ => ?_)
        | (with_reducible refine fr_X11_both_b31 ?_ ?_ ‹EqS S M0 _›)
        | (with_reducible refine Fr_bd (fr_X11_both_b32 ?_ ?_ ‹EqS S M0 _›) fun _ _ _ => ?_)
        | (with_reducible refine fr_X11_both_b32 ?_ ?_ ‹EqS S M0 _›)
        | (with_reducible refine Fr_bd (ih _ _ ‹EqS S M0 _›) fun _ _ _ => ?_)
        | with_reducible exact ih _ _ ‹EqS S M0 _›
        | intro _)
theorem fr_X11_both_B {S : Nat → Bool} {rec : Nat → mm → Option (Int32 × mm)} {M0 M : mm} (hS : ∀ k, k ∈ [82] → S k = true) (hrec : ∀ (y0 : Nat) (M_ : mm), EqS S M0 M_ → Fr S M0 (rec y0 M_)) (e : EqS S M0 M) : Fr S M0 (X11_both_B rec M) := by
  unfold X11_both_B
  repeat' (first
      | with_reducible assumption
      | with_reducible exact Fr_none
      | (with_reducible exact Fr_some ‹EqS S M0 _›)
      | (with_reducible refine Fr_gd fun _ => ?_)
      | (with_reducible refine Fr_ite ?_ ?_)
      | (with_reducible refine Fr_opt ?_ fun _ => ?_)
      | (with_reducible refine Fr_sA ?_ ‹EqS S M0 _› fun _ _ => ?_)
      | (with_reducible refine Fr_sR0 ‹EqS S M0 _› fun _ _ => ?_)
      | (with_reducible refine Fr_sL ?_ ‹EqS S M0 _› fun _ _ => ?_)
      | (with_reducible refine Fr_lt fun _ => ?_)
      | exact hS _ (by decide)
      | exact subL (by decide) hS
      | (with_reducible refine Fr_bd (hrec _ _ ‹EqS S M0 _›) fun _ _ _ => ?_)
      | with_reducible exact hrec _ _ ‹EqS S M0 _›
      | (with_reducible refine Fr_bd (fr_X11_both_L5 ?_ ?_ _ _ _ ‹EqS S M0 _›) fun _ _ _ => ?_)
      | (with_reducible refine fr_X11_both_L5 ?_ ?_ _ _ _ ‹EqS S M0 _›)
      | intro _)
theorem fr_X11_compared_b85 {S : Nat → Bool} {rec : Nat → mm → Option (Int32 × mm)} {M0 M : mm} (hrec : ∀ (y0 : Nat) (M_ : mm), EqS S M0 M_ → Fr S M0 (rec y0 M_)) (e : EqS S M0 M) : Fr S M0 (X11_compared_b85 rec M) := by
  unfold X11_compared_b85
  repeat' (first
      | with_reducible assumption
      | with_reducible exact Fr_none
      | (with_reducible exact Fr_some ‹EqS S M0 _›)
      | (with_reducible refine Fr_gd fun _ => ?_)
      | (with_reducible refine Fr_ite ?_ ?_)
      | (with_reducible refine Fr_opt ?_ fun _ => ?_)
      | (with_reducible refine Fr_sA ?_ ‹EqS S M0 _› fun _ _ => ?_)
      | (with_reducible refine Fr_sR0 ‹EqS S M0 _› fun _ _ => ?_)
      | (with_reducible refine Fr_sL ?_ ‹EqS S M0 _› fun _ _ => ?_)
      | (with_reducible refine Fr_lt fun _ => ?_)
      | (with_reducible refine Fr_bd (hrec _ _ ‹EqS S M0 _›) fun _ _ _ => ?_)
      | with_reducible exact hrec _ _ ‹EqS S M0 _›
      | intro _)
theorem fr_X11_compared_b37 {S : Nat → Bool} {rec : Nat → mm → Option (Int32 × mm)} {x1 : Int32} {x2 : Int32} {M0 M : mm} (hS : ∀ k, k ∈ [82] → S k = true) (hrec : ∀ (y0 : Nat) (M_ : mm), EqS S M0 M_ → Fr S M0 (rec y0 M_)) (e : EqS S M0 M) : Fr S M0 (X11_compared_b37 rec x1 x2 M) := by
  unfold X11_compared_b37
  repeat' (first
      | with_reducible assumption
      | with_reducible exact Fr_none
      | (with_reducible exact Fr_some ‹EqS S M0 _›)
      | (with_reducible refine Fr_gd fun _ => ?_)
      | (with_reducible refine Fr_ite ?_ ?_)
      | (with_reducible refine Fr_opt ?_ fun _ => ?_)
      | (with_reducible refine Fr_sA ?_ ‹EqS S M0 _› fun _ _ => ?_)
      | (with_reducible refine Fr_sR0 ‹EqS S M0 _› fun _ _ => ?_)
      | (with_reducible refine Fr_sL ?_ ‹EqS S M0 _› fun _ _ => ?_)
      | (with_reducible refine Fr_lt fun _ => ?_)
      | exact hS _ (by decide)
      | exact subL (by decide) hS
      | (with_reducible refine Fr_bd (hrec _ _ ‹EqS S M0 _›) fun _ _ _ => ?_)
      | with_reducible exact hrec _ _ ‹EqS S M0 _›
      | (with_reducible refine Fr_bd (fr_X11_compared_b85 ?_ ‹EqS S M0 _›) fun _ _ _ => ?_)
      | (with_reducible refine fr_X11_compared_b85 ?_ ‹EqS S M0 _›)
      | intro _)
theorem fr_X11_compared_B {S : Nat → Bool} {rec : Nat → mm → Option (Int32 × mm)} {M0 M : mm} (hS : ∀ k, k ∈ [82] → S k = true) (hrec : ∀ (y0 : Nat) (M_ : mm), EqS S M0 M_ → Fr S M0 (rec y0 M_)) (e : EqS S M0 M) : Fr S M0 (X11_compared_B rec M) := by
  unfold X11_compared_B
  repeat' (first
      | with_reducible assumption
      | with_reducible exact Fr_none
      | (with_reducible exact Fr_some ‹EqS S M0 _›)
      | (with_reducible refine Fr_gd fun _ => ?_)
      | (with_reducible refine Fr_ite ?_ ?_)
      | (with_reducible refine Fr_opt ?_ fun _ => ?_)
      | (with_reducible refine Fr_sA ?_ ‹EqS S M0 _› fun _ _ => ?_)
      | (with_reducible refine Fr_sR0 ‹EqS S M0 _› fun _ _ => ?_)
      | (with_reducible refine Fr_sL ?_ ‹EqS S M0 _› fun _ _ => ?_)
      | (with_reducible refine Fr_lt fun _ => ?_)
      | exact hS _ (by decide)
      | exact subL (by decide) hS
      | (with_reducible refine Fr_bd (hrec _ _ ‹EqS S M0 _›) fun _ _ _ => ?_)
      | with_reducible exact hrec _ _ ‹EqS S M0 _›
      | (with_reducible refine Fr_bd (fr_X11_byteAt  ‹EqS S M0 _›) fun _ _ _ => ?_)
      | (with_reducible refine fr_X11_byteAt  ‹EqS S M0 _›)
      | (with_reducible refine Fr_bd (fr_X11_compared_b37 ?_ ?_ ‹EqS S M0 _›) fun _ _ _ => ?_)
      | (with_reducible refine fr_X11_compared_b37 ?_ ?_ ‹EqS S M0 _›)
      | intro _)
theorem fr_X11_either_b32 {S : Nat → Bool} {rec : Nat → mm → Option (Int32 × mm)} {R5 : Int32 → mm → Option (Int32 × mm)} {s0 : Int32} {M0 M : mm} (hrec : ∀ (y0 : Nat) (M_ : mm), EqS S M0 M_ → Fr S M0 (rec y0 M_)) (hR5 : ∀ (y0 : Int32) (M_ : mm), EqS S M0 M_ → Fr S M0 (R5 y0 M_)) (e : EqS S M0 M) : Fr S M0 (X11_either_b32 rec R5 s0 M) := by
  unfold X11_either_b32
  repeat' (first
      | with_reducible assumption
      | with_reducible exact Fr_none
      | (with_reducible exact Fr_some ‹EqS S M0 _›)
      | (with_reducible refine Fr_gd fun _ => ?_)
      | (with_reducible refine Fr_ite ?_ ?_)
      | (with_reducible refine Fr_opt ?_ fun _ => ?_)
      | (with_reducible refine Fr_sA ?_ ‹EqS S M0 _› fun _ _ => ?_)
      | (with_reducible refine Fr_sR0 ‹EqS S M0 _› fun _ _ => ?_)
      | (with_reducible refine Fr_sL ?_ ‹EqS S M0 _› fun _ _ => ?_)
      | (with_reducible refine Fr_lt fun _ => ?_)
      | (with_reducible refine Fr_bd (hrec _ _ ‹EqS S M0 _›) fun _ _ _ => ?_)
      | with_reducible exact hrec _ _ ‹EqS S M0 _›
      | (with_reducible refine Fr_bd (hR5 _ _ ‹EqS S M0 _›) fun _ _ _ => ?_)
      | with_reducible exact hR5 _ _ ‹EqS S M0 _›
      | intro _)
theorem fr_X11_either_b27 {S : Nat → Bool} {rec : Nat → mm → Option (Int32 × mm)} {R5 : Int32 → mm → Option (Int32 × mm)} {M0 M : mm} (hrec : ∀ (y0 : Nat) (M_ : mm), EqS S M0 M_ → Fr S M0 (rec y0 M_)) (hR5 : ∀ (y0 : Int32) (M_ : mm), EqS S M0 M_ → Fr S M0 (R5 y0 M_)) (e : EqS S M0 M) : Fr S M0 (X11_either_b27 rec R5 M) := by
  unfold X11_either_b27
  repeat' (first
      | with_reducible assumption
      | with_reducible exact Fr_none
      | (with_reducible exact Fr_some ‹EqS S M0 _›)
      | (with_reducible refine Fr_gd fun _ => ?_)
      | (with_reducible refine Fr_ite ?_ ?_)
      | (with_reducible refine Fr_opt ?_ fun _ => ?_)
      | (with_reducible refine Fr_sA ?_ ‹EqS S M0 _› fun _ _ => ?_)
      | (with_reducible refine Fr_sR0 ‹EqS S M0 _› fun _ _ => ?_)
      | (with_reducible refine Fr_sL ?_ ‹EqS S M0 _› fun _ _ => ?_)
      | (with_reducible refine Fr_lt fun _ => ?_)
      | (with_reducible refine Fr_bd (hrec _ _ ‹EqS S M0 _›) fun _ _ _ => ?_)
      | with_reducible exact hrec _ _ ‹EqS S M0 _›
      | (with_reducible refine Fr_bd (hR5 _ _ ‹EqS S M0 _›) fun _ _ _ => ?_)
      | with_reducible exact hR5 _ _ ‹EqS S M0 _›
      | (with_reducible refine Fr_bd (fr_X11_either_b32 ?_ ?_ ‹EqS S M0 _›) fun _ _ _ => ?_)
      | (with_reducible refine fr_X11_either_b32 ?_ ?_ ‹EqS S M0 _›)
      | intro _)
theorem fr_X11_either_L5 {S : Nat → Bool} {rec : Nat → mm → Option (Int32 × mm)} {M0 : mm} (hS : ∀ k, k ∈ [82] → S k = true) (hrec : ∀ (y0 : Nat) (M_ : mm), EqS S M0 M_ → Fr S M0 (rec y0 M_)) : ∀ (n_ : Nat) (z1 : Int32) (M : mm), EqS S M0 M → Fr S M0 (X11_either_L5 rec n_ z1 M) := by
  intro n_
  induction n_ with
  | zero =>
    intros
    exact Fr_none
  | succ n_ ih =>
    intro z1 M e
    rw [X11_either_L5]
    repeat' (first
        | with_reducible assumption
        | with_reducible exact Fr_none
        | (with_reducible exact Fr_some ‹EqS S M0 _›)
        | (with_reducible refine Fr_gd fun _ => ?_)
        | (with_reducible refine Fr_ite ?_ ?_)
        | (with_reducible refine Fr_opt ?_ fun _ => ?_)
        | (with_reducible refine Fr_sA ?_ ‹EqS S M0 _› fun _ _ => ?_)
        | (with_reducible refine Fr_sR0 ‹EqS S M0 _› fun _ _ => ?_)
        | (with_reducible refine Fr_sL ?_ ‹EqS S M0 _› fun _ _ => ?_)
        | (with_reducible refine Fr_lt fun _ => ?_)
        | exact hS _ (by decide)
        | exact subL (by decide) hS
        | (with_reducible refine Fr_bd (hrec _ _ ‹EqS S M0 _›) fun _ _ _ => ?_)
        | with_reducible exact hrec _ _ ‹EqS S M0 _›
        | (with_reducible refine Fr_bd (fr_X11_takes ?_ ‹EqS S M0 _›) fun _ _ _ => ?_)
        | (with_reducible refine fr_X11_takes ?_ ‹EqS S M0 _›)
        | (with_reducible refine Fr_bd (fr_X11_either_b32 ?_ ?_ ‹EqS S M0 _›) fun _ _ _ => ?_)
        | (with_reducible refine fr_X11_either_b32 ?_ ?_ ‹EqS S M0 _›)
        | (with_reducible refine Fr_bd (fr_X11_either_b27 ?_ ?_ ‹EqS S M0 _›) fun _ _ _ => ?_)
        | (with_reducible refine fr_X11_either_b27 ?_ ?_ ‹EqS S M0 _›)
        | (with_reducible refine Fr_bd (ih _ _ ‹EqS S M0 _›) fun _ _ _ => ?_)
        | with_reducible exact ih _ _ ‹EqS S M0 _›
        | intro _)
theorem fr_X11_either_B {S : Nat → Bool} {rec : Nat → mm → Option (Int32 × mm)} {M0 M : mm} (hS : ∀ k, k ∈ [82] → S k = true) (hrec : ∀ (y0 : Nat) (M_ : mm), EqS S M0 M_ → Fr S M0 (rec y0 M_)) (e : EqS S M0 M) : Fr S M0 (X11_either_B rec M) := by
  unfold X11_either_B
  repeat' (first
      | with_reducible assumption
      | with_reducible exact Fr_none
      | (with_reducible exact Fr_some ‹EqS S M0 _›)
      | (with_reducible refine Fr_gd fun _ => ?_)
      | (with_reducible refine Fr_ite ?_ ?_)
      | (with_reducible refine Fr_opt ?_ fun _ => ?_)
      | (with_reducible refine Fr_sA ?_ ‹EqS S M0 _› fun _ _ => ?_)
      | (with_reducible refine Fr_sR0 ‹EqS S M0 _› fun _ _ => ?_)
      | (with_reducible refine Fr_sL ?_ ‹EqS S M0 _› fun _ _ => ?_)
      | (with_reducible refine Fr_lt fun _ => ?_)
      | exact hS _ (by decide)
      | exact subL (by decide) hS
      | (with_reducible refine Fr_bd (hrec _ _ ‹EqS S M0 _›) fun _ _ _ => ?_)
      | with_reducible exact hrec _ _ ‹EqS S M0 _›
      | (with_reducible refine Fr_bd (fr_X11_either_L5 ?_ ?_ _ _ _ ‹EqS S M0 _›) fun _ _ _ => ?_)
      | (with_reducible refine fr_X11_either_L5 ?_ ?_ _ _ _ ‹EqS S M0 _›)
      | intro _)
theorem fr_X11_one_b104 {S : Nat → Bool} {rec : Nat → mm → Option (Int32 × mm)} {x1 : Int32} {x2 : Int32} {M0 M : mm} (hS : ∀ k, k ∈ [82] → S k = true) (hrec : ∀ (y0 : Nat) (M_ : mm), EqS S M0 M_ → Fr S M0 (rec y0 M_)) (e : EqS S M0 M) : Fr S M0 (X11_one_b104 rec x1 x2 M) := by
  unfold X11_one_b104
  repeat' (first
      | with_reducible assumption
      | with_reducible exact Fr_none
      | (with_reducible exact Fr_some ‹EqS S M0 _›)
      | (with_reducible refine Fr_gd fun _ => ?_)
      | (with_reducible refine Fr_ite ?_ ?_)
      | (with_reducible refine Fr_opt ?_ fun _ => ?_)
      | (with_reducible refine Fr_sA ?_ ‹EqS S M0 _› fun _ _ => ?_)
      | (with_reducible refine Fr_sR0 ‹EqS S M0 _› fun _ _ => ?_)
      | (with_reducible refine Fr_sL ?_ ‹EqS S M0 _› fun _ _ => ?_)
      | (with_reducible refine Fr_lt fun _ => ?_)
      | exact hS _ (by decide)
      | exact subL (by decide) hS
      | (with_reducible refine Fr_bd (hrec _ _ ‹EqS S M0 _›) fun _ _ _ => ?_)
      | with_reducible exact hrec _ _ ‹EqS S M0 _›
      | intro _)
theorem fr_X11_one_b83 {S : Nat → Bool} {rec : Nat → mm → Option (Int32 × mm)} {x1 : Int32} {s0 : Int32} {M0 M : mm} (hS : ∀ k, k ∈ [82] → S k = true) (hrec : ∀ (y0 : Nat) (M_ : mm), EqS S M0 M_ → Fr S M0 (rec y0 M_)) (e : EqS S M0 M) : Fr S M0 (X11_one_b83 rec x1 s0 M) := by
  unfold X11_one_b83
  repeat' (first
      | with_reducible assumption
      | with_reducible exact Fr_none
      | (with_reducible exact Fr_some ‹EqS S M0 _›)
      | (with_reducible refine Fr_gd fun _ => ?_)
      | (with_reducible refine Fr_ite ?_ ?_)
      | (with_reducible refine Fr_opt ?_ fun _ => ?_)
      | (with_reducible refine Fr_sA ?_ ‹EqS S M0 _› fun _ _ => ?_)
      | (with_reducible refine Fr_sR0 ‹EqS S M0 _› fun _ _ => ?_)
      | (with_reducible refine Fr_sL ?_ ‹EqS S M0 _› fun _ _ => ?_)
      | (with_reducible refine Fr_lt fun _ => ?_)
      | exact hS _ (by decide)
      | exact subL (by decide) hS
      | (with_reducible refine Fr_bd (hrec _ _ ‹EqS S M0 _›) fun _ _ _ => ?_)
      | with_reducible exact hrec _ _ ‹EqS S M0 _›
      | (with_reducible refine Fr_bd (fr_X11_takes ?_ ‹EqS S M0 _›) fun _ _ _ => ?_)
      | (with_reducible refine fr_X11_takes ?_ ‹EqS S M0 _›)
      | (with_reducible refine Fr_bd (fr_X11_wrong ?_ ‹EqS S M0 _›) fun _ _ _ => ?_)
      | (with_reducible refine fr_X11_wrong ?_ ‹EqS S M0 _›)
      | (with_reducible refine Fr_bd (fr_X11_one_b104 ?_ ?_ ‹EqS S M0 _›) fun _ _ _ => ?_)
      | (with_reducible refine fr_X11_one_b104 ?_ ?_ ‹EqS S M0 _›)
      | intro _)
theorem fr_X11_one_b32 {S : Nat → Bool} {rec : Nat → mm → Option (Int32 × mm)} {x1 : Int32} {M0 M : mm} (hS : ∀ k, k ∈ [82] → S k = true) (hrec : ∀ (y0 : Nat) (M_ : mm), EqS S M0 M_ → Fr S M0 (rec y0 M_)) (e : EqS S M0 M) : Fr S M0 (X11_one_b32 rec x1 M) := by
  unfold X11_one_b32
  repeat' (first
      | with_reducible assumption
      | with_reducible exact Fr_none
      | (with_reducible exact Fr_some ‹EqS S M0 _›)
      | (with_reducible refine Fr_gd fun _ => ?_)
      | (with_reducible refine Fr_ite ?_ ?_)
      | (with_reducible refine Fr_opt ?_ fun _ => ?_)
      | (with_reducible refine Fr_sA ?_ ‹EqS S M0 _› fun _ _ => ?_)
      | (with_reducible refine Fr_sR0 ‹EqS S M0 _› fun _ _ => ?_)
      | (with_reducible refine Fr_sL ?_ ‹EqS S M0 _› fun _ _ => ?_)
      | (with_reducible refine Fr_lt fun _ => ?_)
      | exact hS _ (by decide)
      | exact subL (by decide) hS
      | (with_reducible refine Fr_bd (hrec _ _ ‹EqS S M0 _›) fun _ _ _ => ?_)
      | with_reducible exact hrec _ _ ‹EqS S M0 _›
      | (with_reducible refine Fr_bd (fr_X11_wrong ?_ ‹EqS S M0 _›) fun _ _ _ => ?_)
      | (with_reducible refine fr_X11_wrong ?_ ‹EqS S M0 _›)
      | (with_reducible refine Fr_bd (fr_X11_one_b83 ?_ ?_ ‹EqS S M0 _›) fun _ _ _ => ?_)
      | (with_reducible refine fr_X11_one_b83 ?_ ?_ ‹EqS S M0 _›)
      | intro _)
theorem fr_X11_one_L176 {S : Nat → Bool} {rec : Nat → mm → Option (Int32 × mm)} {K229 : Int32 → Int32 → mm → Option (Int32 × mm)} {M0 : mm} (hS : ∀ k, k ∈ [82] → S k = true) (hrec : ∀ (y0 : Nat) (M_ : mm), EqS S M0 M_ → Fr S M0 (rec y0 M_)) (hK229 : ∀ (y0 : Int32) (y1 : Int32) (M_ : mm), EqS S M0 M_ → Fr S M0 (K229 y0 y1 M_)) : ∀ (n_ : Nat) (z1 : Int32) (z2 : Int32) (M : mm), EqS S M0 M → Fr S M0 (X11_one_L176 rec K229 n_ z1 z2 M) := by
  intro n_
  induction n_ with
  | zero =>
    intros
    exact Fr_none
  | succ n_ ih =>
    intro z1 z2 M e
    rw [X11_one_L176]
    repeat' (first
        | with_reducible assumption
        | with_reducible exact Fr_none
        | (with_reducible exact Fr_some ‹EqS S M0 _›)
        | (with_reducible refine Fr_gd fun _ => ?_)
        | (with_reducible refine Fr_ite ?_ ?_)
        | (with_reducible refine Fr_opt ?_ fun _ => ?_)
        | (with_reducible refine Fr_sA ?_ ‹EqS S M0 _› fun _ _ => ?_)
        | (with_reducible refine Fr_sR0 ‹EqS S M0 _› fun _ _ => ?_)
        | (with_reducible refine Fr_sL ?_ ‹EqS S M0 _› fun _ _ => ?_)
        | (with_reducible refine Fr_lt fun _ => ?_)
        | exact hS _ (by decide)
        | exact subL (by decide) hS
        | (with_reducible refine Fr_bd (hrec _ _ ‹EqS S M0 _›) fun _ _ _ => ?_)
        | with_reducible exact hrec _ _ ‹EqS S M0 _›
        | (with_reducible refine Fr_bd (hK229 _ _ _ ‹EqS S M0 _›) fun _ _ _ => ?_)
        | with_reducible exact hK229 _ _ _ ‹EqS S M0 _›
        | (with_reducible refine Fr_bd (fr_X11_byteAt  ‹EqS S M0 _›) fun _ _ _ => ?_)
        | (with_reducible refine fr_X11_byteAt  ‹EqS S M0 _›)
        | (with_reducible refine Fr_bd (ih _ _ _ ‹EqS S M0 _›) fun _ _ _ => ?_)
        | with_reducible exact ih _ _ _ ‹EqS S M0 _›
        | intro _)
theorem fr_X11_one_b229 {S : Nat → Bool} {rec : Nat → mm → Option (Int32 × mm)} {x3 : Int32} {x4 : Int32} {M0 M : mm} (hS : ∀ k, k ∈ [82] → S k = true) (hrec : ∀ (y0 : Nat) (M_ : mm), EqS S M0 M_ → Fr S M0 (rec y0 M_)) (e : EqS S M0 M) : Fr S M0 (X11_one_b229 rec x3 x4 M) := by
  unfold X11_one_b229
  repeat' (first
      | with_reducible assumption
      | with_reducible exact Fr_none
      | (with_reducible exact Fr_some ‹EqS S M0 _›)
      | (with_reducible refine Fr_gd fun _ => ?_)
      | (with_reducible refine Fr_ite ?_ ?_)
      | (with_reducible refine Fr_opt ?_ fun _ => ?_)
      | (with_reducible refine Fr_sA ?_ ‹EqS S M0 _› fun _ _ => ?_)
      | (with_reducible refine Fr_sR0 ‹EqS S M0 _› fun _ _ => ?_)
      | (with_reducible refine Fr_sL ?_ ‹EqS S M0 _› fun _ _ => ?_)
      | (with_reducible refine Fr_lt fun _ => ?_)
      | exact hS _ (by decide)
      | exact subL (by decide) hS
      | (with_reducible refine Fr_bd (hrec _ _ ‹EqS S M0 _›) fun _ _ _ => ?_)
      | with_reducible exact hrec _ _ ‹EqS S M0 _›
      | (with_reducible refine Fr_bd (fr_X11_wrong ?_ ‹EqS S M0 _›) fun _ _ _ => ?_)
      | (with_reducible refine fr_X11_wrong ?_ ‹EqS S M0 _›)
      | intro _)
theorem fr_X11_one_B {S : Nat → Bool} {rec : Nat → mm → Option (Int32 × mm)} {M0 M : mm} (hS : ∀ k, k ∈ [82] → S k = true) (hrec : ∀ (y0 : Nat) (M_ : mm), EqS S M0 M_ → Fr S M0 (rec y0 M_)) (e : EqS S M0 M) : Fr S M0 (X11_one_B rec M) := by
  unfold X11_one_B
  repeat' (first
      | with_reducible assumption
      | with_reducible exact Fr_none
      | (with_reducible exact Fr_some ‹EqS S M0 _›)
      | (with_reducible refine Fr_gd fun _ => ?_)
      | (with_reducible refine Fr_ite ?_ ?_)
      | (with_reducible refine Fr_opt ?_ fun _ => ?_)
      | (with_reducible refine Fr_sA ?_ ‹EqS S M0 _› fun _ _ => ?_)
      | (with_reducible refine Fr_sR0 ‹EqS S M0 _› fun _ _ => ?_)
      | (with_reducible refine Fr_sL ?_ ‹EqS S M0 _› fun _ _ => ?_)
      | (with_reducible refine Fr_lt fun _ => ?_)
      | exact hS _ (by decide)
      | exact subL (by decide) hS
      | (with_reducible refine Fr_bd (hrec _ _ ‹EqS S M0 _›) fun _ _ _ => ?_)
      | with_reducible exact hrec _ _ ‹EqS S M0 _›
      | (with_reducible refine Fr_bd (fr_X11_byteAt  ‹EqS S M0 _›) fun _ _ _ => ?_)
      | (with_reducible refine fr_X11_byteAt  ‹EqS S M0 _›)
      | (with_reducible refine Fr_bd (fr_X11_one_b32 ?_ ?_ ‹EqS S M0 _›) fun _ _ _ => ?_)
      | (with_reducible refine fr_X11_one_b32 ?_ ?_ ‹EqS S M0 _›)
      | (with_reducible refine Fr_bd (fr_X11_nameOf  ‹EqS S M0 _›) fun _ _ _ => ?_)
      | (with_reducible refine fr_X11_nameOf  ‹EqS S M0 _›)
      | (with_reducible refine Fr_bd (fr_X11_one_L176 ?_ ?_ ?_ _ _ _ _ ‹EqS S M0 _›) fun _ _ _ => ?_)
      | (with_reducible refine fr_X11_one_L176 ?_ ?_ ?_ _ _ _ _ ‹EqS S M0 _›)
      | (with_reducible refine Fr_bd (fr_X11_one_b229 ?_ ?_ ‹EqS S M0 _›) fun _ _ _ => ?_)
      | (with_reducible refine fr_X11_one_b229 ?_ ?_ ‹EqS S M0 _›)
      | intro _)
theorem fr_X11_product_b85 {S : Nat → Bool} {rec : Nat → mm → Option (Int32 × mm)} {R10 : Int32 → Int32 → mm → Option (Int32 × mm)} {s0 : Int32} {M0 M : mm} (hrec : ∀ (y0 : Nat) (M_ : mm), EqS S M0 M_ → Fr S M0 (rec y0 M_)) (hR10 : ∀ (y0 : Int32) (y1 : Int32) (M_ : mm), EqS S M0 M_ → Fr S M0 (R10 y0 y1 M_)) (e : EqS S M0 M) : Fr S M0 (X11_product_b85 rec R10 s0 M) := by
  unfold X11_product_b85
  repeat' (first
      | with_reducible assumption
      | with_reducible exact Fr_none
      | (with_reducible exact Fr_some ‹EqS S M0 _›)
      | (with_reducible refine Fr_gd fun _ => ?_)
      | (with_reducible refine Fr_ite ?_ ?_)
      | (with_reducible refine Fr_opt ?_ fun _ => ?_)
      | (with_reducible refine Fr_sA ?_ ‹EqS S M0 _› fun _ _ => ?_)
      | (with_reducible refine Fr_sR0 ‹EqS S M0 _› fun _ _ => ?_)
      | (with_reducible refine Fr_sL ?_ ‹EqS S M0 _› fun _ _ => ?_)
      | (with_reducible refine Fr_lt fun _ => ?_)
      | (with_reducible refine Fr_bd (hrec _ _ ‹EqS S M0 _›) fun _ _ _ => ?_)
      | with_reducible exact hrec _ _ ‹EqS S M0 _›
      | (with_reducible refine Fr_bd (hR10 _ _ _ ‹EqS S M0 _›) fun _ _ _ => ?_)
      | with_reducible exact hR10 _ _ _ ‹EqS S M0 _›
      | (with_reducible refine Fr_bd (fr_X11_byteAt  ‹EqS S M0 _›) fun _ _ _ => ?_)
      | (with_reducible refine fr_X11_byteAt  ‹EqS S M0 _›)
      | intro _)
theorem fr_X11_product_b35 {S : Nat → Bool} {rec : Nat → mm → Option (Int32 × mm)} {R10 : Int32 → Int32 → mm → Option (Int32 × mm)} {x1 : Int32} {x2 : Int32} {M0 M : mm} (hS : ∀ k, k ∈ [82] → S k = true) (hrec : ∀ (y0 : Nat) (M_ : mm), EqS S M0 M_ → Fr S M0 (rec y0 M_)) (hR10 : ∀ (y0 : Int32) (y1 : Int32) (M_ : mm), EqS S M0 M_ → Fr S M0 (R10 y0 y1 M_)) (e : EqS S M0 M) : Fr S M0 (X11_product_b35 rec R10 x1 x2 M) := by
  unfold X11_product_b35
  repeat' (first
      | with_reducible assumption
      | with_reducible exact Fr_none
      | (with_reducible exact Fr_some ‹EqS S M0 _›)
      | (with_reducible refine Fr_gd fun _ => ?_)
      | (with_reducible refine Fr_ite ?_ ?_)
      | (with_reducible refine Fr_opt ?_ fun _ => ?_)
      | (with_reducible refine Fr_sA ?_ ‹EqS S M0 _› fun _ _ => ?_)
      | (with_reducible refine Fr_sR0 ‹EqS S M0 _› fun _ _ => ?_)
      | (with_reducible refine Fr_sL ?_ ‹EqS S M0 _› fun _ _ => ?_)
      | (with_reducible refine Fr_lt fun _ => ?_)
      | exact hS _ (by decide)
      | exact subL (by decide) hS
      | (with_reducible refine Fr_bd (hrec _ _ ‹EqS S M0 _›) fun _ _ _ => ?_)
      | with_reducible exact hrec _ _ ‹EqS S M0 _›
      | (with_reducible refine Fr_bd (hR10 _ _ _ ‹EqS S M0 _›) fun _ _ _ => ?_)
      | with_reducible exact hR10 _ _ _ ‹EqS S M0 _›
      | (with_reducible refine Fr_bd (fr_X11_product_b85 ?_ ?_ ‹EqS S M0 _›) fun _ _ _ => ?_)
      | (with_reducible refine fr_X11_product_b85 ?_ ?_ ‹EqS S M0 _›)
      | intro _)
theorem fr_X11_product_L10 {S : Nat → Bool} {rec : Nat → mm → Option (Int32 × mm)} {M0 : mm} (hS : ∀ k, k ∈ [82] → S k = true) (hrec : ∀ (y0 : Nat) (M_ : mm), EqS S M0 M_ → Fr S M0 (rec y0 M_)) : ∀ (n_ : Nat) (z1 : Int32) (z2 : Int32) (M : mm), EqS S M0 M → Fr S M0 (X11_product_L10 rec n_ z1 z2 M) := by
  intro n_
  induction n_ with
  | zero =>
    intros
    exact Fr_none
  | succ n_ ih =>
    intro z1 z2 M e
    rw [X11_product_L10]
    repeat' (first
        | with_reducible assumption
        | with_reducible exact Fr_none
        | (with_reducible exact Fr_some ‹EqS S M0 _›)
        | (with_reducible refine Fr_gd fun _ => ?_)
        | (with_reducible refine Fr_ite ?_ ?_)
        | (with_reducible refine Fr_opt ?_ fun _ => ?_)
        | (with_reducible refine Fr_sA ?_ ‹EqS S M0 _› fun _ _ => ?_)
        | (with_reducible refine Fr_sR0 ‹EqS S M0 _› fun _ _ => ?_)
        | (with_reducible refine Fr_sL ?_ ‹EqS S M0 _› fun _ _ => ?_)
        | (with_reducible refine Fr_lt fun _ => ?_)
        | exact hS _ (by decide)
        | exact subL (by decide) hS
        | (with_reducible refine Fr_bd (hrec _ _ ‹EqS S M0 _›) fun _ _ _ => ?_)
        | with_reducible exact hrec _ _ ‹EqS S M0 _›
        | (with_reducible refine Fr_bd (fr_X11_product_b35 ?_ ?_ ?_ ‹EqS S M0 _›) fun _ _ _ => ?_)
        | (with_reducible refine fr_X11_product_b35 ?_ ?_ ?_ ‹EqS S M0 _›)
        | (with_reducible refine Fr_bd (ih _ _ _ ‹EqS S M0 _›) fun _ _ _ => ?_)
        | with_reducible exact ih _ _ _ ‹EqS S M0 _›
        | intro _)
theorem fr_X11_product_B {S : Nat → Bool} {rec : Nat → mm → Option (Int32 × mm)} {M0 M : mm} (hS : ∀ k, k ∈ [82] → S k = true) (hrec : ∀ (y0 : Nat) (M_ : mm), EqS S M0 M_ → Fr S M0 (rec y0 M_)) (e : EqS S M0 M) : Fr S M0 (X11_product_B rec M) := by
  unfold X11_product_B
  repeat' (first
      | with_reducible assumption
      | with_reducible exact Fr_none
      | (with_reducible exact Fr_some ‹EqS S M0 _›)
      | (with_reducible refine Fr_gd fun _ => ?_)
      | (with_reducible refine Fr_ite ?_ ?_)
      | (with_reducible refine Fr_opt ?_ fun _ => ?_)
      | (with_reducible refine Fr_sA ?_ ‹EqS S M0 _› fun _ _ => ?_)
      | (with_reducible refine Fr_sR0 ‹EqS S M0 _› fun _ _ => ?_)
      | (with_reducible refine Fr_sL ?_ ‹EqS S M0 _› fun _ _ => ?_)
      | (with_reducible refine Fr_lt fun _ => ?_)
      | exact hS _ (by decide)
      | exact subL (by decide) hS
      | (with_reducible refine Fr_bd (hrec _ _ ‹EqS S M0 _›) fun _ _ _ => ?_)
      | with_reducible exact hrec _ _ ‹EqS S M0 _›
      | (with_reducible refine Fr_bd (fr_X11_byteAt  ‹EqS S M0 _›) fun _ _ _ => ?_)
      | (with_reducible refine fr_X11_byteAt  ‹EqS S M0 _›)
      | (with_reducible refine Fr_bd (fr_X11_product_L10 ?_ ?_ _ _ _ _ ‹EqS S M0 _›) fun _ _ _ => ?_)
      | (with_reducible refine fr_X11_product_L10 ?_ ?_ _ _ _ _ ‹EqS S M0 _›)
      | intro _)
theorem fr_X11_sums_b73 {S : Nat → Bool} {rec : Nat → mm → Option (Int32 × mm)} {R5 : Int32 → mm → Option (Int32 × mm)} {s0 : Int32} {M0 M : mm} (hrec : ∀ (y0 : Nat) (M_ : mm), EqS S M0 M_ → Fr S M0 (rec y0 M_)) (hR5 : ∀ (y0 : Int32) (M_ : mm), EqS S M0 M_ → Fr S M0 (R5 y0 M_)) (e : EqS S M0 M) : Fr S M0 (X11_sums_b73 rec R5 s0 M) := by
  unfold X11_sums_b73
  repeat' (first
      | with_reducible assumption
      | with_reducible exact Fr_none
      | (with_reducible exact Fr_some ‹EqS S M0 _›)
      | (with_reducible refine Fr_gd fun _ => ?_)
      | (with_reducible refine Fr_ite ?_ ?_)
      | (with_reducible refine Fr_opt ?_ fun _ => ?_)
      | (with_reducible refine Fr_sA ?_ ‹EqS S M0 _› fun _ _ => ?_)
      | (with_reducible refine Fr_sR0 ‹EqS S M0 _› fun _ _ => ?_)
      | (with_reducible refine Fr_sL ?_ ‹EqS S M0 _› fun _ _ => ?_)
      | (with_reducible refine Fr_lt fun _ => ?_)
      | (with_reducible refine Fr_bd (hrec _ _ ‹EqS S M0 _›) fun _ _ _ => ?_)
      | with_reducible exact hrec _ _ ‹EqS S M0 _›
      | (with_reducible refine Fr_bd (hR5 _ _ ‹EqS S M0 _›) fun _ _ _ => ?_)
      | with_reducible exact hR5 _ _ ‹EqS S M0 _›
      | intro _)
theorem fr_X11_sums_b44 {S : Nat → Bool} {rec : Nat → mm → Option (Int32 × mm)} {R5 : Int32 → mm → Option (Int32 × mm)} {x1 : Int32} {s0 : Int32} {M0 M : mm} (hS : ∀ k, k ∈ [82] → S k = true) (hrec : ∀ (y0 : Nat) (M_ : mm), EqS S M0 M_ → Fr S M0 (rec y0 M_)) (hR5 : ∀ (y0 : Int32) (M_ : mm), EqS S M0 M_ → Fr S M0 (R5 y0 M_)) (e : EqS S M0 M) : Fr S M0 (X11_sums_b44 rec R5 x1 s0 M) := by
  unfold X11_sums_b44
  repeat' (first
      | with_reducible assumption
      | with_reducible exact Fr_none
      | (with_reducible exact Fr_some ‹EqS S M0 _›)
      | (with_reducible refine Fr_gd fun _ => ?_)
      | (with_reducible refine Fr_ite ?_ ?_)
      | (with_reducible refine Fr_opt ?_ fun _ => ?_)
      | (with_reducible refine Fr_sA ?_ ‹EqS S M0 _› fun _ _ => ?_)
      | (with_reducible refine Fr_sR0 ‹EqS S M0 _› fun _ _ => ?_)
      | (with_reducible refine Fr_sL ?_ ‹EqS S M0 _› fun _ _ => ?_)
      | (with_reducible refine Fr_lt fun _ => ?_)
      | exact hS _ (by decide)
      | exact subL (by decide) hS
      | (with_reducible refine Fr_bd (hrec _ _ ‹EqS S M0 _›) fun _ _ _ => ?_)
      | with_reducible exact hrec _ _ ‹EqS S M0 _›
      | (with_reducible refine Fr_bd (hR5 _ _ ‹EqS S M0 _›) fun _ _ _ => ?_)
      | with_reducible exact hR5 _ _ ‹EqS S M0 _›
      | (with_reducible refine Fr_bd (fr_X11_sums_b73 ?_ ?_ ‹EqS S M0 _›) fun _ _ _ => ?_)
      | (with_reducible refine fr_X11_sums_b73 ?_ ?_ ‹EqS S M0 _›)
      | intro _)
theorem fr_X11_sums_b30 {S : Nat → Bool} {rec : Nat → mm → Option (Int32 × mm)} {R5 : Int32 → mm → Option (Int32 × mm)} {x1 : Int32} {M0 M : mm} (hS : ∀ k, k ∈ [82] → S k = true) (hrec : ∀ (y0 : Nat) (M_ : mm), EqS S M0 M_ → Fr S M0 (rec y0 M_)) (hR5 : ∀ (y0 : Int32) (M_ : mm), EqS S M0 M_ → Fr S M0 (R5 y0 M_)) (e : EqS S M0 M) : Fr S M0 (X11_sums_b30 rec R5 x1 M) := by
  unfold X11_sums_b30
  repeat' (first
      | with_reducible assumption
      | with_reducible exact Fr_none
      | (with_reducible exact Fr_some ‹EqS S M0 _›)
      | (with_reducible refine Fr_gd fun _ => ?_)
      | (with_reducible refine Fr_ite ?_ ?_)
      | (with_reducible refine Fr_opt ?_ fun _ => ?_)
      | (with_reducible refine Fr_sA ?_ ‹EqS S M0 _› fun _ _ => ?_)
      | (with_reducible refine Fr_sR0 ‹EqS S M0 _› fun _ _ => ?_)
      | (with_reducible refine Fr_sL ?_ ‹EqS S M0 _› fun _ _ => ?_)
      | (with_reducible refine Fr_lt fun _ => ?_)
      | exact hS _ (by decide)
      | exact subL (by decide) hS
      | (with_reducible refine Fr_bd (hrec _ _ ‹EqS S M0 _›) fun _ _ _ => ?_)
      | with_reducible exact hrec _ _ ‹EqS S M0 _›
      | (with_reducible refine Fr_bd (hR5 _ _ ‹EqS S M0 _›) fun _ _ _ => ?_)
      | with_reducible exact hR5 _ _ ‹EqS S M0 _›
      | (with_reducible refine Fr_bd (fr_X11_byteAt  ‹EqS S M0 _›) fun _ _ _ => ?_)
      | (with_reducible refine fr_X11_byteAt  ‹EqS S M0 _›)
      | (with_reducible refine Fr_bd (fr_X11_sums_b44 ?_ ?_ ?_ ‹EqS S M0 _›) fun _ _ _ => ?_)
      | (with_reducible refine fr_X11_sums_b44 ?_ ?_ ?_ ‹EqS S M0 _›)
      | intro _)
theorem fr_X11_sums_L5 {S : Nat → Bool} {rec : Nat → mm → Option (Int32 × mm)} {M0 : mm} (hS : ∀ k, k ∈ [82] → S k = true) (hrec : ∀ (y0 : Nat) (M_ : mm), EqS S M0 M_ → Fr S M0 (rec y0 M_)) : ∀ (n_ : Nat) (z1 : Int32) (M : mm), EqS S M0 M → Fr S M0 (X11_sums_L5 rec n_ z1 M) := by
  intro n_
  induction n_ with
  | zero =>
    intros
    exact Fr_none
  | succ n_ ih =>
    intro z1 M e
    rw [X11_sums_L5]
    repeat' (first
        | with_reducible assumption
        | with_reducible exact Fr_none
        | (with_reducible exact Fr_some ‹EqS S M0 _›)
        | (with_reducible refine Fr_gd fun _ => ?_)
        | (with_reducible refine Fr_ite ?_ ?_)
        | (with_reducible refine Fr_opt ?_ fun _ => ?_)
        | (with_reducible refine Fr_sA ?_ ‹EqS S M0 _› fun _ _ => ?_)
        | (with_reducible refine Fr_sR0 ‹EqS S M0 _› fun _ _ => ?_)
        | (with_reducible refine Fr_sL ?_ ‹EqS S M0 _› fun _ _ => ?_)
        | (with_reducible refine Fr_lt fun _ => ?_)
        | exact hS _ (by decide)
        | exact subL (by decide) hS
        | (with_reducible refine Fr_bd (hrec _ _ ‹EqS S M0 _›) fun _ _ _ => ?_)
        | with_reducible exact hrec _ _ ‹EqS S M0 _›
        | (with_reducible refine Fr_bd (fr_X11_byteAt  ‹EqS S M0 _›) fun _ _ _ => ?_)
        | (with_reducible refine fr_X11_byteAt  ‹EqS S M0 _›)
        | (with_reducible refine Fr_bd (fr_X11_sums_b30 ?_ ?_ ?_ ‹EqS S M0 _›) fun _ _ _ => ?_)
        | (with_reducible refine fr_X11_sums_b30 ?_ ?_ ?_ ‹EqS S M0 _›)
        | (with_reducible refine Fr_bd (ih _ _ ‹EqS S M0 _›) fun _ _ _ => ?_)
        | with_reducible exact ih _ _ ‹EqS S M0 _›
        | intro _)
theorem fr_X11_sums_B {S : Nat → Bool} {rec : Nat → mm → Option (Int32 × mm)} {M0 M : mm} (hS : ∀ k, k ∈ [82] → S k = true) (hrec : ∀ (y0 : Nat) (M_ : mm), EqS S M0 M_ → Fr S M0 (rec y0 M_)) (e : EqS S M0 M) : Fr S M0 (X11_sums_B rec M) := by
  unfold X11_sums_B
  repeat' (first
      | with_reducible assumption
      | with_reducible exact Fr_none
      | (with_reducible exact Fr_some ‹EqS S M0 _›)
      | (with_reducible refine Fr_gd fun _ => ?_)
      | (with_reducible refine Fr_ite ?_ ?_)
      | (with_reducible refine Fr_opt ?_ fun _ => ?_)
      | (with_reducible refine Fr_sA ?_ ‹EqS S M0 _› fun _ _ => ?_)
      | (with_reducible refine Fr_sR0 ‹EqS S M0 _› fun _ _ => ?_)
      | (with_reducible refine Fr_sL ?_ ‹EqS S M0 _› fun _ _ => ?_)
      | (with_reducible refine Fr_lt fun _ => ?_)
      | exact hS _ (by decide)
      | exact subL (by decide) hS
      | (with_reducible refine Fr_bd (hrec _ _ ‹EqS S M0 _›) fun _ _ _ => ?_)
      | with_reducible exact hrec _ _ ‹EqS S M0 _›
      | (with_reducible refine Fr_bd (fr_X11_sums_L5 ?_ ?_ _ _ _ ‹EqS S M0 _›) fun _ _ _ => ?_)
      | (with_reducible refine fr_X11_sums_L5 ?_ ?_ _ _ _ ‹EqS S M0 _›)
      | intro _)
theorem fr_G_X11_both {S : Nat → Bool}  {M0 : mm} (hS : ∀ k, k ∈ [82] → S k = true) : ∀ (n_ : Nat) (z1 : Nat) (M : mm), EqS S M0 M → Fr S M0 (G_X11_both  n_ z1 M) := by
  intro n_
  induction n_ with
  | zero =>
    intros
    exact Fr_none
  | succ n_ ih =>
    intro z1 M e
    unfold G_X11_both
    repeat' (first
        | with_reducible assumption
        | with_reducible exact Fr_none
        | (with_reducible exact Fr_some ‹EqS S M0 _›)
        | (with_reducible refine Fr_gd fun _ => ?_)
        | (with_reducible refine Fr_ite ?_ ?_)
        | (with_reducible refine Fr_opt ?_ fun _ => ?_)
        | (with_reducible refine Fr_sA ?_ ‹EqS S M0 _› fun _ _ => ?_)
        | (with_reducible refine Fr_sR0 ‹EqS S M0 _› fun _ _ => ?_)
        | (with_reducible refine Fr_sL ?_ ‹EqS S M0 _› fun _ _ => ?_)
        | (with_reducible refine Fr_lt fun _ => ?_)
        | exact hS _ (by decide)
        | exact subL (by decide) hS
        | (with_reducible refine Fr_bd (fr_X11_both_B ?_ ?_ ‹EqS S M0 _›) fun _ _ _ => ?_)
        | (with_reducible refine fr_X11_both_B ?_ ?_ ‹EqS S M0 _›)
        | (with_reducible refine Fr_bd (fr_X11_compared_B ?_ ?_ ‹EqS S M0 _›) fun _ _ _ => ?_)
        | (with_reducible refine fr_X11_compared_B ?_ ?_ ‹EqS S M0 _›)
        | (with_reducible refine Fr_bd (fr_X11_either_B ?_ ?_ ‹EqS S M0 _›) fun _ _ _ => ?_)
        | (with_reducible refine fr_X11_either_B ?_ ?_ ‹EqS S M0 _›)
        | (with_reducible refine Fr_bd (fr_X11_one_B ?_ ?_ ‹EqS S M0 _›) fun _ _ _ => ?_)
        | (with_reducible refine fr_X11_one_B ?_ ?_ ‹EqS S M0 _›)
        | (with_reducible refine Fr_bd (fr_X11_product_B ?_ ?_ ‹EqS S M0 _›) fun _ _ _ => ?_)
        | (with_reducible refine fr_X11_product_B ?_ ?_ ‹EqS S M0 _›)
        | (with_reducible refine Fr_bd (fr_X11_sums_B ?_ ?_ ‹EqS S M0 _›) fun _ _ _ => ?_)
        | (with_reducible refine fr_X11_sums_B ?_ ?_ ‹EqS S M0 _›)
        | (with_reducible refine Fr_bd (ih _ _ ‹EqS S M0 _›) fun _ _ _ => ?_)
        | with_reducible exact ih _ _ ‹EqS S M0 _›
        | split
        | intro _)
theorem fr_X11_both {S : Nat → Bool}  {M0 M : mm} (hS : ∀ k, k ∈ [82] → S k = true) (e : EqS S M0 M) : Fr S M0 (X11_both  M) := by
  unfold X11_both
  repeat' (first
      | with_reducible assumption
      | with_reducible exact Fr_none
      | (with_reducible exact Fr_some ‹EqS S M0 _›)
      | (with_reducible refine Fr_gd fun _ => ?_)
      | (with_reducible refine Fr_ite ?_ ?_)
      | (with_reducible refine Fr_opt ?_ fun _ => ?_)
      | (with_reducible refine Fr_sA ?_ ‹EqS S M0 _› fun _ _ => ?_)
      | (with_reducible refine Fr_sR0 ‹EqS S M0 _› fun _ _ => ?_)
      | (with_reducible refine Fr_sL ?_ ‹EqS S M0 _› fun _ _ => ?_)
      | (with_reducible refine Fr_lt fun _ => ?_)
      | exact hS _ (by decide)
      | exact subL (by decide) hS
      | (with_reducible refine Fr_bd (fr_G_X11_both ?_ _ _ _ ‹EqS S M0 _›) fun _ _ _ => ?_)
      | (with_reducible refine fr_G_X11_both ?_ _ _ _ ‹EqS S M0 _›)
      | intro _)
theorem fr_X11_compared {S : Nat → Bool}  {M0 M : mm} (hS : ∀ k, k ∈ [82] → S k = true) (e : EqS S M0 M) : Fr S M0 (X11_compared  M) := by
  unfold X11_compared
  repeat' (first
      | with_reducible assumption
      | with_reducible exact Fr_none
      | (with_reducible exact Fr_some ‹EqS S M0 _›)
      | (with_reducible refine Fr_gd fun _ => ?_)
      | (with_reducible refine Fr_ite ?_ ?_)
      | (with_reducible refine Fr_opt ?_ fun _ => ?_)
      | (with_reducible refine Fr_sA ?_ ‹EqS S M0 _› fun _ _ => ?_)
      | (with_reducible refine Fr_sR0 ‹EqS S M0 _› fun _ _ => ?_)
      | (with_reducible refine Fr_sL ?_ ‹EqS S M0 _› fun _ _ => ?_)
      | (with_reducible refine Fr_lt fun _ => ?_)
      | exact hS _ (by decide)
      | exact subL (by decide) hS
      | (with_reducible refine Fr_bd (fr_G_X11_both ?_ _ _ _ ‹EqS S M0 _›) fun _ _ _ => ?_)
      | (with_reducible refine fr_G_X11_both ?_ _ _ _ ‹EqS S M0 _›)
      | intro _)
theorem fr_X11_either {S : Nat → Bool}  {M0 M : mm} (hS : ∀ k, k ∈ [82] → S k = true) (e : EqS S M0 M) : Fr S M0 (X11_either  M) := by
  unfold X11_either
  repeat' (first
      | with_reducible assumption
      | with_reducible exact Fr_none
      | (with_reducible exact Fr_some ‹EqS S M0 _›)
      | (with_reducible refine Fr_gd fun _ => ?_)
      | (with_reducible refine Fr_ite ?_ ?_)
      | (with_reducible refine Fr_opt ?_ fun _ => ?_)
      | (with_reducible refine Fr_sA ?_ ‹EqS S M0 _› fun _ _ => ?_)
      | (with_reducible refine Fr_sR0 ‹EqS S M0 _› fun _ _ => ?_)
      | (with_reducible refine Fr_sL ?_ ‹EqS S M0 _› fun _ _ => ?_)
      | (with_reducible refine Fr_lt fun _ => ?_)
      | exact hS _ (by decide)
      | exact subL (by decide) hS
      | (with_reducible refine Fr_bd (fr_G_X11_both ?_ _ _ _ ‹EqS S M0 _›) fun _ _ _ => ?_)
      | (with_reducible refine fr_G_X11_both ?_ _ _ _ ‹EqS S M0 _›)
      | intro _)
theorem fr_X11_one {S : Nat → Bool}  {M0 M : mm} (hS : ∀ k, k ∈ [82] → S k = true) (e : EqS S M0 M) : Fr S M0 (X11_one  M) := by
  unfold X11_one
  repeat' (first
      | with_reducible assumption
      | with_reducible exact Fr_none
      | (with_reducible exact Fr_some ‹EqS S M0 _›)
      | (with_reducible refine Fr_gd fun _ => ?_)
      | (with_reducible refine Fr_ite ?_ ?_)
      | (with_reducible refine Fr_opt ?_ fun _ => ?_)
      | (with_reducible refine Fr_sA ?_ ‹EqS S M0 _› fun _ _ => ?_)
      | (with_reducible refine Fr_sR0 ‹EqS S M0 _› fun _ _ => ?_)
      | (with_reducible refine Fr_sL ?_ ‹EqS S M0 _› fun _ _ => ?_)
      | (with_reducible refine Fr_lt fun _ => ?_)
      | exact hS _ (by decide)
      | exact subL (by decide) hS
      | (with_reducible refine Fr_bd (fr_G_X11_both ?_ _ _ _ ‹EqS S M0 _›) fun _ _ _ => ?_)
      | (with_reducible refine fr_G_X11_both ?_ _ _ _ ‹EqS S M0 _›)
      | intro _)
theorem fr_X11_product {S : Nat → Bool}  {M0 M : mm} (hS : ∀ k, k ∈ [82] → S k = true) (e : EqS S M0 M) : Fr S M0 (X11_product  M) := by
  unfold X11_product
  repeat' (first
      | with_reducible assumption
      | with_reducible exact Fr_none
      | (with_reducible exact Fr_some ‹EqS S M0 _›)
      | (with_reducible refine Fr_gd fun _ => ?_)
      | (with_reducible refine Fr_ite ?_ ?_)
      | (with_reducible refine Fr_opt ?_ fun _ => ?_)
      | (with_reducible refine Fr_sA ?_ ‹EqS S M0 _› fun _ _ => ?_)
      | (with_reducible refine Fr_sR0 ‹EqS S M0 _› fun _ _ => ?_)
      | (with_reducible refine Fr_sL ?_ ‹EqS S M0 _› fun _ _ => ?_)
      | (with_reducible refine Fr_lt fun _ => ?_)
      | exact hS _ (by decide)
      | exact subL (by decide) hS
      | (with_reducible refine Fr_bd (fr_G_X11_both ?_ _ _ _ ‹EqS S M0 _›) fun _ _ _ => ?_)
      | (with_reducible refine fr_G_X11_both ?_ _ _ _ ‹EqS S M0 _›)
      | intro _)
theorem fr_X11_sums {S : Nat → Bool}  {M0 M : mm} (hS : ∀ k, k ∈ [82] → S k = true) (e : EqS S M0 M) : Fr S M0 (X11_sums  M) := by
  unfold X11_sums
  repeat' (first
      | with_reducible assumption
      | with_reducible exact Fr_none
      | (with_reducible exact Fr_some ‹EqS S M0 _›)
      | (with_reducible refine Fr_gd fun _ => ?_)
      | (with_reducible refine Fr_ite ?_ ?_)
      | (with_reducible refine Fr_opt ?_ fun _ => ?_)
      | (with_reducible refine Fr_sA ?_ ‹EqS S M0 _› fun _ _ => ?_)
      | (with_reducible refine Fr_sR0 ‹EqS S M0 _› fun _ _ => ?_)
      | (with_reducible refine Fr_sL ?_ ‹EqS S M0 _› fun _ _ => ?_)
      | (with_reducible refine Fr_lt fun _ => ?_)
      | exact hS _ (by decide)
      | exact subL (by decide) hS
      | (with_reducible refine Fr_bd (fr_G_X11_both ?_ _ _ _ ‹EqS S M0 _›) fun _ _ _ => ?_)
      | (with_reducible refine fr_G_X11_both ?_ _ _ _ ‹EqS S M0 _›)
      | intro _)
theorem fr_X11_workOut_b96 {S : Nat → Bool} {a1 : Int32} {a2 : Int32} {R33 : Int32 → Int32 → Int32 → mm → Option (Int32 × mm)} {K107 : Int32 → mm → Option (Int32 × mm)} {x3 : Int32} {x4 : Int32} {M0 M : mm} (hS : ∀ k, k ∈ [82] → S k = true) (hR33 : ∀ (y0 : Int32) (y1 : Int32) (y2 : Int32) (M_ : mm), EqS S M0 M_ → Fr S M0 (R33 y0 y1 y2 M_)) (hK107 : ∀ (y0 : Int32) (M_ : mm), EqS S M0 M_ → Fr S M0 (K107 y0 M_)) (e : EqS S M0 M) : Fr S M0 (X11_workOut_b96 a1 a2 R33 K107 x3 x4 M) := by
  unfold X11_workOut_b96
  repeat' (first
      | with_reducible assumption
      | with_reducible exact Fr_none
      | (with_reducible exact Fr_some ‹EqS S M0 _›)
      | (with_reducible refine Fr_gd fun _ => ?_)
      | (with_reducible refine Fr_ite ?_ ?_)
      | (with_reducible refine Fr_opt ?_ fun _ => ?_)
      | (with_reducible refine Fr_sA ?_ ‹EqS S M0 _› fun _ _ => ?_)
      | (with_reducible refine Fr_sR0 ‹EqS S M0 _› fun _ _ => ?_)
      | (with_reducible refine Fr_sL ?_ ‹EqS S M0 _› fun _ _ => ?_)
      | (with_reducible refine Fr_lt fun _ => ?_)
      | exact hS _ (by decide)
      | exact subL (by decide) hS
      | (with_reducible refine Fr_bd (hR33 _ _ _ _ ‹EqS S M0 _›) fun _ _ _ => ?_)
      | with_reducible exact hR33 _ _ _ _ ‹EqS S M0 _›
      | (with_reducible refine Fr_bd (hK107 _ _ ‹EqS S M0 _›) fun _ _ _ => ?_)
      | with_reducible exact hK107 _ _ ‹EqS S M0 _›
      | (with_reducible refine Fr_bd (fr_X11_takes ?_ ‹EqS S M0 _›) fun _ _ _ => ?_)
      | (with_reducible refine fr_X11_takes ?_ ‹EqS S M0 _›)
      | intro _)
theorem fr_X11_workOut_b74 {S : Nat → Bool} {a1 : Int32} {a2 : Int32} {R33 : Int32 → Int32 → Int32 → mm → Option (Int32 × mm)} {K107 : Int32 → mm → Option (Int32 × mm)} {x3 : Int32} {x4 : Int32} {x6 : Int32} {x7 : Int32} {M0 M : mm} (hS : ∀ k, k ∈ [82] → S k = true) (hR33 : ∀ (y0 : Int32) (y1 : Int32) (y2 : Int32) (M_ : mm), EqS S M0 M_ → Fr S M0 (R33 y0 y1 y2 M_)) (hK107 : ∀ (y0 : Int32) (M_ : mm), EqS S M0 M_ → Fr S M0 (K107 y0 M_)) (e : EqS S M0 M) : Fr S M0 (X11_workOut_b74 a1 a2 R33 K107 x3 x4 x6 x7 M) := by
  unfold X11_workOut_b74
  repeat' (first
      | with_reducible assumption
      | with_reducible exact Fr_none
      | (with_reducible exact Fr_some ‹EqS S M0 _›)
      | (with_reducible refine Fr_gd fun _ => ?_)
      | (with_reducible refine Fr_ite ?_ ?_)
      | (with_reducible refine Fr_opt ?_ fun _ => ?_)
      | (with_reducible refine Fr_sA ?_ ‹EqS S M0 _› fun _ _ => ?_)
      | (with_reducible refine Fr_sR0 ‹EqS S M0 _› fun _ _ => ?_)
      | (with_reducible refine Fr_sL ?_ ‹EqS S M0 _› fun _ _ => ?_)
      | (with_reducible refine Fr_lt fun _ => ?_)
      | exact hS _ (by decide)
      | exact subL (by decide) hS
      | (with_reducible refine Fr_bd (hR33 _ _ _ _ ‹EqS S M0 _›) fun _ _ _ => ?_)
      | with_reducible exact hR33 _ _ _ _ ‹EqS S M0 _›
      | (with_reducible refine Fr_bd (hK107 _ _ ‹EqS S M0 _›) fun _ _ _ => ?_)
      | with_reducible exact hK107 _ _ ‹EqS S M0 _›
      | (with_reducible refine Fr_bd (fr_X11_workOut_b96 ?_ ?_ ?_ ‹EqS S M0 _›) fun _ _ _ => ?_)
      | (with_reducible refine fr_X11_workOut_b96 ?_ ?_ ?_ ‹EqS S M0 _›)
      | intro _)
theorem fr_X11_workOut_b66 {S : Nat → Bool} {a1 : Int32} {a2 : Int32} {R33 : Int32 → Int32 → Int32 → mm → Option (Int32 × mm)} {K107 : Int32 → mm → Option (Int32 × mm)} {x3 : Int32} {x4 : Int32} {s0 : Int32} {M0 M : mm} (hS : ∀ k, k ∈ [82] → S k = true) (hR33 : ∀ (y0 : Int32) (y1 : Int32) (y2 : Int32) (M_ : mm), EqS S M0 M_ → Fr S M0 (R33 y0 y1 y2 M_)) (hK107 : ∀ (y0 : Int32) (M_ : mm), EqS S M0 M_ → Fr S M0 (K107 y0 M_)) (e : EqS S M0 M) : Fr S M0 (X11_workOut_b66 a1 a2 R33 K107 x3 x4 s0 M) := by
  unfold X11_workOut_b66
  repeat' (first
      | with_reducible assumption
      | with_reducible exact Fr_none
      | (with_reducible exact Fr_some ‹EqS S M0 _›)
      | (with_reducible refine Fr_gd fun _ => ?_)
      | (with_reducible refine Fr_ite ?_ ?_)
      | (with_reducible refine Fr_opt ?_ fun _ => ?_)
      | (with_reducible refine Fr_sA ?_ ‹EqS S M0 _› fun _ _ => ?_)
      | (with_reducible refine Fr_sR0 ‹EqS S M0 _› fun _ _ => ?_)
      | (with_reducible refine Fr_sL ?_ ‹EqS S M0 _› fun _ _ => ?_)
      | (with_reducible refine Fr_lt fun _ => ?_)
      | exact hS _ (by decide)
      | exact subL (by decide) hS
      | (with_reducible refine Fr_bd (hR33 _ _ _ _ ‹EqS S M0 _›) fun _ _ _ => ?_)
      | with_reducible exact hR33 _ _ _ _ ‹EqS S M0 _›
      | (with_reducible refine Fr_bd (hK107 _ _ ‹EqS S M0 _›) fun _ _ _ => ?_)
      | with_reducible exact hK107 _ _ ‹EqS S M0 _›
      | (with_reducible refine Fr_bd (fr_X11_either ?_ ‹EqS S M0 _›) fun _ _ _ => ?_)
      | (with_reducible refine fr_X11_either ?_ ‹EqS S M0 _›)
      | (with_reducible refine Fr_bd (fr_X11_workOut_b74 ?_ ?_ ?_ ‹EqS S M0 _›) fun _ _ _ => ?_)
      | (with_reducible refine fr_X11_workOut_b74 ?_ ?_ ?_ ‹EqS S M0 _›)
      | intro _)
theorem fr_X11_workOut_L33 {S : Nat → Bool} {a1 : Int32} {a2 : Int32} {K107 : Int32 → mm → Option (Int32 × mm)} {M0 : mm} (hS : ∀ k, k ∈ [82] → S k = true) (hK107 : ∀ (y0 : Int32) (M_ : mm), EqS S M0 M_ → Fr S M0 (K107 y0 M_)) : ∀ (n_ : Nat) (z1 : Int32) (z2 : Int32) (z3 : Int32) (M : mm), EqS S M0 M → Fr S M0 (X11_workOut_L33 a1 a2 K107 n_ z1 z2 z3 M) := by
  intro n_
  induction n_ with
  | zero =>
    intros
    exact Fr_none
  | succ n_ ih =>
    intro z1 z2 z3 M e
    rw [X11_workOut_L33]
    repeat' (first
        | with_reducible assumption
        | with_reducible exact Fr_none
        | (with_reducible exact Fr_some ‹EqS S M0 _›)
        | (with_reducible refine Fr_gd fun _ => ?_)
        | (with_reducible refine Fr_ite ?_ ?_)
        | (with_reducible refine Fr_opt ?_ fun _ => ?_)
        | (with_reducible refine Fr_sA ?_ ‹EqS S M0 _› fun _ _ => ?_)
        | (with_reducible refine Fr_sR0 ‹EqS S M0 _› fun _ _ => ?_)
        | (with_reducible refine Fr_sL ?_ ‹EqS S M0 _› fun _ _ => ?_)
        | (with_reducible refine Fr_lt fun _ => ?_)
        | exact hS _ (by decide)
        | exact subL (by decide) hS
        | (with_reducible refine Fr_bd (hK107 _ _ ‹EqS S M0 _›) fun _ _ _ => ?_)
        | with_reducible exact hK107 _ _ ‹EqS S M0 _›
        | (with_reducible refine Fr_bd (fr_X11_either ?_ ‹EqS S M0 _›) fun _ _ _ => ?_)
        | (with_reducible refine fr_X11_either ?_ ‹EqS S M0 _›)
        | (with_reducible refine Fr_bd (fr_X11_takes ?_ ‹EqS S M0 _›) fun _ _ _ => ?_)
        | (with_reducible refine fr_X11_takes ?_ ‹EqS S M0 _›)
        | (with_reducible refine Fr_bd (fr_X11_workOut_b74 ?_ ?_ ?_ ‹EqS S M0 _›) fun _ _ _ => ?_)
        | (with_reducible refine fr_X11_workOut_b74 ?_ ?_ ?_ ‹EqS S M0 _›)
        | (with_reducible refine Fr_bd (fr_X11_workOut_b66 ?_ ?_ ?_ ‹EqS S M0 _›) fun _ _ _ => ?_)
        | (with_reducible refine fr_X11_workOut_b66 ?_ ?_ ?_ ‹EqS S M0 _›)
        | (with_reducible refine Fr_bd (ih _ _ _ _ ‹EqS S M0 _›) fun _ _ _ => ?_)
        | with_reducible exact ih _ _ _ _ ‹EqS S M0 _›
        | intro _)
theorem fr_X11_workOut {S : Nat → Bool} {a1 : Int32} {a2 : Int32} {M0 M : mm} (hS : ∀ k, k ∈ [82] → S k = true) (e : EqS S M0 M) : Fr S M0 (X11_workOut a1 a2 M) := by
  unfold X11_workOut
  repeat' (first
      | with_reducible assumption
      | with_reducible exact Fr_none
      | (with_reducible exact Fr_some ‹EqS S M0 _›)
      | (with_reducible refine Fr_gd fun _ => ?_)
      | (with_reducible refine Fr_ite ?_ ?_)
      | (with_reducible refine Fr_opt ?_ fun _ => ?_)
      | (with_reducible refine Fr_sA ?_ ‹EqS S M0 _› fun _ _ => ?_)
      | (with_reducible refine Fr_sR0 ‹EqS S M0 _› fun _ _ => ?_)
      | (with_reducible refine Fr_sL ?_ ‹EqS S M0 _› fun _ _ => ?_)
      | (with_reducible refine Fr_lt fun _ => ?_)
      | exact hS _ (by decide)
      | exact subL (by decide) hS
      | (with_reducible refine Fr_bd (fr_X11_workOut_L33 ?_ ?_ _ _ _ _ _ ‹EqS S M0 _›) fun _ _ _ => ?_)
      | (with_reducible refine fr_X11_workOut_L33 ?_ ?_ _ _ _ _ _ ‹EqS S M0 _›)
      | (with_reducible refine Fr_bd (fr_X11_wrong ?_ ‹EqS S M0 _›) fun _ _ _ => ?_)
      | (with_reducible refine fr_X11_wrong ?_ ‹EqS S M0 _›)
      | intro _)
theorem fr_X11_numberOf_b55 {S : Nat → Bool} {a1 : Int32} {a2 : Int32} {a3 : Int32} {a4 : Int32} {x5 : Int32} {M0 M : mm}  (e : EqS S M0 M) : Fr S M0 (X11_numberOf_b55 a1 a2 a3 a4 x5 M) := by
  unfold X11_numberOf_b55
  repeat' (first
      | with_reducible assumption
      | with_reducible exact Fr_none
      | (with_reducible exact Fr_some ‹EqS S M0 _›)
      | (with_reducible refine Fr_gd fun _ => ?_)
      | (with_reducible refine Fr_ite ?_ ?_)
      | (with_reducible refine Fr_opt ?_ fun _ => ?_)
      | (with_reducible refine Fr_sA ?_ ‹EqS S M0 _› fun _ _ => ?_)
      | (with_reducible refine Fr_sR0 ‹EqS S M0 _› fun _ _ => ?_)
      | (with_reducible refine Fr_sL ?_ ‹EqS S M0 _› fun _ _ => ?_)
      | (with_reducible refine Fr_lt fun _ => ?_)
      | intro _)
theorem fr_X11_numberOf {S : Nat → Bool} {a1 : Int32} {a2 : Int32} {a3 : Int32} {a4 : Int32} {M0 M : mm} (hS : ∀ k, k ∈ [82, 100] → S k = true) (e : EqS S M0 M) : Fr S M0 (X11_numberOf a1 a2 a3 a4 M) := by
  unfold X11_numberOf
  repeat' (first
      | with_reducible assumption
      | with_reducible exact Fr_none
      | (with_reducible exact Fr_some ‹EqS S M0 _›)
      | (with_reducible refine Fr_gd fun _ => ?_)
      | (with_reducible refine Fr_ite ?_ ?_)
      | (with_reducible refine Fr_opt ?_ fun _ => ?_)
      | (with_reducible refine Fr_sA ?_ ‹EqS S M0 _› fun _ _ => ?_)
      | (with_reducible refine Fr_sR0 ‹EqS S M0 _› fun _ _ => ?_)
      | (with_reducible refine Fr_sL ?_ ‹EqS S M0 _› fun _ _ => ?_)
      | (with_reducible refine Fr_lt fun _ => ?_)
      | exact hS _ (by decide)
      | exact subL (by decide) hS
      | (with_reducible refine Fr_bd (fr_X11_numberOf_b55  ‹EqS S M0 _›) fun _ _ _ => ?_)
      | (with_reducible refine fr_X11_numberOf_b55  ‹EqS S M0 _›)
      | (with_reducible refine Fr_bd (fr_X11_workOut ?_ ‹EqS S M0 _›) fun _ _ _ => ?_)
      | (with_reducible refine fr_X11_workOut ?_ ‹EqS S M0 _›)
      | intro _)
theorem fr_X11_ofThing_b152 {S : Nat → Bool} {a1 : Int32} {a2 : Int32} {s1 : Int32} {s2 : Int32} {s3 : Int32} {s4 : Int32} {M0 M : mm} (hS : ∀ k, k ∈ [82, 100] → S k = true) (e : EqS S M0 M) : Fr S M0 (X11_ofThing_b152 a1 a2 s1 s2 s3 s4 M) := by
  unfold X11_ofThing_b152
  repeat' (first
      | with_reducible assumption
      | with_reducible exact Fr_none
      | (with_reducible exact Fr_some ‹EqS S M0 _›)
      | (with_reducible refine Fr_gd fun _ => ?_)
      | (with_reducible refine Fr_ite ?_ ?_)
      | (with_reducible refine Fr_opt ?_ fun _ => ?_)
      | (with_reducible refine Fr_sA ?_ ‹EqS S M0 _› fun _ _ => ?_)
      | (with_reducible refine Fr_sR0 ‹EqS S M0 _› fun _ _ => ?_)
      | (with_reducible refine Fr_sL ?_ ‹EqS S M0 _› fun _ _ => ?_)
      | (with_reducible refine Fr_lt fun _ => ?_)
      | exact hS _ (by decide)
      | exact subL (by decide) hS
      | (with_reducible refine Fr_bd (fr_X11_numberOf ?_ ‹EqS S M0 _›) fun _ _ _ => ?_)
      | (with_reducible refine fr_X11_numberOf ?_ ‹EqS S M0 _›)
      | intro _)
theorem fr_X11_ofThing {S : Nat → Bool} {a1 : Int32} {a2 : Int32} {M0 M : mm} (hS : ∀ k, k ∈ [82, 100] → S k = true) (e : EqS S M0 M) : Fr S M0 (X11_ofThing a1 a2 M) := by
  unfold X11_ofThing
  repeat' (first
      | with_reducible assumption
      | with_reducible exact Fr_none
      | (with_reducible exact Fr_some ‹EqS S M0 _›)
      | (with_reducible refine Fr_gd fun _ => ?_)
      | (with_reducible refine Fr_ite ?_ ?_)
      | (with_reducible refine Fr_opt ?_ fun _ => ?_)
      | (with_reducible refine Fr_sA ?_ ‹EqS S M0 _› fun _ _ => ?_)
      | (with_reducible refine Fr_sR0 ‹EqS S M0 _› fun _ _ => ?_)
      | (with_reducible refine Fr_sL ?_ ‹EqS S M0 _› fun _ _ => ?_)
      | (with_reducible refine Fr_lt fun _ => ?_)
      | exact hS _ (by decide)
      | exact subL (by decide) hS
      | (with_reducible refine Fr_bd (fr_X11_ofThing_b152 ?_ ‹EqS S M0 _›) fun _ _ _ => ?_)
      | (with_reducible refine fr_X11_ofThing_b152 ?_ ‹EqS S M0 _›)
      | intro _)
theorem fr_X11_of {S : Nat → Bool} {a1 : Int32} {a2 : Int32} {M0 M : mm} (hS : ∀ k, k ∈ [82, 100] → S k = true) (e : EqS S M0 M) : Fr S M0 (X11_of a1 a2 M) := by
  unfold X11_of
  repeat' (first
      | with_reducible assumption
      | with_reducible exact Fr_none
      | (with_reducible exact Fr_some ‹EqS S M0 _›)
      | (with_reducible refine Fr_gd fun _ => ?_)
      | (with_reducible refine Fr_ite ?_ ?_)
      | (with_reducible refine Fr_opt ?_ fun _ => ?_)
      | (with_reducible refine Fr_sA ?_ ‹EqS S M0 _› fun _ _ => ?_)
      | (with_reducible refine Fr_sR0 ‹EqS S M0 _› fun _ _ => ?_)
      | (with_reducible refine Fr_sL ?_ ‹EqS S M0 _› fun _ _ => ?_)
      | (with_reducible refine Fr_lt fun _ => ?_)
      | exact hS _ (by decide)
      | exact subL (by decide) hS
      | (with_reducible refine Fr_bd (fr_X11_within  ‹EqS S M0 _›) fun _ _ _ => ?_)
      | (with_reducible refine fr_X11_within  ‹EqS S M0 _›)
      | (with_reducible refine Fr_bd (fr_X11_isThing  ‹EqS S M0 _›) fun _ _ _ => ?_)
      | (with_reducible refine fr_X11_isThing  ‹EqS S M0 _›)
      | (with_reducible refine Fr_bd (fr_X11_ofThing ?_ ‹EqS S M0 _›) fun _ _ _ => ?_)
      | (with_reducible refine fr_X11_ofThing ?_ ‹EqS S M0 _›)
      | (with_reducible refine Fr_bd (fr_X11_isPerson  ‹EqS S M0 _›) fun _ _ _ => ?_)
      | (with_reducible refine fr_X11_isPerson  ‹EqS S M0 _›)
      | (with_reducible refine Fr_bd (fr_X11_ofPerson  ‹EqS S M0 _›) fun _ _ _ => ?_)
      | (with_reducible refine fr_X11_ofPerson  ‹EqS S M0 _›)
      | intro _)
theorem fr_X11_feed {S : Nat → Bool} {a1 : Int32} {M0 M : mm} (hS : ∀ k, k ∈ [82, 98] → S k = true) (e : EqS S M0 M) : Fr S M0 (X11_feed a1 M) := by
  unfold X11_feed
  repeat' (first
      | with_reducible assumption
      | with_reducible exact Fr_none
      | (with_reducible exact Fr_some ‹EqS S M0 _›)
      | (with_reducible refine Fr_gd fun _ => ?_)
      | (with_reducible refine Fr_ite ?_ ?_)
      | (with_reducible refine Fr_opt ?_ fun _ => ?_)
      | (with_reducible refine Fr_sA ?_ ‹EqS S M0 _› fun _ _ => ?_)
      | (with_reducible refine Fr_sR0 ‹EqS S M0 _› fun _ _ => ?_)
      | (with_reducible refine Fr_sL ?_ ‹EqS S M0 _› fun _ _ => ?_)
      | (with_reducible refine Fr_lt fun _ => ?_)
      | exact hS _ (by decide)
      | exact subL (by decide) hS
      | (with_reducible refine Fr_bd (fr_X11_within  ‹EqS S M0 _›) fun _ _ _ => ?_)
      | (with_reducible refine fr_X11_within  ‹EqS S M0 _›)
      | intro _)
theorem fr_X11_law_L37 {S : Nat → Bool} {K60 : Int32 → mm → Option (Int32 × mm)} {M0 : mm} (hS : ∀ k, k ∈ [99] → S k = true) (hK60 : ∀ (y0 : Int32) (M_ : mm), EqS S M0 M_ → Fr S M0 (K60 y0 M_)) : ∀ (n_ : Nat) (z1 : Int32) (z2 : Int32) (M : mm), EqS S M0 M → Fr S M0 (X11_law_L37 K60 n_ z1 z2 M) := by
  intro n_
  induction n_ with
  | zero =>
    intros
    exact Fr_none
  | succ n_ ih =>
    intro z1 z2 M e
    rw [X11_law_L37]
    repeat' (first
        | with_reducible assumption
        | with_reducible exact Fr_none
        | (with_reducible exact Fr_some ‹EqS S M0 _›)
        | (with_reducible refine Fr_gd fun _ => ?_)
        | (with_reducible refine Fr_ite ?_ ?_)
        | (with_reducible refine Fr_opt ?_ fun _ => ?_)
        | (with_reducible refine Fr_sA ?_ ‹EqS S M0 _› fun _ _ => ?_)
        | (with_reducible refine Fr_sR0 ‹EqS S M0 _› fun _ _ => ?_)
        | (with_reducible refine Fr_sL ?_ ‹EqS S M0 _› fun _ _ => ?_)
        | (with_reducible refine Fr_lt fun _ => ?_)
        | exact hS _ (by decide)
        | exact subL (by decide) hS
        | (with_reducible refine Fr_bd (hK60 _ _ ‹EqS S M0 _›) fun _ _ _ => ?_)
        | with_reducible exact hK60 _ _ ‹EqS S M0 _›
        | (with_reducible refine Fr_bd (ih _ _ _ ‹EqS S M0 _›) fun _ _ _ => ?_)
        | with_reducible exact ih _ _ _ ‹EqS S M0 _›
        | intro _)
theorem fr_X11_law {S : Nat → Bool}  {M0 M : mm} (hS : ∀ k, k ∈ [82, 99] → S k = true) (e : EqS S M0 M) : Fr S M0 (X11_law  M) := by
  unfold X11_law
  repeat' (first
      | with_reducible assumption
      | with_reducible exact Fr_none
      | (with_reducible exact Fr_some ‹EqS S M0 _›)
      | (with_reducible refine Fr_gd fun _ => ?_)
      | (with_reducible refine Fr_ite ?_ ?_)
      | (with_reducible refine Fr_opt ?_ fun _ => ?_)
      | (with_reducible refine Fr_sA ?_ ‹EqS S M0 _› fun _ _ => ?_)
      | (with_reducible refine Fr_sR0 ‹EqS S M0 _› fun _ _ => ?_)
      | (with_reducible refine Fr_sL ?_ ‹EqS S M0 _› fun _ _ => ?_)
      | (with_reducible refine Fr_lt fun _ => ?_)
      | exact hS _ (by decide)
      | exact subL (by decide) hS
      | (with_reducible refine Fr_bd (fr_X11_workOut ?_ ‹EqS S M0 _›) fun _ _ _ => ?_)
      | (with_reducible refine fr_X11_workOut ?_ ‹EqS S M0 _›)
      | (with_reducible refine Fr_bd (fr_X11_law_L37 ?_ ?_ _ _ _ _ ‹EqS S M0 _›) fun _ _ _ => ?_)
      | (with_reducible refine fr_X11_law_L37 ?_ ?_ _ _ _ _ ‹EqS S M0 _›)
      | intro _)
theorem fr_X11_placeOf {S : Nat → Bool} {a0 : Int32} {a1 : Int32} {a2 : Int32} {a3 : Int32} {M0 M : mm}  (e : EqS S M0 M) : Fr S M0 (X11_placeOf a0 a1 a2 a3 M) := by
  unfold X11_placeOf
  repeat' (first
      | with_reducible assumption
      | with_reducible exact Fr_none
      | (with_reducible exact Fr_some ‹EqS S M0 _›)
      | (with_reducible refine Fr_gd fun _ => ?_)
      | (with_reducible refine Fr_ite ?_ ?_)
      | (with_reducible refine Fr_opt ?_ fun _ => ?_)
      | (with_reducible refine Fr_sA ?_ ‹EqS S M0 _› fun _ _ => ?_)
      | (with_reducible refine Fr_sR0 ‹EqS S M0 _› fun _ _ => ?_)
      | (with_reducible refine Fr_sL ?_ ‹EqS S M0 _› fun _ _ => ?_)
      | (with_reducible refine Fr_lt fun _ => ?_)
      | intro _)
theorem fr_X11_wearsAt {S : Nat → Bool} {a1 : Int32} {a2 : Int32} {a3 : Int32} {M0 M : mm}  (e : EqS S M0 M) : Fr S M0 (X11_wearsAt a1 a2 a3 M) := by
  unfold X11_wearsAt
  repeat' (first
      | with_reducible assumption
      | with_reducible exact Fr_none
      | (with_reducible exact Fr_some ‹EqS S M0 _›)
      | (with_reducible refine Fr_gd fun _ => ?_)
      | (with_reducible refine Fr_ite ?_ ?_)
      | (with_reducible refine Fr_opt ?_ fun _ => ?_)
      | (with_reducible refine Fr_sA ?_ ‹EqS S M0 _› fun _ _ => ?_)
      | (with_reducible refine Fr_sR0 ‹EqS S M0 _› fun _ _ => ?_)
      | (with_reducible refine Fr_sL ?_ ‹EqS S M0 _› fun _ _ => ?_)
      | (with_reducible refine Fr_lt fun _ => ?_)
      | intro _)
theorem fr_X11_thinksOf_L10 {S : Nat → Bool} {a1 : Int32} {a2 : Int32} {a3 : Int32} {K43 : mm → Option (Unit × mm)} {M0 : mm} (hS : ∀ k, k ∈ [101] → S k = true) (hK43 : ∀  (M_ : mm), EqS S M0 M_ → Fr S M0 (K43  M_)) : ∀ (n_ : Nat) (z1 : Int32) (M : mm), EqS S M0 M → Fr S M0 (X11_thinksOf_L10 a1 a2 a3 K43 n_ z1 M) := by
  intro n_
  induction n_ with
  | zero =>
    intros
    exact Fr_none
  | succ n_ ih =>
    intro z1 M e
    rw [X11_thinksOf_L10]
    repeat' (first
        | with_reducible assumption
        | with_reducible exact Fr_none
        | (with_reducible exact Fr_some ‹EqS S M0 _›)
        | (with_reducible refine Fr_gd fun _ => ?_)
        | (with_reducible refine Fr_ite ?_ ?_)
        | (with_reducible refine Fr_opt ?_ fun _ => ?_)
        | (with_reducible refine Fr_sA ?_ ‹EqS S M0 _› fun _ _ => ?_)
        | (with_reducible refine Fr_sR0 ‹EqS S M0 _› fun _ _ => ?_)
        | (with_reducible refine Fr_sL ?_ ‹EqS S M0 _› fun _ _ => ?_)
        | (with_reducible refine Fr_lt fun _ => ?_)
        | exact hS _ (by decide)
        | exact subL (by decide) hS
        | (with_reducible refine Fr_bd (hK43  _ ‹EqS S M0 _›) fun _ _ _ => ?_)
        | with_reducible exact hK43  _ ‹EqS S M0 _›
        | (with_reducible refine Fr_bd (ih _ _ ‹EqS S M0 _›) fun _ _ _ => ?_)
        | with_reducible exact ih _ _ ‹EqS S M0 _›
        | intro _)
theorem fr_X11_thinksOf_L55 {S : Nat → Bool} {a1 : Int32} {a2 : Int32} {a3 : Int32} {K120 : Int32 → mm → Option (Unit × mm)} {M0 : mm} (hS : ∀ k, k ∈ [82, 100, 102] → S k = true) (hK120 : ∀ (y0 : Int32) (M_ : mm), EqS S M0 M_ → Fr S M0 (K120 y0 M_)) : ∀ (n_ : Nat) (z1 : Int32) (z2 : Int32) (M : mm), EqS S M0 M → Fr S M0 (X11_thinksOf_L55 a1 a2 a3 K120 n_ z1 z2 M) := by
  intro n_
  induction n_ with
  | zero =>
    intros
    exact Fr_none
  | succ n_ ih =>
    intro z1 z2 M e
    rw [X11_thinksOf_L55]
    repeat' (first
        | with_reducible assumption
        | with_reducible exact Fr_none
        | (with_reducible exact Fr_some ‹EqS S M0 _›)
        | (with_reducible refine Fr_gd fun _ => ?_)
        | (with_reducible refine Fr_ite ?_ ?_)
        | (with_reducible refine Fr_opt ?_ fun _ => ?_)
        | (with_reducible refine Fr_sA ?_ ‹EqS S M0 _› fun _ _ => ?_)
        | (with_reducible refine Fr_sR0 ‹EqS S M0 _› fun _ _ => ?_)
        | (with_reducible refine Fr_sL ?_ ‹EqS S M0 _› fun _ _ => ?_)
        | (with_reducible refine Fr_lt fun _ => ?_)
        | exact hS _ (by decide)
        | exact subL (by decide) hS
        | (with_reducible refine Fr_bd (hK120 _ _ ‹EqS S M0 _›) fun _ _ _ => ?_)
        | with_reducible exact hK120 _ _ ‹EqS S M0 _›
        | (with_reducible refine Fr_bd (fr_X11_numberOf ?_ ‹EqS S M0 _›) fun _ _ _ => ?_)
        | (with_reducible refine fr_X11_numberOf ?_ ‹EqS S M0 _›)
        | (with_reducible refine Fr_bd (ih _ _ _ ‹EqS S M0 _›) fun _ _ _ => ?_)
        | with_reducible exact ih _ _ _ ‹EqS S M0 _›
        | intro _)
theorem fr_X11_thinksOf_L46 {S : Nat → Bool} {a1 : Int32} {a2 : Int32} {a3 : Int32} {K126 : mm → Option (Unit × mm)} {M0 : mm} (hS : ∀ k, k ∈ [82, 100, 102] → S k = true) (hK126 : ∀  (M_ : mm), EqS S M0 M_ → Fr S M0 (K126  M_)) : ∀ (n_ : Nat) (z1 : Int32) (M : mm), EqS S M0 M → Fr S M0 (X11_thinksOf_L46 a1 a2 a3 K126 n_ z1 M) := by
  intro n_
  induction n_ with
  | zero =>
    intros
    exact Fr_none
  | succ n_ ih =>
    intro z1 M e
    rw [X11_thinksOf_L46]
    repeat' (first
        | with_reducible assumption
        | with_reducible exact Fr_none
        | (with_reducible exact Fr_some ‹EqS S M0 _›)
        | (with_reducible refine Fr_gd fun _ => ?_)
        | (with_reducible refine Fr_ite ?_ ?_)
        | (with_reducible refine Fr_opt ?_ fun _ => ?_)
        | (with_reducible refine Fr_sA ?_ ‹EqS S M0 _› fun _ _ => ?_)
        | (with_reducible refine Fr_sR0 ‹EqS S M0 _› fun _ _ => ?_)
        | (with_reducible refine Fr_sL ?_ ‹EqS S M0 _› fun _ _ => ?_)
        | (with_reducible refine Fr_lt fun _ => ?_)
        | exact hS _ (by decide)
        | exact subL (by decide) hS
        | (with_reducible refine Fr_bd (hK126  _ ‹EqS S M0 _›) fun _ _ _ => ?_)
        | with_reducible exact hK126  _ ‹EqS S M0 _›
        | (with_reducible refine Fr_bd (fr_X11_thinksOf_L55 ?_ ?_ _ _ _ _ ‹EqS S M0 _›) fun _ _ _ => ?_)
        | (with_reducible refine fr_X11_thinksOf_L55 ?_ ?_ _ _ _ _ ‹EqS S M0 _›)
        | (with_reducible refine Fr_bd (ih _ _ ‹EqS S M0 _›) fun _ _ _ => ?_)
        | with_reducible exact ih _ _ ‹EqS S M0 _›
        | intro _)
theorem fr_X11_thinksOf {S : Nat → Bool} {a1 : Int32} {a2 : Int32} {a3 : Int32} {M0 M : mm} (hS : ∀ k, k ∈ [82, 100, 101, 102] → S k = true) (e : EqS S M0 M) : Fr S M0 (X11_thinksOf a1 a2 a3 M) := by
  unfold X11_thinksOf
  repeat' (first
      | with_reducible assumption
      | with_reducible exact Fr_none
      | (with_reducible exact Fr_some ‹EqS S M0 _›)
      | (with_reducible refine Fr_gd fun _ => ?_)
      | (with_reducible refine Fr_ite ?_ ?_)
      | (with_reducible refine Fr_opt ?_ fun _ => ?_)
      | (with_reducible refine Fr_sA ?_ ‹EqS S M0 _› fun _ _ => ?_)
      | (with_reducible refine Fr_sR0 ‹EqS S M0 _› fun _ _ => ?_)
      | (with_reducible refine Fr_sL ?_ ‹EqS S M0 _› fun _ _ => ?_)
      | (with_reducible refine Fr_lt fun _ => ?_)
      | exact hS _ (by decide)
      | exact subL (by decide) hS
      | (with_reducible refine Fr_bd (fr_X11_thinksOf_L10 ?_ ?_ _ _ _ ‹EqS S M0 _›) fun _ _ _ => ?_)
      | (with_reducible refine fr_X11_thinksOf_L10 ?_ ?_ _ _ _ ‹EqS S M0 _›)
      | (with_reducible refine Fr_bd (fr_X11_thinksOf_L46 ?_ ?_ _ _ _ ‹EqS S M0 _›) fun _ _ _ => ?_)
      | (with_reducible refine fr_X11_thinksOf_L46 ?_ ?_ _ _ _ ‹EqS S M0 _›)
      | intro _)
theorem fr_X11_isForgotten {S : Nat → Bool} {a1 : Int32} {M0 M : mm}  (e : EqS S M0 M) : Fr S M0 (X11_isForgotten a1 M) := by
  unfold X11_isForgotten
  repeat' (first
      | with_reducible assumption
      | with_reducible exact Fr_none
      | (with_reducible exact Fr_some ‹EqS S M0 _›)
      | (with_reducible refine Fr_gd fun _ => ?_)
      | (with_reducible refine Fr_ite ?_ ?_)
      | (with_reducible refine Fr_opt ?_ fun _ => ?_)
      | (with_reducible refine Fr_sA ?_ ‹EqS S M0 _› fun _ _ => ?_)
      | (with_reducible refine Fr_sR0 ‹EqS S M0 _› fun _ _ => ?_)
      | (with_reducible refine Fr_sL ?_ ‹EqS S M0 _› fun _ _ => ?_)
      | (with_reducible refine Fr_lt fun _ => ?_)
      | intro _)
theorem fr_X11_goes_b164 {S : Nat → Bool} {a1 : Int32} {a2 : Int32} {a3 : Int32} {a4 : Int32} {x5 : Int32} {x7 : Int64} {x9 : Int64} {M0 M : mm}  (e : EqS S M0 M) : Fr S M0 (X11_goes_b164 a1 a2 a3 a4 x5 x7 x9 M) := by
  unfold X11_goes_b164
  repeat' (first
      | with_reducible assumption
      | with_reducible exact Fr_none
      | (with_reducible exact Fr_some ‹EqS S M0 _›)
      | (with_reducible refine Fr_gd fun _ => ?_)
      | (with_reducible refine Fr_ite ?_ ?_)
      | (with_reducible refine Fr_opt ?_ fun _ => ?_)
      | (with_reducible refine Fr_sA ?_ ‹EqS S M0 _› fun _ _ => ?_)
      | (with_reducible refine Fr_sR0 ‹EqS S M0 _› fun _ _ => ?_)
      | (with_reducible refine Fr_sL ?_ ‹EqS S M0 _› fun _ _ => ?_)
      | (with_reducible refine Fr_lt fun _ => ?_)
      | intro _)
theorem fr_X11_goes_b147 {S : Nat → Bool} {a1 : Int32} {a2 : Int32} {a3 : Int32} {a4 : Int32} {x5 : Int32} {x7 : Int64} {s0 : Int64} {M0 M : mm}  (e : EqS S M0 M) : Fr S M0 (X11_goes_b147 a1 a2 a3 a4 x5 x7 s0 M) := by
  unfold X11_goes_b147
  repeat' (first
      | with_reducible assumption
      | with_reducible exact Fr_none
      | (with_reducible exact Fr_some ‹EqS S M0 _›)
      | (with_reducible refine Fr_gd fun _ => ?_)
      | (with_reducible refine Fr_ite ?_ ?_)
      | (with_reducible refine Fr_opt ?_ fun _ => ?_)
      | (with_reducible refine Fr_sA ?_ ‹EqS S M0 _› fun _ _ => ?_)
      | (with_reducible refine Fr_sR0 ‹EqS S M0 _› fun _ _ => ?_)
      | (with_reducible refine Fr_sL ?_ ‹EqS S M0 _› fun _ _ => ?_)
      | (with_reducible refine Fr_lt fun _ => ?_)
      | (with_reducible refine Fr_bd (fr_X11_placeOf  ‹EqS S M0 _›) fun _ _ _ => ?_)
      | (with_reducible refine fr_X11_placeOf  ‹EqS S M0 _›)
      | (with_reducible refine Fr_bd (fr_X11_goes_b164  ‹EqS S M0 _›) fun _ _ _ => ?_)
      | (with_reducible refine fr_X11_goes_b164  ‹EqS S M0 _›)
      | intro _)
theorem fr_X11_goes_b121 {S : Nat → Bool} {a1 : Int32} {a2 : Int32} {a3 : Int32} {a4 : Int32} {x5 : Int32} {x7 : Int64} {s0 : Int32} {M0 M : mm}  (e : EqS S M0 M) : Fr S M0 (X11_goes_b121 a1 a2 a3 a4 x5 x7 s0 M) := by
  unfold X11_goes_b121
  repeat' (first
      | with_reducible assumption
      | with_reducible exact Fr_none
      | (with_reducible exact Fr_some ‹EqS S M0 _›)
      | (with_reducible refine Fr_gd fun _ => ?_)
      | (with_reducible refine Fr_ite ?_ ?_)
      | (with_reducible refine Fr_opt ?_ fun _ => ?_)
      | (with_reducible refine Fr_sA ?_ ‹EqS S M0 _› fun _ _ => ?_)
      | (with_reducible refine Fr_sR0 ‹EqS S M0 _› fun _ _ => ?_)
      | (with_reducible refine Fr_sL ?_ ‹EqS S M0 _› fun _ _ => ?_)
      | (with_reducible refine Fr_lt fun _ => ?_)
      | (with_reducible refine Fr_bd (fr_X11_goes_b147  ‹EqS S M0 _›) fun _ _ _ => ?_)
      | (with_reducible refine fr_X11_goes_b147  ‹EqS S M0 _›)
      | intro _)
theorem fr_X11_goes_b116 {S : Nat → Bool} {a1 : Int32} {a2 : Int32} {a3 : Int32} {a4 : Int32} {x5 : Int32} {x7 : Int64} {M0 M : mm}  (e : EqS S M0 M) : Fr S M0 (X11_goes_b116 a1 a2 a3 a4 x5 x7 M) := by
  unfold X11_goes_b116
  repeat' (first
      | with_reducible assumption
      | with_reducible exact Fr_none
      | (with_reducible exact Fr_some ‹EqS S M0 _›)
      | (with_reducible refine Fr_gd fun _ => ?_)
      | (with_reducible refine Fr_ite ?_ ?_)
      | (with_reducible refine Fr_opt ?_ fun _ => ?_)
      | (with_reducible refine Fr_sA ?_ ‹EqS S M0 _› fun _ _ => ?_)
      | (with_reducible refine Fr_sR0 ‹EqS S M0 _› fun _ _ => ?_)
      | (with_reducible refine Fr_sL ?_ ‹EqS S M0 _› fun _ _ => ?_)
      | (with_reducible refine Fr_lt fun _ => ?_)
      | (with_reducible refine Fr_bd (fr_X11_goes_b121  ‹EqS S M0 _›) fun _ _ _ => ?_)
      | (with_reducible refine fr_X11_goes_b121  ‹EqS S M0 _›)
      | intro _)
theorem fr_X11_goes_b26 {S : Nat → Bool} {a1 : Int32} {a2 : Int32} {a3 : Int32} {a4 : Int32} {x5 : Int32} {s0 : Int32} {M0 M : mm}  (e : EqS S M0 M) : Fr S M0 (X11_goes_b26 a1 a2 a3 a4 x5 s0 M) := by
  unfold X11_goes_b26
  repeat' (first
      | with_reducible assumption
      | with_reducible exact Fr_none
      | (with_reducible exact Fr_some ‹EqS S M0 _›)
      | (with_reducible refine Fr_gd fun _ => ?_)
      | (with_reducible refine Fr_ite ?_ ?_)
      | (with_reducible refine Fr_opt ?_ fun _ => ?_)
      | (with_reducible refine Fr_sA ?_ ‹EqS S M0 _› fun _ _ => ?_)
      | (with_reducible refine Fr_sR0 ‹EqS S M0 _› fun _ _ => ?_)
      | (with_reducible refine Fr_sL ?_ ‹EqS S M0 _› fun _ _ => ?_)
      | (with_reducible refine Fr_lt fun _ => ?_)
      | (with_reducible refine Fr_bd (fr_X11_placeOf  ‹EqS S M0 _›) fun _ _ _ => ?_)
      | (with_reducible refine fr_X11_placeOf  ‹EqS S M0 _›)
      | (with_reducible refine Fr_bd (fr_X11_goes_b164  ‹EqS S M0 _›) fun _ _ _ => ?_)
      | (with_reducible refine fr_X11_goes_b164  ‹EqS S M0 _›)
      | (with_reducible refine Fr_bd (fr_X11_isForgotten  ‹EqS S M0 _›) fun _ _ _ => ?_)
      | (with_reducible refine fr_X11_isForgotten  ‹EqS S M0 _›)
      | (with_reducible refine Fr_bd (fr_X11_goes_b121  ‹EqS S M0 _›) fun _ _ _ => ?_)
      | (with_reducible refine fr_X11_goes_b121  ‹EqS S M0 _›)
      | (with_reducible refine Fr_bd (fr_X11_goes_b116  ‹EqS S M0 _›) fun _ _ _ => ?_)
      | (with_reducible refine fr_X11_goes_b116  ‹EqS S M0 _›)
      | intro _)
theorem fr_X11_goes {S : Nat → Bool} {a1 : Int32} {a2 : Int32} {a3 : Int32} {a4 : Int32} {M0 M : mm}  (e : EqS S M0 M) : Fr S M0 (X11_goes a1 a2 a3 a4 M) := by
  unfold X11_goes
  repeat' (first
      | with_reducible assumption
      | with_reducible exact Fr_none
      | (with_reducible exact Fr_some ‹EqS S M0 _›)
      | (with_reducible refine Fr_gd fun _ => ?_)
      | (with_reducible refine Fr_ite ?_ ?_)
      | (with_reducible refine Fr_opt ?_ fun _ => ?_)
      | (with_reducible refine Fr_sA ?_ ‹EqS S M0 _› fun _ _ => ?_)
      | (with_reducible refine Fr_sR0 ‹EqS S M0 _› fun _ _ => ?_)
      | (with_reducible refine Fr_sL ?_ ‹EqS S M0 _› fun _ _ => ?_)
      | (with_reducible refine Fr_lt fun _ => ?_)
      | (with_reducible refine Fr_bd (fr_X11_wearsAt  ‹EqS S M0 _›) fun _ _ _ => ?_)
      | (with_reducible refine fr_X11_wearsAt  ‹EqS S M0 _›)
      | (with_reducible refine Fr_bd (fr_X11_goes_b26  ‹EqS S M0 _›) fun _ _ _ => ?_)
      | (with_reducible refine fr_X11_goes_b26  ‹EqS S M0 _›)
      | intro _)
theorem fr_X11_worksOut_L17 {S : Nat → Bool} {a1 : Int32} {K58 : Int32 → Int32 → mm → Option (Unit × mm)} {M0 : mm} (hS : ∀ k, k ∈ [103, 104] → S k = true) (hK58 : ∀ (y0 : Int32) (y1 : Int32) (M_ : mm), EqS S M0 M_ → Fr S M0 (K58 y0 y1 M_)) : ∀ (n_ : Nat) (z1 : Int32) (z2 : Int32) (z3 : Int32) (M : mm), EqS S M0 M → Fr S M0 (X11_worksOut_L17 a1 K58 n_ z1 z2 z3 M) := by
  intro n_
  induction n_ with
  | zero =>
    intros
    exact Fr_none
  | succ n_ ih =>
    intro z1 z2 z3 M e
    rw [X11_worksOut_L17]
    repeat' (first
        | with_reducible assumption
        | with_reducible exact Fr_none
        | (with_reducible exact Fr_some ‹EqS S M0 _›)
        | (with_reducible refine Fr_gd fun _ => ?_)
        | (with_reducible refine Fr_ite ?_ ?_)
        | (with_reducible refine Fr_opt ?_ fun _ => ?_)
        | (with_reducible refine Fr_sA ?_ ‹EqS S M0 _› fun _ _ => ?_)
        | (with_reducible refine Fr_sR0 ‹EqS S M0 _› fun _ _ => ?_)
        | (with_reducible refine Fr_sL ?_ ‹EqS S M0 _› fun _ _ => ?_)
        | (with_reducible refine Fr_lt fun _ => ?_)
        | exact hS _ (by decide)
        | exact subL (by decide) hS
        | (with_reducible refine Fr_bd (hK58 _ _ _ ‹EqS S M0 _›) fun _ _ _ => ?_)
        | with_reducible exact hK58 _ _ _ ‹EqS S M0 _›
        | (with_reducible refine Fr_bd (fr_X11_placeOf  ‹EqS S M0 _›) fun _ _ _ => ?_)
        | (with_reducible refine fr_X11_placeOf  ‹EqS S M0 _›)
        | (with_reducible refine Fr_bd (ih _ _ _ _ ‹EqS S M0 _›) fun _ _ _ => ?_)
        | with_reducible exact ih _ _ _ _ ‹EqS S M0 _›
        | intro _)
theorem fr_X11_worksOut_L9 {S : Nat → Bool} {a1 : Int32} {K64 : Int32 → mm → Option (Unit × mm)} {M0 : mm} (hS : ∀ k, k ∈ [103, 104] → S k = true) (hK64 : ∀ (y0 : Int32) (M_ : mm), EqS S M0 M_ → Fr S M0 (K64 y0 M_)) : ∀ (n_ : Nat) (z1 : Int32) (z2 : Int32) (M : mm), EqS S M0 M → Fr S M0 (X11_worksOut_L9 a1 K64 n_ z1 z2 M) := by
  intro n_
  induction n_ with
  | zero =>
    intros
    exact Fr_none
  | succ n_ ih =>
    intro z1 z2 M e
    rw [X11_worksOut_L9]
    repeat' (first
        | with_reducible assumption
        | with_reducible exact Fr_none
        | (with_reducible exact Fr_some ‹EqS S M0 _›)
        | (with_reducible refine Fr_gd fun _ => ?_)
        | (with_reducible refine Fr_ite ?_ ?_)
        | (with_reducible refine Fr_opt ?_ fun _ => ?_)
        | (with_reducible refine Fr_sA ?_ ‹EqS S M0 _› fun _ _ => ?_)
        | (with_reducible refine Fr_sR0 ‹EqS S M0 _› fun _ _ => ?_)
        | (with_reducible refine Fr_sL ?_ ‹EqS S M0 _› fun _ _ => ?_)
        | (with_reducible refine Fr_lt fun _ => ?_)
        | exact hS _ (by decide)
        | exact subL (by decide) hS
        | (with_reducible refine Fr_bd (hK64 _ _ ‹EqS S M0 _›) fun _ _ _ => ?_)
        | with_reducible exact hK64 _ _ ‹EqS S M0 _›
        | (with_reducible refine Fr_bd (fr_X11_worksOut_L17 ?_ ?_ _ _ _ _ _ ‹EqS S M0 _›) fun _ _ _ => ?_)
        | (with_reducible refine fr_X11_worksOut_L17 ?_ ?_ _ _ _ _ _ ‹EqS S M0 _›)
        | (with_reducible refine Fr_bd (ih _ _ _ ‹EqS S M0 _›) fun _ _ _ => ?_)
        | with_reducible exact ih _ _ _ ‹EqS S M0 _›
        | intro _)
theorem fr_X11_worksOut_L2 {S : Nat → Bool} {a1 : Int32} {K70 : mm → Option (Unit × mm)} {M0 : mm} (hS : ∀ k, k ∈ [103, 104] → S k = true) (hK70 : ∀  (M_ : mm), EqS S M0 M_ → Fr S M0 (K70  M_)) : ∀ (n_ : Nat) (z1 : Int32) (M : mm), EqS S M0 M → Fr S M0 (X11_worksOut_L2 a1 K70 n_ z1 M) := by
  intro n_
  induction n_ with
  | zero =>
    intros
    exact Fr_none
  | succ n_ ih =>
    intro z1 M e
    rw [X11_worksOut_L2]
    repeat' (first
        | with_reducible assumption
        | with_reducible exact Fr_none
        | (with_reducible exact Fr_some ‹EqS S M0 _›)
        | (with_reducible refine Fr_gd fun _ => ?_)
        | (with_reducible refine Fr_ite ?_ ?_)
        | (with_reducible refine Fr_opt ?_ fun _ => ?_)
        | (with_reducible refine Fr_sA ?_ ‹EqS S M0 _› fun _ _ => ?_)
        | (with_reducible refine Fr_sR0 ‹EqS S M0 _› fun _ _ => ?_)
        | (with_reducible refine Fr_sL ?_ ‹EqS S M0 _› fun _ _ => ?_)
        | (with_reducible refine Fr_lt fun _ => ?_)
        | exact hS _ (by decide)
        | exact subL (by decide) hS
        | (with_reducible refine Fr_bd (hK70  _ ‹EqS S M0 _›) fun _ _ _ => ?_)
        | with_reducible exact hK70  _ ‹EqS S M0 _›
        | (with_reducible refine Fr_bd (fr_X11_worksOut_L9 ?_ ?_ _ _ _ _ ‹EqS S M0 _›) fun _ _ _ => ?_)
        | (with_reducible refine fr_X11_worksOut_L9 ?_ ?_ _ _ _ _ ‹EqS S M0 _›)
        | (with_reducible refine Fr_bd (ih _ _ ‹EqS S M0 _›) fun _ _ _ => ?_)
        | with_reducible exact ih _ _ ‹EqS S M0 _›
        | intro _)
theorem fr_X11_worksOut_b237 {S : Nat → Bool} {a1 : Int32} {R138 : Int32 → Int32 → Int64 → Int32 → Int32 → mm → Option (Unit × mm)} {K244 : Int32 → Int32 → Int64 → Int32 → mm → Option (Unit × mm)} {x2 : Int32} {x3 : Int32} {x5 : Int64} {x7 : Int32} {x8 : Int32} {s1 : Int32} {s2 : Int64} {M0 M : mm} (hS : ∀ k, k ∈ [103] → S k = true) (hR138 : ∀ (y0 : Int32) (y1 : Int32) (y2 : Int64) (y3 : Int32) (y4 : Int32) (M_ : mm), EqS S M0 M_ → Fr S M0 (R138 y0 y1 y2 y3 y4 M_)) (hK244 : ∀ (y0 : Int32) (y1 : Int32) (y2 : Int64) (y3 : Int32) (M_ : mm), EqS S M0 M_ → Fr S M0 (K244 y0 y1 y2 y3 M_)) (e : EqS S M0 M) : Fr S M0 (X11_worksOut_b237 a1 R138 K244 x2 x3 x5 x7 x8 s1 s2 M) := by
  unfold X11_worksOut_b237
  repeat' (first
      | with_reducible assumption
      | with_reducible exact Fr_none
      | (with_reducible exact Fr_some ‹EqS S M0 _›)
      | (with_reducible refine Fr_gd fun _ => ?_)
      | (with_reducible refine Fr_ite ?_ ?_)
      | (with_reducible refine Fr_opt ?_ fun _ => ?_)
      | (with_reducible refine Fr_sA ?_ ‹EqS S M0 _› fun _ _ => ?_)
      | (with_reducible refine Fr_sR0 ‹EqS S M0 _› fun _ _ => ?_)
      | (with_reducible refine Fr_sL ?_ ‹EqS S M0 _› fun _ _ => ?_)
      | (with_reducible refine Fr_lt fun _ => ?_)
      | exact hS _ (by decide)
      | exact subL (by decide) hS
      | (with_reducible refine Fr_bd (hR138 _ _ _ _ _ _ ‹EqS S M0 _›) fun _ _ _ => ?_)
      | with_reducible exact hR138 _ _ _ _ _ _ ‹EqS S M0 _›
      | (with_reducible refine Fr_bd (hK244 _ _ _ _ _ ‹EqS S M0 _›) fun _ _ _ => ?_)
      | with_reducible exact hK244 _ _ _ _ _ ‹EqS S M0 _›
      | intro _)
theorem fr_X11_worksOut_b194 {S : Nat → Bool} {a1 : Int32} {R138 : Int32 → Int32 → Int64 → Int32 → Int32 → mm → Option (Unit × mm)} {K244 : Int32 → Int32 → Int64 → Int32 → mm → Option (Unit × mm)} {x2 : Int32} {x3 : Int32} {x5 : Int64} {x7 : Int32} {x8 : Int32} {x9 : Int64} {s0 : Int32} {M0 M : mm} (hS : ∀ k, k ∈ [103, 104] → S k = true) (hR138 : ∀ (y0 : Int32) (y1 : Int32) (y2 : Int64) (y3 : Int32) (y4 : Int32) (M_ : mm), EqS S M0 M_ → Fr S M0 (R138 y0 y1 y2 y3 y4 M_)) (hK244 : ∀ (y0 : Int32) (y1 : Int32) (y2 : Int64) (y3 : Int32) (M_ : mm), EqS S M0 M_ → Fr S M0 (K244 y0 y1 y2 y3 M_)) (e : EqS S M0 M) : Fr S M0 (X11_worksOut_b194 a1 R138 K244 x2 x3 x5 x7 x8 x9 s0 M) := by
  unfold X11_worksOut_b194
  repeat' (first
      | with_reducible assumption
      | with_reducible exact Fr_none
      | (with_reducible exact Fr_some ‹EqS S M0 _›)
      | (with_reducible refine Fr_gd fun _ => ?_)
      | (with_reducible refine Fr_ite ?_ ?_)
      | (with_reducible refine Fr_opt ?_ fun _ => ?_)
      | (with_reducible refine Fr_sA ?_ ‹EqS S M0 _› fun _ _ => ?_)
      | (with_reducible refine Fr_sR0 ‹EqS S M0 _› fun _ _ => ?_)
      | (with_reducible refine Fr_sL ?_ ‹EqS S M0 _› fun _ _ => ?_)
      | (with_reducible refine Fr_lt fun _ => ?_)
      | exact hS _ (by decide)
      | exact subL (by decide) hS
      | (with_reducible refine Fr_bd (hR138 _ _ _ _ _ _ ‹EqS S M0 _›) fun _ _ _ => ?_)
      | with_reducible exact hR138 _ _ _ _ _ _ ‹EqS S M0 _›
      | (with_reducible refine Fr_bd (hK244 _ _ _ _ _ ‹EqS S M0 _›) fun _ _ _ => ?_)
      | with_reducible exact hK244 _ _ _ _ _ ‹EqS S M0 _›
      | (with_reducible refine Fr_bd (fr_X11_placeOf  ‹EqS S M0 _›) fun _ _ _ => ?_)
      | (with_reducible refine fr_X11_placeOf  ‹EqS S M0 _›)
      | (with_reducible refine Fr_bd (fr_X11_worksOut_b237 ?_ ?_ ?_ ‹EqS S M0 _›) fun _ _ _ => ?_)
      | (with_reducible refine fr_X11_worksOut_b237 ?_ ?_ ?_ ‹EqS S M0 _›)
      | intro _)
theorem fr_X11_worksOut_L138 {S : Nat → Bool} {a1 : Int32} {K244 : Int32 → Int32 → Int64 → Int32 → mm → Option (Unit × mm)} {M0 : mm} (hS : ∀ k, k ∈ [103, 104] → S k = true) (hK244 : ∀ (y0 : Int32) (y1 : Int32) (y2 : Int64) (y3 : Int32) (M_ : mm), EqS S M0 M_ → Fr S M0 (K244 y0 y1 y2 y3 M_)) : ∀ (n_ : Nat) (z1 : Int32) (z2 : Int32) (z3 : Int64) (z4 : Int32) (z5 : Int32) (M : mm), EqS S M0 M → Fr S M0 (X11_worksOut_L138 a1 K244 n_ z1 z2 z3 z4 z5 M) := by
  intro n_
  induction n_ with
  | zero =>
    intros
    exact Fr_none
  | succ n_ ih =>
    intro z1 z2 z3 z4 z5 M e
    rw [X11_worksOut_L138]
    repeat' (first
        | with_reducible assumption
        | with_reducible exact Fr_none
        | (with_reducible exact Fr_some ‹EqS S M0 _›)
        | (with_reducible refine Fr_gd fun _ => ?_)
        | (with_reducible refine Fr_ite ?_ ?_)
        | (with_reducible refine Fr_opt ?_ fun _ => ?_)
        | (with_reducible refine Fr_sA ?_ ‹EqS S M0 _› fun _ _ => ?_)
        | (with_reducible refine Fr_sR0 ‹EqS S M0 _› fun _ _ => ?_)
        | (with_reducible refine Fr_sL ?_ ‹EqS S M0 _› fun _ _ => ?_)
        | (with_reducible refine Fr_lt fun _ => ?_)
        | exact hS _ (by decide)
        | exact subL (by decide) hS
        | (with_reducible refine Fr_bd (hK244 _ _ _ _ _ ‹EqS S M0 _›) fun _ _ _ => ?_)
        | with_reducible exact hK244 _ _ _ _ _ ‹EqS S M0 _›
        | (with_reducible refine Fr_bd (fr_X11_goes  ‹EqS S M0 _›) fun _ _ _ => ?_)
        | (with_reducible refine fr_X11_goes  ‹EqS S M0 _›)
        | (with_reducible refine Fr_bd (fr_X11_worksOut_b194 ?_ ?_ ?_ ‹EqS S M0 _›) fun _ _ _ => ?_)
        | (with_reducible refine fr_X11_worksOut_b194 ?_ ?_ ?_ ‹EqS S M0 _›)
        | (with_reducible refine Fr_bd (ih _ _ _ _ _ _ ‹EqS S M0 _›) fun _ _ _ => ?_)
        | with_reducible exact ih _ _ _ _ _ _ ‹EqS S M0 _›
        | intro _)
theorem fr_X11_worksOut_L129 {S : Nat → Bool} {a1 : Int32} {K250 : Int32 → Int32 → mm → Option (Unit × mm)} {M0 : mm} (hS : ∀ k, k ∈ [103, 104] → S k = true) (hK250 : ∀ (y0 : Int32) (y1 : Int32) (M_ : mm), EqS S M0 M_ → Fr S M0 (K250 y0 y1 M_)) : ∀ (n_ : Nat) (z1 : Int32) (z2 : Int32) (z3 : Int64) (z4 : Int32) (M : mm), EqS S M0 M → Fr S M0 (X11_worksOut_L129 a1 K250 n_ z1 z2 z3 z4 M) := by
  intro n_
  induction n_ with
  | zero =>
    intros
    exact Fr_none
  | succ n_ ih =>
    intro z1 z2 z3 z4 M e
    rw [X11_worksOut_L129]
    repeat' (first
        | with_reducible assumption
        | with_reducible exact Fr_none
        | (with_reducible exact Fr_some ‹EqS S M0 _›)
        | (with_reducible refine Fr_gd fun _ => ?_)
        | (with_reducible refine Fr_ite ?_ ?_)
        | (with_reducible refine Fr_opt ?_ fun _ => ?_)
        | (with_reducible refine Fr_sA ?_ ‹EqS S M0 _› fun _ _ => ?_)
        | (with_reducible refine Fr_sR0 ‹EqS S M0 _› fun _ _ => ?_)
        | (with_reducible refine Fr_sL ?_ ‹EqS S M0 _› fun _ _ => ?_)
        | (with_reducible refine Fr_lt fun _ => ?_)
        | exact hS _ (by decide)
        | exact subL (by decide) hS
        | (with_reducible refine Fr_bd (hK250 _ _ _ ‹EqS S M0 _›) fun _ _ _ => ?_)
        | with_reducible exact hK250 _ _ _ ‹EqS S M0 _›
        | (with_reducible refine Fr_bd (fr_X11_worksOut_L138 ?_ ?_ _ _ _ _ _ _ _ ‹EqS S M0 _›) fun _ _ _ => ?_)
        | (with_reducible refine fr_X11_worksOut_L138 ?_ ?_ _ _ _ _ _ _ _ ‹EqS S M0 _›)
        | (with_reducible refine Fr_bd (ih _ _ _ _ _ ‹EqS S M0 _›) fun _ _ _ => ?_)
        | with_reducible exact ih _ _ _ _ _ ‹EqS S M0 _›
        | intro _)
theorem fr_X11_worksOut_b100 {S : Nat → Bool} {a1 : Int32} {R79 : Int32 → Int32 → mm → Option (Unit × mm)} {K256 : Int32 → mm → Option (Unit × mm)} {x2 : Int32} {x3 : Int32} {s0 : Int32} {M0 M : mm} (hS : ∀ k, k ∈ [103, 104] → S k = true) (hR79 : ∀ (y0 : Int32) (y1 : Int32) (M_ : mm), EqS S M0 M_ → Fr S M0 (R79 y0 y1 M_)) (hK256 : ∀ (y0 : Int32) (M_ : mm), EqS S M0 M_ → Fr S M0 (K256 y0 M_)) (e : EqS S M0 M) : Fr S M0 (X11_worksOut_b100 a1 R79 K256 x2 x3 s0 M) := by
  unfold X11_worksOut_b100
  repeat' (first
      | with_reducible assumption
      | with_reducible exact Fr_none
      | (with_reducible exact Fr_some ‹EqS S M0 _›)
      | (with_reducible refine Fr_gd fun _ => ?_)
      | (with_reducible refine Fr_ite ?_ ?_)
      | (with_reducible refine Fr_opt ?_ fun _ => ?_)
      | (with_reducible refine Fr_sA ?_ ‹EqS S M0 _› fun _ _ => ?_)
      | (with_reducible refine Fr_sR0 ‹EqS S M0 _› fun _ _ => ?_)
      | (with_reducible refine Fr_sL ?_ ‹EqS S M0 _› fun _ _ => ?_)
      | (with_reducible refine Fr_lt fun _ => ?_)
      | exact hS _ (by decide)
      | exact subL (by decide) hS
      | (with_reducible refine Fr_bd (hR79 _ _ _ ‹EqS S M0 _›) fun _ _ _ => ?_)
      | with_reducible exact hR79 _ _ _ ‹EqS S M0 _›
      | (with_reducible refine Fr_bd (hK256 _ _ ‹EqS S M0 _›) fun _ _ _ => ?_)
      | with_reducible exact hK256 _ _ ‹EqS S M0 _›
      | (with_reducible refine Fr_bd (fr_X11_goes  ‹EqS S M0 _›) fun _ _ _ => ?_)
      | (with_reducible refine fr_X11_goes  ‹EqS S M0 _›)
      | (with_reducible refine Fr_bd (fr_X11_worksOut_L129 ?_ ?_ _ _ _ _ _ _ ‹EqS S M0 _›) fun _ _ _ => ?_)
      | (with_reducible refine fr_X11_worksOut_L129 ?_ ?_ _ _ _ _ _ _ ‹EqS S M0 _›)
      | intro _)
theorem fr_X11_worksOut_L79 {S : Nat → Bool} {a1 : Int32} {K256 : Int32 → mm → Option (Unit × mm)} {M0 : mm} (hS : ∀ k, k ∈ [103, 104] → S k = true) (hK256 : ∀ (y0 : Int32) (M_ : mm), EqS S M0 M_ → Fr S M0 (K256 y0 M_)) : ∀ (n_ : Nat) (z1 : Int32) (z2 : Int32) (M : mm), EqS S M0 M → Fr S M0 (X11_worksOut_L79 a1 K256 n_ z1 z2 M) := by
  intro n_
  induction n_ with
  | zero =>
    intros
    exact Fr_none
  | succ n_ ih =>
    intro z1 z2 M e
    rw [X11_worksOut_L79]
    repeat' (first
        | with_reducible assumption
        | with_reducible exact Fr_none
        | (with_reducible exact Fr_some ‹EqS S M0 _›)
        | (with_reducible refine Fr_gd fun _ => ?_)
        | (with_reducible refine Fr_ite ?_ ?_)
        | (with_reducible refine Fr_opt ?_ fun _ => ?_)
        | (with_reducible refine Fr_sA ?_ ‹EqS S M0 _› fun _ _ => ?_)
        | (with_reducible refine Fr_sR0 ‹EqS S M0 _› fun _ _ => ?_)
        | (with_reducible refine Fr_sL ?_ ‹EqS S M0 _› fun _ _ => ?_)
        | (with_reducible refine Fr_lt fun _ => ?_)
        | exact hS _ (by decide)
        | exact subL (by decide) hS
        | (with_reducible refine Fr_bd (hK256 _ _ ‹EqS S M0 _›) fun _ _ _ => ?_)
        | with_reducible exact hK256 _ _ ‹EqS S M0 _›
        | (with_reducible refine Fr_bd (fr_X11_worksOut_b100 ?_ ?_ ?_ ‹EqS S M0 _›) fun _ _ _ => ?_)
        | (with_reducible refine fr_X11_worksOut_b100 ?_ ?_ ?_ ‹EqS S M0 _›)
        | (with_reducible refine Fr_bd (ih _ _ _ ‹EqS S M0 _›) fun _ _ _ => ?_)
        | with_reducible exact ih _ _ _ ‹EqS S M0 _›
        | intro _)
theorem fr_X11_worksOut_L72 {S : Nat → Bool} {a1 : Int32} {M0 : mm} (hS : ∀ k, k ∈ [103, 104] → S k = true) : ∀ (n_ : Nat) (z1 : Int32) (M : mm), EqS S M0 M → Fr S M0 (X11_worksOut_L72 a1 n_ z1 M) := by
  intro n_
  induction n_ with
  | zero =>
    intros
    exact Fr_none
  | succ n_ ih =>
    intro z1 M e
    rw [X11_worksOut_L72]
    repeat' (first
        | with_reducible assumption
        | with_reducible exact Fr_none
        | (with_reducible exact Fr_some ‹EqS S M0 _›)
        | (with_reducible refine Fr_gd fun _ => ?_)
        | (with_reducible refine Fr_ite ?_ ?_)
        | (with_reducible refine Fr_opt ?_ fun _ => ?_)
        | (with_reducible refine Fr_sA ?_ ‹EqS S M0 _› fun _ _ => ?_)
        | (with_reducible refine Fr_sR0 ‹EqS S M0 _› fun _ _ => ?_)
        | (with_reducible refine Fr_sL ?_ ‹EqS S M0 _› fun _ _ => ?_)
        | (with_reducible refine Fr_lt fun _ => ?_)
        | exact hS _ (by decide)
        | exact subL (by decide) hS
        | (with_reducible refine Fr_bd (fr_X11_worksOut_L79 ?_ ?_ _ _ _ _ ‹EqS S M0 _›) fun _ _ _ => ?_)
        | (with_reducible refine fr_X11_worksOut_L79 ?_ ?_ _ _ _ _ ‹EqS S M0 _›)
        | (with_reducible refine Fr_bd (ih _ _ ‹EqS S M0 _›) fun _ _ _ => ?_)
        | with_reducible exact ih _ _ ‹EqS S M0 _›
        | intro _)
theorem fr_X11_worksOut {S : Nat → Bool} {a1 : Int32} {M0 M : mm} (hS : ∀ k, k ∈ [103, 104] → S k = true) (e : EqS S M0 M) : Fr S M0 (X11_worksOut a1 M) := by
  unfold X11_worksOut
  repeat' (first
      | with_reducible assumption
      | with_reducible exact Fr_none
      | (with_reducible exact Fr_some ‹EqS S M0 _›)
      | (with_reducible refine Fr_gd fun _ => ?_)
      | (with_reducible refine Fr_ite ?_ ?_)
      | (with_reducible refine Fr_opt ?_ fun _ => ?_)
      | (with_reducible refine Fr_sA ?_ ‹EqS S M0 _› fun _ _ => ?_)
      | (with_reducible refine Fr_sR0 ‹EqS S M0 _› fun _ _ => ?_)
      | (with_reducible refine Fr_sL ?_ ‹EqS S M0 _› fun _ _ => ?_)
      | (with_reducible refine Fr_lt fun _ => ?_)
      | exact hS _ (by decide)
      | exact subL (by decide) hS
      | (with_reducible refine Fr_bd (fr_X11_worksOut_L2 ?_ ?_ _ _ _ ‹EqS S M0 _›) fun _ _ _ => ?_)
      | (with_reducible refine fr_X11_worksOut_L2 ?_ ?_ _ _ _ ‹EqS S M0 _›)
      | (with_reducible refine Fr_bd (fr_X11_worksOut_L72 ?_ _ _ _ ‹EqS S M0 _›) fun _ _ _ => ?_)
      | (with_reducible refine fr_X11_worksOut_L72 ?_ _ _ _ ‹EqS S M0 _›)
      | intro _)
theorem fr_X11_sortFor {S : Nat → Bool} {a1 : Int32} {a2 : Int32} {M0 M : mm}  (e : EqS S M0 M) : Fr S M0 (X11_sortFor a1 a2 M) := by
  unfold X11_sortFor
  repeat' (first
      | with_reducible assumption
      | with_reducible exact Fr_none
      | (with_reducible exact Fr_some ‹EqS S M0 _›)
      | (with_reducible refine Fr_gd fun _ => ?_)
      | (with_reducible refine Fr_ite ?_ ?_)
      | (with_reducible refine Fr_opt ?_ fun _ => ?_)
      | (with_reducible refine Fr_sA ?_ ‹EqS S M0 _› fun _ _ => ?_)
      | (with_reducible refine Fr_sR0 ‹EqS S M0 _› fun _ _ => ?_)
      | (with_reducible refine Fr_sL ?_ ‹EqS S M0 _› fun _ _ => ?_)
      | (with_reducible refine Fr_lt fun _ => ?_)
      | intro _)
theorem fr_X11_isTy {S : Nat → Bool} {a1 : Int32} {M0 M : mm}  (e : EqS S M0 M) : Fr S M0 (X11_isTy a1 M) := by
  unfold X11_isTy
  repeat' (first
      | with_reducible assumption
      | with_reducible exact Fr_none
      | (with_reducible exact Fr_some ‹EqS S M0 _›)
      | (with_reducible refine Fr_gd fun _ => ?_)
      | (with_reducible refine Fr_ite ?_ ?_)
      | (with_reducible refine Fr_opt ?_ fun _ => ?_)
      | (with_reducible refine Fr_sA ?_ ‹EqS S M0 _› fun _ _ => ?_)
      | (with_reducible refine Fr_sR0 ‹EqS S M0 _› fun _ _ => ?_)
      | (with_reducible refine Fr_sL ?_ ‹EqS S M0 _› fun _ _ => ?_)
      | (with_reducible refine Fr_lt fun _ => ?_)
      | (with_reducible refine Fr_bd (fr_X11_isThing  ‹EqS S M0 _›) fun _ _ _ => ?_)
      | (with_reducible refine fr_X11_isThing  ‹EqS S M0 _›)
      | intro _)
theorem fr_X11_common_L17 {S : Nat → Bool} {a0 : Int64} {a2 : Int64} {M0 : mm}  : ∀ (n_ : Nat) (z1 : Int64) (z2 : Int64) (M : mm), EqS S M0 M → Fr S M0 (X11_common_L17 a0 a2 n_ z1 z2 M) := by
  intro n_
  induction n_ with
  | zero =>
    intros
    exact Fr_none
  | succ n_ ih =>
    intro z1 z2 M e
    rw [X11_common_L17]
    repeat' (first
        | with_reducible assumption
        | with_reducible exact Fr_none
        | (with_reducible exact Fr_some ‹EqS S M0 _›)
        | (with_reducible refine Fr_gd fun _ => ?_)
        | (with_reducible refine Fr_ite ?_ ?_)
        | (with_reducible refine Fr_opt ?_ fun _ => ?_)
        | (with_reducible refine Fr_sA ?_ ‹EqS S M0 _› fun _ _ => ?_)
        | (with_reducible refine Fr_sR0 ‹EqS S M0 _› fun _ _ => ?_)
        | (with_reducible refine Fr_sL ?_ ‹EqS S M0 _› fun _ _ => ?_)
        | (with_reducible refine Fr_lt fun _ => ?_)
        | (with_reducible refine Fr_bd (ih _ _ _ ‹EqS S M0 _›) fun _ _ _ => ?_)
        | with_reducible exact ih _ _ _ ‹EqS S M0 _›
        | intro _)
theorem fr_X11_common_b12 {S : Nat → Bool} {a0 : Int64} {a2 : Int64} {s0 : Int64} {M0 M : mm}  (e : EqS S M0 M) : Fr S M0 (X11_common_b12 a0 a2 s0 M) := by
  unfold X11_common_b12
  repeat' (first
      | with_reducible assumption
      | with_reducible exact Fr_none
      | (with_reducible exact Fr_some ‹EqS S M0 _›)
      | (with_reducible refine Fr_gd fun _ => ?_)
      | (with_reducible refine Fr_ite ?_ ?_)
      | (with_reducible refine Fr_opt ?_ fun _ => ?_)
      | (with_reducible refine Fr_sA ?_ ‹EqS S M0 _› fun _ _ => ?_)
      | (with_reducible refine Fr_sR0 ‹EqS S M0 _› fun _ _ => ?_)
      | (with_reducible refine Fr_sL ?_ ‹EqS S M0 _› fun _ _ => ?_)
      | (with_reducible refine Fr_lt fun _ => ?_)
      | (with_reducible refine Fr_bd (fr_X11_common_L17  _ _ _ _ ‹EqS S M0 _›) fun _ _ _ => ?_)
      | (with_reducible refine fr_X11_common_L17  _ _ _ _ ‹EqS S M0 _›)
      | intro _)
theorem fr_X11_common {S : Nat → Bool} {a0 : Int64} {a2 : Int64} {M0 M : mm}  (e : EqS S M0 M) : Fr S M0 (X11_common a0 a2 M) := by
  unfold X11_common
  repeat' (first
      | with_reducible assumption
      | with_reducible exact Fr_none
      | (with_reducible exact Fr_some ‹EqS S M0 _›)
      | (with_reducible refine Fr_gd fun _ => ?_)
      | (with_reducible refine Fr_ite ?_ ?_)
      | (with_reducible refine Fr_opt ?_ fun _ => ?_)
      | (with_reducible refine Fr_sA ?_ ‹EqS S M0 _› fun _ _ => ?_)
      | (with_reducible refine Fr_sR0 ‹EqS S M0 _› fun _ _ => ?_)
      | (with_reducible refine Fr_sL ?_ ‹EqS S M0 _› fun _ _ => ?_)
      | (with_reducible refine Fr_lt fun _ => ?_)
      | (with_reducible refine Fr_bd (fr_X11_common_b12  ‹EqS S M0 _›) fun _ _ _ => ?_)
      | (with_reducible refine fr_X11_common_b12  ‹EqS S M0 _›)
      | intro _)
theorem fr_X11_partOf {S : Nat → Bool} {a0 : Int64} {a2 : Int64} {a4 : Int32} {M0 M : mm}  (e : EqS S M0 M) : Fr S M0 (X11_partOf a0 a2 a4 M) := by
  unfold X11_partOf
  repeat' (first
      | with_reducible assumption
      | with_reducible exact Fr_none
      | (with_reducible exact Fr_some ‹EqS S M0 _›)
      | (with_reducible refine Fr_gd fun _ => ?_)
      | (with_reducible refine Fr_ite ?_ ?_)
      | (with_reducible refine Fr_opt ?_ fun _ => ?_)
      | (with_reducible refine Fr_sA ?_ ‹EqS S M0 _› fun _ _ => ?_)
      | (with_reducible refine Fr_sR0 ‹EqS S M0 _› fun _ _ => ?_)
      | (with_reducible refine Fr_sL ?_ ‹EqS S M0 _› fun _ _ => ?_)
      | (with_reducible refine Fr_lt fun _ => ?_)
      | (with_reducible refine Fr_bd (fr_X11_common  ‹EqS S M0 _›) fun _ _ _ => ?_)
      | (with_reducible refine fr_X11_common  ‹EqS S M0 _›)
      | intro _)
theorem fr_X11_bestOf {S : Nat → Bool} {a1 : Int32} {a2 : Int32} {a3 : Int32} {a4 : Int32} {M0 M : mm} (hS : ∀ k, k ∈ [82, 100, 101, 102, 103, 104] → S k = true) (e : EqS S M0 M) : Fr S M0 (X11_bestOf a1 a2 a3 a4 M) := by
  unfold X11_bestOf
  repeat' (first
      | with_reducible assumption
      | with_reducible exact Fr_none
      | (with_reducible exact Fr_some ‹EqS S M0 _›)
      | (with_reducible refine Fr_gd fun _ => ?_)
      | (with_reducible refine Fr_ite ?_ ?_)
      | (with_reducible refine Fr_opt ?_ fun _ => ?_)
      | (with_reducible refine Fr_sA ?_ ‹EqS S M0 _› fun _ _ => ?_)
      | (with_reducible refine Fr_sR0 ‹EqS S M0 _› fun _ _ => ?_)
      | (with_reducible refine Fr_sL ?_ ‹EqS S M0 _› fun _ _ => ?_)
      | (with_reducible refine Fr_lt fun _ => ?_)
      | exact hS _ (by decide)
      | exact subL (by decide) hS
      | (with_reducible refine Fr_bd (fr_X11_thinksOf ?_ ‹EqS S M0 _›) fun _ _ _ => ?_)
      | (with_reducible refine fr_X11_thinksOf ?_ ‹EqS S M0 _›)
      | (with_reducible refine Fr_bd (fr_X11_worksOut ?_ ‹EqS S M0 _›) fun _ _ _ => ?_)
      | (with_reducible refine fr_X11_worksOut ?_ ‹EqS S M0 _›)
      | (with_reducible refine Fr_bd (fr_X11_sortFor  ‹EqS S M0 _›) fun _ _ _ => ?_)
      | (with_reducible refine fr_X11_sortFor  ‹EqS S M0 _›)
      | (with_reducible refine Fr_bd (fr_X11_placeOf  ‹EqS S M0 _›) fun _ _ _ => ?_)
      | (with_reducible refine fr_X11_placeOf  ‹EqS S M0 _›)
      | intro _)
theorem fr_X11_worth_b76 {S : Nat → Bool} {a1 : Int32} {a2 : Int32} {a3 : Int32} {s1 : Int32} {s2 : Int32} {s3 : Int32} {s4 : Int32} {M0 M : mm} (hS : ∀ k, k ∈ [82, 100, 101, 102, 103, 104] → S k = true) (e : EqS S M0 M) : Fr S M0 (X11_worth_b76 a1 a2 a3 s1 s2 s3 s4 M) := by
  unfold X11_worth_b76
  repeat' (first
      | with_reducible assumption
      | with_reducible exact Fr_none
      | (with_reducible exact Fr_some ‹EqS S M0 _›)
      | (with_reducible refine Fr_gd fun _ => ?_)
      | (with_reducible refine Fr_ite ?_ ?_)
      | (with_reducible refine Fr_opt ?_ fun _ => ?_)
      | (with_reducible refine Fr_sA ?_ ‹EqS S M0 _› fun _ _ => ?_)
      | (with_reducible refine Fr_sR0 ‹EqS S M0 _› fun _ _ => ?_)
      | (with_reducible refine Fr_sL ?_ ‹EqS S M0 _› fun _ _ => ?_)
      | (with_reducible refine Fr_lt fun _ => ?_)
      | exact hS _ (by decide)
      | exact subL (by decide) hS
      | (with_reducible refine Fr_bd (fr_X11_bestOf ?_ ‹EqS S M0 _›) fun _ _ _ => ?_)
      | (with_reducible refine fr_X11_bestOf ?_ ‹EqS S M0 _›)
      | (with_reducible refine Fr_bd (fr_X11_partOf  ‹EqS S M0 _›) fun _ _ _ => ?_)
      | (with_reducible refine fr_X11_partOf  ‹EqS S M0 _›)
      | intro _)
theorem fr_X11_worth {S : Nat → Bool} {a1 : Int32} {a2 : Int32} {a3 : Int32} {M0 M : mm} (hS : ∀ k, k ∈ [82, 100, 101, 102, 103, 104] → S k = true) (e : EqS S M0 M) : Fr S M0 (X11_worth a1 a2 a3 M) := by
  unfold X11_worth
  repeat' (first
      | with_reducible assumption
      | with_reducible exact Fr_none
      | (with_reducible exact Fr_some ‹EqS S M0 _›)
      | (with_reducible refine Fr_gd fun _ => ?_)
      | (with_reducible refine Fr_ite ?_ ?_)
      | (with_reducible refine Fr_opt ?_ fun _ => ?_)
      | (with_reducible refine Fr_sA ?_ ‹EqS S M0 _› fun _ _ => ?_)
      | (with_reducible refine Fr_sR0 ‹EqS S M0 _› fun _ _ => ?_)
      | (with_reducible refine Fr_sL ?_ ‹EqS S M0 _› fun _ _ => ?_)
      | (with_reducible refine Fr_lt fun _ => ?_)
      | exact hS _ (by decide)
      | exact subL (by decide) hS
      | (with_reducible refine Fr_bd (fr_X11_isTy  ‹EqS S M0 _›) fun _ _ _ => ?_)
      | (with_reducible refine fr_X11_isTy  ‹EqS S M0 _›)
      | (with_reducible refine Fr_bd (fr_X11_within  ‹EqS S M0 _›) fun _ _ _ => ?_)
      | (with_reducible refine fr_X11_within  ‹EqS S M0 _›)
      | (with_reducible refine Fr_bd (fr_X11_worth_b76 ?_ ‹EqS S M0 _›) fun _ _ _ => ?_)
      | (with_reducible refine fr_X11_worth_b76 ?_ ‹EqS S M0 _›)
      | intro _)
theorem fr_X11_now_L66 {S : Nat → Bool} {a1 : Int32} {a2 : Int32} {M0 : mm} (hS : ∀ k, k ∈ [82, 103, 104] → S k = true) : ∀ (n_ : Nat) (z1 : Int32) (z2 : Int32) (z3 : Int32) (z4 : Int32) (M : mm), EqS S M0 M → Fr S M0 (X11_now_L66 a1 a2 n_ z1 z2 z3 z4 M) := by
  intro n_
  induction n_ with
  | zero =>
    intros
    exact Fr_none
  | succ n_ ih =>
    intro z1 z2 z3 z4 M e
    rw [X11_now_L66]
    repeat' (first
        | with_reducible assumption
        | with_reducible exact Fr_none
        | (with_reducible exact Fr_some ‹EqS S M0 _›)
        | (with_reducible refine Fr_gd fun _ => ?_)
        | (with_reducible refine Fr_ite ?_ ?_)
        | (with_reducible refine Fr_opt ?_ fun _ => ?_)
        | (with_reducible refine Fr_sA ?_ ‹EqS S M0 _› fun _ _ => ?_)
        | (with_reducible refine Fr_sR0 ‹EqS S M0 _› fun _ _ => ?_)
        | (with_reducible refine Fr_sL ?_ ‹EqS S M0 _› fun _ _ => ?_)
        | (with_reducible refine Fr_lt fun _ => ?_)
        | exact hS _ (by decide)
        | exact subL (by decide) hS
        | (with_reducible refine Fr_bd (fr_X11_worksOut ?_ ‹EqS S M0 _›) fun _ _ _ => ?_)
        | (with_reducible refine fr_X11_worksOut ?_ ‹EqS S M0 _›)
        | (with_reducible refine Fr_bd (fr_X11_placeOf  ‹EqS S M0 _›) fun _ _ _ => ?_)
        | (with_reducible refine fr_X11_placeOf  ‹EqS S M0 _›)
        | (with_reducible refine Fr_bd (ih _ _ _ _ _ ‹EqS S M0 _›) fun _ _ _ => ?_)
        | with_reducible exact ih _ _ _ _ _ ‹EqS S M0 _›
        | intro _)
theorem fr_X11_now_b213 {S : Nat → Bool} {a1 : Int32} {a2 : Int32} {R172 : Int32 → Int32 → Int32 → Int32 → Int32 → mm → Option (Int32 × mm)} {x3 : Int32} {x4 : Int32} {x5 : Int32} {x7 : Int32} {s0 : Int32} {s1 : Int32} {M0 M : mm} (hR172 : ∀ (y0 : Int32) (y1 : Int32) (y2 : Int32) (y3 : Int32) (y4 : Int32) (M_ : mm), EqS S M0 M_ → Fr S M0 (R172 y0 y1 y2 y3 y4 M_)) (e : EqS S M0 M) : Fr S M0 (X11_now_b213 a1 a2 R172 x3 x4 x5 x7 s0 s1 M) := by
  unfold X11_now_b213
  repeat' (first
      | with_reducible assumption
      | with_reducible exact Fr_none
      | (with_reducible exact Fr_some ‹EqS S M0 _›)
      | (with_reducible refine Fr_gd fun _ => ?_)
      | (with_reducible refine Fr_ite ?_ ?_)
      | (with_reducible refine Fr_opt ?_ fun _ => ?_)
      | (with_reducible refine Fr_sA ?_ ‹EqS S M0 _› fun _ _ => ?_)
      | (with_reducible refine Fr_sR0 ‹EqS S M0 _› fun _ _ => ?_)
      | (with_reducible refine Fr_sL ?_ ‹EqS S M0 _› fun _ _ => ?_)
      | (with_reducible refine Fr_lt fun _ => ?_)
      | (with_reducible refine Fr_bd (hR172 _ _ _ _ _ _ ‹EqS S M0 _›) fun _ _ _ => ?_)
      | with_reducible exact hR172 _ _ _ _ _ _ ‹EqS S M0 _›
      | intro _)
theorem fr_X11_now_L172 {S : Nat → Bool} {a1 : Int32} {a2 : Int32} {M0 : mm}  : ∀ (n_ : Nat) (z1 : Int32) (z2 : Int32) (z3 : Int32) (z4 : Int32) (z5 : Int32) (M : mm), EqS S M0 M → Fr S M0 (X11_now_L172 a1 a2 n_ z1 z2 z3 z4 z5 M) := by
  intro n_
  induction n_ with
  | zero =>
    intros
    exact Fr_none
  | succ n_ ih =>
    intro z1 z2 z3 z4 z5 M e
    rw [X11_now_L172]
    repeat' (first
        | with_reducible assumption
        | with_reducible exact Fr_none
        | (with_reducible exact Fr_some ‹EqS S M0 _›)
        | (with_reducible refine Fr_gd fun _ => ?_)
        | (with_reducible refine Fr_ite ?_ ?_)
        | (with_reducible refine Fr_opt ?_ fun _ => ?_)
        | (with_reducible refine Fr_sA ?_ ‹EqS S M0 _› fun _ _ => ?_)
        | (with_reducible refine Fr_sR0 ‹EqS S M0 _› fun _ _ => ?_)
        | (with_reducible refine Fr_sL ?_ ‹EqS S M0 _› fun _ _ => ?_)
        | (with_reducible refine Fr_lt fun _ => ?_)
        | (with_reducible refine Fr_bd (fr_X11_placeOf  ‹EqS S M0 _›) fun _ _ _ => ?_)
        | (with_reducible refine fr_X11_placeOf  ‹EqS S M0 _›)
        | (with_reducible refine Fr_bd (fr_X11_now_b213 ?_ ‹EqS S M0 _›) fun _ _ _ => ?_)
        | (with_reducible refine fr_X11_now_b213 ?_ ‹EqS S M0 _›)
        | (with_reducible refine Fr_bd (ih _ _ _ _ _ _ ‹EqS S M0 _›) fun _ _ _ => ?_)
        | with_reducible exact ih _ _ _ _ _ _ ‹EqS S M0 _›
        | intro _)
theorem fr_X11_now {S : Nat → Bool} {a1 : Int32} {a2 : Int32} {M0 M : mm} (hS : ∀ k, k ∈ [82, 100, 101, 102, 103, 104] → S k = true) (e : EqS S M0 M) : Fr S M0 (X11_now a1 a2 M) := by
  unfold X11_now
  repeat' (first
      | with_reducible assumption
      | with_reducible exact Fr_none
      | (with_reducible exact Fr_some ‹EqS S M0 _›)
      | (with_reducible refine Fr_gd fun _ => ?_)
      | (with_reducible refine Fr_ite ?_ ?_)
      | (with_reducible refine Fr_opt ?_ fun _ => ?_)
      | (with_reducible refine Fr_sA ?_ ‹EqS S M0 _› fun _ _ => ?_)
      | (with_reducible refine Fr_sR0 ‹EqS S M0 _› fun _ _ => ?_)
      | (with_reducible refine Fr_sL ?_ ‹EqS S M0 _› fun _ _ => ?_)
      | (with_reducible refine Fr_lt fun _ => ?_)
      | exact hS _ (by decide)
      | exact subL (by decide) hS
      | (with_reducible refine Fr_bd (fr_X11_isTy  ‹EqS S M0 _›) fun _ _ _ => ?_)
      | (with_reducible refine fr_X11_isTy  ‹EqS S M0 _›)
      | (with_reducible refine Fr_bd (fr_X11_within  ‹EqS S M0 _›) fun _ _ _ => ?_)
      | (with_reducible refine fr_X11_within  ‹EqS S M0 _›)
      | (with_reducible refine Fr_bd (fr_X11_sortFor  ‹EqS S M0 _›) fun _ _ _ => ?_)
      | (with_reducible refine fr_X11_sortFor  ‹EqS S M0 _›)
      | (with_reducible refine Fr_bd (fr_X11_thinksOf ?_ ‹EqS S M0 _›) fun _ _ _ => ?_)
      | (with_reducible refine fr_X11_thinksOf ?_ ‹EqS S M0 _›)
      | (with_reducible refine Fr_bd (fr_X11_now_L66 ?_ _ _ _ _ _ _ ‹EqS S M0 _›) fun _ _ _ => ?_)
      | (with_reducible refine fr_X11_now_L66 ?_ _ _ _ _ _ _ ‹EqS S M0 _›)
      | (with_reducible refine Fr_bd (fr_X11_worksOut ?_ ‹EqS S M0 _›) fun _ _ _ => ?_)
      | (with_reducible refine fr_X11_worksOut ?_ ‹EqS S M0 _›)
      | (with_reducible refine Fr_bd (fr_X11_placeOf  ‹EqS S M0 _›) fun _ _ _ => ?_)
      | (with_reducible refine fr_X11_placeOf  ‹EqS S M0 _›)
      | (with_reducible refine Fr_bd (fr_X11_now_L172  _ _ _ _ _ _ _ ‹EqS S M0 _›) fun _ _ _ => ?_)
      | (with_reducible refine fr_X11_now_L172  _ _ _ _ _ _ _ ‹EqS S M0 _›)
      | intro _)
theorem fr_X11_payAt {S : Nat → Bool} {a0 : Int32} {a1 : Int32} {a2 : Int32} {M0 M : mm}  (e : EqS S M0 M) : Fr S M0 (X11_payAt a0 a1 a2 M) := by
  unfold X11_payAt
  repeat' (first
      | with_reducible assumption
      | with_reducible exact Fr_none
      | (with_reducible exact Fr_some ‹EqS S M0 _›)
      | (with_reducible refine Fr_gd fun _ => ?_)
      | (with_reducible refine Fr_ite ?_ ?_)
      | (with_reducible refine Fr_opt ?_ fun _ => ?_)
      | (with_reducible refine Fr_sA ?_ ‹EqS S M0 _› fun _ _ => ?_)
      | (with_reducible refine Fr_sR0 ‹EqS S M0 _› fun _ _ => ?_)
      | (with_reducible refine Fr_sL ?_ ‹EqS S M0 _› fun _ _ => ?_)
      | (with_reducible refine Fr_lt fun _ => ?_)
      | intro _)
theorem fr_X11_paysFrom_L12 {S : Nat → Bool} {a1 : Int32} {a2 : Int32} {a3 : Int32} {a4 : Int32} {K39 : Int32 → mm → Option (Int64 × mm)} {M0 : mm} (hS : ∀ k, k ∈ [105] → S k = true) (hK39 : ∀ (y0 : Int32) (M_ : mm), EqS S M0 M_ → Fr S M0 (K39 y0 M_)) : ∀ (n_ : Nat) (z1 : Int32) (z2 : Int32) (M : mm), EqS S M0 M → Fr S M0 (X11_paysFrom_L12 a1 a2 a3 a4 K39 n_ z1 z2 M) := by
  intro n_
  induction n_ with
  | zero =>
    intros
    exact Fr_none
  | succ n_ ih =>
    intro z1 z2 M e
    rw [X11_paysFrom_L12]
    repeat' (first
        | with_reducible assumption
        | with_reducible exact Fr_none
        | (with_reducible exact Fr_some ‹EqS S M0 _›)
        | (with_reducible refine Fr_gd fun _ => ?_)
        | (with_reducible refine Fr_ite ?_ ?_)
        | (with_reducible refine Fr_opt ?_ fun _ => ?_)
        | (with_reducible refine Fr_sA ?_ ‹EqS S M0 _› fun _ _ => ?_)
        | (with_reducible refine Fr_sR0 ‹EqS S M0 _› fun _ _ => ?_)
        | (with_reducible refine Fr_sL ?_ ‹EqS S M0 _› fun _ _ => ?_)
        | (with_reducible refine Fr_lt fun _ => ?_)
        | exact hS _ (by decide)
        | exact subL (by decide) hS
        | (with_reducible refine Fr_bd (hK39 _ _ ‹EqS S M0 _›) fun _ _ _ => ?_)
        | with_reducible exact hK39 _ _ ‹EqS S M0 _›
        | (with_reducible refine Fr_bd (fr_X11_payAt  ‹EqS S M0 _›) fun _ _ _ => ?_)
        | (with_reducible refine fr_X11_payAt  ‹EqS S M0 _›)
        | (with_reducible refine Fr_bd (ih _ _ _ ‹EqS S M0 _›) fun _ _ _ => ?_)
        | with_reducible exact ih _ _ _ ‹EqS S M0 _›
        | intro _)
theorem fr_X11_paysFrom_L3 {S : Nat → Bool} {a1 : Int32} {a2 : Int32} {a3 : Int32} {a4 : Int32} {K45 : mm → Option (Int64 × mm)} {M0 : mm} (hS : ∀ k, k ∈ [105] → S k = true) (hK45 : ∀  (M_ : mm), EqS S M0 M_ → Fr S M0 (K45  M_)) : ∀ (n_ : Nat) (z1 : Int32) (M : mm), EqS S M0 M → Fr S M0 (X11_paysFrom_L3 a1 a2 a3 a4 K45 n_ z1 M) := by
  intro n_
  induction n_ with
  | zero =>
    intros
    exact Fr_none
  | succ n_ ih =>
    intro z1 M e
    rw [X11_paysFrom_L3]
    repeat' (first
        | with_reducible assumption
        | with_reducible exact Fr_none
        | (with_reducible exact Fr_some ‹EqS S M0 _›)
        | (with_reducible refine Fr_gd fun _ => ?_)
        | (with_reducible refine Fr_ite ?_ ?_)
        | (with_reducible refine Fr_opt ?_ fun _ => ?_)
        | (with_reducible refine Fr_sA ?_ ‹EqS S M0 _› fun _ _ => ?_)
        | (with_reducible refine Fr_sR0 ‹EqS S M0 _› fun _ _ => ?_)
        | (with_reducible refine Fr_sL ?_ ‹EqS S M0 _› fun _ _ => ?_)
        | (with_reducible refine Fr_lt fun _ => ?_)
        | exact hS _ (by decide)
        | exact subL (by decide) hS
        | (with_reducible refine Fr_bd (hK45  _ ‹EqS S M0 _›) fun _ _ _ => ?_)
        | with_reducible exact hK45  _ ‹EqS S M0 _›
        | (with_reducible refine Fr_bd (fr_X11_paysFrom_L12 ?_ ?_ _ _ _ _ ‹EqS S M0 _›) fun _ _ _ => ?_)
        | (with_reducible refine fr_X11_paysFrom_L12 ?_ ?_ _ _ _ _ ‹EqS S M0 _›)
        | (with_reducible refine Fr_bd (ih _ _ ‹EqS S M0 _›) fun _ _ _ => ?_)
        | with_reducible exact ih _ _ ‹EqS S M0 _›
        | intro _)
theorem fr_X11_paysFrom_b151 {S : Nat → Bool} {a1 : Int32} {a2 : Int32} {a3 : Int32} {a4 : Int32} {R66 : Int32 → Int32 → Int32 → mm → Option (Int64 × mm)} {K203 : Int32 → Int32 → mm → Option (Int64 × mm)} {x5 : Int32} {x6 : Int32} {x7 : Int32} {x8 : Int32} {x9 : Int32} {s0 : Int64} {M0 M : mm} (hS : ∀ k, k ∈ [105] → S k = true) (hR66 : ∀ (y0 : Int32) (y1 : Int32) (y2 : Int32) (M_ : mm), EqS S M0 M_ → Fr S M0 (R66 y0 y1 y2 M_)) (hK203 : ∀ (y0 : Int32) (y1 : Int32) (M_ : mm), EqS S M0 M_ → Fr S M0 (K203 y0 y1 M_)) (e : EqS S M0 M) : Fr S M0 (X11_paysFrom_b151 a1 a2 a3 a4 R66 K203 x5 x6 x7 x8 x9 s0 M) := by
  unfold X11_paysFrom_b151
  repeat' (first
      | with_reducible assumption
      | with_reducible exact Fr_none
      | (with_reducible exact Fr_some ‹EqS S M0 _›)
      | (with_reducible refine Fr_gd fun _ => ?_)
      | (with_reducible refine Fr_ite ?_ ?_)
      | (with_reducible refine Fr_opt ?_ fun _ => ?_)
      | (with_reducible refine Fr_sA ?_ ‹EqS S M0 _› fun _ _ => ?_)
      | (with_reducible refine Fr_sR0 ‹EqS S M0 _› fun _ _ => ?_)
      | (with_reducible refine Fr_sL ?_ ‹EqS S M0 _› fun _ _ => ?_)
      | (with_reducible refine Fr_lt fun _ => ?_)
      | exact hS _ (by decide)
      | exact subL (by decide) hS
      | (with_reducible refine Fr_bd (hR66 _ _ _ _ ‹EqS S M0 _›) fun _ _ _ => ?_)
      | with_reducible exact hR66 _ _ _ _ ‹EqS S M0 _›
      | (with_reducible refine Fr_bd (hK203 _ _ _ ‹EqS S M0 _›) fun _ _ _ => ?_)
      | with_reducible exact hK203 _ _ _ ‹EqS S M0 _›
      | (with_reducible refine Fr_bd (fr_X11_payAt  ‹EqS S M0 _›) fun _ _ _ => ?_)
      | (with_reducible refine fr_X11_payAt  ‹EqS S M0 _›)
      | intro _)
theorem fr_X11_paysFrom_b100 {S : Nat → Bool} {a1 : Int32} {a2 : Int32} {a3 : Int32} {a4 : Int32} {R66 : Int32 → Int32 → Int32 → mm → Option (Int64 × mm)} {K203 : Int32 → Int32 → mm → Option (Int64 × mm)} {x5 : Int32} {x6 : Int32} {x7 : Int32} {x8 : Int32} {s0 : Int32} {M0 M : mm} (hS : ∀ k, k ∈ [105] → S k = true) (hR66 : ∀ (y0 : Int32) (y1 : Int32) (y2 : Int32) (M_ : mm), EqS S M0 M_ → Fr S M0 (R66 y0 y1 y2 M_)) (hK203 : ∀ (y0 : Int32) (y1 : Int32) (M_ : mm), EqS S M0 M_ → Fr S M0 (K203 y0 y1 M_)) (e : EqS S M0 M) : Fr S M0 (X11_paysFrom_b100 a1 a2 a3 a4 R66 K203 x5 x6 x7 x8 s0 M) := by
  unfold X11_paysFrom_b100
  repeat' (first
      | with_reducible assumption
      | with_reducible exact Fr_none
      | (with_reducible exact Fr_some ‹EqS S M0 _›)
      | (with_reducible refine Fr_gd fun _ => ?_)
      | (with_reducible refine Fr_ite ?_ ?_)
      | (with_reducible refine Fr_opt ?_ fun _ => ?_)
      | (with_reducible refine Fr_sA ?_ ‹EqS S M0 _› fun _ _ => ?_)
      | (with_reducible refine Fr_sR0 ‹EqS S M0 _› fun _ _ => ?_)
      | (with_reducible refine Fr_sL ?_ ‹EqS S M0 _› fun _ _ => ?_)
      | (with_reducible refine Fr_lt fun _ => ?_)
      | exact hS _ (by decide)
      | exact subL (by decide) hS
      | (with_reducible refine Fr_bd (hR66 _ _ _ _ ‹EqS S M0 _›) fun _ _ _ => ?_)
      | with_reducible exact hR66 _ _ _ _ ‹EqS S M0 _›
      | (with_reducible refine Fr_bd (hK203 _ _ _ ‹EqS S M0 _›) fun _ _ _ => ?_)
      | with_reducible exact hK203 _ _ _ ‹EqS S M0 _›
      | (with_reducible refine Fr_bd (fr_X11_payAt  ‹EqS S M0 _›) fun _ _ _ => ?_)
      | (with_reducible refine fr_X11_payAt  ‹EqS S M0 _›)
      | (with_reducible refine Fr_bd (fr_X11_paysFrom_b151 ?_ ?_ ?_ ‹EqS S M0 _›) fun _ _ _ => ?_)
      | (with_reducible refine fr_X11_paysFrom_b151 ?_ ?_ ?_ ‹EqS S M0 _›)
      | (with_reducible refine Fr_bd (fr_X11_isForgotten  ‹EqS S M0 _›) fun _ _ _ => ?_)
      | (with_reducible refine fr_X11_isForgotten  ‹EqS S M0 _›)
      | intro _)
theorem fr_X11_paysFrom_L66 {S : Nat → Bool} {a1 : Int32} {a2 : Int32} {a3 : Int32} {a4 : Int32} {K203 : Int32 → Int32 → mm → Option (Int64 × mm)} {M0 : mm} (hS : ∀ k, k ∈ [105] → S k = true) (hK203 : ∀ (y0 : Int32) (y1 : Int32) (M_ : mm), EqS S M0 M_ → Fr S M0 (K203 y0 y1 M_)) : ∀ (n_ : Nat) (z1 : Int32) (z2 : Int32) (z3 : Int32) (M : mm), EqS S M0 M → Fr S M0 (X11_paysFrom_L66 a1 a2 a3 a4 K203 n_ z1 z2 z3 M) := by
  intro n_
  induction n_ with
  | zero =>
    intros
    exact Fr_none
  | succ n_ ih =>
    intro z1 z2 z3 M e
    rw [X11_paysFrom_L66]
    repeat' (first
        | with_reducible assumption
        | with_reducible exact Fr_none
        | (with_reducible exact Fr_some ‹EqS S M0 _›)
        | (with_reducible refine Fr_gd fun _ => ?_)
        | (with_reducible refine Fr_ite ?_ ?_)
        | (with_reducible refine Fr_opt ?_ fun _ => ?_)
        | (with_reducible refine Fr_sA ?_ ‹EqS S M0 _› fun _ _ => ?_)
        | (with_reducible refine Fr_sR0 ‹EqS S M0 _› fun _ _ => ?_)
        | (with_reducible refine Fr_sL ?_ ‹EqS S M0 _› fun _ _ => ?_)
        | (with_reducible refine Fr_lt fun _ => ?_)
        | exact hS _ (by decide)
        | exact subL (by decide) hS
        | (with_reducible refine Fr_bd (hK203 _ _ _ ‹EqS S M0 _›) fun _ _ _ => ?_)
        | with_reducible exact hK203 _ _ _ ‹EqS S M0 _›
        | (with_reducible refine Fr_bd (fr_X11_wearsAt  ‹EqS S M0 _›) fun _ _ _ => ?_)
        | (with_reducible refine fr_X11_wearsAt  ‹EqS S M0 _›)
        | (with_reducible refine Fr_bd (fr_X11_paysFrom_b100 ?_ ?_ ?_ ‹EqS S M0 _›) fun _ _ _ => ?_)
        | (with_reducible refine fr_X11_paysFrom_b100 ?_ ?_ ?_ ‹EqS S M0 _›)
        | (with_reducible refine Fr_bd (ih _ _ _ _ ‹EqS S M0 _›) fun _ _ _ => ?_)
        | with_reducible exact ih _ _ _ _ ‹EqS S M0 _›
        | intro _)
theorem fr_X11_paysFrom_L57 {S : Nat → Bool} {a1 : Int32} {a2 : Int32} {a3 : Int32} {a4 : Int32} {K209 : Int32 → mm → Option (Int64 × mm)} {M0 : mm} (hS : ∀ k, k ∈ [105] → S k = true) (hK209 : ∀ (y0 : Int32) (M_ : mm), EqS S M0 M_ → Fr S M0 (K209 y0 M_)) : ∀ (n_ : Nat) (z1 : Int32) (z2 : Int32) (M : mm), EqS S M0 M → Fr S M0 (X11_paysFrom_L57 a1 a2 a3 a4 K209 n_ z1 z2 M) := by
  intro n_
  induction n_ with
  | zero =>
    intros
    exact Fr_none
  | succ n_ ih =>
    intro z1 z2 M e
    rw [X11_paysFrom_L57]
    repeat' (first
        | with_reducible assumption
        | with_reducible exact Fr_none
        | (with_reducible exact Fr_some ‹EqS S M0 _›)
        | (with_reducible refine Fr_gd fun _ => ?_)
        | (with_reducible refine Fr_ite ?_ ?_)
        | (with_reducible refine Fr_opt ?_ fun _ => ?_)
        | (with_reducible refine Fr_sA ?_ ‹EqS S M0 _› fun _ _ => ?_)
        | (with_reducible refine Fr_sR0 ‹EqS S M0 _› fun _ _ => ?_)
        | (with_reducible refine Fr_sL ?_ ‹EqS S M0 _› fun _ _ => ?_)
        | (with_reducible refine Fr_lt fun _ => ?_)
        | exact hS _ (by decide)
        | exact subL (by decide) hS
        | (with_reducible refine Fr_bd (hK209 _ _ ‹EqS S M0 _›) fun _ _ _ => ?_)
        | with_reducible exact hK209 _ _ ‹EqS S M0 _›
        | (with_reducible refine Fr_bd (fr_X11_paysFrom_L66 ?_ ?_ _ _ _ _ _ ‹EqS S M0 _›) fun _ _ _ => ?_)
        | (with_reducible refine fr_X11_paysFrom_L66 ?_ ?_ _ _ _ _ _ ‹EqS S M0 _›)
        | (with_reducible refine Fr_bd (ih _ _ _ ‹EqS S M0 _›) fun _ _ _ => ?_)
        | with_reducible exact ih _ _ _ ‹EqS S M0 _›
        | intro _)
theorem fr_X11_paysFrom_L48 {S : Nat → Bool} {a1 : Int32} {a2 : Int32} {a3 : Int32} {a4 : Int32} {K215 : mm → Option (Int64 × mm)} {M0 : mm} (hS : ∀ k, k ∈ [105] → S k = true) (hK215 : ∀  (M_ : mm), EqS S M0 M_ → Fr S M0 (K215  M_)) : ∀ (n_ : Nat) (z1 : Int32) (M : mm), EqS S M0 M → Fr S M0 (X11_paysFrom_L48 a1 a2 a3 a4 K215 n_ z1 M) := by
  intro n_
  induction n_ with
  | zero =>
    intros
    exact Fr_none
  | succ n_ ih =>
    intro z1 M e
    rw [X11_paysFrom_L48]
    repeat' (first
        | with_reducible assumption
        | with_reducible exact Fr_none
        | (with_reducible exact Fr_some ‹EqS S M0 _›)
        | (with_reducible refine Fr_gd fun _ => ?_)
        | (with_reducible refine Fr_ite ?_ ?_)
        | (with_reducible refine Fr_opt ?_ fun _ => ?_)
        | (with_reducible refine Fr_sA ?_ ‹EqS S M0 _› fun _ _ => ?_)
        | (with_reducible refine Fr_sR0 ‹EqS S M0 _› fun _ _ => ?_)
        | (with_reducible refine Fr_sL ?_ ‹EqS S M0 _› fun _ _ => ?_)
        | (with_reducible refine Fr_lt fun _ => ?_)
        | exact hS _ (by decide)
        | exact subL (by decide) hS
        | (with_reducible refine Fr_bd (hK215  _ ‹EqS S M0 _›) fun _ _ _ => ?_)
        | with_reducible exact hK215  _ ‹EqS S M0 _›
        | (with_reducible refine Fr_bd (fr_X11_paysFrom_L57 ?_ ?_ _ _ _ _ ‹EqS S M0 _›) fun _ _ _ => ?_)
        | (with_reducible refine fr_X11_paysFrom_L57 ?_ ?_ _ _ _ _ ‹EqS S M0 _›)
        | (with_reducible refine Fr_bd (ih _ _ ‹EqS S M0 _›) fun _ _ _ => ?_)
        | with_reducible exact ih _ _ ‹EqS S M0 _›
        | intro _)
theorem fr_X11_paysFrom {S : Nat → Bool} {a1 : Int32} {a2 : Int32} {a3 : Int32} {a4 : Int32} {M0 M : mm} (hS : ∀ k, k ∈ [105] → S k = true) (e : EqS S M0 M) : Fr S M0 (X11_paysFrom a1 a2 a3 a4 M) := by
  unfold X11_paysFrom
  repeat' (first
      | with_reducible assumption
      | with_reducible exact Fr_none
      | (with_reducible exact Fr_some ‹EqS S M0 _›)
      | (with_reducible refine Fr_gd fun _ => ?_)
      | (with_reducible refine Fr_ite ?_ ?_)
      | (with_reducible refine Fr_opt ?_ fun _ => ?_)
      | (with_reducible refine Fr_sA ?_ ‹EqS S M0 _› fun _ _ => ?_)
      | (with_reducible refine Fr_sR0 ‹EqS S M0 _› fun _ _ => ?_)
      | (with_reducible refine Fr_sL ?_ ‹EqS S M0 _› fun _ _ => ?_)
      | (with_reducible refine Fr_lt fun _ => ?_)
      | exact hS _ (by decide)
      | exact subL (by decide) hS
      | (with_reducible refine Fr_bd (fr_X11_paysFrom_L3 ?_ ?_ _ _ _ ‹EqS S M0 _›) fun _ _ _ => ?_)
      | (with_reducible refine fr_X11_paysFrom_L3 ?_ ?_ _ _ _ ‹EqS S M0 _›)
      | (with_reducible refine Fr_bd (fr_X11_paysFrom_L48 ?_ ?_ _ _ _ ‹EqS S M0 _›) fun _ _ _ => ?_)
      | (with_reducible refine fr_X11_paysFrom_L48 ?_ ?_ _ _ _ ‹EqS S M0 _›)
      | (with_reducible refine Fr_bd (fr_X11_payAt  ‹EqS S M0 _›) fun _ _ _ => ?_)
      | (with_reducible refine fr_X11_payAt  ‹EqS S M0 _›)
      | intro _)
theorem fr_X11_smith_b98 {S : Nat → Bool} {a1 : Int32} {a2 : Int32} {a3 : Int32} {a4 : Int32} {x5 : Int32} {x6 : Int32} {s0 : Int32} {M0 M : mm} (hS : ∀ k, k ∈ [82, 100, 101, 102, 103, 104, 105] → S k = true) (e : EqS S M0 M) : Fr S M0 (X11_smith_b98 a1 a2 a3 a4 x5 x6 s0 M) := by
  unfold X11_smith_b98
  repeat' (first
      | with_reducible assumption
      | with_reducible exact Fr_none
      | (with_reducible exact Fr_some ‹EqS S M0 _›)
      | (with_reducible refine Fr_gd fun _ => ?_)
      | (with_reducible refine Fr_ite ?_ ?_)
      | (with_reducible refine Fr_opt ?_ fun _ => ?_)
      | (with_reducible refine Fr_sA ?_ ‹EqS S M0 _› fun _ _ => ?_)
      | (with_reducible refine Fr_sR0 ‹EqS S M0 _› fun _ _ => ?_)
      | (with_reducible refine Fr_sL ?_ ‹EqS S M0 _› fun _ _ => ?_)
      | (with_reducible refine Fr_lt fun _ => ?_)
      | exact hS _ (by decide)
      | exact subL (by decide) hS
      | (with_reducible refine Fr_bd (fr_X11_thinksOf ?_ ‹EqS S M0 _›) fun _ _ _ => ?_)
      | (with_reducible refine fr_X11_thinksOf ?_ ‹EqS S M0 _›)
      | (with_reducible refine Fr_bd (fr_X11_paysFrom ?_ ‹EqS S M0 _›) fun _ _ _ => ?_)
      | (with_reducible refine fr_X11_paysFrom ?_ ‹EqS S M0 _›)
      | (with_reducible refine Fr_bd (fr_X11_partOf  ‹EqS S M0 _›) fun _ _ _ => ?_)
      | (with_reducible refine fr_X11_partOf  ‹EqS S M0 _›)
      | (with_reducible refine Fr_bd (fr_X11_worksOut ?_ ‹EqS S M0 _›) fun _ _ _ => ?_)
      | (with_reducible refine fr_X11_worksOut ?_ ‹EqS S M0 _›)
      | (with_reducible refine Fr_bd (fr_X11_goes  ‹EqS S M0 _›) fun _ _ _ => ?_)
      | (with_reducible refine fr_X11_goes  ‹EqS S M0 _›)
      | (with_reducible refine Fr_bd (fr_X11_sortFor  ‹EqS S M0 _›) fun _ _ _ => ?_)
      | (with_reducible refine fr_X11_sortFor  ‹EqS S M0 _›)
      | intro _)
theorem fr_X11_smith {S : Nat → Bool} {a1 : Int32} {a2 : Int32} {a3 : Int32} {a4 : Int32} {M0 M : mm} (hS : ∀ k, k ∈ [82, 100, 101, 102, 103, 104, 105] → S k = true) (e : EqS S M0 M) : Fr S M0 (X11_smith a1 a2 a3 a4 M) := by
  unfold X11_smith
  repeat' (first
      | with_reducible assumption
      | with_reducible exact Fr_none
      | (with_reducible exact Fr_some ‹EqS S M0 _›)
      | (with_reducible refine Fr_gd fun _ => ?_)
      | (with_reducible refine Fr_ite ?_ ?_)
      | (with_reducible refine Fr_opt ?_ fun _ => ?_)
      | (with_reducible refine Fr_sA ?_ ‹EqS S M0 _› fun _ _ => ?_)
      | (with_reducible refine Fr_sR0 ‹EqS S M0 _› fun _ _ => ?_)
      | (with_reducible refine Fr_sL ?_ ‹EqS S M0 _› fun _ _ => ?_)
      | (with_reducible refine Fr_lt fun _ => ?_)
      | exact hS _ (by decide)
      | exact subL (by decide) hS
      | (with_reducible refine Fr_bd (fr_X11_isTy  ‹EqS S M0 _›) fun _ _ _ => ?_)
      | (with_reducible refine fr_X11_isTy  ‹EqS S M0 _›)
      | (with_reducible refine Fr_bd (fr_X11_isPerson  ‹EqS S M0 _›) fun _ _ _ => ?_)
      | (with_reducible refine fr_X11_isPerson  ‹EqS S M0 _›)
      | (with_reducible refine Fr_bd (fr_X11_within  ‹EqS S M0 _›) fun _ _ _ => ?_)
      | (with_reducible refine fr_X11_within  ‹EqS S M0 _›)
      | (with_reducible refine Fr_bd (fr_X11_smith_b98 ?_ ‹EqS S M0 _›) fun _ _ _ => ?_)
      | (with_reducible refine fr_X11_smith_b98 ?_ ‹EqS S M0 _›)
      | intro _)
theorem fr_X11_gift {S : Nat → Bool} {a1 : Int32} {a2 : Int32} {a3 : Int32} {M0 M : mm} (hS : ∀ k, k ∈ [82, 100, 101, 102, 103, 104] → S k = true) (e : EqS S M0 M) : Fr S M0 (X11_gift a1 a2 a3 M) := by
  unfold X11_gift
  repeat' (first
      | with_reducible assumption
      | with_reducible exact Fr_none
      | (with_reducible exact Fr_some ‹EqS S M0 _›)
      | (with_reducible refine Fr_gd fun _ => ?_)
      | (with_reducible refine Fr_ite ?_ ?_)
      | (with_reducible refine Fr_opt ?_ fun _ => ?_)
      | (with_reducible refine Fr_sA ?_ ‹EqS S M0 _› fun _ _ => ?_)
      | (with_reducible refine Fr_sR0 ‹EqS S M0 _› fun _ _ => ?_)
      | (with_reducible refine Fr_sL ?_ ‹EqS S M0 _› fun _ _ => ?_)
      | (with_reducible refine Fr_lt fun _ => ?_)
      | exact hS _ (by decide)
      | exact subL (by decide) hS
      | (with_reducible refine Fr_bd (fr_X11_isTy  ‹EqS S M0 _›) fun _ _ _ => ?_)
      | (with_reducible refine fr_X11_isTy  ‹EqS S M0 _›)
      | (with_reducible refine Fr_bd (fr_X11_isPerson  ‹EqS S M0 _›) fun _ _ _ => ?_)
      | (with_reducible refine fr_X11_isPerson  ‹EqS S M0 _›)
      | (with_reducible refine Fr_bd (fr_X11_within  ‹EqS S M0 _›) fun _ _ _ => ?_)
      | (with_reducible refine fr_X11_within  ‹EqS S M0 _›)
      | (with_reducible refine Fr_bd (fr_X11_bestOf ?_ ‹EqS S M0 _›) fun _ _ _ => ?_)
      | (with_reducible refine fr_X11_bestOf ?_ ‹EqS S M0 _›)
      | (with_reducible refine Fr_bd (fr_X11_partOf  ‹EqS S M0 _›) fun _ _ _ => ?_)
      | (with_reducible refine fr_X11_partOf  ‹EqS S M0 _›)
      | intro _)
theorem fr_X11_debts_b119 {S : Nat → Bool} {a1 : Int32} {a2 : Int32} {R43 : Int64 → Int32 → mm → Option (Int64 × mm)} {K125 : Int64 → mm → Option (Int64 × mm)} {x3 : Int64} {x5 : Int32} {M0 M : mm} (hR43 : ∀ (y0 : Int64) (y1 : Int32) (M_ : mm), EqS S M0 M_ → Fr S M0 (R43 y0 y1 M_)) (hK125 : ∀ (y0 : Int64) (M_ : mm), EqS S M0 M_ → Fr S M0 (K125 y0 M_)) (e : EqS S M0 M) : Fr S M0 (X11_debts_b119 a1 a2 R43 K125 x3 x5 M) := by
  unfold X11_debts_b119
  repeat' (first
      | with_reducible assumption
      | with_reducible exact Fr_none
      | (with_reducible exact Fr_some ‹EqS S M0 _›)
      | (with_reducible refine Fr_gd fun _ => ?_)
      | (with_reducible refine Fr_ite ?_ ?_)
      | (with_reducible refine Fr_opt ?_ fun _ => ?_)
      | (with_reducible refine Fr_sA ?_ ‹EqS S M0 _› fun _ _ => ?_)
      | (with_reducible refine Fr_sR0 ‹EqS S M0 _› fun _ _ => ?_)
      | (with_reducible refine Fr_sL ?_ ‹EqS S M0 _› fun _ _ => ?_)
      | (with_reducible refine Fr_lt fun _ => ?_)
      | (with_reducible refine Fr_bd (hR43 _ _ _ ‹EqS S M0 _›) fun _ _ _ => ?_)
      | with_reducible exact hR43 _ _ _ ‹EqS S M0 _›
      | (with_reducible refine Fr_bd (hK125 _ _ ‹EqS S M0 _›) fun _ _ _ => ?_)
      | with_reducible exact hK125 _ _ ‹EqS S M0 _›
      | intro _)
theorem fr_X11_debts_L43 {S : Nat → Bool} {a1 : Int32} {a2 : Int32} {K125 : Int64 → mm → Option (Int64 × mm)} {M0 : mm} (hS : ∀ k, k ∈ [82, 100, 101, 102, 105] → S k = true) (hK125 : ∀ (y0 : Int64) (M_ : mm), EqS S M0 M_ → Fr S M0 (K125 y0 M_)) : ∀ (n_ : Nat) (z1 : Int64) (z2 : Int32) (M : mm), EqS S M0 M → Fr S M0 (X11_debts_L43 a1 a2 K125 n_ z1 z2 M) := by
  intro n_
  induction n_ with
  | zero =>
    intros
    exact Fr_none
  | succ n_ ih =>
    intro z1 z2 M e
    rw [X11_debts_L43]
    repeat' (first
        | with_reducible assumption
        | with_reducible exact Fr_none
        | (with_reducible exact Fr_some ‹EqS S M0 _›)
        | (with_reducible refine Fr_gd fun _ => ?_)
        | (with_reducible refine Fr_ite ?_ ?_)
        | (with_reducible refine Fr_opt ?_ fun _ => ?_)
        | (with_reducible refine Fr_sA ?_ ‹EqS S M0 _› fun _ _ => ?_)
        | (with_reducible refine Fr_sR0 ‹EqS S M0 _› fun _ _ => ?_)
        | (with_reducible refine Fr_sL ?_ ‹EqS S M0 _› fun _ _ => ?_)
        | (with_reducible refine Fr_lt fun _ => ?_)
        | exact hS _ (by decide)
        | exact subL (by decide) hS
        | (with_reducible refine Fr_bd (hK125 _ _ ‹EqS S M0 _›) fun _ _ _ => ?_)
        | with_reducible exact hK125 _ _ ‹EqS S M0 _›
        | (with_reducible refine Fr_bd (fr_X11_thinksOf ?_ ‹EqS S M0 _›) fun _ _ _ => ?_)
        | (with_reducible refine fr_X11_thinksOf ?_ ‹EqS S M0 _›)
        | (with_reducible refine Fr_bd (fr_X11_paysFrom ?_ ‹EqS S M0 _›) fun _ _ _ => ?_)
        | (with_reducible refine fr_X11_paysFrom ?_ ‹EqS S M0 _›)
        | (with_reducible refine Fr_bd (fr_X11_debts_b119 ?_ ?_ ‹EqS S M0 _›) fun _ _ _ => ?_)
        | (with_reducible refine fr_X11_debts_b119 ?_ ?_ ‹EqS S M0 _›)
        | (with_reducible refine Fr_bd (ih _ _ _ ‹EqS S M0 _›) fun _ _ _ => ?_)
        | with_reducible exact ih _ _ _ ‹EqS S M0 _›
        | intro _)
theorem fr_X11_debts_b145 {S : Nat → Bool} {a1 : Int32} {a2 : Int32} {s0 : Int64} {s1 : Int64} {M0 M : mm}  (e : EqS S M0 M) : Fr S M0 (X11_debts_b145 a1 a2 s0 s1 M) := by
  unfold X11_debts_b145
  repeat' (first
      | with_reducible assumption
      | with_reducible exact Fr_none
      | (with_reducible exact Fr_some ‹EqS S M0 _›)
      | (with_reducible refine Fr_gd fun _ => ?_)
      | (with_reducible refine Fr_ite ?_ ?_)
      | (with_reducible refine Fr_opt ?_ fun _ => ?_)
      | (with_reducible refine Fr_sA ?_ ‹EqS S M0 _› fun _ _ => ?_)
      | (with_reducible refine Fr_sR0 ‹EqS S M0 _› fun _ _ => ?_)
      | (with_reducible refine Fr_sL ?_ ‹EqS S M0 _› fun _ _ => ?_)
      | (with_reducible refine Fr_lt fun _ => ?_)
      | (with_reducible refine Fr_bd (fr_X11_partOf  ‹EqS S M0 _›) fun _ _ _ => ?_)
      | (with_reducible refine fr_X11_partOf  ‹EqS S M0 _›)
      | intro _)
theorem fr_X11_debts {S : Nat → Bool} {a1 : Int32} {a2 : Int32} {M0 M : mm} (hS : ∀ k, k ∈ [82, 100, 101, 102, 105] → S k = true) (e : EqS S M0 M) : Fr S M0 (X11_debts a1 a2 M) := by
  unfold X11_debts
  repeat' (first
      | with_reducible assumption
      | with_reducible exact Fr_none
      | (with_reducible exact Fr_some ‹EqS S M0 _›)
      | (with_reducible refine Fr_gd fun _ => ?_)
      | (with_reducible refine Fr_ite ?_ ?_)
      | (with_reducible refine Fr_opt ?_ fun _ => ?_)
      | (with_reducible refine Fr_sA ?_ ‹EqS S M0 _› fun _ _ => ?_)
      | (with_reducible refine Fr_sR0 ‹EqS S M0 _› fun _ _ => ?_)
      | (with_reducible refine Fr_sL ?_ ‹EqS S M0 _› fun _ _ => ?_)
      | (with_reducible refine Fr_lt fun _ => ?_)
      | exact hS _ (by decide)
      | exact subL (by decide) hS
      | (with_reducible refine Fr_bd (fr_X11_isPerson  ‹EqS S M0 _›) fun _ _ _ => ?_)
      | (with_reducible refine fr_X11_isPerson  ‹EqS S M0 _›)
      | (with_reducible refine Fr_bd (fr_X11_within  ‹EqS S M0 _›) fun _ _ _ => ?_)
      | (with_reducible refine fr_X11_within  ‹EqS S M0 _›)
      | (with_reducible refine Fr_bd (fr_X11_debts_L43 ?_ ?_ _ _ _ _ ‹EqS S M0 _›) fun _ _ _ => ?_)
      | (with_reducible refine fr_X11_debts_L43 ?_ ?_ _ _ _ _ ‹EqS S M0 _›)
      | (with_reducible refine Fr_bd (fr_X11_debts_b145  ‹EqS S M0 _›) fun _ _ _ => ?_)
      | (with_reducible refine fr_X11_debts_b145  ‹EqS S M0 _›)
      | intro _)
theorem fr_X11_asksBest_L50 {S : Nat → Bool} {K85 : Int32 → mm → Option (Unit × mm)} {M0 : mm} (hS : ∀ k, k ∈ [106] → S k = true) (hK85 : ∀ (y0 : Int32) (M_ : mm), EqS S M0 M_ → Fr S M0 (K85 y0 M_)) : ∀ (n_ : Nat) (z1 : Int32) (z2 : Int32) (M : mm), EqS S M0 M → Fr S M0 (X11_asksBest_L50 K85 n_ z1 z2 M) := by
  intro n_
  induction n_ with
  | zero =>
    intros
    exact Fr_none
  | succ n_ ih =>
    intro z1 z2 M e
    rw [X11_asksBest_L50]
    repeat' (first
        | with_reducible assumption
        | with_reducible exact Fr_none
        | (with_reducible exact Fr_some ‹EqS S M0 _›)
        | (with_reducible refine Fr_gd fun _ => ?_)
        | (with_reducible refine Fr_ite ?_ ?_)
        | (with_reducible refine Fr_opt ?_ fun _ => ?_)
        | (with_reducible refine Fr_sA ?_ ‹EqS S M0 _› fun _ _ => ?_)
        | (with_reducible refine Fr_sR0 ‹EqS S M0 _› fun _ _ => ?_)
        | (with_reducible refine Fr_sL ?_ ‹EqS S M0 _› fun _ _ => ?_)
        | (with_reducible refine Fr_lt fun _ => ?_)
        | exact hS _ (by decide)
        | exact subL (by decide) hS
        | (with_reducible refine Fr_bd (hK85 _ _ ‹EqS S M0 _›) fun _ _ _ => ?_)
        | with_reducible exact hK85 _ _ ‹EqS S M0 _›
        | (with_reducible refine Fr_bd (ih _ _ _ ‹EqS S M0 _›) fun _ _ _ => ?_)
        | with_reducible exact ih _ _ _ ‹EqS S M0 _›
        | intro _)
theorem fr_X11_asksBest_b85 {S : Nat → Bool} {R2 : Int32 → mm → Option (Unit × mm)} {x1 : Int32} {M0 M : mm} (hR2 : ∀ (y0 : Int32) (M_ : mm), EqS S M0 M_ → Fr S M0 (R2 y0 M_)) (e : EqS S M0 M) : Fr S M0 (X11_asksBest_b85 R2 x1 M) := by
  unfold X11_asksBest_b85
  repeat' (first
      | with_reducible assumption
      | with_reducible exact Fr_none
      | (with_reducible exact Fr_some ‹EqS S M0 _›)
      | (with_reducible refine Fr_gd fun _ => ?_)
      | (with_reducible refine Fr_ite ?_ ?_)
      | (with_reducible refine Fr_opt ?_ fun _ => ?_)
      | (with_reducible refine Fr_sA ?_ ‹EqS S M0 _› fun _ _ => ?_)
      | (with_reducible refine Fr_sR0 ‹EqS S M0 _› fun _ _ => ?_)
      | (with_reducible refine Fr_sL ?_ ‹EqS S M0 _› fun _ _ => ?_)
      | (with_reducible refine Fr_lt fun _ => ?_)
      | (with_reducible refine Fr_bd (hR2 _ _ ‹EqS S M0 _›) fun _ _ _ => ?_)
      | with_reducible exact hR2 _ _ ‹EqS S M0 _›
      | intro _)
theorem fr_X11_asksBest_L2 {S : Nat → Bool}  {M0 : mm} (hS : ∀ k, k ∈ [82, 100, 101, 102, 103, 104, 106] → S k = true) : ∀ (n_ : Nat) (z1 : Int32) (M : mm), EqS S M0 M → Fr S M0 (X11_asksBest_L2  n_ z1 M) := by
  intro n_
  induction n_ with
  | zero =>
    intros
    exact Fr_none
  | succ n_ ih =>
    intro z1 M e
    rw [X11_asksBest_L2]
    repeat' (first
        | with_reducible assumption
        | with_reducible exact Fr_none
        | (with_reducible exact Fr_some ‹EqS S M0 _›)
        | (with_reducible refine Fr_gd fun _ => ?_)
        | (with_reducible refine Fr_ite ?_ ?_)
        | (with_reducible refine Fr_opt ?_ fun _ => ?_)
        | (with_reducible refine Fr_sA ?_ ‹EqS S M0 _› fun _ _ => ?_)
        | (with_reducible refine Fr_sR0 ‹EqS S M0 _› fun _ _ => ?_)
        | (with_reducible refine Fr_sL ?_ ‹EqS S M0 _› fun _ _ => ?_)
        | (with_reducible refine Fr_lt fun _ => ?_)
        | exact hS _ (by decide)
        | exact subL (by decide) hS
        | (with_reducible refine Fr_bd (fr_X11_thinksOf ?_ ‹EqS S M0 _›) fun _ _ _ => ?_)
        | (with_reducible refine fr_X11_thinksOf ?_ ‹EqS S M0 _›)
        | (with_reducible refine Fr_bd (fr_X11_worksOut ?_ ‹EqS S M0 _›) fun _ _ _ => ?_)
        | (with_reducible refine fr_X11_worksOut ?_ ‹EqS S M0 _›)
        | (with_reducible refine Fr_bd (fr_X11_asksBest_L50 ?_ ?_ _ _ _ _ ‹EqS S M0 _›) fun _ _ _ => ?_)
        | (with_reducible refine fr_X11_asksBest_L50 ?_ ?_ _ _ _ _ ‹EqS S M0 _›)
        | (with_reducible refine Fr_bd (fr_X11_asksBest_b85 ?_ ‹EqS S M0 _›) fun _ _ _ => ?_)
        | (with_reducible refine fr_X11_asksBest_b85 ?_ ‹EqS S M0 _›)
        | (with_reducible refine Fr_bd (ih _ _ ‹EqS S M0 _›) fun _ _ _ => ?_)
        | with_reducible exact ih _ _ ‹EqS S M0 _›
        | intro _)
theorem fr_X11_asksBest {S : Nat → Bool}  {M0 M : mm} (hS : ∀ k, k ∈ [82, 100, 101, 102, 103, 104, 106] → S k = true) (e : EqS S M0 M) : Fr S M0 (X11_asksBest  M) := by
  unfold X11_asksBest
  repeat' (first
      | with_reducible assumption
      | with_reducible exact Fr_none
      | (with_reducible exact Fr_some ‹EqS S M0 _›)
      | (with_reducible refine Fr_gd fun _ => ?_)
      | (with_reducible refine Fr_ite ?_ ?_)
      | (with_reducible refine Fr_opt ?_ fun _ => ?_)
      | (with_reducible refine Fr_sA ?_ ‹EqS S M0 _› fun _ _ => ?_)
      | (with_reducible refine Fr_sR0 ‹EqS S M0 _› fun _ _ => ?_)
      | (with_reducible refine Fr_sL ?_ ‹EqS S M0 _› fun _ _ => ?_)
      | (with_reducible refine Fr_lt fun _ => ?_)
      | exact hS _ (by decide)
      | exact subL (by decide) hS
      | (with_reducible refine Fr_bd (fr_X11_asksBest_L2 ?_ _ _ _ ‹EqS S M0 _›) fun _ _ _ => ?_)
      | (with_reducible refine fr_X11_asksBest_L2 ?_ _ _ _ ‹EqS S M0 _›)
      | intro _)
theorem fr_X11_mendsNow {S : Nat → Bool} {a1 : Int32} {M0 M : mm}  (e : EqS S M0 M) : Fr S M0 (X11_mendsNow a1 M) := by
  unfold X11_mendsNow
  repeat' (first
      | with_reducible assumption
      | with_reducible exact Fr_none
      | (with_reducible exact Fr_some ‹EqS S M0 _›)
      | (with_reducible refine Fr_gd fun _ => ?_)
      | (with_reducible refine Fr_ite ?_ ?_)
      | (with_reducible refine Fr_opt ?_ fun _ => ?_)
      | (with_reducible refine Fr_sA ?_ ‹EqS S M0 _› fun _ _ => ?_)
      | (with_reducible refine Fr_sR0 ‹EqS S M0 _› fun _ _ => ?_)
      | (with_reducible refine Fr_sL ?_ ‹EqS S M0 _› fun _ _ => ?_)
      | (with_reducible refine Fr_lt fun _ => ?_)
      | (with_reducible refine Fr_bd (fr_X11_sortFor  ‹EqS S M0 _›) fun _ _ _ => ?_)
      | (with_reducible refine fr_X11_sortFor  ‹EqS S M0 _›)
      | (with_reducible refine Fr_bd (fr_X11_placeOf  ‹EqS S M0 _›) fun _ _ _ => ?_)
      | (with_reducible refine fr_X11_placeOf  ‹EqS S M0 _›)
      | intro _)
theorem fr_X11_mended_L109 {S : Nat → Bool} {a1 : Int32} {a2 : Int32} {K145 : mm → Option (Unit × mm)} {M0 : mm} (hS : ∀ k, k ∈ [95] → S k = true) (hK145 : ∀  (M_ : mm), EqS S M0 M_ → Fr S M0 (K145  M_)) : ∀ (n_ : Nat) (z1 : Int32) (M : mm), EqS S M0 M → Fr S M0 (X11_mended_L109 a1 a2 K145 n_ z1 M) := by
  intro n_
  induction n_ with
  | zero =>
    intros
    exact Fr_none
  | succ n_ ih =>
    intro z1 M e
    rw [X11_mended_L109]
    repeat' (first
        | with_reducible assumption
        | with_reducible exact Fr_none
        | (with_reducible exact Fr_some ‹EqS S M0 _›)
        | (with_reducible refine Fr_gd fun _ => ?_)
        | (with_reducible refine Fr_ite ?_ ?_)
        | (with_reducible refine Fr_opt ?_ fun _ => ?_)
        | (with_reducible refine Fr_sA ?_ ‹EqS S M0 _› fun _ _ => ?_)
        | (with_reducible refine Fr_sR0 ‹EqS S M0 _› fun _ _ => ?_)
        | (with_reducible refine Fr_sL ?_ ‹EqS S M0 _› fun _ _ => ?_)
        | (with_reducible refine Fr_lt fun _ => ?_)
        | exact hS _ (by decide)
        | exact subL (by decide) hS
        | (with_reducible refine Fr_bd (hK145  _ ‹EqS S M0 _›) fun _ _ _ => ?_)
        | with_reducible exact hK145  _ ‹EqS S M0 _›
        | (with_reducible refine Fr_bd (ih _ _ ‹EqS S M0 _›) fun _ _ _ => ?_)
        | with_reducible exact ih _ _ ‹EqS S M0 _›
        | intro _)
theorem fr_X11_mended_b155 {S : Nat → Bool} {a1 : Int32} {a2 : Int32} {M0 M : mm} (hS : ∀ k, k ∈ [95, 96] → S k = true) (e : EqS S M0 M) : Fr S M0 (X11_mended_b155 a1 a2 M) := by
  unfold X11_mended_b155
  repeat' (first
      | with_reducible assumption
      | with_reducible exact Fr_none
      | (with_reducible exact Fr_some ‹EqS S M0 _›)
      | (with_reducible refine Fr_gd fun _ => ?_)
      | (with_reducible refine Fr_ite ?_ ?_)
      | (with_reducible refine Fr_opt ?_ fun _ => ?_)
      | (with_reducible refine Fr_sA ?_ ‹EqS S M0 _› fun _ _ => ?_)
      | (with_reducible refine Fr_sR0 ‹EqS S M0 _› fun _ _ => ?_)
      | (with_reducible refine Fr_sL ?_ ‹EqS S M0 _› fun _ _ => ?_)
      | (with_reducible refine Fr_lt fun _ => ?_)
      | exact hS _ (by decide)
      | exact subL (by decide) hS
      | intro _)
theorem fr_X11_mended_b35 {S : Nat → Bool} {a1 : Int32} {a2 : Int32} {s1 : Int32} {s2 : Int32} {M0 M : mm} (hS : ∀ k, k ∈ [87, 89, 91, 92, 93, 94, 95, 96] → S k = true) (e : EqS S M0 M) : Fr S M0 (X11_mended_b35 a1 a2 s1 s2 M) := by
  unfold X11_mended_b35
  repeat' (first
      | with_reducible assumption
      | with_reducible exact Fr_none
      | (with_reducible exact Fr_some ‹EqS S M0 _›)
      | (with_reducible refine Fr_gd fun _ => ?_)
      | (with_reducible refine Fr_ite ?_ ?_)
      | (with_reducible refine Fr_opt ?_ fun _ => ?_)
      | (with_reducible refine Fr_sA ?_ ‹EqS S M0 _› fun _ _ => ?_)
      | (with_reducible refine Fr_sR0 ‹EqS S M0 _› fun _ _ => ?_)
      | (with_reducible refine Fr_sL ?_ ‹EqS S M0 _› fun _ _ => ?_)
      | (with_reducible refine Fr_lt fun _ => ?_)
      | exact hS _ (by decide)
      | exact subL (by decide) hS
      | (with_reducible refine Fr_bd (fr_X11_mended_L109 ?_ ?_ _ _ _ ‹EqS S M0 _›) fun _ _ _ => ?_)
      | (with_reducible refine fr_X11_mended_L109 ?_ ?_ _ _ _ ‹EqS S M0 _›)
      | (with_reducible refine Fr_bd (fr_X11_mended_b155 ?_ ‹EqS S M0 _›) fun _ _ _ => ?_)
      | (with_reducible refine fr_X11_mended_b155 ?_ ‹EqS S M0 _›)
      | intro _)
theorem fr_X11_mended {S : Nat → Bool} {a1 : Int32} {a2 : Int32} {M0 M : mm} (hS : ∀ k, k ∈ [87, 89, 91, 92, 93, 94, 95, 96] → S k = true) (e : EqS S M0 M) : Fr S M0 (X11_mended a1 a2 M) := by
  unfold X11_mended
  repeat' (first
      | with_reducible assumption
      | with_reducible exact Fr_none
      | (with_reducible exact Fr_some ‹EqS S M0 _›)
      | (with_reducible refine Fr_gd fun _ => ?_)
      | (with_reducible refine Fr_ite ?_ ?_)
      | (with_reducible refine Fr_opt ?_ fun _ => ?_)
      | (with_reducible refine Fr_sA ?_ ‹EqS S M0 _› fun _ _ => ?_)
      | (with_reducible refine Fr_sR0 ‹EqS S M0 _› fun _ _ => ?_)
      | (with_reducible refine Fr_sL ?_ ‹EqS S M0 _› fun _ _ => ?_)
      | (with_reducible refine Fr_lt fun _ => ?_)
      | exact hS _ (by decide)
      | exact subL (by decide) hS
      | (with_reducible refine Fr_bd (fr_X11_mended_b35 ?_ ‹EqS S M0 _›) fun _ _ _ => ?_)
      | (with_reducible refine fr_X11_mended_b35 ?_ ‹EqS S M0 _›)
      | intro _)
theorem fr_X11_pays {S : Nat → Bool} {a1 : Int32} {a2 : Int32} {M0 M : mm} (hS : ∀ k, k ∈ [87, 88] → S k = true) (e : EqS S M0 M) : Fr S M0 (X11_pays a1 a2 M) := by
  unfold X11_pays
  repeat' (first
      | with_reducible assumption
      | with_reducible exact Fr_none
      | (with_reducible exact Fr_some ‹EqS S M0 _›)
      | (with_reducible refine Fr_gd fun _ => ?_)
      | (with_reducible refine Fr_ite ?_ ?_)
      | (with_reducible refine Fr_opt ?_ fun _ => ?_)
      | (with_reducible refine Fr_sA ?_ ‹EqS S M0 _› fun _ _ => ?_)
      | (with_reducible refine Fr_sR0 ‹EqS S M0 _› fun _ _ => ?_)
      | (with_reducible refine Fr_sL ?_ ‹EqS S M0 _› fun _ _ => ?_)
      | (with_reducible refine Fr_lt fun _ => ?_)
      | exact hS _ (by decide)
      | exact subL (by decide) hS
      | intro _)
theorem fr_X11_breaks_b152 {S : Nat → Bool} {a1 : Int32} {x3 : Int32} {x5 : Int32} {x6 : Int32} {M0 M : mm} (hS : ∀ k, k ∈ [82, 87, 88, 91, 92, 93, 94, 97] → S k = true) (e : EqS S M0 M) : Fr S M0 (X11_breaks_b152 a1 x3 x5 x6 M) := by
  unfold X11_breaks_b152
  repeat' (first
      | with_reducible assumption
      | with_reducible exact Fr_none
      | (with_reducible exact Fr_some ‹EqS S M0 _›)
      | (with_reducible refine Fr_gd fun _ => ?_)
      | (with_reducible refine Fr_ite ?_ ?_)
      | (with_reducible refine Fr_opt ?_ fun _ => ?_)
      | (with_reducible refine Fr_sA ?_ ‹EqS S M0 _› fun _ _ => ?_)
      | (with_reducible refine Fr_sR0 ‹EqS S M0 _› fun _ _ => ?_)
      | (with_reducible refine Fr_sL ?_ ‹EqS S M0 _› fun _ _ => ?_)
      | (with_reducible refine Fr_lt fun _ => ?_)
      | exact hS _ (by decide)
      | exact subL (by decide) hS
      | (with_reducible refine Fr_bd (fr_X11_pays ?_ ‹EqS S M0 _›) fun _ _ _ => ?_)
      | (with_reducible refine fr_X11_pays ?_ ‹EqS S M0 _›)
      | intro _)
theorem fr_X11_breaks_b133 {S : Nat → Bool} {a1 : Int32} {x3 : Int32} {x5 : Int32} {s0 : Int32} {M0 M : mm} (hS : ∀ k, k ∈ [82, 87, 88, 91, 92, 93, 94, 97] → S k = true) (e : EqS S M0 M) : Fr S M0 (X11_breaks_b133 a1 x3 x5 s0 M) := by
  unfold X11_breaks_b133
  repeat' (first
      | with_reducible assumption
      | with_reducible exact Fr_none
      | (with_reducible exact Fr_some ‹EqS S M0 _›)
      | (with_reducible refine Fr_gd fun _ => ?_)
      | (with_reducible refine Fr_ite ?_ ?_)
      | (with_reducible refine Fr_opt ?_ fun _ => ?_)
      | (with_reducible refine Fr_sA ?_ ‹EqS S M0 _› fun _ _ => ?_)
      | (with_reducible refine Fr_sR0 ‹EqS S M0 _› fun _ _ => ?_)
      | (with_reducible refine Fr_sL ?_ ‹EqS S M0 _› fun _ _ => ?_)
      | (with_reducible refine Fr_lt fun _ => ?_)
      | exact hS _ (by decide)
      | exact subL (by decide) hS
      | (with_reducible refine Fr_bd (fr_X11_pays ?_ ‹EqS S M0 _›) fun _ _ _ => ?_)
      | (with_reducible refine fr_X11_pays ?_ ‹EqS S M0 _›)
      | (with_reducible refine Fr_bd (fr_X11_breaks_b152 ?_ ‹EqS S M0 _›) fun _ _ _ => ?_)
      | (with_reducible refine fr_X11_breaks_b152 ?_ ‹EqS S M0 _›)
      | intro _)
theorem fr_X11_breaks_b132 {S : Nat → Bool} {a1 : Int32} {x3 : Int32} {x5 : Int32} {M0 M : mm} (hS : ∀ k, k ∈ [82, 87, 88, 91, 92, 93, 94, 97] → S k = true) (e : EqS S M0 M) : Fr S M0 (X11_breaks_b132 a1 x3 x5 M) := by
  unfold X11_breaks_b132
  repeat' (first
      | with_reducible assumption
      | with_reducible exact Fr_none
      | (with_reducible exact Fr_some ‹EqS S M0 _›)
      | (with_reducible refine Fr_gd fun _ => ?_)
      | (with_reducible refine Fr_ite ?_ ?_)
      | (with_reducible refine Fr_opt ?_ fun _ => ?_)
      | (with_reducible refine Fr_sA ?_ ‹EqS S M0 _› fun _ _ => ?_)
      | (with_reducible refine Fr_sR0 ‹EqS S M0 _› fun _ _ => ?_)
      | (with_reducible refine Fr_sL ?_ ‹EqS S M0 _› fun _ _ => ?_)
      | (with_reducible refine Fr_lt fun _ => ?_)
      | exact hS _ (by decide)
      | exact subL (by decide) hS
      | (with_reducible refine Fr_bd (fr_X11_breaks_b133 ?_ ‹EqS S M0 _›) fun _ _ _ => ?_)
      | (with_reducible refine fr_X11_breaks_b133 ?_ ‹EqS S M0 _›)
      | intro _)
theorem fr_X11_breaks_b102 {S : Nat → Bool} {a1 : Int32} {x3 : Int32} {x4 : Int32} {s0 : Int32} {M0 M : mm} (hS : ∀ k, k ∈ [82, 87, 88, 91, 92, 93, 94, 97] → S k = true) (e : EqS S M0 M) : Fr S M0 (X11_breaks_b102 a1 x3 x4 s0 M) := by
  unfold X11_breaks_b102
  repeat' (first
      | with_reducible assumption
      | with_reducible exact Fr_none
      | (with_reducible exact Fr_some ‹EqS S M0 _›)
      | (with_reducible refine Fr_gd fun _ => ?_)
      | (with_reducible refine Fr_ite ?_ ?_)
      | (with_reducible refine Fr_opt ?_ fun _ => ?_)
      | (with_reducible refine Fr_sA ?_ ‹EqS S M0 _› fun _ _ => ?_)
      | (with_reducible refine Fr_sR0 ‹EqS S M0 _› fun _ _ => ?_)
      | (with_reducible refine Fr_sL ?_ ‹EqS S M0 _› fun _ _ => ?_)
      | (with_reducible refine Fr_lt fun _ => ?_)
      | exact hS _ (by decide)
      | exact subL (by decide) hS
      | (with_reducible refine Fr_bd (fr_X11_breaks_b132 ?_ ‹EqS S M0 _›) fun _ _ _ => ?_)
      | (with_reducible refine fr_X11_breaks_b132 ?_ ‹EqS S M0 _›)
      | (with_reducible refine Fr_bd (fr_X11_breaks_b133 ?_ ‹EqS S M0 _›) fun _ _ _ => ?_)
      | (with_reducible refine fr_X11_breaks_b133 ?_ ‹EqS S M0 _›)
      | intro _)
theorem fr_X11_breaks_b80 {S : Nat → Bool} {a1 : Int32} {x3 : Int32} {s0 : Int32} {M0 M : mm} (hS : ∀ k, k ∈ [82, 87, 88, 91, 92, 93, 94, 97] → S k = true) (e : EqS S M0 M) : Fr S M0 (X11_breaks_b80 a1 x3 s0 M) := by
  unfold X11_breaks_b80
  repeat' (first
      | with_reducible assumption
      | with_reducible exact Fr_none
      | (with_reducible exact Fr_some ‹EqS S M0 _›)
      | (with_reducible refine Fr_gd fun _ => ?_)
      | (with_reducible refine Fr_ite ?_ ?_)
      | (with_reducible refine Fr_opt ?_ fun _ => ?_)
      | (with_reducible refine Fr_sA ?_ ‹EqS S M0 _› fun _ _ => ?_)
      | (with_reducible refine Fr_sR0 ‹EqS S M0 _› fun _ _ => ?_)
      | (with_reducible refine Fr_sL ?_ ‹EqS S M0 _› fun _ _ => ?_)
      | (with_reducible refine Fr_lt fun _ => ?_)
      | exact hS _ (by decide)
      | exact subL (by decide) hS
      | (with_reducible refine Fr_bd (fr_X11_breaks_b102 ?_ ‹EqS S M0 _›) fun _ _ _ => ?_)
      | (with_reducible refine fr_X11_breaks_b102 ?_ ‹EqS S M0 _›)
      | intro _)
theorem fr_X11_breaks_b79 {S : Nat → Bool} {a1 : Int32} {x3 : Int32} {M0 M : mm} (hS : ∀ k, k ∈ [82, 87, 88, 91, 92, 93, 94, 97] → S k = true) (e : EqS S M0 M) : Fr S M0 (X11_breaks_b79 a1 x3 M) := by
  unfold X11_breaks_b79
  repeat' (first
      | with_reducible assumption
      | with_reducible exact Fr_none
      | (with_reducible exact Fr_some ‹EqS S M0 _›)
      | (with_reducible refine Fr_gd fun _ => ?_)
      | (with_reducible refine Fr_ite ?_ ?_)
      | (with_reducible refine Fr_opt ?_ fun _ => ?_)
      | (with_reducible refine Fr_sA ?_ ‹EqS S M0 _› fun _ _ => ?_)
      | (with_reducible refine Fr_sR0 ‹EqS S M0 _› fun _ _ => ?_)
      | (with_reducible refine Fr_sL ?_ ‹EqS S M0 _› fun _ _ => ?_)
      | (with_reducible refine Fr_lt fun _ => ?_)
      | exact hS _ (by decide)
      | exact subL (by decide) hS
      | (with_reducible refine Fr_bd (fr_X11_breaks_b80 ?_ ‹EqS S M0 _›) fun _ _ _ => ?_)
      | (with_reducible refine fr_X11_breaks_b80 ?_ ‹EqS S M0 _›)
      | intro _)
theorem fr_X11_breaks_b43 {S : Nat → Bool} {a1 : Int32} {M0 M : mm} (hS : ∀ k, k ∈ [82, 87, 88, 91, 92, 93, 94, 97] → S k = true) (e : EqS S M0 M) : Fr S M0 (X11_breaks_b43 a1 M) := by
  unfold X11_breaks_b43
  repeat' (first
      | with_reducible assumption
      | with_reducible exact Fr_none
      | (with_reducible exact Fr_some ‹EqS S M0 _›)
      | (with_reducible refine Fr_gd fun _ => ?_)
      | (with_reducible refine Fr_ite ?_ ?_)
      | (with_reducible refine Fr_opt ?_ fun _ => ?_)
      | (with_reducible refine Fr_sA ?_ ‹EqS S M0 _› fun _ _ => ?_)
      | (with_reducible refine Fr_sR0 ‹EqS S M0 _› fun _ _ => ?_)
      | (with_reducible refine Fr_sL ?_ ‹EqS S M0 _› fun _ _ => ?_)
      | (with_reducible refine Fr_lt fun _ => ?_)
      | exact hS _ (by decide)
      | exact subL (by decide) hS
      | (with_reducible refine Fr_bd (fr_X11_breaks_b79 ?_ ‹EqS S M0 _›) fun _ _ _ => ?_)
      | (with_reducible refine fr_X11_breaks_b79 ?_ ‹EqS S M0 _›)
      | (with_reducible refine Fr_bd (fr_X11_isForgotten  ‹EqS S M0 _›) fun _ _ _ => ?_)
      | (with_reducible refine fr_X11_isForgotten  ‹EqS S M0 _›)
      | (with_reducible refine Fr_bd (fr_X11_breaks_b80 ?_ ‹EqS S M0 _›) fun _ _ _ => ?_)
      | (with_reducible refine fr_X11_breaks_b80 ?_ ‹EqS S M0 _›)
      | intro _)
theorem fr_X11_breaks {S : Nat → Bool} {a1 : Int32} {M0 M : mm} (hS : ∀ k, k ∈ [82, 87, 88, 91, 92, 93, 94, 97] → S k = true) (e : EqS S M0 M) : Fr S M0 (X11_breaks a1 M) := by
  unfold X11_breaks
  repeat' (first
      | with_reducible assumption
      | with_reducible exact Fr_none
      | (with_reducible exact Fr_some ‹EqS S M0 _›)
      | (with_reducible refine Fr_gd fun _ => ?_)
      | (with_reducible refine Fr_ite ?_ ?_)
      | (with_reducible refine Fr_opt ?_ fun _ => ?_)
      | (with_reducible refine Fr_sA ?_ ‹EqS S M0 _› fun _ _ => ?_)
      | (with_reducible refine Fr_sR0 ‹EqS S M0 _› fun _ _ => ?_)
      | (with_reducible refine Fr_sL ?_ ‹EqS S M0 _› fun _ _ => ?_)
      | (with_reducible refine Fr_lt fun _ => ?_)
      | exact hS _ (by decide)
      | exact subL (by decide) hS
      | (with_reducible refine Fr_bd (fr_X11_breaks_b43 ?_ ‹EqS S M0 _›) fun _ _ _ => ?_)
      | (with_reducible refine fr_X11_breaks_b43 ?_ ‹EqS S M0 _›)
      | intro _)
theorem fr_X11_goesYear_b29 {S : Nat → Bool} {R2 : Int32 → mm → Option (Unit × mm)} {K35 : mm → Option (Unit × mm)} {x1 : Int32} {M0 M : mm} (hR2 : ∀ (y0 : Int32) (M_ : mm), EqS S M0 M_ → Fr S M0 (R2 y0 M_)) (hK35 : ∀  (M_ : mm), EqS S M0 M_ → Fr S M0 (K35  M_)) (e : EqS S M0 M) : Fr S M0 (X11_goesYear_b29 R2 K35 x1 M) := by
  unfold X11_goesYear_b29
  repeat' (first
      | with_reducible assumption
      | with_reducible exact Fr_none
      | (with_reducible exact Fr_some ‹EqS S M0 _›)
      | (with_reducible refine Fr_gd fun _ => ?_)
      | (with_reducible refine Fr_ite ?_ ?_)
      | (with_reducible refine Fr_opt ?_ fun _ => ?_)
      | (with_reducible refine Fr_sA ?_ ‹EqS S M0 _› fun _ _ => ?_)
      | (with_reducible refine Fr_sR0 ‹EqS S M0 _› fun _ _ => ?_)
      | (with_reducible refine Fr_sL ?_ ‹EqS S M0 _› fun _ _ => ?_)
      | (with_reducible refine Fr_lt fun _ => ?_)
      | (with_reducible refine Fr_bd (hR2 _ _ ‹EqS S M0 _›) fun _ _ _ => ?_)
      | with_reducible exact hR2 _ _ ‹EqS S M0 _›
      | (with_reducible refine Fr_bd (hK35  _ ‹EqS S M0 _›) fun _ _ _ => ?_)
      | with_reducible exact hK35  _ ‹EqS S M0 _›
      | intro _)
theorem fr_X11_goesYear_L2 {S : Nat → Bool} {K35 : mm → Option (Unit × mm)} {M0 : mm} (hS : ∀ k, k ∈ [87, 89, 91, 92, 93, 94, 95, 96] → S k = true) (hK35 : ∀  (M_ : mm), EqS S M0 M_ → Fr S M0 (K35  M_)) : ∀ (n_ : Nat) (z1 : Int32) (M : mm), EqS S M0 M → Fr S M0 (X11_goesYear_L2 K35 n_ z1 M) := by
  intro n_
  induction n_ with
  | zero =>
    intros
    exact Fr_none
  | succ n_ ih =>
    intro z1 M e
    rw [X11_goesYear_L2]
    repeat' (first
        | with_reducible assumption
        | with_reducible exact Fr_none
        | (with_reducible exact Fr_some ‹EqS S M0 _›)
        | (with_reducible refine Fr_gd fun _ => ?_)
        | (with_reducible refine Fr_ite ?_ ?_)
        | (with_reducible refine Fr_opt ?_ fun _ => ?_)
        | (with_reducible refine Fr_sA ?_ ‹EqS S M0 _› fun _ _ => ?_)
        | (with_reducible refine Fr_sR0 ‹EqS S M0 _› fun _ _ => ?_)
        | (with_reducible refine Fr_sL ?_ ‹EqS S M0 _› fun _ _ => ?_)
        | (with_reducible refine Fr_lt fun _ => ?_)
        | exact hS _ (by decide)
        | exact subL (by decide) hS
        | (with_reducible refine Fr_bd (hK35  _ ‹EqS S M0 _›) fun _ _ _ => ?_)
        | with_reducible exact hK35  _ ‹EqS S M0 _›
        | (with_reducible refine Fr_bd (fr_X11_mendsNow  ‹EqS S M0 _›) fun _ _ _ => ?_)
        | (with_reducible refine fr_X11_mendsNow  ‹EqS S M0 _›)
        | (with_reducible refine Fr_bd (fr_X11_goesYear_b29 ?_ ?_ ‹EqS S M0 _›) fun _ _ _ => ?_)
        | (with_reducible refine fr_X11_goesYear_b29 ?_ ?_ ‹EqS S M0 _›)
        | (with_reducible refine Fr_bd (fr_X11_mended ?_ ‹EqS S M0 _›) fun _ _ _ => ?_)
        | (with_reducible refine fr_X11_mended ?_ ‹EqS S M0 _›)
        | (with_reducible refine Fr_bd (ih _ _ ‹EqS S M0 _›) fun _ _ _ => ?_)
        | with_reducible exact ih _ _ ‹EqS S M0 _›
        | intro _)
theorem fr_X11_goesYear_b119 {S : Nat → Bool} {R37 : Int32 → mm → Option (Unit × mm)} {K127 : mm → Option (Unit × mm)} {x1 : Int32} {s1 : Int32} {s2 : Int32} {s3 : Int32} {M0 M : mm} (hS : ∀ k, k ∈ [91] → S k = true) (hR37 : ∀ (y0 : Int32) (M_ : mm), EqS S M0 M_ → Fr S M0 (R37 y0 M_)) (hK127 : ∀  (M_ : mm), EqS S M0 M_ → Fr S M0 (K127  M_)) (e : EqS S M0 M) : Fr S M0 (X11_goesYear_b119 R37 K127 x1 s1 s2 s3 M) := by
  unfold X11_goesYear_b119
  repeat' (first
      | with_reducible assumption
      | with_reducible exact Fr_none
      | (with_reducible exact Fr_some ‹EqS S M0 _›)
      | (with_reducible refine Fr_gd fun _ => ?_)
      | (with_reducible refine Fr_ite ?_ ?_)
      | (with_reducible refine Fr_opt ?_ fun _ => ?_)
      | (with_reducible refine Fr_sA ?_ ‹EqS S M0 _› fun _ _ => ?_)
      | (with_reducible refine Fr_sR0 ‹EqS S M0 _› fun _ _ => ?_)
      | (with_reducible refine Fr_sL ?_ ‹EqS S M0 _› fun _ _ => ?_)
      | (with_reducible refine Fr_lt fun _ => ?_)
      | exact hS _ (by decide)
      | exact subL (by decide) hS
      | (with_reducible refine Fr_bd (hR37 _ _ ‹EqS S M0 _›) fun _ _ _ => ?_)
      | with_reducible exact hR37 _ _ ‹EqS S M0 _›
      | (with_reducible refine Fr_bd (hK127  _ ‹EqS S M0 _›) fun _ _ _ => ?_)
      | with_reducible exact hK127  _ ‹EqS S M0 _›
      | intro _)
theorem fr_X11_goesYear_b89 {S : Nat → Bool} {R37 : Int32 → mm → Option (Unit × mm)} {K127 : mm → Option (Unit × mm)} {x1 : Int32} {s1 : Int32} {s2 : Int32} {s3 : Int32} {s4 : Int32} {M0 M : mm} (hS : ∀ k, k ∈ [82, 91, 100] → S k = true) (hR37 : ∀ (y0 : Int32) (M_ : mm), EqS S M0 M_ → Fr S M0 (R37 y0 M_)) (hK127 : ∀  (M_ : mm), EqS S M0 M_ → Fr S M0 (K127  M_)) (e : EqS S M0 M) : Fr S M0 (X11_goesYear_b89 R37 K127 x1 s1 s2 s3 s4 M) := by
  unfold X11_goesYear_b89
  repeat' (first
      | with_reducible assumption
      | with_reducible exact Fr_none
      | (with_reducible exact Fr_some ‹EqS S M0 _›)
      | (with_reducible refine Fr_gd fun _ => ?_)
      | (with_reducible refine Fr_ite ?_ ?_)
      | (with_reducible refine Fr_opt ?_ fun _ => ?_)
      | (with_reducible refine Fr_sA ?_ ‹EqS S M0 _› fun _ _ => ?_)
      | (with_reducible refine Fr_sR0 ‹EqS S M0 _› fun _ _ => ?_)
      | (with_reducible refine Fr_sL ?_ ‹EqS S M0 _› fun _ _ => ?_)
      | (with_reducible refine Fr_lt fun _ => ?_)
      | exact hS _ (by decide)
      | exact subL (by decide) hS
      | (with_reducible refine Fr_bd (hR37 _ _ ‹EqS S M0 _›) fun _ _ _ => ?_)
      | with_reducible exact hR37 _ _ ‹EqS S M0 _›
      | (with_reducible refine Fr_bd (hK127  _ ‹EqS S M0 _›) fun _ _ _ => ?_)
      | with_reducible exact hK127  _ ‹EqS S M0 _›
      | (with_reducible refine Fr_bd (fr_X11_numberOf ?_ ‹EqS S M0 _›) fun _ _ _ => ?_)
      | (with_reducible refine fr_X11_numberOf ?_ ‹EqS S M0 _›)
      | (with_reducible refine Fr_bd (fr_X11_goesYear_b119 ?_ ?_ ?_ ‹EqS S M0 _›) fun _ _ _ => ?_)
      | (with_reducible refine fr_X11_goesYear_b119 ?_ ?_ ?_ ‹EqS S M0 _›)
      | intro _)
theorem fr_X11_goesYear_L37 {S : Nat → Bool} {K127 : mm → Option (Unit × mm)} {M0 : mm} (hS : ∀ k, k ∈ [82, 91, 100] → S k = true) (hK127 : ∀  (M_ : mm), EqS S M0 M_ → Fr S M0 (K127  M_)) : ∀ (n_ : Nat) (z1 : Int32) (M : mm), EqS S M0 M → Fr S M0 (X11_goesYear_L37 K127 n_ z1 M) := by
  intro n_
  induction n_ with
  | zero =>
    intros
    exact Fr_none
  | succ n_ ih =>
    intro z1 M e
    rw [X11_goesYear_L37]
    repeat' (first
        | with_reducible assumption
        | with_reducible exact Fr_none
        | (with_reducible exact Fr_some ‹EqS S M0 _›)
        | (with_reducible refine Fr_gd fun _ => ?_)
        | (with_reducible refine Fr_ite ?_ ?_)
        | (with_reducible refine Fr_opt ?_ fun _ => ?_)
        | (with_reducible refine Fr_sA ?_ ‹EqS S M0 _› fun _ _ => ?_)
        | (with_reducible refine Fr_sR0 ‹EqS S M0 _› fun _ _ => ?_)
        | (with_reducible refine Fr_sL ?_ ‹EqS S M0 _› fun _ _ => ?_)
        | (with_reducible refine Fr_lt fun _ => ?_)
        | exact hS _ (by decide)
        | exact subL (by decide) hS
        | (with_reducible refine Fr_bd (hK127  _ ‹EqS S M0 _›) fun _ _ _ => ?_)
        | with_reducible exact hK127  _ ‹EqS S M0 _›
        | (with_reducible refine Fr_bd (fr_X11_goesYear_b89 ?_ ?_ ?_ ‹EqS S M0 _›) fun _ _ _ => ?_)
        | (with_reducible refine fr_X11_goesYear_b89 ?_ ?_ ?_ ‹EqS S M0 _›)
        | (with_reducible refine Fr_bd (ih _ _ ‹EqS S M0 _›) fun _ _ _ => ?_)
        | with_reducible exact ih _ _ ‹EqS S M0 _›
        | intro _)
theorem fr_X11_goesYear_b210 {S : Nat → Bool} {R129 : Int32 → mm → Option (Unit × mm)} {x1 : Int32} {M0 M : mm} (hR129 : ∀ (y0 : Int32) (M_ : mm), EqS S M0 M_ → Fr S M0 (R129 y0 M_)) (e : EqS S M0 M) : Fr S M0 (X11_goesYear_b210 R129 x1 M) := by
  unfold X11_goesYear_b210
  repeat' (first
      | with_reducible assumption
      | with_reducible exact Fr_none
      | (with_reducible exact Fr_some ‹EqS S M0 _›)
      | (with_reducible refine Fr_gd fun _ => ?_)
      | (with_reducible refine Fr_ite ?_ ?_)
      | (with_reducible refine Fr_opt ?_ fun _ => ?_)
      | (with_reducible refine Fr_sA ?_ ‹EqS S M0 _› fun _ _ => ?_)
      | (with_reducible refine Fr_sR0 ‹EqS S M0 _› fun _ _ => ?_)
      | (with_reducible refine Fr_sL ?_ ‹EqS S M0 _› fun _ _ => ?_)
      | (with_reducible refine Fr_lt fun _ => ?_)
      | (with_reducible refine Fr_bd (hR129 _ _ ‹EqS S M0 _›) fun _ _ _ => ?_)
      | with_reducible exact hR129 _ _ ‹EqS S M0 _›
      | intro _)
theorem fr_X11_goesYear_b208 {S : Nat → Bool} {R129 : Int32 → mm → Option (Unit × mm)} {x1 : Int32} {s1 : Int32} {s2 : Int32} {s3 : Int32} {M0 M : mm} (hS : ∀ k, k ∈ [94] → S k = true) (hR129 : ∀ (y0 : Int32) (M_ : mm), EqS S M0 M_ → Fr S M0 (R129 y0 M_)) (e : EqS S M0 M) : Fr S M0 (X11_goesYear_b208 R129 x1 s1 s2 s3 M) := by
  unfold X11_goesYear_b208
  repeat' (first
      | with_reducible assumption
      | with_reducible exact Fr_none
      | (with_reducible exact Fr_some ‹EqS S M0 _›)
      | (with_reducible refine Fr_gd fun _ => ?_)
      | (with_reducible refine Fr_ite ?_ ?_)
      | (with_reducible refine Fr_opt ?_ fun _ => ?_)
      | (with_reducible refine Fr_sA ?_ ‹EqS S M0 _› fun _ _ => ?_)
      | (with_reducible refine Fr_sR0 ‹EqS S M0 _› fun _ _ => ?_)
      | (with_reducible refine Fr_sL ?_ ‹EqS S M0 _› fun _ _ => ?_)
      | (with_reducible refine Fr_lt fun _ => ?_)
      | exact hS _ (by decide)
      | exact subL (by decide) hS
      | (with_reducible refine Fr_bd (hR129 _ _ ‹EqS S M0 _›) fun _ _ _ => ?_)
      | with_reducible exact hR129 _ _ ‹EqS S M0 _›
      | (with_reducible refine Fr_bd (fr_X11_goesYear_b210 ?_ ‹EqS S M0 _›) fun _ _ _ => ?_)
      | (with_reducible refine fr_X11_goesYear_b210 ?_ ‹EqS S M0 _›)
      | intro _)
theorem fr_X11_goesYear_L129 {S : Nat → Bool}  {M0 : mm} (hS : ∀ k, k ∈ [82, 87, 88, 91, 92, 93, 94, 97] → S k = true) : ∀ (n_ : Nat) (z1 : Int32) (M : mm), EqS S M0 M → Fr S M0 (X11_goesYear_L129  n_ z1 M) := by
  intro n_
  induction n_ with
  | zero =>
    intros
    exact Fr_none
  | succ n_ ih =>
    intro z1 M e
    rw [X11_goesYear_L129]
    repeat' (first
        | with_reducible assumption
        | with_reducible exact Fr_none
        | (with_reducible exact Fr_some ‹EqS S M0 _›)
        | (with_reducible refine Fr_gd fun _ => ?_)
        | (with_reducible refine Fr_ite ?_ ?_)
        | (with_reducible refine Fr_opt ?_ fun _ => ?_)
        | (with_reducible refine Fr_sA ?_ ‹EqS S M0 _› fun _ _ => ?_)
        | (with_reducible refine Fr_sR0 ‹EqS S M0 _› fun _ _ => ?_)
        | (with_reducible refine Fr_sL ?_ ‹EqS S M0 _› fun _ _ => ?_)
        | (with_reducible refine Fr_lt fun _ => ?_)
        | exact hS _ (by decide)
        | exact subL (by decide) hS
        | (with_reducible refine Fr_bd (fr_X11_breaks ?_ ‹EqS S M0 _›) fun _ _ _ => ?_)
        | (with_reducible refine fr_X11_breaks ?_ ‹EqS S M0 _›)
        | (with_reducible refine Fr_bd (fr_X11_goesYear_b210 ?_ ‹EqS S M0 _›) fun _ _ _ => ?_)
        | (with_reducible refine fr_X11_goesYear_b210 ?_ ‹EqS S M0 _›)
        | (with_reducible refine Fr_bd (fr_X11_goesYear_b208 ?_ ?_ ‹EqS S M0 _›) fun _ _ _ => ?_)
        | (with_reducible refine fr_X11_goesYear_b208 ?_ ?_ ‹EqS S M0 _›)
        | (with_reducible refine Fr_bd (ih _ _ ‹EqS S M0 _›) fun _ _ _ => ?_)
        | with_reducible exact ih _ _ ‹EqS S M0 _›
        | intro _)
theorem fr_X11_goesYear {S : Nat → Bool}  {M0 M : mm} (hS : ∀ k, k ∈ [82, 87, 88, 89, 91, 92, 93, 94, 95, 96, 97, 100] → S k = true) (e : EqS S M0 M) : Fr S M0 (X11_goesYear  M) := by
  unfold X11_goesYear
  repeat' (first
      | with_reducible assumption
      | with_reducible exact Fr_none
      | (with_reducible exact Fr_some ‹EqS S M0 _›)
      | (with_reducible refine Fr_gd fun _ => ?_)
      | (with_reducible refine Fr_ite ?_ ?_)
      | (with_reducible refine Fr_opt ?_ fun _ => ?_)
      | (with_reducible refine Fr_sA ?_ ‹EqS S M0 _› fun _ _ => ?_)
      | (with_reducible refine Fr_sR0 ‹EqS S M0 _› fun _ _ => ?_)
      | (with_reducible refine Fr_sL ?_ ‹EqS S M0 _› fun _ _ => ?_)
      | (with_reducible refine Fr_lt fun _ => ?_)
      | exact hS _ (by decide)
      | exact subL (by decide) hS
      | (with_reducible refine Fr_bd (fr_X11_goesYear_L2 ?_ ?_ _ _ _ ‹EqS S M0 _›) fun _ _ _ => ?_)
      | (with_reducible refine fr_X11_goesYear_L2 ?_ ?_ _ _ _ ‹EqS S M0 _›)
      | (with_reducible refine Fr_bd (fr_X11_goesYear_L37 ?_ ?_ _ _ _ ‹EqS S M0 _›) fun _ _ _ => ?_)
      | (with_reducible refine fr_X11_goesYear_L37 ?_ ?_ _ _ _ ‹EqS S M0 _›)
      | (with_reducible refine Fr_bd (fr_X11_goesYear_L129 ?_ _ _ _ ‹EqS S M0 _›) fun _ _ _ => ?_)
      | (with_reducible refine fr_X11_goesYear_L129 ?_ _ _ _ ‹EqS S M0 _›)
      | intro _)
theorem fr_X11_fix {S : Nat → Bool} {a1 : Int32} {M0 M : mm} (hS : ∀ k, k ∈ [87, 89, 91, 92, 93, 94, 95, 96] → S k = true) (e : EqS S M0 M) : Fr S M0 (X11_fix a1 M) := by
  unfold X11_fix
  repeat' (first
      | with_reducible assumption
      | with_reducible exact Fr_none
      | (with_reducible exact Fr_some ‹EqS S M0 _›)
      | (with_reducible refine Fr_gd fun _ => ?_)
      | (with_reducible refine Fr_ite ?_ ?_)
      | (with_reducible refine Fr_opt ?_ fun _ => ?_)
      | (with_reducible refine Fr_sA ?_ ‹EqS S M0 _› fun _ _ => ?_)
      | (with_reducible refine Fr_sR0 ‹EqS S M0 _› fun _ _ => ?_)
      | (with_reducible refine Fr_sL ?_ ‹EqS S M0 _› fun _ _ => ?_)
      | (with_reducible refine Fr_lt fun _ => ?_)
      | exact hS _ (by decide)
      | exact subL (by decide) hS
      | (with_reducible refine Fr_bd (fr_X11_isThing  ‹EqS S M0 _›) fun _ _ _ => ?_)
      | (with_reducible refine fr_X11_isThing  ‹EqS S M0 _›)
      | (with_reducible refine Fr_bd (fr_X11_isPerson  ‹EqS S M0 _›) fun _ _ _ => ?_)
      | (with_reducible refine fr_X11_isPerson  ‹EqS S M0 _›)
      | (with_reducible refine Fr_bd (fr_X11_mended ?_ ‹EqS S M0 _›) fun _ _ _ => ?_)
      | (with_reducible refine fr_X11_mended ?_ ‹EqS S M0 _›)
      | intro _)
theorem fr_X11_years_L30 {S : Nat → Bool} {a1 : Int32} {a2 : Int32} {K45 : mm → Option (Int32 × mm)} {M0 : mm} (hS : ∀ k, k ∈ [82, 87, 88, 89, 91, 92, 93, 94, 95, 96, 97, 100] → S k = true) (hK45 : ∀  (M_ : mm), EqS S M0 M_ → Fr S M0 (K45  M_)) : ∀ (n_ : Nat) (z1 : Int32) (M : mm), EqS S M0 M → Fr S M0 (X11_years_L30 a1 a2 K45 n_ z1 M) := by
  intro n_
  induction n_ with
  | zero =>
    intros
    exact Fr_none
  | succ n_ ih =>
    intro z1 M e
    rw [X11_years_L30]
    repeat' (first
        | with_reducible assumption
        | with_reducible exact Fr_none
        | (with_reducible exact Fr_some ‹EqS S M0 _›)
        | (with_reducible refine Fr_gd fun _ => ?_)
        | (with_reducible refine Fr_ite ?_ ?_)
        | (with_reducible refine Fr_opt ?_ fun _ => ?_)
        | (with_reducible refine Fr_sA ?_ ‹EqS S M0 _› fun _ _ => ?_)
        | (with_reducible refine Fr_sR0 ‹EqS S M0 _› fun _ _ => ?_)
        | (with_reducible refine Fr_sL ?_ ‹EqS S M0 _› fun _ _ => ?_)
        | (with_reducible refine Fr_lt fun _ => ?_)
        | exact hS _ (by decide)
        | exact subL (by decide) hS
        | (with_reducible refine Fr_bd (hK45  _ ‹EqS S M0 _›) fun _ _ _ => ?_)
        | with_reducible exact hK45  _ ‹EqS S M0 _›
        | (with_reducible refine Fr_bd (fr_X11_goesYear ?_ ‹EqS S M0 _›) fun _ _ _ => ?_)
        | (with_reducible refine fr_X11_goesYear ?_ ‹EqS S M0 _›)
        | (with_reducible refine Fr_bd (ih _ _ ‹EqS S M0 _›) fun _ _ _ => ?_)
        | with_reducible exact ih _ _ ‹EqS S M0 _›
        | intro _)
theorem fr_X11_years {S : Nat → Bool} {a1 : Int32} {a2 : Int32} {M0 M : mm} (hS : ∀ k, k ∈ [82, 87, 88, 89, 91, 92, 93, 94, 95, 96, 97, 100, 101, 102, 103, 104, 106] → S k = true) (e : EqS S M0 M) : Fr S M0 (X11_years a1 a2 M) := by
  unfold X11_years
  repeat' (first
      | with_reducible assumption
      | with_reducible exact Fr_none
      | (with_reducible exact Fr_some ‹EqS S M0 _›)
      | (with_reducible refine Fr_gd fun _ => ?_)
      | (with_reducible refine Fr_ite ?_ ?_)
      | (with_reducible refine Fr_opt ?_ fun _ => ?_)
      | (with_reducible refine Fr_sA ?_ ‹EqS S M0 _› fun _ _ => ?_)
      | (with_reducible refine Fr_sR0 ‹EqS S M0 _› fun _ _ => ?_)
      | (with_reducible refine Fr_sL ?_ ‹EqS S M0 _› fun _ _ => ?_)
      | (with_reducible refine Fr_lt fun _ => ?_)
      | exact hS _ (by decide)
      | exact subL (by decide) hS
      | (with_reducible refine Fr_bd (fr_X11_within  ‹EqS S M0 _›) fun _ _ _ => ?_)
      | (with_reducible refine fr_X11_within  ‹EqS S M0 _›)
      | (with_reducible refine Fr_bd (fr_X11_asksBest ?_ ‹EqS S M0 _›) fun _ _ _ => ?_)
      | (with_reducible refine fr_X11_asksBest ?_ ‹EqS S M0 _›)
      | (with_reducible refine Fr_bd (fr_X11_years_L30 ?_ ?_ _ _ _ ‹EqS S M0 _›) fun _ _ _ => ?_)
      | (with_reducible refine fr_X11_years_L30 ?_ ?_ _ _ _ ‹EqS S M0 _›)
      | intro _)
theorem fr_X11_paid {S : Nat → Bool} {a1 : Int32} {M0 M : mm}  (e : EqS S M0 M) : Fr S M0 (X11_paid a1 M) := by
  unfold X11_paid
  repeat' (first
      | with_reducible assumption
      | with_reducible exact Fr_none
      | (with_reducible exact Fr_some ‹EqS S M0 _›)
      | (with_reducible refine Fr_gd fun _ => ?_)
      | (with_reducible refine Fr_ite ?_ ?_)
      | (with_reducible refine Fr_opt ?_ fun _ => ?_)
      | (with_reducible refine Fr_sA ?_ ‹EqS S M0 _› fun _ _ => ?_)
      | (with_reducible refine Fr_sR0 ‹EqS S M0 _› fun _ _ => ?_)
      | (with_reducible refine Fr_sL ?_ ‹EqS S M0 _› fun _ _ => ?_)
      | (with_reducible refine Fr_lt fun _ => ?_)
      | (with_reducible refine Fr_bd (fr_X11_isThing  ‹EqS S M0 _›) fun _ _ _ => ?_)
      | (with_reducible refine fr_X11_isThing  ‹EqS S M0 _›)
      | intro _)
theorem fr_X11_layer {S : Nat → Bool} {a1 : Int32} {a2 : Int32} {M0 M : mm}  (e : EqS S M0 M) : Fr S M0 (X11_layer a1 a2 M) := by
  unfold X11_layer
  repeat' (first
      | with_reducible assumption
      | with_reducible exact Fr_none
      | (with_reducible exact Fr_some ‹EqS S M0 _›)
      | (with_reducible refine Fr_gd fun _ => ?_)
      | (with_reducible refine Fr_ite ?_ ?_)
      | (with_reducible refine Fr_opt ?_ fun _ => ?_)
      | (with_reducible refine Fr_sA ?_ ‹EqS S M0 _› fun _ _ => ?_)
      | (with_reducible refine Fr_sR0 ‹EqS S M0 _› fun _ _ => ?_)
      | (with_reducible refine Fr_sL ?_ ‹EqS S M0 _› fun _ _ => ?_)
      | (with_reducible refine Fr_lt fun _ => ?_)
      | (with_reducible refine Fr_bd (fr_X11_isThing  ‹EqS S M0 _›) fun _ _ _ => ?_)
      | (with_reducible refine fr_X11_isThing  ‹EqS S M0 _›)
      | (with_reducible refine Fr_bd (fr_X11_within  ‹EqS S M0 _›) fun _ _ _ => ?_)
      | (with_reducible refine fr_X11_within  ‹EqS S M0 _›)
      | intro _)
theorem fr_X11_told_L77 {S : Nat → Bool} {a1 : Int32} {a2 : Int32} {K121 : Int32 → mm → Option (Int32 × mm)} {M0 : mm} (hK121 : ∀ (y0 : Int32) (M_ : mm), EqS S M0 M_ → Fr S M0 (K121 y0 M_)) : ∀ (n_ : Nat) (z1 : Int32) (z2 : Int32) (M : mm), EqS S M0 M → Fr S M0 (X11_told_L77 a1 a2 K121 n_ z1 z2 M) := by
  intro n_
  induction n_ with
  | zero =>
    intros
    exact Fr_none
  | succ n_ ih =>
    intro z1 z2 M e
    rw [X11_told_L77]
    repeat' (first
        | with_reducible assumption
        | with_reducible exact Fr_none
        | (with_reducible exact Fr_some ‹EqS S M0 _›)
        | (with_reducible refine Fr_gd fun _ => ?_)
        | (with_reducible refine Fr_ite ?_ ?_)
        | (with_reducible refine Fr_opt ?_ fun _ => ?_)
        | (with_reducible refine Fr_sA ?_ ‹EqS S M0 _› fun _ _ => ?_)
        | (with_reducible refine Fr_sR0 ‹EqS S M0 _› fun _ _ => ?_)
        | (with_reducible refine Fr_sL ?_ ‹EqS S M0 _› fun _ _ => ?_)
        | (with_reducible refine Fr_lt fun _ => ?_)
        | (with_reducible refine Fr_bd (hK121 _ _ ‹EqS S M0 _›) fun _ _ _ => ?_)
        | with_reducible exact hK121 _ _ ‹EqS S M0 _›
        | (with_reducible refine Fr_bd (ih _ _ _ ‹EqS S M0 _›) fun _ _ _ => ?_)
        | with_reducible exact ih _ _ _ ‹EqS S M0 _›
        | intro _)
theorem fr_X11_told_b73 {S : Nat → Bool} {a1 : Int32} {a2 : Int32} {s0 : Int32} {M0 M : mm}  (e : EqS S M0 M) : Fr S M0 (X11_told_b73 a1 a2 s0 M) := by
  unfold X11_told_b73
  repeat' (first
      | with_reducible assumption
      | with_reducible exact Fr_none
      | (with_reducible exact Fr_some ‹EqS S M0 _›)
      | (with_reducible refine Fr_gd fun _ => ?_)
      | (with_reducible refine Fr_ite ?_ ?_)
      | (with_reducible refine Fr_opt ?_ fun _ => ?_)
      | (with_reducible refine Fr_sA ?_ ‹EqS S M0 _› fun _ _ => ?_)
      | (with_reducible refine Fr_sR0 ‹EqS S M0 _› fun _ _ => ?_)
      | (with_reducible refine Fr_sL ?_ ‹EqS S M0 _› fun _ _ => ?_)
      | (with_reducible refine Fr_lt fun _ => ?_)
      | (with_reducible refine Fr_bd (fr_X11_told_L77 ?_ _ _ _ _ ‹EqS S M0 _›) fun _ _ _ => ?_)
      | (with_reducible refine fr_X11_told_L77 ?_ _ _ _ _ ‹EqS S M0 _›)
      | intro _)
theorem fr_X11_told {S : Nat → Bool} {a1 : Int32} {a2 : Int32} {M0 M : mm}  (e : EqS S M0 M) : Fr S M0 (X11_told a1 a2 M) := by
  unfold X11_told
  repeat' (first
      | with_reducible assumption
      | with_reducible exact Fr_none
      | (with_reducible exact Fr_some ‹EqS S M0 _›)
      | (with_reducible refine Fr_gd fun _ => ?_)
      | (with_reducible refine Fr_ite ?_ ?_)
      | (with_reducible refine Fr_opt ?_ fun _ => ?_)
      | (with_reducible refine Fr_sA ?_ ‹EqS S M0 _› fun _ _ => ?_)
      | (with_reducible refine Fr_sR0 ‹EqS S M0 _› fun _ _ => ?_)
      | (with_reducible refine Fr_sL ?_ ‹EqS S M0 _› fun _ _ => ?_)
      | (with_reducible refine Fr_lt fun _ => ?_)
      | (with_reducible refine Fr_bd (fr_X11_isShelf  ‹EqS S M0 _›) fun _ _ _ => ?_)
      | (with_reducible refine fr_X11_isShelf  ‹EqS S M0 _›)
      | (with_reducible refine Fr_bd (fr_X11_isThing  ‹EqS S M0 _›) fun _ _ _ => ?_)
      | (with_reducible refine fr_X11_isThing  ‹EqS S M0 _›)
      | (with_reducible refine Fr_bd (fr_X11_told_b73  ‹EqS S M0 _›) fun _ _ _ => ?_)
      | (with_reducible refine fr_X11_told_b73  ‹EqS S M0 _›)
      | intro _)
theorem fr_X11_over_b111 {S : Nat → Bool} {a1 : Int32} {R54 : Int32 → Int32 → Int32 → mm → Option (Int32 × mm)} {K119 : Int32 → Int32 → mm → Option (Int32 × mm)} {x3 : Int32} {x4 : Int32} {s0 : Int32} {s1 : Int32} {M0 M : mm} (hR54 : ∀ (y0 : Int32) (y1 : Int32) (y2 : Int32) (M_ : mm), EqS S M0 M_ → Fr S M0 (R54 y0 y1 y2 M_)) (hK119 : ∀ (y0 : Int32) (y1 : Int32) (M_ : mm), EqS S M0 M_ → Fr S M0 (K119 y0 y1 M_)) (e : EqS S M0 M) : Fr S M0 (X11_over_b111 a1 R54 K119 x3 x4 s0 s1 M) := by
  unfold X11_over_b111
  repeat' (first
      | with_reducible assumption
      | with_reducible exact Fr_none
      | (with_reducible exact Fr_some ‹EqS S M0 _›)
      | (with_reducible refine Fr_gd fun _ => ?_)
      | (with_reducible refine Fr_ite ?_ ?_)
      | (with_reducible refine Fr_opt ?_ fun _ => ?_)
      | (with_reducible refine Fr_sA ?_ ‹EqS S M0 _› fun _ _ => ?_)
      | (with_reducible refine Fr_sR0 ‹EqS S M0 _› fun _ _ => ?_)
      | (with_reducible refine Fr_sL ?_ ‹EqS S M0 _› fun _ _ => ?_)
      | (with_reducible refine Fr_lt fun _ => ?_)
      | (with_reducible refine Fr_bd (hR54 _ _ _ _ ‹EqS S M0 _›) fun _ _ _ => ?_)
      | with_reducible exact hR54 _ _ _ _ ‹EqS S M0 _›
      | (with_reducible refine Fr_bd (hK119 _ _ _ ‹EqS S M0 _›) fun _ _ _ => ?_)
      | with_reducible exact hK119 _ _ _ ‹EqS S M0 _›
      | intro _)
theorem fr_X11_over_b110 {S : Nat → Bool} {a1 : Int32} {R54 : Int32 → Int32 → Int32 → mm → Option (Int32 × mm)} {K119 : Int32 → Int32 → mm → Option (Int32 × mm)} {x3 : Int32} {x4 : Int32} {s0 : Int32} {M0 M : mm} (hR54 : ∀ (y0 : Int32) (y1 : Int32) (y2 : Int32) (M_ : mm), EqS S M0 M_ → Fr S M0 (R54 y0 y1 y2 M_)) (hK119 : ∀ (y0 : Int32) (y1 : Int32) (M_ : mm), EqS S M0 M_ → Fr S M0 (K119 y0 y1 M_)) (e : EqS S M0 M) : Fr S M0 (X11_over_b110 a1 R54 K119 x3 x4 s0 M) := by
  unfold X11_over_b110
  repeat' (first
      | with_reducible assumption
      | with_reducible exact Fr_none
      | (with_reducible exact Fr_some ‹EqS S M0 _›)
      | (with_reducible refine Fr_gd fun _ => ?_)
      | (with_reducible refine Fr_ite ?_ ?_)
      | (with_reducible refine Fr_opt ?_ fun _ => ?_)
      | (with_reducible refine Fr_sA ?_ ‹EqS S M0 _› fun _ _ => ?_)
      | (with_reducible refine Fr_sR0 ‹EqS S M0 _› fun _ _ => ?_)
      | (with_reducible refine Fr_sL ?_ ‹EqS S M0 _› fun _ _ => ?_)
      | (with_reducible refine Fr_lt fun _ => ?_)
      | (with_reducible refine Fr_bd (hR54 _ _ _ _ ‹EqS S M0 _›) fun _ _ _ => ?_)
      | with_reducible exact hR54 _ _ _ _ ‹EqS S M0 _›
      | (with_reducible refine Fr_bd (hK119 _ _ _ ‹EqS S M0 _›) fun _ _ _ => ?_)
      | with_reducible exact hK119 _ _ _ ‹EqS S M0 _›
      | (with_reducible refine Fr_bd (fr_X11_over_b111 ?_ ?_ ‹EqS S M0 _›) fun _ _ _ => ?_)
      | (with_reducible refine fr_X11_over_b111 ?_ ?_ ‹EqS S M0 _›)
      | intro _)
theorem fr_X11_over_L54 {S : Nat → Bool} {a1 : Int32} {K119 : Int32 → Int32 → mm → Option (Int32 × mm)} {M0 : mm} (hK119 : ∀ (y0 : Int32) (y1 : Int32) (M_ : mm), EqS S M0 M_ → Fr S M0 (K119 y0 y1 M_)) : ∀ (n_ : Nat) (z1 : Int32) (z2 : Int32) (z3 : Int32) (M : mm), EqS S M0 M → Fr S M0 (X11_over_L54 a1 K119 n_ z1 z2 z3 M) := by
  intro n_
  induction n_ with
  | zero =>
    intros
    exact Fr_none
  | succ n_ ih =>
    intro z1 z2 z3 M e
    rw [X11_over_L54]
    repeat' (first
        | with_reducible assumption
        | with_reducible exact Fr_none
        | (with_reducible exact Fr_some ‹EqS S M0 _›)
        | (with_reducible refine Fr_gd fun _ => ?_)
        | (with_reducible refine Fr_ite ?_ ?_)
        | (with_reducible refine Fr_opt ?_ fun _ => ?_)
        | (with_reducible refine Fr_sA ?_ ‹EqS S M0 _› fun _ _ => ?_)
        | (with_reducible refine Fr_sR0 ‹EqS S M0 _› fun _ _ => ?_)
        | (with_reducible refine Fr_sL ?_ ‹EqS S M0 _› fun _ _ => ?_)
        | (with_reducible refine Fr_lt fun _ => ?_)
        | (with_reducible refine Fr_bd (hK119 _ _ _ ‹EqS S M0 _›) fun _ _ _ => ?_)
        | with_reducible exact hK119 _ _ _ ‹EqS S M0 _›
        | (with_reducible refine Fr_bd (fr_X11_over_b111 ?_ ?_ ‹EqS S M0 _›) fun _ _ _ => ?_)
        | (with_reducible refine fr_X11_over_b111 ?_ ?_ ‹EqS S M0 _›)
        | (with_reducible refine Fr_bd (fr_X11_over_b110 ?_ ?_ ‹EqS S M0 _›) fun _ _ _ => ?_)
        | (with_reducible refine fr_X11_over_b110 ?_ ?_ ‹EqS S M0 _›)
        | (with_reducible refine Fr_bd (ih _ _ _ _ ‹EqS S M0 _›) fun _ _ _ => ?_)
        | with_reducible exact ih _ _ _ _ ‹EqS S M0 _›
        | intro _)
theorem fr_X11_over_L43 {S : Nat → Bool} {a1 : Int32} {M0 : mm}  : ∀ (n_ : Nat) (z1 : Int32) (z2 : Int32) (M : mm), EqS S M0 M → Fr S M0 (X11_over_L43 a1 n_ z1 z2 M) := by
  intro n_
  induction n_ with
  | zero =>
    intros
    exact Fr_none
  | succ n_ ih =>
    intro z1 z2 M e
    rw [X11_over_L43]
    repeat' (first
        | with_reducible assumption
        | with_reducible exact Fr_none
        | (with_reducible exact Fr_some ‹EqS S M0 _›)
        | (with_reducible refine Fr_gd fun _ => ?_)
        | (with_reducible refine Fr_ite ?_ ?_)
        | (with_reducible refine Fr_opt ?_ fun _ => ?_)
        | (with_reducible refine Fr_sA ?_ ‹EqS S M0 _› fun _ _ => ?_)
        | (with_reducible refine Fr_sR0 ‹EqS S M0 _› fun _ _ => ?_)
        | (with_reducible refine Fr_sL ?_ ‹EqS S M0 _› fun _ _ => ?_)
        | (with_reducible refine Fr_lt fun _ => ?_)
        | (with_reducible refine Fr_bd (fr_X11_over_L54 ?_ _ _ _ _ _ ‹EqS S M0 _›) fun _ _ _ => ?_)
        | (with_reducible refine fr_X11_over_L54 ?_ _ _ _ _ _ ‹EqS S M0 _›)
        | (with_reducible refine Fr_bd (ih _ _ _ ‹EqS S M0 _›) fun _ _ _ => ?_)
        | with_reducible exact ih _ _ _ ‹EqS S M0 _›
        | intro _)
theorem fr_X11_over {S : Nat → Bool} {a1 : Int32} {M0 M : mm}  (e : EqS S M0 M) : Fr S M0 (X11_over a1 M) := by
  unfold X11_over
  repeat' (first
      | with_reducible assumption
      | with_reducible exact Fr_none
      | (with_reducible exact Fr_some ‹EqS S M0 _›)
      | (with_reducible refine Fr_gd fun _ => ?_)
      | (with_reducible refine Fr_ite ?_ ?_)
      | (with_reducible refine Fr_opt ?_ fun _ => ?_)
      | (with_reducible refine Fr_sA ?_ ‹EqS S M0 _› fun _ _ => ?_)
      | (with_reducible refine Fr_sR0 ‹EqS S M0 _› fun _ _ => ?_)
      | (with_reducible refine Fr_sL ?_ ‹EqS S M0 _› fun _ _ => ?_)
      | (with_reducible refine Fr_lt fun _ => ?_)
      | (with_reducible refine Fr_bd (fr_X11_isPerson  ‹EqS S M0 _›) fun _ _ _ => ?_)
      | (with_reducible refine fr_X11_isPerson  ‹EqS S M0 _›)
      | (with_reducible refine Fr_bd (fr_X11_over_L43  _ _ _ _ ‹EqS S M0 _›) fun _ _ _ => ?_)
      | (with_reducible refine fr_X11_over_L43  _ _ _ _ ‹EqS S M0 _›)
      | intro _)
theorem fr_X11_keepsAside_L103 {S : Nat → Bool} {a1 : Int32} {K145 : Int32 → mm → Option (Unit × mm)} {M0 : mm} (hS : ∀ k, k ∈ [108] → S k = true) (hK145 : ∀ (y0 : Int32) (M_ : mm), EqS S M0 M_ → Fr S M0 (K145 y0 M_)) : ∀ (n_ : Nat) (z1 : Int32) (z2 : Int32) (M : mm), EqS S M0 M → Fr S M0 (X11_keepsAside_L103 a1 K145 n_ z1 z2 M) := by
  intro n_
  induction n_ with
  | zero =>
    intros
    exact Fr_none
  | succ n_ ih =>
    intro z1 z2 M e
    rw [X11_keepsAside_L103]
    repeat' (first
        | with_reducible assumption
        | with_reducible exact Fr_none
        | (with_reducible exact Fr_some ‹EqS S M0 _›)
        | (with_reducible refine Fr_gd fun _ => ?_)
        | (with_reducible refine Fr_ite ?_ ?_)
        | (with_reducible refine Fr_opt ?_ fun _ => ?_)
        | (with_reducible refine Fr_sA ?_ ‹EqS S M0 _› fun _ _ => ?_)
        | (with_reducible refine Fr_sR0 ‹EqS S M0 _› fun _ _ => ?_)
        | (with_reducible refine Fr_sL ?_ ‹EqS S M0 _› fun _ _ => ?_)
        | (with_reducible refine Fr_lt fun _ => ?_)
        | exact hS _ (by decide)
        | exact subL (by decide) hS
        | (with_reducible refine Fr_bd (hK145 _ _ ‹EqS S M0 _›) fun _ _ _ => ?_)
        | with_reducible exact hK145 _ _ ‹EqS S M0 _›
        | (with_reducible refine Fr_bd (ih _ _ _ ‹EqS S M0 _›) fun _ _ _ => ?_)
        | with_reducible exact ih _ _ _ ‹EqS S M0 _›
        | intro _)
theorem fr_X11_keepsAside_L2 {S : Nat → Bool} {a1 : Int32} {K151 : mm → Option (Unit × mm)} {M0 : mm} (hS : ∀ k, k ∈ [107, 108] → S k = true) (hK151 : ∀  (M_ : mm), EqS S M0 M_ → Fr S M0 (K151  M_)) : ∀ (n_ : Nat) (z1 : Int32) (M : mm), EqS S M0 M → Fr S M0 (X11_keepsAside_L2 a1 K151 n_ z1 M) := by
  intro n_
  induction n_ with
  | zero =>
    intros
    exact Fr_none
  | succ n_ ih =>
    intro z1 M e
    rw [X11_keepsAside_L2]
    repeat' (first
        | with_reducible assumption
        | with_reducible exact Fr_none
        | (with_reducible exact Fr_some ‹EqS S M0 _›)
        | (with_reducible refine Fr_gd fun _ => ?_)
        | (with_reducible refine Fr_ite ?_ ?_)
        | (with_reducible refine Fr_opt ?_ fun _ => ?_)
        | (with_reducible refine Fr_sA ?_ ‹EqS S M0 _› fun _ _ => ?_)
        | (with_reducible refine Fr_sR0 ‹EqS S M0 _› fun _ _ => ?_)
        | (with_reducible refine Fr_sL ?_ ‹EqS S M0 _› fun _ _ => ?_)
        | (with_reducible refine Fr_lt fun _ => ?_)
        | exact hS _ (by decide)
        | exact subL (by decide) hS
        | (with_reducible refine Fr_bd (hK151  _ ‹EqS S M0 _›) fun _ _ _ => ?_)
        | with_reducible exact hK151  _ ‹EqS S M0 _›
        | (with_reducible refine Fr_bd (fr_X11_keepsAside_L103 ?_ ?_ _ _ _ _ ‹EqS S M0 _›) fun _ _ _ => ?_)
        | (with_reducible refine fr_X11_keepsAside_L103 ?_ ?_ _ _ _ _ ‹EqS S M0 _›)
        | (with_reducible refine Fr_bd (ih _ _ ‹EqS S M0 _›) fun _ _ _ => ?_)
        | with_reducible exact ih _ _ ‹EqS S M0 _›
        | intro _)
theorem fr_X11_keepsAside_L153 {S : Nat → Bool} {a1 : Int32} {K212 : mm → Option (Unit × mm)} {M0 : mm} (hS : ∀ k, k ∈ [109] → S k = true) (hK212 : ∀  (M_ : mm), EqS S M0 M_ → Fr S M0 (K212  M_)) : ∀ (n_ : Nat) (z1 : Int32) (M : mm), EqS S M0 M → Fr S M0 (X11_keepsAside_L153 a1 K212 n_ z1 M) := by
  intro n_
  induction n_ with
  | zero =>
    intros
    exact Fr_none
  | succ n_ ih =>
    intro z1 M e
    rw [X11_keepsAside_L153]
    repeat' (first
        | with_reducible assumption
        | with_reducible exact Fr_none
        | (with_reducible exact Fr_some ‹EqS S M0 _›)
        | (with_reducible refine Fr_gd fun _ => ?_)
        | (with_reducible refine Fr_ite ?_ ?_)
        | (with_reducible refine Fr_opt ?_ fun _ => ?_)
        | (with_reducible refine Fr_sA ?_ ‹EqS S M0 _› fun _ _ => ?_)
        | (with_reducible refine Fr_sR0 ‹EqS S M0 _› fun _ _ => ?_)
        | (with_reducible refine Fr_sL ?_ ‹EqS S M0 _› fun _ _ => ?_)
        | (with_reducible refine Fr_lt fun _ => ?_)
        | exact hS _ (by decide)
        | exact subL (by decide) hS
        | (with_reducible refine Fr_bd (hK212  _ ‹EqS S M0 _›) fun _ _ _ => ?_)
        | with_reducible exact hK212  _ ‹EqS S M0 _›
        | (with_reducible refine Fr_bd (ih _ _ ‹EqS S M0 _›) fun _ _ _ => ?_)
        | with_reducible exact ih _ _ ‹EqS S M0 _›
        | intro _)
theorem fr_X11_keepsAside {S : Nat → Bool} {a1 : Int32} {M0 M : mm} (hS : ∀ k, k ∈ [107, 108, 109, 110] → S k = true) (e : EqS S M0 M) : Fr S M0 (X11_keepsAside a1 M) := by
  unfold X11_keepsAside
  repeat' (first
      | with_reducible assumption
      | with_reducible exact Fr_none
      | (with_reducible exact Fr_some ‹EqS S M0 _›)
      | (with_reducible refine Fr_gd fun _ => ?_)
      | (with_reducible refine Fr_ite ?_ ?_)
      | (with_reducible refine Fr_opt ?_ fun _ => ?_)
      | (with_reducible refine Fr_sA ?_ ‹EqS S M0 _› fun _ _ => ?_)
      | (with_reducible refine Fr_sR0 ‹EqS S M0 _› fun _ _ => ?_)
      | (with_reducible refine Fr_sL ?_ ‹EqS S M0 _› fun _ _ => ?_)
      | (with_reducible refine Fr_lt fun _ => ?_)
      | exact hS _ (by decide)
      | exact subL (by decide) hS
      | (with_reducible refine Fr_bd (fr_X11_keepsAside_L2 ?_ ?_ _ _ _ ‹EqS S M0 _›) fun _ _ _ => ?_)
      | (with_reducible refine fr_X11_keepsAside_L2 ?_ ?_ _ _ _ ‹EqS S M0 _›)
      | (with_reducible refine Fr_bd (fr_X11_keepsAside_L153 ?_ ?_ _ _ _ ‹EqS S M0 _›) fun _ _ _ => ?_)
      | (with_reducible refine fr_X11_keepsAside_L153 ?_ ?_ _ _ _ ‹EqS S M0 _›)
      | intro _)
theorem fr_X11_laysBack_L133 {S : Nat → Bool} {a1 : Int32} {a2 : Int32} {a3 : Int32} {a4 : Int32} {K177 : Int32 → mm → Option (Unit × mm)} {M0 : mm} (hS : ∀ k, k ∈ [95] → S k = true) (hK177 : ∀ (y0 : Int32) (M_ : mm), EqS S M0 M_ → Fr S M0 (K177 y0 M_)) : ∀ (n_ : Nat) (z1 : Int32) (z2 : Int32) (M : mm), EqS S M0 M → Fr S M0 (X11_laysBack_L133 a1 a2 a3 a4 K177 n_ z1 z2 M) := by
  intro n_
  induction n_ with
  | zero =>
    intros
    exact Fr_none
  | succ n_ ih =>
    intro z1 z2 M e
    rw [X11_laysBack_L133]
    repeat' (first
        | with_reducible assumption
        | with_reducible exact Fr_none
        | (with_reducible exact Fr_some ‹EqS S M0 _›)
        | (with_reducible refine Fr_gd fun _ => ?_)
        | (with_reducible refine Fr_ite ?_ ?_)
        | (with_reducible refine Fr_opt ?_ fun _ => ?_)
        | (with_reducible refine Fr_sA ?_ ‹EqS S M0 _› fun _ _ => ?_)
        | (with_reducible refine Fr_sR0 ‹EqS S M0 _› fun _ _ => ?_)
        | (with_reducible refine Fr_sL ?_ ‹EqS S M0 _› fun _ _ => ?_)
        | (with_reducible refine Fr_lt fun _ => ?_)
        | exact hS _ (by decide)
        | exact subL (by decide) hS
        | (with_reducible refine Fr_bd (hK177 _ _ ‹EqS S M0 _›) fun _ _ _ => ?_)
        | with_reducible exact hK177 _ _ ‹EqS S M0 _›
        | (with_reducible refine Fr_bd (ih _ _ _ ‹EqS S M0 _›) fun _ _ _ => ?_)
        | with_reducible exact ih _ _ _ ‹EqS S M0 _›
        | intro _)
theorem fr_X11_laysBack_b129 {S : Nat → Bool} {a1 : Int32} {a2 : Int32} {a3 : Int32} {a4 : Int32} {R3 : Int32 → mm → Option (Unit × mm)} {K183 : mm → Option (Unit × mm)} {x5 : Int32} {s1 : Int32} {s2 : Int32} {M0 M : mm} (hS : ∀ k, k ∈ [95, 97] → S k = true) (hR3 : ∀ (y0 : Int32) (M_ : mm), EqS S M0 M_ → Fr S M0 (R3 y0 M_)) (hK183 : ∀  (M_ : mm), EqS S M0 M_ → Fr S M0 (K183  M_)) (e : EqS S M0 M) : Fr S M0 (X11_laysBack_b129 a1 a2 a3 a4 R3 K183 x5 s1 s2 M) := by
  unfold X11_laysBack_b129
  repeat' (first
      | with_reducible assumption
      | with_reducible exact Fr_none
      | (with_reducible exact Fr_some ‹EqS S M0 _›)
      | (with_reducible refine Fr_gd fun _ => ?_)
      | (with_reducible refine Fr_ite ?_ ?_)
      | (with_reducible refine Fr_opt ?_ fun _ => ?_)
      | (with_reducible refine Fr_sA ?_ ‹EqS S M0 _› fun _ _ => ?_)
      | (with_reducible refine Fr_sR0 ‹EqS S M0 _› fun _ _ => ?_)
      | (with_reducible refine Fr_sL ?_ ‹EqS S M0 _› fun _ _ => ?_)
      | (with_reducible refine Fr_lt fun _ => ?_)
      | exact hS _ (by decide)
      | exact subL (by decide) hS
      | (with_reducible refine Fr_bd (hR3 _ _ ‹EqS S M0 _›) fun _ _ _ => ?_)
      | with_reducible exact hR3 _ _ ‹EqS S M0 _›
      | (with_reducible refine Fr_bd (hK183  _ ‹EqS S M0 _›) fun _ _ _ => ?_)
      | with_reducible exact hK183  _ ‹EqS S M0 _›
      | (with_reducible refine Fr_bd (fr_X11_laysBack_L133 ?_ ?_ _ _ _ _ ‹EqS S M0 _›) fun _ _ _ => ?_)
      | (with_reducible refine fr_X11_laysBack_L133 ?_ ?_ _ _ _ _ ‹EqS S M0 _›)
      | intro _)
theorem fr_X11_laysBack_L3 {S : Nat → Bool} {a1 : Int32} {a2 : Int32} {a3 : Int32} {a4 : Int32} {K183 : mm → Option (Unit × mm)} {M0 : mm} (hS : ∀ k, k ∈ [91, 92, 93, 94, 95, 96, 97] → S k = true) (hK183 : ∀  (M_ : mm), EqS S M0 M_ → Fr S M0 (K183  M_)) : ∀ (n_ : Nat) (z1 : Int32) (M : mm), EqS S M0 M → Fr S M0 (X11_laysBack_L3 a1 a2 a3 a4 K183 n_ z1 M) := by
  intro n_
  induction n_ with
  | zero =>
    intros
    exact Fr_none
  | succ n_ ih =>
    intro z1 M e
    rw [X11_laysBack_L3]
    repeat' (first
        | with_reducible assumption
        | with_reducible exact Fr_none
        | (with_reducible exact Fr_some ‹EqS S M0 _›)
        | (with_reducible refine Fr_gd fun _ => ?_)
        | (with_reducible refine Fr_ite ?_ ?_)
        | (with_reducible refine Fr_opt ?_ fun _ => ?_)
        | (with_reducible refine Fr_sA ?_ ‹EqS S M0 _› fun _ _ => ?_)
        | (with_reducible refine Fr_sR0 ‹EqS S M0 _› fun _ _ => ?_)
        | (with_reducible refine Fr_sL ?_ ‹EqS S M0 _› fun _ _ => ?_)
        | (with_reducible refine Fr_lt fun _ => ?_)
        | exact hS _ (by decide)
        | exact subL (by decide) hS
        | (with_reducible refine Fr_bd (hK183  _ ‹EqS S M0 _›) fun _ _ _ => ?_)
        | with_reducible exact hK183  _ ‹EqS S M0 _›
        | (with_reducible refine Fr_bd (fr_X11_laysBack_b129 ?_ ?_ ?_ ‹EqS S M0 _›) fun _ _ _ => ?_)
        | (with_reducible refine fr_X11_laysBack_b129 ?_ ?_ ?_ ‹EqS S M0 _›)
        | (with_reducible refine Fr_bd (ih _ _ ‹EqS S M0 _›) fun _ _ _ => ?_)
        | with_reducible exact ih _ _ ‹EqS S M0 _›
        | intro _)
theorem fr_X11_laysBack_L186 {S : Nat → Bool} {a1 : Int32} {a2 : Int32} {a3 : Int32} {a4 : Int32} {K254 : mm → Option (Unit × mm)} {M0 : mm} (hS : ∀ k, k ∈ [87, 88, 89] → S k = true) (hK254 : ∀  (M_ : mm), EqS S M0 M_ → Fr S M0 (K254  M_)) : ∀ (n_ : Nat) (z1 : Int32) (M : mm), EqS S M0 M → Fr S M0 (X11_laysBack_L186 a1 a2 a3 a4 K254 n_ z1 M) := by
  intro n_
  induction n_ with
  | zero =>
    intros
    exact Fr_none
  | succ n_ ih =>
    intro z1 M e
    rw [X11_laysBack_L186]
    repeat' (first
        | with_reducible assumption
        | with_reducible exact Fr_none
        | (with_reducible exact Fr_some ‹EqS S M0 _›)
        | (with_reducible refine Fr_gd fun _ => ?_)
        | (with_reducible refine Fr_ite ?_ ?_)
        | (with_reducible refine Fr_opt ?_ fun _ => ?_)
        | (with_reducible refine Fr_sA ?_ ‹EqS S M0 _› fun _ _ => ?_)
        | (with_reducible refine Fr_sR0 ‹EqS S M0 _› fun _ _ => ?_)
        | (with_reducible refine Fr_sL ?_ ‹EqS S M0 _› fun _ _ => ?_)
        | (with_reducible refine Fr_lt fun _ => ?_)
        | exact hS _ (by decide)
        | exact subL (by decide) hS
        | (with_reducible refine Fr_bd (hK254  _ ‹EqS S M0 _›) fun _ _ _ => ?_)
        | with_reducible exact hK254  _ ‹EqS S M0 _›
        | (with_reducible refine Fr_bd (ih _ _ ‹EqS S M0 _›) fun _ _ _ => ?_)
        | with_reducible exact ih _ _ ‹EqS S M0 _›
        | intro _)
theorem fr_X11_laysBack {S : Nat → Bool} {a1 : Int32} {a2 : Int32} {a3 : Int32} {a4 : Int32} {M0 M : mm} (hS : ∀ k, k ∈ [82, 87, 88, 89, 91, 92, 93, 94, 95, 96, 97] → S k = true) (e : EqS S M0 M) : Fr S M0 (X11_laysBack a1 a2 a3 a4 M) := by
  unfold X11_laysBack
  repeat' (first
      | with_reducible assumption
      | with_reducible exact Fr_none
      | (with_reducible exact Fr_some ‹EqS S M0 _›)
      | (with_reducible refine Fr_gd fun _ => ?_)
      | (with_reducible refine Fr_ite ?_ ?_)
      | (with_reducible refine Fr_opt ?_ fun _ => ?_)
      | (with_reducible refine Fr_sA ?_ ‹EqS S M0 _› fun _ _ => ?_)
      | (with_reducible refine Fr_sR0 ‹EqS S M0 _› fun _ _ => ?_)
      | (with_reducible refine Fr_sL ?_ ‹EqS S M0 _› fun _ _ => ?_)
      | (with_reducible refine Fr_lt fun _ => ?_)
      | exact hS _ (by decide)
      | exact subL (by decide) hS
      | (with_reducible refine Fr_bd (fr_X11_laysBack_L3 ?_ ?_ _ _ _ ‹EqS S M0 _›) fun _ _ _ => ?_)
      | (with_reducible refine fr_X11_laysBack_L3 ?_ ?_ _ _ _ ‹EqS S M0 _›)
      | (with_reducible refine Fr_bd (fr_X11_laysBack_L186 ?_ ?_ _ _ _ ‹EqS S M0 _›) fun _ _ _ => ?_)
      | (with_reducible refine fr_X11_laysBack_L186 ?_ ?_ _ _ _ ‹EqS S M0 _›)
      | intro _)
theorem fr_X11_ruled_L74 {S : Nat → Bool} {a1 : Int32} {a2 : Int32} {a3 : Int32} {K90 : Int32 → Int32 → Int32 → Int32 → mm → Option (Int32 × mm)} {M0 : mm} (hS : ∀ k, k ∈ [82, 87, 88, 89, 91, 92, 93, 94, 95, 96, 97, 100] → S k = true) (hK90 : ∀ (y0 : Int32) (y1 : Int32) (y2 : Int32) (y3 : Int32) (M_ : mm), EqS S M0 M_ → Fr S M0 (K90 y0 y1 y2 y3 M_)) : ∀ (n_ : Nat) (z1 : Int32) (z2 : Int32) (z3 : Int32) (z4 : Int32) (z5 : Int32) (M : mm), EqS S M0 M → Fr S M0 (X11_ruled_L74 a1 a2 a3 K90 n_ z1 z2 z3 z4 z5 M) := by
  intro n_
  induction n_ with
  | zero =>
    intros
    exact Fr_none
  | succ n_ ih =>
    intro z1 z2 z3 z4 z5 M e
    rw [X11_ruled_L74]
    repeat' (first
        | with_reducible assumption
        | with_reducible exact Fr_none
        | (with_reducible exact Fr_some ‹EqS S M0 _›)
        | (with_reducible refine Fr_gd fun _ => ?_)
        | (with_reducible refine Fr_ite ?_ ?_)
        | (with_reducible refine Fr_opt ?_ fun _ => ?_)
        | (with_reducible refine Fr_sA ?_ ‹EqS S M0 _› fun _ _ => ?_)
        | (with_reducible refine Fr_sR0 ‹EqS S M0 _› fun _ _ => ?_)
        | (with_reducible refine Fr_sL ?_ ‹EqS S M0 _› fun _ _ => ?_)
        | (with_reducible refine Fr_lt fun _ => ?_)
        | exact hS _ (by decide)
        | exact subL (by decide) hS
        | (with_reducible refine Fr_bd (hK90 _ _ _ _ _ ‹EqS S M0 _›) fun _ _ _ => ?_)
        | with_reducible exact hK90 _ _ _ _ _ ‹EqS S M0 _›
        | (with_reducible refine Fr_bd (fr_X11_goesYear ?_ ‹EqS S M0 _›) fun _ _ _ => ?_)
        | (with_reducible refine fr_X11_goesYear ?_ ‹EqS S M0 _›)
        | (with_reducible refine Fr_bd (ih _ _ _ _ _ _ ‹EqS S M0 _›) fun _ _ _ => ?_)
        | with_reducible exact ih _ _ _ _ _ _ ‹EqS S M0 _›
        | intro _)
theorem fr_X11_ruled_b123 {S : Nat → Bool} {a1 : Int32} {a2 : Int32} {a3 : Int32} {R44 : Int32 → Int32 → Int32 → Int32 → mm → Option (Int32 × mm)} {K129 : Int32 → Int32 → Int32 → mm → Option (Int32 × mm)} {x4 : Int32} {x5 : Int32} {x6 : Int32} {x7 : Int32} {M0 M : mm} (hR44 : ∀ (y0 : Int32) (y1 : Int32) (y2 : Int32) (y3 : Int32) (M_ : mm), EqS S M0 M_ → Fr S M0 (R44 y0 y1 y2 y3 M_)) (hK129 : ∀ (y0 : Int32) (y1 : Int32) (y2 : Int32) (M_ : mm), EqS S M0 M_ → Fr S M0 (K129 y0 y1 y2 M_)) (e : EqS S M0 M) : Fr S M0 (X11_ruled_b123 a1 a2 a3 R44 K129 x4 x5 x6 x7 M) := by
  unfold X11_ruled_b123
  repeat' (first
      | with_reducible assumption
      | with_reducible exact Fr_none
      | (with_reducible exact Fr_some ‹EqS S M0 _›)
      | (with_reducible refine Fr_gd fun _ => ?_)
      | (with_reducible refine Fr_ite ?_ ?_)
      | (with_reducible refine Fr_opt ?_ fun _ => ?_)
      | (with_reducible refine Fr_sA ?_ ‹EqS S M0 _› fun _ _ => ?_)
      | (with_reducible refine Fr_sR0 ‹EqS S M0 _› fun _ _ => ?_)
      | (with_reducible refine Fr_sL ?_ ‹EqS S M0 _› fun _ _ => ?_)
      | (with_reducible refine Fr_lt fun _ => ?_)
      | (with_reducible refine Fr_bd (hR44 _ _ _ _ _ ‹EqS S M0 _›) fun _ _ _ => ?_)
      | with_reducible exact hR44 _ _ _ _ _ ‹EqS S M0 _›
      | (with_reducible refine Fr_bd (hK129 _ _ _ _ ‹EqS S M0 _›) fun _ _ _ => ?_)
      | with_reducible exact hK129 _ _ _ _ ‹EqS S M0 _›
      | intro _)
theorem fr_X11_ruled_b113 {S : Nat → Bool} {a1 : Int32} {a2 : Int32} {a3 : Int32} {R44 : Int32 → Int32 → Int32 → Int32 → mm → Option (Int32 × mm)} {K129 : Int32 → Int32 → Int32 → mm → Option (Int32 × mm)} {x4 : Int32} {x7 : Int32} {M0 M : mm} (hR44 : ∀ (y0 : Int32) (y1 : Int32) (y2 : Int32) (y3 : Int32) (M_ : mm), EqS S M0 M_ → Fr S M0 (R44 y0 y1 y2 y3 M_)) (hK129 : ∀ (y0 : Int32) (y1 : Int32) (y2 : Int32) (M_ : mm), EqS S M0 M_ → Fr S M0 (K129 y0 y1 y2 M_)) (e : EqS S M0 M) : Fr S M0 (X11_ruled_b113 a1 a2 a3 R44 K129 x4 x7 M) := by
  unfold X11_ruled_b113
  repeat' (first
      | with_reducible assumption
      | with_reducible exact Fr_none
      | (with_reducible exact Fr_some ‹EqS S M0 _›)
      | (with_reducible refine Fr_gd fun _ => ?_)
      | (with_reducible refine Fr_ite ?_ ?_)
      | (with_reducible refine Fr_opt ?_ fun _ => ?_)
      | (with_reducible refine Fr_sA ?_ ‹EqS S M0 _› fun _ _ => ?_)
      | (with_reducible refine Fr_sR0 ‹EqS S M0 _› fun _ _ => ?_)
      | (with_reducible refine Fr_sL ?_ ‹EqS S M0 _› fun _ _ => ?_)
      | (with_reducible refine Fr_lt fun _ => ?_)
      | (with_reducible refine Fr_bd (hR44 _ _ _ _ _ ‹EqS S M0 _›) fun _ _ _ => ?_)
      | with_reducible exact hR44 _ _ _ _ _ ‹EqS S M0 _›
      | (with_reducible refine Fr_bd (hK129 _ _ _ _ ‹EqS S M0 _›) fun _ _ _ => ?_)
      | with_reducible exact hK129 _ _ _ _ ‹EqS S M0 _›
      | (with_reducible refine Fr_bd (fr_X11_ruled_b123 ?_ ?_ ‹EqS S M0 _›) fun _ _ _ => ?_)
      | (with_reducible refine fr_X11_ruled_b123 ?_ ?_ ‹EqS S M0 _›)
      | intro _)
theorem fr_X11_ruled_L44 {S : Nat → Bool} {a1 : Int32} {a2 : Int32} {a3 : Int32} {K129 : Int32 → Int32 → Int32 → mm → Option (Int32 × mm)} {M0 : mm} (hS : ∀ k, k ∈ [82, 87, 88, 89, 91, 92, 93, 94, 95, 96, 97, 100, 101, 102, 103, 104, 106] → S k = true) (hK129 : ∀ (y0 : Int32) (y1 : Int32) (y2 : Int32) (M_ : mm), EqS S M0 M_ → Fr S M0 (K129 y0 y1 y2 M_)) : ∀ (n_ : Nat) (z1 : Int32) (z2 : Int32) (z3 : Int32) (z4 : Int32) (M : mm), EqS S M0 M → Fr S M0 (X11_ruled_L44 a1 a2 a3 K129 n_ z1 z2 z3 z4 M) := by
  intro n_
  induction n_ with
  | zero =>
    intros
    exact Fr_none
  | succ n_ ih =>
    intro z1 z2 z3 z4 M e
    rw [X11_ruled_L44]
    repeat' (first
        | with_reducible assumption
        | with_reducible exact Fr_none
        | (with_reducible exact Fr_some ‹EqS S M0 _›)
        | (with_reducible refine Fr_gd fun _ => ?_)
        | (with_reducible refine Fr_ite ?_ ?_)
        | (with_reducible refine Fr_opt ?_ fun _ => ?_)
        | (with_reducible refine Fr_sA ?_ ‹EqS S M0 _› fun _ _ => ?_)
        | (with_reducible refine Fr_sR0 ‹EqS S M0 _› fun _ _ => ?_)
        | (with_reducible refine Fr_sL ?_ ‹EqS S M0 _› fun _ _ => ?_)
        | (with_reducible refine Fr_lt fun _ => ?_)
        | exact hS _ (by decide)
        | exact subL (by decide) hS
        | (with_reducible refine Fr_bd (hK129 _ _ _ _ ‹EqS S M0 _›) fun _ _ _ => ?_)
        | with_reducible exact hK129 _ _ _ _ ‹EqS S M0 _›
        | (with_reducible refine Fr_bd (fr_X11_asksBest ?_ ‹EqS S M0 _›) fun _ _ _ => ?_)
        | (with_reducible refine fr_X11_asksBest ?_ ‹EqS S M0 _›)
        | (with_reducible refine Fr_bd (fr_X11_ruled_L74 ?_ ?_ _ _ _ _ _ _ _ ‹EqS S M0 _›) fun _ _ _ => ?_)
        | (with_reducible refine fr_X11_ruled_L74 ?_ ?_ _ _ _ _ _ _ _ ‹EqS S M0 _›)
        | (with_reducible refine Fr_bd (fr_X11_laysBack ?_ ‹EqS S M0 _›) fun _ _ _ => ?_)
        | (with_reducible refine fr_X11_laysBack ?_ ‹EqS S M0 _›)
        | (with_reducible refine Fr_bd (fr_X11_ruled_b113 ?_ ?_ ‹EqS S M0 _›) fun _ _ _ => ?_)
        | (with_reducible refine fr_X11_ruled_b113 ?_ ?_ ‹EqS S M0 _›)
        | (with_reducible refine Fr_bd (fr_X11_ruled_b123 ?_ ?_ ‹EqS S M0 _›) fun _ _ _ => ?_)
        | (with_reducible refine fr_X11_ruled_b123 ?_ ?_ ‹EqS S M0 _›)
        | (with_reducible refine Fr_bd (ih _ _ _ _ _ ‹EqS S M0 _›) fun _ _ _ => ?_)
        | with_reducible exact ih _ _ _ _ _ ‹EqS S M0 _›
        | intro _)
theorem fr_X11_ruled {S : Nat → Bool} {a1 : Int32} {a2 : Int32} {a3 : Int32} {M0 M : mm} (hS : ∀ k, k ∈ [82, 87, 88, 89, 91, 92, 93, 94, 95, 96, 97, 100, 101, 102, 103, 104, 106, 107, 108, 109, 110] → S k = true) (e : EqS S M0 M) : Fr S M0 (X11_ruled a1 a2 a3 M) := by
  unfold X11_ruled
  repeat' (first
      | with_reducible assumption
      | with_reducible exact Fr_none
      | (with_reducible exact Fr_some ‹EqS S M0 _›)
      | (with_reducible refine Fr_gd fun _ => ?_)
      | (with_reducible refine Fr_ite ?_ ?_)
      | (with_reducible refine Fr_opt ?_ fun _ => ?_)
      | (with_reducible refine Fr_sA ?_ ‹EqS S M0 _› fun _ _ => ?_)
      | (with_reducible refine Fr_sR0 ‹EqS S M0 _› fun _ _ => ?_)
      | (with_reducible refine Fr_sL ?_ ‹EqS S M0 _› fun _ _ => ?_)
      | (with_reducible refine Fr_lt fun _ => ?_)
      | exact hS _ (by decide)
      | exact subL (by decide) hS
      | (with_reducible refine Fr_bd (fr_X11_within  ‹EqS S M0 _›) fun _ _ _ => ?_)
      | (with_reducible refine fr_X11_within  ‹EqS S M0 _›)
      | (with_reducible refine Fr_bd (fr_X11_keepsAside ?_ ‹EqS S M0 _›) fun _ _ _ => ?_)
      | (with_reducible refine fr_X11_keepsAside ?_ ‹EqS S M0 _›)
      | (with_reducible refine Fr_bd (fr_X11_ruled_L44 ?_ ?_ _ _ _ _ _ _ ‹EqS S M0 _›) fun _ _ _ => ?_)
      | (with_reducible refine fr_X11_ruled_L44 ?_ ?_ _ _ _ _ _ _ ‹EqS S M0 _›)
      | intro _)
theorem fr_X11_firstBelow_L2 {S : Nat → Bool} {a1 : Int32} {M0 : mm}  : ∀ (n_ : Nat) (z1 : Int32) (M : mm), EqS S M0 M → Fr S M0 (X11_firstBelow_L2 a1 n_ z1 M) := by
  intro n_
  induction n_ with
  | zero =>
    intros
    exact Fr_none
  | succ n_ ih =>
    intro z1 M e
    rw [X11_firstBelow_L2]
    repeat' (first
        | with_reducible assumption
        | with_reducible exact Fr_none
        | (with_reducible exact Fr_some ‹EqS S M0 _›)
        | (with_reducible refine Fr_gd fun _ => ?_)
        | (with_reducible refine Fr_ite ?_ ?_)
        | (with_reducible refine Fr_opt ?_ fun _ => ?_)
        | (with_reducible refine Fr_sA ?_ ‹EqS S M0 _› fun _ _ => ?_)
        | (with_reducible refine Fr_sR0 ‹EqS S M0 _› fun _ _ => ?_)
        | (with_reducible refine Fr_sL ?_ ‹EqS S M0 _› fun _ _ => ?_)
        | (with_reducible refine Fr_lt fun _ => ?_)
        | (with_reducible refine Fr_bd (ih _ _ ‹EqS S M0 _›) fun _ _ _ => ?_)
        | with_reducible exact ih _ _ ‹EqS S M0 _›
        | intro _)
theorem fr_X11_firstBelow {S : Nat → Bool} {a1 : Int32} {M0 M : mm}  (e : EqS S M0 M) : Fr S M0 (X11_firstBelow a1 M) := by
  unfold X11_firstBelow
  repeat' (first
      | with_reducible assumption
      | with_reducible exact Fr_none
      | (with_reducible exact Fr_some ‹EqS S M0 _›)
      | (with_reducible refine Fr_gd fun _ => ?_)
      | (with_reducible refine Fr_ite ?_ ?_)
      | (with_reducible refine Fr_opt ?_ fun _ => ?_)
      | (with_reducible refine Fr_sA ?_ ‹EqS S M0 _› fun _ _ => ?_)
      | (with_reducible refine Fr_sR0 ‹EqS S M0 _› fun _ _ => ?_)
      | (with_reducible refine Fr_sL ?_ ‹EqS S M0 _› fun _ _ => ?_)
      | (with_reducible refine Fr_lt fun _ => ?_)
      | (with_reducible refine Fr_bd (fr_X11_firstBelow_L2  _ _ _ ‹EqS S M0 _›) fun _ _ _ => ?_)
      | (with_reducible refine fr_X11_firstBelow_L2  _ _ _ ‹EqS S M0 _›)
      | intro _)
theorem fr_X11_ruined_L44 {S : Nat → Bool} {a1 : Int32} {a2 : Int32} {a3 : Int32} {K73 : Int32 → Int32 → mm → Option (Int32 × mm)} {M0 : mm} (hS : ∀ k, k ∈ [82, 87, 88, 89, 91, 92, 93, 94, 95, 96, 97, 100] → S k = true) (hK73 : ∀ (y0 : Int32) (y1 : Int32) (M_ : mm), EqS S M0 M_ → Fr S M0 (K73 y0 y1 M_)) : ∀ (n_ : Nat) (z1 : Int32) (z2 : Int32) (M : mm), EqS S M0 M → Fr S M0 (X11_ruined_L44 a1 a2 a3 K73 n_ z1 z2 M) := by
  intro n_
  induction n_ with
  | zero =>
    intros
    exact Fr_none
  | succ n_ ih =>
    intro z1 z2 M e
    rw [X11_ruined_L44]
    repeat' (first
        | with_reducible assumption
        | with_reducible exact Fr_none
        | (with_reducible exact Fr_some ‹EqS S M0 _›)
        | (with_reducible refine Fr_gd fun _ => ?_)
        | (with_reducible refine Fr_ite ?_ ?_)
        | (with_reducible refine Fr_opt ?_ fun _ => ?_)
        | (with_reducible refine Fr_sA ?_ ‹EqS S M0 _› fun _ _ => ?_)
        | (with_reducible refine Fr_sR0 ‹EqS S M0 _› fun _ _ => ?_)
        | (with_reducible refine Fr_sL ?_ ‹EqS S M0 _› fun _ _ => ?_)
        | (with_reducible refine Fr_lt fun _ => ?_)
        | exact hS _ (by decide)
        | exact subL (by decide) hS
        | (with_reducible refine Fr_bd (hK73 _ _ _ ‹EqS S M0 _›) fun _ _ _ => ?_)
        | with_reducible exact hK73 _ _ _ ‹EqS S M0 _›
        | (with_reducible refine Fr_bd (fr_X11_goesYear ?_ ‹EqS S M0 _›) fun _ _ _ => ?_)
        | (with_reducible refine fr_X11_goesYear ?_ ‹EqS S M0 _›)
        | (with_reducible refine Fr_bd (fr_X11_firstBelow  ‹EqS S M0 _›) fun _ _ _ => ?_)
        | (with_reducible refine fr_X11_firstBelow  ‹EqS S M0 _›)
        | (with_reducible refine Fr_bd (ih _ _ _ ‹EqS S M0 _›) fun _ _ _ => ?_)
        | with_reducible exact ih _ _ _ ‹EqS S M0 _›
        | intro _)
theorem fr_X11_ruined_b73 {S : Nat → Bool} {a1 : Int32} {a2 : Int32} {a3 : Int32} {x4 : Int32} {x5 : Int32} {M0 M : mm} (hS : ∀ k, k ∈ [82, 87, 88, 89, 91, 92, 93, 94, 95, 96, 97] → S k = true) (e : EqS S M0 M) : Fr S M0 (X11_ruined_b73 a1 a2 a3 x4 x5 M) := by
  unfold X11_ruined_b73
  repeat' (first
      | with_reducible assumption
      | with_reducible exact Fr_none
      | (with_reducible exact Fr_some ‹EqS S M0 _›)
      | (with_reducible refine Fr_gd fun _ => ?_)
      | (with_reducible refine Fr_ite ?_ ?_)
      | (with_reducible refine Fr_opt ?_ fun _ => ?_)
      | (with_reducible refine Fr_sA ?_ ‹EqS S M0 _› fun _ _ => ?_)
      | (with_reducible refine Fr_sR0 ‹EqS S M0 _› fun _ _ => ?_)
      | (with_reducible refine Fr_sL ?_ ‹EqS S M0 _› fun _ _ => ?_)
      | (with_reducible refine Fr_lt fun _ => ?_)
      | exact hS _ (by decide)
      | exact subL (by decide) hS
      | (with_reducible refine Fr_bd (fr_X11_laysBack ?_ ‹EqS S M0 _›) fun _ _ _ => ?_)
      | (with_reducible refine fr_X11_laysBack ?_ ‹EqS S M0 _›)
      | intro _)
theorem fr_X11_ruined {S : Nat → Bool} {a1 : Int32} {a2 : Int32} {a3 : Int32} {M0 M : mm} (hS : ∀ k, k ∈ [82, 87, 88, 89, 91, 92, 93, 94, 95, 96, 97, 100, 101, 102, 103, 104, 106, 107, 108, 109, 110] → S k = true) (e : EqS S M0 M) : Fr S M0 (X11_ruined a1 a2 a3 M) := by
  unfold X11_ruined
  repeat' (first
      | with_reducible assumption
      | with_reducible exact Fr_none
      | (with_reducible exact Fr_some ‹EqS S M0 _›)
      | (with_reducible refine Fr_gd fun _ => ?_)
      | (with_reducible refine Fr_ite ?_ ?_)
      | (with_reducible refine Fr_opt ?_ fun _ => ?_)
      | (with_reducible refine Fr_sA ?_ ‹EqS S M0 _› fun _ _ => ?_)
      | (with_reducible refine Fr_sR0 ‹EqS S M0 _› fun _ _ => ?_)
      | (with_reducible refine Fr_sL ?_ ‹EqS S M0 _› fun _ _ => ?_)
      | (with_reducible refine Fr_lt fun _ => ?_)
      | exact hS _ (by decide)
      | exact subL (by decide) hS
      | (with_reducible refine Fr_bd (fr_X11_within  ‹EqS S M0 _›) fun _ _ _ => ?_)
      | (with_reducible refine fr_X11_within  ‹EqS S M0 _›)
      | (with_reducible refine Fr_bd (fr_X11_keepsAside ?_ ‹EqS S M0 _›) fun _ _ _ => ?_)
      | (with_reducible refine fr_X11_keepsAside ?_ ‹EqS S M0 _›)
      | (with_reducible refine Fr_bd (fr_X11_asksBest ?_ ‹EqS S M0 _›) fun _ _ _ => ?_)
      | (with_reducible refine fr_X11_asksBest ?_ ‹EqS S M0 _›)
      | (with_reducible refine Fr_bd (fr_X11_ruined_L44 ?_ ?_ _ _ _ _ ‹EqS S M0 _›) fun _ _ _ => ?_)
      | (with_reducible refine fr_X11_ruined_L44 ?_ ?_ _ _ _ _ ‹EqS S M0 _›)
      | (with_reducible refine Fr_bd (fr_X11_ruined_b73 ?_ ‹EqS S M0 _›) fun _ _ _ => ?_)
      | (with_reducible refine fr_X11_ruined_b73 ?_ ‹EqS S M0 _›)
      | intro _)
theorem fr_X11_image {S : Nat → Bool}  {M0 M : mm} (hS : ∀ k, k ∈ [82, 107, 108, 109, 110] → S k = true) (e : EqS S M0 M) : Fr S M0 (X11_image  M) := by
  unfold X11_image
  repeat' (first
      | with_reducible assumption
      | with_reducible exact Fr_none
      | (with_reducible exact Fr_some ‹EqS S M0 _›)
      | (with_reducible refine Fr_gd fun _ => ?_)
      | (with_reducible refine Fr_ite ?_ ?_)
      | (with_reducible refine Fr_opt ?_ fun _ => ?_)
      | (with_reducible refine Fr_sA ?_ ‹EqS S M0 _› fun _ _ => ?_)
      | (with_reducible refine Fr_sR0 ‹EqS S M0 _› fun _ _ => ?_)
      | (with_reducible refine Fr_sL ?_ ‹EqS S M0 _› fun _ _ => ?_)
      | (with_reducible refine Fr_lt fun _ => ?_)
      | exact hS _ (by decide)
      | exact subL (by decide) hS
      | (with_reducible refine Fr_bd (fr_X11_keepsAside ?_ ‹EqS S M0 _›) fun _ _ _ => ?_)
      | (with_reducible refine fr_X11_keepsAside ?_ ‹EqS S M0 _›)
      | intro _)
theorem fr_X11_back {S : Nat → Bool}  {M0 M : mm} (hS : ∀ k, k ∈ [82, 87, 88, 89, 91, 92, 93, 94, 95, 96, 97] → S k = true) (e : EqS S M0 M) : Fr S M0 (X11_back  M) := by
  unfold X11_back
  repeat' (first
      | with_reducible assumption
      | with_reducible exact Fr_none
      | (with_reducible exact Fr_some ‹EqS S M0 _›)
      | (with_reducible refine Fr_gd fun _ => ?_)
      | (with_reducible refine Fr_ite ?_ ?_)
      | (with_reducible refine Fr_opt ?_ fun _ => ?_)
      | (with_reducible refine Fr_sA ?_ ‹EqS S M0 _› fun _ _ => ?_)
      | (with_reducible refine Fr_sR0 ‹EqS S M0 _› fun _ _ => ?_)
      | (with_reducible refine Fr_sL ?_ ‹EqS S M0 _› fun _ _ => ?_)
      | (with_reducible refine Fr_lt fun _ => ?_)
      | exact hS _ (by decide)
      | exact subL (by decide) hS
      | (with_reducible refine Fr_bd (fr_X11_laysBack ?_ ‹EqS S M0 _›) fun _ _ _ => ?_)
      | (with_reducible refine fr_X11_laysBack ?_ ‹EqS S M0 _›)
      | intro _)
theorem fr_X11_isBody {S : Nat → Bool} {a1 : Int32} {M0 M : mm}  (e : EqS S M0 M) : Fr S M0 (X11_isBody a1 M) := by
  unfold X11_isBody
  repeat' (first
      | with_reducible assumption
      | with_reducible exact Fr_none
      | (with_reducible exact Fr_some ‹EqS S M0 _›)
      | (with_reducible refine Fr_gd fun _ => ?_)
      | (with_reducible refine Fr_ite ?_ ?_)
      | (with_reducible refine Fr_opt ?_ fun _ => ?_)
      | (with_reducible refine Fr_sA ?_ ‹EqS S M0 _› fun _ _ => ?_)
      | (with_reducible refine Fr_sR0 ‹EqS S M0 _› fun _ _ => ?_)
      | (with_reducible refine Fr_sL ?_ ‹EqS S M0 _› fun _ _ => ?_)
      | (with_reducible refine Fr_lt fun _ => ?_)
      | (with_reducible refine Fr_bd (fr_X11_within  ‹EqS S M0 _›) fun _ _ _ => ?_)
      | (with_reducible refine fr_X11_within  ‹EqS S M0 _›)
      | intro _)
theorem fr_X11_kindOf {S : Nat → Bool} {a1 : Int32} {M0 M : mm}  (e : EqS S M0 M) : Fr S M0 (X11_kindOf a1 M) := by
  unfold X11_kindOf
  repeat' (first
      | with_reducible assumption
      | with_reducible exact Fr_none
      | (with_reducible exact Fr_some ‹EqS S M0 _›)
      | (with_reducible refine Fr_gd fun _ => ?_)
      | (with_reducible refine Fr_ite ?_ ?_)
      | (with_reducible refine Fr_opt ?_ fun _ => ?_)
      | (with_reducible refine Fr_sA ?_ ‹EqS S M0 _› fun _ _ => ?_)
      | (with_reducible refine Fr_sR0 ‹EqS S M0 _› fun _ _ => ?_)
      | (with_reducible refine Fr_sL ?_ ‹EqS S M0 _› fun _ _ => ?_)
      | (with_reducible refine Fr_lt fun _ => ?_)
      | intro _)
theorem fr_X11_body {S : Nat → Bool} {a1 : Int32} {M0 M : mm} (hS : ∀ k, k ∈ [82, 111] → S k = true) (e : EqS S M0 M) : Fr S M0 (X11_body a1 M) := by
  unfold X11_body
  repeat' (first
      | with_reducible assumption
      | with_reducible exact Fr_none
      | (with_reducible exact Fr_some ‹EqS S M0 _›)
      | (with_reducible refine Fr_gd fun _ => ?_)
      | (with_reducible refine Fr_ite ?_ ?_)
      | (with_reducible refine Fr_opt ?_ fun _ => ?_)
      | (with_reducible refine Fr_sA ?_ ‹EqS S M0 _› fun _ _ => ?_)
      | (with_reducible refine Fr_sR0 ‹EqS S M0 _› fun _ _ => ?_)
      | (with_reducible refine Fr_sL ?_ ‹EqS S M0 _› fun _ _ => ?_)
      | (with_reducible refine Fr_lt fun _ => ?_)
      | exact hS _ (by decide)
      | exact subL (by decide) hS
      | (with_reducible refine Fr_bd (fr_X11_within  ‹EqS S M0 _›) fun _ _ _ => ?_)
      | (with_reducible refine fr_X11_within  ‹EqS S M0 _›)
      | intro _)
theorem fr_X11_above {S : Nat → Bool} {a0 : Int32} {M0 M : mm}  (e : EqS S M0 M) : Fr S M0 (X11_above a0 M) := by
  unfold X11_above
  repeat' (first
      | with_reducible assumption
      | with_reducible exact Fr_none
      | (with_reducible exact Fr_some ‹EqS S M0 _›)
      | (with_reducible refine Fr_gd fun _ => ?_)
      | (with_reducible refine Fr_ite ?_ ?_)
      | (with_reducible refine Fr_opt ?_ fun _ => ?_)
      | (with_reducible refine Fr_sA ?_ ‹EqS S M0 _› fun _ _ => ?_)
      | (with_reducible refine Fr_sR0 ‹EqS S M0 _› fun _ _ => ?_)
      | (with_reducible refine Fr_sL ?_ ‹EqS S M0 _› fun _ _ => ?_)
      | (with_reducible refine Fr_lt fun _ => ?_)
      | intro _)
theorem fr_X11_begins_b19 {S : Nat → Bool} {a1 : Int32} {M0 M : mm} (hS : ∀ k, k ∈ [82] → S k = true) (e : EqS S M0 M) : Fr S M0 (X11_begins_b19 a1 M) := by
  unfold X11_begins_b19
  repeat' (first
      | with_reducible assumption
      | with_reducible exact Fr_none
      | (with_reducible exact Fr_some ‹EqS S M0 _›)
      | (with_reducible refine Fr_gd fun _ => ?_)
      | (with_reducible refine Fr_ite ?_ ?_)
      | (with_reducible refine Fr_opt ?_ fun _ => ?_)
      | (with_reducible refine Fr_sA ?_ ‹EqS S M0 _› fun _ _ => ?_)
      | (with_reducible refine Fr_sR0 ‹EqS S M0 _› fun _ _ => ?_)
      | (with_reducible refine Fr_sL ?_ ‹EqS S M0 _› fun _ _ => ?_)
      | (with_reducible refine Fr_lt fun _ => ?_)
      | exact hS _ (by decide)
      | exact subL (by decide) hS
      | intro _)
theorem fr_X11_begins {S : Nat → Bool} {a1 : Int32} {M0 M : mm} (hS : ∀ k, k ∈ [82, 112] → S k = true) (e : EqS S M0 M) : Fr S M0 (X11_begins a1 M) := by
  unfold X11_begins
  repeat' (first
      | with_reducible assumption
      | with_reducible exact Fr_none
      | (with_reducible exact Fr_some ‹EqS S M0 _›)
      | (with_reducible refine Fr_gd fun _ => ?_)
      | (with_reducible refine Fr_ite ?_ ?_)
      | (with_reducible refine Fr_opt ?_ fun _ => ?_)
      | (with_reducible refine Fr_sA ?_ ‹EqS S M0 _› fun _ _ => ?_)
      | (with_reducible refine Fr_sR0 ‹EqS S M0 _› fun _ _ => ?_)
      | (with_reducible refine Fr_sL ?_ ‹EqS S M0 _› fun _ _ => ?_)
      | (with_reducible refine Fr_lt fun _ => ?_)
      | exact hS _ (by decide)
      | exact subL (by decide) hS
      | (with_reducible refine Fr_bd (fr_X11_begins_b19 ?_ ‹EqS S M0 _›) fun _ _ _ => ?_)
      | (with_reducible refine fr_X11_begins_b19 ?_ ‹EqS S M0 _›)
      | intro _)
theorem fr_X11_mendsAs_b16 {S : Nat → Bool} {rec : Nat → Int32 → Int32 → mm → Option (Int32 × mm)} {a1 : Int32} {a2 : Int32} {M0 M : mm} (hS : ∀ k, k ∈ [82, 112] → S k = true) (hrec : ∀ (y0 : Nat) (y1 : Int32) (y2 : Int32) (M_ : mm), EqS S M0 M_ → Fr S M0 (rec y0 y1 y2 M_)) (e : EqS S M0 M) : Fr S M0 (X11_mendsAs_b16 rec a1 a2 M) := by
  unfold X11_mendsAs_b16
  repeat' (first
      | with_reducible assumption
      | with_reducible exact Fr_none
      | (with_reducible exact Fr_some ‹EqS S M0 _›)
      | (with_reducible refine Fr_gd fun _ => ?_)
      | (with_reducible refine Fr_ite ?_ ?_)
      | (with_reducible refine Fr_opt ?_ fun _ => ?_)
      | (with_reducible refine Fr_sA ?_ ‹EqS S M0 _› fun _ _ => ?_)
      | (with_reducible refine Fr_sR0 ‹EqS S M0 _› fun _ _ => ?_)
      | (with_reducible refine Fr_sL ?_ ‹EqS S M0 _› fun _ _ => ?_)
      | (with_reducible refine Fr_lt fun _ => ?_)
      | exact hS _ (by decide)
      | exact subL (by decide) hS
      | (with_reducible refine Fr_bd (hrec _ _ _ _ ‹EqS S M0 _›) fun _ _ _ => ?_)
      | with_reducible exact hrec _ _ _ _ ‹EqS S M0 _›
      | (with_reducible refine Fr_bd (fr_X11_begins ?_ ‹EqS S M0 _›) fun _ _ _ => ?_)
      | (with_reducible refine fr_X11_begins ?_ ‹EqS S M0 _›)
      | intro _)
theorem fr_X11_mendsAs_B {S : Nat → Bool} {rec : Nat → Int32 → Int32 → mm → Option (Int32 × mm)} {a1 : Int32} {a2 : Int32} {M0 M : mm} (hS : ∀ k, k ∈ [82, 112] → S k = true) (hrec : ∀ (y0 : Nat) (y1 : Int32) (y2 : Int32) (M_ : mm), EqS S M0 M_ → Fr S M0 (rec y0 y1 y2 M_)) (e : EqS S M0 M) : Fr S M0 (X11_mendsAs_B rec a1 a2 M) := by
  unfold X11_mendsAs_B
  repeat' (first
      | with_reducible assumption
      | with_reducible exact Fr_none
      | (with_reducible exact Fr_some ‹EqS S M0 _›)
      | (with_reducible refine Fr_gd fun _ => ?_)
      | (with_reducible refine Fr_ite ?_ ?_)
      | (with_reducible refine Fr_opt ?_ fun _ => ?_)
      | (with_reducible refine Fr_sA ?_ ‹EqS S M0 _› fun _ _ => ?_)
      | (with_reducible refine Fr_sR0 ‹EqS S M0 _› fun _ _ => ?_)
      | (with_reducible refine Fr_sL ?_ ‹EqS S M0 _› fun _ _ => ?_)
      | (with_reducible refine Fr_lt fun _ => ?_)
      | exact hS _ (by decide)
      | exact subL (by decide) hS
      | (with_reducible refine Fr_bd (hrec _ _ _ _ ‹EqS S M0 _›) fun _ _ _ => ?_)
      | with_reducible exact hrec _ _ _ _ ‹EqS S M0 _›
      | (with_reducible refine Fr_bd (fr_X11_mendsAs_b16 ?_ ?_ ‹EqS S M0 _›) fun _ _ _ => ?_)
      | (with_reducible refine fr_X11_mendsAs_b16 ?_ ?_ ‹EqS S M0 _›)
      | (with_reducible refine Fr_bd (fr_X11_begins ?_ ‹EqS S M0 _›) fun _ _ _ => ?_)
      | (with_reducible refine fr_X11_begins ?_ ‹EqS S M0 _›)
      | intro _)
theorem fr_G_X11_mendsAs {S : Nat → Bool}  {M0 : mm} (hS : ∀ k, k ∈ [82, 112] → S k = true) : ∀ (n_ : Nat) (z1 : Nat) (z2 : Int32) (z3 : Int32) (M : mm), EqS S M0 M → Fr S M0 (G_X11_mendsAs  n_ z1 z2 z3 M) := by
  intro n_
  induction n_ with
  | zero =>
    intros
    exact Fr_none
  | succ n_ ih =>
    intro z1 z2 z3 M e
    unfold G_X11_mendsAs
    repeat' (first
        | with_reducible assumption
        | with_reducible exact Fr_none
        | (with_reducible exact Fr_some ‹EqS S M0 _›)
        | (with_reducible refine Fr_gd fun _ => ?_)
        | (with_reducible refine Fr_ite ?_ ?_)
        | (with_reducible refine Fr_opt ?_ fun _ => ?_)
        | (with_reducible refine Fr_sA ?_ ‹EqS S M0 _› fun _ _ => ?_)
        | (with_reducible refine Fr_sR0 ‹EqS S M0 _› fun _ _ => ?_)
        | (with_reducible refine Fr_sL ?_ ‹EqS S M0 _› fun _ _ => ?_)
        | (with_reducible refine Fr_lt fun _ => ?_)
        | exact hS _ (by decide)
        | exact subL (by decide) hS
        | (with_reducible refine Fr_bd (fr_X11_mendsAs_B ?_ ?_ ‹EqS S M0 _›) fun _ _ _ => ?_)
        | (with_reducible refine fr_X11_mendsAs_B ?_ ?_ ‹EqS S M0 _›)
        | (with_reducible refine Fr_bd (ih _ _ _ _ ‹EqS S M0 _›) fun _ _ _ => ?_)
        | with_reducible exact ih _ _ _ _ ‹EqS S M0 _›
        | split
        | intro _)
theorem fr_X11_mendsAs {S : Nat → Bool} {a1 : Int32} {a2 : Int32} {M0 M : mm} (hS : ∀ k, k ∈ [82, 112] → S k = true) (e : EqS S M0 M) : Fr S M0 (X11_mendsAs a1 a2 M) := by
  unfold X11_mendsAs
  repeat' (first
      | with_reducible assumption
      | with_reducible exact Fr_none
      | (with_reducible exact Fr_some ‹EqS S M0 _›)
      | (with_reducible refine Fr_gd fun _ => ?_)
      | (with_reducible refine Fr_ite ?_ ?_)
      | (with_reducible refine Fr_opt ?_ fun _ => ?_)
      | (with_reducible refine Fr_sA ?_ ‹EqS S M0 _› fun _ _ => ?_)
      | (with_reducible refine Fr_sR0 ‹EqS S M0 _› fun _ _ => ?_)
      | (with_reducible refine Fr_sL ?_ ‹EqS S M0 _› fun _ _ => ?_)
      | (with_reducible refine Fr_lt fun _ => ?_)
      | exact hS _ (by decide)
      | exact subL (by decide) hS
      | (with_reducible refine Fr_bd (fr_G_X11_mendsAs ?_ _ _ _ _ _ ‹EqS S M0 _›) fun _ _ _ => ?_)
      | (with_reducible refine fr_G_X11_mendsAs ?_ _ _ _ _ _ ‹EqS S M0 _›)
      | intro _)
theorem fr_X11_leavesAs_b10 {S : Nat → Bool} {rec : Nat → Int32 → Int32 → mm → Option (Int32 × mm)} {a1 : Int32} {a2 : Int32} {M0 M : mm} (hS : ∀ k, k ∈ [82, 112] → S k = true) (hrec : ∀ (y0 : Nat) (y1 : Int32) (y2 : Int32) (M_ : mm), EqS S M0 M_ → Fr S M0 (rec y0 y1 y2 M_)) (e : EqS S M0 M) : Fr S M0 (X11_leavesAs_b10 rec a1 a2 M) := by
  unfold X11_leavesAs_b10
  repeat' (first
      | with_reducible assumption
      | with_reducible exact Fr_none
      | (with_reducible exact Fr_some ‹EqS S M0 _›)
      | (with_reducible refine Fr_gd fun _ => ?_)
      | (with_reducible refine Fr_ite ?_ ?_)
      | (with_reducible refine Fr_opt ?_ fun _ => ?_)
      | (with_reducible refine Fr_sA ?_ ‹EqS S M0 _› fun _ _ => ?_)
      | (with_reducible refine Fr_sR0 ‹EqS S M0 _› fun _ _ => ?_)
      | (with_reducible refine Fr_sL ?_ ‹EqS S M0 _› fun _ _ => ?_)
      | (with_reducible refine Fr_lt fun _ => ?_)
      | exact hS _ (by decide)
      | exact subL (by decide) hS
      | (with_reducible refine Fr_bd (hrec _ _ _ _ ‹EqS S M0 _›) fun _ _ _ => ?_)
      | with_reducible exact hrec _ _ _ _ ‹EqS S M0 _›
      | (with_reducible refine Fr_bd (fr_X11_begins ?_ ‹EqS S M0 _›) fun _ _ _ => ?_)
      | (with_reducible refine fr_X11_begins ?_ ‹EqS S M0 _›)
      | intro _)
theorem fr_X11_leavesAs_b36 {S : Nat → Bool} {rec : Nat → Int32 → Int32 → mm → Option (Int32 × mm)} {a1 : Int32} {a2 : Int32} {M0 M : mm} (hS : ∀ k, k ∈ [82, 112] → S k = true) (hrec : ∀ (y0 : Nat) (y1 : Int32) (y2 : Int32) (M_ : mm), EqS S M0 M_ → Fr S M0 (rec y0 y1 y2 M_)) (e : EqS S M0 M) : Fr S M0 (X11_leavesAs_b36 rec a1 a2 M) := by
  unfold X11_leavesAs_b36
  repeat' (first
      | with_reducible assumption
      | with_reducible exact Fr_none
      | (with_reducible exact Fr_some ‹EqS S M0 _›)
      | (with_reducible refine Fr_gd fun _ => ?_)
      | (with_reducible refine Fr_ite ?_ ?_)
      | (with_reducible refine Fr_opt ?_ fun _ => ?_)
      | (with_reducible refine Fr_sA ?_ ‹EqS S M0 _› fun _ _ => ?_)
      | (with_reducible refine Fr_sR0 ‹EqS S M0 _› fun _ _ => ?_)
      | (with_reducible refine Fr_sL ?_ ‹EqS S M0 _› fun _ _ => ?_)
      | (with_reducible refine Fr_lt fun _ => ?_)
      | exact hS _ (by decide)
      | exact subL (by decide) hS
      | (with_reducible refine Fr_bd (hrec _ _ _ _ ‹EqS S M0 _›) fun _ _ _ => ?_)
      | with_reducible exact hrec _ _ _ _ ‹EqS S M0 _›
      | (with_reducible refine Fr_bd (fr_X11_begins ?_ ‹EqS S M0 _›) fun _ _ _ => ?_)
      | (with_reducible refine fr_X11_begins ?_ ‹EqS S M0 _›)
      | (with_reducible refine Fr_bd (fr_X11_mendsAs ?_ ‹EqS S M0 _›) fun _ _ _ => ?_)
      | (with_reducible refine fr_X11_mendsAs ?_ ‹EqS S M0 _›)
      | intro _)
theorem fr_X11_leavesAs_B {S : Nat → Bool} {rec : Nat → Int32 → Int32 → mm → Option (Int32 × mm)} {a1 : Int32} {a2 : Int32} {M0 M : mm} (hS : ∀ k, k ∈ [82, 112] → S k = true) (hrec : ∀ (y0 : Nat) (y1 : Int32) (y2 : Int32) (M_ : mm), EqS S M0 M_ → Fr S M0 (rec y0 y1 y2 M_)) (e : EqS S M0 M) : Fr S M0 (X11_leavesAs_B rec a1 a2 M) := by
  unfold X11_leavesAs_B
  repeat' (first
      | with_reducible assumption
      | with_reducible exact Fr_none
      | (with_reducible exact Fr_some ‹EqS S M0 _›)
      | (with_reducible refine Fr_gd fun _ => ?_)
      | (with_reducible refine Fr_ite ?_ ?_)
      | (with_reducible refine Fr_opt ?_ fun _ => ?_)
      | (with_reducible refine Fr_sA ?_ ‹EqS S M0 _› fun _ _ => ?_)
      | (with_reducible refine Fr_sR0 ‹EqS S M0 _› fun _ _ => ?_)
      | (with_reducible refine Fr_sL ?_ ‹EqS S M0 _› fun _ _ => ?_)
      | (with_reducible refine Fr_lt fun _ => ?_)
      | exact hS _ (by decide)
      | exact subL (by decide) hS
      | (with_reducible refine Fr_bd (hrec _ _ _ _ ‹EqS S M0 _›) fun _ _ _ => ?_)
      | with_reducible exact hrec _ _ _ _ ‹EqS S M0 _›
      | (with_reducible refine Fr_bd (fr_X11_leavesAs_b10 ?_ ?_ ‹EqS S M0 _›) fun _ _ _ => ?_)
      | (with_reducible refine fr_X11_leavesAs_b10 ?_ ?_ ‹EqS S M0 _›)
      | (with_reducible refine Fr_bd (fr_X11_leavesAs_b36 ?_ ?_ ‹EqS S M0 _›) fun _ _ _ => ?_)
      | (with_reducible refine fr_X11_leavesAs_b36 ?_ ?_ ‹EqS S M0 _›)
      | (with_reducible refine Fr_bd (fr_X11_begins ?_ ‹EqS S M0 _›) fun _ _ _ => ?_)
      | (with_reducible refine fr_X11_begins ?_ ‹EqS S M0 _›)
      | intro _)
theorem fr_G_X11_leavesAs {S : Nat → Bool}  {M0 : mm} (hS : ∀ k, k ∈ [82, 112] → S k = true) : ∀ (n_ : Nat) (z1 : Nat) (z2 : Int32) (z3 : Int32) (M : mm), EqS S M0 M → Fr S M0 (G_X11_leavesAs  n_ z1 z2 z3 M) := by
  intro n_
  induction n_ with
  | zero =>
    intros
    exact Fr_none
  | succ n_ ih =>
    intro z1 z2 z3 M e
    unfold G_X11_leavesAs
    repeat' (first
        | with_reducible assumption
        | with_reducible exact Fr_none
        | (with_reducible exact Fr_some ‹EqS S M0 _›)
        | (with_reducible refine Fr_gd fun _ => ?_)
        | (with_reducible refine Fr_ite ?_ ?_)
        | (with_reducible refine Fr_opt ?_ fun _ => ?_)
        | (with_reducible refine Fr_sA ?_ ‹EqS S M0 _› fun _ _ => ?_)
        | (with_reducible refine Fr_sR0 ‹EqS S M0 _› fun _ _ => ?_)
        | (with_reducible refine Fr_sL ?_ ‹EqS S M0 _› fun _ _ => ?_)
        | (with_reducible refine Fr_lt fun _ => ?_)
        | exact hS _ (by decide)
        | exact subL (by decide) hS
        | (with_reducible refine Fr_bd (fr_X11_leavesAs_B ?_ ?_ ‹EqS S M0 _›) fun _ _ _ => ?_)
        | (with_reducible refine fr_X11_leavesAs_B ?_ ?_ ‹EqS S M0 _›)
        | (with_reducible refine Fr_bd (ih _ _ _ _ ‹EqS S M0 _›) fun _ _ _ => ?_)
        | with_reducible exact ih _ _ _ _ ‹EqS S M0 _›
        | split
        | intro _)
theorem fr_X11_leavesAs {S : Nat → Bool} {a1 : Int32} {a2 : Int32} {M0 M : mm} (hS : ∀ k, k ∈ [82, 112] → S k = true) (e : EqS S M0 M) : Fr S M0 (X11_leavesAs a1 a2 M) := by
  unfold X11_leavesAs
  repeat' (first
      | with_reducible assumption
      | with_reducible exact Fr_none
      | (with_reducible exact Fr_some ‹EqS S M0 _›)
      | (with_reducible refine Fr_gd fun _ => ?_)
      | (with_reducible refine Fr_ite ?_ ?_)
      | (with_reducible refine Fr_opt ?_ fun _ => ?_)
      | (with_reducible refine Fr_sA ?_ ‹EqS S M0 _› fun _ _ => ?_)
      | (with_reducible refine Fr_sR0 ‹EqS S M0 _› fun _ _ => ?_)
      | (with_reducible refine Fr_sL ?_ ‹EqS S M0 _› fun _ _ => ?_)
      | (with_reducible refine Fr_lt fun _ => ?_)
      | exact hS _ (by decide)
      | exact subL (by decide) hS
      | (with_reducible refine Fr_bd (fr_G_X11_leavesAs ?_ _ _ _ _ _ ‹EqS S M0 _›) fun _ _ _ => ?_)
      | (with_reducible refine fr_G_X11_leavesAs ?_ _ _ _ _ _ ‹EqS S M0 _›)
      | intro _)
theorem fr_X11_paysAs_b10 {S : Nat → Bool} {rec : Nat → Int32 → Int32 → mm → Option (Int32 × mm)} {a1 : Int32} {a2 : Int32} {M0 M : mm} (hS : ∀ k, k ∈ [82, 112] → S k = true) (hrec : ∀ (y0 : Nat) (y1 : Int32) (y2 : Int32) (M_ : mm), EqS S M0 M_ → Fr S M0 (rec y0 y1 y2 M_)) (e : EqS S M0 M) : Fr S M0 (X11_paysAs_b10 rec a1 a2 M) := by
  unfold X11_paysAs_b10
  repeat' (first
      | with_reducible assumption
      | with_reducible exact Fr_none
      | (with_reducible exact Fr_some ‹EqS S M0 _›)
      | (with_reducible refine Fr_gd fun _ => ?_)
      | (with_reducible refine Fr_ite ?_ ?_)
      | (with_reducible refine Fr_opt ?_ fun _ => ?_)
      | (with_reducible refine Fr_sA ?_ ‹EqS S M0 _› fun _ _ => ?_)
      | (with_reducible refine Fr_sR0 ‹EqS S M0 _› fun _ _ => ?_)
      | (with_reducible refine Fr_sL ?_ ‹EqS S M0 _› fun _ _ => ?_)
      | (with_reducible refine Fr_lt fun _ => ?_)
      | exact hS _ (by decide)
      | exact subL (by decide) hS
      | (with_reducible refine Fr_bd (hrec _ _ _ _ ‹EqS S M0 _›) fun _ _ _ => ?_)
      | with_reducible exact hrec _ _ _ _ ‹EqS S M0 _›
      | (with_reducible refine Fr_bd (fr_X11_begins ?_ ‹EqS S M0 _›) fun _ _ _ => ?_)
      | (with_reducible refine fr_X11_begins ?_ ‹EqS S M0 _›)
      | intro _)
theorem fr_X11_paysAs_B {S : Nat → Bool} {rec : Nat → Int32 → Int32 → mm → Option (Int32 × mm)} {a1 : Int32} {a2 : Int32} {M0 M : mm} (hS : ∀ k, k ∈ [82, 112] → S k = true) (hrec : ∀ (y0 : Nat) (y1 : Int32) (y2 : Int32) (M_ : mm), EqS S M0 M_ → Fr S M0 (rec y0 y1 y2 M_)) (e : EqS S M0 M) : Fr S M0 (X11_paysAs_B rec a1 a2 M) := by
  unfold X11_paysAs_B
  repeat' (first
      | with_reducible assumption
      | with_reducible exact Fr_none
      | (with_reducible exact Fr_some ‹EqS S M0 _›)
      | (with_reducible refine Fr_gd fun _ => ?_)
      | (with_reducible refine Fr_ite ?_ ?_)
      | (with_reducible refine Fr_opt ?_ fun _ => ?_)
      | (with_reducible refine Fr_sA ?_ ‹EqS S M0 _› fun _ _ => ?_)
      | (with_reducible refine Fr_sR0 ‹EqS S M0 _› fun _ _ => ?_)
      | (with_reducible refine Fr_sL ?_ ‹EqS S M0 _› fun _ _ => ?_)
      | (with_reducible refine Fr_lt fun _ => ?_)
      | exact hS _ (by decide)
      | exact subL (by decide) hS
      | (with_reducible refine Fr_bd (hrec _ _ _ _ ‹EqS S M0 _›) fun _ _ _ => ?_)
      | with_reducible exact hrec _ _ _ _ ‹EqS S M0 _›
      | (with_reducible refine Fr_bd (fr_X11_paysAs_b10 ?_ ?_ ‹EqS S M0 _›) fun _ _ _ => ?_)
      | (with_reducible refine fr_X11_paysAs_b10 ?_ ?_ ‹EqS S M0 _›)
      | (with_reducible refine Fr_bd (fr_X11_begins ?_ ‹EqS S M0 _›) fun _ _ _ => ?_)
      | (with_reducible refine fr_X11_begins ?_ ‹EqS S M0 _›)
      | (with_reducible refine Fr_bd (fr_X11_leavesAs ?_ ‹EqS S M0 _›) fun _ _ _ => ?_)
      | (with_reducible refine fr_X11_leavesAs ?_ ‹EqS S M0 _›)
      | (with_reducible refine Fr_bd (fr_X11_mendsAs ?_ ‹EqS S M0 _›) fun _ _ _ => ?_)
      | (with_reducible refine fr_X11_mendsAs ?_ ‹EqS S M0 _›)
      | intro _)
theorem fr_G_X11_paysAs {S : Nat → Bool}  {M0 : mm} (hS : ∀ k, k ∈ [82, 112] → S k = true) : ∀ (n_ : Nat) (z1 : Nat) (z2 : Int32) (z3 : Int32) (M : mm), EqS S M0 M → Fr S M0 (G_X11_paysAs  n_ z1 z2 z3 M) := by
  intro n_
  induction n_ with
  | zero =>
    intros
    exact Fr_none
  | succ n_ ih =>
    intro z1 z2 z3 M e
    unfold G_X11_paysAs
    repeat' (first
        | with_reducible assumption
        | with_reducible exact Fr_none
        | (with_reducible exact Fr_some ‹EqS S M0 _›)
        | (with_reducible refine Fr_gd fun _ => ?_)
        | (with_reducible refine Fr_ite ?_ ?_)
        | (with_reducible refine Fr_opt ?_ fun _ => ?_)
        | (with_reducible refine Fr_sA ?_ ‹EqS S M0 _› fun _ _ => ?_)
        | (with_reducible refine Fr_sR0 ‹EqS S M0 _› fun _ _ => ?_)
        | (with_reducible refine Fr_sL ?_ ‹EqS S M0 _› fun _ _ => ?_)
        | (with_reducible refine Fr_lt fun _ => ?_)
        | exact hS _ (by decide)
        | exact subL (by decide) hS
        | (with_reducible refine Fr_bd (fr_X11_paysAs_B ?_ ?_ ‹EqS S M0 _›) fun _ _ _ => ?_)
        | (with_reducible refine fr_X11_paysAs_B ?_ ?_ ‹EqS S M0 _›)
        | (with_reducible refine Fr_bd (ih _ _ _ _ ‹EqS S M0 _›) fun _ _ _ => ?_)
        | with_reducible exact ih _ _ _ _ ‹EqS S M0 _›
        | split
        | intro _)
theorem fr_X11_paysAs {S : Nat → Bool} {a1 : Int32} {a2 : Int32} {M0 M : mm} (hS : ∀ k, k ∈ [82, 112] → S k = true) (e : EqS S M0 M) : Fr S M0 (X11_paysAs a1 a2 M) := by
  unfold X11_paysAs
  repeat' (first
      | with_reducible assumption
      | with_reducible exact Fr_none
      | (with_reducible exact Fr_some ‹EqS S M0 _›)
      | (with_reducible refine Fr_gd fun _ => ?_)
      | (with_reducible refine Fr_ite ?_ ?_)
      | (with_reducible refine Fr_opt ?_ fun _ => ?_)
      | (with_reducible refine Fr_sA ?_ ‹EqS S M0 _› fun _ _ => ?_)
      | (with_reducible refine Fr_sR0 ‹EqS S M0 _› fun _ _ => ?_)
      | (with_reducible refine Fr_sL ?_ ‹EqS S M0 _› fun _ _ => ?_)
      | (with_reducible refine Fr_lt fun _ => ?_)
      | exact hS _ (by decide)
      | exact subL (by decide) hS
      | (with_reducible refine Fr_bd (fr_G_X11_paysAs ?_ _ _ _ _ _ ‹EqS S M0 _›) fun _ _ _ => ?_)
      | (with_reducible refine fr_G_X11_paysAs ?_ _ _ _ _ _ ‹EqS S M0 _›)
      | intro _)
theorem fr_X11_tellsAs_B {S : Nat → Bool} {rec : Nat → Int32 → Int32 → mm → Option (Int32 × mm)} {a1 : Int32} {a2 : Int32} {M0 M : mm} (hS : ∀ k, k ∈ [82, 112] → S k = true) (hrec : ∀ (y0 : Nat) (y1 : Int32) (y2 : Int32) (M_ : mm), EqS S M0 M_ → Fr S M0 (rec y0 y1 y2 M_)) (e : EqS S M0 M) : Fr S M0 (X11_tellsAs_B rec a1 a2 M) := by
  unfold X11_tellsAs_B
  repeat' (first
      | with_reducible assumption
      | with_reducible exact Fr_none
      | (with_reducible exact Fr_some ‹EqS S M0 _›)
      | (with_reducible refine Fr_gd fun _ => ?_)
      | (with_reducible refine Fr_ite ?_ ?_)
      | (with_reducible refine Fr_opt ?_ fun _ => ?_)
      | (with_reducible refine Fr_sA ?_ ‹EqS S M0 _› fun _ _ => ?_)
      | (with_reducible refine Fr_sR0 ‹EqS S M0 _› fun _ _ => ?_)
      | (with_reducible refine Fr_sL ?_ ‹EqS S M0 _› fun _ _ => ?_)
      | (with_reducible refine Fr_lt fun _ => ?_)
      | exact hS _ (by decide)
      | exact subL (by decide) hS
      | (with_reducible refine Fr_bd (hrec _ _ _ _ ‹EqS S M0 _›) fun _ _ _ => ?_)
      | with_reducible exact hrec _ _ _ _ ‹EqS S M0 _›
      | (with_reducible refine Fr_bd (fr_X11_begins ?_ ‹EqS S M0 _›) fun _ _ _ => ?_)
      | (with_reducible refine fr_X11_begins ?_ ‹EqS S M0 _›)
      | (with_reducible refine Fr_bd (fr_X11_paysAs ?_ ‹EqS S M0 _›) fun _ _ _ => ?_)
      | (with_reducible refine fr_X11_paysAs ?_ ‹EqS S M0 _›)
      | (with_reducible refine Fr_bd (fr_X11_leavesAs ?_ ‹EqS S M0 _›) fun _ _ _ => ?_)
      | (with_reducible refine fr_X11_leavesAs ?_ ‹EqS S M0 _›)
      | intro _)
theorem fr_G_X11_tellsAs {S : Nat → Bool}  {M0 : mm} (hS : ∀ k, k ∈ [82, 112] → S k = true) : ∀ (n_ : Nat) (z1 : Nat) (z2 : Int32) (z3 : Int32) (M : mm), EqS S M0 M → Fr S M0 (G_X11_tellsAs  n_ z1 z2 z3 M) := by
  intro n_
  induction n_ with
  | zero =>
    intros
    exact Fr_none
  | succ n_ ih =>
    intro z1 z2 z3 M e
    unfold G_X11_tellsAs
    repeat' (first
        | with_reducible assumption
        | with_reducible exact Fr_none
        | (with_reducible exact Fr_some ‹EqS S M0 _›)
        | (with_reducible refine Fr_gd fun _ => ?_)
        | (with_reducible refine Fr_ite ?_ ?_)
        | (with_reducible refine Fr_opt ?_ fun _ => ?_)
        | (with_reducible refine Fr_sA ?_ ‹EqS S M0 _› fun _ _ => ?_)
        | (with_reducible refine Fr_sR0 ‹EqS S M0 _› fun _ _ => ?_)
        | (with_reducible refine Fr_sL ?_ ‹EqS S M0 _› fun _ _ => ?_)
        | (with_reducible refine Fr_lt fun _ => ?_)
        | exact hS _ (by decide)
        | exact subL (by decide) hS
        | (with_reducible refine Fr_bd (fr_X11_tellsAs_B ?_ ?_ ‹EqS S M0 _›) fun _ _ _ => ?_)
        | (with_reducible refine fr_X11_tellsAs_B ?_ ?_ ‹EqS S M0 _›)
        | (with_reducible refine Fr_bd (ih _ _ _ _ ‹EqS S M0 _›) fun _ _ _ => ?_)
        | with_reducible exact ih _ _ _ _ ‹EqS S M0 _›
        | split
        | intro _)
theorem fr_X11_tellsAs {S : Nat → Bool} {a1 : Int32} {a2 : Int32} {M0 M : mm} (hS : ∀ k, k ∈ [82, 112] → S k = true) (e : EqS S M0 M) : Fr S M0 (X11_tellsAs a1 a2 M) := by
  unfold X11_tellsAs
  repeat' (first
      | with_reducible assumption
      | with_reducible exact Fr_none
      | (with_reducible exact Fr_some ‹EqS S M0 _›)
      | (with_reducible refine Fr_gd fun _ => ?_)
      | (with_reducible refine Fr_ite ?_ ?_)
      | (with_reducible refine Fr_opt ?_ fun _ => ?_)
      | (with_reducible refine Fr_sA ?_ ‹EqS S M0 _› fun _ _ => ?_)
      | (with_reducible refine Fr_sR0 ‹EqS S M0 _› fun _ _ => ?_)
      | (with_reducible refine Fr_sL ?_ ‹EqS S M0 _› fun _ _ => ?_)
      | (with_reducible refine Fr_lt fun _ => ?_)
      | exact hS _ (by decide)
      | exact subL (by decide) hS
      | (with_reducible refine Fr_bd (fr_G_X11_tellsAs ?_ _ _ _ _ _ ‹EqS S M0 _›) fun _ _ _ => ?_)
      | (with_reducible refine fr_G_X11_tellsAs ?_ _ _ _ _ _ ‹EqS S M0 _›)
      | intro _)
theorem fr_X11_act {S : Nat → Bool} {a1 : Int32} {a2 : Int32} {a3 : Int32} {M0 M : mm} (hS : ∀ k, k ∈ [82, 112] → S k = true) (e : EqS S M0 M) : Fr S M0 (X11_act a1 a2 a3 M) := by
  unfold X11_act
  repeat' (first
      | with_reducible assumption
      | with_reducible exact Fr_none
      | (with_reducible exact Fr_some ‹EqS S M0 _›)
      | (with_reducible refine Fr_gd fun _ => ?_)
      | (with_reducible refine Fr_ite ?_ ?_)
      | (with_reducible refine Fr_opt ?_ fun _ => ?_)
      | (with_reducible refine Fr_sA ?_ ‹EqS S M0 _› fun _ _ => ?_)
      | (with_reducible refine Fr_sR0 ‹EqS S M0 _› fun _ _ => ?_)
      | (with_reducible refine Fr_sL ?_ ‹EqS S M0 _› fun _ _ => ?_)
      | (with_reducible refine Fr_lt fun _ => ?_)
      | exact hS _ (by decide)
      | exact subL (by decide) hS
      | (with_reducible refine Fr_bd (fr_X11_isBody  ‹EqS S M0 _›) fun _ _ _ => ?_)
      | (with_reducible refine fr_X11_isBody  ‹EqS S M0 _›)
      | (with_reducible refine Fr_bd (fr_X11_mendsAs ?_ ‹EqS S M0 _›) fun _ _ _ => ?_)
      | (with_reducible refine fr_X11_mendsAs ?_ ‹EqS S M0 _›)
      | (with_reducible refine Fr_bd (fr_X11_paysAs ?_ ‹EqS S M0 _›) fun _ _ _ => ?_)
      | (with_reducible refine fr_X11_paysAs ?_ ‹EqS S M0 _›)
      | (with_reducible refine Fr_bd (fr_X11_leavesAs ?_ ‹EqS S M0 _›) fun _ _ _ => ?_)
      | (with_reducible refine fr_X11_leavesAs ?_ ‹EqS S M0 _›)
      | (with_reducible refine Fr_bd (fr_X11_tellsAs ?_ ‹EqS S M0 _›) fun _ _ _ => ?_)
      | (with_reducible refine fr_X11_tellsAs ?_ ‹EqS S M0 _›)
      | intro _)
theorem fr_X11_trace {S : Nat → Bool} {a1 : Int32} {M0 M : mm}  (e : EqS S M0 M) : Fr S M0 (X11_trace a1 M) := by
  unfold X11_trace
  repeat' (first
      | with_reducible assumption
      | with_reducible exact Fr_none
      | (with_reducible exact Fr_some ‹EqS S M0 _›)
      | (with_reducible refine Fr_gd fun _ => ?_)
      | (with_reducible refine Fr_ite ?_ ?_)
      | (with_reducible refine Fr_opt ?_ fun _ => ?_)
      | (with_reducible refine Fr_sA ?_ ‹EqS S M0 _› fun _ _ => ?_)
      | (with_reducible refine Fr_sR0 ‹EqS S M0 _› fun _ _ => ?_)
      | (with_reducible refine Fr_sL ?_ ‹EqS S M0 _› fun _ _ => ?_)
      | (with_reducible refine Fr_lt fun _ => ?_)
      | intro _)
theorem fr_X11_keep_b22 {S : Nat → Bool} {a1 : Int32} {a2 : Int32} {M0 M : mm} (hS : ∀ k, k ∈ [113, 114] → S k = true) (e : EqS S M0 M) : Fr S M0 (X11_keep_b22 a1 a2 M) := by
  unfold X11_keep_b22
  repeat' (first
      | with_reducible assumption
      | with_reducible exact Fr_none
      | (with_reducible exact Fr_some ‹EqS S M0 _›)
      | (with_reducible refine Fr_gd fun _ => ?_)
      | (with_reducible refine Fr_ite ?_ ?_)
      | (with_reducible refine Fr_opt ?_ fun _ => ?_)
      | (with_reducible refine Fr_sA ?_ ‹EqS S M0 _› fun _ _ => ?_)
      | (with_reducible refine Fr_sR0 ‹EqS S M0 _› fun _ _ => ?_)
      | (with_reducible refine Fr_sL ?_ ‹EqS S M0 _› fun _ _ => ?_)
      | (with_reducible refine Fr_lt fun _ => ?_)
      | exact hS _ (by decide)
      | exact subL (by decide) hS
      | intro _)
theorem fr_X11_keep {S : Nat → Bool} {a1 : Int32} {a2 : Int32} {M0 M : mm} (hS : ∀ k, k ∈ [113, 114] → S k = true) (e : EqS S M0 M) : Fr S M0 (X11_keep a1 a2 M) := by
  unfold X11_keep
  repeat' (first
      | with_reducible assumption
      | with_reducible exact Fr_none
      | (with_reducible exact Fr_some ‹EqS S M0 _›)
      | (with_reducible refine Fr_gd fun _ => ?_)
      | (with_reducible refine Fr_ite ?_ ?_)
      | (with_reducible refine Fr_opt ?_ fun _ => ?_)
      | (with_reducible refine Fr_sA ?_ ‹EqS S M0 _› fun _ _ => ?_)
      | (with_reducible refine Fr_sR0 ‹EqS S M0 _› fun _ _ => ?_)
      | (with_reducible refine Fr_sL ?_ ‹EqS S M0 _› fun _ _ => ?_)
      | (with_reducible refine Fr_lt fun _ => ?_)
      | exact hS _ (by decide)
      | exact subL (by decide) hS
      | (with_reducible refine Fr_bd (fr_X11_isShelf  ‹EqS S M0 _›) fun _ _ _ => ?_)
      | (with_reducible refine fr_X11_isShelf  ‹EqS S M0 _›)
      | (with_reducible refine Fr_bd (fr_X11_keep_b22 ?_ ‹EqS S M0 _›) fun _ _ _ => ?_)
      | (with_reducible refine fr_X11_keep_b22 ?_ ‹EqS S M0 _›)
      | (with_reducible refine Fr_bd (fr_X11_isBody  ‹EqS S M0 _›) fun _ _ _ => ?_)
      | (with_reducible refine fr_X11_isBody  ‹EqS S M0 _›)
      | intro _)
theorem fr_X11_row_L57 {S : Nat → Bool} {a1 : Int32} {a2 : Int32} {a3 : Int32} {M0 : mm} (hS : ∀ k, k ∈ [115] → S k = true) : ∀ (n_ : Nat) (z1 : Int32) (M : mm), EqS S M0 M → Fr S M0 (X11_row_L57 a1 a2 a3 n_ z1 M) := by
  intro n_
  induction n_ with
  | zero =>
    intros
    exact Fr_none
  | succ n_ ih =>
    intro z1 M e
    rw [X11_row_L57]
    repeat' (first
        | with_reducible assumption
        | with_reducible exact Fr_none
        | (with_reducible exact Fr_some ‹EqS S M0 _›)
        | (with_reducible refine Fr_gd fun _ => ?_)
        | (with_reducible refine Fr_ite ?_ ?_)
        | (with_reducible refine Fr_opt ?_ fun _ => ?_)
        | (with_reducible refine Fr_sA ?_ ‹EqS S M0 _› fun _ _ => ?_)
        | (with_reducible refine Fr_sR0 ‹EqS S M0 _› fun _ _ => ?_)
        | (with_reducible refine Fr_sL ?_ ‹EqS S M0 _› fun _ _ => ?_)
        | (with_reducible refine Fr_lt fun _ => ?_)
        | exact hS _ (by decide)
        | exact subL (by decide) hS
        | (with_reducible refine Fr_bd (ih _ _ ‹EqS S M0 _›) fun _ _ _ => ?_)
        | with_reducible exact ih _ _ ‹EqS S M0 _›
        | intro _)
theorem fr_X11_row {S : Nat → Bool} {a1 : Int32} {a2 : Int32} {a3 : Int32} {M0 M : mm} (hS : ∀ k, k ∈ [113, 114, 115] → S k = true) (e : EqS S M0 M) : Fr S M0 (X11_row a1 a2 a3 M) := by
  unfold X11_row
  repeat' (first
      | with_reducible assumption
      | with_reducible exact Fr_none
      | (with_reducible exact Fr_some ‹EqS S M0 _›)
      | (with_reducible refine Fr_gd fun _ => ?_)
      | (with_reducible refine Fr_ite ?_ ?_)
      | (with_reducible refine Fr_opt ?_ fun _ => ?_)
      | (with_reducible refine Fr_sA ?_ ‹EqS S M0 _› fun _ _ => ?_)
      | (with_reducible refine Fr_sR0 ‹EqS S M0 _› fun _ _ => ?_)
      | (with_reducible refine Fr_sL ?_ ‹EqS S M0 _› fun _ _ => ?_)
      | (with_reducible refine Fr_lt fun _ => ?_)
      | exact hS _ (by decide)
      | exact subL (by decide) hS
      | (with_reducible refine Fr_bd (fr_X11_isShelf  ‹EqS S M0 _›) fun _ _ _ => ?_)
      | (with_reducible refine fr_X11_isShelf  ‹EqS S M0 _›)
      | (with_reducible refine Fr_bd (fr_X11_within  ‹EqS S M0 _›) fun _ _ _ => ?_)
      | (with_reducible refine fr_X11_within  ‹EqS S M0 _›)
      | (with_reducible refine Fr_bd (fr_X11_row_L57 ?_ _ _ _ ‹EqS S M0 _›) fun _ _ _ => ?_)
      | (with_reducible refine fr_X11_row_L57 ?_ _ _ _ ‹EqS S M0 _›)
      | intro _)
theorem fr_X11_refusal {S : Nat → Bool} {a1 : Int32} {a2 : Int32} {M0 M : mm}  (e : EqS S M0 M) : Fr S M0 (X11_refusal a1 a2 M) := by
  unfold X11_refusal
  repeat' (first
      | with_reducible assumption
      | with_reducible exact Fr_none
      | (with_reducible exact Fr_some ‹EqS S M0 _›)
      | (with_reducible refine Fr_gd fun _ => ?_)
      | (with_reducible refine Fr_ite ?_ ?_)
      | (with_reducible refine Fr_opt ?_ fun _ => ?_)
      | (with_reducible refine Fr_sA ?_ ‹EqS S M0 _› fun _ _ => ?_)
      | (with_reducible refine Fr_sR0 ‹EqS S M0 _› fun _ _ => ?_)
      | (with_reducible refine Fr_sL ?_ ‹EqS S M0 _› fun _ _ => ?_)
      | (with_reducible refine Fr_lt fun _ => ?_)
      | (with_reducible refine Fr_bd (fr_X11_isShelf  ‹EqS S M0 _›) fun _ _ _ => ?_)
      | (with_reducible refine fr_X11_isShelf  ‹EqS S M0 _›)
      | intro _)
theorem fr_X11_asSort {S : Nat → Bool} {a0 : Int32} {a1 : Int64} {M0 M : mm}  (e : EqS S M0 M) : Fr S M0 (X11_asSort a0 a1 M) := by
  unfold X11_asSort
  repeat' (first
      | with_reducible assumption
      | with_reducible exact Fr_none
      | (with_reducible exact Fr_some ‹EqS S M0 _›)
      | (with_reducible refine Fr_gd fun _ => ?_)
      | (with_reducible refine Fr_ite ?_ ?_)
      | (with_reducible refine Fr_opt ?_ fun _ => ?_)
      | (with_reducible refine Fr_sA ?_ ‹EqS S M0 _› fun _ _ => ?_)
      | (with_reducible refine Fr_sR0 ‹EqS S M0 _› fun _ _ => ?_)
      | (with_reducible refine Fr_sL ?_ ‹EqS S M0 _› fun _ _ => ?_)
      | (with_reducible refine Fr_lt fun _ => ?_)
      | intro _)
theorem fr_X11_put_b37 {S : Nat → Bool} {a1 : Int32} {a2 : Int32} {a3 : Int64} {x5 : Int32} {M0 M : mm}  (e : EqS S M0 M) : Fr S M0 (X11_put_b37 a1 a2 a3 x5 M) := by
  unfold X11_put_b37
  repeat' (first
      | with_reducible assumption
      | with_reducible exact Fr_none
      | (with_reducible exact Fr_some ‹EqS S M0 _›)
      | (with_reducible refine Fr_gd fun _ => ?_)
      | (with_reducible refine Fr_ite ?_ ?_)
      | (with_reducible refine Fr_opt ?_ fun _ => ?_)
      | (with_reducible refine Fr_sA ?_ ‹EqS S M0 _› fun _ _ => ?_)
      | (with_reducible refine Fr_sR0 ‹EqS S M0 _› fun _ _ => ?_)
      | (with_reducible refine Fr_sL ?_ ‹EqS S M0 _› fun _ _ => ?_)
      | (with_reducible refine Fr_lt fun _ => ?_)
      | intro _)
theorem fr_X11_put {S : Nat → Bool} {a1 : Int32} {a2 : Int32} {a3 : Int64} {M0 M : mm} (hS : ∀ k, k ∈ [115] → S k = true) (e : EqS S M0 M) : Fr S M0 (X11_put a1 a2 a3 M) := by
  unfold X11_put
  repeat' (first
      | with_reducible assumption
      | with_reducible exact Fr_none
      | (with_reducible exact Fr_some ‹EqS S M0 _›)
      | (with_reducible refine Fr_gd fun _ => ?_)
      | (with_reducible refine Fr_ite ?_ ?_)
      | (with_reducible refine Fr_opt ?_ fun _ => ?_)
      | (with_reducible refine Fr_sA ?_ ‹EqS S M0 _› fun _ _ => ?_)
      | (with_reducible refine Fr_sR0 ‹EqS S M0 _› fun _ _ => ?_)
      | (with_reducible refine Fr_sL ?_ ‹EqS S M0 _› fun _ _ => ?_)
      | (with_reducible refine Fr_lt fun _ => ?_)
      | exact hS _ (by decide)
      | exact subL (by decide) hS
      | (with_reducible refine Fr_bd (fr_X11_refusal  ‹EqS S M0 _›) fun _ _ _ => ?_)
      | (with_reducible refine fr_X11_refusal  ‹EqS S M0 _›)
      | (with_reducible refine Fr_bd (fr_X11_asSort  ‹EqS S M0 _›) fun _ _ _ => ?_)
      | (with_reducible refine fr_X11_asSort  ‹EqS S M0 _›)
      | (with_reducible refine Fr_bd (fr_X11_put_b37  ‹EqS S M0 _›) fun _ _ _ => ?_)
      | (with_reducible refine fr_X11_put_b37  ‹EqS S M0 _›)
      | intro _)
theorem fr_X11_element {S : Nat → Bool} {a1 : Int32} {a2 : Int32} {M0 M : mm}  (e : EqS S M0 M) : Fr S M0 (X11_element a1 a2 M) := by
  unfold X11_element
  repeat' (first
      | with_reducible assumption
      | with_reducible exact Fr_none
      | (with_reducible exact Fr_some ‹EqS S M0 _›)
      | (with_reducible refine Fr_gd fun _ => ?_)
      | (with_reducible refine Fr_ite ?_ ?_)
      | (with_reducible refine Fr_opt ?_ fun _ => ?_)
      | (with_reducible refine Fr_sA ?_ ‹EqS S M0 _› fun _ _ => ?_)
      | (with_reducible refine Fr_sR0 ‹EqS S M0 _› fun _ _ => ?_)
      | (with_reducible refine Fr_sL ?_ ‹EqS S M0 _› fun _ _ => ?_)
      | (with_reducible refine Fr_lt fun _ => ?_)
      | (with_reducible refine Fr_bd (fr_X11_refusal  ‹EqS S M0 _›) fun _ _ _ => ?_)
      | (with_reducible refine fr_X11_refusal  ‹EqS S M0 _›)
      | intro _)
theorem fr_X11_shift_L113 {S : Nat → Bool} {a1 : Int32} {a2 : Int32} {a3 : Int32} {a4 : Int32} {a5 : Int32} {K147 : mm → Option (Int32 × mm)} {M0 : mm} (hS : ∀ k, k ∈ [116] → S k = true) (hK147 : ∀  (M_ : mm), EqS S M0 M_ → Fr S M0 (K147  M_)) : ∀ (n_ : Nat) (z1 : Int32) (M : mm), EqS S M0 M → Fr S M0 (X11_shift_L113 a1 a2 a3 a4 a5 K147 n_ z1 M) := by
  intro n_
  induction n_ with
  | zero =>
    intros
    exact Fr_none
  | succ n_ ih =>
    intro z1 M e
    rw [X11_shift_L113]
    repeat' (first
        | with_reducible assumption
        | with_reducible exact Fr_none
        | (with_reducible exact Fr_some ‹EqS S M0 _›)
        | (with_reducible refine Fr_gd fun _ => ?_)
        | (with_reducible refine Fr_ite ?_ ?_)
        | (with_reducible refine Fr_opt ?_ fun _ => ?_)
        | (with_reducible refine Fr_sA ?_ ‹EqS S M0 _› fun _ _ => ?_)
        | (with_reducible refine Fr_sR0 ‹EqS S M0 _› fun _ _ => ?_)
        | (with_reducible refine Fr_sL ?_ ‹EqS S M0 _› fun _ _ => ?_)
        | (with_reducible refine Fr_lt fun _ => ?_)
        | exact hS _ (by decide)
        | exact subL (by decide) hS
        | (with_reducible refine Fr_bd (hK147  _ ‹EqS S M0 _›) fun _ _ _ => ?_)
        | with_reducible exact hK147  _ ‹EqS S M0 _›
        | (with_reducible refine Fr_bd (ih _ _ ‹EqS S M0 _›) fun _ _ _ => ?_)
        | with_reducible exact ih _ _ ‹EqS S M0 _›
        | intro _)
theorem fr_X11_shift_L150 {S : Nat → Bool} {a1 : Int32} {a2 : Int32} {a3 : Int32} {a4 : Int32} {a5 : Int32} {M0 : mm} (hS : ∀ k, k ∈ [115] → S k = true) : ∀ (n_ : Nat) (z1 : Int32) (M : mm), EqS S M0 M → Fr S M0 (X11_shift_L150 a1 a2 a3 a4 a5 n_ z1 M) := by
  intro n_
  induction n_ with
  | zero =>
    intros
    exact Fr_none
  | succ n_ ih =>
    intro z1 M e
    rw [X11_shift_L150]
    repeat' (first
        | with_reducible assumption
        | with_reducible exact Fr_none
        | (with_reducible exact Fr_some ‹EqS S M0 _›)
        | (with_reducible refine Fr_gd fun _ => ?_)
        | (with_reducible refine Fr_ite ?_ ?_)
        | (with_reducible refine Fr_opt ?_ fun _ => ?_)
        | (with_reducible refine Fr_sA ?_ ‹EqS S M0 _› fun _ _ => ?_)
        | (with_reducible refine Fr_sR0 ‹EqS S M0 _› fun _ _ => ?_)
        | (with_reducible refine Fr_sL ?_ ‹EqS S M0 _› fun _ _ => ?_)
        | (with_reducible refine Fr_lt fun _ => ?_)
        | exact hS _ (by decide)
        | exact subL (by decide) hS
        | (with_reducible refine Fr_bd (ih _ _ ‹EqS S M0 _›) fun _ _ _ => ?_)
        | with_reducible exact ih _ _ ‹EqS S M0 _›
        | intro _)
theorem fr_X11_shift {S : Nat → Bool} {a1 : Int32} {a2 : Int32} {a3 : Int32} {a4 : Int32} {a5 : Int32} {M0 M : mm} (hS : ∀ k, k ∈ [115, 116] → S k = true) (e : EqS S M0 M) : Fr S M0 (X11_shift a1 a2 a3 a4 a5 M) := by
  unfold X11_shift
  repeat' (first
      | with_reducible assumption
      | with_reducible exact Fr_none
      | (with_reducible exact Fr_some ‹EqS S M0 _›)
      | (with_reducible refine Fr_gd fun _ => ?_)
      | (with_reducible refine Fr_ite ?_ ?_)
      | (with_reducible refine Fr_opt ?_ fun _ => ?_)
      | (with_reducible refine Fr_sA ?_ ‹EqS S M0 _› fun _ _ => ?_)
      | (with_reducible refine Fr_sR0 ‹EqS S M0 _› fun _ _ => ?_)
      | (with_reducible refine Fr_sL ?_ ‹EqS S M0 _› fun _ _ => ?_)
      | (with_reducible refine Fr_lt fun _ => ?_)
      | exact hS _ (by decide)
      | exact subL (by decide) hS
      | (with_reducible refine Fr_bd (fr_X11_isShelf  ‹EqS S M0 _›) fun _ _ _ => ?_)
      | (with_reducible refine fr_X11_isShelf  ‹EqS S M0 _›)
      | (with_reducible refine Fr_bd (fr_X11_shift_L113 ?_ ?_ _ _ _ ‹EqS S M0 _›) fun _ _ _ => ?_)
      | (with_reducible refine fr_X11_shift_L113 ?_ ?_ _ _ _ ‹EqS S M0 _›)
      | (with_reducible refine Fr_bd (fr_X11_shift_L150 ?_ _ _ _ ‹EqS S M0 _›) fun _ _ _ => ?_)
      | (with_reducible refine fr_X11_shift_L150 ?_ _ _ _ ‹EqS S M0 _›)
      | intro _)
theorem fr_X11_taken_L58 {S : Nat → Bool} {a1 : Int32} {a2 : Int32} {K75 : Int32 → mm → Option (Int32 × mm)} {M0 : mm} (hK75 : ∀ (y0 : Int32) (M_ : mm), EqS S M0 M_ → Fr S M0 (K75 y0 M_)) : ∀ (n_ : Nat) (z1 : Int32) (M : mm), EqS S M0 M → Fr S M0 (X11_taken_L58 a1 a2 K75 n_ z1 M) := by
  intro n_
  induction n_ with
  | zero =>
    intros
    exact Fr_none
  | succ n_ ih =>
    intro z1 M e
    rw [X11_taken_L58]
    repeat' (first
        | with_reducible assumption
        | with_reducible exact Fr_none
        | (with_reducible exact Fr_some ‹EqS S M0 _›)
        | (with_reducible refine Fr_gd fun _ => ?_)
        | (with_reducible refine Fr_ite ?_ ?_)
        | (with_reducible refine Fr_opt ?_ fun _ => ?_)
        | (with_reducible refine Fr_sA ?_ ‹EqS S M0 _› fun _ _ => ?_)
        | (with_reducible refine Fr_sR0 ‹EqS S M0 _› fun _ _ => ?_)
        | (with_reducible refine Fr_sL ?_ ‹EqS S M0 _› fun _ _ => ?_)
        | (with_reducible refine Fr_lt fun _ => ?_)
        | (with_reducible refine Fr_bd (hK75 _ _ ‹EqS S M0 _›) fun _ _ _ => ?_)
        | with_reducible exact hK75 _ _ ‹EqS S M0 _›
        | (with_reducible refine Fr_bd (fr_X11_above  ‹EqS S M0 _›) fun _ _ _ => ?_)
        | (with_reducible refine fr_X11_above  ‹EqS S M0 _›)
        | (with_reducible refine Fr_bd (ih _ _ ‹EqS S M0 _›) fun _ _ _ => ?_)
        | with_reducible exact ih _ _ ‹EqS S M0 _›
        | intro _)
theorem fr_X11_taken_b75 {S : Nat → Bool} {a1 : Int32} {a2 : Int32} {x3 : Int32} {M0 M : mm}  (e : EqS S M0 M) : Fr S M0 (X11_taken_b75 a1 a2 x3 M) := by
  unfold X11_taken_b75
  repeat' (first
      | with_reducible assumption
      | with_reducible exact Fr_none
      | (with_reducible exact Fr_some ‹EqS S M0 _›)
      | (with_reducible refine Fr_gd fun _ => ?_)
      | (with_reducible refine Fr_ite ?_ ?_)
      | (with_reducible refine Fr_opt ?_ fun _ => ?_)
      | (with_reducible refine Fr_sA ?_ ‹EqS S M0 _› fun _ _ => ?_)
      | (with_reducible refine Fr_sR0 ‹EqS S M0 _› fun _ _ => ?_)
      | (with_reducible refine Fr_sL ?_ ‹EqS S M0 _› fun _ _ => ?_)
      | (with_reducible refine Fr_lt fun _ => ?_)
      | (with_reducible refine Fr_bd (fr_X11_kindOf  ‹EqS S M0 _›) fun _ _ _ => ?_)
      | (with_reducible refine fr_X11_kindOf  ‹EqS S M0 _›)
      | intro _)
theorem fr_X11_taken {S : Nat → Bool} {a1 : Int32} {a2 : Int32} {M0 M : mm}  (e : EqS S M0 M) : Fr S M0 (X11_taken a1 a2 M) := by
  unfold X11_taken
  repeat' (first
      | with_reducible assumption
      | with_reducible exact Fr_none
      | (with_reducible exact Fr_some ‹EqS S M0 _›)
      | (with_reducible refine Fr_gd fun _ => ?_)
      | (with_reducible refine Fr_ite ?_ ?_)
      | (with_reducible refine Fr_opt ?_ fun _ => ?_)
      | (with_reducible refine Fr_sA ?_ ‹EqS S M0 _› fun _ _ => ?_)
      | (with_reducible refine Fr_sR0 ‹EqS S M0 _› fun _ _ => ?_)
      | (with_reducible refine Fr_sL ?_ ‹EqS S M0 _› fun _ _ => ?_)
      | (with_reducible refine Fr_lt fun _ => ?_)
      | (with_reducible refine Fr_bd (fr_X11_isShelf  ‹EqS S M0 _›) fun _ _ _ => ?_)
      | (with_reducible refine fr_X11_isShelf  ‹EqS S M0 _›)
      | (with_reducible refine Fr_bd (fr_X11_within  ‹EqS S M0 _›) fun _ _ _ => ?_)
      | (with_reducible refine fr_X11_within  ‹EqS S M0 _›)
      | (with_reducible refine Fr_bd (fr_X11_kindOf  ‹EqS S M0 _›) fun _ _ _ => ?_)
      | (with_reducible refine fr_X11_kindOf  ‹EqS S M0 _›)
      | (with_reducible refine Fr_bd (fr_X11_taken_L58 ?_ _ _ _ ‹EqS S M0 _›) fun _ _ _ => ?_)
      | (with_reducible refine fr_X11_taken_L58 ?_ _ _ _ ‹EqS S M0 _›)
      | (with_reducible refine Fr_bd (fr_X11_taken_b75  ‹EqS S M0 _›) fun _ _ _ => ?_)
      | (with_reducible refine fr_X11_taken_b75  ‹EqS S M0 _›)
      | intro _)
theorem fr_X11_count {S : Nat → Bool} {a1 : Int32} {M0 M : mm}  (e : EqS S M0 M) : Fr S M0 (X11_count a1 M) := by
  unfold X11_count
  repeat' (first
      | with_reducible assumption
      | with_reducible exact Fr_none
      | (with_reducible exact Fr_some ‹EqS S M0 _›)
      | (with_reducible refine Fr_gd fun _ => ?_)
      | (with_reducible refine Fr_ite ?_ ?_)
      | (with_reducible refine Fr_opt ?_ fun _ => ?_)
      | (with_reducible refine Fr_sA ?_ ‹EqS S M0 _› fun _ _ => ?_)
      | (with_reducible refine Fr_sR0 ‹EqS S M0 _› fun _ _ => ?_)
      | (with_reducible refine Fr_sL ?_ ‹EqS S M0 _› fun _ _ => ?_)
      | (with_reducible refine Fr_lt fun _ => ?_)
      | intro _)
