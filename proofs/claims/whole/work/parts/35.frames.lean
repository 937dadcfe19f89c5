/-! ===== the frames: which cells each lifted method may change ===== -/
def RefOK (M : mm) : Prop := (M.2.2 1 = 22 ∧ M.2.2 2 = 23) ∨ (M.2.2 1 = 23 ∧ M.2.2 2 = 22)
/-- but for the cells in S, as before; the pages are the two pages -/
def EqS (S : Nat → Bool) (M M' : mm) : Prop := (∀ k, S k = false → M'.1 k = M.1 k ∧ M'.2.1 k = M.2.1 k) ∧ RefOK M'
def Fr {α : Type} (S : Nat → Bool) (M : mm) (x : Option (α × mm)) : Prop := ∀ v M', x = some (v, M') → EqS S M M'
theorem Fr_none {α : Type} {S : Nat → Bool} {M0 : mm} : Fr S M0 (none : Option (α × mm)) := fun _ _ h => nomatch h
theorem Fr_some {α : Type} {S : Nat → Bool} {M0 M : mm} {v : α} (e : EqS S M0 M) : Fr S M0 (some (v, M)) := by
  intro _ _ h
  cases h
  exact e
theorem Fr_gd {α : Type} {S : Nat → Bool} {M0 : mm} {c : Bool} {x : Option (α × mm)} (h : c = true → Fr S M0 x) : Fr S M0 (gd c x) := by
  cases c with
  | false => exact Fr_none
  | true => exact h rfl
theorem Fr_ite {α : Type} {S : Nat → Bool} {M0 : mm} {c : Prop} [Decidable c] {x y : Option (α × mm)} (h : Fr S M0 x) (h2 : Fr S M0 y) : Fr S M0 (if c then x else y) := by
  split
  · exact h
  · exact h2
theorem Fr_opt {α : Type} {S : Nat → Bool} {M0 : mm} {o : Option Nat} {x : Option (α × mm)} {f : Nat → Option (α × mm)} (h : Fr S M0 x) (h2 : ∀ k, Fr S M0 (f k)) : Fr S M0 (opt o x f) := by
  cases o with
  | none => exact h
  | some k => exact h2 k
theorem Fr_lt {α β : Type} {S : Nat → Bool} {M0 : mm} {x : β} {k : β → Option (α × mm)} (h : ∀ z, Fr S M0 (k z)) : Fr S M0 (lt_ x k) := h x
theorem EqS_sA {S : Nat → Bool} {M0 M : mm} {k : Nat} {f : Nat → Int32} (hs : S k = true) (e : EqS S M0 M) : EqS S M0 (sA M k f) := by
  refine ⟨fun j hj => ⟨?_, (e.1 j hj).2⟩, e.2⟩
  rw [← (e.1 j hj).1]
  exact sA_n M k j f fun q => by rw [q, hs] at hj; cases hj
theorem EqS_sL {S : Nat → Bool} {M0 M : mm} {k : Nat} {f : Nat → Int64} (hs : S k = true) (e : EqS S M0 M) : EqS S M0 (sL M k f) := by
  refine ⟨fun j hj => ⟨(e.1 j hj).1, ?_⟩, e.2⟩
  rw [← (e.1 j hj).2]
  exact sL_n M k j f fun q => by rw [q, hs] at hj; cases hj
theorem EqS_sR0 {S : Nat → Bool} {M0 M : mm} {r : Nat} (e : EqS S M0 M) : EqS S M0 (sR M 0 r) := ⟨e.1, e.2⟩
theorem Fr_sA {α : Type} {S : Nat → Bool} {M0 M : mm} {j : Nat} {f : Nat → Int32} {k : mm → Option (α × mm)} (hs : S j = true) (e : EqS S M0 M) (h : ∀ M', EqS S M0 M' → Fr S M0 (k M')) : Fr S M0 (lt_ (sA M j f) k) := h _ (EqS_sA hs e)
theorem Fr_sL {α : Type} {S : Nat → Bool} {M0 M : mm} {j : Nat} {f : Nat → Int64} {k : mm → Option (α × mm)} (hs : S j = true) (e : EqS S M0 M) (h : ∀ M', EqS S M0 M' → Fr S M0 (k M')) : Fr S M0 (lt_ (sL M j f) k) := h _ (EqS_sL hs e)
theorem Fr_sR0 {α : Type} {S : Nat → Bool} {M0 M : mm} {r : Nat} {k : mm → Option (α × mm)} (e : EqS S M0 M) (h : ∀ M', EqS S M0 M' → Fr S M0 (k M')) : Fr S M0 (lt_ (sR M 0 r) k) := h _ (EqS_sR0 e)
theorem Fr_bd {α β : Type} {S : Nat → Bool} {M0 : mm} {x : Option (β × mm)} {k : β → mm → Option (α × mm)} (hx : Fr S M0 x) (h : ∀ v M', EqS S M0 M' → Fr S M0 (k v M')) : Fr S M0 (bd x k) := by
  cases x with
  | none => exact Fr_none
  | some p => exact h p.1 p.2 (hx p.1 p.2 rfl)
theorem EqS_r1 {S : Nat → Bool} {M0 M : mm} (e : EqS S M0 M) (h1 : S 22 = true) (h2 : S 23 = true) : S (M.2.2 1) = true := by
  rcases e.2 with q | q <;> rw [q.1] <;> assumption
theorem EqS_r2 {S : Nat → Bool} {M0 M : mm} (e : EqS S M0 M) (h1 : S 22 = true) (h2 : S 23 = true) : S (M.2.2 2) = true := by
  rcases e.2 with q | q <;> rw [q.2] <;> assumption
theorem subL {S : Nat → Bool} {l l' : List Nat} (h : ∀ k ∈ l, k ∈ l') (hs : ∀ k, k ∈ l' → S k = true) : ∀ k, k ∈ l → S k = true := fun k hk => hs k (h k hk)
theorem fr_X0_add {S : Nat → Bool} {a1 : Int32} {M0 M : mm} (hS : ∀ k, k ∈ [66, 68] → S k = true) (e : EqS S M0 M) : Fr S M0 (X0_add a1 M) := by
  unfold X0_add
  repeat (all_goals first
      | assumption
      | exact Fr_none
      | (apply Fr_some; assumption)
      | (refine Fr_gd fun _ => ?_)
      | (refine Fr_ite ?_ ?_)
      | (refine Fr_opt ?_ fun _ => ?_)
      | (refine Fr_sA ?_ ‹EqS S M0 _› fun _ _ => ?_)
      | (refine Fr_sL ?_ ‹EqS S M0 _› fun _ _ => ?_)
      | (refine Fr_lt fun _ => ?_)
      | exact hS _ (by decide)
      | exact subL (by decide) hS
      | (intros; skip; beta_reduce))
theorem fr_X0_kindOf {S : Nat → Bool} {a1 : Int32} {M0 M : mm}  (e : EqS S M0 M) : Fr S M0 (X0_kindOf a1 M) := by
  unfold X0_kindOf
  repeat (all_goals first
      | assumption
      | exact Fr_none
      | (apply Fr_some; assumption)
      | (refine Fr_gd fun _ => ?_)
      | (refine Fr_ite ?_ ?_)
      | (refine Fr_opt ?_ fun _ => ?_)
      | (refine Fr_sA ?_ ‹EqS S M0 _› fun _ _ => ?_)
      | (refine Fr_sL ?_ ‹EqS S M0 _› fun _ _ => ?_)
      | (refine Fr_lt fun _ => ?_)
      | (intros; skip; beta_reduce))
theorem fr_X0_isOfKind_L9 {S : Nat → Bool} {a1 : Int32} {a2 : Int32} {M0 : mm}  : ∀ (n_ : Nat) (z1 : Int32) (z2 : Int32) (M : mm), EqS S M0 M → Fr S M0 (X0_isOfKind_L9 a1 a2 n_ z1 z2 M) := by
  intro n_
  induction n_ with
  | zero =>
    intros
    exact Fr_none
  | succ n_ ih =>
    intro z1 z2 M e
    rw [X0_isOfKind_L9]
    repeat (all_goals first
        | assumption
        | exact Fr_none
        | (apply Fr_some; assumption)
        | (refine Fr_gd fun _ => ?_)
        | (refine Fr_ite ?_ ?_)
        | (refine Fr_opt ?_ fun _ => ?_)
        | (refine Fr_sA ?_ ‹EqS S M0 _› fun _ _ => ?_)
        | (refine Fr_sL ?_ ‹EqS S M0 _› fun _ _ => ?_)
        | (refine Fr_lt fun _ => ?_)
        | (refine Fr_bd (ih _ _ _ ‹EqS S M0 _›) fun _ _ _ => ?_)
        | exact ih _ _ _ ‹EqS S M0 _›
        | (intros; skip; beta_reduce))
theorem fr_X0_isOfKind {S : Nat → Bool} {a1 : Int32} {a2 : Int32} {M0 M : mm}  (e : EqS S M0 M) : Fr S M0 (X0_isOfKind a1 a2 M) := by
  unfold X0_isOfKind
  repeat (all_goals first
      | assumption
      | exact Fr_none
      | (apply Fr_some; assumption)
      | (refine Fr_gd fun _ => ?_)
      | (refine Fr_ite ?_ ?_)
      | (refine Fr_opt ?_ fun _ => ?_)
      | (refine Fr_sA ?_ ‹EqS S M0 _› fun _ _ => ?_)
      | (refine Fr_sL ?_ ‹EqS S M0 _› fun _ _ => ?_)
      | (refine Fr_lt fun _ => ?_)
      | (refine Fr_bd (fr_X0_kindOf  ‹EqS S M0 _›) fun _ _ _ => ?_)
      | (refine fr_X0_kindOf  ‹EqS S M0 _›)
      | (refine Fr_bd (fr_X0_isOfKind_L9  _ _ _ _ ‹EqS S M0 _›) fun _ _ _ => ?_)
      | (refine fr_X0_isOfKind_L9  _ _ _ _ ‹EqS S M0 _›)
      | (intros; skip; beta_reduce))
theorem fr_X0_keptOfTrace {S : Nat → Bool}  {M0 M : mm}  (e : EqS S M0 M) : Fr S M0 (X0_keptOfTrace  M) := by
  unfold X0_keptOfTrace
  repeat (all_goals first
      | assumption
      | exact Fr_none
      | (apply Fr_some; assumption)
      | (refine Fr_gd fun _ => ?_)
      | (refine Fr_ite ?_ ?_)
      | (refine Fr_opt ?_ fun _ => ?_)
      | (refine Fr_sA ?_ ‹EqS S M0 _› fun _ _ => ?_)
      | (refine Fr_sL ?_ ‹EqS S M0 _› fun _ _ => ?_)
      | (refine Fr_lt fun _ => ?_)
      | (intros; skip; beta_reduce))
theorem fr_X0_begin_b19 {S : Nat → Bool} {a1 : Int32} {M0 M : mm} (hS : ∀ k, k ∈ [66] → S k = true) (e : EqS S M0 M) : Fr S M0 (X0_begin_b19 a1 M) := by
  unfold X0_begin_b19
  repeat (all_goals first
      | assumption
      | exact Fr_none
      | (apply Fr_some; assumption)
      | (refine Fr_gd fun _ => ?_)
      | (refine Fr_ite ?_ ?_)
      | (refine Fr_opt ?_ fun _ => ?_)
      | (refine Fr_sA ?_ ‹EqS S M0 _› fun _ _ => ?_)
      | (refine Fr_sL ?_ ‹EqS S M0 _› fun _ _ => ?_)
      | (refine Fr_lt fun _ => ?_)
      | exact hS _ (by decide)
      | exact subL (by decide) hS
      | (intros; skip; beta_reduce))
theorem fr_X0_begin {S : Nat → Bool} {a1 : Int32} {M0 M : mm} (hS : ∀ k, k ∈ [66, 67] → S k = true) (e : EqS S M0 M) : Fr S M0 (X0_begin a1 M) := by
  unfold X0_begin
  repeat (all_goals first
      | assumption
      | exact Fr_none
      | (apply Fr_some; assumption)
      | (refine Fr_gd fun _ => ?_)
      | (refine Fr_ite ?_ ?_)
      | (refine Fr_opt ?_ fun _ => ?_)
      | (refine Fr_sA ?_ ‹EqS S M0 _› fun _ _ => ?_)
      | (refine Fr_sL ?_ ‹EqS S M0 _› fun _ _ => ?_)
      | (refine Fr_lt fun _ => ?_)
      | exact hS _ (by decide)
      | exact subL (by decide) hS
      | (refine Fr_bd (fr_X0_begin_b19 ?_ ‹EqS S M0 _›) fun _ _ _ => ?_)
      | (refine fr_X0_begin_b19 ?_ ‹EqS S M0 _›)
      | (intros; skip; beta_reduce))
theorem fr_X0_run_L6 {S : Nat → Bool} {rec : Nat → Int32 → Int32 → Int32 → Int32 → mm → Option (Int32 × mm)} {a1 : Int32} {a2 : Int32} {a3 : Int32} {a4 : Int32} {K45 : Int32 → mm → Option (Int32 × mm)} {M0 : mm} (hrec : ∀ (y0 : Nat) (y1 : Int32) (y2 : Int32) (y3 : Int32) (y4 : Int32) (M_ : mm), EqS S M0 M_ → Fr S M0 (rec y0 y1 y2 y3 y4 M_)) (hK45 : ∀ (y0 : Int32) (M_ : mm), EqS S M0 M_ → Fr S M0 (K45 y0 M_)) : ∀ (n_ : Nat) (z1 : Int32) (z2 : Int32) (M : mm), EqS S M0 M → Fr S M0 (X0_run_L6 rec a1 a2 a3 a4 K45 n_ z1 z2 M) := by
  intro n_
  induction n_ with
  | zero =>
    intros
    exact Fr_none
  | succ n_ ih =>
    intro z1 z2 M e
    rw [X0_run_L6]
    repeat (all_goals first
        | assumption
        | exact Fr_none
        | (apply Fr_some; assumption)
        | (refine Fr_gd fun _ => ?_)
        | (refine Fr_ite ?_ ?_)
        | (refine Fr_opt ?_ fun _ => ?_)
        | (refine Fr_sA ?_ ‹EqS S M0 _› fun _ _ => ?_)
        | (refine Fr_sL ?_ ‹EqS S M0 _› fun _ _ => ?_)
        | (refine Fr_lt fun _ => ?_)
        | (refine Fr_bd (hrec _ _ _ _ _ _ ‹EqS S M0 _›) fun _ _ _ => ?_)
        | exact hrec _ _ _ _ _ _ ‹EqS S M0 _›
        | (refine Fr_bd (hK45 _ _ ‹EqS S M0 _›) fun _ _ _ => ?_)
        | exact hK45 _ _ ‹EqS S M0 _›
        | (refine Fr_bd (ih _ _ _ ‹EqS S M0 _›) fun _ _ _ => ?_)
        | exact ih _ _ _ ‹EqS S M0 _›
        | (intros; skip; beta_reduce))
theorem fr_X0_run_b45 {S : Nat → Bool} {rec : Nat → Int32 → Int32 → Int32 → Int32 → mm → Option (Int32 × mm)} {a1 : Int32} {a2 : Int32} {a3 : Int32} {a4 : Int32} {x5 : Int32} {M0 M : mm} (hS : ∀ k, k ∈ [66, 67] → S k = true) (hrec : ∀ (y0 : Nat) (y1 : Int32) (y2 : Int32) (y3 : Int32) (y4 : Int32) (M_ : mm), EqS S M0 M_ → Fr S M0 (rec y0 y1 y2 y3 y4 M_)) (e : EqS S M0 M) : Fr S M0 (X0_run_b45 rec a1 a2 a3 a4 x5 M) := by
  unfold X0_run_b45
  repeat (all_goals first
      | assumption
      | exact Fr_none
      | (apply Fr_some; assumption)
      | (refine Fr_gd fun _ => ?_)
      | (refine Fr_ite ?_ ?_)
      | (refine Fr_opt ?_ fun _ => ?_)
      | (refine Fr_sA ?_ ‹EqS S M0 _› fun _ _ => ?_)
      | (refine Fr_sL ?_ ‹EqS S M0 _› fun _ _ => ?_)
      | (refine Fr_lt fun _ => ?_)
      | exact hS _ (by decide)
      | exact subL (by decide) hS
      | (refine Fr_bd (hrec _ _ _ _ _ _ ‹EqS S M0 _›) fun _ _ _ => ?_)
      | exact hrec _ _ _ _ _ _ ‹EqS S M0 _›
      | (refine Fr_bd (fr_X0_begin ?_ ‹EqS S M0 _›) fun _ _ _ => ?_)
      | (refine fr_X0_begin ?_ ‹EqS S M0 _›)
      | (intros; skip; beta_reduce))
theorem fr_X0_run_B {S : Nat → Bool} {rec : Nat → Int32 → Int32 → Int32 → Int32 → mm → Option (Int32 × mm)} {a1 : Int32} {a2 : Int32} {a3 : Int32} {a4 : Int32} {M0 M : mm} (hS : ∀ k, k ∈ [66, 67] → S k = true) (hrec : ∀ (y0 : Nat) (y1 : Int32) (y2 : Int32) (y3 : Int32) (y4 : Int32) (M_ : mm), EqS S M0 M_ → Fr S M0 (rec y0 y1 y2 y3 y4 M_)) (e : EqS S M0 M) : Fr S M0 (X0_run_B rec a1 a2 a3 a4 M) := by
  unfold X0_run_B
  repeat (all_goals first
      | assumption
      | exact Fr_none
      | (apply Fr_some; assumption)
      | (refine Fr_gd fun _ => ?_)
      | (refine Fr_ite ?_ ?_)
      | (refine Fr_opt ?_ fun _ => ?_)
      | (refine Fr_sA ?_ ‹EqS S M0 _› fun _ _ => ?_)
      | (refine Fr_sL ?_ ‹EqS S M0 _› fun _ _ => ?_)
      | (refine Fr_lt fun _ => ?_)
      | exact hS _ (by decide)
      | exact subL (by decide) hS
      | (refine Fr_bd (hrec _ _ _ _ _ _ ‹EqS S M0 _›) fun _ _ _ => ?_)
      | exact hrec _ _ _ _ _ _ ‹EqS S M0 _›
      | (refine Fr_bd (fr_X0_run_L6 ?_ ?_ _ _ _ _ ‹EqS S M0 _›) fun _ _ _ => ?_)
      | (refine fr_X0_run_L6 ?_ ?_ _ _ _ _ ‹EqS S M0 _›)
      | (refine Fr_bd (fr_X0_run_b45 ?_ ?_ ‹EqS S M0 _›) fun _ _ _ => ?_)
      | (refine fr_X0_run_b45 ?_ ?_ ‹EqS S M0 _›)
      | (intros; skip; beta_reduce))
theorem fr_G_X0_run {S : Nat → Bool}  {M0 : mm} (hS : ∀ k, k ∈ [66, 67] → S k = true) : ∀ (n_ : Nat) (z1 : Nat) (z2 : Int32) (z3 : Int32) (z4 : Int32) (z5 : Int32) (M : mm), EqS S M0 M → Fr S M0 (G_X0_run  n_ z1 z2 z3 z4 z5 M) := by
  intro n_
  induction n_ with
  | zero =>
    intros
    exact Fr_none
  | succ n_ ih =>
    intro z1 z2 z3 z4 z5 M e
    rw [G_X0_run]
    repeat (all_goals first
        | assumption
        | exact Fr_none
        | (apply Fr_some; assumption)
        | (refine Fr_gd fun _ => ?_)
        | (refine Fr_ite ?_ ?_)
        | (refine Fr_opt ?_ fun _ => ?_)
        | (refine Fr_sA ?_ ‹EqS S M0 _› fun _ _ => ?_)
        | (refine Fr_sL ?_ ‹EqS S M0 _› fun _ _ => ?_)
        | (refine Fr_lt fun _ => ?_)
        | exact hS _ (by decide)
        | exact subL (by decide) hS
        | (refine Fr_bd (fr_X0_run_B ?_ ?_ ‹EqS S M0 _›) fun _ _ _ => ?_)
        | (refine fr_X0_run_B ?_ ?_ ‹EqS S M0 _›)
        | (refine Fr_bd (ih _ _ _ _ _ _ ‹EqS S M0 _›) fun _ _ _ => ?_)
        | exact ih _ _ _ _ _ _ ‹EqS S M0 _›
        | split
        | (intros; skip; beta_reduce))
theorem fr_X0_run {S : Nat → Bool} {a1 : Int32} {a2 : Int32} {a3 : Int32} {a4 : Int32} {M0 M : mm} (hS : ∀ k, k ∈ [66, 67] → S k = true) (e : EqS S M0 M) : Fr S M0 (X0_run a1 a2 a3 a4 M) := by
  unfold X0_run
  repeat (all_goals first
      | assumption
      | exact Fr_none
      | (apply Fr_some; assumption)
      | (refine Fr_gd fun _ => ?_)
      | (refine Fr_ite ?_ ?_)
      | (refine Fr_opt ?_ fun _ => ?_)
      | (refine Fr_sA ?_ ‹EqS S M0 _› fun _ _ => ?_)
      | (refine Fr_sL ?_ ‹EqS S M0 _› fun _ _ => ?_)
      | (refine Fr_lt fun _ => ?_)
      | exact hS _ (by decide)
      | exact subL (by decide) hS
      | (refine Fr_bd (fr_G_X0_run ?_ _ _ _ _ _ _ _ ‹EqS S M0 _›) fun _ _ _ => ?_)
      | (refine fr_G_X0_run ?_ _ _ _ _ _ _ _ ‹EqS S M0 _›)
      | (intros; skip; beta_reduce))
theorem fr_X0_perform {S : Nat → Bool} {a1 : Int32} {a2 : Int32} {a3 : Int32} {M0 M : mm} (hS : ∀ k, k ∈ [66, 67] → S k = true) (e : EqS S M0 M) : Fr S M0 (X0_perform a1 a2 a3 M) := by
  unfold X0_perform
  repeat (all_goals first
      | assumption
      | exact Fr_none
      | (apply Fr_some; assumption)
      | (refine Fr_gd fun _ => ?_)
      | (refine Fr_ite ?_ ?_)
      | (refine Fr_opt ?_ fun _ => ?_)
      | (refine Fr_sA ?_ ‹EqS S M0 _› fun _ _ => ?_)
      | (refine Fr_sL ?_ ‹EqS S M0 _› fun _ _ => ?_)
      | (refine Fr_lt fun _ => ?_)
      | exact hS _ (by decide)
      | exact subL (by decide) hS
      | (refine Fr_bd (fr_X0_run ?_ ‹EqS S M0 _›) fun _ _ _ => ?_)
      | (refine fr_X0_run ?_ ‹EqS S M0 _›)
      | (intros; skip; beta_reduce))
theorem fr_X1_forgetOldest {S : Nat → Bool}  {M0 M : mm} (hS : ∀ k, k ∈ [61, 62, 63, 64, 65] → S k = true) (e : EqS S M0 M) : Fr S M0 (X1_forgetOldest  M) := by
  unfold X1_forgetOldest
  repeat (all_goals first
      | assumption
      | exact Fr_none
      | (apply Fr_some; assumption)
      | (refine Fr_gd fun _ => ?_)
      | (refine Fr_ite ?_ ?_)
      | (refine Fr_opt ?_ fun _ => ?_)
      | (refine Fr_sA ?_ ‹EqS S M0 _› fun _ _ => ?_)
      | (refine Fr_sL ?_ ‹EqS S M0 _› fun _ _ => ?_)
      | (refine Fr_lt fun _ => ?_)
      | exact hS _ (by decide)
      | exact subL (by decide) hS
      | (intros; skip; beta_reduce))
theorem fr_X1_note_b13 {S : Nat → Bool} {a1 : Int32} {a2 : Int32} {a3 : Int32} {a4 : Int32} {M0 M : mm} (hS : ∀ k, k ∈ [61, 62, 63, 64, 65] → S k = true) (e : EqS S M0 M) : Fr S M0 (X1_note_b13 a1 a2 a3 a4 M) := by
  unfold X1_note_b13
  repeat (all_goals first
      | assumption
      | exact Fr_none
      | (apply Fr_some; assumption)
      | (refine Fr_gd fun _ => ?_)
      | (refine Fr_ite ?_ ?_)
      | (refine Fr_opt ?_ fun _ => ?_)
      | (refine Fr_sA ?_ ‹EqS S M0 _› fun _ _ => ?_)
      | (refine Fr_sL ?_ ‹EqS S M0 _› fun _ _ => ?_)
      | (refine Fr_lt fun _ => ?_)
      | exact hS _ (by decide)
      | exact subL (by decide) hS
      | (intros; skip; beta_reduce))
theorem fr_X1_note {S : Nat → Bool} {a1 : Int32} {a2 : Int32} {a3 : Int32} {a4 : Int32} {M0 M : mm} (hS : ∀ k, k ∈ [61, 62, 63, 64, 65] → S k = true) (e : EqS S M0 M) : Fr S M0 (X1_note a1 a2 a3 a4 M) := by
  unfold X1_note
  repeat (all_goals first
      | assumption
      | exact Fr_none
      | (apply Fr_some; assumption)
      | (refine Fr_gd fun _ => ?_)
      | (refine Fr_ite ?_ ?_)
      | (refine Fr_opt ?_ fun _ => ?_)
      | (refine Fr_sA ?_ ‹EqS S M0 _› fun _ _ => ?_)
      | (refine Fr_sL ?_ ‹EqS S M0 _› fun _ _ => ?_)
      | (refine Fr_lt fun _ => ?_)
      | exact hS _ (by decide)
      | exact subL (by decide) hS
      | (refine Fr_bd (fr_X1_forgetOldest ?_ ‹EqS S M0 _›) fun _ _ _ => ?_)
      | (refine fr_X1_forgetOldest ?_ ‹EqS S M0 _›)
      | (refine Fr_bd (fr_X1_note_b13 ?_ ‹EqS S M0 _›) fun _ _ _ => ?_)
      | (refine fr_X1_note_b13 ?_ ‹EqS S M0 _›)
      | (intros; skip; beta_reduce))
theorem fr_X1_undone {S : Nat → Bool}  {M0 M : mm}  (e : EqS S M0 M) : Fr S M0 (X1_undone  M) := by
  unfold X1_undone
  repeat (all_goals first
      | assumption
      | exact Fr_none
      | (apply Fr_some; assumption)
      | (refine Fr_gd fun _ => ?_)
      | (refine Fr_ite ?_ ?_)
      | (refine Fr_opt ?_ fun _ => ?_)
      | (refine Fr_sA ?_ ‹EqS S M0 _› fun _ _ => ?_)
      | (refine Fr_sL ?_ ‹EqS S M0 _› fun _ _ => ?_)
      | (refine Fr_lt fun _ => ?_)
      | (intros; skip; beta_reduce))
theorem fr_X3_rowOf {S : Nat → Bool} {a1 : Int32} {M0 M : mm}  (e : EqS S M0 M) : Fr S M0 (X3_rowOf a1 M) := by
  unfold X3_rowOf
  repeat (all_goals first
      | assumption
      | exact Fr_none
      | (apply Fr_some; assumption)
      | (refine Fr_gd fun _ => ?_)
      | (refine Fr_ite ?_ ?_)
      | (refine Fr_opt ?_ fun _ => ?_)
      | (refine Fr_sA ?_ ‹EqS S M0 _› fun _ _ => ?_)
      | (refine Fr_sL ?_ ‹EqS S M0 _› fun _ _ => ?_)
      | (refine Fr_lt fun _ => ?_)
      | (intros; skip; beta_reduce))
theorem fr_X3_tell {S : Nat → Bool} {a1 a2 a3 : Int32} {M0 M : mm} (hS : ∀ k, k ∈ [1, 2, 3, 4, 6, 7, 8] → S k = true) (e : EqS S M0 M) : Fr S M0 (X3_tell a1 a2 a3 M) := by
  sorry
theorem fr_X1_takeBack {S : Nat → Bool}  {M0 M : mm} (hS : ∀ k, k ∈ [1, 2, 3, 4, 6, 7, 8, 61] → S k = true) (e : EqS S M0 M) : Fr S M0 (X1_takeBack  M) := by
  unfold X1_takeBack
  repeat (all_goals first
      | assumption
      | exact Fr_none
      | (apply Fr_some; assumption)
      | (refine Fr_gd fun _ => ?_)
      | (refine Fr_ite ?_ ?_)
      | (refine Fr_opt ?_ fun _ => ?_)
      | (refine Fr_sA ?_ ‹EqS S M0 _› fun _ _ => ?_)
      | (refine Fr_sL ?_ ‹EqS S M0 _› fun _ _ => ?_)
      | (refine Fr_lt fun _ => ?_)
      | exact hS _ (by decide)
      | exact subL (by decide) hS
      | (refine Fr_bd (fr_X3_tell ?_ ‹EqS S M0 _›) fun _ _ _ => ?_)
      | (refine fr_X3_tell ?_ ‹EqS S M0 _›)
      | (intros; skip; beta_reduce))
theorem fr_X1_doAgain {S : Nat → Bool}  {M0 M : mm} (hS : ∀ k, k ∈ [1, 2, 3, 4, 6, 7, 8, 61] → S k = true) (e : EqS S M0 M) : Fr S M0 (X1_doAgain  M) := by
  unfold X1_doAgain
  repeat (all_goals first
      | assumption
      | exact Fr_none
      | (apply Fr_some; assumption)
      | (refine Fr_gd fun _ => ?_)
      | (refine Fr_ite ?_ ?_)
      | (refine Fr_opt ?_ fun _ => ?_)
      | (refine Fr_sA ?_ ‹EqS S M0 _› fun _ _ => ?_)
      | (refine Fr_sL ?_ ‹EqS S M0 _› fun _ _ => ?_)
      | (refine Fr_lt fun _ => ?_)
      | exact hS _ (by decide)
      | exact subL (by decide) hS
      | (refine Fr_bd (fr_X1_undone  ‹EqS S M0 _›) fun _ _ _ => ?_)
      | (refine fr_X1_undone  ‹EqS S M0 _›)
      | (refine Fr_bd (fr_X3_tell ?_ ‹EqS S M0 _›) fun _ _ _ => ?_)
      | (refine fr_X3_tell ?_ ‹EqS S M0 _›)
      | (intros; skip; beta_reduce))
theorem fr_X2_sow {S : Nat → Bool} {a1 : Int32} {M0 M : mm} (hS : ∀ k, k ∈ [27] → S k = true) (e : EqS S M0 M) : Fr S M0 (X2_sow a1 M) := by
  unfold X2_sow
  repeat (all_goals first
      | assumption
      | exact Fr_none
      | (apply Fr_some; assumption)
      | (refine Fr_gd fun _ => ?_)
      | (refine Fr_ite ?_ ?_)
      | (refine Fr_opt ?_ fun _ => ?_)
      | (refine Fr_sA ?_ ‹EqS S M0 _› fun _ _ => ?_)
      | (refine Fr_sL ?_ ‹EqS S M0 _› fun _ _ => ?_)
      | (refine Fr_lt fun _ => ?_)
      | exact hS _ (by decide)
      | exact subL (by decide) hS
      | (intros; skip; beta_reduce))
theorem fr_X3_isForgotten {S : Nat → Bool} {a1 : Int32} {M0 M : mm}  (e : EqS S M0 M) : Fr S M0 (X3_isForgotten a1 M) := by
  unfold X3_isForgotten
  repeat (all_goals first
      | assumption
      | exact Fr_none
      | (apply Fr_some; assumption)
      | (refine Fr_gd fun _ => ?_)
      | (refine Fr_ite ?_ ?_)
      | (refine Fr_opt ?_ fun _ => ?_)
      | (refine Fr_sA ?_ ‹EqS S M0 _› fun _ _ => ?_)
      | (refine Fr_sL ?_ ‹EqS S M0 _› fun _ _ => ?_)
      | (refine Fr_lt fun _ => ?_)
      | (intros; skip; beta_reduce))
theorem fr_X9_pays {S : Nat → Bool} {w : Nat} {a1 : Int32} {a2 : Int32} {M0 M : mm} (hP_w_7 : S (w + 7) = true) (hP_w_8 : S (w + 8) = true) (e : EqS S M0 M) : Fr S M0 (X9_pays w a1 a2 M) := by
  unfold X9_pays
  repeat (all_goals first
      | assumption
      | exact Fr_none
      | (apply Fr_some; assumption)
      | (refine Fr_gd fun _ => ?_)
      | (refine Fr_ite ?_ ?_)
      | (refine Fr_opt ?_ fun _ => ?_)
      | (refine Fr_sA ?_ ‹EqS S M0 _› fun _ _ => ?_)
      | (refine Fr_sL ?_ ‹EqS S M0 _› fun _ _ => ?_)
      | (refine Fr_lt fun _ => ?_)
      | (intros; skip; beta_reduce))
theorem fr_X2_bills_b48 {S : Nat → Bool} {a1 : Nat} {a2 : Int32} {x5 : Int32} {M0 M : mm} (hP_a1_7 : S (a1 + 7) = true) (hP_a1_8 : S (a1 + 8) = true) (hP_a1_10 : S (a1 + 10) = true) (e : EqS S M0 M) : Fr S M0 (X2_bills_b48 a1 a2 x5 M) := by
  unfold X2_bills_b48
  repeat (all_goals first
      | assumption
      | exact Fr_none
      | (apply Fr_some; assumption)
      | (refine Fr_gd fun _ => ?_)
      | (refine Fr_ite ?_ ?_)
      | (refine Fr_opt ?_ fun _ => ?_)
      | (refine Fr_sA ?_ ‹EqS S M0 _› fun _ _ => ?_)
      | (refine Fr_sL ?_ ‹EqS S M0 _› fun _ _ => ?_)
      | (refine Fr_lt fun _ => ?_)
      | (refine Fr_bd (fr_X9_pays ?_ ?_ ‹EqS S M0 _›) fun _ _ _ => ?_)
      | (refine fr_X9_pays ?_ ?_ ‹EqS S M0 _›)
      | (intros; skip; beta_reduce))
theorem fr_X2_bills_b120 {S : Nat → Bool} {a1 : Nat} {a2 : Int32} {x3 : Int32} {x5 : Int32} {x6 : Int32} {M0 M : mm} (hP_a1_7 : S (a1 + 7) = true) (hP_a1_8 : S (a1 + 8) = true) (hP_a1_10 : S (a1 + 10) = true) (e : EqS S M0 M) : Fr S M0 (X2_bills_b120 a1 a2 x3 x5 x6 M) := by
  unfold X2_bills_b120
  repeat (all_goals first
      | assumption
      | exact Fr_none
      | (apply Fr_some; assumption)
      | (refine Fr_gd fun _ => ?_)
      | (refine Fr_ite ?_ ?_)
      | (refine Fr_opt ?_ fun _ => ?_)
      | (refine Fr_sA ?_ ‹EqS S M0 _› fun _ _ => ?_)
      | (refine Fr_sL ?_ ‹EqS S M0 _› fun _ _ => ?_)
      | (refine Fr_lt fun _ => ?_)
      | (refine Fr_bd (fr_X9_pays ?_ ?_ ‹EqS S M0 _›) fun _ _ _ => ?_)
      | (refine fr_X9_pays ?_ ?_ ‹EqS S M0 _›)
      | (intros; skip; beta_reduce))
theorem fr_X2_bills_b105 {S : Nat → Bool} {a1 : Nat} {a2 : Int32} {x3 : Int32} {x4 : Int32} {x5 : Int32} {s0 : Int32} {M0 M : mm} (hP_a1_7 : S (a1 + 7) = true) (hP_a1_8 : S (a1 + 8) = true) (hP_a1_10 : S (a1 + 10) = true) (e : EqS S M0 M) : Fr S M0 (X2_bills_b105 a1 a2 x3 x4 x5 s0 M) := by
  unfold X2_bills_b105
  repeat (all_goals first
      | assumption
      | exact Fr_none
      | (apply Fr_some; assumption)
      | (refine Fr_gd fun _ => ?_)
      | (refine Fr_ite ?_ ?_)
      | (refine Fr_opt ?_ fun _ => ?_)
      | (refine Fr_sA ?_ ‹EqS S M0 _› fun _ _ => ?_)
      | (refine Fr_sL ?_ ‹EqS S M0 _› fun _ _ => ?_)
      | (refine Fr_lt fun _ => ?_)
      | (refine Fr_bd (fr_X9_pays ?_ ?_ ‹EqS S M0 _›) fun _ _ _ => ?_)
      | (refine fr_X9_pays ?_ ?_ ‹EqS S M0 _›)
      | (refine Fr_bd (fr_X2_bills_b120 ?_ ?_ ?_ ‹EqS S M0 _›) fun _ _ _ => ?_)
      | (refine fr_X2_bills_b120 ?_ ?_ ?_ ‹EqS S M0 _›)
      | (intros; skip; beta_reduce))
theorem fr_X2_bills_b104 {S : Nat → Bool} {a1 : Nat} {a2 : Int32} {x3 : Int32} {x4 : Int32} {x5 : Int32} {M0 M : mm} (hP_a1_7 : S (a1 + 7) = true) (hP_a1_8 : S (a1 + 8) = true) (hP_a1_10 : S (a1 + 10) = true) (e : EqS S M0 M) : Fr S M0 (X2_bills_b104 a1 a2 x3 x4 x5 M) := by
  unfold X2_bills_b104
  repeat (all_goals first
      | assumption
      | exact Fr_none
      | (apply Fr_some; assumption)
      | (refine Fr_gd fun _ => ?_)
      | (refine Fr_ite ?_ ?_)
      | (refine Fr_opt ?_ fun _ => ?_)
      | (refine Fr_sA ?_ ‹EqS S M0 _› fun _ _ => ?_)
      | (refine Fr_sL ?_ ‹EqS S M0 _› fun _ _ => ?_)
      | (refine Fr_lt fun _ => ?_)
      | (refine Fr_bd (fr_X2_bills_b105 ?_ ?_ ?_ ‹EqS S M0 _›) fun _ _ _ => ?_)
      | (refine fr_X2_bills_b105 ?_ ?_ ?_ ‹EqS S M0 _›)
      | (intros; skip; beta_reduce))
theorem fr_X2_bills {S : Nat → Bool} {a1 : Nat} {a2 : Int32} {M0 M : mm} (hP_a1_7 : S (a1 + 7) = true) (hP_a1_8 : S (a1 + 8) = true) (hP_a1_10 : S (a1 + 10) = true) (e : EqS S M0 M) : Fr S M0 (X2_bills a1 a2 M) := by
  unfold X2_bills
  repeat (all_goals first
      | assumption
      | exact Fr_none
      | (apply Fr_some; assumption)
      | (refine Fr_gd fun _ => ?_)
      | (refine Fr_ite ?_ ?_)
      | (refine Fr_opt ?_ fun _ => ?_)
      | (refine Fr_sA ?_ ‹EqS S M0 _› fun _ _ => ?_)
      | (refine Fr_sL ?_ ‹EqS S M0 _› fun _ _ => ?_)
      | (refine Fr_lt fun _ => ?_)
      | (refine Fr_bd (fr_X2_bills_b48 ?_ ?_ ?_ ‹EqS S M0 _›) fun _ _ _ => ?_)
      | (refine fr_X2_bills_b48 ?_ ?_ ?_ ‹EqS S M0 _›)
      | (refine Fr_bd (fr_X3_isForgotten  ‹EqS S M0 _›) fun _ _ _ => ?_)
      | (refine fr_X3_isForgotten  ‹EqS S M0 _›)
      | (refine Fr_bd (fr_X2_bills_b104 ?_ ?_ ?_ ‹EqS S M0 _›) fun _ _ _ => ?_)
      | (refine fr_X2_bills_b104 ?_ ?_ ?_ ‹EqS S M0 _›)
      | (refine Fr_bd (fr_X2_bills_b105 ?_ ?_ ?_ ‹EqS S M0 _›) fun _ _ _ => ?_)
      | (refine fr_X2_bills_b105 ?_ ?_ ?_ ‹EqS S M0 _›)
      | (intros; skip; beta_reduce))
theorem fr_X3_hasThing {S : Nat → Bool} {a1 : Int32} {M0 M : mm}  (e : EqS S M0 M) : Fr S M0 (X3_hasThing a1 M) := by
  unfold X3_hasThing
  repeat (all_goals first
      | assumption
      | exact Fr_none
      | (apply Fr_some; assumption)
      | (refine Fr_gd fun _ => ?_)
      | (refine Fr_ite ?_ ?_)
      | (refine Fr_opt ?_ fun _ => ?_)
      | (refine Fr_sA ?_ ‹EqS S M0 _› fun _ _ => ?_)
      | (refine Fr_sL ?_ ‹EqS S M0 _› fun _ _ => ?_)
      | (refine Fr_lt fun _ => ?_)
      | (intros; skip; beta_reduce))
theorem fr_X9_makeWhole {S : Nat → Bool} {w : Nat} {a1 : Int32} {M0 M : mm} (hP_w_1 : S (w + 1) = true) (hP_w_2 : S (w + 2) = true) (hP_w_3 : S (w + 3) = true) (hP_w_4 : S (w + 4) = true) (e : EqS S M0 M) : Fr S M0 (X9_makeWhole w a1 M) := by
  unfold X9_makeWhole
  repeat (all_goals first
      | assumption
      | exact Fr_none
      | (apply Fr_some; assumption)
      | (refine Fr_gd fun _ => ?_)
      | (refine Fr_ite ?_ ?_)
      | (refine Fr_opt ?_ fun _ => ?_)
      | (refine Fr_sA ?_ ‹EqS S M0 _› fun _ _ => ?_)
      | (refine Fr_sL ?_ ‹EqS S M0 _› fun _ _ => ?_)
      | (refine Fr_lt fun _ => ?_)
      | (intros; skip; beta_reduce))
theorem fr_X2_breaks_b46 {S : Nat → Bool} {a1 : Nat} {a2 : Int32} {M0 M : mm} (hP_a1_1 : S (a1 + 1) = true) (hP_a1_2 : S (a1 + 2) = true) (hP_a1_3 : S (a1 + 3) = true) (hP_a1_4 : S (a1 + 4) = true) (hP_a1_7 : S (a1 + 7) = true) (hP_a1_8 : S (a1 + 8) = true) (hP_a1_10 : S (a1 + 10) = true) (e : EqS S M0 M) : Fr S M0 (X2_breaks_b46 a1 a2 M) := by
  unfold X2_breaks_b46
  repeat (all_goals first
      | assumption
      | exact Fr_none
      | (apply Fr_some; assumption)
      | (refine Fr_gd fun _ => ?_)
      | (refine Fr_ite ?_ ?_)
      | (refine Fr_opt ?_ fun _ => ?_)
      | (refine Fr_sA ?_ ‹EqS S M0 _› fun _ _ => ?_)
      | (refine Fr_sL ?_ ‹EqS S M0 _› fun _ _ => ?_)
      | (refine Fr_lt fun _ => ?_)
      | (refine Fr_bd (fr_X2_bills ?_ ?_ ?_ ‹EqS S M0 _›) fun _ _ _ => ?_)
      | (refine fr_X2_bills ?_ ?_ ?_ ‹EqS S M0 _›)
      | (refine Fr_bd (fr_X9_makeWhole ?_ ?_ ?_ ?_ ‹EqS S M0 _›) fun _ _ _ => ?_)
      | (refine fr_X9_makeWhole ?_ ?_ ?_ ?_ ‹EqS S M0 _›)
      | (intros; skip; beta_reduce))
theorem fr_X2_breaks {S : Nat → Bool} {a1 : Nat} {a2 : Int32} {M0 M : mm} (hP_a1_1 : S (a1 + 1) = true) (hP_a1_2 : S (a1 + 2) = true) (hP_a1_3 : S (a1 + 3) = true) (hP_a1_4 : S (a1 + 4) = true) (hP_a1_7 : S (a1 + 7) = true) (hP_a1_8 : S (a1 + 8) = true) (hP_a1_10 : S (a1 + 10) = true) (e : EqS S M0 M) : Fr S M0 (X2_breaks a1 a2 M) := by
  unfold X2_breaks
  repeat (all_goals first
      | assumption
      | exact Fr_none
      | (apply Fr_some; assumption)
      | (refine Fr_gd fun _ => ?_)
      | (refine Fr_ite ?_ ?_)
      | (refine Fr_opt ?_ fun _ => ?_)
      | (refine Fr_sA ?_ ‹EqS S M0 _› fun _ _ => ?_)
      | (refine Fr_sL ?_ ‹EqS S M0 _› fun _ _ => ?_)
      | (refine Fr_lt fun _ => ?_)
      | (refine Fr_bd (fr_X2_breaks_b46 ?_ ?_ ?_ ?_ ?_ ?_ ?_ ‹EqS S M0 _›) fun _ _ _ => ?_)
      | (refine fr_X2_breaks_b46 ?_ ?_ ?_ ?_ ?_ ?_ ?_ ‹EqS S M0 _›)
      | (refine Fr_bd (fr_X3_hasThing  ‹EqS S M0 _›) fun _ _ _ => ?_)
      | (refine fr_X3_hasThing  ‹EqS S M0 _›)
      | (intros; skip; beta_reduce))
theorem fr_X4_consider {S : Nat → Bool} {a1 : Int32} {a2 : Int32} {a3 : Int32} {M0 M : mm} (hS : ∀ k, k ∈ [21] → S k = true) (e : EqS S M0 M) : Fr S M0 (X4_consider a1 a2 a3 M) := by
  unfold X4_consider
  repeat (all_goals first
      | assumption
      | exact Fr_none
      | (apply Fr_some; assumption)
      | (refine Fr_gd fun _ => ?_)
      | (refine Fr_ite ?_ ?_)
      | (refine Fr_opt ?_ fun _ => ?_)
      | (refine Fr_sA ?_ ‹EqS S M0 _› fun _ _ => ?_)
      | (refine Fr_sL ?_ ‹EqS S M0 _› fun _ _ => ?_)
      | (refine Fr_lt fun _ => ?_)
      | exact hS _ (by decide)
      | exact subL (by decide) hS
      | (intros; skip; beta_reduce))
theorem fr_X4_mendsAt {S : Nat → Bool} {a1 : Int32} {M0 M : mm}  (e : EqS S M0 M) : Fr S M0 (X4_mendsAt a1 M) := by
  unfold X4_mendsAt
  repeat (all_goals first
      | assumption
      | exact Fr_none
      | (apply Fr_some; assumption)
      | (refine Fr_gd fun _ => ?_)
      | (refine Fr_ite ?_ ?_)
      | (refine Fr_opt ?_ fun _ => ?_)
      | (refine Fr_sA ?_ ‹EqS S M0 _› fun _ _ => ?_)
      | (refine Fr_sL ?_ ‹EqS S M0 _› fun _ _ => ?_)
      | (refine Fr_lt fun _ => ?_)
      | (intros; skip; beta_reduce))
theorem fr_X4_sideOf {S : Nat → Bool} {a0 : Int32} {a1 : Int32} {M0 M : mm}  (e : EqS S M0 M) : Fr S M0 (X4_sideOf a0 a1 M) := by
  unfold X4_sideOf
  repeat (all_goals first
      | assumption
      | exact Fr_none
      | (apply Fr_some; assumption)
      | (refine Fr_gd fun _ => ?_)
      | (refine Fr_ite ?_ ?_)
      | (refine Fr_opt ?_ fun _ => ?_)
      | (refine Fr_sA ?_ ‹EqS S M0 _› fun _ _ => ?_)
      | (refine Fr_sL ?_ ‹EqS S M0 _› fun _ _ => ?_)
      | (refine Fr_lt fun _ => ?_)
      | (intros; skip; beta_reduce))
theorem fr_X4_start {S : Nat → Bool} {a1 : Int32} {a2 : Int32} {M0 M : mm} (hS : ∀ k, k ∈ [21] → S k = true) (e : EqS S M0 M) : Fr S M0 (X4_start a1 a2 M) := by
  unfold X4_start
  repeat (all_goals first
      | assumption
      | exact Fr_none
      | (apply Fr_some; assumption)
      | (refine Fr_gd fun _ => ?_)
      | (refine Fr_ite ?_ ?_)
      | (refine Fr_opt ?_ fun _ => ?_)
      | (refine Fr_sA ?_ ‹EqS S M0 _› fun _ _ => ?_)
      | (refine Fr_sL ?_ ‹EqS S M0 _› fun _ _ => ?_)
      | (refine Fr_lt fun _ => ?_)
      | exact hS _ (by decide)
      | exact subL (by decide) hS
      | (refine Fr_bd (fr_X4_sideOf  ‹EqS S M0 _›) fun _ _ _ => ?_)
      | (refine fr_X4_sideOf  ‹EqS S M0 _›)
      | (intros; skip; beta_reduce))
theorem fr_J7_fill_d0a16_L6 {S : Nat → Bool} {a0 : Nat} {a1 : Int64} {M0 : mm} (hP_a0_0 : S (a0) = true) : ∀ (n_ : Nat) (z1 : Int32) (z2 : Int32) (M : mm), EqS S M0 M → Fr S M0 (J7_fill_d0a16_L6 a0 a1 n_ z1 z2 M) := by
  intro n_
  induction n_ with
  | zero =>
    intros
    exact Fr_none
  | succ n_ ih =>
    intro z1 z2 M e
    rw [J7_fill_d0a16_L6]
    repeat (all_goals first
        | assumption
        | exact Fr_none
        | (apply Fr_some; assumption)
        | (refine Fr_gd fun _ => ?_)
        | (refine Fr_ite ?_ ?_)
        | (refine Fr_opt ?_ fun _ => ?_)
        | (refine Fr_sA ?_ ‹EqS S M0 _› fun _ _ => ?_)
        | (refine Fr_sL ?_ ‹EqS S M0 _› fun _ _ => ?_)
        | (refine Fr_lt fun _ => ?_)
        | (refine Fr_bd (ih _ _ _ ‹EqS S M0 _›) fun _ _ _ => ?_)
        | exact ih _ _ _ ‹EqS S M0 _›
        | (intros; skip; beta_reduce))
