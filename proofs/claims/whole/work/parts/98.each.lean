/-! ===== each call, in one memory ===== -/
def LoS (k : Nat) : Bool := decide (k < 82)
def HiS (k : Nat) : Bool := decide (82 ≤ k)
def StO {α : Type} (X Y : mm → Option (α × mm)) : Prop := ∀ P T N O M, N ≤ 600 → RR P T N O M M → ∃ v M1 M2, X M = some (v, M1) ∧ Y M1 = some (v, M2) ∧ ∃ P' T' N' O', N' ≤ N + 1 ∧ RR P' T' N' O' M2 M2
theorem StO_of {α : Type} {X Y : mm → Option (α × mm)} (fX : ∀ M, EqS LoS M M → Fr LoS M (X M)) (fY : ∀ M, EqS HiS M M → Fr HiS M (Y M)) (op : ∀ P T N O Ma Mb, N ≤ 600 → RR P T N O Ma Mb → ∃ v Ma' Mb', X Ma = some (v, Ma') ∧ Y Mb = some (v, Mb') ∧ ∃ P' T' N' O', N' ≤ N + 1 ∧ RR P' T' N' O' Ma' Mb') : StO X Y := fun P T N O M hN R => one_step (P' := P) (T' := T) (N' := N) (O' := O) LoS HiS (fun k hk => by unfold LoS; exact decide_eq_false (by omega)) (fun k hk => by unfold HiS; exact decide_eq_false (by omega)) (fun M h => fX M ⟨fun _ _ => ⟨rfl, rfl⟩, h⟩) (fun M h => fY M ⟨fun _ _ => ⟨rfl, rfl⟩, h⟩) R (fun Mb Rb => op P T N O M Mb hN Rb)
theorem isO6_lt {k : Nat} (h : isO 6 k = true) : k < 81 := by
  by_cases hk : k < 117
  · exact (by decide : ∀ k, k < 117 → isO 6 k = true → k < 81) k hk h
  · have hl : SH.length ≤ k := by
      have : SH.length = 117 := by decide
      omega
    unfold isO at h
    rw [List.getElem?_eq_none hl] at h
    cases h
theorem lo_O (k : Nat) (h : isO 6 k = true) : LoS k = true := decide_eq_true (by have := isO6_lt h; omega)
theorem lo_O1 (k : Nat) (h : isO 6 k = true) : LoS (k + 1) = true := decide_eq_true (by have := isO6_lt h; omega)
theorem st_person (a1 : Int32) (a2 : Int32) : StO (X10_person a1 a2) (X11_person a1 a2) := by
  refine StO_of (fun M e => by first | exact fr_X10_person (by decide) e | exact fr_X10_person e) (fun M e => by first | exact fr_X11_person (by decide) e | exact fr_X11_person e) (fun P T N O Ma Mb hN R => ?_)
  have q := by first | exact rr_person R a1 a2 | exact rr_person hN R a1 a2
  first
    | (obtain ⟨v, A, B, h1, h2, h3⟩ := q; exact ⟨v, A, B, h1, h2, P, T, N, O, by omega, h3⟩)
    | (obtain ⟨v, A, B, h1, h2, h3⟩ := q; exact ⟨v, A, B, h1, h2, P, T, N + 1, O, by omega, h3⟩)
    | (obtain ⟨v, A, B, Q, h1, h2, h3⟩ := q; exact ⟨v, A, B, h1, h2, Q, T, N, O, by omega, h3⟩)
    | (obtain ⟨v, A, B, Q, h1, h2, h3⟩ := q; exact ⟨v, A, B, h1, h2, P, Q, N, O, by omega, h3⟩)
    | (obtain ⟨v, A, B, Q, h1, h2, h3⟩ := q; exact ⟨v, A, B, h1, h2, P, T, N + 1, Q, by omega, h3⟩)
theorem st_thing (a1 : Int32) (a2 : Int32) : StO (X10_thing a1 a2) (X11_thing a1 a2) := by
  refine StO_of (fun M e => by first | exact fr_X10_thing (by decide) e | exact fr_X10_thing e) (fun M e => by first | exact fr_X11_thing (by decide) e | exact fr_X11_thing e) (fun P T N O Ma Mb hN R => ?_)
  have q := by first | exact rr_thing R a1 a2 | exact rr_thing hN R a1 a2
  first
    | (obtain ⟨v, A, B, h1, h2, h3⟩ := q; exact ⟨v, A, B, h1, h2, P, T, N, O, by omega, h3⟩)
    | (obtain ⟨v, A, B, h1, h2, h3⟩ := q; exact ⟨v, A, B, h1, h2, P, T, N + 1, O, by omega, h3⟩)
    | (obtain ⟨v, A, B, Q, h1, h2, h3⟩ := q; exact ⟨v, A, B, h1, h2, Q, T, N, O, by omega, h3⟩)
    | (obtain ⟨v, A, B, Q, h1, h2, h3⟩ := q; exact ⟨v, A, B, h1, h2, P, Q, N, O, by omega, h3⟩)
    | (obtain ⟨v, A, B, Q, h1, h2, h3⟩ := q; exact ⟨v, A, B, h1, h2, P, T, N + 1, Q, by omega, h3⟩)
theorem st_things (a1 : Int32) (a2 : Int32) (a3 : Int32) : StO (X10_things a1 a2 a3) (X11_things a1 a2 a3) := by
  refine StO_of (fun M e => by first | exact fr_X10_things (by decide) e | exact fr_X10_things e) (fun M e => by first | exact fr_X11_things (by decide) e | exact fr_X11_things e) (fun P T N O Ma Mb hN R => ?_)
  have q := by first | exact op_things R a1 a2 a3 | exact op_things hN R a1 a2 a3
  first
    | (obtain ⟨v, A, B, h1, h2, h3⟩ := q; exact ⟨v, A, B, h1, h2, P, T, N, O, by omega, h3⟩)
    | (obtain ⟨v, A, B, h1, h2, h3⟩ := q; exact ⟨v, A, B, h1, h2, P, T, N + 1, O, by omega, h3⟩)
    | (obtain ⟨v, A, B, Q, h1, h2, h3⟩ := q; exact ⟨v, A, B, h1, h2, Q, T, N, O, by omega, h3⟩)
    | (obtain ⟨v, A, B, Q, h1, h2, h3⟩ := q; exact ⟨v, A, B, h1, h2, P, Q, N, O, by omega, h3⟩)
    | (obtain ⟨v, A, B, Q, h1, h2, h3⟩ := q; exact ⟨v, A, B, h1, h2, P, T, N + 1, Q, by omega, h3⟩)
theorem st_rule (a1 : Int32) (a2 : Int32) : StO (X10_rule a1 a2) (X11_rule a1 a2) := by
  refine StO_of (fun M e => by first | exact fr_X10_rule (by decide) e | exact fr_X10_rule e) (fun M e => by first | exact fr_X11_rule (by decide) e | exact fr_X11_rule e) (fun P T N O Ma Mb hN R => ?_)
  have q := by first | exact rr_rule R a1 a2 | exact rr_rule hN R a1 a2
  first
    | (obtain ⟨v, A, B, h1, h2, h3⟩ := q; exact ⟨v, A, B, h1, h2, P, T, N, O, by omega, h3⟩)
    | (obtain ⟨v, A, B, h1, h2, h3⟩ := q; exact ⟨v, A, B, h1, h2, P, T, N + 1, O, by omega, h3⟩)
    | (obtain ⟨v, A, B, Q, h1, h2, h3⟩ := q; exact ⟨v, A, B, h1, h2, Q, T, N, O, by omega, h3⟩)
    | (obtain ⟨v, A, B, Q, h1, h2, h3⟩ := q; exact ⟨v, A, B, h1, h2, P, Q, N, O, by omega, h3⟩)
    | (obtain ⟨v, A, B, Q, h1, h2, h3⟩ := q; exact ⟨v, A, B, h1, h2, P, T, N + 1, Q, by omega, h3⟩)
theorem st_mend (a1 : Int32) (a2 : Int32) (a3 : Int32) : StO (X10_mend a1 a2 a3) (X11_mend a1 a2 a3) := by
  refine StO_of (fun M e => by first | exact fr_X10_mend (by decide) e | exact fr_X10_mend e) (fun M e => by first | exact fr_X11_mend (by decide) e | exact fr_X11_mend e) (fun P T N O Ma Mb hN R => ?_)
  have q := by first | exact op_mend R a1 a2 a3 | exact op_mend hN R a1 a2 a3
  first
    | (obtain ⟨v, A, B, h1, h2, h3⟩ := q; exact ⟨v, A, B, h1, h2, P, T, N, O, by omega, h3⟩)
    | (obtain ⟨v, A, B, h1, h2, h3⟩ := q; exact ⟨v, A, B, h1, h2, P, T, N + 1, O, by omega, h3⟩)
    | (obtain ⟨v, A, B, Q, h1, h2, h3⟩ := q; exact ⟨v, A, B, h1, h2, Q, T, N, O, by omega, h3⟩)
    | (obtain ⟨v, A, B, Q, h1, h2, h3⟩ := q; exact ⟨v, A, B, h1, h2, P, Q, N, O, by omega, h3⟩)
    | (obtain ⟨v, A, B, Q, h1, h2, h3⟩ := q; exact ⟨v, A, B, h1, h2, P, T, N + 1, Q, by omega, h3⟩)
theorem st_of (a1 : Int32) (a2 : Int32) : StO (X10_of a1 a2) (X11_of a1 a2) := by
  refine StO_of (fun M e => by first | exact fr_X10_of (by decide) e | exact fr_X10_of e) (fun M e => by first | exact fr_X11_of (by decide) e | exact fr_X11_of e) (fun P T N O Ma Mb hN R => ?_)
  have q := by first | exact op_of R a1 a2 | exact op_of hN R a1 a2
  first
    | (obtain ⟨v, A, B, h1, h2, h3⟩ := q; exact ⟨v, A, B, h1, h2, P, T, N, O, by omega, h3⟩)
    | (obtain ⟨v, A, B, h1, h2, h3⟩ := q; exact ⟨v, A, B, h1, h2, P, T, N + 1, O, by omega, h3⟩)
    | (obtain ⟨v, A, B, Q, h1, h2, h3⟩ := q; exact ⟨v, A, B, h1, h2, Q, T, N, O, by omega, h3⟩)
    | (obtain ⟨v, A, B, Q, h1, h2, h3⟩ := q; exact ⟨v, A, B, h1, h2, P, Q, N, O, by omega, h3⟩)
    | (obtain ⟨v, A, B, Q, h1, h2, h3⟩ := q; exact ⟨v, A, B, h1, h2, P, T, N + 1, Q, by omega, h3⟩)
theorem st_feed (a1 : Int32) : StO (X10_feed a1) (X11_feed a1) := by
  refine StO_of (fun M e => by first | exact fr_X10_feed (by decide) e | exact fr_X10_feed e) (fun M e => by first | exact fr_X11_feed (by decide) e | exact fr_X11_feed e) (fun P T N O Ma Mb hN R => ?_)
  have q := by first | exact rr_feed R a1 | exact rr_feed hN R a1
  first
    | (obtain ⟨v, A, B, h1, h2, h3⟩ := q; exact ⟨v, A, B, h1, h2, P, T, N, O, by omega, h3⟩)
    | (obtain ⟨v, A, B, h1, h2, h3⟩ := q; exact ⟨v, A, B, h1, h2, P, T, N + 1, O, by omega, h3⟩)
    | (obtain ⟨v, A, B, Q, h1, h2, h3⟩ := q; exact ⟨v, A, B, h1, h2, Q, T, N, O, by omega, h3⟩)
    | (obtain ⟨v, A, B, Q, h1, h2, h3⟩ := q; exact ⟨v, A, B, h1, h2, P, Q, N, O, by omega, h3⟩)
    | (obtain ⟨v, A, B, Q, h1, h2, h3⟩ := q; exact ⟨v, A, B, h1, h2, P, T, N + 1, Q, by omega, h3⟩)
theorem st_law  : StO (X10_law) (X11_law) := by
  refine StO_of (fun M e => by first | exact fr_X10_law (by decide) e | exact fr_X10_law e) (fun M e => by first | exact fr_X11_law (by decide) e | exact fr_X11_law e) (fun P T N O Ma Mb hN R => ?_)
  have q := by first | exact op_law R  | exact op_law hN R 
  first
    | (obtain ⟨v, A, B, h1, h2, h3⟩ := q; exact ⟨v, A, B, h1, h2, P, T, N, O, by omega, h3⟩)
    | (obtain ⟨v, A, B, h1, h2, h3⟩ := q; exact ⟨v, A, B, h1, h2, P, T, N + 1, O, by omega, h3⟩)
    | (obtain ⟨v, A, B, Q, h1, h2, h3⟩ := q; exact ⟨v, A, B, h1, h2, Q, T, N, O, by omega, h3⟩)
    | (obtain ⟨v, A, B, Q, h1, h2, h3⟩ := q; exact ⟨v, A, B, h1, h2, P, Q, N, O, by omega, h3⟩)
    | (obtain ⟨v, A, B, Q, h1, h2, h3⟩ := q; exact ⟨v, A, B, h1, h2, P, T, N + 1, Q, by omega, h3⟩)
theorem st_undo  : StO (X10_undo) (X11_undo) := by
  refine StO_of (fun M e => by first | exact fr_X10_undo (by decide) e | exact fr_X10_undo e) (fun M e => by first | exact fr_X11_undo (by decide) e | exact fr_X11_undo e) (fun P T N O Ma Mb hN R => ?_)
  have q := by first | exact op_undo R  | exact op_undo hN R 
  first
    | (obtain ⟨v, A, B, h1, h2, h3⟩ := q; exact ⟨v, A, B, h1, h2, P, T, N, O, by omega, h3⟩)
    | (obtain ⟨v, A, B, h1, h2, h3⟩ := q; exact ⟨v, A, B, h1, h2, P, T, N + 1, O, by omega, h3⟩)
    | (obtain ⟨v, A, B, Q, h1, h2, h3⟩ := q; exact ⟨v, A, B, h1, h2, Q, T, N, O, by omega, h3⟩)
    | (obtain ⟨v, A, B, Q, h1, h2, h3⟩ := q; exact ⟨v, A, B, h1, h2, P, Q, N, O, by omega, h3⟩)
    | (obtain ⟨v, A, B, Q, h1, h2, h3⟩ := q; exact ⟨v, A, B, h1, h2, P, T, N + 1, Q, by omega, h3⟩)
theorem st_redo  : StO (X10_redo) (X11_redo) := by
  refine StO_of (fun M e => by first | exact fr_X10_redo (by decide) e | exact fr_X10_redo e) (fun M e => by first | exact fr_X11_redo (by decide) e | exact fr_X11_redo e) (fun P T N O Ma Mb hN R => ?_)
  have q := by first | exact op_redo R  | exact op_redo hN R 
  first
    | (obtain ⟨v, A, B, h1, h2, h3⟩ := q; exact ⟨v, A, B, h1, h2, P, T, N, O, by omega, h3⟩)
    | (obtain ⟨v, A, B, h1, h2, h3⟩ := q; exact ⟨v, A, B, h1, h2, P, T, N + 1, O, by omega, h3⟩)
    | (obtain ⟨v, A, B, Q, h1, h2, h3⟩ := q; exact ⟨v, A, B, h1, h2, Q, T, N, O, by omega, h3⟩)
    | (obtain ⟨v, A, B, Q, h1, h2, h3⟩ := q; exact ⟨v, A, B, h1, h2, P, Q, N, O, by omega, h3⟩)
    | (obtain ⟨v, A, B, Q, h1, h2, h3⟩ := q; exact ⟨v, A, B, h1, h2, P, T, N + 1, Q, by omega, h3⟩)
theorem st_years (a1 : Int32) (a2 : Int32) : StO (X10_years a1 a2) (X11_years a1 a2) := by
  refine StO_of (fun M e => by first | exact fr_X10_years (by decide) e | exact fr_X10_years e) (fun M e => by first | exact fr_X11_years (by decide) e | exact fr_X11_years e) (fun P T N O Ma Mb hN R => ?_)
  have q := by first | exact op_years R a1 a2 | exact op_years hN R a1 a2
  first
    | (obtain ⟨v, A, B, h1, h2, h3⟩ := q; exact ⟨v, A, B, h1, h2, P, T, N, O, by omega, h3⟩)
    | (obtain ⟨v, A, B, h1, h2, h3⟩ := q; exact ⟨v, A, B, h1, h2, P, T, N + 1, O, by omega, h3⟩)
    | (obtain ⟨v, A, B, Q, h1, h2, h3⟩ := q; exact ⟨v, A, B, h1, h2, Q, T, N, O, by omega, h3⟩)
    | (obtain ⟨v, A, B, Q, h1, h2, h3⟩ := q; exact ⟨v, A, B, h1, h2, P, Q, N, O, by omega, h3⟩)
    | (obtain ⟨v, A, B, Q, h1, h2, h3⟩ := q; exact ⟨v, A, B, h1, h2, P, T, N + 1, Q, by omega, h3⟩)
theorem st_paid (a1 : Int32) : StO (X10_paid a1) (X11_paid a1) := by
  refine StO_of (fun M e => by first | exact fr_X10_paid (by decide) e | exact fr_X10_paid e) (fun M e => by first | exact fr_X11_paid (by decide) e | exact fr_X11_paid e) (fun P T N O Ma Mb hN R => ?_)
  have q := by first | exact rr_paid R a1 | exact rr_paid hN R a1
  first
    | (obtain ⟨v, A, B, h1, h2, h3⟩ := q; exact ⟨v, A, B, h1, h2, P, T, N, O, by omega, h3⟩)
    | (obtain ⟨v, A, B, h1, h2, h3⟩ := q; exact ⟨v, A, B, h1, h2, P, T, N + 1, O, by omega, h3⟩)
    | (obtain ⟨v, A, B, Q, h1, h2, h3⟩ := q; exact ⟨v, A, B, h1, h2, Q, T, N, O, by omega, h3⟩)
    | (obtain ⟨v, A, B, Q, h1, h2, h3⟩ := q; exact ⟨v, A, B, h1, h2, P, Q, N, O, by omega, h3⟩)
    | (obtain ⟨v, A, B, Q, h1, h2, h3⟩ := q; exact ⟨v, A, B, h1, h2, P, T, N + 1, Q, by omega, h3⟩)
theorem st_layer (a1 : Int32) (a2 : Int32) : StO (X10_layer a1 a2) (X11_layer a1 a2) := by
  refine StO_of (fun M e => by first | exact fr_X10_layer (by decide) e | exact fr_X10_layer e) (fun M e => by first | exact fr_X11_layer (by decide) e | exact fr_X11_layer e) (fun P T N O Ma Mb hN R => ?_)
  have q := by first | exact rr_layer R a1 a2 | exact rr_layer hN R a1 a2
  first
    | (obtain ⟨v, A, B, h1, h2, h3⟩ := q; exact ⟨v, A, B, h1, h2, P, T, N, O, by omega, h3⟩)
    | (obtain ⟨v, A, B, h1, h2, h3⟩ := q; exact ⟨v, A, B, h1, h2, P, T, N + 1, O, by omega, h3⟩)
    | (obtain ⟨v, A, B, Q, h1, h2, h3⟩ := q; exact ⟨v, A, B, h1, h2, Q, T, N, O, by omega, h3⟩)
    | (obtain ⟨v, A, B, Q, h1, h2, h3⟩ := q; exact ⟨v, A, B, h1, h2, P, Q, N, O, by omega, h3⟩)
    | (obtain ⟨v, A, B, Q, h1, h2, h3⟩ := q; exact ⟨v, A, B, h1, h2, P, T, N + 1, Q, by omega, h3⟩)
theorem st_fix (a1 : Int32) : StO (X10_fix a1) (X11_fix a1) := by
  refine StO_of (fun M e => by first | exact fr_X10_fix (by decide) e | exact fr_X10_fix e) (fun M e => by first | exact fr_X11_fix (by decide) e | exact fr_X11_fix e) (fun P T N O Ma Mb hN R => ?_)
  have q := by first | exact op_fix R a1 | exact op_fix hN R a1
  first
    | (obtain ⟨v, A, B, h1, h2, h3⟩ := q; exact ⟨v, A, B, h1, h2, P, T, N, O, by omega, h3⟩)
    | (obtain ⟨v, A, B, h1, h2, h3⟩ := q; exact ⟨v, A, B, h1, h2, P, T, N + 1, O, by omega, h3⟩)
    | (obtain ⟨v, A, B, Q, h1, h2, h3⟩ := q; exact ⟨v, A, B, h1, h2, Q, T, N, O, by omega, h3⟩)
    | (obtain ⟨v, A, B, Q, h1, h2, h3⟩ := q; exact ⟨v, A, B, h1, h2, P, Q, N, O, by omega, h3⟩)
    | (obtain ⟨v, A, B, Q, h1, h2, h3⟩ := q; exact ⟨v, A, B, h1, h2, P, T, N + 1, Q, by omega, h3⟩)
theorem st_over (a1 : Int32) : StO (X10_over a1) (X11_over a1) := by
  refine StO_of (fun M e => by first | exact fr_X10_over (by decide) e | exact fr_X10_over e) (fun M e => by first | exact fr_X11_over (by decide) e | exact fr_X11_over e) (fun P T N O Ma Mb hN R => ?_)
  have q := by first | exact op_over R a1 | exact op_over hN R a1
  first
    | (obtain ⟨v, A, B, h1, h2, h3⟩ := q; exact ⟨v, A, B, h1, h2, P, T, N, O, by omega, h3⟩)
    | (obtain ⟨v, A, B, h1, h2, h3⟩ := q; exact ⟨v, A, B, h1, h2, P, T, N + 1, O, by omega, h3⟩)
    | (obtain ⟨v, A, B, Q, h1, h2, h3⟩ := q; exact ⟨v, A, B, h1, h2, Q, T, N, O, by omega, h3⟩)
    | (obtain ⟨v, A, B, Q, h1, h2, h3⟩ := q; exact ⟨v, A, B, h1, h2, P, Q, N, O, by omega, h3⟩)
    | (obtain ⟨v, A, B, Q, h1, h2, h3⟩ := q; exact ⟨v, A, B, h1, h2, P, T, N + 1, Q, by omega, h3⟩)
theorem st_told (a1 : Int32) (a2 : Int32) : StO (X10_told a1 a2) (X11_told a1 a2) := by
  refine StO_of (fun M e => by first | exact fr_X10_told (by decide) e | exact fr_X10_told e) (fun M e => by first | exact fr_X11_told (by decide) e | exact fr_X11_told e) (fun P T N O Ma Mb hN R => ?_)
  have q := by first | exact op_told R a1 a2 | exact op_told hN R a1 a2
  first
    | (obtain ⟨v, A, B, h1, h2, h3⟩ := q; exact ⟨v, A, B, h1, h2, P, T, N, O, by omega, h3⟩)
    | (obtain ⟨v, A, B, h1, h2, h3⟩ := q; exact ⟨v, A, B, h1, h2, P, T, N + 1, O, by omega, h3⟩)
    | (obtain ⟨v, A, B, Q, h1, h2, h3⟩ := q; exact ⟨v, A, B, h1, h2, Q, T, N, O, by omega, h3⟩)
    | (obtain ⟨v, A, B, Q, h1, h2, h3⟩ := q; exact ⟨v, A, B, h1, h2, P, Q, N, O, by omega, h3⟩)
    | (obtain ⟨v, A, B, Q, h1, h2, h3⟩ := q; exact ⟨v, A, B, h1, h2, P, T, N + 1, Q, by omega, h3⟩)
theorem st_debts (a1 : Int32) (a2 : Int32) : StO (X10_debts a1 a2) (X11_debts a1 a2) := by
  refine StO_of (fun M e => by first | exact fr_X10_debts (by decide) e | exact fr_X10_debts e) (fun M e => by first | exact fr_X11_debts (by decide) e | exact fr_X11_debts e) (fun P T N O Ma Mb hN R => ?_)
  have q := by first | exact op_debts R a1 a2 | exact op_debts hN R a1 a2
  first
    | (obtain ⟨v, A, B, h1, h2, h3⟩ := q; exact ⟨v, A, B, h1, h2, P, T, N, O, by omega, h3⟩)
    | (obtain ⟨v, A, B, h1, h2, h3⟩ := q; exact ⟨v, A, B, h1, h2, P, T, N + 1, O, by omega, h3⟩)
    | (obtain ⟨v, A, B, Q, h1, h2, h3⟩ := q; exact ⟨v, A, B, h1, h2, Q, T, N, O, by omega, h3⟩)
    | (obtain ⟨v, A, B, Q, h1, h2, h3⟩ := q; exact ⟨v, A, B, h1, h2, P, Q, N, O, by omega, h3⟩)
    | (obtain ⟨v, A, B, Q, h1, h2, h3⟩ := q; exact ⟨v, A, B, h1, h2, P, T, N + 1, Q, by omega, h3⟩)
theorem st_gift (a1 : Int32) (a2 : Int32) (a3 : Int32) : StO (X10_gift a1 a2 a3) (X11_gift a1 a2 a3) := by
  refine StO_of (fun M e => by first | exact fr_X10_gift (by decide) e | exact fr_X10_gift e) (fun M e => by first | exact fr_X11_gift (by decide) e | exact fr_X11_gift e) (fun P T N O Ma Mb hN R => ?_)
  have q := by first | exact op_gift R a1 a2 a3 | exact op_gift hN R a1 a2 a3
  first
    | (obtain ⟨v, A, B, h1, h2, h3⟩ := q; exact ⟨v, A, B, h1, h2, P, T, N, O, by omega, h3⟩)
    | (obtain ⟨v, A, B, h1, h2, h3⟩ := q; exact ⟨v, A, B, h1, h2, P, T, N + 1, O, by omega, h3⟩)
    | (obtain ⟨v, A, B, Q, h1, h2, h3⟩ := q; exact ⟨v, A, B, h1, h2, Q, T, N, O, by omega, h3⟩)
    | (obtain ⟨v, A, B, Q, h1, h2, h3⟩ := q; exact ⟨v, A, B, h1, h2, P, Q, N, O, by omega, h3⟩)
    | (obtain ⟨v, A, B, Q, h1, h2, h3⟩ := q; exact ⟨v, A, B, h1, h2, P, T, N + 1, Q, by omega, h3⟩)
theorem st_worth (a1 : Int32) (a2 : Int32) (a3 : Int32) : StO (X10_worth a1 a2 a3) (X11_worth a1 a2 a3) := by
  refine StO_of (fun M e => by first | exact fr_X10_worth (by decide) e | exact fr_X10_worth e) (fun M e => by first | exact fr_X11_worth (by decide) e | exact fr_X11_worth e) (fun P T N O Ma Mb hN R => ?_)
  have q := by first | exact op_worth R a1 a2 a3 | exact op_worth hN R a1 a2 a3
  first
    | (obtain ⟨v, A, B, h1, h2, h3⟩ := q; exact ⟨v, A, B, h1, h2, P, T, N, O, by omega, h3⟩)
    | (obtain ⟨v, A, B, h1, h2, h3⟩ := q; exact ⟨v, A, B, h1, h2, P, T, N + 1, O, by omega, h3⟩)
    | (obtain ⟨v, A, B, Q, h1, h2, h3⟩ := q; exact ⟨v, A, B, h1, h2, Q, T, N, O, by omega, h3⟩)
    | (obtain ⟨v, A, B, Q, h1, h2, h3⟩ := q; exact ⟨v, A, B, h1, h2, P, Q, N, O, by omega, h3⟩)
    | (obtain ⟨v, A, B, Q, h1, h2, h3⟩ := q; exact ⟨v, A, B, h1, h2, P, T, N + 1, Q, by omega, h3⟩)
theorem st_now (a1 : Int32) (a2 : Int32) : StO (X10_now a1 a2) (X11_now a1 a2) := by
  refine StO_of (fun M e => by first | exact fr_X10_now (by decide) e | exact fr_X10_now e) (fun M e => by first | exact fr_X11_now (by decide) e | exact fr_X11_now e) (fun P T N O Ma Mb hN R => ?_)
  have q := by first | exact op_now R a1 a2 | exact op_now hN R a1 a2
  first
    | (obtain ⟨v, A, B, h1, h2, h3⟩ := q; exact ⟨v, A, B, h1, h2, P, T, N, O, by omega, h3⟩)
    | (obtain ⟨v, A, B, h1, h2, h3⟩ := q; exact ⟨v, A, B, h1, h2, P, T, N + 1, O, by omega, h3⟩)
    | (obtain ⟨v, A, B, Q, h1, h2, h3⟩ := q; exact ⟨v, A, B, h1, h2, Q, T, N, O, by omega, h3⟩)
    | (obtain ⟨v, A, B, Q, h1, h2, h3⟩ := q; exact ⟨v, A, B, h1, h2, P, Q, N, O, by omega, h3⟩)
    | (obtain ⟨v, A, B, Q, h1, h2, h3⟩ := q; exact ⟨v, A, B, h1, h2, P, T, N + 1, Q, by omega, h3⟩)
theorem st_smith (a1 : Int32) (a2 : Int32) (a3 : Int32) (a4 : Int32) : StO (X10_smith a1 a2 a3 a4) (X11_smith a1 a2 a3 a4) := by
  refine StO_of (fun M e => by first | exact fr_X10_smith (by decide) e | exact fr_X10_smith e) (fun M e => by first | exact fr_X11_smith (by decide) e | exact fr_X11_smith e) (fun P T N O Ma Mb hN R => ?_)
  have q := by first | exact op_smith R a1 a2 a3 a4 | exact op_smith hN R a1 a2 a3 a4
  first
    | (obtain ⟨v, A, B, h1, h2, h3⟩ := q; exact ⟨v, A, B, h1, h2, P, T, N, O, by omega, h3⟩)
    | (obtain ⟨v, A, B, h1, h2, h3⟩ := q; exact ⟨v, A, B, h1, h2, P, T, N + 1, O, by omega, h3⟩)
    | (obtain ⟨v, A, B, Q, h1, h2, h3⟩ := q; exact ⟨v, A, B, h1, h2, Q, T, N, O, by omega, h3⟩)
    | (obtain ⟨v, A, B, Q, h1, h2, h3⟩ := q; exact ⟨v, A, B, h1, h2, P, Q, N, O, by omega, h3⟩)
    | (obtain ⟨v, A, B, Q, h1, h2, h3⟩ := q; exact ⟨v, A, B, h1, h2, P, T, N + 1, Q, by omega, h3⟩)
theorem st_image  : StO (X10_image) (X11_image) := by
  refine StO_of (fun M e => by first | exact fr_X10_image (by decide) e | exact fr_X10_image e) (fun M e => by first | exact fr_X11_image (by decide) e | exact fr_X11_image e) (fun P T N O Ma Mb hN R => ?_)
  have q := by first | exact op_image R  | exact op_image hN R 
  first
    | (obtain ⟨v, A, B, h1, h2, h3⟩ := q; exact ⟨v, A, B, h1, h2, P, T, N, O, by omega, h3⟩)
    | (obtain ⟨v, A, B, h1, h2, h3⟩ := q; exact ⟨v, A, B, h1, h2, P, T, N + 1, O, by omega, h3⟩)
    | (obtain ⟨v, A, B, Q, h1, h2, h3⟩ := q; exact ⟨v, A, B, h1, h2, Q, T, N, O, by omega, h3⟩)
    | (obtain ⟨v, A, B, Q, h1, h2, h3⟩ := q; exact ⟨v, A, B, h1, h2, P, Q, N, O, by omega, h3⟩)
    | (obtain ⟨v, A, B, Q, h1, h2, h3⟩ := q; exact ⟨v, A, B, h1, h2, P, T, N + 1, Q, by omega, h3⟩)
theorem st_back  : StO (X10_back) (X11_back) := by
  refine StO_of (fun M e => by first | exact fr_X10_back (by decide) e | exact fr_X10_back e) (fun M e => by first | exact fr_X11_back (by decide) e | exact fr_X11_back e) (fun P T N O Ma Mb hN R => ?_)
  have q := by first | exact op_back R  | exact op_back hN R 
  first
    | (obtain ⟨v, A, B, h1, h2, h3⟩ := q; exact ⟨v, A, B, h1, h2, P, T, N, O, by omega, h3⟩)
    | (obtain ⟨v, A, B, h1, h2, h3⟩ := q; exact ⟨v, A, B, h1, h2, P, T, N + 1, O, by omega, h3⟩)
    | (obtain ⟨v, A, B, Q, h1, h2, h3⟩ := q; exact ⟨v, A, B, h1, h2, Q, T, N, O, by omega, h3⟩)
    | (obtain ⟨v, A, B, Q, h1, h2, h3⟩ := q; exact ⟨v, A, B, h1, h2, P, Q, N, O, by omega, h3⟩)
    | (obtain ⟨v, A, B, Q, h1, h2, h3⟩ := q; exact ⟨v, A, B, h1, h2, P, T, N + 1, Q, by omega, h3⟩)
theorem st_ruined (a1 : Int32) (a2 : Int32) (a3 : Int32) : StO (X10_ruined a1 a2 a3) (X11_ruined a1 a2 a3) := by
  refine StO_of (fun M e => by first | exact fr_X10_ruined (by decide) e | exact fr_X10_ruined e) (fun M e => by first | exact fr_X11_ruined (by decide) e | exact fr_X11_ruined e) (fun P T N O Ma Mb hN R => ?_)
  have q := by first | exact op_ruined R a1 a2 a3 | exact op_ruined hN R a1 a2 a3
  first
    | (obtain ⟨v, A, B, h1, h2, h3⟩ := q; exact ⟨v, A, B, h1, h2, P, T, N, O, by omega, h3⟩)
    | (obtain ⟨v, A, B, h1, h2, h3⟩ := q; exact ⟨v, A, B, h1, h2, P, T, N + 1, O, by omega, h3⟩)
    | (obtain ⟨v, A, B, Q, h1, h2, h3⟩ := q; exact ⟨v, A, B, h1, h2, Q, T, N, O, by omega, h3⟩)
    | (obtain ⟨v, A, B, Q, h1, h2, h3⟩ := q; exact ⟨v, A, B, h1, h2, P, Q, N, O, by omega, h3⟩)
    | (obtain ⟨v, A, B, Q, h1, h2, h3⟩ := q; exact ⟨v, A, B, h1, h2, P, T, N + 1, Q, by omega, h3⟩)
theorem st_ruled (a1 : Int32) (a2 : Int32) (a3 : Int32) : StO (X10_ruled a1 a2 a3) (X11_ruled a1 a2 a3) := by
  refine StO_of (fun M e => by first | exact fr_X10_ruled (by decide) e | exact fr_X10_ruled e) (fun M e => by first | exact fr_X11_ruled (by decide) e | exact fr_X11_ruled e) (fun P T N O Ma Mb hN R => ?_)
  have q := by first | exact op_ruled R a1 a2 a3 | exact op_ruled hN R a1 a2 a3
  first
    | (obtain ⟨v, A, B, h1, h2, h3⟩ := q; exact ⟨v, A, B, h1, h2, P, T, N, O, by omega, h3⟩)
    | (obtain ⟨v, A, B, h1, h2, h3⟩ := q; exact ⟨v, A, B, h1, h2, P, T, N + 1, O, by omega, h3⟩)
    | (obtain ⟨v, A, B, Q, h1, h2, h3⟩ := q; exact ⟨v, A, B, h1, h2, Q, T, N, O, by omega, h3⟩)
    | (obtain ⟨v, A, B, Q, h1, h2, h3⟩ := q; exact ⟨v, A, B, h1, h2, P, Q, N, O, by omega, h3⟩)
    | (obtain ⟨v, A, B, Q, h1, h2, h3⟩ := q; exact ⟨v, A, B, h1, h2, P, T, N + 1, Q, by omega, h3⟩)
theorem st_body (a1 : Int32) : StO (X10_body a1) (X11_body a1) := by
  refine StO_of (fun M e => by first | exact fr_X10_body (by decide) e | exact fr_X10_body e) (fun M e => by first | exact fr_X11_body (by decide) e | exact fr_X11_body e) (fun P T N O Ma Mb hN R => ?_)
  have q := by first | exact rr_body R a1 | exact rr_body hN R a1
  first
    | (obtain ⟨v, A, B, h1, h2, h3⟩ := q; exact ⟨v, A, B, h1, h2, P, T, N, O, by omega, h3⟩)
    | (obtain ⟨v, A, B, h1, h2, h3⟩ := q; exact ⟨v, A, B, h1, h2, P, T, N + 1, O, by omega, h3⟩)
    | (obtain ⟨v, A, B, Q, h1, h2, h3⟩ := q; exact ⟨v, A, B, h1, h2, Q, T, N, O, by omega, h3⟩)
    | (obtain ⟨v, A, B, Q, h1, h2, h3⟩ := q; exact ⟨v, A, B, h1, h2, P, Q, N, O, by omega, h3⟩)
    | (obtain ⟨v, A, B, Q, h1, h2, h3⟩ := q; exact ⟨v, A, B, h1, h2, P, T, N + 1, Q, by omega, h3⟩)
theorem st_act (a1 : Int32) (a2 : Int32) (a3 : Int32) : StO (X10_act a1 a2 a3) (X11_act a1 a2 a3) := by
  refine StO_of (fun M e => by first | exact fr_X10_act (by decide) e | exact fr_X10_act e) (fun M e => by first | exact fr_X11_act (by decide) e | exact fr_X11_act e) (fun P T N O Ma Mb hN R => ?_)
  have q := by first | exact op_act R a1 a2 a3 | exact op_act hN R a1 a2 a3
  first
    | (obtain ⟨v, A, B, h1, h2, h3⟩ := q; exact ⟨v, A, B, h1, h2, P, T, N, O, by omega, h3⟩)
    | (obtain ⟨v, A, B, h1, h2, h3⟩ := q; exact ⟨v, A, B, h1, h2, P, T, N + 1, O, by omega, h3⟩)
    | (obtain ⟨v, A, B, Q, h1, h2, h3⟩ := q; exact ⟨v, A, B, h1, h2, Q, T, N, O, by omega, h3⟩)
    | (obtain ⟨v, A, B, Q, h1, h2, h3⟩ := q; exact ⟨v, A, B, h1, h2, P, Q, N, O, by omega, h3⟩)
    | (obtain ⟨v, A, B, Q, h1, h2, h3⟩ := q; exact ⟨v, A, B, h1, h2, P, T, N + 1, Q, by omega, h3⟩)
theorem st_trace (a1 : Int32) : StO (X10_trace a1) (X11_trace a1) := by
  refine StO_of (fun M e => by first | exact fr_X10_trace (by decide) e | exact fr_X10_trace e) (fun M e => by first | exact fr_X11_trace (by decide) e | exact fr_X11_trace e) (fun P T N O Ma Mb hN R => ?_)
  have q := by first | exact op_trace R a1 | exact op_trace hN R a1
  first
    | (obtain ⟨v, A, B, h1, h2, h3⟩ := q; exact ⟨v, A, B, h1, h2, P, T, N, O, by omega, h3⟩)
    | (obtain ⟨v, A, B, h1, h2, h3⟩ := q; exact ⟨v, A, B, h1, h2, P, T, N + 1, O, by omega, h3⟩)
    | (obtain ⟨v, A, B, Q, h1, h2, h3⟩ := q; exact ⟨v, A, B, h1, h2, Q, T, N, O, by omega, h3⟩)
    | (obtain ⟨v, A, B, Q, h1, h2, h3⟩ := q; exact ⟨v, A, B, h1, h2, P, Q, N, O, by omega, h3⟩)
    | (obtain ⟨v, A, B, Q, h1, h2, h3⟩ := q; exact ⟨v, A, B, h1, h2, P, T, N + 1, Q, by omega, h3⟩)
theorem st_keep (a1 : Int32) (a2 : Int32) : StO (X10_keep a1 a2) (X11_keep a1 a2) := by
  refine StO_of (fun M e => by first | exact fr_X10_keep lo_O e | exact fr_X10_keep lo_O1 e | exact fr_X10_keep lo_O lo_O1 e | exact fr_X10_keep lo_O1 lo_O e) (fun M e => by first | exact fr_X11_keep (by decide) e | exact fr_X11_keep e) (fun P T N O Ma Mb hN R => ?_)
  have q := by first | exact op_keep R a1 a2 | exact op_keep hN R a1 a2
  first
    | (obtain ⟨v, A, B, h1, h2, h3⟩ := q; exact ⟨v, A, B, h1, h2, P, T, N, O, by omega, h3⟩)
    | (obtain ⟨v, A, B, h1, h2, h3⟩ := q; exact ⟨v, A, B, h1, h2, P, T, N + 1, O, by omega, h3⟩)
    | (obtain ⟨v, A, B, Q, h1, h2, h3⟩ := q; exact ⟨v, A, B, h1, h2, Q, T, N, O, by omega, h3⟩)
    | (obtain ⟨v, A, B, Q, h1, h2, h3⟩ := q; exact ⟨v, A, B, h1, h2, P, Q, N, O, by omega, h3⟩)
    | (obtain ⟨v, A, B, Q, h1, h2, h3⟩ := q; exact ⟨v, A, B, h1, h2, P, T, N + 1, Q, by omega, h3⟩)
theorem st_row (a1 : Int32) (a2 : Int32) (a3 : Int32) : StO (X10_row a1 a2 a3) (X11_row a1 a2 a3) := by
  refine StO_of (fun M e => by first | exact fr_X10_row lo_O e | exact fr_X10_row lo_O1 e | exact fr_X10_row lo_O lo_O1 e | exact fr_X10_row lo_O1 lo_O e) (fun M e => by first | exact fr_X11_row (by decide) e | exact fr_X11_row e) (fun P T N O Ma Mb hN R => ?_)
  have q := by first | exact op_row R a1 a2 a3 | exact op_row hN R a1 a2 a3
  first
    | (obtain ⟨v, A, B, h1, h2, h3⟩ := q; exact ⟨v, A, B, h1, h2, P, T, N, O, by omega, h3⟩)
    | (obtain ⟨v, A, B, h1, h2, h3⟩ := q; exact ⟨v, A, B, h1, h2, P, T, N + 1, O, by omega, h3⟩)
    | (obtain ⟨v, A, B, Q, h1, h2, h3⟩ := q; exact ⟨v, A, B, h1, h2, Q, T, N, O, by omega, h3⟩)
    | (obtain ⟨v, A, B, Q, h1, h2, h3⟩ := q; exact ⟨v, A, B, h1, h2, P, Q, N, O, by omega, h3⟩)
    | (obtain ⟨v, A, B, Q, h1, h2, h3⟩ := q; exact ⟨v, A, B, h1, h2, P, T, N + 1, Q, by omega, h3⟩)
theorem st_put (a1 : Int32) (a2 : Int32) (a3 : Int64) : StO (X10_put a1 a2 a3) (X11_put a1 a2 a3) := by
  refine StO_of (fun M e => by first | exact fr_X10_put lo_O e | exact fr_X10_put lo_O1 e | exact fr_X10_put lo_O lo_O1 e | exact fr_X10_put lo_O1 lo_O e) (fun M e => by first | exact fr_X11_put (by decide) e | exact fr_X11_put e) (fun P T N O Ma Mb hN R => ?_)
  have q := by first | exact op_put R a1 a2 a3 | exact op_put hN R a1 a2 a3
  first
    | (obtain ⟨v, A, B, h1, h2, h3⟩ := q; exact ⟨v, A, B, h1, h2, P, T, N, O, by omega, h3⟩)
    | (obtain ⟨v, A, B, h1, h2, h3⟩ := q; exact ⟨v, A, B, h1, h2, P, T, N + 1, O, by omega, h3⟩)
    | (obtain ⟨v, A, B, Q, h1, h2, h3⟩ := q; exact ⟨v, A, B, h1, h2, Q, T, N, O, by omega, h3⟩)
    | (obtain ⟨v, A, B, Q, h1, h2, h3⟩ := q; exact ⟨v, A, B, h1, h2, P, Q, N, O, by omega, h3⟩)
    | (obtain ⟨v, A, B, Q, h1, h2, h3⟩ := q; exact ⟨v, A, B, h1, h2, P, T, N + 1, Q, by omega, h3⟩)
theorem st_element (a1 : Int32) (a2 : Int32) : StO (X10_element a1 a2) (X11_element a1 a2) := by
  refine StO_of (fun M e => by first | exact fr_X10_element (by decide) e | exact fr_X10_element e) (fun M e => by first | exact fr_X11_element (by decide) e | exact fr_X11_element e) (fun P T N O Ma Mb hN R => ?_)
  have q := by first | exact op_element R a1 a2 | exact op_element hN R a1 a2
  first
    | (obtain ⟨v, A, B, h1, h2, h3⟩ := q; exact ⟨v, A, B, h1, h2, P, T, N, O, by omega, h3⟩)
    | (obtain ⟨v, A, B, h1, h2, h3⟩ := q; exact ⟨v, A, B, h1, h2, P, T, N + 1, O, by omega, h3⟩)
    | (obtain ⟨v, A, B, Q, h1, h2, h3⟩ := q; exact ⟨v, A, B, h1, h2, Q, T, N, O, by omega, h3⟩)
    | (obtain ⟨v, A, B, Q, h1, h2, h3⟩ := q; exact ⟨v, A, B, h1, h2, P, Q, N, O, by omega, h3⟩)
    | (obtain ⟨v, A, B, Q, h1, h2, h3⟩ := q; exact ⟨v, A, B, h1, h2, P, T, N + 1, Q, by omega, h3⟩)
theorem st_taken (a1 : Int32) (a2 : Int32) : StO (X10_taken a1 a2) (X11_taken a1 a2) := by
  refine StO_of (fun M e => by first | exact fr_X10_taken (by decide) e | exact fr_X10_taken e) (fun M e => by first | exact fr_X11_taken (by decide) e | exact fr_X11_taken e) (fun P T N O Ma Mb hN R => ?_)
  have q := by first | exact op_taken R a1 a2 | exact op_taken hN R a1 a2
  first
    | (obtain ⟨v, A, B, h1, h2, h3⟩ := q; exact ⟨v, A, B, h1, h2, P, T, N, O, by omega, h3⟩)
    | (obtain ⟨v, A, B, h1, h2, h3⟩ := q; exact ⟨v, A, B, h1, h2, P, T, N + 1, O, by omega, h3⟩)
    | (obtain ⟨v, A, B, Q, h1, h2, h3⟩ := q; exact ⟨v, A, B, h1, h2, Q, T, N, O, by omega, h3⟩)
    | (obtain ⟨v, A, B, Q, h1, h2, h3⟩ := q; exact ⟨v, A, B, h1, h2, P, Q, N, O, by omega, h3⟩)
    | (obtain ⟨v, A, B, Q, h1, h2, h3⟩ := q; exact ⟨v, A, B, h1, h2, P, T, N + 1, Q, by omega, h3⟩)
theorem st_shift (a1 : Int32) (a2 : Int32) (a3 : Int32) (a4 : Int32) (a5 : Int32) : StO (X10_shift a1 a2 a3 a4 a5) (X11_shift a1 a2 a3 a4 a5) := by
  refine StO_of (fun M e => by first | exact fr_X10_shift lo_O e | exact fr_X10_shift lo_O1 e | exact fr_X10_shift lo_O lo_O1 e | exact fr_X10_shift lo_O1 lo_O e) (fun M e => by first | exact fr_X11_shift (by decide) e | exact fr_X11_shift e) (fun P T N O Ma Mb hN R => ?_)
  have q := by first | exact op_shift R a1 a2 a3 a4 a5 | exact op_shift hN R a1 a2 a3 a4 a5
  first
    | (obtain ⟨v, A, B, h1, h2, h3⟩ := q; exact ⟨v, A, B, h1, h2, P, T, N, O, by omega, h3⟩)
    | (obtain ⟨v, A, B, h1, h2, h3⟩ := q; exact ⟨v, A, B, h1, h2, P, T, N + 1, O, by omega, h3⟩)
    | (obtain ⟨v, A, B, Q, h1, h2, h3⟩ := q; exact ⟨v, A, B, h1, h2, Q, T, N, O, by omega, h3⟩)
    | (obtain ⟨v, A, B, Q, h1, h2, h3⟩ := q; exact ⟨v, A, B, h1, h2, P, Q, N, O, by omega, h3⟩)
    | (obtain ⟨v, A, B, Q, h1, h2, h3⟩ := q; exact ⟨v, A, B, h1, h2, P, T, N + 1, Q, by omega, h3⟩)
theorem st_count (a1 : Int32) : StO (X10_count a1) (X11_count a1) := by
  refine StO_of (fun M e => by first | exact fr_X10_count (by decide) e | exact fr_X10_count e) (fun M e => by first | exact fr_X11_count (by decide) e | exact fr_X11_count e) (fun P T N O Ma Mb hN R => ?_)
  have q := by first | exact op_count R a1 | exact op_count hN R a1
  first
    | (obtain ⟨v, A, B, h1, h2, h3⟩ := q; exact ⟨v, A, B, h1, h2, P, T, N, O, by omega, h3⟩)
    | (obtain ⟨v, A, B, h1, h2, h3⟩ := q; exact ⟨v, A, B, h1, h2, P, T, N + 1, O, by omega, h3⟩)
    | (obtain ⟨v, A, B, Q, h1, h2, h3⟩ := q; exact ⟨v, A, B, h1, h2, Q, T, N, O, by omega, h3⟩)
    | (obtain ⟨v, A, B, Q, h1, h2, h3⟩ := q; exact ⟨v, A, B, h1, h2, P, Q, N, O, by omega, h3⟩)
    | (obtain ⟨v, A, B, Q, h1, h2, h3⟩ := q; exact ⟨v, A, B, h1, h2, P, T, N + 1, Q, by omega, h3⟩)
