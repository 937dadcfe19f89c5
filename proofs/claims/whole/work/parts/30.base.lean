/-! ===== numbers and small words ===== -/
theorem q_lt (a b : Int32) : a < b ↔ a.toInt < b.toInt := Int32.lt_iff_toInt_lt
theorem q_eq (a b : Int32) : a = b ↔ a.toInt = b.toInt := Int32.toInt_inj.symm
theorem q_ltL (a b : Int64) : a < b ↔ a.toInt < b.toInt := Int64.lt_iff_toInt_lt
theorem q_eqL (a b : Int64) : a = b ↔ a.toInt = b.toInt := Int64.toInt_inj.symm
theorem q_inb {a : Int32} {n : Nat} : inb a n = true ↔ 0 ≤ a.toInt ∧ a.toInt < n := by
  constructor
  · intro h
    exact vp_in_iff.mp (inb_vp h)
  · intro h
    have h1 : vp_in a n := vp_in_iff.mpr h
    unfold inb
    simp only [Bool.and_eq_true, Bool.not_eq_true', decide_eq_false_iff_not, decide_eq_true_eq]
    exact ⟨fun q => h1 (Or.inl q), Nat.not_le.mp fun q => h1 (Or.inr q)⟩
theorem q_inbN {i n : Nat} (h : i < n) (hn : n < 2 ^ 31) : inb (nI i) n = true := q_inb.mpr (by rw [nI_toInt (by omega)]; omega)
theorem q_ex {a : Int32} {n : Nat} (h0 : 0 ≤ a.toInt) (h1 : a.toInt < n) (hn : n ≤ 2 ^ 31) : ∃ i : Nat, i < n ∧ a = nI i := by
  refine ⟨a.toInt.toNat, by omega, ?_⟩
  rw [q_eq, nI_toInt (by omega)]
  omega
theorem q_cl {n : Nat} (h : n < 2 ^ 31) : (nI n).toNatClampNeg = n := nI_clamp h
def bI (c : Bool) : Int32 := if c then 1 else 0
theorem bI_t : bI true = 1 := rfl
theorem bI_f : bI false = 0 := rfl
theorem bI_0 (c : Bool) : (bI c = 0) = (c = false) := by cases c <;> simp [bI]
theorem bI_1 (c : Bool) : (bI c = 1) = (c = true) := by cases c <;> simp [bI]
theorem bI_ok (c : Bool) : decide (bI c = 0 ∨ bI c = 1) = true := by cases c <;> simp [bI]
theorem gd_t {β : Type} (x : Option β) : gd true x = x := rfl
theorem bd_s {α β : Type} (v : α) (M : mm) (k : α → mm → Option β) : bd (some (v, M)) k = k v M := rfl
theorem lt_s_ {α β : Type} (x : α) (k : α → β) : lt_ x k = k x := rfl
theorem opt_n {β : Type} (a : β) (f : Nat → β) : opt none a f = a := rfl
theorem opt_s {β : Type} (i : Nat) (a : β) (f : Nat → β) : opt (some i) a f = f i := rfl
theorem sA_1 (M : mm) (k k' : Nat) (f : Nat → Int32) : (sA M k f).1 k' = if k' = k then f else M.1 k' := rfl
theorem sA_2 (M : mm) (k : Nat) (f : Nat → Int32) : (sA M k f).2 = M.2 := rfl
theorem sL_1 (M : mm) (k : Nat) (f : Nat → Int64) : (sL M k f).1 = M.1 := rfl
theorem sL_2 (M : mm) (k k' : Nat) (f : Nat → Int64) : (sL M k f).2.1 k' = if k' = k then f else M.2.1 k' := rfl
theorem sL_3 (M : mm) (k : Nat) (f : Nat → Int64) : (sL M k f).2.2 = M.2.2 := rfl
theorem sR_1 (M : mm) (i r : Nat) : (sR M i r).1 = M.1 := rfl
theorem sR_2 (M : mm) (i r : Nat) : (sR M i r).2.1 = M.2.1 := rfl
theorem sR_3 (M : mm) (i r j : Nat) : (sR M i r).2.2 j = if j = i then r else M.2.2 j := rfl
theorem upd_a (f : Nat → Int32) (k j : Nat) (x : Int32) : upd f k x j = if j = k then x else f j := rfl
theorem updL_a (f : Nat → Int64) (k j : Nat) (x : Int64) : vp_updL f k x j = if j = k then x else f j := rfl
theorem cpy_a {α : Type} (f g : Nat → α) (sp dp n k : Nat) : va_cpy f g sp dp n k = if dp ≤ k ∧ k < dp + n then f (sp + (k - dp)) else g k := rfl
/-- comparing longs by lcmp -/
theorem lg_lt0 (a b : Int64) : (lg_cmp a b < 0) = (a < b) := by
  unfold lg_cmp
  by_cases h1 : a > b
  · rw [if_pos h1]
    simp only [eq_iff_iff]
    constructor
    · intro h; exact absurd h (by decide)
    · intro h; rw [q_ltL] at h; have := (q_ltL b a).mp h1; omega
  · rw [if_neg h1]
    by_cases h2 : a = b
    · rw [if_pos h2]
      subst h2
      simp only [eq_iff_iff]
      constructor
      · intro h; exact absurd h (by decide)
      · intro h; exact absurd h h1
    · rw [if_neg h2]
      simp only [eq_iff_iff]
      constructor
      · intro _
        rw [q_ltL]
        have h3 : ¬ b.toInt < a.toInt := fun q => h1 ((q_ltL b a).mpr q)
        have h4 : a.toInt ≠ b.toInt := fun q => h2 (Int64.toInt_inj.mp q)
        omega
      · intro _; decide
theorem lg_gt0 (a b : Int64) : (0 < lg_cmp a b) = (b < a) := by
  unfold lg_cmp
  by_cases h1 : a > b
  · rw [if_pos h1]
    simp only [eq_iff_iff]
    exact ⟨fun _ => h1, fun _ => by decide⟩
  · rw [if_neg h1]
    by_cases h2 : a = b
    · rw [if_pos h2]
      simp only [eq_iff_iff]
      exact ⟨fun h => absurd h (by decide), fun h => absurd h h1⟩
    · rw [if_neg h2]
      simp only [eq_iff_iff]
      exact ⟨fun h => absurd h (by decide), fun h => absurd h h1⟩
theorem lg_eq0 (a b : Int64) : (lg_cmp a b = 0) = (a = b) := by
  unfold lg_cmp
  by_cases h1 : a > b
  · rw [if_pos h1]
    simp only [eq_iff_iff]
    exact ⟨fun h => absurd h (by decide), fun h => by subst h; have := (q_ltL a a).mp h1; omega⟩
  · rw [if_neg h1]
    by_cases h2 : a = b
    · rw [if_pos h2]; simp [h2]
    · rw [if_neg h2]
      simp only [eq_iff_iff]
      exact ⟨fun h => absurd h (by decide), fun h => absurd h h2⟩
theorem w_within (a b c : Int64) (M : mm) : X11_within a b c M = some (bI (decide (b.toInt ≤ a.toInt ∧ a.toInt ≤ c.toInt)), M) := by
  unfold X11_within
  simp only [lg_lt0, lg_gt0]
  by_cases h1 : a < b
  · rw [if_pos h1]
    rw [q_ltL] at h1
    rw [decide_eq_false (by omega)]; rfl
  · rw [if_neg h1]
    by_cases h2 : c < a
    · rw [if_pos h2]
      rw [q_ltL] at h2
      rw [decide_eq_false (by omega)]; rfl
    · rw [if_neg h2]
      rw [q_ltL] at h1 h2
      rw [decide_eq_true (by omega)]; rfl
theorem q_i64 (a : Int32) : a.toInt64.toInt = a.toInt := Int32.toInt_toInt64 a
theorem q_pm1 {n : Nat} (h : n < 2 ^ 31) : (nI n - 1).toInt = (n : Int) - 1 := by
  have h1 : ((1 : Int32)).toInt = 1 := by decide
  rw [Int32.toInt_sub, nI_toInt h, h1, Int.bmod_eq_of_le (by omega) (by omega)]
theorem w_hasPerson {a : Int32} {M : mm} {P : Nat} (hP : P ≤ 5) (h : M.1 1 0 = nI P) : X3_hasPerson a M = some (bI (decide (0 ≤ a.toInt ∧ a.toInt < P)), M) := by
  unfold X3_hasPerson
  rw [h]
  have h0 : (0 : Int32).toInt = 0 := by decide
  by_cases h1 : a < 0
  · rw [if_pos h1]
    rw [q_lt, h0] at h1
    rw [decide_eq_false (by omega)]; rfl
  · rw [if_neg h1]
    by_cases h2 : a < nI P
    · rw [if_pos h2]
      rw [q_lt, nI_toInt (by omega)] at h2
      rw [q_lt, h0] at h1
      rw [decide_eq_true (by omega)]; rfl
    · rw [if_neg h2]
      rw [q_lt, nI_toInt (by omega)] at h2
      rw [decide_eq_false (by omega)]; rfl
theorem w_hasThing {a : Int32} {M : mm} {T : Nat} (hT : T ≤ 6) (h : M.1 1 1 = nI T) : X3_hasThing a M = some (bI (decide (0 ≤ a.toInt ∧ a.toInt < T)), M) := by
  unfold X3_hasThing
  rw [h]
  have h0 : (0 : Int32).toInt = 0 := by decide
  by_cases h1 : a < 0
  · rw [if_pos h1]
    rw [q_lt, h0] at h1
    rw [decide_eq_false (by omega)]; rfl
  · rw [if_neg h1]
    by_cases h2 : a < nI T
    · rw [if_pos h2]
      rw [q_lt, nI_toInt (by omega)] at h2
      rw [q_lt, h0] at h1
      rw [decide_eq_true (by omega)]; rfl
    · rw [if_neg h2]
      rw [q_lt, nI_toInt (by omega)] at h2
      rw [decide_eq_false (by omega)]; rfl
theorem w_isPerson {a : Int32} {M : mm} {P : Nat} (hP : P ≤ 5) (h : M.1 82 6 = nI P) : X11_isPerson a M = some (bI (decide (0 ≤ a.toInt ∧ a.toInt < P)), M) := by
  unfold X11_isPerson
  rw [w_within, bd_s, bI_ok, gd_t, h, q_i64, q_i64, q_pm1 (by omega)]
  have h0 : (0 : Int64).toInt = 0 := by decide
  rw [h0]
  congr 3
  apply decide_eq_decide.mpr
  omega
theorem w_isThing {a : Int32} {M : mm} {T : Nat} (hT : T ≤ 6) (h : M.1 82 7 = nI T) : X11_isThing a M = some (bI (decide (0 ≤ a.toInt ∧ a.toInt < T)), M) := by
  unfold X11_isThing
  rw [w_within, bd_s, bI_ok, gd_t, h, q_i64, q_i64, q_pm1 (by omega)]
  have h0 : (0 : Int64).toInt = 0 := by decide
  rw [h0]
  congr 3
  apply decide_eq_decide.mpr
  omega
