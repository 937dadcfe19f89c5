/-! ===== fractions in lowest terms ===== -/
def rm (x y : Int64) : Int64 := x - x / y * y
def eu : Nat → Int64 → Int64 → Int64
  | 0, x, _ => x
  | k + 1, x, y => if y = 0 then x else eu k y (rm x y)
/-- it comes to its end within k steps -/
def trm : Nat → Int64 → Int64 → Prop
  | 0, _, y => y = 0
  | k + 1, x, y => y = 0 ∨ trm k y (rm x y)
theorem rm_toInt (x y : Int64) (hy : y ≠ 0) : (rm x y).toInt = x.toInt.tmod y.toInt := by
  have hx1 := Int64.le_toInt x
  have hx2 := Int64.toInt_lt x
  have hy1 := Int64.le_toInt y
  have hy2 := Int64.toInt_lt y
  have hy0 : y.toInt ≠ 0 := fun h => hy ((q_eqL y 0).mpr (by rw [h, z64_0]))
  have hlt : (x.toInt.tmod y.toInt).natAbs < y.toInt.natAbs := by
    rw [Int.natAbs_tmod]
    exact Nat.mod_lt _ (by omega)
  unfold rm
  rw [Int64.toInt_sub, Int64.toInt_mul, Int64.toInt_div, Int.sub_bmod_bmod]
  have e : (x.toInt - (x.toInt.tdiv y.toInt).bmod (2 ^ 64) * y.toInt).bmod (2 ^ 64) = (x.toInt - x.toInt.tdiv y.toInt * y.toInt).bmod (2 ^ 64) := by
    rw [← Int.sub_bmod_bmod, Int.bmod_mul_bmod, Int.sub_bmod_bmod]
  rw [e, Int.mul_comm, ← Int.tmod_def]
  refine Int.bmod_eq_of_le ?_ ?_ <;> omega
theorem rm_abs (x y : Int64) (hy : y ≠ 0) : (rm x y).toInt.natAbs < y.toInt.natAbs := by
  have hy0 : y.toInt ≠ 0 := fun h => hy ((q_eqL y 0).mpr (by rw [h, z64_0]))
  rw [rm_toInt x y hy, Int.natAbs_tmod]
  exact Nat.mod_lt _ (by omega)
theorem trm_m : ∀ k m x y, trm k x y → k ≤ m → trm m x y := by
  intro k
  induction k with
  | zero =>
    intro m x y h _
    cases m with
    | zero => exact h
    | succ m => exact Or.inl h
  | succ k ih =>
    intro m x y h hm
    obtain ⟨m, rfl⟩ : ∃ m', m = m' + 1 := ⟨m - 1, by omega⟩
    rcases h with h | h
    · exact Or.inl h
    · exact Or.inr (ih m _ _ h (by omega))
theorem eu_m : ∀ k m x y, trm k x y → k ≤ m → eu m x y = eu k x y := by
  intro k
  induction k with
  | zero =>
    intro m x y h _
    cases m with
    | zero => rfl
    | succ m =>
      show (if y = 0 then x else _) = x
      exact if_pos h
  | succ k ih =>
    intro m x y h hm
    obtain ⟨m, rfl⟩ : ∃ m', m = m' + 1 := ⟨m - 1, by omega⟩
    rw [eu, eu]
    by_cases h0 : y = 0
    · rw [if_pos h0, if_pos h0]
    · rw [if_neg h0, if_neg h0]
      exact ih m _ _ (h.resolve_left h0) (by omega)
theorem eu_n0 : ∀ k x y, trm k x y → (x ≠ 0 ∨ y ≠ 0) → eu k x y ≠ 0 := by
  intro k
  induction k with
  | zero =>
    intro x y h hxy
    rcases hxy with h1 | h1
    · exact h1
    · exact absurd h h1
  | succ k ih =>
    intro x y h hxy
    rw [eu]
    by_cases h0 : y = 0
    · rw [if_pos h0]
      rcases hxy with h1 | h1
      · exact h1
      · exact absurd h0 h1
    · rw [if_neg h0]
      exact ih _ _ (h.resolve_left h0) (Or.inl h0)
theorem trm_of : ∀ k (x y : Int64), y.toInt.natAbs < 2 ^ k → trm (2 * k + 1) x y := by
  intro k
  induction k with
  | zero =>
    intro x y h
    refine Or.inl ((q_eqL y 0).mpr ?_)
    rw [z64_0]
    omega
  | succ k ih =>
    intro x y h
    by_cases h0 : y = 0
    · exact Or.inl h0
    · refine Or.inr ?_
      show trm (2 * k + 1 + 1) y (rm x y)
      by_cases h1 : rm x y = 0
      · exact Or.inl h1
      · refine Or.inr (ih _ _ ?_)
        have a1 := rm_abs x y h0
        have a2 := rm_abs y (rm x y) h1
        rw [rm_toInt y _ h1, Int.natAbs_tmod] at a2 ⊢
        have a3 := Nat.mod_add_div y.toInt.natAbs (rm x y).toInt.natAbs
        have a4 : 1 ≤ y.toInt.natAbs / (rm x y).toInt.natAbs := (Nat.le_div_iff_mul_le (by omega)).mpr (by omega)
        have a5 : (rm x y).toInt.natAbs * 1 ≤ (rm x y).toInt.natAbs * (y.toInt.natAbs / (rm x y).toInt.natAbs) := Nat.mul_le_mul_left _ a4
        rw [Nat.pow_succ] at h
        omega
theorem rm_lt {x y : Int64} (hx : 0 ≤ x.toInt) (h : x.toInt.natAbs < y.toInt.natAbs) (hy : y ≠ 0) : rm x y = x := by
  rw [q_eqL, rm_toInt x y hy]
  rcases Int.le_total 0 y.toInt with h1 | h1
  · exact Int.tmod_eq_of_lt hx (by omega)
  · rw [← Int.neg_neg y.toInt, Int.tmod_neg]
    exact Int.tmod_eq_of_lt hx (by omega)
theorem pw12_b : ∀ y, y ≤ 6 → 0 < (pw12 y).toInt ∧ (pw12 y).toInt < 2 ^ 22
  | 0, _ => by decide
  | 1, _ => by decide
  | 2, _ => by decide
  | 3, _ => by decide
  | 4, _ => by decide
  | 5, _ => by decide
  | 6, _ => by decide
  | n + 7, h => absurd h (by omega)
theorem pw12_n0 {y : Nat} (hy : y ≤ 6) : pw12 y ≠ 0 := fun h => by
  have := (pw12_b y hy).1
  rw [h, z64_0] at this
  omega
def absn (n : Int64) : Int64 := if n < 0 then -n else n
theorem absn_c {n : Int64} : (if 0 < n then n else -n) = absn n := by
  unfold absn
  by_cases h : 0 < n
  · rw [if_pos h, if_neg (by rw [q_ltL] at h ⊢; omega)]
  · rw [if_neg h]
    by_cases h2 : n < 0
    · rw [if_pos h2]
    · rw [if_neg h2]
      have : n = 0 := by
        rw [q_ltL, z64_0] at h h2
        rw [q_eqL, z64_0]
        omega
      rw [this]
      rfl
theorem absn_0 {n : Int64} (h : n ≠ 0) : absn n ≠ 0 := by
  unfold absn
  by_cases h2 : n < 0
  · rw [if_pos h2]
    intro h3
    apply h
    have h4 := congrArg (fun z : Int64 => -z) h3
    simpa using h4
  · rw [if_neg h2]; exact h
theorem absn_s (n : Int64) : 0 ≤ (absn n).toInt ∨ (absn n).toInt = -2 ^ 63 := by
  have h1 := Int64.le_toInt n
  have h2 := Int64.toInt_lt n
  unfold absn
  by_cases h : n < 0
  · rw [if_pos h, Int64.toInt_neg]
    rw [q_ltL, z64_0] at h
    by_cases h3 : n.toInt = -2 ^ 63
    · right
      rw [h3]
      decide
    · left
      rw [Int.bmod_eq_of_le (by omega) (by omega)]
      omega
  · rw [if_neg h]
    rw [q_ltL, z64_0] at h
    left
    omega
/-- both ways of beginning come to one -/
theorem eu_swap {A b : Int64} (hA : A ≠ 0) (hb : 0 < b.toInt ∧ b.toInt < 2 ^ 22) (hs : 0 ≤ A.toInt ∨ A.toInt = -2 ^ 63) : trm 60 b A ∧ trm 60 A b ∧ eu 60 b A = eu 60 A b := by
  have hb0 : b ≠ 0 := fun h => by rw [h, z64_0] at hb; omega
  have t1 : trm 45 A b := trm_of 22 A b (by omega)
  have t2 : trm 46 b A := Or.inr (trm_of 22 A (rm b A) (by
    rw [rm_toInt b A hA, Int.natAbs_tmod]
    have := Nat.mod_le b.toInt.natAbs A.toInt.natAbs
    omega))
  refine ⟨trm_m 46 60 _ _ t2 (by omega), trm_m 45 60 _ _ t1 (by omega), ?_⟩
  rcases Nat.lt_trichotomy b.toInt.natAbs A.toInt.natAbs with h | h | h
  · have e := rm_lt (x := b) (y := A) (by omega) h hA
    rw [eu_m 46 60 b A t2 (by omega), eu, if_neg hA, e, eu_m 45 60 A b t1 (by omega)]
  · have e : A = b := by
      rw [q_eqL]
      omega
    rw [e]
  · have e := rm_lt (x := A) (y := b) (by omega) h hb0
    have t3 : trm 47 A b := trm_m 45 47 _ _ t1 (by omega)
    have e2 : eu 47 A b = eu 46 b A := by rw [eu, if_neg hb0, e]
    rw [eu_m 46 60 b A t2 (by omega), eu_m 47 60 A b t3 (by omega), e2]
/-- a part of n by 12 to the y in lowest terms -/
def frV (n : Int64) (y pt : Nat) : Int64 := if n = 0 then cL pt else (if pt = 0 then n else pw12 y) / eu 60 (absn n) (pw12 y)
theorem w_common17 (a0 a2 : Int64) (M : mm) : ∀ k m x y, trm k x y → k < m → X11_common_L17 a0 a2 m x y M = some (eu k x y, M) := by
  intro k
  induction k with
  | zero =>
    intro m x y h hm
    obtain ⟨m, rfl⟩ : ∃ m', m = m' + 1 := ⟨m - 1, by omega⟩
    rw [X11_common_L17, i_P (lg_eq0 _ _), if_pos (show y = 0 from h)]
    rfl
  | succ k ih =>
    intro m x y h hm
    obtain ⟨m, rfl⟩ : ∃ m', m = m' + 1 := ⟨m - 1, by omega⟩
    rw [X11_common_L17, i_P (lg_eq0 _ _), eu]
    by_cases h0 : y = 0
    · rw [if_pos h0, if_pos h0]
    · rw [if_neg h0, if_neg h0, decide_eq_true h0, gd_t]
      exact ih m y (rm x y) (h.resolve_left h0) (by omega)
theorem w_fraction39 (a0 : Int64) (a2 a3 : Int32) (K : Int64 → Int64 → mm → Option (Int64 × mm)) (x4 : Int64) (M : mm) : ∀ k m x y i, trm k x y → k < m → i + k < 100 → X10_fraction_L39 a0 a2 a3 K m x4 x y (nI i) M = K x4 (eu k x y) M := by
  intro k
  induction k with
  | zero =>
    intro m x y i h hm hi
    obtain ⟨m, rfl⟩ : ∃ m', m = m' + 1 := ⟨m - 1, by omega⟩
    rw [X10_fraction_L39, n100, i_ltP (by omega) (by omega), if_pos (by omega), i_P (lg_eq0 _ _), if_pos (show y = 0 from h)]
    rfl
  | succ k ih =>
    intro m x y i h hm hi
    obtain ⟨m, rfl⟩ : ∃ m', m = m' + 1 := ⟨m - 1, by omega⟩
    rw [X10_fraction_L39, n100, i_ltP (by omega) (by omega), if_pos (by omega), i_P (lg_eq0 _ _), eu]
    by_cases h0 : y = 0
    · rw [if_pos h0, if_pos h0]
    · rw [if_neg h0, if_neg h0, decide_eq_true h0, gd_t, nI_1]
      exact ih m y (rm x y) (i + 1) (h.resolve_left h0) (by omega) (by omega)
theorem w_fraction6 (a0 : Int64) (a3 : Int32) {y : Nat} (hy : y ≤ 6) (K : Int64 → mm → Option (Int64 × mm)) (M : mm) : ∀ n i, i ≤ y → y - i < n → X10_fraction_L6 a0 (nI y) a3 K n (pw12 i) (nI i) M = K (pw12 y) M := by
  intro n
  induction n with
  | zero => intro i _ h; omega
  | succ n ih =>
    intro i hi hn
    rw [X10_fraction_L6, i_ltP (by omega) (by omega)]
    by_cases h : i < y
    · rw [if_pos h, nI_1, Int64.mul_comm (pw12 i) 12]
      exact ih (i + 1) (by omega) (by omega)
    · rw [if_neg h]
      obtain rfl : i = y := by omega
      rfl
theorem w_fraction (n : Int64) {y pt : Nat} (hy : y ≤ 6) (hp : pt ≤ 1) (M : mm) : X10_fraction n (nI y) (nI pt) M = some (frV n y pt, M) := by
  unfold X10_fraction
  have h6 := w_fraction6 n (nI pt) hy (fun x4 M => X10_fraction_L39 n (nI y) (nI pt) (fun x4 x6 M => X10_fraction_b74 n (nI y) (nI pt) x4 x6 M) 10000 x4 x4 (if 0 < n then n else -n) 0 M) M 10000 0 (by omega) (by omega)
  rw [show pw12 0 = (1 : Int64) from rfl, show nI 0 = (0 : Int32) from rfl] at h6
  rw [h6, absn_c]
  have hb := pw12_b y hy
  have hb0 := pw12_n0 hy
  have ep : (nI pt = 0) = (pt = 0) := n_eq (b := 0) (by omega) (by omega)
  unfold frV
  by_cases hn : n = 0
  · have h39 := w_fraction39 n (nI y) (nI pt) (fun x4 x6 M => X10_fraction_b74 n (nI y) (nI pt) x4 x6 M) (pw12 y) M 0 10000 (pw12 y) (absn n) 0 (by rw [hn]; rfl) (by omega) (by omega)
    rw [show nI 0 = (0 : Int32) from rfl] at h39
    rw [h39, if_pos hn]
    show X10_fraction_b74 n (nI y) (nI pt) (pw12 y) (pw12 y) M = _
    unfold X10_fraction_b74
    rw [i_P (lg_eq0 _ _), if_neg hb0, decide_eq_true hb0, gd_t, gd_t, i_P ep, hn]
    obtain rfl | rfl : pt = 0 ∨ pt = 1 := by omega
    · rw [if_pos rfl]
      refine congrArg (fun z => some (z, M)) ?_
      show (0 : Int64) / pw12 y = 0
      rw [q_eqL, Int64.toInt_div, z64_0, Int.zero_tdiv]
      rfl
    · rw [if_neg (by omega)]
      refine congrArg (fun z => some (z, M)) ?_
      show pw12 y / pw12 y = 1
      rw [q_eqL, Int64.toInt_div, Int.tdiv_self (by omega), z64_1]
      rfl
  · obtain ⟨s1, s2, s3⟩ := eu_swap (absn_0 hn) hb (absn_s n)
    have h39 := w_fraction39 n (nI y) (nI pt) (fun x4 x6 M => X10_fraction_b74 n (nI y) (nI pt) x4 x6 M) (pw12 y) M 60 10000 (pw12 y) (absn n) 0 s1 (by omega) (by omega)
    rw [show nI 0 = (0 : Int32) from rfl] at h39
    have h0 := eu_n0 60 _ _ s1 (Or.inl hb0)
    rw [h39, if_neg hn, ← s3]
    unfold X10_fraction_b74
    rw [i_P (lg_eq0 _ _), if_neg h0, decide_eq_true h0, gd_t, gd_t, i_P ep]
    by_cases hp0 : pt = 0
    · rw [if_pos hp0, if_pos hp0]
    · rw [if_neg hp0, if_neg hp0]
theorem w_partOf (n : Int64) {y pt : Nat} {b : Int64} (hy : y ≤ 6) (hp : pt ≤ 1) (hb : n ≠ 0 → b = pw12 y) (M : mm) : X11_partOf n b (nI pt) M = some (frV n y pt, M) := by
  unfold X11_partOf frV
  rw [i_P (lg_eq0 _ _)]
  by_cases hn : n = 0
  · rw [if_pos hn, if_pos hn]; rfl
  · rw [if_neg hn, if_neg hn, hb hn]
    have ep : (nI pt = 0) = (pt = 0) := n_eq (b := 0) (by omega) (by omega)
    obtain ⟨s1, s2, s3⟩ := eu_swap (absn_0 hn) (pw12_b y hy) (absn_s n)
    have h0 := eu_n0 60 _ _ s2 (Or.inl (absn_0 hn))
    have e : X11_common n (pw12 y) M = some (eu 60 (absn n) (pw12 y), M) := by
      unfold X11_common X11_common_b12
      rw [i_P (lg_lt0 _ _)]
      exact w_common17 n (pw12 y) M 60 10000 _ _ s2 (by omega)
    rw [e, bd_s, decide_eq_true h0, gd_t, gd_t, i_P ep]
    by_cases hp0 : pt = 0
    · rw [if_pos hp0, if_pos hp0]
    · rw [if_neg hp0, if_neg hp0]
