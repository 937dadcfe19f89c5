/-! ===== the shape of the two objects' cells, the pure memory, the rows over it ===== -/
/-- the pure memory: ints (fields, arrays of int, byte, boolean), longs, and the three references that change: 0 Reader.text, 1 Mind.here, 2 Mind.behind -/
abbrev mm : Type := (Nat → Nat → Int32) × (Nat → Nat → Int64) × (Nat → Nat)
/-- the shape of a cell: an array (kind, length), or an object (class, its fields: 0 an int, 1 a long, 2 + i the i-th reference that changes, 10 + k a reference to cell k) -/
abbrev shp : Type := (Nat × Nat) ⊕ (Nat × List Nat)
def SH : List shp := [.inr (10, [11, 19, 31, 37, 38, 49, 60, 71, 76, 79, 0, 0, 0]), .inr (3, [0, 0, 0, 0, 0, 12, 13, 14, 15, 16, 17, 18]), .inl (0, 5), .inl (0, 5), .inl (0, 5), .inl (0, 6), .inl (0, 6), .inl (0, 6), .inl (0, 6), .inr (8, [0, 20, 21, 26, 29, 30]), .inl (0, 120), .inr (5, [2, 0, 0, 23]), .inl (0, 0), .inr (7, [0, 24, 25]), .inl (0, 242), .inl (0, 242), .inr (7, [0, 27, 28]), .inl (0, 242), .inl (0, 242), .inl (0, 48), .inl (2, 3600), .inr (4, [11, 19, 0, 0, 0, 0, 0, 0, 0, 0, 1, 3, 4, 34, 35, 36]), .inl (1, 56), .inl (1, 56), .inl (1, 4), .inl (1, 4), .inl (1, 2048), .inr (2, [11, 19, 31, 0]), .inr (9, [0, 0, 39, 40, 41, 42, 43, 44, 45, 46, 47, 48]), .inl (0, 6), .inl (0, 6), .inl (0, 6), .inl (0, 6), .inl (0, 6), .inl (0, 48), .inl (0, 5), .inl (0, 5), .inl (0, 5), .inl (0, 6), .inr (9, [0, 0, 50, 51, 52, 53, 54, 55, 56, 57, 58, 59]), .inl (0, 6), .inl (0, 6), .inl (0, 6), .inl (0, 6), .inl (0, 6), .inl (0, 48), .inl (0, 5), .inl (0, 5), .inl (0, 5), .inl (0, 6), .inr (9, [0, 0, 61, 62, 63, 64, 65, 66, 67, 68, 69, 70]), .inl (0, 6), .inl (0, 6), .inl (0, 6), .inl (0, 6), .inl (0, 6), .inl (0, 48), .inl (0, 5), .inl (0, 5), .inl (0, 5), .inl (0, 6), .inr (1, [0, 0, 72, 73, 74, 75]), .inl (0, 40), .inl (0, 40), .inl (0, 40), .inl (0, 40), .inr (0, [0, 0, 77, 78, 0, 0]), .inl (0, 24), .inl (0, 50), .inl (4, 6), .inr (6, [0, 0, 0, 0, 81]), .inl (1, 60), .inr (6, [0, 0, 0, 0, 83]), .inl (1, 60), .inr (6, [0, 0, 0, 0, 85]), .inl (1, 60), .inr (6, [0, 0, 0, 0, 87]), .inl (1, 60), .inr (6, [0, 0, 0, 0, 89]), .inl (1, 60), .inr (6, [0, 0, 0, 0, 91]), .inl (1, 60), .inr (11, [93, 94, 95, 96, 0, 0, 0, 0, 97, 98, 99, 100, 101, 102, 103, 104, 105, 106, 107, 0, 0, 0, 0, 108, 0, 109, 0, 0, 0, 0, 0, 0, 110, 111, 112, 113, 114, 0, 0, 0, 0, 0, 115, 0, 0, 116, 117, 118, 119, 120, 0, 0, 0, 0, 121, 122, 0, 0, 0, 123, 124, 125, 126]), .inl (0, 33), .inl (0, 40), .inl (0, 40), .inl (0, 40), .inl (0, 5), .inl (0, 5), .inl (0, 5), .inl (0, 6), .inl (0, 6), .inl (0, 6), .inl (0, 6), .inl (0, 6), .inl (0, 48), .inl (0, 6), .inl (0, 6), .inl (0, 120), .inl (0, 120), .inl (0, 4), .inl (1, 7), .inl (0, 800), .inl (1, 8400), .inl (3, 8400), .inl (1, 2800), .inl (3, 7200), .inl (0, 72), .inl (0, 96), .inl (0, 30), .inl (0, 4), .inl (0, 50), .inl (0, 24), .inl (0, 6), .inl (0, 6), .inl (1, 360), .inl (1, 60)]
def fval (M : mm) (k j : Nat) : Nat → Value
  | 0 => .int (M.1 k j)
  | 1 => .long (M.2.1 k j)
  | n + 2 => if n < 8 then .ref (M.2.2 n) else .ref (n - 8)
def cellOf (M : mm) (k : Nat) : shp → rc
  | .inl (ty, n) => .inl (ty, n, if ty = 1 then .inr (.inl (M.2.1 k)) else if ty = 4 then .inr (.inr (fun j => if j < n then some (k + 1 + 2 * j) else none)) else .inl (M.1 k))
  | .inr (ci, fks) => .inr (ci, fks.mapIdx (fun j fk => fval M k j fk))
def cells (M : mm) : List rc := SH.mapIdx (fun k s => cellOf M k s)
theorem cells_get {M : mm} {k : Nat} {s : shp} (h : SH[k]? = some s) : (cells M)[k]? = some (cellOf M k s) := by simp [cells, List.getElem?_mapIdx, h]
def sA (M : mm) (k : Nat) (f : Nat → Int32) : mm := (fun k' => if k' = k then f else M.1 k', M.2)
def sL (M : mm) (k : Nat) (f : Nat → Int64) : mm := (M.1, fun k' => if k' = k then f else M.2.1 k', M.2.2)
def sR (M : mm) (i r : Nat) : mm := (M.1, M.2.1, fun j => if j = i then r else M.2.2 j)
theorem cells_set {M M' : mm} {k : Nat} {c : rc} (h : ∀ s, SH[k]? = some s → cellOf M' k s = c) (ho : ∀ k' s, k' ≠ k → SH[k']? = some s → cellOf M' k' s = cellOf M k' s) : (cells M).set k c = cells M' := by
  apply List.ext_getElem?
  intro j
  by_cases hj : j = k
  · subst hj
    cases hs : SH[j]? with
    | none =>
      have h1 : SH.length ≤ j := by simpa using hs
      rw [List.getElem?_eq_none (by simp [cells]; exact h1), List.getElem?_eq_none (by simp [cells]; exact h1)]
    | some s =>
      have hl : j < (cells M).length := by simp [cells]; exact (List.getElem?_eq_some_iff.mp hs).1
      rw [List.getElem?_set_self hl, cells_get hs, h s hs]
  · rw [List.getElem?_set_ne (Ne.symm hj)]
    cases hs : SH[j]? with
    | none =>
      have h1 : SH.length ≤ j := by simpa using hs
      rw [List.getElem?_eq_none (by simp [cells]; exact h1), List.getElem?_eq_none (by simp [cells]; exact h1)]
    | some s => rw [cells_get hs, cells_get hs, ho j s hj hs]
theorem cellOf_sA {M : mm} {k k' : Nat} {f : Nat → Int32} (s : shp) (h : k' ≠ k) : cellOf (sA M k f) k' s = cellOf M k' s := by
  rcases s with ⟨ty, n⟩ | ⟨ci, fks⟩
  · simp [cellOf, sA, h]
  · simp only [cellOf]
    congr 3
    funext j fk
    match fk with
    | 0 => simp [fval, sA, h]
    | 1 => simp [fval, sA]
    | n + 2 => simp [fval, sA]
theorem cellOf_sL {M : mm} {k k' : Nat} {f : Nat → Int64} (s : shp) (h : k' ≠ k) : cellOf (sL M k f) k' s = cellOf M k' s := by
  rcases s with ⟨ty, n⟩ | ⟨ci, fks⟩
  · simp [cellOf, sL, h]
  · simp only [cellOf]
    congr 3
    funext j fk
    match fk with
    | 0 => simp [fval, sL]
    | 1 => simp [fval, sL, h]
    | n + 2 => simp [fval, sL]
theorem cells_arr {M : mm} {k ty n : Nat} {f : Nat → Int32} (hs : SH[k]? = some (.inl (ty, n))) (h1 : ty ≠ 1) (h4 : ty ≠ 4) : (cells M).set k (.inl (ty, n, .inl f)) = cells (sA M k f) := by
  refine cells_set (fun s h => ?_) (fun k' s hk _ => cellOf_sA s hk)
  rw [hs] at h
  cases h
  simp [cellOf, sA, h1, h4]
theorem cells_arrL {M : mm} {k n : Nat} {f : Nat → Int64} (hs : SH[k]? = some (.inl (1, n))) : (cells M).set k (.inl (1, n, .inr (.inl f))) = cells (sL M k f) := by
  refine cells_set (fun s h => ?_) (fun k' s hk _ => cellOf_sL s hk)
  rw [hs] at h
  cases h
  simp [cellOf, sL]
theorem cells_fld {M : mm} {k ci j : Nat} {fks : List Nat} {v : Int32} (hs : SH[k]? = some (.inr (ci, fks))) (hj : fks[j]? = some 0) : (cells M).set k (.inr (ci, (fks.mapIdx (fun j fk => fval M k j fk)).set j (.int v))) = cells (sA M k (upd (M.1 k) j v)) := by
  refine cells_set (fun s h => ?_) (fun k' s hk _ => cellOf_sA s hk)
  rw [hs] at h
  cases h
  simp only [cellOf]
  congr 2
  apply List.ext_getElem?
  intro i
  by_cases hi : i = j
  · subst hi
    rw [List.getElem?_set_self (by simpa using (List.getElem?_eq_some_iff.mp hj).1), List.getElem?_mapIdx, hj]
    simp [fval, sA, upd]
  · rw [List.getElem?_set_ne (Ne.symm hi), List.getElem?_mapIdx, List.getElem?_mapIdx]
    cases fks[i]? with
    | none => rfl
    | some fk =>
      match fk with
      | 0 => simp [fval, sA, upd, hi]
      | 1 => simp [fval, sA]
      | n + 2 => simp [fval, sA]
theorem cells_fldL {M : mm} {k ci j : Nat} {fks : List Nat} {v : Int64} (hs : SH[k]? = some (.inr (ci, fks))) (hj : fks[j]? = some 1) : (cells M).set k (.inr (ci, (fks.mapIdx (fun j fk => fval M k j fk)).set j (.long v))) = cells (sL M k (vp_updL (M.2.1 k) j v)) := by
  refine cells_set (fun s h => ?_) (fun k' s hk _ => cellOf_sL s hk)
  rw [hs] at h
  cases h
  simp only [cellOf]
  congr 2
  apply List.ext_getElem?
  intro i
  by_cases hi : i = j
  · subst hi
    rw [List.getElem?_set_self (by simpa using (List.getElem?_eq_some_iff.mp hj).1), List.getElem?_mapIdx, hj]
    simp [fval, sL, vp_updL]
  · rw [List.getElem?_set_ne (Ne.symm hi), List.getElem?_mapIdx, List.getElem?_mapIdx]
    cases fks[i]? with
    | none => rfl
    | some fk =>
      match fk with
      | 0 => simp [fval, sL]
      | 1 => simp [fval, sL, vp_updL, hi]
      | n + 2 => simp [fval, sL]
/-- the field that holds the i-th reference that changes is one alone -/
def uq (i k j : Nat) : Bool := (List.range SH.length).all fun k' => match SH[k']? with
  | some (.inr (_, fks)) => (List.range fks.length).all fun j' => (fks[j']? != some (i + 2)) || (k' == k && j' == j)
  | _ => true
theorem cells_fldR {M : mm} {k ci j i r : Nat} {fks : List Nat} (hs : SH[k]? = some (.inr (ci, fks))) (hj : fks[j]? = some (i + 2)) (hi8 : i < 8) (hu : uq i k j = true) : (cells M).set k (.inr (ci, (fks.mapIdx (fun j fk => fval M k j fk)).set j (.ref r))) = cells (sR M i r) := by
  have key : ∀ (k' j' : Nat) (ci' : Nat) (fks' : List Nat), SH[k']? = some (.inr (ci', fks')) → fks'[j']? = some (i + 2) → k' = k ∧ j' = j := by
    intro k' j' ci' fks' h1 h2
    unfold uq at hu
    have h3 := List.all_eq_true.mp hu k' (List.mem_range.mpr (List.getElem?_eq_some_iff.mp h1).1)
    simp only [h1] at h3
    have h4 := List.all_eq_true.mp h3 j' (List.mem_range.mpr (List.getElem?_eq_some_iff.mp h2).1)
    simp only [h2] at h4
    simpa using h4
  have oth : ∀ (k' j' fk : Nat), (fk = i + 2 → False) → fval (sR M i r) k' j' fk = fval M k' j' fk := by
    intro k' j' fk h
    match fk, h with
    | 0, _ => rfl
    | 1, _ => rfl
    | n + 2, h =>
      have hn : n ≠ i := fun q => h (by omega)
      simp [fval, sR, hn]
  refine cells_set (fun s h => ?_) (fun k' s hk h => ?_)
  · rw [hs] at h
    cases h
    simp only [cellOf]
    congr 2
    apply List.ext_getElem?
    intro q
    by_cases hq : q = j
    · subst hq
      rw [List.getElem?_set_self (by simpa using (List.getElem?_eq_some_iff.mp hj).1), List.getElem?_mapIdx, hj]
      simp [fval, sR, hi8]
    · rw [List.getElem?_set_ne (Ne.symm hq), List.getElem?_mapIdx, List.getElem?_mapIdx]
      cases hf : fks[q]? with
      | none => rfl
      | some fk =>
        simp only [Option.map_some, Option.some.injEq]
        exact oth k q fk (fun z => hq (key k q ci fks hs (by rw [hf, z])).2)
  · rcases s with ⟨ty, n⟩ | ⟨ci', fks'⟩
    · simp [cellOf, sR]
    · simp only [cellOf]
      congr 2
      apply List.ext_getElem?
      intro q
      rw [List.getElem?_mapIdx, List.getElem?_mapIdx]
      cases hf : fks'[q]? with
      | none => rfl
      | some fk =>
        simp only [Option.map_some, Option.some.injEq]
        exact oth k' q fk (fun z => hk (key k' q ci' fks' h (by rw [hf, z])).1)
/-- is cell k an object of class ci; an array of kind ty; its length; the cell in its field j -/
def isO (ci k : Nat) : Bool := match SH[k]? with
  | some (.inr (c, _)) => c == ci
  | _ => false
def isA (ty k : Nat) : Bool := match SH[k]? with
  | some (.inl (t, _)) => t == ty
  | _ => false
def alN (k : Nat) : Nat := match SH[k]? with
  | some (.inl (_, n)) => n
  | _ => 0
def rf (k j : Nat) : Nat := match SH[k]? with
  | some (.inr (_, fks)) => fks.getD j 0 - 10
  | _ => 0
theorem isO_spec {ci k : Nat} (h : isO ci k = true) : ∃ fks, SH[k]? = some (.inr (ci, fks)) := by
  unfold isO at h
  split at h
  · next c fks hs => exact ⟨fks, by rw [hs, beq_iff_eq.mp h]⟩
  · cases h
theorem isA_spec {ty k : Nat} (h : isA ty k = true) : SH[k]? = some (.inl (ty, alN k)) := by
  unfold isA at h
  split at h
  · next t n hs => unfold alN; rw [hs, ← beq_iff_eq.mp h]
  · cases h
def clsig : Nat → List Nat
  | 0 => [0, 0, 10, 10, 0, 0]
  | 1 => [0, 0, 10, 10, 10, 10]
  | 2 => [10, 10, 10, 0]
  | 3 => [0, 0, 0, 0, 0, 10, 10, 10, 10, 10, 10, 10]
  | 4 => [10, 10, 0, 0, 0, 0, 0, 0, 0, 0, 1, 3, 4, 10, 10, 10]
  | 5 => [2, 0, 0, 10]
  | 6 => [0, 0, 0, 0, 10]
  | 7 => [0, 10, 10]
  | 8 => [0, 10, 10, 10, 10, 10]
  | 9 => [0, 0, 10, 10, 10, 10, 10, 10, 10, 10, 10, 10]
  | 10 => [10, 10, 10, 10, 10, 10, 10, 10, 10, 10, 0, 0, 0]
  | 11 => [10, 10, 10, 10, 0, 0, 0, 0, 10, 10, 10, 10, 10, 10, 10, 10, 10, 10, 10, 0, 0, 0, 0, 10, 0, 10, 0, 0, 0, 0, 0, 0, 10, 10, 10, 10, 10, 0, 0, 0, 0, 0, 10, 0, 0, 10, 10, 10, 10, 10, 0, 0, 0, 0, 10, 10, 0, 0, 0, 10, 10, 10, 10]
  | _ => []
def sigok : Bool := (List.range SH.length).all fun k => match SH[k]? with
  | some (.inr (ci, fks)) => (fks.map fun f => if f < 10 then f else 10) == clsig ci
  | _ => true
theorem sigok_t : sigok = true := by decide +kernel
theorem sig_at {ci k j v : Nat} {fks : List Nat} (hs : SH[k]? = some (.inr (ci, fks))) (hj : (clsig ci)[j]? = some v) : ∃ f, fks[j]? = some f ∧ (if f < 10 then f else 10) = v := by
  have h3 := List.all_eq_true.mp sigok_t k (List.mem_range.mpr (List.getElem?_eq_some_iff.mp hs).1)
  simp only [hs] at h3
  have h4 := beq_iff_eq.mp h3
  rw [← h4, List.getElem?_map] at hj
  cases hf : fks[j]? with
  | none => rw [hf] at hj; cases hj
  | some f => rw [hf] at hj; exact ⟨f, rfl, Option.some.inj hj⟩
theorem sig_lt {ci k j v : Nat} {fks : List Nat} (hs : SH[k]? = some (.inr (ci, fks))) (hj : (clsig ci)[j]? = some v) (hv : v < 10) : fks[j]? = some v := by
  obtain ⟨f, h1, h2⟩ := sig_at hs hj
  split at h2
  · rw [h1, h2]
  · omega
theorem sig_ref {ci k j : Nat} {fks : List Nat} (hs : SH[k]? = some (.inr (ci, fks))) (hj : (clsig ci)[j]? = some 10) : ∃ n, fks[j]? = some (n + 2) ∧ ¬ n < 8 ∧ n - 8 = rf k j := by
  obtain ⟨f, h1, h2⟩ := sig_at hs hj
  have hf : 10 ≤ f := by split at h2 <;> omega
  refine ⟨f - 2, by rw [h1]; congr 1; omega, by omega, ?_⟩
  unfold rf
  rw [hs]
  simp only [List.getD_eq_getElem?_getD, h1, Option.getD_some]
  omega
/-- what the tables say of a class -/
def CI (ci : Nat) (C : String) (T : u_T) (N : Nat) (ty0 : Nat → FieldType) : Prop := (∀ w ∈ u_ws C T N, w ∈ lw_W) ∧ vwCl[ci]? = some (C, T, N) ∧ (∀ k, k < N → parseFieldDescriptor (T k).2.2.1 = some (ty0 k)) ∧ (∀ a, a < N → ∀ b, b < N → a ≠ b → (T a).2.1 ≠ (T b).2.1)
theorem ciX0 : CI 0 RX0 TX0 6 tyX0 := ⟨inX0, rfl, tyX0_ok, nmX0⟩
theorem ciX1 : CI 1 RX1 TX1 6 tyX1 := ⟨inX1, rfl, tyX1_ok, nmX1⟩
theorem ciX2 : CI 2 RX2 TX2 4 tyX2 := ⟨inX2, rfl, tyX2_ok, nmX2⟩
theorem ciX3 : CI 3 RX3 TX3 12 tyX3 := ⟨inX3, rfl, tyX3_ok, nmX3⟩
theorem ciX4 : CI 4 RX4 TX4 16 tyX4 := ⟨inX4, rfl, tyX4_ok, nmX4⟩
theorem ciX5 : CI 5 RX5 TX5 4 tyX5 := ⟨inX5, rfl, tyX5_ok, nmX5⟩
theorem ciX6 : CI 6 RX6 TX6 5 tyX6 := ⟨inX6, rfl, tyX6_ok, nmX6⟩
theorem ciX7 : CI 7 RX7 TX7 3 tyX7 := ⟨inX7, rfl, tyX7_ok, nmX7⟩
theorem ciX8 : CI 8 RX8 TX8 6 tyX8 := ⟨inX8, rfl, tyX8_ok, nmX8⟩
theorem ciX9 : CI 9 RX9 TX9 12 tyX9 := ⟨inX9, rfl, tyX9_ok, nmX9⟩
theorem ciX10 : CI 10 RX10 TX10 13 tyX10 := ⟨inX10, rfl, tyX10_ok, nmX10⟩
theorem ciX11 : CI 11 RX11 TX11 63 tyX11 := ⟨inX11, rfl, tyX11_ok, nmX11⟩
theorem m_getI {g : gx} {cc : ByteArray} {own : String} {d : Nat} (hg : EC g cc own d) {cs : Nat × Nat} {pc : Nat} {ls : List (Option Value)} {st : List Value} {M : mm} {C : String} {T : u_T} {N ci idx k0 : Nat} {ty0 : Nat → FieldType} (hc : CI ci C T N ty0) (j : Nat) (hw : Cond.fieldLink own idx (T j).1 (T j).2.1 (T j).2.2.1 ∈ lw_W) (hd : decode cc pc = .ok (.getfield idx, 3)) (ho : isO ci k0 = true) (hj : j < N) (hs : (clsig ci)[j]? = some 0) (k : E g cs (pc + 3) ls (.int (M.1 k0 j) :: st) (cells M)) : E g cs pc ls (.ref k0 :: st) (cells M) := by
  obtain ⟨fks, h⟩ := isO_spec ho
  exact e_getf hg hc.1 hc.2.1 j hw hd (cells_get h) (by rw [List.getElem?_mapIdx, sig_lt h hs (by decide)]; rfl) hj k

theorem m_getJ {g : gx} {cc : ByteArray} {own : String} {d : Nat} (hg : EC g cc own d) {cs : Nat × Nat} {pc : Nat} {ls : List (Option Value)} {st : List Value} {M : mm} {C : String} {T : u_T} {N ci idx k0 : Nat} {ty0 : Nat → FieldType} (hc : CI ci C T N ty0) (j : Nat) (hw : Cond.fieldLink own idx (T j).1 (T j).2.1 (T j).2.2.1 ∈ lw_W) (hd : decode cc pc = .ok (.getfield idx, 3)) (ho : isO ci k0 = true) (hj : j < N) (hs : (clsig ci)[j]? = some 1) (k : E g cs (pc + 3) ls (.long (M.2.1 k0 j) :: st) (cells M)) : E g cs pc ls (.ref k0 :: st) (cells M) := by
  obtain ⟨fks, h⟩ := isO_spec ho
  exact e_getf hg hc.1 hc.2.1 j hw hd (cells_get h) (by rw [List.getElem?_mapIdx, sig_lt h hs (by decide)]; rfl) hj k

theorem m_getR {g : gx} {cc : ByteArray} {own : String} {d : Nat} (hg : EC g cc own d) {cs : Nat × Nat} {pc : Nat} {ls : List (Option Value)} {st : List Value} {M : mm} {C : String} {T : u_T} {N ci idx k0 : Nat} {ty0 : Nat → FieldType} (hc : CI ci C T N ty0) (j : Nat) (hw : Cond.fieldLink own idx (T j).1 (T j).2.1 (T j).2.2.1 ∈ lw_W) (hd : decode cc pc = .ok (.getfield idx, 3)) (ho : isO ci k0 = true) (hj : j < N) {q : Nat} (hs : (clsig ci)[j]? = some 10) (hq : rf k0 j = q) (k : E g cs (pc + 3) ls (.ref q :: st) (cells M)) : E g cs pc ls (.ref k0 :: st) (cells M) := by
  obtain ⟨fks, h⟩ := isO_spec ho
  obtain ⟨n, h1, h2, h3⟩ := sig_ref h hs
  exact e_getf hg hc.1 hc.2.1 j hw hd (cells_get h) (by rw [List.getElem?_mapIdx, h1]; simp [fval, h2, h3, hq]) hj k

theorem m_getV {g : gx} {cc : ByteArray} {own : String} {d : Nat} (hg : EC g cc own d) {cs : Nat × Nat} {pc : Nat} {ls : List (Option Value)} {st : List Value} {M : mm} {C : String} {T : u_T} {N ci idx k0 : Nat} {ty0 : Nat → FieldType} (hc : CI ci C T N ty0) (j : Nat) (hw : Cond.fieldLink own idx (T j).1 (T j).2.1 (T j).2.2.1 ∈ lw_W) (hd : decode cc pc = .ok (.getfield idx, 3)) (ho : isO ci k0 = true) (hj : j < N) {i : Nat} (hs : (clsig ci)[j]? = some (i + 2)) (hi : i < 8) (k : E g cs (pc + 3) ls (.ref (M.2.2 i) :: st) (cells M)) : E g cs pc ls (.ref k0 :: st) (cells M) := by
  obtain ⟨fks, h⟩ := isO_spec ho
  exact e_getf hg hc.1 hc.2.1 j hw hd (cells_get h) (by rw [List.getElem?_mapIdx, sig_lt h hs (by omega)]; simp [fval, hi]) hj k

theorem m_putI {g : gx} {cc : ByteArray} {own : String} {d : Nat} (hg : EC g cc own d) {cs : Nat × Nat} {pc : Nat} {ls : List (Option Value)} {st : List Value} {M : mm} {C : String} {T : u_T} {N ci idx k0 : Nat} {ty0 : Nat → FieldType} (hc : CI ci C T N ty0) (j : Nat) (hw : Cond.fieldLink own idx (T j).1 (T j).2.1 (T j).2.2.1 ∈ lw_W) {v : Int32} (hd : decode cc pc = .ok (.putfield idx, 3)) (ho : isO ci k0 = true) (hj : j < N) (hfin : (T j).2.2.2 = false) (hs : (clsig ci)[j]? = some 0) (hn : narrow (ty0 j) (.int v) = .int v) (hfi : fits (ty0 j) (.int v) = true) (k : E g cs (pc + 3) ls st (cells (sA M k0 (upd (M.1 k0) j v)))) : E g cs pc ls (.int v :: .ref k0 :: st) (cells M) := by
  obtain ⟨fks, h⟩ := isO_spec ho
  have hf := sig_lt h hs (by decide)
  refine e_putf hg hc.1 hc.2.2.1 hc.2.2.2 hc.2.1 j hw hd (cells_get h) hj (by simpa using (List.getElem?_eq_some_iff.mp hf).1) hfin (fun _ => hn) (fun _ => hfi) ?_
  rw [cells_fld h hf]
  exact k

theorem m_putJ {g : gx} {cc : ByteArray} {own : String} {d : Nat} (hg : EC g cc own d) {cs : Nat × Nat} {pc : Nat} {ls : List (Option Value)} {st : List Value} {M : mm} {C : String} {T : u_T} {N ci idx k0 : Nat} {ty0 : Nat → FieldType} (hc : CI ci C T N ty0) (j : Nat) (hw : Cond.fieldLink own idx (T j).1 (T j).2.1 (T j).2.2.1 ∈ lw_W) {v : Int64} (hd : decode cc pc = .ok (.putfield idx, 3)) (ho : isO ci k0 = true) (hj : j < N) (hfin : (T j).2.2.2 = false) (hs : (clsig ci)[j]? = some 1) (hn : narrow (ty0 j) (.long v) = .long v) (hfi : fits (ty0 j) (.long v) = true) (k : E g cs (pc + 3) ls st (cells (sL M k0 (vp_updL (M.2.1 k0) j v)))) : E g cs pc ls (.long v :: .ref k0 :: st) (cells M) := by
  obtain ⟨fks, h⟩ := isO_spec ho
  have hf := sig_lt h hs (by decide)
  refine e_putf hg hc.1 hc.2.2.1 hc.2.2.2 hc.2.1 j hw hd (cells_get h) hj (by simpa using (List.getElem?_eq_some_iff.mp hf).1) hfin (fun _ => hn) (fun _ => hfi) ?_
  rw [cells_fldL h hf]
  exact k

theorem m_putV {g : gx} {cc : ByteArray} {own : String} {d : Nat} (hg : EC g cc own d) {cs : Nat × Nat} {pc : Nat} {ls : List (Option Value)} {st : List Value} {M : mm} {C : String} {T : u_T} {N ci idx k0 : Nat} {ty0 : Nat → FieldType} (hc : CI ci C T N ty0) (j : Nat) (hw : Cond.fieldLink own idx (T j).1 (T j).2.1 (T j).2.2.1 ∈ lw_W) {v i : Nat} (hd : decode cc pc = .ok (.putfield idx, 3)) (ho : isO ci k0 = true) (hj : j < N) (hfin : (T j).2.2.2 = false) (hs : (clsig ci)[j]? = some (i + 2)) (hi : i < 8) (hu : uq i k0 j = true) (hn : ∀ a : Nat, narrow (ty0 j) (.ref a) = .ref a) (hfi : ∀ a : Nat, fits (ty0 j) (.ref a) = true) (k : E g cs (pc + 3) ls st (cells (sR M i v))) : E g cs pc ls (.ref v :: .ref k0 :: st) (cells M) := by
  obtain ⟨fks, h⟩ := isO_spec ho
  have hf := sig_lt h hs (by omega)
  refine e_putf hg hc.1 hc.2.2.1 hc.2.2.2 hc.2.1 j hw hd (cells_get h) hj (by simpa using (List.getElem?_eq_some_iff.mp hf).1) hfin (fun ad => hn _) (fun ad => hfi _) ?_
  rw [cells_fldR h hf hi hu]
  exact k

theorem m_iald {g : gx} {cc : ByteArray} {own : String} {d : Nat} (hg : EC g cc own d) {cs : Nat × Nat} {pc : Nat} {ls : List (Option Value)} {st : List Value} {M : mm} {k0 n : Nat} {i : Int32} (hs : SH[k0]? = some (.inl (0, n))) (hi : inb i n = true) (hd : decode cc pc = .ok (.iaload, 1)) (k : E g cs (pc + 1) ls (.int (M.1 k0 i.toNatClampNeg) :: st) (cells M)) : E g cs pc ls (.int i :: .ref k0 :: st) (cells M) := by
  exact e_iald hg (cells_get hs) hi hd k

theorem m_lald {g : gx} {cc : ByteArray} {own : String} {d : Nat} (hg : EC g cc own d) {cs : Nat × Nat} {pc : Nat} {ls : List (Option Value)} {st : List Value} {M : mm} {k0 n : Nat} {i : Int32} (hs : SH[k0]? = some (.inl (1, n))) (hi : inb i n = true) (hd : decode cc pc = .ok (.laload, 1)) (k : E g cs (pc + 1) ls (.long (M.2.1 k0 i.toNatClampNeg) :: st) (cells M)) : E g cs pc ls (.int i :: .ref k0 :: st) (cells M) := by
  exact e_lald hg (cells_get hs) hi hd k

theorem m_bald {g : gx} {cc : ByteArray} {own : String} {d : Nat} (hg : EC g cc own d) {cs : Nat × Nat} {pc : Nat} {ls : List (Option Value)} {st : List Value} {M : mm} {k0 n : Nat} {i : Int32} (hs : SH[k0]? = some (.inl (2, n))) (hi : inb i n = true) (hd : decode cc pc = .ok (.baload, 1)) (k : E g cs (pc + 1) ls (.int (M.1 k0 i.toNatClampNeg) :: st) (cells M)) : E g cs pc ls (.int i :: .ref k0 :: st) (cells M) := by
  exact e_bald hg (cells_get hs) hi hd k

theorem m_zald {g : gx} {cc : ByteArray} {own : String} {d : Nat} (hg : EC g cc own d) {cs : Nat × Nat} {pc : Nat} {ls : List (Option Value)} {st : List Value} {M : mm} {k0 n : Nat} {i : Int32} (hs : SH[k0]? = some (.inl (3, n))) (hi : inb i n = true) (hd : decode cc pc = .ok (.baload, 1)) (k : E g cs (pc + 1) ls (.int (M.1 k0 i.toNatClampNeg) :: st) (cells M)) : E g cs pc ls (.int i :: .ref k0 :: st) (cells M) := by
  exact e_zald hg (cells_get hs) hi hd k

theorem m_iast {g : gx} {cc : ByteArray} {own : String} {d : Nat} (hg : EC g cc own d) {cs : Nat × Nat} {pc : Nat} {ls : List (Option Value)} {st : List Value} {M : mm} {k0 n : Nat} {i : Int32} {x : Int32} (hs : SH[k0]? = some (.inl (0, n))) (hi : inb i n = true) (hd : decode cc pc = .ok (.iastore, 1)) (k : E g cs (pc + 1) ls st (cells (sA M k0 (upd (M.1 k0) i.toNatClampNeg x)))) : E g cs pc ls (.int x :: .int i :: .ref k0 :: st) (cells M) := by
  refine e_iast hg (cells_get hs) hi hd ?_
  rw [cells_arr hs (by decide) (by decide)]
  exact k

theorem m_last {g : gx} {cc : ByteArray} {own : String} {d : Nat} (hg : EC g cc own d) {cs : Nat × Nat} {pc : Nat} {ls : List (Option Value)} {st : List Value} {M : mm} {k0 n : Nat} {i : Int32} {x : Int64} (hs : SH[k0]? = some (.inl (1, n))) (hi : inb i n = true) (hd : decode cc pc = .ok (.lastore, 1)) (k : E g cs (pc + 1) ls st (cells (sL M k0 (vp_updL (M.2.1 k0) i.toNatClampNeg x)))) : E g cs pc ls (.long x :: .int i :: .ref k0 :: st) (cells M) := by
  refine e_last hg (cells_get hs) hi hd ?_
  rw [cells_arrL hs]
  exact k

theorem m_bast {g : gx} {cc : ByteArray} {own : String} {d : Nat} (hg : EC g cc own d) {cs : Nat × Nat} {pc : Nat} {ls : List (Option Value)} {st : List Value} {M : mm} {k0 n : Nat} {i : Int32} {x : Int32} (hs : SH[k0]? = some (.inl (2, n))) (hi : inb i n = true) (hd : decode cc pc = .ok (.bastore, 1)) (k : E g cs (pc + 1) ls st (cells (sA M k0 (upd (M.1 k0) i.toNatClampNeg (vp_nar .byte x))))) : E g cs pc ls (.int x :: .int i :: .ref k0 :: st) (cells M) := by
  refine e_bast hg (cells_get hs) hi hd ?_
  rw [cells_arr hs (by decide) (by decide)]
  exact k

theorem m_zast {g : gx} {cc : ByteArray} {own : String} {d : Nat} (hg : EC g cc own d) {cs : Nat × Nat} {pc : Nat} {ls : List (Option Value)} {st : List Value} {M : mm} {k0 n : Nat} {i : Int32} {x : Int32} (hs : SH[k0]? = some (.inl (3, n))) (hi : inb i n = true) (hd : decode cc pc = .ok (.bastore, 1)) (k : E g cs (pc + 1) ls st (cells (sA M k0 (upd (M.1 k0) i.toNatClampNeg (vp_nar .boolean x))))) : E g cs pc ls (.int x :: .int i :: .ref k0 :: st) (cells M) := by
  refine e_zast hg (cells_get hs) hi hd ?_
  rw [cells_arr hs (by decide) (by decide)]
  exact k

theorem m_aald {g : gx} {cc : ByteArray} {own : String} {d : Nat} (hg : EC g cc own d) {cs : Nat × Nat} {pc : Nat} {ls : List (Option Value)} {st : List Value} {M : mm} {i : Int32} (hi : inb i 6 = true) (hd : decode cc pc = .ok (.aaload, 1)) (k : E g cs (pc + 1) ls (.ref (70 + 2 * i.toNatClampNeg) :: st) (cells M)) : E g cs pc ls (.int i :: .ref 69 :: st) (cells M) := by
  have hlt : i.toNatClampNeg < 6 := Nat.not_le.mp fun q => inb_vp hi (Or.inr q)
  refine e_aald hg (cells_get (show SH[69]? = some (.inl (4, 6)) from rfl)) hi hd ?_
  simp only [if_pos hlt, vo]
  exact k

theorem m_alen {g : gx} {cc : ByteArray} {own : String} {d : Nat} (hg : EC g cc own d) {cs : Nat × Nat} {pc : Nat} {ls : List (Option Value)} {st : List Value} {M : mm} {k0 ty n : Nat} {v : Int32} (hs : SH[k0]? = some (.inl (ty, n))) (hty : ty < 5) (hv : Int32.ofNat n = v) (hd : decode cc pc = .ok (.arraylength, 1)) (k : E g cs (pc + 1) ls (.int v :: st) (cells M)) : E g cs pc ls (.ref k0 :: st) (cells M) := by
  exact e_alen hg (cells_get hs) hty hv hd k

theorem m_cpyI {g : gx} {cc : ByteArray} {own : String} {d : Nat} (hg : EC g cc own d) {cs : Nat × Nat} {pc : Nat} {ls : List (Option Value)} {st : List Value} {M : mm} {k0 k1 n0 n1 idx : Nat} {sp dp n : Int32} (hs0 : SH[k0]? = some (.inl (0, n0))) (hs1 : SH[k1]? = some (.inl (0, n1))) (hb : cpok sp dp n n0 n1 = true) (hst : (st.map fun v => v.category).sum ≤ 8) (hR : 1 ≤ d) (hw : Cond.methodLink own idx arraycopyName ∈ lw_W) (hd : decode cc pc = .ok (.invokestatic idx, 3)) (k : E g cs (pc + 3) ls st (cells (sA M k1 (va_cpy (M.1 k0) (M.1 k1) sp.toNatClampNeg dp.toNatClampNeg n.toNatClampNeg)))) : E g cs pc ls (.int n :: .int dp :: .ref k1 :: .int sp :: .ref k0 :: st) (cells M) := by
  refine e_cpyI hg (cells_get hs0) (cells_get hs1) hb hst hR hw hd ?_
  rw [cells_arr hs1 (by decide) (by decide)]
  exact k

theorem m_cpyL {g : gx} {cc : ByteArray} {own : String} {d : Nat} (hg : EC g cc own d) {cs : Nat × Nat} {pc : Nat} {ls : List (Option Value)} {st : List Value} {M : mm} {k0 k1 n0 n1 idx : Nat} {sp dp n : Int32} (hs0 : SH[k0]? = some (.inl (1, n0))) (hs1 : SH[k1]? = some (.inl (1, n1))) (hb : cpok sp dp n n0 n1 = true) (hst : (st.map fun v => v.category).sum ≤ 8) (hR : 1 ≤ d) (hw : Cond.methodLink own idx arraycopyName ∈ lw_W) (hd : decode cc pc = .ok (.invokestatic idx, 3)) (k : E g cs (pc + 3) ls st (cells (sL M k1 (va_cpy (M.2.1 k0) (M.2.1 k1) sp.toNatClampNeg dp.toNatClampNeg n.toNatClampNeg)))) : E g cs pc ls (.int n :: .int dp :: .ref k1 :: .int sp :: .ref k0 :: st) (cells M) := by
  refine e_cpyL hg (cells_get hs0) (cells_get hs1) hb hst hR hw hd ?_
  rw [cells_arrL hs1]
  exact k

theorem e_astoreV {g : gx} {cc : ByteArray} {own : String} {d : Nat} (hg : EC g cc own d) {cs : Nat × Nat} {pc : Nat} {ls : List (Option Value)} {st : List Value} {M : mm} {i : Nat} {x : Option Nat} {ls' : List (Option Value)} (hd : decode cc pc = .ok (.astore i, 2)) (hs : st1 ls i (vo x) = some ls') (k : E g cs (pc + 2) ls' st (cells M)) : E g cs pc ls (vo x :: st) (cells M) := by
  cases x with
  | none => exact e_astore0 hg hd hs k
  | some x => exact e_astore hg hd hs k
theorem e_astore_nV {g : gx} {cc : ByteArray} {own : String} {d : Nat} (hg : EC g cc own d) {cs : Nat × Nat} {pc : Nat} {ls : List (Option Value)} {st : List Value} {M : mm} {i : Fin 4} {x : Option Nat} {ls' : List (Option Value)} (hd : decode cc pc = .ok (.astore_n i, 1)) (hs : st1 ls (i : Nat) (vo x) = some ls') (k : E g cs (pc + 1) ls' st (cells M)) : E g cs pc ls (vo x :: st) (cells M) := by
  cases x with
  | none => exact e_astore0_n hg hd hs k
  | some x => exact e_astore_n hg hd hs k
theorem e_aloadV {g : gx} {cc : ByteArray} {own : String} {d : Nat} (hg : EC g cc own d) {cs : Nat × Nat} {pc : Nat} {ls : List (Option Value)} {st : List Value} {M : mm} {i : Nat} {x : Option Nat} (hd : decode cc pc = .ok (.aload i, 2)) (hx : ls[i]? = some (some (vo x))) (k : E g cs (pc + 2) ls (vo x :: st) (cells M)) : E g cs pc ls st (cells M) := by
  cases x with
  | none => exact e_aload0 hg hd hx k
  | some x => exact e_aload hg hd hx k
theorem e_aload_nV {g : gx} {cc : ByteArray} {own : String} {d : Nat} (hg : EC g cc own d) {cs : Nat × Nat} {pc : Nat} {ls : List (Option Value)} {st : List Value} {M : mm} {i : Fin 4} {x : Option Nat} (hd : decode cc pc = .ok (.aload_n i, 1)) (hx : ls[(i : Nat)]? = some (some (vo x))) (k : E g cs (pc + 1) ls (vo x :: st) (cells M)) : E g cs pc ls st (cells M) := by
  cases x with
  | none => exact e_aload0_n hg hd hx k
  | some x => exact e_aload_n hg hd hx k
theorem m_iret {g : gx} {cc : ByteArray} {own : String} {d : Nat} (hg : EC g cc own d) {pc : Nat} {ls : List (Option Value)} {M : mm} {v : Int32} {r : Int32 × mm} (hr : RT g (some .int) (0, 0) (some (.int r.1)) (cells r.2)) (hd : decode cc pc = .ok (.ireturn, 1)) (h : some (v, M) = some r) : E g (0, 0) pc ls [.int v] (cells M) := by
  cases h
  exact e_iret hg hr hd
theorem m_zret {g : gx} {cc : ByteArray} {own : String} {d : Nat} (hg : EC g cc own d) {pc : Nat} {ls : List (Option Value)} {M : mm} {v : Int32} {r : Int32 × mm} (hr : RT g (some .boolean) (0, 0) (some (.int r.1)) (cells r.2)) (hn : narrow .boolean (.int v) = .int v) (hd : decode cc pc = .ok (.ireturn, 1)) (h : some (v, M) = some r) : E g (0, 0) pc ls [.int v] (cells M) := by
  cases h
  exact e_zret hg hr hn hd
theorem m_lret {g : gx} {cc : ByteArray} {own : String} {d : Nat} (hg : EC g cc own d) {pc : Nat} {ls : List (Option Value)} {M : mm} {v : Int64} {r : Int64 × mm} (hr : RT g (some .long) (0, 0) (some (.long r.1)) (cells r.2)) (hd : decode cc pc = .ok (.lreturn, 1)) (h : some (v, M) = some r) : E g (0, 0) pc ls [.long v] (cells M) := by
  cases h
  exact e_lret hg hr hd
theorem m_vret {g : gx} {cc : ByteArray} {own : String} {d : Nat} (hg : EC g cc own d) {pc : Nat} {ls : List (Option Value)} {M : mm} {r : Unit × mm} (hr : RT g none (0, 0) none (cells r.2)) (hd : decode cc pc = .ok (.return_, 1)) (h : some ((), M) = some r) : E g (0, 0) pc ls [] (cells M) := by
  cases h
  exact e_vret hg hr hd
theorem m_aret {g : gx} {cc : ByteArray} {own : String} {d : Nat} (hg : EC g cc own d) {pc : Nat} {ls : List (Option Value)} {M : mm} {v : Option Nat} {rt : FieldType} (hrt : (∃ n, rt = .object n) ∨ ∃ t, rt = .array t) {r : Option Nat × mm} (hr : RT g (some rt) (0, 0) (some (vo r.1)) (cells r.2)) (hd : decode cc pc = .ok (.areturn, 1)) (h : some (v, M) = some r) : E g (0, 0) pc ls [vo v] (cells M) := by
  cases h
  exact e_aret hg hrt hr hd
/-! the words of the lifted methods -/
def gd {β : Type} (b : Bool) (x : Option β) : Option β := match b with
  | true => x
  | false => none
def bd {α β : Type} (x : Option (α × mm)) (k : α → mm → Option β) : Option β := match x with
  | none => none
  | some q => k q.1 q.2
def lt_ {α β : Type} (x : α) (k : α → β) : β := k x
def opt {β : Type} (x : Option Nat) (a : β) (f : Nat → β) : β := match x with
  | none => a
  | some k => f k
theorem o_gd {β : Type} {b : Bool} {x : Option β} {r : β} (h : gd b x = some r) : b = true ∧ x = some r := by
  cases b with
  | true => exact ⟨rfl, h⟩
  | false => cases h
theorem o_bd {α β : Type} {x : Option (α × mm)} {k : α → mm → Option β} {r : β} (h : bd x k = some r) : ∃ v M, x = some (v, M) ∧ k v M = some r := by
  cases x with
  | none => cases h
  | some q => exact ⟨q.1, q.2, rfl, h⟩
theorem o_lt {α β : Type} {x : α} {k : α → Option β} {r : β} (h : lt_ x k = some r) : ∃ y, y = x ∧ k y = some r := ⟨x, rfl, h⟩
theorem o_pos {β : Type} {c : Prop} {dc : Decidable c} {x y r : β} (hc : c) (h : @ite β c dc x y = r) : x = r := by rwa [if_pos hc] at h
theorem o_neg {β : Type} {c : Prop} {dc : Decidable c} {x y r : β} (hc : ¬ c) (h : @ite β c dc x y = r) : y = r := by rwa [if_neg hc] at h
theorem o_no {β : Type} {p : Prop} {r : β} (h : none = some r) : p := by cases h
