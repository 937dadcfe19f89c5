/-! ===== the small machine: cells by number, a frame E over them; each row of the kit once more over E ===== -/
/-- a cell: an array (kind of array, length, contents) or an object (class, fields); references are numbers of cells; 1000000, 1000001: the two tables of LastMender.Acts; 1000002: the script -/
abbrev rc : Type := (Nat × Nat × ((Nat → Int32) ⊕ (Nat → Int64) ⊕ (Nat → Option Nat))) ⊕ (Nat × List Value)
def tyOf : Nat → FieldType
  | 0 => .int
  | 1 => .long
  | 2 => .byte
  | 3 => .boolean
  | _ => .object "LastMender$Shelf"
def tysOf (tc : Nat → ClassId) : List (ClassId × FieldType) := [(tc 0, .int), (tc 1, .long), (tc 2, .byte), (tc 3, .boolean), (tc 4, .object "LastMender$Shelf")]
def tr (ad : Nat → Nat) : Value → Value
  | .ref k => .ref (ad k)
  | .int v => .int v
  | .long v => .long v
  | .float v => .float v
  | .double v => .double v
  | .null => .null
  | .retAddr v => .retAddr v
theorem tr_cat (ad : Nat → Nat) (v : Value) : (tr ad v).category = v.category := by cases v <;> rfl
def trc (ad : Nat → Nat) (tc : Nat → ClassId) : rc → va_E
  | .inl (ty, n, .inl f) => .inl (tc ty, n, .inl f)
  | .inl (ty, n, .inr (.inl f)) => .inl (tc ty, n, .inr (.inl f))
  | .inl (ty, n, .inr (.inr f)) => .inl (tc ty, n, .inr (.inr (.inr (.inr (fun j => if j < n then (f j).map ad else none)))))
  | .inr (ci, fs) => .inr (ci, fs.map (tr ad))
def lift (ad : Nat → Nat) (tc : Nat → ClassId) (ws : List rc) : va_W := ws.mapIdx (fun k c => (ad k, trc ad tc c))
theorem lift_get {ad : Nat → Nat} {tc : Nat → ClassId} {ws : List rc} {k : Nat} {c : rc} (h : ws[k]? = some c) : (lift ad tc ws)[k]? = some (ad k, trc ad tc c) := by
  simp [lift, List.getElem?_mapIdx, h]
theorem lift_set {ad : Nat → Nat} {tc : Nat → ClassId} {ws : List rc} {k : Nat} {c : rc} : (lift ad tc ws).set k (ad k, trc ad tc c) = lift ad tc (ws.set k c) := by
  simp [lift, List.mapIdx_set]
theorem lift_len {ad : Nat → Nat} {tc : Nat → ClassId} {ws : List rc} : (lift ad tc ws).length = ws.length := by simp [lift]
/-- the locals -/
def ml (la : Array Slot) (nL : Nat) (ad : Nat → Nat) (ls : List (Option Value)) : Prop := la.size = nL ∧ ls.length = nL ∧ lv_wf la ∧ ∀ (i : Nat) (v : Value), ls[i]? = some (some v) → la[i]? = some (.val (tr ad v))
def asc (ad : Nat → Nat) (ls : List (Option Value)) : List (Nat × Value) := (List.range ls.length).filterMap (fun i => match ls[i]? with | some (some v) => some (i, tr ad v) | _ => none)
theorem asc_mem {ad : Nat → Nat} {ls : List (Option Value)} {q : Nat × Value} : q ∈ asc ad ls ↔ ∃ v, ls[q.1]? = some (some v) ∧ q.2 = tr ad v := by
  obtain ⟨i, w⟩ := q
  constructor
  · intro h
    obtain ⟨j, -, hj⟩ := List.mem_filterMap.mp h
    split at hj
    · next v hv => cases hj; exact ⟨v, hv, rfl⟩
    · cases hj
  · rintro ⟨v, hv, rfl⟩
    refine List.mem_filterMap.mpr ⟨i, ?_, ?_⟩
    · exact List.mem_range.mpr (List.getElem?_eq_some_iff.mp hv).1
    · simp only at hv
      simp only [hv]
theorem ml_has {la : Array Slot} {nL : Nat} {ad : Nat → Nat} {ls : List (Option Value)} (h : ml la nL ad ls) : lv_has la nL (asc ad ls) := ⟨h.1, h.2.2.1, fun q hq => by
  obtain ⟨v, h1, h2⟩ := asc_mem.mp hq
  rw [h2]
  exact h.2.2.2 _ _ h1⟩
def kl2 (ls : List (Option Value)) (j : Nat) : List (Option Value) := match ls[j]? with
  | some (some v) => if v.category = 2 then ls.set j none else ls
  | _ => ls
def kl (ls : List (Option Value)) : Nat → List (Option Value)
  | 0 => ls
  | j + 1 => kl2 ls j
theorem kl_len (ls : List (Option Value)) (i : Nat) : (kl ls i).length = ls.length := by
  cases i with
  | zero => rfl
  | succ j =>
    show (kl2 ls j).length = _
    unfold kl2
    split
    · split <;> simp
    · rfl
theorem kl_get {ls : List (Option Value)} {i k : Nat} {v : Value} (h : (kl ls i)[k]? = some (some v)) : ls[k]? = some (some v) ∧ ¬ (k + 1 = i ∧ v.category = 2) := by
  cases i with
  | zero => exact ⟨h, by omega⟩
  | succ j =>
    replace h : (kl2 ls j)[k]? = some (some v) := h
    unfold kl2 at h
    by_cases hkj : k = j
    · subst hkj
      split at h
      · next w hw =>
        split at h
        · next hc =>
          exfalso
          have hl := (List.getElem?_eq_some_iff.mp hw).1
          rw [List.getElem?_set_self hl] at h
          cases h
        · next hc =>
          rw [hw] at h
          cases h
          exact ⟨hw, fun q => hc q.2⟩
      · next hn => exact absurd h (hn v)
    · refine ⟨?_, by omega⟩
      split at h
      · split at h
        · rwa [List.getElem?_set_ne (Ne.symm hkj)] at h
        · exact h
      · exact h
def st1 (ls : List (Option Value)) (i : Nat) (v : Value) : Option (List (Option Value)) := if i < ls.length then some ((kl ls i).set i (some v)) else none
def st2 (ls : List (Option Value)) (i : Nat) (v : Value) : Option (List (Option Value)) := if i + 1 < ls.length then some (((kl ls i).set i (some v)).set (i + 1) none) else none
theorem st1_lt {ls ls' : List (Option Value)} {i : Nat} {v : Value} (h : st1 ls i v = some ls') : i < ls.length ∧ ls' = (kl ls i).set i (some v) := by
  unfold st1 at h
  split at h
  · next hl => exact ⟨hl, (Option.some.inj h).symm⟩
  · cases h
theorem st2_lt {ls ls' : List (Option Value)} {i : Nat} {v : Value} (h : st2 ls i v = some ls') : i + 1 < ls.length ∧ ls' = ((kl ls i).set i (some v)).set (i + 1) none := by
  unfold st2 at h
  split at h
  · next hl => exact ⟨hl, (Option.some.inj h).symm⟩
  · cases h
theorem ml_st1 {la la' : Array Slot} {nL i : Nat} {ad : Nat → Nat} {ls ls' : List (Option Value)} {v : Value} (h : ml la nL ad ls) (hs : st1 ls i v = some ls')
    (h' : lv_has la' nL ((i, tr ad v) :: (asc ad ls).filter (fun q => !(q.1 == i) && !(q.1 + 1 == i && q.2.category == 2)))) : ml la' nL ad ls' := by
  obtain ⟨hl, rfl⟩ := st1_lt hs
  refine ⟨h'.1, by simp [kl_len, h.2.1], h'.2.1, fun k w hk => ?_⟩
  by_cases hki : k = i
  · subst hki
    rw [List.getElem?_set_self (by rw [kl_len]; exact hl)] at hk
    cases hk
    exact h'.2.2 _ List.mem_cons_self
  · rw [List.getElem?_set_ne (Ne.symm hki)] at hk
    obtain ⟨h1, h2⟩ := kl_get hk
    refine h'.2.2 (k, tr ad w) (List.mem_cons_of_mem _ (List.mem_filter.mpr ⟨asc_mem.mpr ⟨w, h1, rfl⟩, ?_⟩))
    simp only [Bool.and_eq_true, Bool.not_eq_true', beq_eq_false_iff_ne, ne_eq, Bool.and_eq_false_iff, tr_cat]
    refine ⟨hki, ?_⟩
    by_cases hq : k + 1 = i
    · exact Or.inr (fun z => h2 ⟨hq, z⟩)
    · exact Or.inl hq
theorem ml_st2 {la la' : Array Slot} {nL i : Nat} {ad : Nat → Nat} {ls ls' : List (Option Value)} {v : Value} (h : ml la nL ad ls) (hs : st2 ls i v = some ls')
    (h' : lv_has la' nL ((i, tr ad v) :: (asc ad ls).filter (fun q => !(q.1 == i) && (!(q.1 == i + 1) && !(q.1 + 1 == i && q.2.category == 2))))) : ml la' nL ad ls' := by
  obtain ⟨hl, rfl⟩ := st2_lt hs
  refine ⟨h'.1, by simp [kl_len, h.2.1], h'.2.1, fun k w hk => ?_⟩
  by_cases hk1 : k = i + 1
  · subst hk1
    rw [List.getElem?_set_self (by simp only [List.length_set, kl_len]; exact hl)] at hk
    cases hk
  · rw [List.getElem?_set_ne (Ne.symm hk1)] at hk
    by_cases hki : k = i
    · subst hki
      rw [List.getElem?_set_self (by rw [kl_len]; omega)] at hk
      cases hk
      exact h'.2.2 _ List.mem_cons_self
    · rw [List.getElem?_set_ne (Ne.symm hki)] at hk
      obtain ⟨h1, h2⟩ := kl_get hk
      refine h'.2.2 (k, tr ad w) (List.mem_cons_of_mem _ (List.mem_filter.mpr ⟨asc_mem.mpr ⟨w, h1, rfl⟩, ?_⟩))
      simp only [Bool.and_eq_true, Bool.not_eq_true', beq_eq_false_iff_ne, ne_eq, Bool.and_eq_false_iff, tr_cat]
      refine ⟨hki, hk1, ?_⟩
      by_cases hq : k + 1 = i
      · exact Or.inr (fun z => h2 ⟨hq, z⟩)
      · exact Or.inl hq
def argE : List Value → List (Option Value)
  | [] => []
  | v :: r => if v.category = 2 then some v :: none :: argE r else some v :: argE r
theorem argE_get (ad : Nat → Nat) : ∀ (a : List Value) (i0 k : Nat) (v : Value), (argE a)[k]? = some (some v) → (i0 + k, tr ad v) ∈ lv_args i0 (a.map (tr ad))
  | [], _, k, v, h => by simp [argE] at h
  | w :: r, i0, k, v, h => by
    unfold argE at h
    show (i0 + k, tr ad v) ∈ (i0, tr ad w) :: lv_args (if (tr ad w).category = 2 then i0 + 2 else i0 + 1) (r.map (tr ad))
    rw [tr_cat]
    split at h
    · next hc =>
      rw [if_pos hc]
      match k, h with
      | 0, h => cases h; exact List.mem_cons_self
      | 1, h => cases h
      | k + 2, h => exact List.mem_cons_of_mem _ (by have := argE_get ad r (i0 + 2) k v h; rwa [show i0 + (k + 2) = i0 + 2 + k by omega])
    · next hc =>
      rw [if_neg hc]
      match k, h with
      | 0, h => cases h; exact List.mem_cons_self
      | k + 1, h => exact List.mem_cons_of_mem _ (by have := argE_get ad r (i0 + 1) k v h; rwa [show i0 + (k + 1) = i0 + 1 + k by omega])
theorem argE_len (ad : Nat → Nat) : ∀ a : List Value, (lg_sl (a.map (tr ad))).length = (argE a).length
  | [] => rfl
  | v :: r => by
    have ih := argE_len ad r
    unfold argE
    simp only [lg_sl, List.map_cons, List.flatMap_cons, tr_cat] at ih ⊢
    split <;> simp [ih]
def argL (a : List Value) (nL : Nat) : List (Option Value) := argE a ++ List.replicate (nL - (argE a).length) none
theorem ml_entry (ad : Nat → Nat) (a : List Value) {nL : Nat} (h : (argE a).length ≤ nL) : ml ((lg_sl (a.map (tr ad)) ++ List.replicate (nL - (lg_sl (a.map (tr ad))).length) Slot.unset).toArray) nL ad (argL a nL) := by
  have h0 := lv_entry (a.map (tr ad)) (n := nL) (by rw [argE_len]; exact h)
  refine ⟨h0.1, by simp [argL]; omega, h0.2.1, fun i v hi => ?_⟩
  have h1 : (argE a)[i]? = some (some v) := by
    unfold argL at hi
    by_cases hl : i < (argE a).length
    · rwa [List.getElem?_append_left hl] at hi
    · rw [List.getElem?_append_right (by omega)] at hi
      have := List.getElem?_eq_some_iff.mp hi
      obtain ⟨_, h3⟩ := this
      simp at h3
  have h2 := h0.2.2 _ (argE_get ad a 0 i v h1)
  simpa using h2
/-- the frame's fixed things -/
abbrev gx : Type := Program × Launch × Env × Room × State × MethodId × Array Value × List Frame × Method × Code × (Nat → ClassId) × (Nat → Nat → Nat) × (Nat → ClassId) × (Nat → Prop) × (Nat → Nat) × Nat × (State → Prop)
def sOB (j : Nat) : Int32 := [1, 10, 11, 2, 20, 0, 0, 0, 0, 30, 0, 0, 0, 41, 40, 0, 0, 0, 50, 0, 0, 0, 0, 60, 70, 0, 0, 0, 0, 80, 0, 81].getD j 0
def sAB (j : Nat) : Int32 := [-1, 0, 0, 2, 1, 3, 0, 4].getD j 0
/-- the two tables of LastMender.Acts -/
def SP (ad : Nat → Nat) (A : Nat → Prop) (s : State) : Prop :=
  (va_Z "LastMender$Acts" "OWN_BODY" "[I" (.ref (ad 1000000)) A s s.heap ∧ va_T .int (ad 1000000) 32 (fun j => .int (sOB j)) A s s.heap) ∧
  (va_Z "LastMender$Acts" "ABOVE" "[I" (.ref (ad 1000001)) A s s.heap ∧ va_T .int (ad 1000001) 8 (fun j => .int (sAB j)) A s s.heap)
/-- the links to private constructors, the array class of the shelves -/
def NW (s : State) : Prop := (∀ q ∈ nestL, va_Nw (.methodLinkNest q.1 q.2.1 q.2.2.1 q.2.2.2) s) ∧ va_AO "LastMender$Shelf" s
def ag (n0 : Nat) (ad0 ad : Nat → Nat) : Prop := ∀ k, k < n0 ∨ 1000000 ≤ k → ad k = ad0 k
def E (g : gx) (cs : Nat × Nat) (pc : Nat) (ls : List (Option Value)) (st : List Value) (ws : List rc) : Prop :=
  match g with
  | (p, l, e, R, s, m, args, below, meth, c, dC, dI, tc, A, ad0, n0, Q) =>
    ∀ (ad : Nat → Nat) (H : Heap) (locs : List Loc) (la : Array Slot), ag n0 ad0 ad → ml la c.maxLocals ad ls → va_P (dC, dI) vwCl (lift ad tc ws) H → va_D A (lift ad tc ws) → va_S A s.heap H locs →
      W p l e R s m args below meth c H locs cs.1 cs.2 Q (F0 m pc la (st.map (tr ad)))
def EC (g : gx) (cc : ByteArray) (own : String) (d : Nat) : Prop :=
  match g with
  | (p, l, e, R, s, m, args, below, meth, c, dC, dI, tc, A, ad0, n0, Q) =>
    p.tables.exec = Jvm.exec ∧ c.code = cc ∧ s.vm.findClass own = some m.cls ∧ (∀ w ∈ lw_W, w.before args s = true) ∧ va_K (dC, dI) vwCl (tysOf tc) s ∧ (∀ q, s.heap.size ≤ q → A q) ∧ ((d ≤ R.frames ∧ 60 * d ≤ R.locals) ∧ NW s) ∧ SP ad0 A s
