/-! ===== memory rows, calls, ends over E ===== -/
def inb (i : Int32) (n : Nat) : Bool := !(decide (i < 0)) && decide (i.toNatClampNeg < n)
theorem inb_vp {i : Int32} {n : Nat} (h : inb i n = true) : vp_in i n := by
  unfold inb at h
  simp only [Bool.and_eq_true, Bool.not_eq_true', decide_eq_false_iff_not, decide_eq_true_eq] at h
  rintro (q | q)
  · exact h.1 q
  · omega
def vo : Option Nat → Value
  | none => .null
  | some k => .ref k
theorem tr_vo (ad : Nat → Nat) (x : Option Nat) : tr ad (vo x) = va_rf (x.map ad) := by cases x <;> rfl
theorem tys_at (tc : Nat → ClassId) {ty : Nat} (h : ty < 5) : (tysOf tc)[ty]? = some (tc ty, tyOf ty) := by
  match ty, h with
  | 0, _ => rfl
  | 1, _ => rfl
  | 2, _ => rfl
  | 3, _ => rfl
  | 4, _ => rfl
theorem e_getf {g : gx} {cc : ByteArray} {own : String} {d : Nat} (hg : EC g cc own d) {cs : Nat × Nat} {pc : Nat} {ls : List (Option Value)} {st : List Value} {ws : List rc} {C : String} {T : u_T} {N ci idx k0 : Nat} {fs : List Value} {v : Value} (hin : ∀ w ∈ u_ws C T N, w ∈ lw_W) (hc : vwCl[ci]? = some (C, T, N)) (j : Nat) (hw : Cond.fieldLink own idx (T j).1 (T j).2.1 (T j).2.2.1 ∈ lw_W) (hd : decode cc pc = .ok (.getfield idx, 3)) (hk : ws[k0]? = some (.inr (ci, fs))) (hv : fs[j]? = some v) (hj : j < N) (k : E g cs (pc + 3) ls (v :: st) ws) : E g cs pc ls (.ref k0 :: st) ws := by
  obtain ⟨p, l, e, R, s, m, args, below, meth, c, dC, dI, tc, A, ad0, n0, Q⟩ := g
  intro ad H locs la ha hl hP hD hS
  exact va_get hg.1 hg.2.1 hg.2.2.2.1 hin hg.2.2.1 hg.2.2.2.2.1 hP k0 (lift_get hk) hc j hj (hg.2.2.2.1 _ hw) (fun x h => h) (by rw [List.getElem?_map, hv]; rfl) hd (k ad H locs la ha hl hP hD hS)
theorem e_putf {g : gx} {cc : ByteArray} {own : String} {d : Nat} (hg : EC g cc own d) {cs : Nat × Nat} {pc : Nat} {ls : List (Option Value)} {st : List Value} {ws : List rc} {C : String} {T : u_T} {N ci idx k0 : Nat} {fs : List Value} {v : Value} {ty0 : Nat → FieldType} (hin : ∀ w ∈ u_ws C T N, w ∈ lw_W) (hty : ∀ k, k < N → parseFieldDescriptor (T k).2.2.1 = some (ty0 k)) (hnm : ∀ a, a < N → ∀ b, b < N → a ≠ b → (T a).2.1 ≠ (T b).2.1) (hc : vwCl[ci]? = some (C, T, N)) (j : Nat) (hw : Cond.fieldLink own idx (T j).1 (T j).2.1 (T j).2.2.1 ∈ lw_W) (hd : decode cc pc = .ok (.putfield idx, 3)) (hk : ws[k0]? = some (.inr (ci, fs))) (hj : j < N) (hl : j < fs.length) (hfin : (T j).2.2.2 = false) (hn : ∀ ad, narrow (ty0 j) (tr ad v) = tr ad v) (hf : ∀ ad, fits (ty0 j) (tr ad v) = true) (k : E g cs (pc + 3) ls st (ws.set k0 (.inr (ci, fs.set j v)))) : E g cs pc ls (v :: .ref k0 :: st) ws := by
  obtain ⟨p, l, e, R, s, m, args, below, meth, c, dC, dI, tc, A, ad0, n0, Q⟩ := g
  intro ad H locs la ha hml hP hD hS
  refine va_put hg.1 hg.2.1 hg.2.2.2.1 hin ty0 hty hnm hg.2.2.1 hg.2.2.2.2.1 hP hD hS k0 (lift_get hk) hc j hj (hg.2.2.2.1 _ hw) (fun x h => h) hfin (hty j hj) (hn ad) (hf ad) (by simpa using hl) hd (fun H1 locs1 hP1 hD1 hS1 => ?_)
  have e1 : (lift ad tc ws).set k0 (ad k0, .inr (ci, (fs.map (tr ad)).set j (tr ad v))) = lift ad tc (ws.set k0 (.inr (ci, fs.set j v))) := by
    rw [← lift_set]
    simp [trc, List.map_set]
  rw [e1] at hP1 hD1
  exact k ad H1 locs1 la ha hml hP1 hD1 hS1
def GN (g : gx) (n : String) : Prop := g.2.2.2.2.2.2.2.2.1.name = n
theorem e_putF {g : gx} {cc : ByteArray} {own : String} {d : Nat} (hg : EC g cc own d) (hgn : GN g "<init>") {cs : Nat × Nat} {pc : Nat} {ls : List (Option Value)} {st : List Value} {ws : List rc} {C : String} {T : u_T} {N ci idx k0 : Nat} {fs : List Value} {v : Value} {ty0 : Nat → FieldType} (hin : ∀ w ∈ u_ws C T N, w ∈ lw_W) (hty : ∀ k, k < N → parseFieldDescriptor (T k).2.2.1 = some (ty0 k)) (hnm : ∀ a, a < N → ∀ b, b < N → a ≠ b → (T a).2.1 ≠ (T b).2.1) (hc : vwCl[ci]? = some (C, T, N)) (j : Nat) (hw : Cond.fieldLink own idx (T j).1 (T j).2.1 (T j).2.2.1 ∈ lw_W) (hd : decode cc pc = .ok (.putfield idx, 3)) (hk : ws[k0]? = some (.inr (ci, fs))) (hj : j < N) (hl : j < fs.length) (hfin : (T j).2.2.2 = true) (hdecl : (T j).1 = own) (hn : ∀ ad, narrow (ty0 j) (tr ad v) = tr ad v) (hf : ∀ ad, fits (ty0 j) (tr ad v) = true) (k : E g cs (pc + 3) ls st (ws.set k0 (.inr (ci, fs.set j v)))) : E g cs pc ls (v :: .ref k0 :: st) ws := by
  obtain ⟨p, l, e, R, s, m, args, below, meth, c, dC, dI, tc, A, ad0, n0, Q⟩ := g
  intro ad H locs la ha hml hP hD hS
  refine va_putF hg.1 hg.2.1 hg.2.2.2.1 hin ty0 hty hnm hg.2.2.1 hg.2.2.2.2.1 hP hD hS k0 (lift_get hk) hc j hj (hg.2.2.2.1 _ hw) (fun x h => h) hfin hgn hdecl (hty j hj) (hn ad) (hf ad) (by simpa using hl) hd (fun H1 locs1 hP1 hD1 hS1 => ?_)
  have e1 : (lift ad tc ws).set k0 (ad k0, .inr (ci, (fs.map (tr ad)).set j (tr ad v))) = lift ad tc (ws.set k0 (.inr (ci, fs.set j v))) := by
    rw [← lift_set]
    simp [trc, List.map_set]
  rw [e1] at hP1 hD1
  exact k ad H1 locs1 la ha hml hP1 hD1 hS1
theorem e_gets {g : gx} {cc : ByteArray} {own : String} {d : Nat} (hg : EC g cc own d) {cs : Nat × Nat} {pc idx : Nat} {ls : List (Option Value)} {st : List Value} {ws : List rc} (hw : Cond.fieldLink own idx "LastMender$Acts" "OWN_BODY" "[I" ∈ lw_W) (hd : decode cc pc = .ok (.getstatic idx, 3)) (k : E g cs (pc + 3) ls (.ref 1000000 :: st) ws) : E g cs pc ls st ws := by
  obtain ⟨p, l, e, R, s, m, args, below, meth, c, dC, dI, tc, A, ad0, n0, Q⟩ := g
  intro ad H locs la ha hl hP hD hS
  have k1 := k ad H locs la ha hl hP hD hS
  simp only [List.map_cons, tr, ha 1000000 (Or.inr (Nat.le_refl _))] at k1
  exact va_gets hg.1 hg.2.1 hg.2.2.2.2.2.2.2.1.1 hS hg.2.2.1 (hg.2.2.2.1 _ hw) (fun x h => h) hd k1
theorem e_gets1 {g : gx} {cc : ByteArray} {own : String} {d : Nat} (hg : EC g cc own d) {cs : Nat × Nat} {pc idx : Nat} {ls : List (Option Value)} {st : List Value} {ws : List rc} (hw : Cond.fieldLink own idx "LastMender$Acts" "ABOVE" "[I" ∈ lw_W) (hd : decode cc pc = .ok (.getstatic idx, 3)) (k : E g cs (pc + 3) ls (.ref 1000001 :: st) ws) : E g cs pc ls st ws := by
  obtain ⟨p, l, e, R, s, m, args, below, meth, c, dC, dI, tc, A, ad0, n0, Q⟩ := g
  intro ad H locs la ha hl hP hD hS
  have k1 := k ad H locs la ha hl hP hD hS
  simp only [List.map_cons, tr, ha 1000001 (Or.inr (by decide))] at k1
  exact va_gets hg.1 hg.2.1 hg.2.2.2.2.2.2.2.2.1 hS hg.2.2.1 (hg.2.2.2.1 _ hw) (fun x h => h) hd k1
theorem e_ti {g : gx} {cc : ByteArray} {own : String} {d : Nat} (hg : EC g cc own d) {cs : Nat × Nat} {pc : Nat} {ls : List (Option Value)} {st : List Value} {ws : List rc} {i : Int32} (hi : inb i 32 = true) (hd : decode cc pc = .ok (.iaload, 1)) (k : E g cs (pc + 1) ls (.int (sOB i.toNatClampNeg) :: st) ws) : E g cs pc ls (.int i :: .ref 1000000 :: st) ws := by
  obtain ⟨p, l, e, R, s, m, args, below, meth, c, dC, dI, tc, A, ad0, n0, Q⟩ := g
  intro ad H locs la ha hl hP hD hS
  have k1 := k ad H locs la ha hl hP hD hS
  simp only [List.map_cons, tr, ha 1000000 (Or.inr (Nat.le_refl _))] at k1 ⊢
  exact va_ti hg.1 hg.2.1 hg.2.2.2.2.2.2.2.1.2 hS (inb_vp hi) rfl hd k1
theorem e_ti1 {g : gx} {cc : ByteArray} {own : String} {d : Nat} (hg : EC g cc own d) {cs : Nat × Nat} {pc : Nat} {ls : List (Option Value)} {st : List Value} {ws : List rc} {i : Int32} (hi : inb i 8 = true) (hd : decode cc pc = .ok (.iaload, 1)) (k : E g cs (pc + 1) ls (.int (sAB i.toNatClampNeg) :: st) ws) : E g cs pc ls (.int i :: .ref 1000001 :: st) ws := by
  obtain ⟨p, l, e, R, s, m, args, below, meth, c, dC, dI, tc, A, ad0, n0, Q⟩ := g
  intro ad H locs la ha hl hP hD hS
  have k1 := k ad H locs la ha hl hP hD hS
  simp only [List.map_cons, tr, ha 1000001 (Or.inr (by decide))] at k1 ⊢
  exact va_ti hg.1 hg.2.1 hg.2.2.2.2.2.2.2.2.2 hS (inb_vp hi) rfl hd k1
/-- the script -/
def SX (g : gx) (L : Nat) (xs : Nat → Int32) : Prop :=
  match g with
  | (_, _, _, _, s, _, _, _, _, _, _, _, _, A, ad0, _, _) => va_X (ad0 1000002) L xs s s.heap ∧ ad0 1000002 < s.heap.size ∧ ¬ A (ad0 1000002)
theorem e_sld {g : gx} {cc : ByteArray} {own : String} {d : Nat} (hg : EC g cc own d) {L : Nat} {xs : Nat → Int32} (hx : SX g L xs) {cs : Nat × Nat} {pc : Nat} {ls : List (Option Value)} {st : List Value} {ws : List rc} {i : Int32} (hi : inb i L = true) (hd : decode cc pc = .ok (.iaload, 1)) (k : E g cs (pc + 1) ls (.int (xs i.toNatClampNeg) :: st) ws) : E g cs pc ls (.int i :: .ref 1000002 :: st) ws := by
  obtain ⟨p, l, e, R, s, m, args, below, meth, c, dC, dI, tc, A, ad0, n0, Q⟩ := g
  intro ad H locs la ha hl hP hD hS
  have k1 := k ad H locs la ha hl hP hD hS
  simp only [List.map_cons, tr, ha 1000002 (Or.inr (by decide))] at k1 ⊢
  exact va_sld hg.1 hg.2.1 hx.1 hx.2.1 hx.2.2 hS (inb_vp hi) hd k1
theorem e_slen {g : gx} {cc : ByteArray} {own : String} {d : Nat} (hg : EC g cc own d) {L : Nat} {xs : Nat → Int32} (hx : SX g L xs) {cs : Nat × Nat} {pc : Nat} {ls : List (Option Value)} {st : List Value} {ws : List rc} (hd : decode cc pc = .ok (.arraylength, 1)) (k : E g cs (pc + 1) ls (.int (Int32.ofNat L) :: st) ws) : E g cs pc ls (.ref 1000002 :: st) ws := by
  obtain ⟨p, l, e, R, s, m, args, below, meth, c, dC, dI, tc, A, ad0, n0, Q⟩ := g
  intro ad H locs la ha hl hP hD hS
  have k1 := k ad H locs la ha hl hP hD hS
  simp only [List.map_cons, tr, ha 1000002 (Or.inr (by decide))] at k1 ⊢
  exact va_slen hg.1 hg.2.1 hx.1 hx.2.1 hx.2.2 hS hd k1
