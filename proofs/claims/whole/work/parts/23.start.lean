/-! THE CLAIM OUT OF ONE WALK OF THE LAW'S BODY. Your part is whole_start (and what it stands on); all else here is the same for every law, but numbers. -/
def R_law : String := "LastMenderLaw"
def lw_P (b : Addr) (xs : List Int32) (args : Array Value) (s : State) : Prop := args = #[.ref b] ∧ s.IntsAt b xs ∧ xs.length ≤ 3072 ∧ (Jvm.Cond.and given_1 narrow_1).before args s = true
def lw_Q (_ : Array Value) (s : State) (o : Outcome) (t : State) : Prop := o = .returned (some (.int 1)) ∧ Framed s o t [] 600000 7302250
def lw_Z (below : List Frame) (a : Array Value) (s : State) : State → Prop := fun t => ∃ o, t.status = .running ∧ Ended t below o ∧ lw_Q a s o t
/-- the law's own end, with 1 on the stack, nothing written that was there before, its room as the claim has it -/
theorem lw_ret {p : Program} {l : Launch} {e : Env} {s : State} {m : MethodId} {below : List Frame} {meth : Method} {c : Code} {b : Nat} (hx : p.tables.exec = Jvm.exec) (hb : c.code = code) (hr : meth.sig.returnType = ret) (hlocks : meth.locks = false) {pc : Nat} {H : Heap} {ls : Array Slot} (hdg : decode code pc = .ok (.ireturn, 1)) : W p l e room_1 s m #[Value.ref b] below meth c H [] 600000 7302250 (lw_Z below #[Value.ref b] s) (F0 m pc ls [.int 1]) := by
  intro T hT X
  obtain ⟨fs, hret, hrun, hended, hW, hframe⟩ := X.leave (v := some (.int 1)) (hlocks := hlocks) (fun h => by rw [hr] at h; cases h)
  have hmeth' : T.vm.method? m = some meth := X.method'
  refine ⟨T.setFrames fs, ?_, .returned (some (.int 1)), hrun, hended, rfl, ⟨_, rfl⟩, hW, hframe⟩
  jvm_step X.here [X.here.top, hx, hb, hdg, hmeth', hr, ret, narrow_b1]
  (try refine ⟨rfl, ?_⟩); (try refine ⟨rfl, ?_⟩)
  first | (intro acts; rw [hret _ acts rfl rfl rfl]) | rw [hret _ _ rfl rfl rfl]
  exact Steps.refl _
/-- what holds at the law's entry: the machine, the code, the tables' words (any of lw_tbl by 'hts w (by decide +kernel)'), the script of L ints xs at the cell b, what the Statement gives of the start (any of its parts by flat_of_before) -/
def lw_At (p : Program) (s : State) (m : MethodId) (meth : Method) (c : Code) (b L : Nat) (xs : Nat → Int32) : Prop :=
  p.tables.exec = Jvm.exec ∧ c.code = code ∧ meth.sig.returnType = ret ∧ c.maxLocals = 4 ∧ s.vm.findClass R_law = some m.cls ∧ (∀ w ∈ lw_tbl, w.before #[Value.ref b] s = true) ∧ va_X b L xs s s.heap ∧ b < s.heap.size ∧ meth.locks = false ∧ (Jvm.Cond.and given_1 narrow_1).before #[Value.ref b] s = true
def M0 : mm := (fun k j => if k = 1 ∧ j = 4 then 1 else if k = 0 ∧ j = 12 then -1 else if k = 82 ∧ j = 26 then -1 else if k = 113 ∧ j < 6 then -1 else 0, fun _ _ => 0, fun i => if i = 0 then 12 else if i = 1 then 22 else if i = 2 then 23 else 0)
theorem cw_e69 : (va_up (va_up (va_up (va_up (va_up (va_up (fun _ => none) (0 : Int32).toNatClampNeg (some 70)) (1 : Int32).toNatClampNeg (some 72)) (2 : Int32).toNatClampNeg (some 74)) (3 : Int32).toNatClampNeg (some 76)) (4 : Int32).toNatClampNeg (some 78)) (5 : Int32).toNatClampNeg (some 80) : Nat → Option Nat) = fun j => if j < 6 then some (69 + 1 + 2 * j) else none := by
  funext j
  have e0 : (0 : Int32).toNatClampNeg = 0 := by decide
  have e1 : (1 : Int32).toNatClampNeg = 1 := by decide
  have e2 : (2 : Int32).toNatClampNeg = 2 := by decide
  have e3 : (3 : Int32).toNatClampNeg = 3 := by decide
  have e4 : (4 : Int32).toNatClampNeg = 4 := by decide
  have e5 : (5 : Int32).toNatClampNeg = 5 := by decide
  rw [e0, e1, e2, e3, e4, e5]
  match j with
  | 0 => rfl
  | 1 => rfl
  | 2 => rfl
  | 3 => rfl
  | 4 => rfl
  | 5 => rfl
  | n + 6 =>
    unfold va_up
    rw [if_neg (by omega), if_neg (by omega), if_neg (by omega), if_neg (by omega), if_neg (by omega), if_neg (by omega), if_neg (by omega)]
theorem cw_e113 : upd (upd (upd (upd (upd (upd (fun _ => 0) (0 : Int32).toNatClampNeg (-1)) (1 : Int32).toNatClampNeg (-1)) (2 : Int32).toNatClampNeg (-1)) (3 : Int32).toNatClampNeg (-1)) (4 : Int32).toNatClampNeg (-1)) (5 : Int32).toNatClampNeg (-1) = M0.1 113 := by
  funext j
  have e0 : (0 : Int32).toNatClampNeg = 0 := by decide
  have e1 : (1 : Int32).toNatClampNeg = 1 := by decide
  have e2 : (2 : Int32).toNatClampNeg = 2 := by decide
  have e3 : (3 : Int32).toNatClampNeg = 3 := by decide
  have e4 : (4 : Int32).toNatClampNeg = 4 := by decide
  have e5 : (5 : Int32).toNatClampNeg = 5 := by decide
  rw [e0, e1, e2, e3, e4, e5]
  match j with
  | 0 => rfl
  | 1 => rfl
  | 2 => rfl
  | 3 => rfl
  | 4 => rfl
  | 5 => rfl
  | n + 6 =>
    unfold upd
    rw [if_neg (by omega), if_neg (by omega), if_neg (by omega), if_neg (by omega), if_neg (by omega), if_neg (by omega)]
    show 0 = _
    unfold M0
    simp
set_option maxRecDepth 100000 in
set_option maxHeartbeats 4000000 in
theorem cw_last : cw_39 = cells M0 := by
  unfold cw_39
  rw [cw_e69, cw_e113]
  rfl
theorem e_widen {g : gx} {cs : Nat × Nat} {pc : Nat} {ls : List (Option Value)} {st : List Value} {ws : List rc} {k n : Nat} (h1 : cs.1 ≤ k) (h2 : cs.2 ≤ n) (kk : E g (k, n) pc ls st ws) : E g cs pc ls st ws := by
  obtain ⟨p, l, e, R, s, m, args, below, meth, c, dC, dI, tc, A, ad0, n0, Q⟩ := g
  intro ad H locs la ha hl hP hD hS
  exact W.widen h1 h2 (kk ad H locs la ha hl hP hD hS)
set_option maxRecDepth 100000 in
set_option maxHeartbeats 4000000 in
theorem law_start {g : gx} {d : Nat} (hg : EC g cL_law RL d) (hd : 107 < d) (hcap : CAP g 600000 7302250) (hn0 : N0 g 0) {L : Nat} {xs : Nat → Int32} (hx : SX g L xs) (hret : ∀ (pc : Nat) (ls : List (Option Value)) (M : mm), decode cL_law pc = .ok (.ireturn, 1) → E g (600000, 7302250) pc ls [.int 1] (cells M)) {r : Int32 × mm} (hr : r.1 = 1) (hm : L_law_L18 L xs 10000 0 M0 = some r) : E g (0, 0) 0 [some (.ref 1000002), none, none, none] [] [] := by
  refine e_new (n := 0) hg hcap ciX10 dfX10 lk_82 lk_83 lk_67 dL_law_0 rfl hn0 (by decide) (by decide +kernel) (by decide +kernel) (Nat.le_of_ble_eq_true rfl) (Nat.le_of_ble_eq_true rfl) ?_
  refine e_dup hg dL_law_3 rfl ?_
  change E g _ _ _ _ cw_0
  refine e_callN (rest := [.ref 0]) hg hcap mfX10_init lk_85 rfl cnX10_init_0 (Or.inr lk_84) dL_law_4 rfl rfl (by omega) (Nat.le_of_ble_eq_true rfl) (n0_le hn0 (Nat.le_of_ble_eq_true rfl)) (by decide +kernel) (Nat.le_of_ble_eq_true rfl) (Nat.le_of_ble_eq_true rfl) ?_
  refine e_astore_n (ls' := [some (.ref 1000002), some (.ref 0), none, none]) hg dL_law_7 rfl ?_
  refine e_new (n := 82) hg hcap ciX11 dfX11 lk_980 lk_981 lk_78 dL_law_8 rfl (n0_le hn0 (Nat.le_of_ble_eq_true rfl)) (by decide) (by decide +kernel) (by decide +kernel) (Nat.le_of_ble_eq_true rfl) (Nat.le_of_ble_eq_true rfl) ?_
  refine e_dup hg dL_law_11 rfl ?_
  change E g _ _ _ _ cw_38
  refine e_callN (rest := [.ref 82]) hg hcap mfX11_init lk_983 rfl cnX11_init_82 (Or.inr lk_982) dL_law_12 rfl rfl (by omega) (Nat.le_of_ble_eq_true rfl) (n0_le hn0 (Nat.le_of_ble_eq_true rfl)) (by decide +kernel) (Nat.le_of_ble_eq_true rfl) (Nat.le_of_ble_eq_true rfl) ?_
  refine e_astore_n (ls' := [some (.ref 1000002), some (.ref 0), some (.ref 82), none]) hg dL_law_15 rfl ?_
  refine e_iconst (v := 0) hg dL_law_16 (by decide) ?_
  refine e_istore_n (ls' := [some (.ref 1000002), some (.ref 0), some (.ref 82), some (.int 0)]) hg dL_law_17 rfl ?_
  refine e_widen (k := 600000) (n := 7302250) (Nat.le_of_ble_eq_true rfl) (Nat.le_of_ble_eq_true rfl) ?_
  rw [cw_last]
  exact L_law_L18_ok hg hd ⟨by rw [hcap.1]; exact Nat.le_refl _, by rw [hcap.2]; exact Nat.le_refl _⟩ hx hret hr 10000 _ _ hm
/-- the classes' numbers and slots, out of the tables -/
theorem cls_known {s : State} {args : Array Value} (hts : ∀ w ∈ lw_tbl, w.before args s = true) : ∀ k : Nat, ∃ q : ClassId × (Nat → Nat), ∀ c : vw_C, vwCl[k]? = some c → u_Kn s c.1 c.2.1 c.2.2 q.1 q.2 := by
  intro k
  match k with
  | 0 =>
    obtain ⟨c0, i0, h0⟩ := u_known (C := RX0) (T := TX0) (N := 6) (n := 6) hts (fun w h => (lw_out (inX0 w h)).1) (hts (.instantiable RX0 6) (lw_out lk_397).1)
    exact ⟨(c0, i0), fun c hc => by cases hc; exact h0⟩
  | 1 =>
    obtain ⟨c0, i0, h0⟩ := u_known (C := RX1) (T := TX1) (N := 6) (n := 6) hts (fun w h => (lw_out (inX1 w h)).1) (hts (.instantiable RX1 6) (lw_out lk_371).1)
    exact ⟨(c0, i0), fun c hc => by cases hc; exact h0⟩
  | 2 =>
    obtain ⟨c0, i0, h0⟩ := u_known (C := RX2) (T := TX2) (N := 4) (n := 4) hts (fun w h => (lw_out (inX2 w h)).1) (hts (.instantiable RX2 4) (lw_out lk_287).1)
    exact ⟨(c0, i0), fun c hc => by cases hc; exact h0⟩
  | 3 =>
    obtain ⟨c0, i0, h0⟩ := u_known (C := RX3) (T := TX3) (N := 12) (n := 12) hts (fun w h => (lw_out (inX3 w h)).1) (hts (.instantiable RX3 12) (lw_out lk_91).1)
    exact ⟨(c0, i0), fun c hc => by cases hc; exact h0⟩
  | 4 =>
    obtain ⟨c0, i0, h0⟩ := u_known (C := RX4) (T := TX4) (N := 16) (n := 16) hts (fun w h => (lw_out (inX4 w h)).1) (hts (.instantiable RX4 16) (lw_out lk_231).1)
    exact ⟨(c0, i0), fun c hc => by cases hc; exact h0⟩
  | 5 =>
    obtain ⟨c0, i0, h0⟩ := u_known (C := RX5) (T := TX5) (N := 4) (n := 4) hts (fun w h => (lw_out (inX5 w h)).1) (hts (.instantiable RX5 4) (lw_out lk_168).1)
    exact ⟨(c0, i0), fun c hc => by cases hc; exact h0⟩
  | 6 =>
    obtain ⟨c0, i0, h0⟩ := u_known (C := RX6) (T := TX6) (N := 5) (n := 5) hts (fun w h => (lw_out (inX6 w h)).1) (hts (.instantiable RX6 5) (lw_out lk_426).1)
    exact ⟨(c0, i0), fun c hc => by cases hc; exact h0⟩
  | 7 =>
    obtain ⟨c0, i0, h0⟩ := u_known (C := RX7) (T := TX7) (N := 3) (n := 3) hts (fun w h => (lw_out (inX7 w h)).1) (hts (.instantiable RX7 3) (lw_out lk_174).1)
    exact ⟨(c0, i0), fun c hc => by cases hc; exact h0⟩
  | 8 =>
    obtain ⟨c0, i0, h0⟩ := u_known (C := RX8) (T := TX8) (N := 6) (n := 6) hts (fun w h => (lw_out (inX8 w h)).1) (hts (.instantiable RX8 6) (lw_out lk_162).1)
    exact ⟨(c0, i0), fun c hc => by cases hc; exact h0⟩
  | 9 =>
    obtain ⟨c0, i0, h0⟩ := u_known (C := RX9) (T := TX9) (N := 12) (n := 12) hts (fun w h => (lw_out (inX9 w h)).1) (hts (.instantiable RX9 12) (lw_out lk_306).1)
    exact ⟨(c0, i0), fun c hc => by cases hc; exact h0⟩
  | 10 =>
    obtain ⟨c0, i0, h0⟩ := u_known (C := RX10) (T := TX10) (N := 13) (n := 13) hts (fun w h => (lw_out (inX10 w h)).1) (hts (.instantiable RX10 13) (lw_out lk_83).1)
    exact ⟨(c0, i0), fun c hc => by cases hc; exact h0⟩
  | 11 =>
    obtain ⟨c0, i0, h0⟩ := u_known (C := RX11) (T := TX11) (N := 63) (n := 63) hts (fun w h => (lw_out (inX11 w h)).1) (hts (.instantiable RX11 63) (lw_out lk_981).1)
    exact ⟨(c0, i0), fun c hc => by cases hc; exact h0⟩
  | k + 12 => exact ⟨(0, fun _ => 0), fun c hc => by simp [vwCl] at hc⟩
theorem arr_known {s : State} {args : Array Value} {ty : FieldType} (h : (Cond.arrayClass ty).before args s = true) : ∃ c : ClassId, ArrOfT s c ty ∧ s.vm.findClass ("[" ++ ty.toString) = some c := by
  obtain ⟨cA, kA, comp, h1, h2, h3⟩ := Cond.arrayClass_spec h
  exact ⟨cA, fun n z => ⟨fun k h => (by cases h), kA, h2, comp, h3⟩, h1⟩
theorem tys_known {s : State} {args : Array Value} (hts : ∀ w ∈ lw_tbl, w.before args s = true) : ∃ tc : Nat → ClassId, ∀ (k : Nat) (q : ClassId × FieldType), (tysOf tc)[k]? = some q → ArrOfT s q.1 q.2 ∧ va_RA s q.1 q.2 := by
  obtain ⟨c0, a0, b0⟩ := arr_known (hts (.arrayClass .int) (lw_out lk_160).1)
  obtain ⟨c1, a1, b1⟩ := arr_known (hts (.arrayClass .long) (lw_out lk_285).1)
  obtain ⟨c2, a2, b2⟩ := arr_known (hts (.arrayClass .byte) (lw_out lk_229).1)
  obtain ⟨c3, a3, b3⟩ := arr_known (hts (.arrayClass .boolean) (lw_out lk_1176).1)
  obtain ⟨comp, c4, k4, h1, -, h3, h4, h5⟩ := Cond.arrayOver_spec (hts _ ao_in)
  refine ⟨fun k => match k with | 0 => c0 | 1 => c1 | 2 => c2 | 3 => c3 | _ => c4, fun k q hq => ?_⟩
  match k, hq with
  | 0, hq => cases hq; exact ⟨a0, b0⟩
  | 1, hq => cases hq; exact ⟨a1, b1⟩
  | 2, hq => cases hq; exact ⟨a2, b2⟩
  | 3, hq => cases hq; exact ⟨a3, b3⟩
  | 4, hq => cases hq; exact ⟨fun n z => ⟨fun k h => (by cases h), k4, h3, comp, h4⟩, k4, comp, h3, h4, h1, h5⟩
  | k + 5, hq => simp [tysOf] at hq
theorem stat_known {s : State} {args : Array Value} (hts : ∀ w ∈ lw_tbl, w.before args s = true) (hgv : (Jvm.Cond.and given_1 narrow_1).before args s = true) {A : Nat → Prop} (hA : ∀ a : Nat, a < s.heap.size → ¬ A a) : ∃ t0 t1 : Nat, (va_Z "LastMender$Acts" "OWN_BODY" "[I" (.ref t0) A s s.heap ∧ va_T .int t0 32 (fun j => .int (sOB j)) A s s.heap) ∧ (va_Z "LastMender$Acts" "ABOVE" "[I" (.ref t1) A s s.heap ∧ va_T .int t1 8 (fun j => .int (sAB j)) A s s.heap) := by
  have hs := flat_of_before _ hgv
  have hini : (Cond.initialized "LastMender$Acts").before args s = true := hts _ (lw_out lk_76).1
  obtain ⟨t0, e0, h0⟩ := va_Tof (tm := .static "LastMender$Acts" "OWN_BODY" "[I") (ty := .int) (N := 32) (f := fun j => .int (sOB j)) (A := A) (by decide) (hs _ (by decide +kernel)) (va_eqt (hs (Cond.eq (.length (.static "LastMender$Acts" "OWN_BODY" "[I")) (.int (Int32.ofNat 32))) (by decide +kernel))) (fun j hj => va_eqt (hs (Cond.eq (.elem (.static "LastMender$Acts" "OWN_BODY" "[I") (.int (Int32.ofNat j))) (.int (sOB j))) ((by decide +kernel : ∀ j, j < 32 → Cond.eq (.elem (.static "LastMender$Acts" "OWN_BODY" "[I") (.int (Int32.ofNat j))) (.int (sOB j)) ∈ flatC (Jvm.Cond.and given_1 narrow_1)) j hj))) hA
  obtain ⟨t1, e1, h1⟩ := va_Tof (tm := .static "LastMender$Acts" "ABOVE" "[I") (ty := .int) (N := 8) (f := fun j => .int (sAB j)) (A := A) (by decide) (hs _ (by decide +kernel)) (va_eqt (hs (Cond.eq (.length (.static "LastMender$Acts" "ABOVE" "[I")) (.int (Int32.ofNat 8))) (by decide +kernel))) (fun j hj => va_eqt (hs (Cond.eq (.elem (.static "LastMender$Acts" "ABOVE" "[I") (.int (Int32.ofNat j))) (.int (sAB j))) ((by decide +kernel : ∀ j, j < 8 → Cond.eq (.elem (.static "LastMender$Acts" "ABOVE" "[I") (.int (Int32.ofNat j))) (.int (sAB j)) ∈ flatC (Jvm.Cond.and given_1 narrow_1)) j hj))) hA
  exact ⟨t0, t1, ⟨va_Zof (hts _ sOB_in) hini e0 hA, h0⟩, ⟨va_Zof (hts _ sAB_in) hini e1 hA, h1⟩⟩
set_option maxRecDepth 100000 in
set_option maxHeartbeats 4000000 in
/-- the law from its entry, out of what the lifted loop answers -/
theorem whole_start_open {p : Program} {e : Env} {s : State} {m : MethodId} {below : List Frame} {meth : Method} {c : Code} (l : Launch) {b L : Nat} {xs : Nat → Int32} (hm : ∃ M, L_law_L18 L xs 10000 0 M0 = some (1, M)) (C0 : lw_At p s m meth c b L xs) : W p l e room_1 s m #[Value.ref b] below meth c s.heap [] 0 0 (lw_Z below #[Value.ref b] s) (entryFrame m ([Value.ref b] : List Value).toArray 4) := by
  obtain ⟨hx, hb, hr, hml, hown, hts, hX, hbl, hlocks, hgv⟩ := id C0
  obtain ⟨M, hm⟩ := hm
  have hA0 : ∀ a : Nat, a < s.heap.size → ¬ s.heap.size ≤ a := fun a h => Nat.not_le.mpr h
  obtain ⟨t0, t1, ⟨z0, v0⟩, ⟨z1, v1⟩⟩ := stat_known (A := fun q : Nat => s.heap.size ≤ q) hts hgv hA0
  obtain ⟨tc, htc⟩ := tys_known hts
  have hck := cls_known hts
  have hK : va_K ((fun k => (Classical.choose (hck k)).1), (fun k => (Classical.choose (hck k)).2)) vwCl (tysOf tc) s := ⟨fun k q hq => Classical.choose_spec (hck k) q hq, htc⟩
  have hNW : NW s := ⟨fun q hq => va_Nw.of rfl (hts _ (nest_in q hq)), va_AO.of (hts _ ao_in)⟩
  have hrun := law_start (g := (p, l, e, room_1, s, m, #[Value.ref b], below, meth, c, (fun k => (Classical.choose (hck k)).1), (fun k => (Classical.choose (hck k)).2), tc, (fun q : Nat => s.heap.size ≤ q), (fun k => if k = 1000000 then t0 else if k = 1000001 then t1 else b), 0, lw_Z below #[Value.ref b] s)) (d := 1300) (L := L) (xs := xs)
    ⟨hx, hb, hown, fun w h => hts w (lw_out h).1, hK, fun _ h => h, ⟨⟨by decide, by decide⟩, hNW⟩, ⟨z0, v0⟩, ⟨z1, v1⟩⟩ (by decide) ⟨rfl, rfl⟩ (Nat.le_refl _) ⟨hX, hbl, Nat.not_le.mpr hbl⟩
    (fun pc ls M hd ad H locs la ha hl hP hD hS => va_forget (fun q h => hS.2.2 q h) (lw_ret hx hb hr hlocks hd)) rfl hm
  rw [lg_entry_eq]
  have h0 := ml_entry (fun k => if k = 1000000 then t0 else if k = 1000001 then t1 else b) [.ref 1000002] (nL := 4) (Nat.le_of_ble_eq_true rfl)
  exact hrun (fun k => if k = 1000000 then t0 else if k = 1000001 then t1 else b) s.heap [] _ (fun _ _ => rfl) (by rw [hml]; exact h0) (fun k q h => by simp [lift] at h) ⟨fun i j p q h => by simp [lift] at h, fun k q h => by simp [lift] at h⟩ va_S.rf
