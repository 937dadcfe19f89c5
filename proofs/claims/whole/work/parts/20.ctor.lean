/-! ===== constructors: cells are made ===== -/
def wfV (n : Nat) : Value → Bool
  | .ref k => decide (k < n) || decide (1000000 ≤ k)
  | _ => true
def wfL (n : Nat) (ls : List (Option Value)) : Bool := ls.all fun o => match o with
  | some v => wfV n v
  | none => true
def wfC (n : Nat) : rc → Bool
  | .inl (_, _, .inl _) => true
  | .inl (_, _, .inr (.inl _)) => true
  | .inl (_, k, .inr (.inr f)) => (List.range k).all fun j => match f j with
    | some i => decide (i < n) || decide (1000000 ≤ i)
    | none => true
  | .inr (_, fs) => fs.all (wfV n)
def wfE (n : Nat) (ls : List (Option Value)) (st : List Value) (ws : List rc) : Bool := wfL n ls && st.all (wfV n) && ws.all (wfC n)
def agn (n : Nat) (ad ad' : Nat → Nat) : Prop := ∀ k, k < n ∨ 1000000 ≤ k → ad' k = ad k
theorem tr_wf {n : Nat} {ad ad' : Nat → Nat} (h : agn n ad ad') {v : Value} (hv : wfV n v = true) : tr ad' v = tr ad v := by
  cases v with
  | ref k =>
    simp only [wfV, Bool.or_eq_true, decide_eq_true_eq] at hv
    simp only [tr, h k hv]
  | _ => rfl
theorem map_wf {n : Nat} {ad ad' : Nat → Nat} (h : agn n ad ad') {st : List Value} (hs : st.all (wfV n) = true) : st.map (tr ad') = st.map (tr ad) :=
  List.map_congr_left fun v hv => tr_wf h (List.all_eq_true.mp hs v hv)
theorem trc_wf {n : Nat} {ad ad' : Nat → Nat} {tc : Nat → ClassId} (h : agn n ad ad') {c : rc} (hc : wfC n c = true) : trc ad' tc c = trc ad tc c := by
  rcases c with ⟨ty, k, f | f | f⟩ | ⟨ci, fs⟩
  · rfl
  · rfl
  · simp only [trc]
    congr 7
    funext j
    by_cases hj : j < k
    · simp only [if_pos hj]
      have h1 := List.all_eq_true.mp hc j (List.mem_range.mpr hj)
      cases hf : f j with
      | none => rfl
      | some i =>
        simp only [hf, Bool.or_eq_true, decide_eq_true_eq] at h1
        simp only [Option.map_some, h i h1]
    · simp only [if_neg hj]
  · simp only [trc]
    rw [map_wf h hc]
theorem lift_wf {n : Nat} {ad ad' : Nat → Nat} {tc : Nat → ClassId} (h : agn n ad ad') {ws : List rc} (hn : ws.length ≤ n) (hw : ws.all (wfC n) = true) : lift ad' tc ws = lift ad tc ws := by
  apply List.ext_getElem?
  intro i
  unfold lift
  rw [List.getElem?_mapIdx, List.getElem?_mapIdx]
  cases hc : ws[i]? with
  | none => rfl
  | some c =>
    have hl := (List.getElem?_eq_some_iff.mp hc).1
    simp only [Option.map_some]
    rw [h i (Or.inl (by omega)), trc_wf h (List.all_eq_true.mp hw c (List.mem_of_getElem? hc))]
theorem lift_push {n : Nat} {ad ad' : Nat → Nat} {tc : Nat → ClassId} (h : agn n ad ad') {ws : List rc} {c : rc} (hn : ws.length = n) (hw : ws.all (wfC n) = true) (hc : wfC n c = true) : lift ad' tc (ws ++ [c]) = lift ad tc ws ++ [(ad' n, trc ad tc c)] := by
  have h1 : lift ad' tc (ws ++ [c]) = lift ad' tc ws ++ [(ad' n, trc ad' tc c)] := by
    unfold lift
    rw [List.mapIdx_append]
    simp [hn]
  rw [h1, lift_wf h (by omega) hw, trc_wf h hc]
theorem ml_wf {n : Nat} {ad ad' : Nat → Nat} {la : Array Slot} {nL : Nat} {ls : List (Option Value)} (h : agn n ad ad') (hw : wfL n ls = true) (hl : ml la nL ad ls) : ml la nL ad' ls := by
  refine ⟨hl.1, hl.2.1, hl.2.2.1, fun i v hi => ?_⟩
  have h1 := List.all_eq_true.mp hw (some v) (List.mem_of_getElem? hi)
  rw [tr_wf h h1]
  exact hl.2.2.2 i v hi
def CAP (g : gx) (mc ms : Nat) : Prop := g.2.2.2.1.cells = mc ∧ g.2.2.2.1.slots = ms
def N0 (g : gx) (n : Nat) : Prop := g.2.2.2.2.2.2.2.2.2.2.2.2.2.2.2.1 ≤ n
theorem wfE_spec {n : Nat} {ls : List (Option Value)} {st : List Value} {ws : List rc} (h : wfE n ls st ws = true) : wfL n ls = true ∧ st.all (wfV n) = true ∧ ws.all (wfC n) = true := by
  unfold wfE at h
  simp only [Bool.and_eq_true] at h
  exact ⟨h.1.1, h.1.2, h.2⟩
def adn (ad : Nat → Nat) (n q : Nat) : Nat → Nat := fun k => if k = n then q else ad k
theorem adn_ag {ad : Nat → Nat} {n q : Nat} (hn : n < 1000000) : agn n ad (adn ad n q) := fun k hk => by
  unfold adn
  rw [if_neg (by omega)]
theorem adn_self {ad : Nat → Nat} {n q : Nat} : adn ad n q n = q := by simp [adn]
theorem ag_adn {n0 : Nat} {ad0 ad : Nat → Nat} {n q : Nat} (hn0 : n0 ≤ n) (hn : n < 1000000) (ha : ag n0 ad0 ad) : ag n0 ad0 (adn ad n q) := fun k hk => by
  rw [adn_ag hn k (by omega)]
  exact ha k hk
theorem e_new {g : gx} {cc : ByteArray} {own : String} {d : Nat} (hg : EC g cc own d) {mc ms : Nat} (hcap : CAP g mc ms) {cs : Nat × Nat} {pc idx : Nat} {ls : List (Option Value)} {st : List Value} {ws : List rc} {ci N n : Nat} {C : String} {T : u_T} {ty0 : Nat → FieldType} {fs : List Value} (hc : CI ci C T N ty0) (hdf : ∀ ad : Nat → Nat, ∀ j, j < N → defaultValue (ty0 j) = vp_V (fs.map (tr ad)) j) (hcl : Cond.classLink own idx C ∈ lw_W) (hins : Cond.instantiable C N ∈ lw_W) (hini : Cond.initialized C ∈ lw_W) (hd : decode cc pc = .ok (.new idx, 3)) (hn : ws.length = n) (hn0 : N0 g n) (hn6 : n < 1000000) (hwf : wfE n ls st ws = true) (hwc : fs.all (wfV n) = true) (h1 : cs.1 + 1 ≤ mc) (h2 : cs.2 + N ≤ ms) (k : E g (cs.1 + 1, cs.2 + N) (pc + 3) ls (.ref n :: st) (ws ++ [.inr (ci, fs)])) : E g cs pc ls st ws := by
  obtain ⟨p, l, e, R, s, m, args, below, meth, c, dC, dI, tc, A, ad0, n0, Q⟩ := g
  intro ad H locs la ha hl hP hD hS
  obtain ⟨w1, w2, w3⟩ := wfE_spec hwf
  refine va_new hg.1 hg.2.1 hg.2.2.2.1 hc.1 ty0 hc.2.2.1 hg.2.2.1 (hg.2.2.2.1 _ hcl) (hg.2.2.2.1 _ hins) (hg.2.2.2.1 _ hini) hg.2.2.2.2.1 hP hD hS hg.2.2.2.2.2.1 hc.2.1 (hdf ad) (by rw [hcap.1]; exact h1) (by rw [hcap.2]; exact h2) hd (fun q H1 hP1 hD1 hS1 => ?_)
  have hag := adn_ag (ad := ad) (q := q) hn6
  have e1 : lift (adn ad n q) tc (ws ++ [.inr (ci, fs)]) = lift ad tc ws ++ [(q, .inr (ci, fs.map (tr ad)))] := by
    rw [lift_push (c := .inr (ci, fs)) hag hn w3 hwc, adn_self]
    rfl
  have k1 := k (adn ad n q) H1 locs la (ag_adn hn0 hn6 ha) (ml_wf hag w1 hl) (by rw [e1]; exact hP1) (by rw [e1]; exact hD1) hS1
  simp only [List.map_cons, tr, adn_self, map_wf hag w2] at k1
  exact k1
theorem e_newq {g : gx} {cc : ByteArray} {own : String} {d : Nat} (hg : EC g cc own d) {mc ms : Nat} (hcap : CAP g mc ms) {cs : Nat × Nat} {pc idx : Nat} {ls : List (Option Value)} {st : List Value} {ws : List rc} {n N : Nat} {v : Int32} (hcl : Cond.classLink own idx "LastMender$Shelf" ∈ lw_W) (hv : ¬ v < 0) (hN : v.toNatClampNeg = N) (hN5 : N * 4 ≤ 536870912) (hd : decode cc pc = .ok (.anewarray idx, 3)) (hn : ws.length = n) (hn0 : N0 g n) (hn6 : n < 1000000) (hwf : wfE n ls st ws = true) (h1 : cs.1 + 1 ≤ mc) (h2 : cs.2 + N ≤ ms) (k : E g (cs.1 + 1, cs.2 + N) (pc + 3) ls (.ref n :: st) (ws ++ [.inl (4, N, .inr (.inr (fun _ => none)))])) : E g cs pc ls (.int v :: st) ws := by
  obtain ⟨p, l, e, R, s, m, args, below, meth, c, dC, dI, tc, A, ad0, n0, Q⟩ := g
  intro ad H locs la ha hl hP hD hS
  obtain ⟨w1, w2, w3⟩ := wfE_spec hwf
  refine va_newq hg.1 hg.2.1 hg.2.2.1 (hg.2.2.2.1 _ hcl) hg.2.2.2.2.2.2.1.2.2 hg.2.2.2.2.1 hP hD hS hg.2.2.2.2.2.1 hv hN hN5 (by rw [hcap.1]; exact h1) (by rw [hcap.2]; exact h2) hd (fun q cA H1 hK1 hP1 hD1 hS1 => ?_)
  have hcA : cA = tc 4 := by
    obtain ⟨kA, comp, -, -, -, e1⟩ := (hK1.2 5 (cA, .object "LastMender$Shelf") rfl).2
    obtain ⟨kA', comp', -, -, -, e2⟩ := (hg.2.2.2.2.1.2 4 (tc 4, .object "LastMender$Shelf") rfl).2
    rw [e1] at e2
    exact Option.some.inj e2
  subst hcA
  have hag := adn_ag (ad := ad) (q := q) hn6
  have e1 : lift (adn ad n q) tc (ws ++ [.inl (4, N, .inr (.inr (fun _ => none)))]) = lift ad tc ws ++ [(q, .inl (tc 4, N, .inr (.inr (.inr (.inr (fun _ => none))))))] := by
    rw [lift_push hag hn w3 (by simp [wfC]), adn_self]
    simp [trc]
  have k1 := k (adn ad n q) H1 locs la (ag_adn hn0 hn6 ha) (ml_wf hag w1 hl) (by rw [e1]; exact hP1) (by rw [e1]; exact hD1) hS1
  simp only [List.map_cons, tr, adn_self, map_wf hag w2] at k1
  exact k1
-- GENERATED BELOW
theorem lk_objc : Cond.code Lib.objectInit ⟨#[0xb1]⟩ 1 none ∈ lw_W := lk_89
theorem mf_callB_base {p : Program} {l : Launch} {e : Env} {R : Room} {s : State} {m : MethodId} {args : Array Value} {below : List Frame} {meth : Method} {c : Code} {dC : Nat → ClassId} {dI : Nat → Nat → Nat} {tc : Nat → ClassId} {A : Nat → Prop} {ad0 : Nat → Nat} {n0 : Nat} {Q : State → Prop} {cc : ByteArray} {own : String} {d : Nat} (hg : EC (p, l, e, R, s, m, args, below, meth, c, dC, dI, tc, A, ad0, n0, Q) cc own d) {y : MethodName} {b : ByteArray} {maxL n d' mc ms : Nat} {ret : Option FieldType} (mf : MF y b maxL ret n) (hd : d' < d) : (rmD d' mc ms).frames + 1 ≤ R.frames ∧ 8 + (maxL + 11) + (rmD d' mc ms).locals ≤ R.locals ∧ (∀ w ∈ (Cond.code y b maxL ret :: lw_W), ∀ (a' : Array Value) (U : State), s.WarmedH U.vm → w.before a' U = true) ∧ (Cond.code y b maxL ret).before args s = true ∧ (Cond.initialized y.cls).before args s = true ∧ (y.cls ≠ "java/lang/invoke/MethodHandle" ∧ y.cls ≠ "java/lang/invoke/VarHandle") ∧ (∀ sig, parseMethodDescriptor y.desc = some sig → n = sig.parameters.length) := by
  obtain ⟨-, -, hown, hts, -, -, ⟨⟨hR1, hR2⟩, -⟩, -⟩ := hg
  obtain ⟨m1, m2, m3, m4, m5, -⟩ := mf
  refine ⟨by show d' + 1 ≤ R.frames; omega, by show 8 + (maxL + 11) + 60 * d' ≤ R.locals; omega, ws_warm hts m1, hts _ m1, hts _ m2, m3, fun sig h => ?_⟩
  rw [h] at m4
  exact (Option.some.inj m4).symm
theorem e_newa0 {g : gx} {cc : ByteArray} {own : String} {d : Nat} (hg : EC g cc own d) {mc ms : Nat} (hcap : CAP g mc ms) {cs : Nat × Nat} {pc : Nat} {ls : List (Option Value)} {st : List Value} {ws : List rc} {n N : Nat} {v : Int32} (hd : decode cc pc = .ok (.newarray .int, 2)) (hv : ¬ v < 0) (hN : v.toNatClampNeg = N) (hN5 : N * componentBytes .int ≤ 536870912) (hn : ws.length = n) (hn0 : N0 g n) (hn6 : n < 1000000) (hwf : wfE n ls st ws = true) (h1 : cs.1 + 1 ≤ mc) (h2 : cs.2 + N ≤ ms) (k : E g (cs.1 + 1, cs.2 + N) (pc + 2) ls (.ref n :: st) (ws ++ [.inl (0, N, .inl (fun _ => 0))])) : E g cs pc ls (.int v :: st) ws := by
  obtain ⟨p, l, e, R, s, m, args, below, meth, c, dC, dI, tc, A, ad0, n0, Q⟩ := g
  intro ad H locs la ha hl hP hD hS
  obtain ⟨w1, w2, w3⟩ := wfE_spec hwf
  refine va_newa (atype := .int) (ty := .int) (a0 := (N, .inl (fun _ => 0))) hg.1 hg.2.1 (hg.2.2.2.1 _ lk_160) rfl hg.2.2.2.2.1 hP hD hS hg.2.2.2.2.2.1 (fun _ => rfl) hv hN hN5 (by rw [hcap.1]; exact h1) (by rw [hcap.2]; exact h2) hd (fun q cA H1 hK1 hP1 hD1 hS1 => ?_)
  have hcA : cA = tc 0 := by
    have e1 : s.vm.findClass _ = some cA := (hK1.2 5 (cA, .int) rfl).2
    have e2 : s.vm.findClass _ = some (tc 0) := (hg.2.2.2.2.1.2 0 (tc 0, .int) rfl).2
    rw [e1] at e2
    exact Option.some.inj e2
  subst hcA
  have hag := adn_ag (ad := ad) (q := q) hn6
  have e1 : lift (adn ad n q) tc (ws ++ [.inl (0, N, .inl (fun _ => 0))]) = lift ad tc ws ++ [(q, .inl (tc 0, N, .inl (fun _ => 0)))] := by
    rw [lift_push hag hn w3 rfl, adn_self]
    rfl
  have k1 := k (adn ad n q) H1 locs la (ag_adn hn0 hn6 ha) (ml_wf hag w1 hl) (by rw [e1]; exact hP1) (by rw [e1]; exact hD1) hS1
  simp only [List.map_cons, tr, adn_self, map_wf hag w2] at k1
  exact k1
theorem e_newa1 {g : gx} {cc : ByteArray} {own : String} {d : Nat} (hg : EC g cc own d) {mc ms : Nat} (hcap : CAP g mc ms) {cs : Nat × Nat} {pc : Nat} {ls : List (Option Value)} {st : List Value} {ws : List rc} {n N : Nat} {v : Int32} (hd : decode cc pc = .ok (.newarray .long, 2)) (hv : ¬ v < 0) (hN : v.toNatClampNeg = N) (hN5 : N * componentBytes .long ≤ 536870912) (hn : ws.length = n) (hn0 : N0 g n) (hn6 : n < 1000000) (hwf : wfE n ls st ws = true) (h1 : cs.1 + 1 ≤ mc) (h2 : cs.2 + N ≤ ms) (k : E g (cs.1 + 1, cs.2 + N) (pc + 2) ls (.ref n :: st) (ws ++ [.inl (1, N, .inr (.inl (fun _ => 0)))])) : E g cs pc ls (.int v :: st) ws := by
  obtain ⟨p, l, e, R, s, m, args, below, meth, c, dC, dI, tc, A, ad0, n0, Q⟩ := g
  intro ad H locs la ha hl hP hD hS
  obtain ⟨w1, w2, w3⟩ := wfE_spec hwf
  refine va_newa (atype := .long) (ty := .long) (a0 := (N, .inr (.inl (fun _ => 0)))) hg.1 hg.2.1 (hg.2.2.2.1 _ lk_285) rfl hg.2.2.2.2.1 hP hD hS hg.2.2.2.2.2.1 (fun _ => rfl) hv hN hN5 (by rw [hcap.1]; exact h1) (by rw [hcap.2]; exact h2) hd (fun q cA H1 hK1 hP1 hD1 hS1 => ?_)
  have hcA : cA = tc 1 := by
    have e1 : s.vm.findClass _ = some cA := (hK1.2 5 (cA, .long) rfl).2
    have e2 : s.vm.findClass _ = some (tc 1) := (hg.2.2.2.2.1.2 1 (tc 1, .long) rfl).2
    rw [e1] at e2
    exact Option.some.inj e2
  subst hcA
  have hag := adn_ag (ad := ad) (q := q) hn6
  have e1 : lift (adn ad n q) tc (ws ++ [.inl (1, N, .inr (.inl (fun _ => 0)))]) = lift ad tc ws ++ [(q, .inl (tc 1, N, .inr (.inl (fun _ => 0))))] := by
    rw [lift_push hag hn w3 rfl, adn_self]
    rfl
  have k1 := k (adn ad n q) H1 locs la (ag_adn hn0 hn6 ha) (ml_wf hag w1 hl) (by rw [e1]; exact hP1) (by rw [e1]; exact hD1) hS1
  simp only [List.map_cons, tr, adn_self, map_wf hag w2] at k1
  exact k1
theorem e_newa2 {g : gx} {cc : ByteArray} {own : String} {d : Nat} (hg : EC g cc own d) {mc ms : Nat} (hcap : CAP g mc ms) {cs : Nat × Nat} {pc : Nat} {ls : List (Option Value)} {st : List Value} {ws : List rc} {n N : Nat} {v : Int32} (hd : decode cc pc = .ok (.newarray .byte, 2)) (hv : ¬ v < 0) (hN : v.toNatClampNeg = N) (hN5 : N * componentBytes .byte ≤ 536870912) (hn : ws.length = n) (hn0 : N0 g n) (hn6 : n < 1000000) (hwf : wfE n ls st ws = true) (h1 : cs.1 + 1 ≤ mc) (h2 : cs.2 + N ≤ ms) (k : E g (cs.1 + 1, cs.2 + N) (pc + 2) ls (.ref n :: st) (ws ++ [.inl (2, N, .inl (fun _ => 0))])) : E g cs pc ls (.int v :: st) ws := by
  obtain ⟨p, l, e, R, s, m, args, below, meth, c, dC, dI, tc, A, ad0, n0, Q⟩ := g
  intro ad H locs la ha hl hP hD hS
  obtain ⟨w1, w2, w3⟩ := wfE_spec hwf
  refine va_newa (atype := .byte) (ty := .byte) (a0 := (N, .inl (fun _ => 0))) hg.1 hg.2.1 (hg.2.2.2.1 _ lk_229) rfl hg.2.2.2.2.1 hP hD hS hg.2.2.2.2.2.1 (fun _ => rfl) hv hN hN5 (by rw [hcap.1]; exact h1) (by rw [hcap.2]; exact h2) hd (fun q cA H1 hK1 hP1 hD1 hS1 => ?_)
  have hcA : cA = tc 2 := by
    have e1 : s.vm.findClass _ = some cA := (hK1.2 5 (cA, .byte) rfl).2
    have e2 : s.vm.findClass _ = some (tc 2) := (hg.2.2.2.2.1.2 2 (tc 2, .byte) rfl).2
    rw [e1] at e2
    exact Option.some.inj e2
  subst hcA
  have hag := adn_ag (ad := ad) (q := q) hn6
  have e1 : lift (adn ad n q) tc (ws ++ [.inl (2, N, .inl (fun _ => 0))]) = lift ad tc ws ++ [(q, .inl (tc 2, N, .inl (fun _ => 0)))] := by
    rw [lift_push hag hn w3 rfl, adn_self]
    rfl
  have k1 := k (adn ad n q) H1 locs la (ag_adn hn0 hn6 ha) (ml_wf hag w1 hl) (by rw [e1]; exact hP1) (by rw [e1]; exact hD1) hS1
  simp only [List.map_cons, tr, adn_self, map_wf hag w2] at k1
  exact k1
theorem e_newa3 {g : gx} {cc : ByteArray} {own : String} {d : Nat} (hg : EC g cc own d) {mc ms : Nat} (hcap : CAP g mc ms) {cs : Nat × Nat} {pc : Nat} {ls : List (Option Value)} {st : List Value} {ws : List rc} {n N : Nat} {v : Int32} (hd : decode cc pc = .ok (.newarray .boolean, 2)) (hv : ¬ v < 0) (hN : v.toNatClampNeg = N) (hN5 : N * componentBytes .boolean ≤ 536870912) (hn : ws.length = n) (hn0 : N0 g n) (hn6 : n < 1000000) (hwf : wfE n ls st ws = true) (h1 : cs.1 + 1 ≤ mc) (h2 : cs.2 + N ≤ ms) (k : E g (cs.1 + 1, cs.2 + N) (pc + 2) ls (.ref n :: st) (ws ++ [.inl (3, N, .inl (fun _ => 0))])) : E g cs pc ls (.int v :: st) ws := by
  obtain ⟨p, l, e, R, s, m, args, below, meth, c, dC, dI, tc, A, ad0, n0, Q⟩ := g
  intro ad H locs la ha hl hP hD hS
  obtain ⟨w1, w2, w3⟩ := wfE_spec hwf
  refine va_newa (atype := .boolean) (ty := .boolean) (a0 := (N, .inl (fun _ => 0))) hg.1 hg.2.1 (hg.2.2.2.1 _ lk_1176) rfl hg.2.2.2.2.1 hP hD hS hg.2.2.2.2.2.1 (fun _ => rfl) hv hN hN5 (by rw [hcap.1]; exact h1) (by rw [hcap.2]; exact h2) hd (fun q cA H1 hK1 hP1 hD1 hS1 => ?_)
  have hcA : cA = tc 3 := by
    have e1 : s.vm.findClass _ = some cA := (hK1.2 5 (cA, .boolean) rfl).2
    have e2 : s.vm.findClass _ = some (tc 3) := (hg.2.2.2.2.1.2 3 (tc 3, .boolean) rfl).2
    rw [e1] at e2
    exact Option.some.inj e2
  subst hcA
  have hag := adn_ag (ad := ad) (q := q) hn6
  have e1 : lift (adn ad n q) tc (ws ++ [.inl (3, N, .inl (fun _ => 0))]) = lift ad tc ws ++ [(q, .inl (tc 3, N, .inl (fun _ => 0)))] := by
    rw [lift_push hag hn w3 rfl, adn_self]
    rfl
  have k1 := k (adn ad n q) H1 locs la (ag_adn hn0 hn6 ha) (ml_wf hag w1 hl) (by rw [e1]; exact hP1) (by rw [e1]; exact hD1) hS1
  simp only [List.map_cons, tr, adn_self, map_wf hag w2] at k1
  exact k1
theorem e_objInit {g : gx} {cc : ByteArray} {own : String} {d : Nat} (hg : EC g cc own d) (hd1 : 1 ≤ d) {cs : Nat × Nat} {pc idx k0 : Nat} {ls : List (Option Value)} {st : List Value} {ws : List rc} (hw : Cond.methodLink own idx Lib.objectInit ∈ lw_W) (hst : (st.map fun v => v.category).sum ≤ 8) (hd : decode cc pc = .ok (.invokespecial idx, 3)) (k : E g cs (pc + 3) ls st ws) : E g cs pc ls (.ref k0 :: st) ws := by
  obtain ⟨p, l, e, R, s, m, args, below, meth, c, dC, dI, tc, A, ad0, n0, Q⟩ := g
  intro ad H locs la ha hl hP hD hS
  refine W.objInit hg.1 hg.2.1 hg.2.2.1 (hg.2.2.2.1 _ hw) (hg.2.2.2.1 _ (lk_88 : Cond.instanceMethod Lib.objectInit ∈ lw_W)) (hg.2.2.2.1 _ lk_objc) rfl hl.1 rfl hd (Nat.le_trans hd1 hg.2.2.2.2.2.2.1.1.1) ?_ (k ad H locs la ha hl hP hD hS)
  have h8 := lv_room (m := m) (pc := pc) (ls := la) (rest := (st.map (tr ad))) (st := st.map (tr ad)) (by rw [stcat]; exact hst)
  have h60 := hg.2.2.2.2.2.2.1.1.2
  have h0 : 2 * (F0 m pc la (st.map (tr ad))).monitorRoom = 2 * (F0 m pc la ((.ref k0 :: st).map (tr ad))).monitorRoom := rfl
  omega
theorem e_callN {g : gx} {cc : ByteArray} {own : String} {d : Nat} (hg : EC g cc own d) {mc0 ms0 : Nat} (hcap : CAP g mc0 ms0) {cs : Nat × Nat} {pc : Nat} {ls : List (Option Value)} {st rest : List Value} {ws ws' : List rc} {y : MethodName} {b : ByteArray} {maxL n idx d' k0 mc ms : Nat} {a : List Value} (mf : MF y b maxL none n) (hin : Cond.instanceMethod y ∈ lw_W) (hnm : y.name = "<init>") (cn : CN y b maxL d' mc ms (.ref k0 :: a) ws ws') (hw : (∃ host, (own, idx, y, host) ∈ nestL) ∨ Cond.methodLink own idx y ∈ lw_W) (hd : decode cc pc = .ok (.invokespecial idx, 3)) (hst : st = a.reverse ++ .ref k0 :: rest) (hn : a.length = n) (hdd : d' < d) (hsum : (rest.map fun v => v.category).sum ≤ 8) (hn0 : N0 g ws.length) (hwf : wfE ws.length ls rest [] = true) (h1 : cs.1 + mc ≤ mc0) (h2 : cs.2 + ms ≤ ms0) (k : E g (cs.1 + mc, cs.2 + ms) (pc + 3) ls rest ws') : E g cs pc ls st ws := by
  obtain ⟨p, l, e, R, s, m, args, below, meth, c, dC, dI, tc, A, ad0, n0, Q⟩ := g
  intro ad H locs la ha hl hP hD hS
  subst hst
  obtain ⟨w1, w2, -⟩ := wfE_spec hwf
  have hA := hg.2.2.2.2.2.1
  have hsub := As_sub hD hS hA
  have hroom : 2 * (F0 m pc la ((a.reverse ++ .ref k0 :: rest).map (tr ad))).monitorRoom + ((rest.map (tr ad)).map fun v => v.category).sum ≤ 8 := lv_room (by rw [stcat]; exact hsum)
  have hcf : cs.1 + mc ≤ R.cells ∧ cs.2 + ms ≤ R.slots := ⟨by rw [hcap.1]; exact h1, by rw [hcap.2]; exact h2⟩
  have hpre : PreS s H (va_Pc ((.ref k0 :: a).map (tr ad)) (Pw dC dI ad tc ws H.size)) (.ref (ad k0) :: a.map (tr ad)) := ⟨pw_blind, fun U hU hW => ⟨rfl, pw_here hA hg.2.2.2.2.1 hg.2.2.2.2.2.2.2 hg.2.2.2.2.2.2.1.2 ha hP hD hS hU hW⟩⟩
  have hcb := mf_callB_base hg mf hdd (mc := mc) (ms := ms)
  have hr : va_Run p l e R s m args below meth c H locs cs.1 cs.2 mc ms (F0 m pc la ((a.reverse ++ .ref k0 :: rest).map (tr ad))) (rest.map (tr ad)) ((fun _ st oc t => ∃ ad', ag ws.length ad ad' ∧ oc = .returned none ∧ va_P (dC, dI) vwCl (lift ad' tc ws') t.heap ∧ va_D (As ad ws.length H.size) (lift ad' tc ws') ∧ va_F (As ad ws.length H.size) st t) (Value.ref (ad k0) :: a.map (tr ad)).toArray) (As ad ws.length H.size) := by
    rcases hw with ⟨host, hw⟩ | hw
    · exact va_runIN (As := a.map (tr ad)) ⟨hg.1, hg.2.1, rfl, hg.2.2.1, hg.2.2.2.1⟩ (cn l dC dI ad tc H.size) ⟨⟨⟨rfl, rfl, hcb.1, hcb.2.1, hcb.2.2.1, List.mem_cons_self⟩, hcb.2.2.2.1, hcb.2.2.2.2.1, hcb.2.2.2.2.2.1, hcb.2.2.2.2.2.2, va_Nw.use rfl (hg.2.2.2.2.2.2.1.2.1 _ hw)⟩, hnm, hg.2.2.2.1 _ hin⟩ hpre rfl (by rw [List.length_map]; exact hn) hl.1 (by simp [tr]) hroom hd hcf
    · exact va_runI (As := a.map (tr ad)) ⟨hg.1, hg.2.1, rfl, hg.2.2.1, hg.2.2.2.1⟩ (cn l dC dI ad tc H.size) ⟨mf_callB hg mf hw hdd, hnm, hg.2.2.2.1 _ hin⟩ hpre rfl (by rw [List.length_map]; exact hn) hl.1 (by simp [tr]) hroom hd hcf
  intro T hT X
  obtain ⟨v, st₀, t, T', L, h0, X', hL, e1, e2, ⟨ad', hag, hv, hP1, hD1, hz, hk⟩, stp⟩ := hr T hT X
  cases hv
  rw [h0] at hz hk
  have hagn : agn ws.length ad ad' := hag
  have hS1 : va_S A s.heap T'.heap (locs ++ L) := ⟨Nat.le_trans hS.1 (by rw [e1]; exact hz), fun q h1 h2 => by rw [e1, hk q (Nat.lt_of_lt_of_le h1 hS.1) (fun z => h2 (hsub q z))]; exact hS.2.1 q h1 h2, fun q hq => by
    rcases List.mem_append.mp hq with h | h
    · exact hS.2.2 q h
    · exact hsub _ (hL q h)⟩
  obtain ⟨t2, a1, b1⟩ := k ad' T'.heap (locs ++ L) la (fun k hk => (hag k (by have : n0 ≤ ws.length := hn0; omega)).trans (ha k hk)) (ml_wf hagn w1 hl) (by rw [e1]; exact hP1) (hD1.weaken fun _ _ _ h => hsub _ h) hS1 T' rfl X'
  refine ⟨t2, stp t2 ?_, b1⟩
  rw [map_wf hagn w2] at a1
  exact a1
/-- a constructor's contract out of a walk -/
theorem cn_of {y : MethodName} {b : ByteArray} {maxL n d mc ms : Nat} {a : List Value} {ws ws' : List rc} {ls : List (Option Value)} (mf : MF y b maxL none n) (hls : argL a maxL = ls) (hal : (argE a).length ≤ maxL) (hnm : y.name = "<init>")
    (body : ∀ g : gx, EC g b y.cls d → GN g "<init>" → RT g none (mc, ms) none ws' → CAP g mc ms → N0 g ws.length → E g (0, 0) 0 ls [] ws) : CN y b maxL d mc ms a ws ws' := by
  intro l dC dI ad tc sz
  refine Met.ofW (cc := b) (maxL := maxL) (ret := none) mf.2.2.2.2.2 rfl ?_
  intro p e s m args below meth c s₁ B hml hv
  obtain ⟨rfl, hsz, hP, hK, hD, hSP, hNW⟩ := hv
  have hts := atoms_spec (ws := .code y b maxL none :: lw_W) B.pre
  have hown : s.vm.findClass y.cls = some m.cls := findClass_of_methodNamed B.named
  subst hsz
  subst hls
  rw [lg_entry_eq]
  have h := body (p, l, e, rmD d mc ms, s, m, (a.map (tr ad)).toArray, below, meth, c, dC, dI, tc, As ad ws.length s.heap.size, ad, ws.length, MQ below (fun _ st oc t => ∃ ad', ag ws.length ad ad' ∧ oc = .returned none ∧ va_P (dC, dI) vwCl (lift ad' tc ws') t.heap ∧ va_D (As ad ws.length s.heap.size) (lift ad' tc ws') ∧ va_F (As ad ws.length s.heap.size) st t) (a.map (tr ad)).toArray s mc ms (As ad ws.length s.heap.size))
    ⟨B.exec, B.bytes, hown, fun w hw => hts w (List.mem_cons_of_mem _ hw), hK, fun q h => Or.inr h, ⟨⟨Nat.le_refl _, Nat.le_refl _⟩, hNW⟩, hSP⟩
    ((name_of_methodNamed B.named B.method).1.trans hnm)
    ⟨B.returns, B.notSynchronized, _, _, rfl, fun q h => h, fun ad' H locs t ha hP' hD' hS' ht => ⟨ad', ha, rfl, by rw [ht]; exact hP', hD', hS'.F ht⟩⟩
    ⟨rfl, rfl⟩ (Nat.le_refl _)
  exact h ad s.heap [] _ (fun _ _ => rfl) (by rw [hml]; exact ml_entry ad a hal) hP (lift_selfD hD) va_S.rf
