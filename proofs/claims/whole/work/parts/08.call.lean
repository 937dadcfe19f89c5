/-! ===== calls and ends over E ===== -/
def As (ad : Nat → Nat) (n sz : Nat) : Nat → Prop := fun q => (∃ k, k < n ∧ q = ad k) ∨ sz ≤ q
def Pw (dC : Nat → ClassId) (dI : Nat → Nat → Nat) (ad : Nat → Nat) (tc : Nat → ClassId) (ws : List rc) (sz : Nat) (U : State) : Prop := U.heap.size = sz ∧ va_P (dC, dI) vwCl (lift ad tc ws) U.heap ∧ va_K (dC, dI) vwCl (tysOf tc) U ∧ va_D (fun _ => True) (lift ad tc ws) ∧ SP ad (As ad ws.length sz) U ∧ NW U
def Qm (dC : Nat → ClassId) (dI : Nat → Nat → Nat) (ad : Nat → Nat) (tc : Nat → ClassId) (ws : List rc) (sz : Nat) (r : Option Value) (ws' : List rc) : Array Value → State → Outcome → State → Prop := fun _ st oc t =>
  oc = .returned (r.map (tr ad)) ∧ va_P (dC, dI) vwCl (lift ad tc ws') t.heap ∧ va_D (As ad ws.length sz) (lift ad tc ws') ∧ va_F (As ad ws.length sz) st t
def rmD (d mc ms : Nat) : Room := { frames := d, cells := mc, slots := ms, locals := 60 * d }
/-- a method's contract: from the cells ws with arguments a it answers r, and leaves the cells ws' -/
def CM (y : MethodName) (b : ByteArray) (maxL : Nat) (ret : Option FieldType) (d : Nat) (a : List Value) (ws : List rc) (r : Option Value) (ws' : List rc) : Prop :=
  ∀ (l : Launch) (dC : Nat → ClassId) (dI : Nat → Nat → Nat) (ad : Nat → Nat) (tc : Nat → ClassId) (sz : Nat), Met l y (.code y b maxL ret :: lw_W) (rmD d 0 0) (va_Pc (a.map (tr ad)) (Pw dC dI ad tc ws sz)) (Qm dC dI ad tc ws sz r ws') 0 0 (As ad ws.length sz)
/-- a constructor's: it makes mc cells of ms places -/
def CN (y : MethodName) (b : ByteArray) (maxL d mc ms : Nat) (a : List Value) (ws ws' : List rc) : Prop :=
  ∀ (l : Launch) (dC : Nat → ClassId) (dI : Nat → Nat → Nat) (ad : Nat → Nat) (tc : Nat → ClassId) (sz : Nat), Met l y (.code y b maxL none :: lw_W) (rmD d mc ms) (va_Pc (a.map (tr ad)) (Pw dC dI ad tc ws sz)) (fun _ st oc t => ∃ ad', ag ws.length ad ad' ∧ oc = .returned none ∧ va_P (dC, dI) vwCl (lift ad' tc ws') t.heap ∧ va_D (As ad ws.length sz) (lift ad' tc ws') ∧ va_F (As ad ws.length sz) st t) mc ms (As ad ws.length sz)
theorem SP.to {ad ad' : Nat → Nat} {A A' : Nat → Prop} {s U : State} {H : Heap} {locs : List Loc} (h : SP ad A s) (hS : va_S A s.heap H locs) (hU : U.heap = H) (hv : s.vm.Alike U.vm) (hA : ∀ q, A' q → A q) (h0 : ad' 1000000 = ad 1000000) (h1 : ad' 1000001 = ad 1000001) : SP ad' A' U := by
  unfold SP at h ⊢
  rw [h0, h1, hU]
  obtain ⟨⟨a, b⟩, ⟨c, d⟩⟩ := h
  exact ⟨⟨((a.kept hS.2.1).moved hv).narrow hA, ((b.kept hS.2.1).moved hv).narrow hA⟩, ⟨((c.kept hS.2.1).moved hv).narrow hA, ((d.kept hS.2.1).moved hv).narrow hA⟩⟩
theorem NW.warm {s U : State} (h : NW s) (hW : s.WarmedH U.vm) : NW U := ⟨fun q hq => va_Nw.warmM hW (h.1 q hq), va_AO.moved hW.alike h.2⟩
theorem NW.same {s U : State} (h : NW s) (hv : s.vm = U.vm) : NW U := ⟨fun q hq => va_Nw.same rfl hv (h.1 q hq), va_AO.moved (by rw [hv]; exact Vm.Alike.refl _) h.2⟩
theorem As_sub {A : Nat → Prop} {ad : Nat → Nat} {tc : Nat → ClassId} {ws : List rc} {H0 H : Heap} {locs : List Loc} (hD : va_D A (lift ad tc ws)) (hS : va_S A H0 H locs) (hA : ∀ q, H0.size ≤ q → A q) : ∀ q, As ad ws.length H.size q → A q := by
  rintro q (⟨k, hk, rfl⟩ | h)
  · have h0 := List.getElem?_eq_getElem hk
    exact hD.2 k _ (lift_get h0)
  · exact hA q (Nat.le_trans hS.1 h)
theorem lift_selfD {ad : Nat → Nat} {tc : Nat → ClassId} {ws : List rc} {sz : Nat} (h : va_D (fun _ => True) (lift ad tc ws)) : va_D (As ad ws.length sz) (lift ad tc ws) := by
  refine ⟨h.1, fun k q hk => Or.inl ⟨k, ?_, ?_⟩⟩
  · have := (List.getElem?_eq_some_iff.mp hk).1
    rwa [lift_len] at this
  · have hl : k < ws.length := by have := (List.getElem?_eq_some_iff.mp hk).1; rwa [lift_len] at this
    have h2 := lift_get (ad := ad) (tc := tc) (List.getElem?_eq_getElem hl)
    rw [hk] at h2
    rw [Option.some.inj h2]
theorem pw_blind {a : List Value} {dC : Nat → ClassId} {dI : Nat → Nat → Nat} {ad : Nat → Nat} {tc : Nat → ClassId} {ws : List rc} {sz : Nat} : FrameBlind (va_Pc a (Pw dC dI ad tc ws sz)) := by
  intro av U g mk q
  obtain ⟨q1, q2, q3, q4, q5, q6, q7⟩ := q
  exact ⟨q1, q2, q3, va_K.moved (u := U) (U := U.calling g mk av) (Vm.Alike.refl U.vm) q4, q5, SP.to (locs := []) q6 va_S.rf rfl (Vm.Alike.refl U.vm) (fun _ h => h) rfl rfl, NW.same q7 rfl⟩
theorem run_to {p : Program} {l : Launch} {e : Env} {R : Room} {s : State} {m : MethodId} {args : Array Value} {below : List Frame} {meth : Method} {c : Code} {dC : Nat → ClassId} {dI : Nat → Nat → Nat} {tc : Nat → ClassId} {A : Nat → Prop} {ad0 : Nat → Nat} {n0 : Nat} {Q : State → Prop} {cs : Nat × Nat} {pc : Nat} {ls : List (Option Value)} {rest st0 : List Value} {ws ws' : List rc} {r : Option Value} {ad : Nat → Nat} {H : Heap} {locs : List Loc} {la : Array Slot} {av : Array Value}
    (hA : ∀ q, s.heap.size ≤ q → A q) (ha : ag n0 ad0 ad) (hl : ml la c.maxLocals ad ls) (hD : va_D A (lift ad tc ws)) (hS : va_S A s.heap H locs)
    (hr : va_Run p l e R s m args below meth c H locs cs.1 cs.2 0 0 (F0 m pc la st0) (rest.map (tr ad)) (Qm dC dI ad tc ws H.size r ws' av) (As ad ws.length H.size))
    (k : E (p, l, e, R, s, m, args, below, meth, c, dC, dI, tc, A, ad0, n0, Q) cs (pc + 3) ls (r.toList ++ rest) ws') : W p l e R s m args below meth c H locs cs.1 cs.2 Q (F0 m pc la st0) := by
  have hsub := As_sub hD hS hA
  intro T hT X
  obtain ⟨v, st₀, t, T', L, h0, X', hL, e1, e2, ⟨hv, hP1, hD1, hz, hk⟩, st⟩ := hr T hT X
  cases hv
  rw [h0] at hz hk
  have hS1 : va_S A s.heap T'.heap (locs ++ L) := ⟨Nat.le_trans hS.1 (by rw [e1]; exact hz), fun q h1 h2 => by rw [e1, hk q (Nat.lt_of_lt_of_le h1 hS.1) (fun z => h2 (hsub q z))]; exact hS.2.1 q h1 h2, fun q hq => by
    rcases List.mem_append.mp hq with h | h
    · exact hS.2.2 q h
    · exact hsub _ (hL q h)⟩
  obtain ⟨t2, a1, b1⟩ := k ad T'.heap (locs ++ L) la ha hl (by rw [e1]; exact hP1) (hD1.weaken fun _ _ _ h => hsub _ h) hS1 T' rfl X'
  have e3 : (r.map (tr ad)).toList ++ rest.map (tr ad) = (r.toList ++ rest).map (tr ad) := by cases r <;> rfl
  refine ⟨t2, st t2 ?_, b1⟩
  rw [e3]
  exact a1
/-- what the tables say of a method -/
def MF (y : MethodName) (b : ByteArray) (maxL : Nat) (ret : Option FieldType) (n : Nat) : Prop := Cond.code y b maxL ret ∈ lw_W ∧ Cond.initialized y.cls ∈ lw_W ∧ (y.cls ≠ "java/lang/invoke/MethodHandle" ∧ y.cls ≠ "java/lang/invoke/VarHandle") ∧ (parseMethodDescriptor y.desc).map (fun q => q.parameters.length) = some n ∧ maxL ≤ 40 ∧ plainName y.cls = true
theorem ws_warm {s : State} {args : Array Value} {w0 : Cond} (hts : ∀ w ∈ lw_W, w.before args s = true) (h0 : w0 ∈ lw_W) : ∀ w ∈ (w0 :: lw_W), ∀ (a' : Array Value) (U : State), s.WarmedH U.vm → w.before a' U = true := by
  intro w hw a' U hU
  have hw' : w ∈ lw_W := by
    rcases List.mem_cons.mp hw with rfl | h
    · exact h0
    · exact h
  exact word_at hU (good_of_word (lw_out hw').2) (hts w hw')
theorem mf_callB {p : Program} {l : Launch} {e : Env} {R : Room} {s : State} {m : MethodId} {args : Array Value} {below : List Frame} {meth : Method} {c : Code} {dC : Nat → ClassId} {dI : Nat → Nat → Nat} {tc : Nat → ClassId} {A : Nat → Prop} {ad0 : Nat → Nat} {n0 : Nat} {Q : State → Prop} {cc : ByteArray} {own : String} {d : Nat} (hg : EC (p, l, e, R, s, m, args, below, meth, c, dC, dI, tc, A, ad0, n0, Q) cc own d) {y : MethodName} {b : ByteArray} {maxL n idx d' mc ms : Nat} {ret : Option FieldType} (mf : MF y b maxL ret n) (hw : Cond.methodLink own idx y ∈ lw_W) (hd : d' < d) : CallB R s args own idx y b maxL ret (.code y b maxL ret :: lw_W) (rmD d' mc ms) mc ms n := by
  obtain ⟨-, -, hown, hts, -, -, ⟨⟨hR1, hR2⟩, -⟩, -⟩ := hg
  obtain ⟨m1, m2, m3, m4, m5, -⟩ := mf
  refine ⟨rfl, rfl, by show d' + 1 ≤ R.frames; omega, by show 8 + (maxL + 11) + 60 * d' ≤ R.locals; omega, ws_warm hts m1, List.mem_cons_self, hts _ m1, hts _ m2, m3, fun sig h => ?_, hts _ hw⟩
  rw [h] at m4
  exact (Option.some.inj m4).symm
theorem stcat {ad : Nat → Nat} {st : List Value} : ((st.map (tr ad)).map fun v => v.category).sum = (st.map fun v => v.category).sum := by
  rw [List.map_map]; congr 1; apply List.map_congr_left; intro v _; exact tr_cat ad v
theorem pw_here {s U : State} {H : Heap} {locs : List Loc} {A : Nat → Prop} {dC : Nat → ClassId} {dI : Nat → Nat → Nat} {ad0 ad : Nat → Nat} {tc : Nat → ClassId} {ws : List rc} {n0 : Nat} (hA : ∀ q, s.heap.size ≤ q → A q) (hK : va_K (dC, dI) vwCl (tysOf tc) s) (hSP : SP ad0 A s) (hN : NW s) (ha : ag n0 ad0 ad) (hP : va_P (dC, dI) vwCl (lift ad tc ws) H) (hD : va_D A (lift ad tc ws)) (hS : va_S A s.heap H locs) (hU : U.heap = H) (hW : s.WarmedH U.vm) : Pw dC dI ad tc ws H.size U :=
  ⟨by rw [hU], by rw [hU]; exact hP, va_K.moved hW.alike hK, hD.weaken (fun _ _ _ _ => trivial), SP.to hSP hS hU hW.alike (As_sub hD hS hA) (ha _ (Or.inr (Nat.le_refl _))) (ha _ (Or.inr (by decide))), NW.warm hN hW⟩
theorem e_callV {g : gx} {cc : ByteArray} {own : String} {d : Nat} (hg : EC g cc own d) {cs : Nat × Nat} {pc : Nat} {ls : List (Option Value)} {st rest : List Value} {ws ws' : List rc} {y : MethodName} {b : ByteArray} {maxL n idx d' k0 ci N : Nat} {ret : Option FieldType} {T : u_T} {fs a : List Value} {r : Option Value} (mf : MF y b maxL ret n) (mv : Cond.instanceMethod y ∈ lw_W ∧ Cond.selects y.cls y y ∈ lw_W) (cm : CM y b maxL ret d' (.ref k0 :: a) ws r ws') (hw : Cond.methodLink own idx y ∈ lw_W) (hd : decode cc pc = .ok (.invokevirtual idx, 3)) (hk : ws[k0]? = some (.inr (ci, fs))) (hc : vwCl[ci]? = some (y.cls, T, N)) (hst : st = a.reverse ++ .ref k0 :: rest) (hn : a.length = n) (hdd : d' < d) (hsum : (rest.map fun v => v.category).sum ≤ 8) (hcs : CS g cs (0, 0)) (k : E g cs (pc + 3) ls (r.toList ++ rest) ws') : E g cs pc ls st ws := by
  obtain ⟨p, l, e, R, s, m, args, below, meth, c, dC, dI, tc, A, ad0, n0, Q⟩ := g
  intro ad H locs la ha hl hP hD hS
  subst hst
  have hsub := As_sub hD hS hg.2.2.2.2.2.1
  refine run_to hg.2.2.2.2.2.1 ha hl hD hS (va_runV (b := ad k0) (As := a.map (tr ad)) (rest := rest.map (tr ad)) ⟨hg.1, hg.2.1, rfl, hg.2.2.1, hg.2.2.2.1⟩ (cm l dC dI ad tc H.size) ⟨mf_callB hg mf hw hdd, hg.2.2.2.1 _ mv.1, hg.2.2.2.1 _ mv.2⟩ ⟨pw_blind, va_recv hg.2.2.2.2.1 hP hc (lift_get hk), fun U hU hW => ⟨rfl, pw_here hg.2.2.2.2.2.1 hg.2.2.2.2.1 hg.2.2.2.2.2.2.2 hg.2.2.2.2.2.2.1.2 ha hP hD hS hU hW⟩⟩ rfl (by rw [List.length_map]; exact hn) hl.1 (by simp [tr]) ?_ hd hcs) k
  refine lv_room ?_
  rw [stcat]; exact hsum
theorem e_callS {g : gx} {cc : ByteArray} {own : String} {d : Nat} (hg : EC g cc own d) {cs : Nat × Nat} {pc : Nat} {ls : List (Option Value)} {st rest : List Value} {ws ws' : List rc} {y : MethodName} {b : ByteArray} {maxL n idx d' : Nat} {ret : Option FieldType} {a : List Value} {r : Option Value} (mf : MF y b maxL ret n) (mv : Cond.static y ∈ lw_W) (cm : CM y b maxL ret d' a ws r ws') (hw : Cond.methodLink own idx y ∈ lw_W) (hd : decode cc pc = .ok (.invokestatic idx, 3)) (hst : st = a.reverse ++ rest) (hn : a.length = n) (hdd : d' < d) (hsum : (rest.map fun v => v.category).sum ≤ 8) (hcs : CS g cs (0, 0)) (k : E g cs (pc + 3) ls (r.toList ++ rest) ws') : E g cs pc ls st ws := by
  obtain ⟨p, l, e, R, s, m, args, below, meth, c, dC, dI, tc, A, ad0, n0, Q⟩ := g
  intro ad H locs la ha hl hP hD hS
  subst hst
  have hsub := As_sub hD hS hg.2.2.2.2.2.1
  refine run_to hg.2.2.2.2.2.1 ha hl hD hS (va_runS (As := a.map (tr ad)) (rest := rest.map (tr ad)) ⟨hg.1, hg.2.1, rfl, hg.2.2.1, hg.2.2.2.1⟩ (cm l dC dI ad tc H.size) ⟨mf_callB hg mf hw hdd, hg.2.2.2.1 _ mv⟩ ⟨pw_blind, fun U hU hW => ⟨rfl, pw_here hg.2.2.2.2.2.1 hg.2.2.2.2.1 hg.2.2.2.2.2.2.2 hg.2.2.2.2.2.2.1.2 ha hP hD hS hU hW⟩⟩ rfl (by rw [List.length_map]; exact hn) hl.1 (by simp) ?_ hd hcs) k
  refine lv_room ?_
  rw [stcat]; exact hsum
/-- what the end of a method needs -/
def RT (g : gx) (ret : Option FieldType) (cs : Nat × Nat) (r : Option Value) (ws' : List rc) : Prop :=
  match g with
  | (p, l, e, R, s, m, args, below, meth, c, dC, dI, tc, A, ad0, n0, Q) =>
    meth.sig.returnType = ret ∧ meth.locks = false ∧ ∃ (Qc : Array Value → State → Outcome → State → Prop) (free : Addr → Prop), Q = MQ below Qc args s cs.1 cs.2 free ∧ (∀ q, A q → free q) ∧ ∀ (ad : Nat → Nat) (H : Heap) (locs : List Loc) (t : State), ag n0 ad0 ad → va_P (dC, dI) vwCl (lift ad tc ws') H → va_D A (lift ad tc ws') → va_S A s.heap H locs → t.heap = H → Qc args s (.returned (r.map (tr ad))) t
theorem e_iret {g : gx} {cc : ByteArray} {own : String} {d : Nat} (hg : EC g cc own d) {cs : Nat × Nat} {pc : Nat} {ls : List (Option Value)} {ws : List rc} {v : Int32} (hr : RT g (some .int) cs (some (.int v)) ws) (hd : decode cc pc = .ok (.ireturn, 1)) : E g cs pc ls [.int v] ws := by
  obtain ⟨p, l, e, R, s, m, args, below, meth, c, dC, dI, tc, A, ad0, n0, Q⟩ := g
  intro ad H locs la ha hl hP hD hS
  obtain ⟨h1, h2, Qc, free, rfl, hf, hq⟩ := hr
  exact W.iret hg.1 hg.2.1 h1 (fun t ht _ => hq ad H locs t ha hP hD hS ht) (fun q h => hf _ (hS.2.2 q h)) hd h2
theorem e_zret {g : gx} {cc : ByteArray} {own : String} {d : Nat} (hg : EC g cc own d) {cs : Nat × Nat} {pc : Nat} {ls : List (Option Value)} {ws : List rc} {v : Int32} (hr : RT g (some .boolean) cs (some (.int v)) ws) (hn : narrow .boolean (.int v) = .int v) (hd : decode cc pc = .ok (.ireturn, 1)) : E g cs pc ls [.int v] ws := by
  obtain ⟨p, l, e, R, s, m, args, below, meth, c, dC, dI, tc, A, ad0, n0, Q⟩ := g
  intro ad H locs la ha hl hP hD hS
  obtain ⟨h1, h2, Qc, free, rfl, hf, hq⟩ := hr
  exact W.zret hg.1 hg.2.1 h1 hn (fun t ht _ => hq ad H locs t ha hP hD hS ht) (fun q h => hf _ (hS.2.2 q h)) hd h2
theorem e_lret {g : gx} {cc : ByteArray} {own : String} {d : Nat} (hg : EC g cc own d) {cs : Nat × Nat} {pc : Nat} {ls : List (Option Value)} {ws : List rc} {v : Int64} (hr : RT g (some .long) cs (some (.long v)) ws) (hd : decode cc pc = .ok (.lreturn, 1)) : E g cs pc ls [.long v] ws := by
  obtain ⟨p, l, e, R, s, m, args, below, meth, c, dC, dI, tc, A, ad0, n0, Q⟩ := g
  intro ad H locs la ha hl hP hD hS
  obtain ⟨h1, h2, Qc, free, rfl, hf, hq⟩ := hr
  exact W.lret hg.1 hg.2.1 h1 (fun t ht _ => hq ad H locs t ha hP hD hS ht) (fun q h => hf _ (hS.2.2 q h)) hd h2
theorem e_vret {g : gx} {cc : ByteArray} {own : String} {d : Nat} (hg : EC g cc own d) {cs : Nat × Nat} {pc : Nat} {ls : List (Option Value)} {ws : List rc} (hr : RT g none cs none ws) (hd : decode cc pc = .ok (.return_, 1)) : E g cs pc ls [] ws := by
  obtain ⟨p, l, e, R, s, m, args, below, meth, c, dC, dI, tc, A, ad0, n0, Q⟩ := g
  intro ad H locs la ha hl hP hD hS
  obtain ⟨h1, h2, Qc, free, rfl, hf, hq⟩ := hr
  exact W.vret hg.1 hg.2.1 h1 (fun t ht _ => hq ad H locs t ha hP hD hS ht) (fun q h => hf _ (hS.2.2 q h)) hd h2
theorem e_aret {g : gx} {cc : ByteArray} {own : String} {d : Nat} (hg : EC g cc own d) {cs : Nat × Nat} {pc : Nat} {ls : List (Option Value)} {ws : List rc} {v : Option Nat} {rt : FieldType} (hrt : (∃ n, rt = .object n) ∨ ∃ t, rt = .array t) (hr : RT g (some rt) cs (some (vo v)) ws) (hd : decode cc pc = .ok (.areturn, 1)) : E g cs pc ls [vo v] ws := by
  obtain ⟨p, l, e, R, s, m, args, below, meth, c, dC, dI, tc, A, ad0, n0, Q⟩ := g
  intro ad H locs la ha hl hP hD hS
  obtain ⟨h1, h2, Qc, free, rfl, hf, hq⟩ := hr
  exact W.aret hg.1 hg.2.1 h1 hrt (by cases v <;> simp [vo, tr]) (fun t ht _ => hq ad H locs t ha hP hD hS ht) (fun q h => hf _ (hS.2.2 q h)) hd h2
/-- a contract out of a walk -/
theorem cm_of {y : MethodName} {b : ByteArray} {maxL n : Nat} {ret : Option FieldType} {d : Nat} {a : List Value} {ws : List rc} {r : Option Value} {ws' : List rc} {ls : List (Option Value)} (mf : MF y b maxL ret n) (hls : argL a maxL = ls) (hal : (argE a).length ≤ maxL)
    (body : ∀ g : gx, EC g b y.cls d → RT g ret (0, 0) r ws' → E g (0, 0) 0 ls [] ws) : CM y b maxL ret d a ws r ws' := by
  intro l dC dI ad tc sz
  refine Met.ofW (cc := b) (maxL := maxL) (ret := ret) mf.2.2.2.2.2 rfl ?_
  intro p e s m args below meth c s₁ B hml hv
  obtain ⟨rfl, hsz, hP, hK, hD, hSP, hNW⟩ := hv
  have hts := atoms_spec (ws := .code y b maxL ret :: lw_W) B.pre
  have hown : s.vm.findClass y.cls = some m.cls := findClass_of_methodNamed B.named
  subst hsz
  subst hls
  rw [lg_entry_eq]
  have h := body (p, l, e, rmD d 0 0, s, m, (a.map (tr ad)).toArray, below, meth, c, dC, dI, tc, As ad ws.length s.heap.size, ad, 1000000, MQ below (Qm dC dI ad tc ws s.heap.size r ws') (a.map (tr ad)).toArray s 0 0 (As ad ws.length s.heap.size))
    ⟨B.exec, B.bytes, hown, fun w hw => hts w (List.mem_cons_of_mem _ hw), hK, fun q h => Or.inr h, ⟨⟨Nat.le_refl _, Nat.le_refl _⟩, hNW⟩, hSP⟩
    ⟨B.returns, B.notSynchronized, _, _, rfl, fun q h => h, fun ad' H locs t ha hP' hD' hS' ht => by
      have e1 : ad' = ad := funext fun k => ha k (by omega)
      subst e1
      exact ⟨rfl, by rw [ht]; exact hP', hD', hS'.F ht⟩⟩
  exact h ad s.heap [] _ (fun _ _ => rfl) (by rw [hml]; exact ml_entry ad a hal) hP (lift_selfD hD) va_S.rf
