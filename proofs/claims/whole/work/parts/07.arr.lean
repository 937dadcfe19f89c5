def cpok (sp dp n : Int32) (n0 n1 : Nat) : Bool := !(decide (sp < 0)) && !(decide (dp < 0)) && !(decide (n < 0)) && decide (sp.toNatClampNeg + n.toNatClampNeg ≤ n0) && decide (dp.toNatClampNeg + n.toNatClampNeg ≤ n1)
theorem cpok_spec {sp dp n : Int32} {n0 n1 : Nat} (h : cpok sp dp n n0 n1 = true) : ¬ sp < 0 ∧ ¬ dp < 0 ∧ ¬ n < 0 ∧ sp.toNatClampNeg + n.toNatClampNeg ≤ n0 ∧ dp.toNatClampNeg + n.toNatClampNeg ≤ n1 := by
  unfold cpok at h
  simp only [Bool.and_eq_true, Bool.not_eq_true', decide_eq_false_iff_not, decide_eq_true_eq] at h
  exact ⟨h.1.1.1.1, h.1.1.1.2, h.1.1.2, h.1.2, h.2⟩
theorem lk_nat : Cond.native arraycopyName ∈ lw_W := lk_567
theorem lk_sta : Cond.static arraycopyName ∈ lw_W := lk_566
theorem lk_ini : Cond.initialized "java/lang/System" ∈ lw_W := lk_79
def CS (g : gx) (cs a : Nat × Nat) : Prop := cs.1 + a.1 ≤ g.2.2.2.1.cells ∧ cs.2 + a.2 ≤ g.2.2.2.1.slots
theorem cs0 (g : gx) : CS g (0, 0) (0, 0) := ⟨Nat.zero_le _, Nat.zero_le _⟩
theorem e_iald {g : gx} {cc : ByteArray} {own : String} {d : Nat} (hg : EC g cc own d) {cs : Nat × Nat} {pc : Nat} {ls : List (Option Value)} {st : List Value} {ws : List rc} {k0 n : Nat} {f : Nat → Int32} {i : Int32} (hk : ws[k0]? = some (.inl (0, n, .inl f))) (hi : inb i n = true) (hd : decode cc pc = .ok (.iaload, 1)) (k : E g cs (pc + 1) ls (.int (f i.toNatClampNeg) :: st) ws) : E g cs pc ls (.int i :: .ref k0 :: st) ws := by
  obtain ⟨p, l, e, R, s, m, args, below, meth, c, dC, dI, tc, A, ad0, n0, Q⟩ := g
  intro ad H locs la ha hl hP hD hS
  exact va_iald hg.1 hg.2.1 hg.2.2.2.2.1 hP k0 0 (lift_get hk) rfl (inb_vp hi) hd (k ad H locs la ha hl hP hD hS)

theorem e_lald {g : gx} {cc : ByteArray} {own : String} {d : Nat} (hg : EC g cc own d) {cs : Nat × Nat} {pc : Nat} {ls : List (Option Value)} {st : List Value} {ws : List rc} {k0 n : Nat} {f : Nat → Int64} {i : Int32} (hk : ws[k0]? = some (.inl (1, n, .inr (.inl f)))) (hi : inb i n = true) (hd : decode cc pc = .ok (.laload, 1)) (k : E g cs (pc + 1) ls (.long (f i.toNatClampNeg) :: st) ws) : E g cs pc ls (.int i :: .ref k0 :: st) ws := by
  obtain ⟨p, l, e, R, s, m, args, below, meth, c, dC, dI, tc, A, ad0, n0, Q⟩ := g
  intro ad H locs la ha hl hP hD hS
  exact va_lald hg.1 hg.2.1 hg.2.2.2.2.1 hP k0 1 (lift_get hk) rfl (inb_vp hi) hd (k ad H locs la ha hl hP hD hS)

theorem e_bald {g : gx} {cc : ByteArray} {own : String} {d : Nat} (hg : EC g cc own d) {cs : Nat × Nat} {pc : Nat} {ls : List (Option Value)} {st : List Value} {ws : List rc} {k0 n : Nat} {f : Nat → Int32} {i : Int32} (hk : ws[k0]? = some (.inl (2, n, .inl f))) (hi : inb i n = true) (hd : decode cc pc = .ok (.baload, 1)) (k : E g cs (pc + 1) ls (.int (f i.toNatClampNeg) :: st) ws) : E g cs pc ls (.int i :: .ref k0 :: st) ws := by
  obtain ⟨p, l, e, R, s, m, args, below, meth, c, dC, dI, tc, A, ad0, n0, Q⟩ := g
  intro ad H locs la ha hl hP hD hS
  exact va_bald hg.1 hg.2.1 hg.2.2.2.2.1 hP k0 2 (lift_get hk) rfl (inb_vp hi) hd (k ad H locs la ha hl hP hD hS)

theorem e_zald {g : gx} {cc : ByteArray} {own : String} {d : Nat} (hg : EC g cc own d) {cs : Nat × Nat} {pc : Nat} {ls : List (Option Value)} {st : List Value} {ws : List rc} {k0 n : Nat} {f : Nat → Int32} {i : Int32} (hk : ws[k0]? = some (.inl (3, n, .inl f))) (hi : inb i n = true) (hd : decode cc pc = .ok (.baload, 1)) (k : E g cs (pc + 1) ls (.int (f i.toNatClampNeg) :: st) ws) : E g cs pc ls (.int i :: .ref k0 :: st) ws := by
  obtain ⟨p, l, e, R, s, m, args, below, meth, c, dC, dI, tc, A, ad0, n0, Q⟩ := g
  intro ad H locs la ha hl hP hD hS
  exact va_zald hg.1 hg.2.1 hg.2.2.2.2.1 hP k0 3 (lift_get hk) rfl (inb_vp hi) hd (k ad H locs la ha hl hP hD hS)

theorem e_iast {g : gx} {cc : ByteArray} {own : String} {d : Nat} (hg : EC g cc own d) {cs : Nat × Nat} {pc : Nat} {ls : List (Option Value)} {st : List Value} {ws : List rc} {k0 n : Nat} {f : Nat → Int32} {i : Int32} {x : Int32} (hk : ws[k0]? = some (.inl (0, n, .inl f))) (hi : inb i n = true) (hd : decode cc pc = .ok (.iastore, 1)) (k : E g cs (pc + 1) ls st (ws.set k0 (.inl (0, n, .inl (upd f i.toNatClampNeg x))))) : E g cs pc ls (.int x :: .int i :: .ref k0 :: st) ws := by
  obtain ⟨p, l, e, R, s, m, args, below, meth, c, dC, dI, tc, A, ad0, n0, Q⟩ := g
  intro ad H locs la ha hl hP hD hS
  refine va_iast hg.1 hg.2.1 hg.2.2.2.2.1 hP hD hS k0 0 (lift_get hk) rfl (inb_vp hi) hd (fun H1 locs1 hP1 hD1 hS1 => ?_)
  have e1 := lift_set (ad := ad) (tc := tc) (ws := ws) (k := k0) (c := .inl (0, n, .inl (upd f i.toNatClampNeg x)))
  exact k ad H1 locs1 la ha hl (by rw [← e1]; exact hP1) (by rw [← e1]; exact hD1) hS1

theorem e_last {g : gx} {cc : ByteArray} {own : String} {d : Nat} (hg : EC g cc own d) {cs : Nat × Nat} {pc : Nat} {ls : List (Option Value)} {st : List Value} {ws : List rc} {k0 n : Nat} {f : Nat → Int64} {i : Int32} {x : Int64} (hk : ws[k0]? = some (.inl (1, n, .inr (.inl f)))) (hi : inb i n = true) (hd : decode cc pc = .ok (.lastore, 1)) (k : E g cs (pc + 1) ls st (ws.set k0 (.inl (1, n, .inr (.inl (vp_updL f i.toNatClampNeg x)))))) : E g cs pc ls (.long x :: .int i :: .ref k0 :: st) ws := by
  obtain ⟨p, l, e, R, s, m, args, below, meth, c, dC, dI, tc, A, ad0, n0, Q⟩ := g
  intro ad H locs la ha hl hP hD hS
  refine va_last hg.1 hg.2.1 hg.2.2.2.2.1 hP hD hS k0 1 (lift_get hk) rfl (inb_vp hi) hd (fun H1 locs1 hP1 hD1 hS1 => ?_)
  have e1 := lift_set (ad := ad) (tc := tc) (ws := ws) (k := k0) (c := .inl (1, n, .inr (.inl (vp_updL f i.toNatClampNeg x))))
  exact k ad H1 locs1 la ha hl (by rw [← e1]; exact hP1) (by rw [← e1]; exact hD1) hS1

theorem e_bast {g : gx} {cc : ByteArray} {own : String} {d : Nat} (hg : EC g cc own d) {cs : Nat × Nat} {pc : Nat} {ls : List (Option Value)} {st : List Value} {ws : List rc} {k0 n : Nat} {f : Nat → Int32} {i : Int32} {x : Int32} (hk : ws[k0]? = some (.inl (2, n, .inl f))) (hi : inb i n = true) (hd : decode cc pc = .ok (.bastore, 1)) (k : E g cs (pc + 1) ls st (ws.set k0 (.inl (2, n, .inl (upd f i.toNatClampNeg (vp_nar .byte x)))))) : E g cs pc ls (.int x :: .int i :: .ref k0 :: st) ws := by
  obtain ⟨p, l, e, R, s, m, args, below, meth, c, dC, dI, tc, A, ad0, n0, Q⟩ := g
  intro ad H locs la ha hl hP hD hS
  refine va_bast hg.1 hg.2.1 hg.2.2.2.2.1 hP hD hS k0 2 (lift_get hk) rfl (inb_vp hi) hd (fun H1 locs1 hP1 hD1 hS1 => ?_)
  have e1 := lift_set (ad := ad) (tc := tc) (ws := ws) (k := k0) (c := .inl (2, n, .inl (upd f i.toNatClampNeg (vp_nar .byte x))))
  exact k ad H1 locs1 la ha hl (by rw [← e1]; exact hP1) (by rw [← e1]; exact hD1) hS1

theorem e_zast {g : gx} {cc : ByteArray} {own : String} {d : Nat} (hg : EC g cc own d) {cs : Nat × Nat} {pc : Nat} {ls : List (Option Value)} {st : List Value} {ws : List rc} {k0 n : Nat} {f : Nat → Int32} {i : Int32} {x : Int32} (hk : ws[k0]? = some (.inl (3, n, .inl f))) (hi : inb i n = true) (hd : decode cc pc = .ok (.bastore, 1)) (k : E g cs (pc + 1) ls st (ws.set k0 (.inl (3, n, .inl (upd f i.toNatClampNeg (vp_nar .boolean x)))))) : E g cs pc ls (.int x :: .int i :: .ref k0 :: st) ws := by
  obtain ⟨p, l, e, R, s, m, args, below, meth, c, dC, dI, tc, A, ad0, n0, Q⟩ := g
  intro ad H locs la ha hl hP hD hS
  refine va_zast hg.1 hg.2.1 hg.2.2.2.2.1 hP hD hS k0 3 (lift_get hk) rfl (inb_vp hi) hd (fun H1 locs1 hP1 hD1 hS1 => ?_)
  have e1 := lift_set (ad := ad) (tc := tc) (ws := ws) (k := k0) (c := .inl (3, n, .inl (upd f i.toNatClampNeg (vp_nar .boolean x))))
  exact k ad H1 locs1 la ha hl (by rw [← e1]; exact hP1) (by rw [← e1]; exact hD1) hS1

theorem e_aald {g : gx} {cc : ByteArray} {own : String} {d : Nat} (hg : EC g cc own d) {cs : Nat × Nat} {pc : Nat} {ls : List (Option Value)} {st : List Value} {ws : List rc} {k0 n : Nat} {f : Nat → Option Nat} {i : Int32} (hk : ws[k0]? = some (.inl (4, n, .inr (.inr f)))) (hi : inb i n = true) (hd : decode cc pc = .ok (.aaload, 1)) (k : E g cs (pc + 1) ls (vo (f i.toNatClampNeg) :: st) ws) : E g cs pc ls (.int i :: .ref k0 :: st) ws := by
  obtain ⟨p, l, e, R, s, m, args, below, meth, c, dC, dI, tc, A, ad0, n0, Q⟩ := g
  intro ad H locs la ha hl hP hD hS
  have k1 := k ad H locs la ha hl hP hD hS
  simp only [List.map_cons, tr_vo] at k1
  refine va_aldq hg.1 hg.2.1 hg.2.2.2.2.1 hP k0 4 (lift_get hk) rfl (inb_vp hi) hd ?_
  have hlt : i.toNatClampNeg < n := Nat.not_le.mp fun q => inb_vp hi (Or.inr q)
  simp only [if_pos hlt]
  exact k1

theorem e_aast {g : gx} {cc : ByteArray} {own : String} {d : Nat} (hg : EC g cc own d) {cs : Nat × Nat} {pc : Nat} {ls : List (Option Value)} {st : List Value} {ws : List rc} {k0 k1 n : Nat} {f : Nat → Option Nat} {vs : List Value} {i : Int32} (hk : ws[k0]? = some (.inl (4, n, .inr (.inr f)))) (hk1 : ws[k1]? = some (.inr (6, vs))) (hi : inb i n = true) (hd : decode cc pc = .ok (.aastore, 1)) (k : E g cs (pc + 1) ls st (ws.set k0 (.inl (4, n, .inr (.inr (va_up f i.toNatClampNeg (some k1))))))) : E g cs pc ls (.ref k1 :: .int i :: .ref k0 :: st) ws := by
  obtain ⟨p, l, e, R, s, m, args, below, meth, c, dC, dI, tc, A, ad0, n0, Q⟩ := g
  intro ad H locs la ha hl hP hD hS
  refine va_astq (r := (RX6, TX6, 5)) hg.1 hg.2.1 hg.2.2.2.2.1 hP hD hS k0 4 k1 6 (lift_get hk) rfl (lift_get hk1) rfl (inb_vp hi) hd (fun H1 locs1 hP1 hD1 hS1 => ?_)
  have hlt : i.toNatClampNeg < n := Nat.not_le.mp fun q => inb_vp hi (Or.inr q)
  have e0 : va_up (fun j => if j < n then (f j).map ad else none) i.toNatClampNeg (some (ad k1)) = (fun j => if j < n then (va_up f i.toNatClampNeg (some k1) j).map ad else none) := by
    funext j
    unfold va_up
    by_cases hj : j = i.toNatClampNeg
    · simp [hj, hlt]
    · simp [hj]
  have e1 := lift_set (ad := ad) (tc := tc) (ws := ws) (k := k0) (c := .inl (4, n, .inr (.inr (va_up f i.toNatClampNeg (some k1)))))
  simp only [trc] at e1
  rw [← e0] at e1
  exact k ad H1 locs1 la ha hl (by rw [← e1]; exact hP1) (by rw [← e1]; exact hD1) hS1

theorem e_alen {g : gx} {cc : ByteArray} {own : String} {d : Nat} (hg : EC g cc own d) {cs : Nat × Nat} {pc : Nat} {ls : List (Option Value)} {st : List Value} {ws : List rc} {k0 ty n : Nat} {f : (Nat → Int32) ⊕ (Nat → Int64) ⊕ (Nat → Option Nat)} {v : Int32} (hk : ws[k0]? = some (.inl (ty, n, f))) (hty : ty < 5) (hv : Int32.ofNat n = v) (hd : decode cc pc = .ok (.arraylength, 1)) (k : E g cs (pc + 1) ls (.int v :: st) ws) : E g cs pc ls (.ref k0 :: st) ws := by
  obtain ⟨p, l, e, R, s, m, args, below, meth, c, dC, dI, tc, A, ad0, n0, Q⟩ := g
  intro ad H locs la ha hl hP hD hS
  have k1 := k ad H locs la ha hl hP hD hS
  obtain ⟨x, hx, hn⟩ : ∃ x : vp_A, (lift ad tc ws)[k0]? = some (ad k0, .inl (tc ty, x)) ∧ x.1 = n := by
    have h0 := lift_get (ad := ad) (tc := tc) hk
    rcases f with f | f | f
    · exact ⟨_, h0, rfl⟩
    · exact ⟨_, h0, rfl⟩
    · exact ⟨_, h0, rfl⟩
  exact va_alen hg.1 hg.2.1 hg.2.2.2.2.1 hP k0 ty hx (tys_at tc hty) (by rw [hn]; exact hv) hd k1

theorem e_cpyI {g : gx} {cc : ByteArray} {own : String} {d : Nat} (hg : EC g cc own d) {cs : Nat × Nat} {pc : Nat} {ls : List (Option Value)} {st : List Value} {ws : List rc} {k0 k1 n0 n1 idx : Nat} {f f1 : Nat → Int32} {sp dp n : Int32} (hk : ws[k0]? = some (.inl (0, n0, .inl f))) (hk1 : ws[k1]? = some (.inl (0, n1, .inl f1))) (hb : cpok sp dp n n0 n1 = true) (hst : (st.map fun v => v.category).sum ≤ 8) (hR : 1 ≤ d) (hw : Cond.methodLink own idx arraycopyName ∈ lw_W) (hd : decode cc pc = .ok (.invokestatic idx, 3)) (k : E g cs (pc + 3) ls st (ws.set k1 (.inl (0, n1, .inl (va_cpy f f1 sp.toNatClampNeg dp.toNatClampNeg n.toNatClampNeg))))) : E g cs pc ls (.int n :: .int dp :: .ref k1 :: .int sp :: .ref k0 :: st) ws := by
  obtain ⟨p, l, e, R, s, m, args, below, meth, c, dC, dI, tc, A, ad0, n0, Q⟩ := g
  intro ad H locs la ha hl hP hD hS
  obtain ⟨b1, b2, b3, b4, b5⟩ := cpok_spec hb
  have hrm : ((st.map (tr ad)).map fun v => v.category).sum = (st.map fun v => v.category).sum := by
    rw [List.map_map]; congr 1; apply List.map_congr_left; intro v _; exact tr_cat ad v
  refine va_copyi hg.1 hg.2.1 hl.1.symm hg.2.2.1 (hg.2.2.2.1 _ hw) (hg.2.2.2.1 _ lk_nat) (hg.2.2.2.1 _ lk_sta) (hg.2.2.2.1 _ lk_ini) hg.2.2.2.2.1 hP hD hS k0 k1 0 0 (lift_get hk) (lift_get hk1) rfl rfl rfl b1 b2 b3 b4 b5 (fun _ _ => rfl) (Nat.le_trans hR hg.2.2.2.2.2.2.1.1.1) ?_ hd (fun H1 locs1 hP1 hD1 hS1 => ?_)
  · rw [hrm]
    have h60 := hg.2.2.2.2.2.2.1.1.2
    have : nativeFrameWords "java/lang/System" "arraycopy" 5 ≤ 41 := by decide +kernel
    omega
  · have e1 := lift_set (ad := ad) (tc := tc) (ws := ws) (k := k1) (c := .inl (0, n1, .inl (va_cpy f f1 sp.toNatClampNeg dp.toNatClampNeg n.toNatClampNeg)))
    exact k ad H1 locs1 la ha hl (by rw [← e1]; exact hP1) (by rw [← e1]; exact hD1) hS1

theorem e_cpyL {g : gx} {cc : ByteArray} {own : String} {d : Nat} (hg : EC g cc own d) {cs : Nat × Nat} {pc : Nat} {ls : List (Option Value)} {st : List Value} {ws : List rc} {k0 k1 n0 n1 idx : Nat} {f f1 : Nat → Int64} {sp dp n : Int32} (hk : ws[k0]? = some (.inl (1, n0, .inr (.inl f)))) (hk1 : ws[k1]? = some (.inl (1, n1, .inr (.inl f1)))) (hb : cpok sp dp n n0 n1 = true) (hst : (st.map fun v => v.category).sum ≤ 8) (hR : 1 ≤ d) (hw : Cond.methodLink own idx arraycopyName ∈ lw_W) (hd : decode cc pc = .ok (.invokestatic idx, 3)) (k : E g cs (pc + 3) ls st (ws.set k1 (.inl (1, n1, .inr (.inl (va_cpy f f1 sp.toNatClampNeg dp.toNatClampNeg n.toNatClampNeg)))))) : E g cs pc ls (.int n :: .int dp :: .ref k1 :: .int sp :: .ref k0 :: st) ws := by
  obtain ⟨p, l, e, R, s, m, args, below, meth, c, dC, dI, tc, A, ad0, n0, Q⟩ := g
  intro ad H locs la ha hl hP hD hS
  obtain ⟨b1, b2, b3, b4, b5⟩ := cpok_spec hb
  have hrm : ((st.map (tr ad)).map fun v => v.category).sum = (st.map fun v => v.category).sum := by
    rw [List.map_map]; congr 1; apply List.map_congr_left; intro v _; exact tr_cat ad v
  refine va_copyl hg.1 hg.2.1 hl.1.symm hg.2.2.1 (hg.2.2.2.1 _ hw) (hg.2.2.2.1 _ lk_nat) (hg.2.2.2.1 _ lk_sta) (hg.2.2.2.1 _ lk_ini) hg.2.2.2.2.1 hP hD hS k0 k1 1 1 (lift_get hk) (lift_get hk1) rfl rfl rfl b1 b2 b3 b4 b5 (fun _ _ => rfl) (Nat.le_trans hR hg.2.2.2.2.2.2.1.1.1) ?_ hd (fun H1 locs1 hP1 hD1 hS1 => ?_)
  · rw [hrm]
    have h60 := hg.2.2.2.2.2.2.1.1.2
    have : nativeFrameWords "java/lang/System" "arraycopy" 5 ≤ 41 := by decide +kernel
    omega
  · have e1 := lift_set (ad := ad) (tc := tc) (ws := ws) (k := k1) (c := .inl (1, n1, .inr (.inl (va_cpy f f1 sp.toNatClampNeg dp.toNatClampNeg n.toNatClampNeg))))
    exact k ad H1 locs1 la ha hl (by rw [← e1]; exact hP1) (by rw [← e1]; exact hD1) hS1

theorem e_mmax {g : gx} {cc : ByteArray} {own : String} {d : Nat} (hg : EC g cc own d) {cs : Nat × Nat} {pc : Nat} {ls : List (Option Value)} {st : List Value} {ws : List rc} {x y : Int32} {idx : Nat} (hw : Cond.methodLink own idx Lib.Math.max.name ∈ lw_W) (hst : (st.map fun v => v.category).sum ≤ 8) (hR : 1 ≤ d) (hcs : CS g cs (0, 0)) (hd : decode cc pc = .ok (.invokestatic idx, 3)) (k : E g cs (pc + 3) ls (.int (if x < y then y else x) :: st) ws) : E g cs pc ls (.int y :: .int x :: st) ws := by
  obtain ⟨p, l, e, R, s, m, args, below, meth, c, dC, dI, tc, A, ad0, n0, Q⟩ := g
  intro ad H locs la ha hl hP hD hS
  have hrm : ((st.map (tr ad)).map fun v => v.category).sum = (st.map fun v => v.category).sum := by
    rw [List.map_map]; congr 1; apply List.map_congr_left; intro v _; exact tr_cat ad v
  refine va_mmax hg.1 hg.2.1 hl.1.symm hg.2.2.1 (hg.2.2.2.1 _ hw) (hg.2.2.2.1 _ (lk_597 : Cond.static Lib.Math.max.name ∈ lw_W)) (hg.2.2.2.1 _ (lk_80 : Cond.initialized "java/lang/Math" ∈ lw_W)) (hg.2.2.2.1 _ (lk_598 : Cond.code Lib.Math.max.name Lib.Math.max.code 2 (some .int) ∈ lw_W)) (Nat.le_trans hR hg.2.2.2.2.2.2.1.1.1) ?_ hcs.1 hcs.2 hd (k ad H locs la ha hl hP hD hS)
  rw [hrm]
  have h60 := hg.2.2.2.2.2.2.1.1.2
  omega

theorem e_mmin {g : gx} {cc : ByteArray} {own : String} {d : Nat} (hg : EC g cc own d) {cs : Nat × Nat} {pc : Nat} {ls : List (Option Value)} {st : List Value} {ws : List rc} {x y : Int32} {idx : Nat} (hw : Cond.methodLink own idx Lib.Math.min.name ∈ lw_W) (hst : (st.map fun v => v.category).sum ≤ 8) (hR : 1 ≤ d) (hcs : CS g cs (0, 0)) (hd : decode cc pc = .ok (.invokestatic idx, 3)) (k : E g cs (pc + 3) ls (.int (if y < x then y else x) :: st) ws) : E g cs pc ls (.int y :: .int x :: st) ws := by
  obtain ⟨p, l, e, R, s, m, args, below, meth, c, dC, dI, tc, A, ad0, n0, Q⟩ := g
  intro ad H locs la ha hl hP hD hS
  have hrm : ((st.map (tr ad)).map fun v => v.category).sum = (st.map fun v => v.category).sum := by
    rw [List.map_map]; congr 1; apply List.map_congr_left; intro v _; exact tr_cat ad v
  refine va_mmin hg.1 hg.2.1 hl.1.symm hg.2.2.1 (hg.2.2.2.1 _ hw) (hg.2.2.2.1 _ (lk_594 : Cond.static Lib.Math.min.name ∈ lw_W)) (hg.2.2.2.1 _ (lk_80 : Cond.initialized "java/lang/Math" ∈ lw_W)) (hg.2.2.2.1 _ (lk_595 : Cond.code Lib.Math.min.name Lib.Math.min.code 2 (some .int) ∈ lw_W)) (Nat.le_trans hR hg.2.2.2.2.2.2.1.1.1) ?_ hcs.1 hcs.2 hd (k ad H locs la ha hl hP hD hS)
  rw [hrm]
  have h60 := hg.2.2.2.2.2.2.1.1.2
  omega

theorem e_mabs {g : gx} {cc : ByteArray} {own : String} {d : Nat} (hg : EC g cc own d) {cs : Nat × Nat} {pc : Nat} {ls : List (Option Value)} {st : List Value} {ws : List rc} {x : Int64} {idx : Nat} (hw : Cond.methodLink own idx Lib.MathLoose.abs_long.x ∈ lw_W) (hst : (st.map fun v => v.category).sum ≤ 8) (hR : 1 ≤ d) (hcs : CS g cs (0, 0)) (hd : decode cc pc = .ok (.invokestatic idx, 3)) (k : E g cs (pc + 3) ls (.long (if 0 < x then x else -x) :: st) ws) : E g cs pc ls (.long x :: st) ws := by
  obtain ⟨p, l, e, R, s, m, args, below, meth, c, dC, dI, tc, A, ad0, n0, Q⟩ := g
  intro ad H locs la ha hl hP hD hS
  have hrm : ((st.map (tr ad)).map fun v => v.category).sum = (st.map fun v => v.category).sum := by
    rw [List.map_map]; congr 1; apply List.map_congr_left; intro v _; exact tr_cat ad v
  refine va_mabs_long hg.1 hg.2.1 hl.1.symm hg.2.2.1 (hg.2.2.2.1 _ hw) (hg.2.2.2.1 _ (lk_798 : Cond.static Lib.MathLoose.abs_long.x ∈ lw_W)) (hg.2.2.2.1 _ (lk_80 : Cond.initialized "java/lang/Math" ∈ lw_W)) (hg.2.2.2.1 _ (lk_799 : Cond.code Lib.MathLoose.abs_long.x Lib.MathLoose.abs_long.code 2 (some .long) ∈ lw_W)) (Nat.le_trans hR hg.2.2.2.2.2.2.1.1.1) ?_ hcs.1 hcs.2 hd (k ad H locs la ha hl hP hD hS)
  rw [hrm]
  have h60 := hg.2.2.2.2.2.2.1.1.2
  omega
