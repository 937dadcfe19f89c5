theorem e_iadd {g : gx} {cc : ByteArray} {own : String} {d : Nat} (hg : EC g cc own d) {cs : Nat × Nat} {pc : Nat} {ls : List (Option Value)} {st : List Value} {ws : List rc} {x y : Int32} (hd : decode cc pc = .ok (.iadd, 1))  (k : E g cs (pc + 1) ls (.int (x + y) :: st) ws) : E g cs pc ls (.int y :: .int x :: st) ws := by
  obtain ⟨p, l, e, R, s, m, args, below, meth, c, dC, dI, tc, A, ad0, n0, Q⟩ := g
  intro ad H locs la ha hl hP hD hS
  exact lv_iadd hg.1 hg.2.1 hd (k ad H locs la ha hl hP hD hS)

theorem e_isub {g : gx} {cc : ByteArray} {own : String} {d : Nat} (hg : EC g cc own d) {cs : Nat × Nat} {pc : Nat} {ls : List (Option Value)} {st : List Value} {ws : List rc} {x y : Int32} (hd : decode cc pc = .ok (.isub, 1))  (k : E g cs (pc + 1) ls (.int (x - y) :: st) ws) : E g cs pc ls (.int y :: .int x :: st) ws := by
  obtain ⟨p, l, e, R, s, m, args, below, meth, c, dC, dI, tc, A, ad0, n0, Q⟩ := g
  intro ad H locs la ha hl hP hD hS
  exact lv_isub hg.1 hg.2.1 hd (k ad H locs la ha hl hP hD hS)

theorem e_imul {g : gx} {cc : ByteArray} {own : String} {d : Nat} (hg : EC g cc own d) {cs : Nat × Nat} {pc : Nat} {ls : List (Option Value)} {st : List Value} {ws : List rc} {x y : Int32} (hd : decode cc pc = .ok (.imul, 1))  (k : E g cs (pc + 1) ls (.int (x * y) :: st) ws) : E g cs pc ls (.int y :: .int x :: st) ws := by
  obtain ⟨p, l, e, R, s, m, args, below, meth, c, dC, dI, tc, A, ad0, n0, Q⟩ := g
  intro ad H locs la ha hl hP hD hS
  exact lv_imul hg.1 hg.2.1 hd (k ad H locs la ha hl hP hD hS)

theorem e_iand {g : gx} {cc : ByteArray} {own : String} {d : Nat} (hg : EC g cc own d) {cs : Nat × Nat} {pc : Nat} {ls : List (Option Value)} {st : List Value} {ws : List rc} {x y : Int32} (hd : decode cc pc = .ok (.iand, 1))  (k : E g cs (pc + 1) ls (.int (x &&& y) :: st) ws) : E g cs pc ls (.int y :: .int x :: st) ws := by
  obtain ⟨p, l, e, R, s, m, args, below, meth, c, dC, dI, tc, A, ad0, n0, Q⟩ := g
  intro ad H locs la ha hl hP hD hS
  exact lv_iand hg.1 hg.2.1 hd (k ad H locs la ha hl hP hD hS)

theorem e_ior {g : gx} {cc : ByteArray} {own : String} {d : Nat} (hg : EC g cc own d) {cs : Nat × Nat} {pc : Nat} {ls : List (Option Value)} {st : List Value} {ws : List rc} {x y : Int32} (hd : decode cc pc = .ok (.ior, 1))  (k : E g cs (pc + 1) ls (.int (x ||| y) :: st) ws) : E g cs pc ls (.int y :: .int x :: st) ws := by
  obtain ⟨p, l, e, R, s, m, args, below, meth, c, dC, dI, tc, A, ad0, n0, Q⟩ := g
  intro ad H locs la ha hl hP hD hS
  exact lv_ior hg.1 hg.2.1 hd (k ad H locs la ha hl hP hD hS)

theorem e_ixor {g : gx} {cc : ByteArray} {own : String} {d : Nat} (hg : EC g cc own d) {cs : Nat × Nat} {pc : Nat} {ls : List (Option Value)} {st : List Value} {ws : List rc} {x y : Int32} (hd : decode cc pc = .ok (.ixor, 1))  (k : E g cs (pc + 1) ls (.int (x ^^^ y) :: st) ws) : E g cs pc ls (.int y :: .int x :: st) ws := by
  obtain ⟨p, l, e, R, s, m, args, below, meth, c, dC, dI, tc, A, ad0, n0, Q⟩ := g
  intro ad H locs la ha hl hP hD hS
  exact lv_ixor hg.1 hg.2.1 hd (k ad H locs la ha hl hP hD hS)

theorem e_ishl {g : gx} {cc : ByteArray} {own : String} {d : Nat} (hg : EC g cc own d) {cs : Nat × Nat} {pc : Nat} {ls : List (Option Value)} {st : List Value} {ws : List rc} {x y : Int32} (hd : decode cc pc = .ok (.ishl, 1))  (k : E g cs (pc + 1) ls (.int (x <<< (y &&& 31)) :: st) ws) : E g cs pc ls (.int y :: .int x :: st) ws := by
  obtain ⟨p, l, e, R, s, m, args, below, meth, c, dC, dI, tc, A, ad0, n0, Q⟩ := g
  intro ad H locs la ha hl hP hD hS
  exact lv_ishl hg.1 hg.2.1 hd (k ad H locs la ha hl hP hD hS)

theorem e_ladd {g : gx} {cc : ByteArray} {own : String} {d : Nat} (hg : EC g cc own d) {cs : Nat × Nat} {pc : Nat} {ls : List (Option Value)} {st : List Value} {ws : List rc} {x y : Int64} (hd : decode cc pc = .ok (.ladd, 1))  (k : E g cs (pc + 1) ls (.long (x + y) :: st) ws) : E g cs pc ls (.long y :: .long x :: st) ws := by
  obtain ⟨p, l, e, R, s, m, args, below, meth, c, dC, dI, tc, A, ad0, n0, Q⟩ := g
  intro ad H locs la ha hl hP hD hS
  exact lv_ladd hg.1 hg.2.1 hd (k ad H locs la ha hl hP hD hS)

theorem e_lsub {g : gx} {cc : ByteArray} {own : String} {d : Nat} (hg : EC g cc own d) {cs : Nat × Nat} {pc : Nat} {ls : List (Option Value)} {st : List Value} {ws : List rc} {x y : Int64} (hd : decode cc pc = .ok (.lsub, 1))  (k : E g cs (pc + 1) ls (.long (x - y) :: st) ws) : E g cs pc ls (.long y :: .long x :: st) ws := by
  obtain ⟨p, l, e, R, s, m, args, below, meth, c, dC, dI, tc, A, ad0, n0, Q⟩ := g
  intro ad H locs la ha hl hP hD hS
  exact lv_lsub hg.1 hg.2.1 hd (k ad H locs la ha hl hP hD hS)

theorem e_lmul {g : gx} {cc : ByteArray} {own : String} {d : Nat} (hg : EC g cc own d) {cs : Nat × Nat} {pc : Nat} {ls : List (Option Value)} {st : List Value} {ws : List rc} {x y : Int64} (hd : decode cc pc = .ok (.lmul, 1))  (k : E g cs (pc + 1) ls (.long (x * y) :: st) ws) : E g cs pc ls (.long y :: .long x :: st) ws := by
  obtain ⟨p, l, e, R, s, m, args, below, meth, c, dC, dI, tc, A, ad0, n0, Q⟩ := g
  intro ad H locs la ha hl hP hD hS
  exact lv_lmul hg.1 hg.2.1 hd (k ad H locs la ha hl hP hD hS)

theorem e_land {g : gx} {cc : ByteArray} {own : String} {d : Nat} (hg : EC g cc own d) {cs : Nat × Nat} {pc : Nat} {ls : List (Option Value)} {st : List Value} {ws : List rc} {x y : Int64} (hd : decode cc pc = .ok (.land, 1))  (k : E g cs (pc + 1) ls (.long (x &&& y) :: st) ws) : E g cs pc ls (.long y :: .long x :: st) ws := by
  obtain ⟨p, l, e, R, s, m, args, below, meth, c, dC, dI, tc, A, ad0, n0, Q⟩ := g
  intro ad H locs la ha hl hP hD hS
  exact lv_land hg.1 hg.2.1 hd (k ad H locs la ha hl hP hD hS)

theorem e_lor {g : gx} {cc : ByteArray} {own : String} {d : Nat} (hg : EC g cc own d) {cs : Nat × Nat} {pc : Nat} {ls : List (Option Value)} {st : List Value} {ws : List rc} {x y : Int64} (hd : decode cc pc = .ok (.lor, 1))  (k : E g cs (pc + 1) ls (.long (x ||| y) :: st) ws) : E g cs pc ls (.long y :: .long x :: st) ws := by
  obtain ⟨p, l, e, R, s, m, args, below, meth, c, dC, dI, tc, A, ad0, n0, Q⟩ := g
  intro ad H locs la ha hl hP hD hS
  exact lv_lor hg.1 hg.2.1 hd (k ad H locs la ha hl hP hD hS)

theorem e_ineg {g : gx} {cc : ByteArray} {own : String} {d : Nat} (hg : EC g cc own d) {cs : Nat × Nat} {pc : Nat} {ls : List (Option Value)} {st : List Value} {ws : List rc} {x : Int32} (hd : decode cc pc = .ok (.ineg, 1))  (k : E g cs (pc + 1) ls (.int (-x) :: st) ws) : E g cs pc ls (.int x :: st) ws := by
  obtain ⟨p, l, e, R, s, m, args, below, meth, c, dC, dI, tc, A, ad0, n0, Q⟩ := g
  intro ad H locs la ha hl hP hD hS
  exact lv_ineg hg.1 hg.2.1 hd (k ad H locs la ha hl hP hD hS)

theorem e_lneg {g : gx} {cc : ByteArray} {own : String} {d : Nat} (hg : EC g cc own d) {cs : Nat × Nat} {pc : Nat} {ls : List (Option Value)} {st : List Value} {ws : List rc} {x : Int64} (hd : decode cc pc = .ok (.lneg, 1))  (k : E g cs (pc + 1) ls (.long (-x) :: st) ws) : E g cs pc ls (.long x :: st) ws := by
  obtain ⟨p, l, e, R, s, m, args, below, meth, c, dC, dI, tc, A, ad0, n0, Q⟩ := g
  intro ad H locs la ha hl hP hD hS
  exact lv_lneg hg.1 hg.2.1 hd (k ad H locs la ha hl hP hD hS)

theorem e_idiv {g : gx} {cc : ByteArray} {own : String} {d : Nat} (hg : EC g cc own d) {cs : Nat × Nat} {pc : Nat} {ls : List (Option Value)} {st : List Value} {ws : List rc} {x y : Int32} (hd : decode cc pc = .ok (.idiv, 1)) (hne : ¬ y = 0) (k : E g cs (pc + 1) ls (.int (x / y) :: st) ws) : E g cs pc ls (.int y :: .int x :: st) ws := by
  obtain ⟨p, l, e, R, s, m, args, below, meth, c, dC, dI, tc, A, ad0, n0, Q⟩ := g
  intro ad H locs la ha hl hP hD hS
  exact lv_idiv hg.1 hg.2.1 hd hne (k ad H locs la ha hl hP hD hS)

theorem e_irem {g : gx} {cc : ByteArray} {own : String} {d : Nat} (hg : EC g cc own d) {cs : Nat × Nat} {pc : Nat} {ls : List (Option Value)} {st : List Value} {ws : List rc} {x y : Int32} (hd : decode cc pc = .ok (.irem, 1)) (hne : ¬ y = 0) (k : E g cs (pc + 1) ls (.int (x - x / y * y) :: st) ws) : E g cs pc ls (.int y :: .int x :: st) ws := by
  obtain ⟨p, l, e, R, s, m, args, below, meth, c, dC, dI, tc, A, ad0, n0, Q⟩ := g
  intro ad H locs la ha hl hP hD hS
  exact lv_irem hg.1 hg.2.1 hd hne (k ad H locs la ha hl hP hD hS)

theorem e_ldiv {g : gx} {cc : ByteArray} {own : String} {d : Nat} (hg : EC g cc own d) {cs : Nat × Nat} {pc : Nat} {ls : List (Option Value)} {st : List Value} {ws : List rc} {x y : Int64} (hd : decode cc pc = .ok (.ldiv, 1)) (hne : ¬ y = 0) (k : E g cs (pc + 1) ls (.long (x / y) :: st) ws) : E g cs pc ls (.long y :: .long x :: st) ws := by
  obtain ⟨p, l, e, R, s, m, args, below, meth, c, dC, dI, tc, A, ad0, n0, Q⟩ := g
  intro ad H locs la ha hl hP hD hS
  exact lv_ldiv hg.1 hg.2.1 hd hne (k ad H locs la ha hl hP hD hS)

theorem e_lrem {g : gx} {cc : ByteArray} {own : String} {d : Nat} (hg : EC g cc own d) {cs : Nat × Nat} {pc : Nat} {ls : List (Option Value)} {st : List Value} {ws : List rc} {x y : Int64} (hd : decode cc pc = .ok (.lrem, 1)) (hne : ¬ y = 0) (k : E g cs (pc + 1) ls (.long (x - x / y * y) :: st) ws) : E g cs pc ls (.long y :: .long x :: st) ws := by
  obtain ⟨p, l, e, R, s, m, args, below, meth, c, dC, dI, tc, A, ad0, n0, Q⟩ := g
  intro ad H locs la ha hl hP hD hS
  exact lv_lrem hg.1 hg.2.1 hd hne (k ad H locs la ha hl hP hD hS)

theorem e_iushr {g : gx} {cc : ByteArray} {own : String} {d : Nat} (hg : EC g cc own d) {cs : Nat × Nat} {pc : Nat} {ls : List (Option Value)} {st : List Value} {ws : List rc} {x y : Int32} (hd : decode cc pc = .ok (.iushr, 1))  (k : E g cs (pc + 1) ls (.int (x.toUInt32 >>> (y.toUInt32 &&& Int32.toUInt32 31)).toInt32 :: st) ws) : E g cs pc ls (.int y :: .int x :: st) ws := by
  obtain ⟨p, l, e, R, s, m, args, below, meth, c, dC, dI, tc, A, ad0, n0, Q⟩ := g
  intro ad H locs la ha hl hP hD hS
  exact lv_iushr hg.1 hg.2.1 hd rfl (k ad H locs la ha hl hP hD hS)

theorem e_lshl {g : gx} {cc : ByteArray} {own : String} {d : Nat} (hg : EC g cc own d) {cs : Nat × Nat} {pc : Nat} {ls : List (Option Value)} {st : List Value} {ws : List rc} {x : Int64} {y : Int32} (hd : decode cc pc = .ok (.lshl, 1))  (k : E g cs (pc + 1) ls (.long (x <<< (y.toInt64 &&& 63)) :: st) ws) : E g cs pc ls (.int y :: .long x :: st) ws := by
  obtain ⟨p, l, e, R, s, m, args, below, meth, c, dC, dI, tc, A, ad0, n0, Q⟩ := g
  intro ad H locs la ha hl hP hD hS
  exact lv_lshl hg.1 hg.2.1 hd rfl (k ad H locs la ha hl hP hD hS)

theorem e_lshr {g : gx} {cc : ByteArray} {own : String} {d : Nat} (hg : EC g cc own d) {cs : Nat × Nat} {pc : Nat} {ls : List (Option Value)} {st : List Value} {ws : List rc} {x : Int64} {y : Int32} (hd : decode cc pc = .ok (.lshr, 1))  (k : E g cs (pc + 1) ls (.long (x >>> (y.toInt64 &&& 63)) :: st) ws) : E g cs pc ls (.int y :: .long x :: st) ws := by
  obtain ⟨p, l, e, R, s, m, args, below, meth, c, dC, dI, tc, A, ad0, n0, Q⟩ := g
  intro ad H locs la ha hl hP hD hS
  exact lv_lshr hg.1 hg.2.1 hd rfl (k ad H locs la ha hl hP hD hS)

theorem e_i2l {g : gx} {cc : ByteArray} {own : String} {d : Nat} (hg : EC g cc own d) {cs : Nat × Nat} {pc : Nat} {ls : List (Option Value)} {st : List Value} {ws : List rc} {x : Int32} (hd : decode cc pc = .ok (.i2l, 1))  (k : E g cs (pc + 1) ls (.long x.toInt64 :: st) ws) : E g cs pc ls (.int x :: st) ws := by
  obtain ⟨p, l, e, R, s, m, args, below, meth, c, dC, dI, tc, A, ad0, n0, Q⟩ := g
  intro ad H locs la ha hl hP hD hS
  exact lv_i2l hg.1 hg.2.1 hd rfl (k ad H locs la ha hl hP hD hS)

theorem e_l2i {g : gx} {cc : ByteArray} {own : String} {d : Nat} (hg : EC g cc own d) {cs : Nat × Nat} {pc : Nat} {ls : List (Option Value)} {st : List Value} {ws : List rc} {x : Int64} (hd : decode cc pc = .ok (.l2i, 1))  (k : E g cs (pc + 1) ls (.int x.toInt32 :: st) ws) : E g cs pc ls (.long x :: st) ws := by
  obtain ⟨p, l, e, R, s, m, args, below, meth, c, dC, dI, tc, A, ad0, n0, Q⟩ := g
  intro ad H locs la ha hl hP hD hS
  exact lv_l2i hg.1 hg.2.1 hd rfl (k ad H locs la ha hl hP hD hS)

theorem e_i2b {g : gx} {cc : ByteArray} {own : String} {d : Nat} (hg : EC g cc own d) {cs : Nat × Nat} {pc : Nat} {ls : List (Option Value)} {st : List Value} {ws : List rc} {x : Int32} (hd : decode cc pc = .ok (.i2b, 1))  (k : E g cs (pc + 1) ls (.int x.toInt8.toInt32 :: st) ws) : E g cs pc ls (.int x :: st) ws := by
  obtain ⟨p, l, e, R, s, m, args, below, meth, c, dC, dI, tc, A, ad0, n0, Q⟩ := g
  intro ad H locs la ha hl hP hD hS
  exact lv_i2b hg.1 hg.2.1 hd rfl (k ad H locs la ha hl hP hD hS)

theorem e_i2s {g : gx} {cc : ByteArray} {own : String} {d : Nat} (hg : EC g cc own d) {cs : Nat × Nat} {pc : Nat} {ls : List (Option Value)} {st : List Value} {ws : List rc} {x : Int32} (hd : decode cc pc = .ok (.i2s, 1))  (k : E g cs (pc + 1) ls (.int x.toInt16.toInt32 :: st) ws) : E g cs pc ls (.int x :: st) ws := by
  obtain ⟨p, l, e, R, s, m, args, below, meth, c, dC, dI, tc, A, ad0, n0, Q⟩ := g
  intro ad H locs la ha hl hP hD hS
  exact lv_i2s hg.1 hg.2.1 hd rfl (k ad H locs la ha hl hP hD hS)

theorem e_lcmp {g : gx} {cc : ByteArray} {own : String} {d : Nat} (hg : EC g cc own d) {cs : Nat × Nat} {pc : Nat} {ls : List (Option Value)} {st : List Value} {ws : List rc} {x y : Int64} (hd : decode cc pc = .ok (.lcmp, 1))  (k : E g cs (pc + 1) ls (.int (lg_cmp x y) :: st) ws) : E g cs pc ls (.long y :: .long x :: st) ws := by
  obtain ⟨p, l, e, R, s, m, args, below, meth, c, dC, dI, tc, A, ad0, n0, Q⟩ := g
  intro ad H locs la ha hl hP hD hS
  exact W.lcmp hg.1 hg.2.1 hd (k ad H locs la ha hl hP hD hS)

theorem e_iconst {g : gx} {cc : ByteArray} {own : String} {d : Nat} (hg : EC g cc own d) {cs : Nat × Nat} {pc : Nat} {ls : List (Option Value)} {st : List Value} {ws : List rc} {n : Int} {v : Int32} (hd : decode cc pc = .ok (.iconst n, 1)) (hv : Int32.ofInt n = v) (k : E g cs (pc + 1) ls (.int v :: st) ws) : E g cs pc ls (st) ws := by
  obtain ⟨p, l, e, R, s, m, args, below, meth, c, dC, dI, tc, A, ad0, n0, Q⟩ := g
  intro ad H locs la ha hl hP hD hS
  exact lv_iconst hg.1 hg.2.1 hd hv (k ad H locs la ha hl hP hD hS)

theorem e_bipush {g : gx} {cc : ByteArray} {own : String} {d : Nat} (hg : EC g cc own d) {cs : Nat × Nat} {pc : Nat} {ls : List (Option Value)} {st : List Value} {ws : List rc} {n : Int} {v : Int32} (hd : decode cc pc = .ok (.bipush n, 2)) (hv : (Int8.ofInt n).toInt32 = v) (k : E g cs (pc + 2) ls (.int v :: st) ws) : E g cs pc ls (st) ws := by
  obtain ⟨p, l, e, R, s, m, args, below, meth, c, dC, dI, tc, A, ad0, n0, Q⟩ := g
  intro ad H locs la ha hl hP hD hS
  exact lv_bipush hg.1 hg.2.1 hd hv (k ad H locs la ha hl hP hD hS)

theorem e_sipush {g : gx} {cc : ByteArray} {own : String} {d : Nat} (hg : EC g cc own d) {cs : Nat × Nat} {pc : Nat} {ls : List (Option Value)} {st : List Value} {ws : List rc} {n : Int} {v : Int32} (hd : decode cc pc = .ok (.sipush n, 3)) (hv : (Int16.ofInt n).toInt32 = v) (k : E g cs (pc + 3) ls (.int v :: st) ws) : E g cs pc ls (st) ws := by
  obtain ⟨p, l, e, R, s, m, args, below, meth, c, dC, dI, tc, A, ad0, n0, Q⟩ := g
  intro ad H locs la ha hl hP hD hS
  exact lv_sipush hg.1 hg.2.1 hd hv (k ad H locs la ha hl hP hD hS)

theorem e_lconst {g : gx} {cc : ByteArray} {own : String} {d : Nat} (hg : EC g cc own d) {cs : Nat × Nat} {pc : Nat} {ls : List (Option Value)} {st : List Value} {ws : List rc} {n : Fin 2} {v : Int64} (hd : decode cc pc = .ok (.lconst n, 1)) (hv : Int64.ofNat (n : Nat) = v) (k : E g cs (pc + 1) ls (.long v :: st) ws) : E g cs pc ls (st) ws := by
  obtain ⟨p, l, e, R, s, m, args, below, meth, c, dC, dI, tc, A, ad0, n0, Q⟩ := g
  intro ad H locs la ha hl hP hD hS
  exact lv_lconst hg.1 hg.2.1 hd hv (k ad H locs la ha hl hP hD hS)

theorem e_null {g : gx} {cc : ByteArray} {own : String} {d : Nat} (hg : EC g cc own d) {cs : Nat × Nat} {pc : Nat} {ls : List (Option Value)} {st : List Value} {ws : List rc}  (hd : decode cc pc = .ok (.aconst_null, 1))  (k : E g cs (pc + 1) ls (.null :: st) ws) : E g cs pc ls (st) ws := by
  obtain ⟨p, l, e, R, s, m, args, below, meth, c, dC, dI, tc, A, ad0, n0, Q⟩ := g
  intro ad H locs la ha hl hP hD hS
  exact lv_null hg.1 hg.2.1 hd (k ad H locs la ha hl hP hD hS)

theorem e_ldc {g : gx} {cc : ByteArray} {own : String} {d : Nat} (hg : EC g cc own d) {cs : Nat × Nat} {pc : Nat} {ls : List (Option Value)} {st : List Value} {ws : List rc} {i : Nat} {v : Int32} (hd : decode cc pc = .ok (.ldc i, 2)) (hw : Cond.constant own i v ∈ lw_W) (k : E g cs (pc + 2) ls (.int v :: st) ws) : E g cs pc ls (st) ws := by
  obtain ⟨p, l, e, R, s, m, args, below, meth, c, dC, dI, tc, A, ad0, n0, Q⟩ := g
  intro ad H locs la ha hl hP hD hS
  exact lv_ldc hg.1 hg.2.1 hg.2.2.1 (hg.2.2.2.1 _ hw) hd (k ad H locs la ha hl hP hD hS)

theorem e_ldc_w {g : gx} {cc : ByteArray} {own : String} {d : Nat} (hg : EC g cc own d) {cs : Nat × Nat} {pc : Nat} {ls : List (Option Value)} {st : List Value} {ws : List rc} {i : Nat} {v : Int32} (hd : decode cc pc = .ok (.ldc_w i, 3)) (hw : Cond.constant own i v ∈ lw_W) (k : E g cs (pc + 3) ls (.int v :: st) ws) : E g cs pc ls (st) ws := by
  obtain ⟨p, l, e, R, s, m, args, below, meth, c, dC, dI, tc, A, ad0, n0, Q⟩ := g
  intro ad H locs la ha hl hP hD hS
  exact lv_ldcw hg.1 hg.2.1 hg.2.2.1 (hg.2.2.2.1 _ hw) hd (k ad H locs la ha hl hP hD hS)

theorem e_ldc2 {g : gx} {cc : ByteArray} {own : String} {d : Nat} (hg : EC g cc own d) {cs : Nat × Nat} {pc : Nat} {ls : List (Option Value)} {st : List Value} {ws : List rc} {i : Nat} {v : Int64} (hd : decode cc pc = .ok (.ldc2_w i, 3)) (hw : Cond.constantLong own i v ∈ lw_W) (k : E g cs (pc + 3) ls (.long v :: st) ws) : E g cs pc ls (st) ws := by
  obtain ⟨p, l, e, R, s, m, args, below, meth, c, dC, dI, tc, A, ad0, n0, Q⟩ := g
  intro ad H locs la ha hl hP hD hS
  exact lv_ldc2 hg.1 hg.2.1 hg.2.2.1 (hg.2.2.2.1 _ hw) hd (k ad H locs la ha hl hP hD hS)

theorem e_iload {g : gx} {cc : ByteArray} {own : String} {d : Nat} (hg : EC g cc own d) {cs : Nat × Nat} {pc : Nat} {ls : List (Option Value)} {st : List Value} {ws : List rc} {i : Nat} {x : Int32} (hd : decode cc pc = .ok (.iload i, 2)) (hx : ls[i]? = some (some (.int x))) (k : E g cs (pc + 2) ls (.int x :: st) ws) : E g cs pc ls (st) ws := by
  obtain ⟨p, l, e, R, s, m, args, below, meth, c, dC, dI, tc, A, ad0, n0, Q⟩ := g
  intro ad H locs la ha hl hP hD hS
  exact lv_iload hg.1 hg.2.1 hd (hl.2.2.2 _ _ hx) (k ad H locs la ha hl hP hD hS)

theorem e_iload_n {g : gx} {cc : ByteArray} {own : String} {d : Nat} (hg : EC g cc own d) {cs : Nat × Nat} {pc : Nat} {ls : List (Option Value)} {st : List Value} {ws : List rc} {i : Fin 4} {x : Int32} (hd : decode cc pc = .ok (.iload_n i, 1)) (hx : ls[(i : Nat)]? = some (some (.int x))) (k : E g cs (pc + 1) ls (.int x :: st) ws) : E g cs pc ls (st) ws := by
  obtain ⟨p, l, e, R, s, m, args, below, meth, c, dC, dI, tc, A, ad0, n0, Q⟩ := g
  intro ad H locs la ha hl hP hD hS
  exact lv_iload_n hg.1 hg.2.1 hd rfl (hl.2.2.2 _ _ hx) (k ad H locs la ha hl hP hD hS)

theorem e_lload {g : gx} {cc : ByteArray} {own : String} {d : Nat} (hg : EC g cc own d) {cs : Nat × Nat} {pc : Nat} {ls : List (Option Value)} {st : List Value} {ws : List rc} {i : Nat} {x : Int64} (hd : decode cc pc = .ok (.lload i, 2)) (hx : ls[i]? = some (some (.long x))) (k : E g cs (pc + 2) ls (.long x :: st) ws) : E g cs pc ls (st) ws := by
  obtain ⟨p, l, e, R, s, m, args, below, meth, c, dC, dI, tc, A, ad0, n0, Q⟩ := g
  intro ad H locs la ha hl hP hD hS
  exact lv_lload hg.1 hg.2.1 hd (hl.2.2.2 _ _ hx) (k ad H locs la ha hl hP hD hS)

theorem e_lload_n {g : gx} {cc : ByteArray} {own : String} {d : Nat} (hg : EC g cc own d) {cs : Nat × Nat} {pc : Nat} {ls : List (Option Value)} {st : List Value} {ws : List rc} {i : Fin 4} {x : Int64} (hd : decode cc pc = .ok (.lload_n i, 1)) (hx : ls[(i : Nat)]? = some (some (.long x))) (k : E g cs (pc + 1) ls (.long x :: st) ws) : E g cs pc ls (st) ws := by
  obtain ⟨p, l, e, R, s, m, args, below, meth, c, dC, dI, tc, A, ad0, n0, Q⟩ := g
  intro ad H locs la ha hl hP hD hS
  exact lv_lload_n hg.1 hg.2.1 hd rfl (hl.2.2.2 _ _ hx) (k ad H locs la ha hl hP hD hS)

theorem e_aload {g : gx} {cc : ByteArray} {own : String} {d : Nat} (hg : EC g cc own d) {cs : Nat × Nat} {pc : Nat} {ls : List (Option Value)} {st : List Value} {ws : List rc} {i : Nat} {x : Nat} (hd : decode cc pc = .ok (.aload i, 2)) (hx : ls[i]? = some (some (.ref x))) (k : E g cs (pc + 2) ls (.ref x :: st) ws) : E g cs pc ls (st) ws := by
  obtain ⟨p, l, e, R, s, m, args, below, meth, c, dC, dI, tc, A, ad0, n0, Q⟩ := g
  intro ad H locs la ha hl hP hD hS
  exact lv_aload hg.1 hg.2.1 hd (hl.2.2.2 _ _ hx) (k ad H locs la ha hl hP hD hS)

theorem e_aload_n {g : gx} {cc : ByteArray} {own : String} {d : Nat} (hg : EC g cc own d) {cs : Nat × Nat} {pc : Nat} {ls : List (Option Value)} {st : List Value} {ws : List rc} {i : Fin 4} {x : Nat} (hd : decode cc pc = .ok (.aload_n i, 1)) (hx : ls[(i : Nat)]? = some (some (.ref x))) (k : E g cs (pc + 1) ls (.ref x :: st) ws) : E g cs pc ls (st) ws := by
  obtain ⟨p, l, e, R, s, m, args, below, meth, c, dC, dI, tc, A, ad0, n0, Q⟩ := g
  intro ad H locs la ha hl hP hD hS
  exact lv_aload_n hg.1 hg.2.1 hd rfl (hl.2.2.2 _ _ hx) (k ad H locs la ha hl hP hD hS)

theorem e_aload0 {g : gx} {cc : ByteArray} {own : String} {d : Nat} (hg : EC g cc own d) {cs : Nat × Nat} {pc : Nat} {ls : List (Option Value)} {st : List Value} {ws : List rc} {i : Nat} (hd : decode cc pc = .ok (.aload i, 2)) (hx : ls[i]? = some (some .null)) (k : E g cs (pc + 2) ls (.null :: st) ws) : E g cs pc ls (st) ws := by
  obtain ⟨p, l, e, R, s, m, args, below, meth, c, dC, dI, tc, A, ad0, n0, Q⟩ := g
  intro ad H locs la ha hl hP hD hS
  exact lv_aloadN hg.1 hg.2.1 hd (hl.2.2.2 _ _ hx) (k ad H locs la ha hl hP hD hS)

theorem e_aload0_n {g : gx} {cc : ByteArray} {own : String} {d : Nat} (hg : EC g cc own d) {cs : Nat × Nat} {pc : Nat} {ls : List (Option Value)} {st : List Value} {ws : List rc} {i : Fin 4} (hd : decode cc pc = .ok (.aload_n i, 1)) (hx : ls[(i : Nat)]? = some (some .null)) (k : E g cs (pc + 1) ls (.null :: st) ws) : E g cs pc ls (st) ws := by
  obtain ⟨p, l, e, R, s, m, args, below, meth, c, dC, dI, tc, A, ad0, n0, Q⟩ := g
  intro ad H locs la ha hl hP hD hS
  exact lv_aload_nN hg.1 hg.2.1 hd rfl (hl.2.2.2 _ _ hx) (k ad H locs la ha hl hP hD hS)

theorem e_istore {g : gx} {cc : ByteArray} {own : String} {d : Nat} (hg : EC g cc own d) {cs : Nat × Nat} {pc : Nat} {ls : List (Option Value)} {st : List Value} {ws : List rc} {i : Nat} {x : Int32} {ls' : List (Option Value)} (hd : decode cc pc = .ok (.istore i, 2)) (hs : st1 ls i (.int x) = some ls') (k : E g cs (pc + 2) ls' st ws) : E g cs pc ls (.int x :: st) ws := by
  obtain ⟨p, l, e, R, s, m, args, below, meth, c, dC, dI, tc, A, ad0, n0, Q⟩ := g
  intro ad H locs la ha hl hP hD hS
  exact lv_istore hg.1 hg.2.1 hd (ml_has hl) (by rw [← hl.2.1]; exact (st1_lt hs).1) rfl (fun la' h' => k ad H locs la' ha (ml_st1 hl hs h') hP hD hS)

theorem e_istore_n {g : gx} {cc : ByteArray} {own : String} {d : Nat} (hg : EC g cc own d) {cs : Nat × Nat} {pc : Nat} {ls : List (Option Value)} {st : List Value} {ws : List rc} {i : Fin 4} {x : Int32} {ls' : List (Option Value)} (hd : decode cc pc = .ok (.istore_n i, 1)) (hs : st1 ls (i : Nat) (.int x) = some ls') (k : E g cs (pc + 1) ls' st ws) : E g cs pc ls (.int x :: st) ws := by
  obtain ⟨p, l, e, R, s, m, args, below, meth, c, dC, dI, tc, A, ad0, n0, Q⟩ := g
  intro ad H locs la ha hl hP hD hS
  exact lv_istore_n hg.1 hg.2.1 hd rfl (ml_has hl) (by rw [← hl.2.1]; exact (st1_lt hs).1) rfl (fun la' h' => k ad H locs la' ha (ml_st1 hl hs h') hP hD hS)

theorem e_lstore {g : gx} {cc : ByteArray} {own : String} {d : Nat} (hg : EC g cc own d) {cs : Nat × Nat} {pc : Nat} {ls : List (Option Value)} {st : List Value} {ws : List rc} {i : Nat} {x : Int64} {ls' : List (Option Value)} (hd : decode cc pc = .ok (.lstore i, 2)) (hs : st2 ls i (.long x) = some ls') (k : E g cs (pc + 2) ls' st ws) : E g cs pc ls (.long x :: st) ws := by
  obtain ⟨p, l, e, R, s, m, args, below, meth, c, dC, dI, tc, A, ad0, n0, Q⟩ := g
  intro ad H locs la ha hl hP hD hS
  exact lv_lstore hg.1 hg.2.1 hd (ml_has hl) (by rw [← hl.2.1]; exact (st2_lt hs).1) rfl (fun la' h' => k ad H locs la' ha (ml_st2 hl hs h') hP hD hS)

theorem e_lstore_n {g : gx} {cc : ByteArray} {own : String} {d : Nat} (hg : EC g cc own d) {cs : Nat × Nat} {pc : Nat} {ls : List (Option Value)} {st : List Value} {ws : List rc} {i : Fin 4} {x : Int64} {ls' : List (Option Value)} (hd : decode cc pc = .ok (.lstore_n i, 1)) (hs : st2 ls (i : Nat) (.long x) = some ls') (k : E g cs (pc + 1) ls' st ws) : E g cs pc ls (.long x :: st) ws := by
  obtain ⟨p, l, e, R, s, m, args, below, meth, c, dC, dI, tc, A, ad0, n0, Q⟩ := g
  intro ad H locs la ha hl hP hD hS
  exact lv_lstore_n hg.1 hg.2.1 hd rfl (ml_has hl) (by rw [← hl.2.1]; exact (st2_lt hs).1) rfl (fun la' h' => k ad H locs la' ha (ml_st2 hl hs h') hP hD hS)

theorem e_astore {g : gx} {cc : ByteArray} {own : String} {d : Nat} (hg : EC g cc own d) {cs : Nat × Nat} {pc : Nat} {ls : List (Option Value)} {st : List Value} {ws : List rc} {i : Nat} {x : Nat} {ls' : List (Option Value)} (hd : decode cc pc = .ok (.astore i, 2)) (hs : st1 ls i (.ref x) = some ls') (k : E g cs (pc + 2) ls' st ws) : E g cs pc ls (.ref x :: st) ws := by
  obtain ⟨p, l, e, R, s, m, args, below, meth, c, dC, dI, tc, A, ad0, n0, Q⟩ := g
  intro ad H locs la ha hl hP hD hS
  exact lv_astore hg.1 hg.2.1 hd (ml_has hl) (by rw [← hl.2.1]; exact (st1_lt hs).1) rfl (fun la' h' => k ad H locs la' ha (ml_st1 hl hs h') hP hD hS)

theorem e_astore_n {g : gx} {cc : ByteArray} {own : String} {d : Nat} (hg : EC g cc own d) {cs : Nat × Nat} {pc : Nat} {ls : List (Option Value)} {st : List Value} {ws : List rc} {i : Fin 4} {x : Nat} {ls' : List (Option Value)} (hd : decode cc pc = .ok (.astore_n i, 1)) (hs : st1 ls (i : Nat) (.ref x) = some ls') (k : E g cs (pc + 1) ls' st ws) : E g cs pc ls (.ref x :: st) ws := by
  obtain ⟨p, l, e, R, s, m, args, below, meth, c, dC, dI, tc, A, ad0, n0, Q⟩ := g
  intro ad H locs la ha hl hP hD hS
  exact lv_astore_n hg.1 hg.2.1 hd rfl (ml_has hl) (by rw [← hl.2.1]; exact (st1_lt hs).1) rfl (fun la' h' => k ad H locs la' ha (ml_st1 hl hs h') hP hD hS)

theorem e_astore0 {g : gx} {cc : ByteArray} {own : String} {d : Nat} (hg : EC g cc own d) {cs : Nat × Nat} {pc : Nat} {ls : List (Option Value)} {st : List Value} {ws : List rc} {i : Nat} {ls' : List (Option Value)} (hd : decode cc pc = .ok (.astore i, 2)) (hs : st1 ls i .null = some ls') (k : E g cs (pc + 2) ls' st ws) : E g cs pc ls (.null :: st) ws := by
  obtain ⟨p, l, e, R, s, m, args, below, meth, c, dC, dI, tc, A, ad0, n0, Q⟩ := g
  intro ad H locs la ha hl hP hD hS
  exact lv_astoreN hg.1 hg.2.1 hd (ml_has hl) (by rw [← hl.2.1]; exact (st1_lt hs).1) rfl (fun la' h' => k ad H locs la' ha (ml_st1 hl hs h') hP hD hS)

theorem e_astore0_n {g : gx} {cc : ByteArray} {own : String} {d : Nat} (hg : EC g cc own d) {cs : Nat × Nat} {pc : Nat} {ls : List (Option Value)} {st : List Value} {ws : List rc} {i : Fin 4} {ls' : List (Option Value)} (hd : decode cc pc = .ok (.astore_n i, 1)) (hs : st1 ls (i : Nat) .null = some ls') (k : E g cs (pc + 1) ls' st ws) : E g cs pc ls (.null :: st) ws := by
  obtain ⟨p, l, e, R, s, m, args, below, meth, c, dC, dI, tc, A, ad0, n0, Q⟩ := g
  intro ad H locs la ha hl hP hD hS
  exact lv_astore_nN hg.1 hg.2.1 hd rfl (ml_has hl) (by rw [← hl.2.1]; exact (st1_lt hs).1) rfl (fun la' h' => k ad H locs la' ha (ml_st1 hl hs h') hP hD hS)

theorem e_iinc {g : gx} {cc : ByteArray} {own : String} {d : Nat} (hg : EC g cc own d) {cs : Nat × Nat} {pc : Nat} {ls : List (Option Value)} {st : List Value} {ws : List rc} {i : Nat} {n : Int} {x v : Int32} {ls' : List (Option Value)} (hd : decode cc pc = .ok (.iinc i n, 3)) (hx : ls[i]? = some (some (.int x))) (hv : x + Int32.ofInt n = v) (hs : st1 ls i (.int v) = some ls') (k : E g cs (pc + 3) ls' st ws) : E g cs pc ls (st) ws := by
  obtain ⟨p, l, e, R, s, m, args, below, meth, c, dC, dI, tc, A, ad0, n0, Q⟩ := g
  intro ad H locs la ha hl hP hD hS
  obtain ⟨k0, hk0⟩ := List.getElem?_of_mem (asc_mem.mpr ⟨_, hx, rfl⟩ : ((i, tr ad (.int x)) : Nat × Value) ∈ asc ad ls)
  exact lv_iinc hg.1 hg.2.1 hd (ml_has hl) (k := k0) hk0 hv (by rw [← hl.2.1]; exact (st1_lt hs).1) rfl (fun la' h' => k ad H locs la' ha (ml_st1 hl hs h') hP hD hS)

theorem e_dup {g : gx} {cc : ByteArray} {own : String} {d : Nat} (hg : EC g cc own d) {cs : Nat × Nat} {pc : Nat} {ls : List (Option Value)} {st : List Value} {ws : List rc} {v : Value} (hd : decode cc pc = .ok (.dup, 1)) (hv : v.category = 1) (k : E g cs (pc + 1) ls (v :: v :: st) ws) : E g cs pc ls (v :: st) ws := by
  obtain ⟨p, l, e, R, s, m, args, below, meth, c, dC, dI, tc, A, ad0, n0, Q⟩ := g
  intro ad H locs la ha hl hP hD hS
  exact lv_dup hg.1 hg.2.1 hd (by rw [tr_cat]; exact hv) (k ad H locs la ha hl hP hD hS)

theorem e_dup2 {g : gx} {cc : ByteArray} {own : String} {d : Nat} (hg : EC g cc own d) {cs : Nat × Nat} {pc : Nat} {ls : List (Option Value)} {st : List Value} {ws : List rc} {v w : Value} (hd : decode cc pc = .ok (.dup2, 1)) (hv : v.category = 1) (hw : w.category = 1) (k : E g cs (pc + 1) ls (v :: w :: v :: w :: st) ws) : E g cs pc ls (v :: w :: st) ws := by
  obtain ⟨p, l, e, R, s, m, args, below, meth, c, dC, dI, tc, A, ad0, n0, Q⟩ := g
  intro ad H locs la ha hl hP hD hS
  exact lv_dup2_11 hg.1 hg.2.1 hd (by rw [tr_cat]; exact hv) (by rw [tr_cat]; exact hw) (k ad H locs la ha hl hP hD hS)

theorem e_dup2L {g : gx} {cc : ByteArray} {own : String} {d : Nat} (hg : EC g cc own d) {cs : Nat × Nat} {pc : Nat} {ls : List (Option Value)} {st : List Value} {ws : List rc} {v : Value} (hd : decode cc pc = .ok (.dup2, 1)) (hv : v.category = 2) (k : E g cs (pc + 1) ls (v :: v :: st) ws) : E g cs pc ls (v :: st) ws := by
  obtain ⟨p, l, e, R, s, m, args, below, meth, c, dC, dI, tc, A, ad0, n0, Q⟩ := g
  intro ad H locs la ha hl hP hD hS
  exact lv_dup2_2 hg.1 hg.2.1 hd (by rw [tr_cat]; exact hv) (k ad H locs la ha hl hP hD hS)

theorem e_dup_x1 {g : gx} {cc : ByteArray} {own : String} {d : Nat} (hg : EC g cc own d) {cs : Nat × Nat} {pc : Nat} {ls : List (Option Value)} {st : List Value} {ws : List rc} {v w : Value} (hd : decode cc pc = .ok (.dup_x1, 1)) (hv : v.category = 1) (hw : w.category = 1) (k : E g cs (pc + 1) ls (v :: w :: v :: st) ws) : E g cs pc ls (v :: w :: st) ws := by
  obtain ⟨p, l, e, R, s, m, args, below, meth, c, dC, dI, tc, A, ad0, n0, Q⟩ := g
  intro ad H locs la ha hl hP hD hS
  exact lv_dup_x1 hg.1 hg.2.1 hd (by rw [tr_cat]; exact hv) (by rw [tr_cat]; exact hw) (k ad H locs la ha hl hP hD hS)

theorem e_pop {g : gx} {cc : ByteArray} {own : String} {d : Nat} (hg : EC g cc own d) {cs : Nat × Nat} {pc : Nat} {ls : List (Option Value)} {st : List Value} {ws : List rc} {v : Value} (hd : decode cc pc = .ok (.pop, 1)) (hv : v.category = 1) (k : E g cs (pc + 1) ls st ws) : E g cs pc ls (v :: st) ws := by
  obtain ⟨p, l, e, R, s, m, args, below, meth, c, dC, dI, tc, A, ad0, n0, Q⟩ := g
  intro ad H locs la ha hl hP hD hS
  exact lv_pop hg.1 hg.2.1 hd (by rw [tr_cat]; exact hv) (k ad H locs la ha hl hP hD hS)

theorem e_goto {g : gx} {cc : ByteArray} {own : String} {d : Nat} (hg : EC g cc own d) {cs : Nat × Nat} {pc : Nat} {ls : List (Option Value)} {st : List Value} {ws : List rc} {off : Int} (tgt : Nat) (hd : decode cc pc = .ok (.goto off, 3)) (ht : (pc : Int) + off = (tgt : Int)) (k : E g cs tgt ls st ws) : E g cs pc ls (st) ws := by
  obtain ⟨p, l, e, R, s, m, args, below, meth, c, dC, dI, tc, A, ad0, n0, Q⟩ := g
  intro ad H locs la ha hl hP hD hS
  exact lv_goto hg.1 hg.2.1 hd ht (k ad H locs la ha hl hP hD hS)

theorem e_icmpeq {g : gx} {cc : ByteArray} {own : String} {d : Nat} (hg : EC g cc own d) {cs : Nat × Nat} {pc : Nat} {ls : List (Option Value)} {st : List Value} {ws : List rc} {x y : Int32} {off : Int} (tgt : Nat) (hd : decode cc pc = .ok (.if_icmp .eq off, 3)) (ht : (pc : Int) + off = (tgt : Int)) (kt : x = y → E g cs tgt ls st ws) (kf : ¬ x = y → E g cs (pc + 3) ls st ws) : E g cs pc ls (.int y :: .int x :: st) ws := by
  obtain ⟨p, l, e, R, s, m, args, below, meth, c, dC, dI, tc, A, ad0, n0, Q⟩ := g
  intro ad H locs la ha hl hP hD hS
  exact lv_icmp_eq hg.1 hg.2.1 hd ht (fun h => kt h ad H locs la ha hl hP hD hS) (fun h => kf h ad H locs la ha hl hP hD hS)

theorem e_icmpne {g : gx} {cc : ByteArray} {own : String} {d : Nat} (hg : EC g cc own d) {cs : Nat × Nat} {pc : Nat} {ls : List (Option Value)} {st : List Value} {ws : List rc} {x y : Int32} {off : Int} (tgt : Nat) (hd : decode cc pc = .ok (.if_icmp .ne off, 3)) (ht : (pc : Int) + off = (tgt : Int)) (kt : x = y → E g cs (pc + 3) ls st ws) (kf : ¬ x = y → E g cs tgt ls st ws) : E g cs pc ls (.int y :: .int x :: st) ws := by
  obtain ⟨p, l, e, R, s, m, args, below, meth, c, dC, dI, tc, A, ad0, n0, Q⟩ := g
  intro ad H locs la ha hl hP hD hS
  exact lv_icmp_ne hg.1 hg.2.1 hd ht (fun h => kf h ad H locs la ha hl hP hD hS) (fun h => kt h ad H locs la ha hl hP hD hS)

theorem e_icmplt {g : gx} {cc : ByteArray} {own : String} {d : Nat} (hg : EC g cc own d) {cs : Nat × Nat} {pc : Nat} {ls : List (Option Value)} {st : List Value} {ws : List rc} {x y : Int32} {off : Int} (tgt : Nat) (hd : decode cc pc = .ok (.if_icmp .lt off, 3)) (ht : (pc : Int) + off = (tgt : Int)) (kt : x < y → E g cs tgt ls st ws) (kf : ¬ x < y → E g cs (pc + 3) ls st ws) : E g cs pc ls (.int y :: .int x :: st) ws := by
  obtain ⟨p, l, e, R, s, m, args, below, meth, c, dC, dI, tc, A, ad0, n0, Q⟩ := g
  intro ad H locs la ha hl hP hD hS
  exact lv_icmp_lt hg.1 hg.2.1 hd ht (fun h => kt h ad H locs la ha hl hP hD hS) (fun h => kf h ad H locs la ha hl hP hD hS)

theorem e_icmpge {g : gx} {cc : ByteArray} {own : String} {d : Nat} (hg : EC g cc own d) {cs : Nat × Nat} {pc : Nat} {ls : List (Option Value)} {st : List Value} {ws : List rc} {x y : Int32} {off : Int} (tgt : Nat) (hd : decode cc pc = .ok (.if_icmp .ge off, 3)) (ht : (pc : Int) + off = (tgt : Int)) (kt : x < y → E g cs (pc + 3) ls st ws) (kf : ¬ x < y → E g cs tgt ls st ws) : E g cs pc ls (.int y :: .int x :: st) ws := by
  obtain ⟨p, l, e, R, s, m, args, below, meth, c, dC, dI, tc, A, ad0, n0, Q⟩ := g
  intro ad H locs la ha hl hP hD hS
  exact lv_icmp_ge hg.1 hg.2.1 hd ht (fun h => kf (Int32.not_lt.mpr h) ad H locs la ha hl hP hD hS) (fun h => kt (Int32.not_le.mp h) ad H locs la ha hl hP hD hS)

theorem e_icmpgt {g : gx} {cc : ByteArray} {own : String} {d : Nat} (hg : EC g cc own d) {cs : Nat × Nat} {pc : Nat} {ls : List (Option Value)} {st : List Value} {ws : List rc} {x y : Int32} {off : Int} (tgt : Nat) (hd : decode cc pc = .ok (.if_icmp .gt off, 3)) (ht : (pc : Int) + off = (tgt : Int)) (kt : y < x → E g cs tgt ls st ws) (kf : ¬ y < x → E g cs (pc + 3) ls st ws) : E g cs pc ls (.int y :: .int x :: st) ws := by
  obtain ⟨p, l, e, R, s, m, args, below, meth, c, dC, dI, tc, A, ad0, n0, Q⟩ := g
  intro ad H locs la ha hl hP hD hS
  exact lv_icmp_gt hg.1 hg.2.1 hd ht (fun h => kt h ad H locs la ha hl hP hD hS) (fun h => kf h ad H locs la ha hl hP hD hS)

theorem e_icmple {g : gx} {cc : ByteArray} {own : String} {d : Nat} (hg : EC g cc own d) {cs : Nat × Nat} {pc : Nat} {ls : List (Option Value)} {st : List Value} {ws : List rc} {x y : Int32} {off : Int} (tgt : Nat) (hd : decode cc pc = .ok (.if_icmp .le off, 3)) (ht : (pc : Int) + off = (tgt : Int)) (kt : y < x → E g cs (pc + 3) ls st ws) (kf : ¬ y < x → E g cs tgt ls st ws) : E g cs pc ls (.int y :: .int x :: st) ws := by
  obtain ⟨p, l, e, R, s, m, args, below, meth, c, dC, dI, tc, A, ad0, n0, Q⟩ := g
  intro ad H locs la ha hl hP hD hS
  exact lv_icmp_le hg.1 hg.2.1 hd ht (fun h => kf (Int32.not_lt.mpr h) ad H locs la ha hl hP hD hS) (fun h => kt (Int32.not_le.mp h) ad H locs la ha hl hP hD hS)

theorem e_ifeq {g : gx} {cc : ByteArray} {own : String} {d : Nat} (hg : EC g cc own d) {cs : Nat × Nat} {pc : Nat} {ls : List (Option Value)} {st : List Value} {ws : List rc} {x : Int32} {off : Int} (tgt : Nat) (hd : decode cc pc = .ok (.ifCond .eq off, 3)) (ht : (pc : Int) + off = (tgt : Int)) (kt : x = 0 → E g cs tgt ls st ws) (kf : ¬ x = 0 → E g cs (pc + 3) ls st ws) : E g cs pc ls (.int x :: st) ws := by
  obtain ⟨p, l, e, R, s, m, args, below, meth, c, dC, dI, tc, A, ad0, n0, Q⟩ := g
  intro ad H locs la ha hl hP hD hS
  exact lv_if_eq hg.1 hg.2.1 hd ht (fun h => kt h ad H locs la ha hl hP hD hS) (fun h => kf h ad H locs la ha hl hP hD hS)

theorem e_ifne {g : gx} {cc : ByteArray} {own : String} {d : Nat} (hg : EC g cc own d) {cs : Nat × Nat} {pc : Nat} {ls : List (Option Value)} {st : List Value} {ws : List rc} {x : Int32} {off : Int} (tgt : Nat) (hd : decode cc pc = .ok (.ifCond .ne off, 3)) (ht : (pc : Int) + off = (tgt : Int)) (kt : x = 0 → E g cs (pc + 3) ls st ws) (kf : ¬ x = 0 → E g cs tgt ls st ws) : E g cs pc ls (.int x :: st) ws := by
  obtain ⟨p, l, e, R, s, m, args, below, meth, c, dC, dI, tc, A, ad0, n0, Q⟩ := g
  intro ad H locs la ha hl hP hD hS
  exact lv_if_ne hg.1 hg.2.1 hd ht (fun h => kf h ad H locs la ha hl hP hD hS) (fun h => kt h ad H locs la ha hl hP hD hS)

theorem e_iflt {g : gx} {cc : ByteArray} {own : String} {d : Nat} (hg : EC g cc own d) {cs : Nat × Nat} {pc : Nat} {ls : List (Option Value)} {st : List Value} {ws : List rc} {x : Int32} {off : Int} (tgt : Nat) (hd : decode cc pc = .ok (.ifCond .lt off, 3)) (ht : (pc : Int) + off = (tgt : Int)) (kt : x < 0 → E g cs tgt ls st ws) (kf : ¬ x < 0 → E g cs (pc + 3) ls st ws) : E g cs pc ls (.int x :: st) ws := by
  obtain ⟨p, l, e, R, s, m, args, below, meth, c, dC, dI, tc, A, ad0, n0, Q⟩ := g
  intro ad H locs la ha hl hP hD hS
  exact lv_if_lt hg.1 hg.2.1 hd ht (fun h => kt h ad H locs la ha hl hP hD hS) (fun h => kf h ad H locs la ha hl hP hD hS)

theorem e_ifge {g : gx} {cc : ByteArray} {own : String} {d : Nat} (hg : EC g cc own d) {cs : Nat × Nat} {pc : Nat} {ls : List (Option Value)} {st : List Value} {ws : List rc} {x : Int32} {off : Int} (tgt : Nat) (hd : decode cc pc = .ok (.ifCond .ge off, 3)) (ht : (pc : Int) + off = (tgt : Int)) (kt : x < 0 → E g cs (pc + 3) ls st ws) (kf : ¬ x < 0 → E g cs tgt ls st ws) : E g cs pc ls (.int x :: st) ws := by
  obtain ⟨p, l, e, R, s, m, args, below, meth, c, dC, dI, tc, A, ad0, n0, Q⟩ := g
  intro ad H locs la ha hl hP hD hS
  exact lv_if_ge hg.1 hg.2.1 hd ht (fun h => kf (Int32.not_lt.mpr h) ad H locs la ha hl hP hD hS) (fun h => kt (Int32.not_le.mp h) ad H locs la ha hl hP hD hS)

theorem e_ifgt {g : gx} {cc : ByteArray} {own : String} {d : Nat} (hg : EC g cc own d) {cs : Nat × Nat} {pc : Nat} {ls : List (Option Value)} {st : List Value} {ws : List rc} {x : Int32} {off : Int} (tgt : Nat) (hd : decode cc pc = .ok (.ifCond .gt off, 3)) (ht : (pc : Int) + off = (tgt : Int)) (kt : 0 < x → E g cs tgt ls st ws) (kf : ¬ 0 < x → E g cs (pc + 3) ls st ws) : E g cs pc ls (.int x :: st) ws := by
  obtain ⟨p, l, e, R, s, m, args, below, meth, c, dC, dI, tc, A, ad0, n0, Q⟩ := g
  intro ad H locs la ha hl hP hD hS
  exact lv_if_gt hg.1 hg.2.1 hd ht (fun h => kt h ad H locs la ha hl hP hD hS) (fun h => kf h ad H locs la ha hl hP hD hS)

theorem e_ifle {g : gx} {cc : ByteArray} {own : String} {d : Nat} (hg : EC g cc own d) {cs : Nat × Nat} {pc : Nat} {ls : List (Option Value)} {st : List Value} {ws : List rc} {x : Int32} {off : Int} (tgt : Nat) (hd : decode cc pc = .ok (.ifCond .le off, 3)) (ht : (pc : Int) + off = (tgt : Int)) (kt : 0 < x → E g cs (pc + 3) ls st ws) (kf : ¬ 0 < x → E g cs tgt ls st ws) : E g cs pc ls (.int x :: st) ws := by
  obtain ⟨p, l, e, R, s, m, args, below, meth, c, dC, dI, tc, A, ad0, n0, Q⟩ := g
  intro ad H locs la ha hl hP hD hS
  exact lv_if_le hg.1 hg.2.1 hd ht (fun h => kf (Int32.not_lt.mpr h) ad H locs la ha hl hP hD hS) (fun h => kt (Int32.not_le.mp h) ad H locs la ha hl hP hD hS)

theorem e_ifnull {g : gx} {cc : ByteArray} {own : String} {d : Nat} (hg : EC g cc own d) {cs : Nat × Nat} {pc : Nat} {ls : List (Option Value)} {st : List Value} {ws : List rc} {x : Nat} {off : Int} (hd : decode cc pc = .ok (.ifnull off, 3)) (k : E g cs (pc + 3) ls st ws) : E g cs pc ls (.ref x :: st) ws := by
  obtain ⟨p, l, e, R, s, m, args, below, meth, c, dC, dI, tc, A, ad0, n0, Q⟩ := g
  intro ad H locs la ha hl hP hD hS
  exact lv_ifnull hg.1 hg.2.1 hd (k ad H locs la ha hl hP hD hS)

theorem e_ifnull0 {g : gx} {cc : ByteArray} {own : String} {d : Nat} (hg : EC g cc own d) {cs : Nat × Nat} {pc : Nat} {ls : List (Option Value)} {st : List Value} {ws : List rc} {off : Int} (tgt : Nat) (hd : decode cc pc = .ok (.ifnull off, 3)) (ht : (pc : Int) + off = (tgt : Int)) (k : E g cs tgt ls st ws) : E g cs pc ls (.null :: st) ws := by
  obtain ⟨p, l, e, R, s, m, args, below, meth, c, dC, dI, tc, A, ad0, n0, Q⟩ := g
  intro ad H locs la ha hl hP hD hS
  exact lv_ifnullN hg.1 hg.2.1 hd ht (k ad H locs la ha hl hP hD hS)

theorem e_ifnonnull {g : gx} {cc : ByteArray} {own : String} {d : Nat} (hg : EC g cc own d) {cs : Nat × Nat} {pc : Nat} {ls : List (Option Value)} {st : List Value} {ws : List rc} {x : Nat} {off : Int} (tgt : Nat) (hd : decode cc pc = .ok (.ifnonnull off, 3)) (ht : (pc : Int) + off = (tgt : Int)) (k : E g cs tgt ls st ws) : E g cs pc ls (.ref x :: st) ws := by
  obtain ⟨p, l, e, R, s, m, args, below, meth, c, dC, dI, tc, A, ad0, n0, Q⟩ := g
  intro ad H locs la ha hl hP hD hS
  exact lv_ifnonnull hg.1 hg.2.1 hd ht (k ad H locs la ha hl hP hD hS)

theorem e_ifnonnull0 {g : gx} {cc : ByteArray} {own : String} {d : Nat} (hg : EC g cc own d) {cs : Nat × Nat} {pc : Nat} {ls : List (Option Value)} {st : List Value} {ws : List rc} {off : Int} (hd : decode cc pc = .ok (.ifnonnull off, 3)) (k : E g cs (pc + 3) ls st ws) : E g cs pc ls (.null :: st) ws := by
  obtain ⟨p, l, e, R, s, m, args, below, meth, c, dC, dI, tc, A, ad0, n0, Q⟩ := g
  intro ad H locs la ha hl hP hD hS
  exact lv_ifnonnullN hg.1 hg.2.1 hd (k ad H locs la ha hl hP hD hS)

theorem e_tabIn {g : gx} {cc : ByteArray} {own : String} {d : Nat} (hg : EC g cc own d) {cs : Nat × Nat} {pc : Nat} {ls : List (Option Value)} {st : List Value} {ws : List rc} {dflt lo hi : Int} {offs : Array Int} {len : Nat} {x v : Int32} {off : Int} (tgt : Nat) (hd : decode cc pc = .ok (.tableswitch dflt lo hi offs, len)) (hx : x = v) (h1 : ¬ v.toInt < lo) (h2 : ¬ hi < v.toInt) (ho : offs[(v.toInt - lo).toNat]? = some off) (ht : (pc : Int) + off = (tgt : Int)) (k : E g cs tgt ls st ws) : E g cs pc ls (.int x :: st) ws := by
  obtain ⟨p, l, e, R, s, m, args, below, meth, c, dC, dI, tc, A, ad0, n0, Q⟩ := g
  intro ad H locs la ha hl hP hD hS
  subst hx
  exact lv_tableIn hg.1 hg.2.1 hd h1 h2 ho ht (k ad H locs la ha hl hP hD hS)

theorem e_tabOut {g : gx} {cc : ByteArray} {own : String} {d : Nat} (hg : EC g cc own d) {cs : Nat × Nat} {pc : Nat} {ls : List (Option Value)} {st : List Value} {ws : List rc} {dflt lo hi : Int} {offs : Array Int} {len : Nat} {x : Int32} (tgt : Nat) (hd : decode cc pc = .ok (.tableswitch dflt lo hi offs, len)) (h : x.toInt < lo ∨ hi < x.toInt) (ht : (pc : Int) + dflt = (tgt : Int)) (k : E g cs tgt ls st ws) : E g cs pc ls (.int x :: st) ws := by
  obtain ⟨p, l, e, R, s, m, args, below, meth, c, dC, dI, tc, A, ad0, n0, Q⟩ := g
  intro ad H locs la ha hl hP hD hS
  exact lv_tableOut hg.1 hg.2.1 hd h ht (k ad H locs la ha hl hP hD hS)

theorem e_lookup {g : gx} {cc : ByteArray} {own : String} {d : Nat} (hg : EC g cc own d) {cs : Nat × Nat} {pc : Nat} {ls : List (Option Value)} {st : List Value} {ws : List rc} {dflt : Int} {ps : Array (Int × Int)} {len : Nat} {x : Int32} {off : Int} (tgt : Nat) (hd : decode cc pc = .ok (.lookupswitch dflt ps, len)) (hp : (ps.toList.zip (ps.toList.drop 1)).all (fun (a, next) => a.1 < next.1) = true) (ho : Op.lookupswitch.offset ps.toList dflt x.toInt = off) (ht : (pc : Int) + off = (tgt : Int)) (k : E g cs tgt ls st ws) : E g cs pc ls (.int x :: st) ws := by
  obtain ⟨p, l, e, R, s, m, args, below, meth, c, dC, dI, tc, A, ad0, n0, Q⟩ := g
  intro ad H locs la ha hl hP hD hS
  exact lv_lookup hg.1 hg.2.1 hd hp ho ht (k ad H locs la ha hl hP hD hS)
