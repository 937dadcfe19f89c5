theorem m_callVI {g : gx} {cc : ByteArray} {own : String} {d : Nat} (hg : EC g cc own d) {pc : Nat} {ls : List (Option Value)} {st rest : List Value} {M M' : mm} {y : MethodName} {b : ByteArray} {maxL n idx d' : Nat} {ret : Option FieldType} {a : List Value} {k0 ci N : Nat} {T : u_T} {v : Int32} (mf : MF y b maxL ret n) (mv : Cond.instanceMethod y ∈ lw_W ∧ Cond.selects y.cls y y ∈ lw_W) (cm : CM y b maxL ret d' (.ref k0 :: a) (cells M) (some (.int v)) (cells M')) (hw : Cond.methodLink own idx y ∈ lw_W) (hd : decode cc pc = .ok (.invokevirtual idx, 3)) (ho : isO ci k0 = true) (hc : vwCl[ci]? = some (y.cls, T, N)) (hst : st = a.reverse ++ .ref k0 :: rest) (hn : a.length = n) (hdd : d' < d) (hsum : (rest.map fun v => v.category).sum ≤ 8) (k : E g (0, 0) (pc + 3) ls (.int v :: rest) (cells M')) : E g (0, 0) pc ls st (cells M) := by
  obtain ⟨fks, h⟩ := isO_spec ho
  exact e_callV hg mf mv cm hw hd (cells_get h) hc hst hn hdd hsum (cs0 g) k
theorem m_callSI {g : gx} {cc : ByteArray} {own : String} {d : Nat} (hg : EC g cc own d) {pc : Nat} {ls : List (Option Value)} {st rest : List Value} {M M' : mm} {y : MethodName} {b : ByteArray} {maxL n idx d' : Nat} {ret : Option FieldType} {a : List Value} {v : Int32} (mf : MF y b maxL ret n) (mv : Cond.static y ∈ lw_W) (cm : CM y b maxL ret d' a (cells M) (some (.int v)) (cells M')) (hw : Cond.methodLink own idx y ∈ lw_W) (hd : decode cc pc = .ok (.invokestatic idx, 3)) (hst : st = a.reverse ++ rest) (hn : a.length = n) (hdd : d' < d) (hsum : (rest.map fun v => v.category).sum ≤ 8) (k : E g (0, 0) (pc + 3) ls (.int v :: rest) (cells M')) : E g (0, 0) pc ls st (cells M) := e_callS hg mf mv cm hw hd hst hn hdd hsum (cs0 g) k
theorem m_callVJ {g : gx} {cc : ByteArray} {own : String} {d : Nat} (hg : EC g cc own d) {pc : Nat} {ls : List (Option Value)} {st rest : List Value} {M M' : mm} {y : MethodName} {b : ByteArray} {maxL n idx d' : Nat} {ret : Option FieldType} {a : List Value} {k0 ci N : Nat} {T : u_T} {v : Int64} (mf : MF y b maxL ret n) (mv : Cond.instanceMethod y ∈ lw_W ∧ Cond.selects y.cls y y ∈ lw_W) (cm : CM y b maxL ret d' (.ref k0 :: a) (cells M) (some (.long v)) (cells M')) (hw : Cond.methodLink own idx y ∈ lw_W) (hd : decode cc pc = .ok (.invokevirtual idx, 3)) (ho : isO ci k0 = true) (hc : vwCl[ci]? = some (y.cls, T, N)) (hst : st = a.reverse ++ .ref k0 :: rest) (hn : a.length = n) (hdd : d' < d) (hsum : (rest.map fun v => v.category).sum ≤ 8) (k : E g (0, 0) (pc + 3) ls (.long v :: rest) (cells M')) : E g (0, 0) pc ls st (cells M) := by
  obtain ⟨fks, h⟩ := isO_spec ho
  exact e_callV hg mf mv cm hw hd (cells_get h) hc hst hn hdd hsum (cs0 g) k
theorem m_callSJ {g : gx} {cc : ByteArray} {own : String} {d : Nat} (hg : EC g cc own d) {pc : Nat} {ls : List (Option Value)} {st rest : List Value} {M M' : mm} {y : MethodName} {b : ByteArray} {maxL n idx d' : Nat} {ret : Option FieldType} {a : List Value} {v : Int64} (mf : MF y b maxL ret n) (mv : Cond.static y ∈ lw_W) (cm : CM y b maxL ret d' a (cells M) (some (.long v)) (cells M')) (hw : Cond.methodLink own idx y ∈ lw_W) (hd : decode cc pc = .ok (.invokestatic idx, 3)) (hst : st = a.reverse ++ rest) (hn : a.length = n) (hdd : d' < d) (hsum : (rest.map fun v => v.category).sum ≤ 8) (k : E g (0, 0) (pc + 3) ls (.long v :: rest) (cells M')) : E g (0, 0) pc ls st (cells M) := e_callS hg mf mv cm hw hd hst hn hdd hsum (cs0 g) k
theorem m_callVV {g : gx} {cc : ByteArray} {own : String} {d : Nat} (hg : EC g cc own d) {pc : Nat} {ls : List (Option Value)} {st rest : List Value} {M M' : mm} {y : MethodName} {b : ByteArray} {maxL n idx d' : Nat} {ret : Option FieldType} {a : List Value} {k0 ci N : Nat} {T : u_T} (mf : MF y b maxL ret n) (mv : Cond.instanceMethod y ∈ lw_W ∧ Cond.selects y.cls y y ∈ lw_W) (cm : CM y b maxL ret d' (.ref k0 :: a) (cells M) none (cells M')) (hw : Cond.methodLink own idx y ∈ lw_W) (hd : decode cc pc = .ok (.invokevirtual idx, 3)) (ho : isO ci k0 = true) (hc : vwCl[ci]? = some (y.cls, T, N)) (hst : st = a.reverse ++ .ref k0 :: rest) (hn : a.length = n) (hdd : d' < d) (hsum : (rest.map fun v => v.category).sum ≤ 8) (k : E g (0, 0) (pc + 3) ls (rest) (cells M')) : E g (0, 0) pc ls st (cells M) := by
  obtain ⟨fks, h⟩ := isO_spec ho
  exact e_callV hg mf mv cm hw hd (cells_get h) hc hst hn hdd hsum (cs0 g) k
theorem m_callSV {g : gx} {cc : ByteArray} {own : String} {d : Nat} (hg : EC g cc own d) {pc : Nat} {ls : List (Option Value)} {st rest : List Value} {M M' : mm} {y : MethodName} {b : ByteArray} {maxL n idx d' : Nat} {ret : Option FieldType} {a : List Value} (mf : MF y b maxL ret n) (mv : Cond.static y ∈ lw_W) (cm : CM y b maxL ret d' a (cells M) none (cells M')) (hw : Cond.methodLink own idx y ∈ lw_W) (hd : decode cc pc = .ok (.invokestatic idx, 3)) (hst : st = a.reverse ++ rest) (hn : a.length = n) (hdd : d' < d) (hsum : (rest.map fun v => v.category).sum ≤ 8) (k : E g (0, 0) (pc + 3) ls (rest) (cells M')) : E g (0, 0) pc ls st (cells M) := e_callS hg mf mv cm hw hd hst hn hdd hsum (cs0 g) k
theorem m_callVO {g : gx} {cc : ByteArray} {own : String} {d : Nat} (hg : EC g cc own d) {pc : Nat} {ls : List (Option Value)} {st rest : List Value} {M M' : mm} {y : MethodName} {b : ByteArray} {maxL n idx d' : Nat} {ret : Option FieldType} {a : List Value} {k0 ci N : Nat} {T : u_T} {v : Option Nat} (mf : MF y b maxL ret n) (mv : Cond.instanceMethod y ∈ lw_W ∧ Cond.selects y.cls y y ∈ lw_W) (cm : CM y b maxL ret d' (.ref k0 :: a) (cells M) (some (vo v)) (cells M')) (hw : Cond.methodLink own idx y ∈ lw_W) (hd : decode cc pc = .ok (.invokevirtual idx, 3)) (ho : isO ci k0 = true) (hc : vwCl[ci]? = some (y.cls, T, N)) (hst : st = a.reverse ++ .ref k0 :: rest) (hn : a.length = n) (hdd : d' < d) (hsum : (rest.map fun v => v.category).sum ≤ 8) (k : E g (0, 0) (pc + 3) ls (vo v :: rest) (cells M')) : E g (0, 0) pc ls st (cells M) := by
  obtain ⟨fks, h⟩ := isO_spec ho
  exact e_callV hg mf mv cm hw hd (cells_get h) hc hst hn hdd hsum (cs0 g) k
theorem m_callSO {g : gx} {cc : ByteArray} {own : String} {d : Nat} (hg : EC g cc own d) {pc : Nat} {ls : List (Option Value)} {st rest : List Value} {M M' : mm} {y : MethodName} {b : ByteArray} {maxL n idx d' : Nat} {ret : Option FieldType} {a : List Value} {v : Option Nat} (mf : MF y b maxL ret n) (mv : Cond.static y ∈ lw_W) (cm : CM y b maxL ret d' a (cells M) (some (vo v)) (cells M')) (hw : Cond.methodLink own idx y ∈ lw_W) (hd : decode cc pc = .ok (.invokestatic idx, 3)) (hst : st = a.reverse ++ rest) (hn : a.length = n) (hdd : d' < d) (hsum : (rest.map fun v => v.category).sum ≤ 8) (k : E g (0, 0) (pc + 3) ls (vo v :: rest) (cells M')) : E g (0, 0) pc ls st (cells M) := e_callS hg mf mv cm hw hd hst hn hdd hsum (cs0 g) k
theorem m_callVR {g : gx} {cc : ByteArray} {own : String} {d : Nat} (hg : EC g cc own d) {pc : Nat} {ls : List (Option Value)} {st rest : List Value} {M M' : mm} {y : MethodName} {b : ByteArray} {maxL n idx d' : Nat} {ret : Option FieldType} {a : List Value} {k0 ci N : Nat} {T : u_T} {v : Nat} (mf : MF y b maxL ret n) (mv : Cond.instanceMethod y ∈ lw_W ∧ Cond.selects y.cls y y ∈ lw_W) (cm : CM y b maxL ret d' (.ref k0 :: a) (cells M) (some (.ref v)) (cells M')) (hw : Cond.methodLink own idx y ∈ lw_W) (hd : decode cc pc = .ok (.invokevirtual idx, 3)) (ho : isO ci k0 = true) (hc : vwCl[ci]? = some (y.cls, T, N)) (hst : st = a.reverse ++ .ref k0 :: rest) (hn : a.length = n) (hdd : d' < d) (hsum : (rest.map fun v => v.category).sum ≤ 8) (k : E g (0, 0) (pc + 3) ls (.ref v :: rest) (cells M')) : E g (0, 0) pc ls st (cells M) := by
  obtain ⟨fks, h⟩ := isO_spec ho
  exact e_callV hg mf mv cm hw hd (cells_get h) hc hst hn hdd hsum (cs0 g) k
theorem m_callSR {g : gx} {cc : ByteArray} {own : String} {d : Nat} (hg : EC g cc own d) {pc : Nat} {ls : List (Option Value)} {st rest : List Value} {M M' : mm} {y : MethodName} {b : ByteArray} {maxL n idx d' : Nat} {ret : Option FieldType} {a : List Value} {v : Nat} (mf : MF y b maxL ret n) (mv : Cond.static y ∈ lw_W) (cm : CM y b maxL ret d' a (cells M) (some (.ref v)) (cells M')) (hw : Cond.methodLink own idx y ∈ lw_W) (hd : decode cc pc = .ok (.invokestatic idx, 3)) (hst : st = a.reverse ++ rest) (hn : a.length = n) (hdd : d' < d) (hsum : (rest.map fun v => v.category).sum ≤ 8) (k : E g (0, 0) (pc + 3) ls (.ref v :: rest) (cells M')) : E g (0, 0) pc ls st (cells M) := e_callS hg mf mv cm hw hd hst hn hdd hsum (cs0 g) k
theorem m_aretR {g : gx} {cc : ByteArray} {own : String} {d : Nat} (hg : EC g cc own d) {pc : Nat} {ls : List (Option Value)} {M : mm} {v : Nat} {rt : FieldType} (hrt : (∃ n, rt = .object n) ∨ ∃ t, rt = .array t) {r : Nat × mm} (hr : RT g (some rt) (0, 0) (some (.ref r.1)) (cells r.2)) (hd : decode cc pc = .ok (.areturn, 1)) (h : some (v, M) = some r) : E g (0, 0) pc ls [.ref v] (cells M) := by
  cases h
  exact e_aret (v := some v) hg hrt hr hd
theorem e_drop {g : gx} {cs : Nat × Nat} {pc : Nat} {ls ls2 : List (Option Value)} {st : List Value} {ws : List rc} (k : Nat) (h : ls.set k none = ls2) (kk : E g cs pc ls2 st ws) : E g cs pc ls st ws := by
  obtain ⟨p, l, e, R, s, m, args, below, meth, c, dC, dI, tc, A, ad0, n0, Q⟩ := g
  intro ad H locs la ha hl hP hD hS
  subst h
  refine kk ad H locs la ha ⟨hl.1, by rw [List.length_set]; exact hl.2.1, hl.2.2.1, fun i v hi => ?_⟩ hP hD hS
  by_cases hik : k = i
  · subst hik
    rw [List.getElem?_set] at hi
    split at hi
    · split at hi
      · cases hi
      · cases hi
    · exact absurd rfl ‹¬ k = k›
  · rw [List.getElem?_set_ne hik] at hi
    exact hl.2.2.2 i v hi
theorem o_opt0 {β : Type} {a r : β} {f : Nat → β} (h : opt none a f = r) : a = r := h
theorem o_opt1 {β : Type} {k : Nat} {a r : β} {f : Nat → β} (h : opt (some k) a f = r) : f k = r := h
theorem nb_of {v : Int32} (h : v = 0 ∨ v = 1) : narrow .boolean (.int v) = .int v := by
  rcases h with rfl | rfl <;> rfl
theorem ne_toIntL {x v : Int32} {n : Int} (hv : v.toInt = n) (h : ¬ x = v) : x.toInt ≠ n := fun q => h (Int32.toInt_inj.mp (q.trans hv.symm))
theorem isO_lt {ci k : Nat} (h : isO ci k = true) : k < 117 := by
  obtain ⟨fks, h1⟩ := isO_spec h
  exact (List.getElem?_eq_some_iff.mp h1).1
theorem io_0 : isO 10 0 = true := rfl
theorem rf_0_0 : rf 0 0 = 1 := rfl
theorem rf_0_1 : rf 0 1 = 9 := rfl
theorem rf_0_2 : rf 0 2 = 21 := rfl
theorem rf_0_3 : rf 0 3 = 27 := rfl
theorem rf_0_4 : rf 0 4 = 28 := rfl
theorem rf_0_5 : rf 0 5 = 39 := rfl
theorem rf_0_6 : rf 0 6 = 50 := rfl
theorem rf_0_7 : rf 0 7 = 61 := rfl
theorem rf_0_8 : rf 0 8 = 66 := rfl
theorem rf_0_9 : rf 0 9 = 69 := rfl
theorem io_1 : isO 3 1 = true := rfl
theorem rf_1_5 : rf 1 5 = 2 := rfl
theorem rf_1_6 : rf 1 6 = 3 := rfl
theorem rf_1_7 : rf 1 7 = 4 := rfl
theorem rf_1_8 : rf 1 8 = 5 := rfl
theorem rf_1_9 : rf 1 9 = 6 := rfl
theorem rf_1_10 : rf 1 10 = 7 := rfl
theorem rf_1_11 : rf 1 11 = 8 := rfl
theorem sh_2 : SH[2]? = some (.inl (0, 5)) := rfl
theorem sh_3 : SH[3]? = some (.inl (0, 5)) := rfl
theorem sh_4 : SH[4]? = some (.inl (0, 5)) := rfl
theorem sh_5 : SH[5]? = some (.inl (0, 6)) := rfl
theorem sh_6 : SH[6]? = some (.inl (0, 6)) := rfl
theorem sh_7 : SH[7]? = some (.inl (0, 6)) := rfl
theorem sh_8 : SH[8]? = some (.inl (0, 6)) := rfl
theorem io_9 : isO 8 9 = true := rfl
theorem rf_9_1 : rf 9 1 = 10 := rfl
theorem rf_9_2 : rf 9 2 = 11 := rfl
theorem rf_9_3 : rf 9 3 = 16 := rfl
theorem rf_9_4 : rf 9 4 = 19 := rfl
theorem rf_9_5 : rf 9 5 = 20 := rfl
theorem sh_10 : SH[10]? = some (.inl (0, 120)) := rfl
theorem io_11 : isO 5 11 = true := rfl
theorem rf_11_3 : rf 11 3 = 13 := rfl
theorem sh_12 : SH[12]? = some (.inl (0, 0)) := rfl
theorem io_13 : isO 7 13 = true := rfl
theorem sh_14 : SH[14]? = some (.inl (0, 242)) := rfl
theorem sh_15 : SH[15]? = some (.inl (0, 242)) := rfl
theorem io_16 : isO 7 16 = true := rfl
theorem sh_17 : SH[17]? = some (.inl (0, 242)) := rfl
theorem sh_18 : SH[18]? = some (.inl (0, 242)) := rfl
theorem sh_19 : SH[19]? = some (.inl (0, 48)) := rfl
theorem sh_20 : SH[20]? = some (.inl (2, 3600)) := rfl
theorem io_21 : isO 4 21 = true := rfl
theorem rf_21_0 : rf 21 0 = 1 := rfl
theorem rf_21_1 : rf 21 1 = 9 := rfl
theorem rf_21_13 : rf 21 13 = 24 := rfl
theorem rf_21_14 : rf 21 14 = 25 := rfl
theorem rf_21_15 : rf 21 15 = 26 := rfl
theorem sh_22 : SH[22]? = some (.inl (1, 56)) := rfl
theorem sh_23 : SH[23]? = some (.inl (1, 56)) := rfl
theorem sh_24 : SH[24]? = some (.inl (1, 4)) := rfl
theorem sh_25 : SH[25]? = some (.inl (1, 4)) := rfl
theorem sh_26 : SH[26]? = some (.inl (1, 2048)) := rfl
theorem io_27 : isO 2 27 = true := rfl
theorem rf_27_0 : rf 27 0 = 1 := rfl
theorem rf_27_1 : rf 27 1 = 9 := rfl
theorem rf_27_2 : rf 27 2 = 21 := rfl
theorem io_28 : isO 9 28 = true := rfl
theorem sh_29 : SH[29]? = some (.inl (0, 6)) := rfl
theorem sh_30 : SH[30]? = some (.inl (0, 6)) := rfl
theorem sh_31 : SH[31]? = some (.inl (0, 6)) := rfl
theorem sh_32 : SH[32]? = some (.inl (0, 6)) := rfl
theorem sh_33 : SH[33]? = some (.inl (0, 6)) := rfl
theorem sh_34 : SH[34]? = some (.inl (0, 48)) := rfl
theorem sh_35 : SH[35]? = some (.inl (0, 5)) := rfl
theorem sh_36 : SH[36]? = some (.inl (0, 5)) := rfl
theorem sh_37 : SH[37]? = some (.inl (0, 5)) := rfl
theorem sh_38 : SH[38]? = some (.inl (0, 6)) := rfl
theorem io_39 : isO 9 39 = true := rfl
theorem sh_40 : SH[40]? = some (.inl (0, 6)) := rfl
theorem sh_41 : SH[41]? = some (.inl (0, 6)) := rfl
theorem sh_42 : SH[42]? = some (.inl (0, 6)) := rfl
theorem sh_43 : SH[43]? = some (.inl (0, 6)) := rfl
theorem sh_44 : SH[44]? = some (.inl (0, 6)) := rfl
theorem sh_45 : SH[45]? = some (.inl (0, 48)) := rfl
theorem sh_46 : SH[46]? = some (.inl (0, 5)) := rfl
theorem sh_47 : SH[47]? = some (.inl (0, 5)) := rfl
theorem sh_48 : SH[48]? = some (.inl (0, 5)) := rfl
theorem sh_49 : SH[49]? = some (.inl (0, 6)) := rfl
theorem io_50 : isO 9 50 = true := rfl
theorem sh_51 : SH[51]? = some (.inl (0, 6)) := rfl
theorem sh_52 : SH[52]? = some (.inl (0, 6)) := rfl
theorem sh_53 : SH[53]? = some (.inl (0, 6)) := rfl
theorem sh_54 : SH[54]? = some (.inl (0, 6)) := rfl
theorem sh_55 : SH[55]? = some (.inl (0, 6)) := rfl
theorem sh_56 : SH[56]? = some (.inl (0, 48)) := rfl
theorem sh_57 : SH[57]? = some (.inl (0, 5)) := rfl
theorem sh_58 : SH[58]? = some (.inl (0, 5)) := rfl
theorem sh_59 : SH[59]? = some (.inl (0, 5)) := rfl
theorem sh_60 : SH[60]? = some (.inl (0, 6)) := rfl
theorem io_61 : isO 1 61 = true := rfl
theorem rf_61_2 : rf 61 2 = 62 := rfl
theorem rf_61_3 : rf 61 3 = 63 := rfl
theorem rf_61_4 : rf 61 4 = 64 := rfl
theorem rf_61_5 : rf 61 5 = 65 := rfl
theorem sh_62 : SH[62]? = some (.inl (0, 40)) := rfl
theorem sh_63 : SH[63]? = some (.inl (0, 40)) := rfl
theorem sh_64 : SH[64]? = some (.inl (0, 40)) := rfl
theorem sh_65 : SH[65]? = some (.inl (0, 40)) := rfl
theorem io_66 : isO 0 66 = true := rfl
theorem rf_66_2 : rf 66 2 = 67 := rfl
theorem rf_66_3 : rf 66 3 = 68 := rfl
theorem sh_67 : SH[67]? = some (.inl (0, 24)) := rfl
theorem sh_68 : SH[68]? = some (.inl (0, 50)) := rfl
theorem sh_69 : SH[69]? = some (.inl (4, 6)) := rfl
theorem io_70 : isO 6 70 = true := rfl
theorem sh_71 : SH[71]? = some (.inl (1, 60)) := rfl
theorem io_72 : isO 6 72 = true := rfl
theorem sh_73 : SH[73]? = some (.inl (1, 60)) := rfl
theorem io_74 : isO 6 74 = true := rfl
theorem sh_75 : SH[75]? = some (.inl (1, 60)) := rfl
theorem io_76 : isO 6 76 = true := rfl
theorem sh_77 : SH[77]? = some (.inl (1, 60)) := rfl
theorem io_78 : isO 6 78 = true := rfl
theorem sh_79 : SH[79]? = some (.inl (1, 60)) := rfl
theorem io_80 : isO 6 80 = true := rfl
theorem sh_81 : SH[81]? = some (.inl (1, 60)) := rfl
theorem io_82 : isO 11 82 = true := rfl
theorem rf_82_0 : rf 82 0 = 83 := rfl
theorem rf_82_1 : rf 82 1 = 84 := rfl
theorem rf_82_2 : rf 82 2 = 85 := rfl
theorem rf_82_3 : rf 82 3 = 86 := rfl
theorem rf_82_8 : rf 82 8 = 87 := rfl
theorem rf_82_9 : rf 82 9 = 88 := rfl
theorem rf_82_10 : rf 82 10 = 89 := rfl
theorem rf_82_11 : rf 82 11 = 90 := rfl
theorem rf_82_12 : rf 82 12 = 91 := rfl
theorem rf_82_13 : rf 82 13 = 92 := rfl
theorem rf_82_14 : rf 82 14 = 93 := rfl
theorem rf_82_15 : rf 82 15 = 94 := rfl
theorem rf_82_16 : rf 82 16 = 95 := rfl
theorem rf_82_17 : rf 82 17 = 96 := rfl
theorem rf_82_18 : rf 82 18 = 97 := rfl
theorem rf_82_23 : rf 82 23 = 98 := rfl
theorem rf_82_25 : rf 82 25 = 99 := rfl
theorem rf_82_32 : rf 82 32 = 100 := rfl
theorem rf_82_33 : rf 82 33 = 101 := rfl
theorem rf_82_34 : rf 82 34 = 102 := rfl
theorem rf_82_35 : rf 82 35 = 103 := rfl
theorem rf_82_36 : rf 82 36 = 104 := rfl
theorem rf_82_42 : rf 82 42 = 105 := rfl
theorem rf_82_45 : rf 82 45 = 106 := rfl
theorem rf_82_46 : rf 82 46 = 107 := rfl
theorem rf_82_47 : rf 82 47 = 108 := rfl
theorem rf_82_48 : rf 82 48 = 109 := rfl
theorem rf_82_49 : rf 82 49 = 110 := rfl
theorem rf_82_54 : rf 82 54 = 111 := rfl
theorem rf_82_55 : rf 82 55 = 112 := rfl
theorem rf_82_59 : rf 82 59 = 113 := rfl
theorem rf_82_60 : rf 82 60 = 114 := rfl
theorem rf_82_61 : rf 82 61 = 115 := rfl
theorem rf_82_62 : rf 82 62 = 116 := rfl
theorem sh_83 : SH[83]? = some (.inl (0, 33)) := rfl
theorem sh_84 : SH[84]? = some (.inl (0, 40)) := rfl
theorem sh_85 : SH[85]? = some (.inl (0, 40)) := rfl
theorem sh_86 : SH[86]? = some (.inl (0, 40)) := rfl
theorem sh_87 : SH[87]? = some (.inl (0, 5)) := rfl
theorem sh_88 : SH[88]? = some (.inl (0, 5)) := rfl
theorem sh_89 : SH[89]? = some (.inl (0, 5)) := rfl
theorem sh_90 : SH[90]? = some (.inl (0, 6)) := rfl
theorem sh_91 : SH[91]? = some (.inl (0, 6)) := rfl
theorem sh_92 : SH[92]? = some (.inl (0, 6)) := rfl
theorem sh_93 : SH[93]? = some (.inl (0, 6)) := rfl
theorem sh_94 : SH[94]? = some (.inl (0, 6)) := rfl
theorem sh_95 : SH[95]? = some (.inl (0, 48)) := rfl
theorem sh_96 : SH[96]? = some (.inl (0, 6)) := rfl
theorem sh_97 : SH[97]? = some (.inl (0, 6)) := rfl
theorem sh_98 : SH[98]? = some (.inl (0, 120)) := rfl
theorem sh_99 : SH[99]? = some (.inl (0, 120)) := rfl
theorem sh_100 : SH[100]? = some (.inl (0, 4)) := rfl
theorem sh_101 : SH[101]? = some (.inl (1, 7)) := rfl
theorem sh_102 : SH[102]? = some (.inl (0, 800)) := rfl
theorem sh_103 : SH[103]? = some (.inl (1, 8400)) := rfl
theorem sh_104 : SH[104]? = some (.inl (3, 8400)) := rfl
theorem sh_105 : SH[105]? = some (.inl (1, 2800)) := rfl
theorem sh_106 : SH[106]? = some (.inl (3, 7200)) := rfl
theorem sh_107 : SH[107]? = some (.inl (0, 72)) := rfl
theorem sh_108 : SH[108]? = some (.inl (0, 96)) := rfl
theorem sh_109 : SH[109]? = some (.inl (0, 30)) := rfl
theorem sh_110 : SH[110]? = some (.inl (0, 4)) := rfl
theorem sh_111 : SH[111]? = some (.inl (0, 50)) := rfl
theorem sh_112 : SH[112]? = some (.inl (0, 24)) := rfl
theorem sh_113 : SH[113]? = some (.inl (0, 6)) := rfl
theorem sh_114 : SH[114]? = some (.inl (0, 6)) := rfl
theorem sh_115 : SH[115]? = some (.inl (1, 360)) := rfl
theorem sh_116 : SH[116]? = some (.inl (1, 60)) := rfl
theorem shF9_1 {w : Nat} (ho : isO 9 w = true) : SH[w + 1]? = some (.inl (0, 6)) := by
  have h := (by decide +kernel : ∀ w, w < 117 → isO 9 w = true → isA 0 (w + 1) = true ∧ alN (w + 1) = 6) w (isO_lt ho) ho
  have h2 := isA_spec h.1
  rw [h.2] at h2
  exact h2
theorem rfF9_2 {w : Nat} (ho : isO 9 w = true) : rf w 2 = w + 1 := (by decide +kernel : ∀ w, w < 117 → isO 9 w = true → rf w 2 = w + 1) w (isO_lt ho) ho
theorem shF9_2 {w : Nat} (ho : isO 9 w = true) : SH[w + 2]? = some (.inl (0, 6)) := by
  have h := (by decide +kernel : ∀ w, w < 117 → isO 9 w = true → isA 0 (w + 2) = true ∧ alN (w + 2) = 6) w (isO_lt ho) ho
  have h2 := isA_spec h.1
  rw [h.2] at h2
  exact h2
theorem rfF9_3 {w : Nat} (ho : isO 9 w = true) : rf w 3 = w + 2 := (by decide +kernel : ∀ w, w < 117 → isO 9 w = true → rf w 3 = w + 2) w (isO_lt ho) ho
theorem shF9_3 {w : Nat} (ho : isO 9 w = true) : SH[w + 3]? = some (.inl (0, 6)) := by
  have h := (by decide +kernel : ∀ w, w < 117 → isO 9 w = true → isA 0 (w + 3) = true ∧ alN (w + 3) = 6) w (isO_lt ho) ho
  have h2 := isA_spec h.1
  rw [h.2] at h2
  exact h2
theorem rfF9_4 {w : Nat} (ho : isO 9 w = true) : rf w 4 = w + 3 := (by decide +kernel : ∀ w, w < 117 → isO 9 w = true → rf w 4 = w + 3) w (isO_lt ho) ho
theorem shF9_4 {w : Nat} (ho : isO 9 w = true) : SH[w + 4]? = some (.inl (0, 6)) := by
  have h := (by decide +kernel : ∀ w, w < 117 → isO 9 w = true → isA 0 (w + 4) = true ∧ alN (w + 4) = 6) w (isO_lt ho) ho
  have h2 := isA_spec h.1
  rw [h.2] at h2
  exact h2
theorem rfF9_5 {w : Nat} (ho : isO 9 w = true) : rf w 5 = w + 4 := (by decide +kernel : ∀ w, w < 117 → isO 9 w = true → rf w 5 = w + 4) w (isO_lt ho) ho
theorem shF9_5 {w : Nat} (ho : isO 9 w = true) : SH[w + 5]? = some (.inl (0, 6)) := by
  have h := (by decide +kernel : ∀ w, w < 117 → isO 9 w = true → isA 0 (w + 5) = true ∧ alN (w + 5) = 6) w (isO_lt ho) ho
  have h2 := isA_spec h.1
  rw [h.2] at h2
  exact h2
theorem rfF9_6 {w : Nat} (ho : isO 9 w = true) : rf w 6 = w + 5 := (by decide +kernel : ∀ w, w < 117 → isO 9 w = true → rf w 6 = w + 5) w (isO_lt ho) ho
theorem shF9_6 {w : Nat} (ho : isO 9 w = true) : SH[w + 6]? = some (.inl (0, 48)) := by
  have h := (by decide +kernel : ∀ w, w < 117 → isO 9 w = true → isA 0 (w + 6) = true ∧ alN (w + 6) = 48) w (isO_lt ho) ho
  have h2 := isA_spec h.1
  rw [h.2] at h2
  exact h2
theorem rfF9_7 {w : Nat} (ho : isO 9 w = true) : rf w 7 = w + 6 := (by decide +kernel : ∀ w, w < 117 → isO 9 w = true → rf w 7 = w + 6) w (isO_lt ho) ho
theorem shF9_7 {w : Nat} (ho : isO 9 w = true) : SH[w + 7]? = some (.inl (0, 5)) := by
  have h := (by decide +kernel : ∀ w, w < 117 → isO 9 w = true → isA 0 (w + 7) = true ∧ alN (w + 7) = 5) w (isO_lt ho) ho
  have h2 := isA_spec h.1
  rw [h.2] at h2
  exact h2
theorem rfF9_8 {w : Nat} (ho : isO 9 w = true) : rf w 8 = w + 7 := (by decide +kernel : ∀ w, w < 117 → isO 9 w = true → rf w 8 = w + 7) w (isO_lt ho) ho
theorem shF9_8 {w : Nat} (ho : isO 9 w = true) : SH[w + 8]? = some (.inl (0, 5)) := by
  have h := (by decide +kernel : ∀ w, w < 117 → isO 9 w = true → isA 0 (w + 8) = true ∧ alN (w + 8) = 5) w (isO_lt ho) ho
  have h2 := isA_spec h.1
  rw [h.2] at h2
  exact h2
theorem rfF9_9 {w : Nat} (ho : isO 9 w = true) : rf w 9 = w + 8 := (by decide +kernel : ∀ w, w < 117 → isO 9 w = true → rf w 9 = w + 8) w (isO_lt ho) ho
theorem shF9_9 {w : Nat} (ho : isO 9 w = true) : SH[w + 9]? = some (.inl (0, 5)) := by
  have h := (by decide +kernel : ∀ w, w < 117 → isO 9 w = true → isA 0 (w + 9) = true ∧ alN (w + 9) = 5) w (isO_lt ho) ho
  have h2 := isA_spec h.1
  rw [h.2] at h2
  exact h2
theorem rfF9_10 {w : Nat} (ho : isO 9 w = true) : rf w 10 = w + 9 := (by decide +kernel : ∀ w, w < 117 → isO 9 w = true → rf w 10 = w + 9) w (isO_lt ho) ho
theorem shF9_10 {w : Nat} (ho : isO 9 w = true) : SH[w + 10]? = some (.inl (0, 6)) := by
  have h := (by decide +kernel : ∀ w, w < 117 → isO 9 w = true → isA 0 (w + 10) = true ∧ alN (w + 10) = 6) w (isO_lt ho) ho
  have h2 := isA_spec h.1
  rw [h.2] at h2
  exact h2
theorem rfF9_11 {w : Nat} (ho : isO 9 w = true) : rf w 11 = w + 10 := (by decide +kernel : ∀ w, w < 117 → isO 9 w = true → rf w 11 = w + 10) w (isO_lt ho) ho
theorem shF6_1 {w : Nat} (ho : isO 6 w = true) : SH[w + 1]? = some (.inl (1, 60)) := by
  have h := (by decide +kernel : ∀ w, w < 117 → isO 6 w = true → isA 1 (w + 1) = true ∧ alN (w + 1) = 60) w (isO_lt ho) ho
  have h2 := isA_spec h.1
  rw [h.2] at h2
  exact h2
theorem rfF6_4 {w : Nat} (ho : isO 6 w = true) : rf w 4 = w + 1 := (by decide +kernel : ∀ w, w < 117 → isO 6 w = true → rf w 4 = w + 1) w (isO_lt ho) ho
theorem shF7_1 {w : Nat} (ho : isO 7 w = true) : SH[w + 1]? = some (.inl (0, 242)) := by
  have h := (by decide +kernel : ∀ w, w < 117 → isO 7 w = true → isA 0 (w + 1) = true ∧ alN (w + 1) = 242) w (isO_lt ho) ho
  have h2 := isA_spec h.1
  rw [h.2] at h2
  exact h2
theorem rfF7_1 {w : Nat} (ho : isO 7 w = true) : rf w 1 = w + 1 := (by decide +kernel : ∀ w, w < 117 → isO 7 w = true → rf w 1 = w + 1) w (isO_lt ho) ho
theorem shF7_2 {w : Nat} (ho : isO 7 w = true) : SH[w + 2]? = some (.inl (0, 242)) := by
  have h := (by decide +kernel : ∀ w, w < 117 → isO 7 w = true → isA 0 (w + 2) = true ∧ alN (w + 2) = 242) w (isO_lt ho) ho
  have h2 := isA_spec h.1
  rw [h.2] at h2
  exact h2
theorem rfF7_2 {w : Nat} (ho : isO 7 w = true) : rf w 2 = w + 2 := (by decide +kernel : ∀ w, w < 117 → isO 7 w = true → rf w 2 = w + 2) w (isO_lt ho) ho
theorem mfX0_add : MF yX0_add cX0_add 2 (some .int) 1 := ⟨lk_887, lk_76, ⟨by decide +kernel, by decide +kernel⟩, by decide +kernel, by decide, by decide +kernel⟩
theorem mvX0_add : Cond.instanceMethod yX0_add ∈ lw_W ∧ Cond.selects yX0_add.cls yX0_add yX0_add ∈ lw_W := ⟨lk_885, lk_886⟩
theorem mfX0_kindOf : MF yX0_kindOf cX0_kindOf 2 (some .int) 1 := ⟨lk_974, lk_76, ⟨by decide +kernel, by decide +kernel⟩, by decide +kernel, by decide, by decide +kernel⟩
theorem mvX0_kindOf : Cond.instanceMethod yX0_kindOf ∈ lw_W ∧ Cond.selects yX0_kindOf.cls yX0_kindOf yX0_kindOf ∈ lw_W := ⟨lk_972, lk_973⟩
theorem mfX0_isOfKind : MF yX0_isOfKind cX0_isOfKind 5 (some .boolean) 2 := ⟨lk_970, lk_76, ⟨by decide +kernel, by decide +kernel⟩, by decide +kernel, by decide, by decide +kernel⟩
theorem mvX0_isOfKind : Cond.instanceMethod yX0_isOfKind ∈ lw_W ∧ Cond.selects yX0_isOfKind.cls yX0_isOfKind yX0_isOfKind ∈ lw_W := ⟨lk_968, lk_969⟩
theorem mfX0_keptOfTrace : MF yX0_keptOfTrace cX0_keptOfTrace 1 (some .int) 0 := ⟨lk_915, lk_76, ⟨by decide +kernel, by decide +kernel⟩, by decide +kernel, by decide, by decide +kernel⟩
theorem mvX0_keptOfTrace : Cond.instanceMethod yX0_keptOfTrace ∈ lw_W ∧ Cond.selects yX0_keptOfTrace.cls yX0_keptOfTrace yX0_keptOfTrace ∈ lw_W := ⟨lk_913, lk_914⟩
theorem mfX0_perform : MF yX0_perform cX0_perform 4 (some .int) 3 := ⟨lk_895, lk_76, ⟨by decide +kernel, by decide +kernel⟩, by decide +kernel, by decide, by decide +kernel⟩
theorem mvX0_perform : Cond.instanceMethod yX0_perform ∈ lw_W ∧ Cond.selects yX0_perform.cls yX0_perform yX0_perform ∈ lw_W := ⟨lk_893, lk_894⟩
theorem mfX0_run : MF yX0_run cX0_run 9 (some .int) 4 := ⟨lk_899, lk_76, ⟨by decide +kernel, by decide +kernel⟩, by decide +kernel, by decide, by decide +kernel⟩
theorem mvX0_run : Cond.instanceMethod yX0_run ∈ lw_W ∧ Cond.selects yX0_run.cls yX0_run yX0_run ∈ lw_W := ⟨lk_898, lk_20⟩
theorem mfX0_begin : MF yX0_begin cX0_begin 2 (none) 1 := ⟨lk_907, lk_76, ⟨by decide +kernel, by decide +kernel⟩, by decide +kernel, by decide, by decide +kernel⟩
theorem mvX0_begin : Cond.instanceMethod yX0_begin ∈ lw_W ∧ Cond.selects yX0_begin.cls yX0_begin yX0_begin ∈ lw_W := ⟨lk_906, lk_21⟩
theorem mfX1_note : MF yX1_note cX1_note 5 (none) 4 := ⟨lk_560, lk_75, ⟨by decide +kernel, by decide +kernel⟩, by decide +kernel, by decide, by decide +kernel⟩
theorem mvX1_note : Cond.instanceMethod yX1_note ∈ lw_W ∧ Cond.selects yX1_note.cls yX1_note yX1_note ∈ lw_W := ⟨lk_558, lk_559⟩
theorem mfX1_forgetOldest : MF yX1_forgetOldest cX1_forgetOldest 1 (none) 0 := ⟨lk_564, lk_75, ⟨by decide +kernel, by decide +kernel⟩, by decide +kernel, by decide, by decide +kernel⟩
theorem mvX1_forgetOldest : Cond.instanceMethod yX1_forgetOldest ∈ lw_W ∧ Cond.selects yX1_forgetOldest.cls yX1_forgetOldest yX1_forgetOldest ∈ lw_W := ⟨lk_563, lk_3⟩
theorem mfX1_undone : MF yX1_undone cX1_undone 1 (some .int) 0 := ⟨lk_878, lk_75, ⟨by decide +kernel, by decide +kernel⟩, by decide +kernel, by decide, by decide +kernel⟩
theorem mvX1_undone : Cond.instanceMethod yX1_undone ∈ lw_W ∧ Cond.selects yX1_undone.cls yX1_undone yX1_undone ∈ lw_W := ⟨lk_876, lk_877⟩
theorem mfX1_takeBack : MF yX1_takeBack cX1_takeBack 2 (some .boolean) 1 := ⟨lk_865, lk_75, ⟨by decide +kernel, by decide +kernel⟩, by decide +kernel, by decide, by decide +kernel⟩
theorem mvX1_takeBack : Cond.instanceMethod yX1_takeBack ∈ lw_W ∧ Cond.selects yX1_takeBack.cls yX1_takeBack yX1_takeBack ∈ lw_W := ⟨lk_863, lk_864⟩
theorem mfX1_doAgain : MF yX1_doAgain cX1_doAgain 2 (some .boolean) 1 := ⟨lk_874, lk_75, ⟨by decide +kernel, by decide +kernel⟩, by decide +kernel, by decide, by decide +kernel⟩
theorem mvX1_doAgain : Cond.instanceMethod yX1_doAgain ∈ lw_W ∧ Cond.selects yX1_doAgain.cls yX1_doAgain yX1_doAgain ∈ lw_W := ⟨lk_872, lk_873⟩
theorem mfX2_sow : MF yX2_sow cX2_sow 2 (none) 1 := ⟨lk_676, lk_73, ⟨by decide +kernel, by decide +kernel⟩, by decide +kernel, by decide, by decide +kernel⟩
theorem mvX2_sow : Cond.instanceMethod yX2_sow ∈ lw_W ∧ Cond.selects yX2_sow.cls yX2_sow yX2_sow ∈ lw_W := ⟨lk_674, lk_675⟩
theorem mfX2_year : MF yX2_year cX2_year 6 (some .int) 1 := ⟨lk_680, lk_73, ⟨by decide +kernel, by decide +kernel⟩, by decide +kernel, by decide, by decide +kernel⟩
theorem mvX2_year : Cond.instanceMethod yX2_year ∈ lw_W ∧ Cond.selects yX2_year.cls yX2_year yX2_year ∈ lw_W := ⟨lk_678, lk_679⟩
theorem mfX2_breaks : MF yX2_breaks cX2_breaks 4 (none) 2 := ⟨lk_738, lk_73, ⟨by decide +kernel, by decide +kernel⟩, by decide +kernel, by decide, by decide +kernel⟩
theorem mvX2_breaks : Cond.instanceMethod yX2_breaks ∈ lw_W ∧ Cond.selects yX2_breaks.cls yX2_breaks yX2_breaks ∈ lw_W := ⟨lk_737, lk_15⟩
theorem mfX2_bills : MF yX2_bills cX2_bills 7 (none) 2 := ⟨lk_743, lk_73, ⟨by decide +kernel, by decide +kernel⟩, by decide +kernel, by decide, by decide +kernel⟩
theorem mvX2_bills : Cond.instanceMethod yX2_bills ∈ lw_W ∧ Cond.selects yX2_bills.cls yX2_bills yX2_bills ∈ lw_W := ⟨lk_742, lk_16⟩
theorem mfX3_hasPerson : MF yX3_hasPerson cX3_hasPerson 2 (some .boolean) 1 := ⟨lk_511, lk_68, ⟨by decide +kernel, by decide +kernel⟩, by decide +kernel, by decide, by decide +kernel⟩
theorem mvX3_hasPerson : Cond.instanceMethod yX3_hasPerson ∈ lw_W ∧ Cond.selects yX3_hasPerson.cls yX3_hasPerson yX3_hasPerson ∈ lw_W := ⟨lk_509, lk_510⟩
theorem mfX3_hasThing : MF yX3_hasThing cX3_hasThing 2 (some .boolean) 1 := ⟨lk_548, lk_68, ⟨by decide +kernel, by decide +kernel⟩, by decide +kernel, by decide, by decide +kernel⟩
theorem mvX3_hasThing : Cond.instanceMethod yX3_hasThing ∈ lw_W ∧ Cond.selects yX3_hasThing.cls yX3_hasThing yX3_hasThing ∈ lw_W := ⟨lk_546, lk_547⟩
theorem mfX3_addPerson : MF yX3_addPerson cX3_addPerson 3 (some .int) 2 := ⟨lk_499, lk_68, ⟨by decide +kernel, by decide +kernel⟩, by decide +kernel, by decide, by decide +kernel⟩
theorem mvX3_addPerson : Cond.instanceMethod yX3_addPerson ∈ lw_W ∧ Cond.selects yX3_addPerson.cls yX3_addPerson yX3_addPerson ∈ lw_W := ⟨lk_497, lk_498⟩
theorem mfX3_addThing : MF yX3_addThing cX3_addThing 4 (some .int) 3 := ⟨lk_515, lk_68, ⟨by decide +kernel, by decide +kernel⟩, by decide +kernel, by decide, by decide +kernel⟩
theorem mvX3_addThing : Cond.instanceMethod yX3_addThing ∈ lw_W ∧ Cond.selects yX3_addThing.cls yX3_addThing yX3_addThing ∈ lw_W := ⟨lk_513, lk_514⟩
theorem mfX3_mayTell : MF yX3_mayTell cX3_mayTell 4 (some .boolean) 3 := ⟨lk_543, lk_68, ⟨by decide +kernel, by decide +kernel⟩, by decide +kernel, by decide, by decide +kernel⟩
theorem mvX3_mayTell : Cond.instanceMethod yX3_mayTell ∈ lw_W ∧ Cond.selects yX3_mayTell.cls yX3_mayTell yX3_mayTell ∈ lw_W := ⟨lk_541, lk_542⟩
theorem mfX3_tell : MF yX3_tell cX3_tell 6 (some .int) 3 := ⟨lk_552, lk_68, ⟨by decide +kernel, by decide +kernel⟩, by decide +kernel, by decide, by decide +kernel⟩
theorem mvX3_tell : Cond.instanceMethod yX3_tell ∈ lw_W ∧ Cond.selects yX3_tell.cls yX3_tell yX3_tell ∈ lw_W := ⟨lk_550, lk_551⟩
theorem mfX3_rowOf : MF yX3_rowOf cX3_rowOf 2 (some (.array .int)) 1 := ⟨lk_556, lk_68, ⟨by decide +kernel, by decide +kernel⟩, by decide +kernel, by decide, by decide +kernel⟩
theorem mvX3_rowOf : Cond.instanceMethod yX3_rowOf ∈ lw_W ∧ Cond.selects yX3_rowOf.cls yX3_rowOf yX3_rowOf ∈ lw_W := ⟨lk_555, lk_2⟩
theorem mfX3_isForgotten : MF yX3_isForgotten cX3_isForgotten 2 (some .boolean) 1 := ⟨lk_716, lk_68, ⟨by decide +kernel, by decide +kernel⟩, by decide +kernel, by decide, by decide +kernel⟩
theorem mvX3_isForgotten : Cond.instanceMethod yX3_isForgotten ∈ lw_W ∧ Cond.selects yX3_isForgotten.cls yX3_isForgotten yX3_isForgotten ∈ lw_W := ⟨lk_714, lk_715⟩
theorem mfX3_anyBest : MF yX3_anyBest cX3_anyBest 2 (some .boolean) 0 := ⟨lk_837, lk_68, ⟨by decide +kernel, by decide +kernel⟩, by decide +kernel, by decide, by decide +kernel⟩
theorem mvX3_anyBest : Cond.instanceMethod yX3_anyBest ∈ lw_W ∧ Cond.selects yX3_anyBest.cls yX3_anyBest yX3_anyBest ∈ lw_W := ⟨lk_835, lk_836⟩
theorem mfX4_consider : MF yX4_consider cX4_consider 4 (none) 3 := ⟨lk_696, lk_72, ⟨by decide +kernel, by decide +kernel⟩, by decide +kernel, by decide, by decide +kernel⟩
theorem mvX4_consider : Cond.instanceMethod yX4_consider ∈ lw_W ∧ Cond.selects yX4_consider.cls yX4_consider yX4_consider ∈ lw_W := ⟨lk_694, lk_695⟩
theorem mfX4_start : MF yX4_start cX4_start 3 (none) 2 := ⟨lk_700, lk_72, ⟨by decide +kernel, by decide +kernel⟩, by decide +kernel, by decide, by decide +kernel⟩
theorem mvX4_start : Cond.instanceMethod yX4_start ∈ lw_W ∧ Cond.selects yX4_start.cls yX4_start yX4_start ∈ lw_W := ⟨lk_698, lk_699⟩
theorem mfX4_sideOf : MF yX4_sideOf cX4_sideOf 2 (some .int) 2 := ⟨lk_690, lk_72, ⟨by decide +kernel, by decide +kernel⟩, by decide +kernel, by decide, by decide +kernel⟩
theorem mvX4_sideOf : Cond.static yX4_sideOf ∈ lw_W := lk_689
theorem mfX4_think : MF yX4_think cX4_think 6 (none) 2 := ⟨lk_704, lk_72, ⟨by decide +kernel, by decide +kernel⟩, by decide +kernel, by decide, by decide +kernel⟩
theorem mvX4_think : Cond.instanceMethod yX4_think ∈ lw_W ∧ Cond.selects yX4_think.cls yX4_think yX4_think ∈ lw_W := ⟨lk_702, lk_703⟩
theorem mfX4_turnPage : MF yX4_turnPage cX4_turnPage 2 (none) 0 := ⟨lk_730, lk_72, ⟨by decide +kernel, by decide +kernel⟩, by decide +kernel, by decide, by decide +kernel⟩
theorem mvX4_turnPage : Cond.instanceMethod yX4_turnPage ∈ lw_W ∧ Cond.selects yX4_turnPage.cls yX4_turnPage yX4_turnPage ∈ lw_W := ⟨lk_729, lk_14⟩
theorem mfX4_goOn : MF yX4_goOn cX4_goOn 13 (some .long) 2 := ⟨lk_711, lk_72, ⟨by decide +kernel, by decide +kernel⟩, by decide +kernel, by decide, by decide +kernel⟩
theorem mvX4_goOn : Cond.instanceMethod yX4_goOn ∈ lw_W ∧ Cond.selects yX4_goOn.cls yX4_goOn yX4_goOn ∈ lw_W := ⟨lk_710, lk_13⟩
theorem mfX4_leftAt : MF yX4_leftAt cX4_leftAt 2 (some .long) 1 := ⟨lk_821, lk_72, ⟨by decide +kernel, by decide +kernel⟩, by decide +kernel, by decide, by decide +kernel⟩
theorem mvX4_leftAt : Cond.instanceMethod yX4_leftAt ∈ lw_W ∧ Cond.selects yX4_leftAt.cls yX4_leftAt yX4_leftAt ∈ lw_W := ⟨lk_819, lk_820⟩
theorem mfX4_mendsAt : MF yX4_mendsAt cX4_mendsAt 2 (some .boolean) 1 := ⟨lk_726, lk_72, ⟨by decide +kernel, by decide +kernel⟩, by decide +kernel, by decide, by decide +kernel⟩
theorem mvX4_mendsAt : Cond.instanceMethod yX4_mendsAt ∈ lw_W ∧ Cond.selects yX4_mendsAt.cls yX4_mendsAt yX4_mendsAt ∈ lw_W := ⟨lk_724, lk_725⟩
theorem mfX4_worthAt : MF yX4_worthAt cX4_worthAt 2 (some .long) 1 := ⟨lk_722, lk_72, ⟨by decide +kernel, by decide +kernel⟩, by decide +kernel, by decide, by decide +kernel⟩
theorem mvX4_worthAt : Cond.instanceMethod yX4_worthAt ∈ lw_W ∧ Cond.selects yX4_worthAt.cls yX4_worthAt yX4_worthAt ∈ lw_W := ⟨lk_720, lk_721⟩
theorem mfX4_mendsInDeed : MF yX4_mendsInDeed cX4_mendsInDeed 8 (some .boolean) 2 := ⟨lk_684, lk_72, ⟨by decide +kernel, by decide +kernel⟩, by decide +kernel, by decide, by decide +kernel⟩
theorem mvX4_mendsInDeed : Cond.instanceMethod yX4_mendsInDeed ∈ lw_W ∧ Cond.selects yX4_mendsInDeed.cls yX4_mendsInDeed yX4_mendsInDeed ∈ lw_W := ⟨lk_682, lk_683⟩
theorem mfX4_risk : MF yX4_risk cX4_risk 21 (some .long) 4 := ⟨lk_817, lk_72, ⟨by decide +kernel, by decide +kernel⟩, by decide +kernel, by decide, by decide +kernel⟩
theorem mvX4_risk : Cond.instanceMethod yX4_risk ∈ lw_W ∧ Cond.selects yX4_risk.cls yX4_risk yX4_risk ∈ lw_W := ⟨lk_815, lk_816⟩
theorem mfX5_read : MF yX5_read cX5_read 4 (some .int) 2 := ⟨lk_618, lk_70, ⟨by decide +kernel, by decide +kernel⟩, by decide +kernel, by decide, by decide +kernel⟩
theorem mvX5_read : Cond.instanceMethod yX5_read ∈ lw_W ∧ Cond.selects yX5_read.cls yX5_read yX5_read ∈ lw_W := ⟨lk_616, lk_617⟩
theorem mfX5_next : MF yX5_next cX5_next 1 (some .int) 0 := ⟨lk_635, lk_70, ⟨by decide +kernel, by decide +kernel⟩, by decide +kernel, by decide, by decide +kernel⟩
theorem mvX5_next : Cond.instanceMethod yX5_next ∈ lw_W ∧ Cond.selects yX5_next.cls yX5_next yX5_next ∈ lw_W := ⟨lk_634, lk_10⟩
theorem mfX5_line : MF yX5_line cX5_line 1 (some .boolean) 0 := ⟨lk_623, lk_70, ⟨by decide +kernel, by decide +kernel⟩, by decide +kernel, by decide, by decide +kernel⟩
theorem mvX5_line : Cond.instanceMethod yX5_line ∈ lw_W ∧ Cond.selects yX5_line.cls yX5_line yX5_line ∈ lw_W := ⟨lk_622, lk_7⟩
theorem mfX5_binary : MF yX5_binary cX5_binary 6 (some .boolean) 2 := ⟨lk_627, lk_70, ⟨by decide +kernel, by decide +kernel⟩, by decide +kernel, by decide, by decide +kernel⟩
theorem mvX5_binary : Cond.instanceMethod yX5_binary ∈ lw_W ∧ Cond.selects yX5_binary.cls yX5_binary yX5_binary ∈ lw_W := ⟨lk_626, lk_8⟩
theorem mfX5_levelOf : MF yX5_levelOf cX5_levelOf 1 (some .int) 1 := ⟨lk_646, lk_70, ⟨by decide +kernel, by decide +kernel⟩, by decide +kernel, by decide, by decide +kernel⟩
theorem mvX5_levelOf : Cond.static yX5_levelOf ∈ lw_W := lk_645
theorem mfX5_operand : MF yX5_operand cX5_operand 3 (some .boolean) 1 := ⟨lk_631, lk_70, ⟨by decide +kernel, by decide +kernel⟩, by decide +kernel, by decide, by decide +kernel⟩
theorem mvX5_operand : Cond.instanceMethod yX5_operand ∈ lw_W ∧ Cond.selects yX5_operand.cls yX5_operand yX5_operand ∈ lw_W := ⟨lk_630, lk_9⟩
theorem mfX5_number : MF yX5_number cX5_number 3 (some .boolean) 0 := ⟨lk_639, lk_70, ⟨by decide +kernel, by decide +kernel⟩, by decide +kernel, by decide, by decide +kernel⟩
theorem mvX5_number : Cond.instanceMethod yX5_number ∈ lw_W ∧ Cond.selects yX5_number.cls yX5_number yX5_number ∈ lw_W := ⟨lk_638, lk_11⟩
theorem mfX6_holdNothing : MF yX6_holdNothing cX6_holdNothing 1 (none) 0 := ⟨lk_924, lk_77, ⟨by decide +kernel, by decide +kernel⟩, by decide +kernel, by decide, by decide +kernel⟩
theorem mvX6_holdNothing : Cond.instanceMethod yX6_holdNothing ∈ lw_W ∧ Cond.selects yX6_holdNothing.cls yX6_holdNothing yX6_holdNothing ∈ lw_W := ⟨lk_922, lk_923⟩
theorem mfX6_holdPerson : MF yX6_holdPerson cX6_holdPerson 2 (none) 1 := ⟨lk_928, lk_77, ⟨by decide +kernel, by decide +kernel⟩, by decide +kernel, by decide, by decide +kernel⟩
theorem mvX6_holdPerson : Cond.instanceMethod yX6_holdPerson ∈ lw_W ∧ Cond.selects yX6_holdPerson.cls yX6_holdPerson yX6_holdPerson ∈ lw_W := ⟨lk_926, lk_927⟩
theorem mfX6_holdRow : MF yX6_holdRow cX6_holdRow 3 (none) 2 := ⟨lk_936, lk_77, ⟨by decide +kernel, by decide +kernel⟩, by decide +kernel, by decide, by decide +kernel⟩
theorem mvX6_holdRow : Cond.instanceMethod yX6_holdRow ∈ lw_W ∧ Cond.selects yX6_holdRow.cls yX6_holdRow yX6_holdRow ∈ lw_W := ⟨lk_934, lk_935⟩
theorem mfX6_isRowOf : MF yX6_isRowOf cX6_isRowOf 2 (some .boolean) 1 := ⟨lk_531, lk_77, ⟨by decide +kernel, by decide +kernel⟩, by decide +kernel, by decide, by decide +kernel⟩
theorem mvX6_isRowOf : Cond.instanceMethod yX6_isRowOf ∈ lw_W ∧ Cond.selects yX6_isRowOf.cls yX6_isRowOf yX6_isRowOf ∈ lw_W := ⟨lk_529, lk_530⟩
theorem mfX6_hasPlaces : MF yX6_hasPlaces cX6_hasPlaces 3 (some .boolean) 2 := ⟨lk_961, lk_77, ⟨by decide +kernel, by decide +kernel⟩, by decide +kernel, by decide, by decide +kernel⟩
theorem mvX6_hasPlaces : Cond.instanceMethod yX6_hasPlaces ∈ lw_W ∧ Cond.selects yX6_hasPlaces.cls yX6_hasPlaces yX6_hasPlaces ∈ lw_W := ⟨lk_959, lk_960⟩
theorem mfX6_refusal : MF yX6_refusal cX6_refusal 2 (some .int) 1 := ⟨lk_945, lk_77, ⟨by decide +kernel, by decide +kernel⟩, by decide +kernel, by decide, by decide +kernel⟩
theorem mvX6_refusal : Cond.instanceMethod yX6_refusal ∈ lw_W ∧ Cond.selects yX6_refusal.cls yX6_refusal yX6_refusal ∈ lw_W := ⟨lk_943, lk_944⟩
theorem mfX6_keptOf : MF yX6_keptOf cX6_keptOf 3 (some .long) 1 := ⟨lk_949, lk_77, ⟨by decide +kernel, by decide +kernel⟩, by decide +kernel, by decide, by decide +kernel⟩
theorem mvX6_keptOf : Cond.instanceMethod yX6_keptOf ∈ lw_W ∧ Cond.selects yX6_keptOf.cls yX6_keptOf yX6_keptOf ∈ lw_W := ⟨lk_947, lk_948⟩
theorem mfX7_add : MF yX7_add cX7_add 3 (none) 2 := ⟨lk_643, lk_71, ⟨by decide +kernel, by decide +kernel⟩, by decide +kernel, by decide, by decide +kernel⟩
theorem mvX7_add : Cond.instanceMethod yX7_add ∈ lw_W ∧ Cond.selects yX7_add.cls yX7_add yX7_add ∈ lw_W := ⟨lk_641, lk_642⟩
theorem mfX7_become : MF yX7_become cX7_become 2 (none) 1 := ⟨lk_650, lk_71, ⟨by decide +kernel, by decide +kernel⟩, by decide +kernel, by decide, by decide +kernel⟩
theorem mvX7_become : Cond.instanceMethod yX7_become ∈ lw_W ∧ Cond.selects yX7_become.cls yX7_become yX7_become ∈ lw_W := ⟨lk_648, lk_649⟩
theorem mfX8_take : MF yX8_take cX8_take 2 (some .boolean) 1 := ⟨lk_606, lk_69, ⟨by decide +kernel, by decide +kernel⟩, by decide +kernel, by decide, by decide +kernel⟩
theorem mvX8_take : Cond.instanceMethod yX8_take ∈ lw_W ∧ Cond.selects yX8_take.cls yX8_take yX8_take ∈ lw_W := ⟨lk_604, lk_605⟩
theorem mfX8_becomeTape : MF yX8_becomeTape cX8_becomeTape 2 (some .int) 0 := ⟨lk_614, lk_69, ⟨by decide +kernel, by decide +kernel⟩, by decide +kernel, by decide, by decide +kernel⟩
theorem mvX8_becomeTape : Cond.instanceMethod yX8_becomeTape ∈ lw_W ∧ Cond.selects yX8_becomeTape.cls yX8_becomeTape yX8_becomeTape ∈ lw_W := ⟨lk_612, lk_613⟩
theorem mfX8_number : MF yX8_number cX8_number 7 (some .int) 4 := ⟨lk_585, lk_69, ⟨by decide +kernel, by decide +kernel⟩, by decide +kernel, by decide, by decide +kernel⟩
theorem mvX8_number : Cond.instanceMethod yX8_number ∈ lw_W ∧ Cond.selects yX8_number.cls yX8_number yX8_number ∈ lw_W := ⟨lk_583, lk_584⟩
theorem mfX8_workOut : MF yX8_workOut cX8_workOut 9 (some .int) 4 := ⟨lk_589, lk_69, ⟨by decide +kernel, by decide +kernel⟩, by decide +kernel, by decide, by decide +kernel⟩
theorem mvX8_workOut : Cond.instanceMethod yX8_workOut ∈ lw_W ∧ Cond.selects yX8_workOut.cls yX8_workOut yX8_workOut ∈ lw_W := ⟨lk_588, lk_6⟩
theorem mfX8_joined : MF yX8_joined cX8_joined 3 (some .int) 3 := ⟨lk_592, lk_69, ⟨by decide +kernel, by decide +kernel⟩, by decide +kernel, by decide, by decide +kernel⟩
theorem mvX8_joined : Cond.static yX8_joined ∈ lw_W := lk_591
theorem mfX9_become : MF yX9_become cX9_become 4 (none) 3 := ⟨lk_845, lk_74, ⟨by decide +kernel, by decide +kernel⟩, by decide +kernel, by decide, by decide +kernel⟩
theorem mvX9_become : Cond.instanceMethod yX9_become ∈ lw_W ∧ Cond.selects yX9_become.cls yX9_become yX9_become ∈ lw_W := ⟨lk_843, lk_844⟩
theorem mfX9_makeWhole : MF yX9_makeWhole cX9_makeWhole 2 (none) 1 := ⟨lk_519, lk_74, ⟨by decide +kernel, by decide +kernel⟩, by decide +kernel, by decide, by decide +kernel⟩
theorem mvX9_makeWhole : Cond.instanceMethod yX9_makeWhole ∈ lw_W ∧ Cond.selects yX9_makeWhole.cls yX9_makeWhole yX9_makeWhole ∈ lw_W := ⟨lk_517, lk_518⟩
theorem mfX9_mendedBy : MF yX9_mendedBy cX9_mendedBy 5 (none) 4 := ⟨lk_662, lk_74, ⟨by decide +kernel, by decide +kernel⟩, by decide +kernel, by decide, by decide +kernel⟩
theorem mvX9_mendedBy : Cond.instanceMethod yX9_mendedBy ∈ lw_W ∧ Cond.selects yX9_mendedBy.cls yX9_mendedBy yX9_mendedBy ∈ lw_W := ⟨lk_660, lk_661⟩
theorem mfX9_driveNail : MF yX9_driveNail cX9_driveNail 4 (none) 2 := ⟨lk_667, lk_74, ⟨by decide +kernel, by decide +kernel⟩, by decide +kernel, by decide, by decide +kernel⟩
theorem mvX9_driveNail : Cond.instanceMethod yX9_driveNail ∈ lw_W ∧ Cond.selects yX9_driveNail.cls yX9_driveNail yX9_driveNail ∈ lw_W := ⟨lk_666, lk_12⟩
theorem mfX9_nail : MF yX9_nail cX9_nail 3 (some .int) 2 := ⟨lk_762, lk_74, ⟨by decide +kernel, by decide +kernel⟩, by decide +kernel, by decide, by decide +kernel⟩
theorem mvX9_nail : Cond.instanceMethod yX9_nail ∈ lw_W ∧ Cond.selects yX9_nail.cls yX9_nail yX9_nail ∈ lw_W := ⟨lk_760, lk_761⟩
theorem mfX9_oftenOver : MF yX9_oftenOver cX9_oftenOver 6 (some .int) 3 := ⟨lk_775, lk_74, ⟨by decide +kernel, by decide +kernel⟩, by decide +kernel, by decide, by decide +kernel⟩
theorem mvX9_oftenOver : Cond.instanceMethod yX9_oftenOver ∈ lw_W ∧ Cond.selects yX9_oftenOver.cls yX9_oftenOver yX9_oftenOver ∈ lw_W := ⟨lk_773, lk_774⟩
theorem mfX9_pays : MF yX9_pays cX9_pays 3 (none) 2 := ⟨lk_748, lk_74, ⟨by decide +kernel, by decide +kernel⟩, by decide +kernel, by decide, by decide +kernel⟩
theorem mvX9_pays : Cond.instanceMethod yX9_pays ∈ lw_W ∧ Cond.selects yX9_pays.cls yX9_pays yX9_pays ∈ lw_W := ⟨lk_746, lk_747⟩
theorem mfX10_person : MF yX10_person cX10_person 3 (some .int) 2 := ⟨lk_495, lk_67, ⟨by decide +kernel, by decide +kernel⟩, by decide +kernel, by decide, by decide +kernel⟩
theorem mvX10_person : Cond.instanceMethod yX10_person ∈ lw_W ∧ Cond.selects yX10_person.cls yX10_person yX10_person ∈ lw_W := ⟨lk_493, lk_494⟩
theorem mfX10_thing : MF yX10_thing cX10_thing 3 (some .int) 2 := ⟨lk_503, lk_67, ⟨by decide +kernel, by decide +kernel⟩, by decide +kernel, by decide, by decide +kernel⟩
theorem mvX10_thing : Cond.instanceMethod yX10_thing ∈ lw_W ∧ Cond.selects yX10_thing.cls yX10_thing yX10_thing ∈ lw_W := ⟨lk_501, lk_502⟩
theorem mfX10_addThing : MF yX10_addThing cX10_addThing 5 (some .int) 3 := ⟨lk_507, lk_67, ⟨by decide +kernel, by decide +kernel⟩, by decide +kernel, by decide, by decide +kernel⟩
theorem mvX10_addThing : Cond.instanceMethod yX10_addThing ∈ lw_W ∧ Cond.selects yX10_addThing.cls yX10_addThing yX10_addThing ∈ lw_W := ⟨lk_506, lk_0⟩
theorem mfX10_things : MF yX10_things cX10_things 7 (some .int) 3 := ⟨lk_523, lk_67, ⟨by decide +kernel, by decide +kernel⟩, by decide +kernel, by decide, by decide +kernel⟩
theorem mvX10_things : Cond.instanceMethod yX10_things ∈ lw_W ∧ Cond.selects yX10_things.cls yX10_things yX10_things ∈ lw_W := ⟨lk_521, lk_522⟩
theorem mfX10_rule : MF yX10_rule cX10_rule 4 (some .int) 2 := ⟨lk_535, lk_67, ⟨by decide +kernel, by decide +kernel⟩, by decide +kernel, by decide, by decide +kernel⟩
theorem mvX10_rule : Cond.instanceMethod yX10_rule ∈ lw_W ∧ Cond.selects yX10_rule.cls yX10_rule yX10_rule ∈ lw_W := ⟨lk_533, lk_534⟩
theorem mfX10_mend : MF yX10_mend cX10_mend 5 (some .int) 3 := ⟨lk_539, lk_67, ⟨by decide +kernel, by decide +kernel⟩, by decide +kernel, by decide, by decide +kernel⟩
theorem mvX10_mend : Cond.instanceMethod yX10_mend ∈ lw_W ∧ Cond.selects yX10_mend.cls yX10_mend yX10_mend ∈ lw_W := ⟨lk_537, lk_538⟩
theorem mfX10_of : MF yX10_of cX10_of 3 (some .int) 2 := ⟨lk_571, lk_67, ⟨by decide +kernel, by decide +kernel⟩, by decide +kernel, by decide, by decide +kernel⟩
theorem mvX10_of : Cond.instanceMethod yX10_of ∈ lw_W ∧ Cond.selects yX10_of.cls yX10_of yX10_of ∈ lw_W := ⟨lk_569, lk_570⟩
theorem mfX10_ofPerson : MF yX10_ofPerson cX10_ofPerson 3 (some .int) 2 := ⟨lk_575, lk_67, ⟨by decide +kernel, by decide +kernel⟩, by decide +kernel, by decide, by decide +kernel⟩
theorem mvX10_ofPerson : Cond.instanceMethod yX10_ofPerson ∈ lw_W ∧ Cond.selects yX10_ofPerson.cls yX10_ofPerson yX10_ofPerson ∈ lw_W := ⟨lk_574, lk_4⟩
theorem mfX10_ofThing : MF yX10_ofThing cX10_ofThing 3 (some .int) 2 := ⟨lk_581, lk_67, ⟨by decide +kernel, by decide +kernel⟩, by decide +kernel, by decide, by decide +kernel⟩
theorem mvX10_ofThing : Cond.instanceMethod yX10_ofThing ∈ lw_W ∧ Cond.selects yX10_ofThing.cls yX10_ofThing yX10_ofThing ∈ lw_W := ⟨lk_580, lk_5⟩
theorem mfX10_feed : MF yX10_feed cX10_feed 2 (some .int) 1 := ⟨lk_602, lk_67, ⟨by decide +kernel, by decide +kernel⟩, by decide +kernel, by decide, by decide +kernel⟩
theorem mvX10_feed : Cond.instanceMethod yX10_feed ∈ lw_W ∧ Cond.selects yX10_feed.cls yX10_feed yX10_feed ∈ lw_W := ⟨lk_600, lk_601⟩
theorem mfX10_law : MF yX10_law cX10_law 2 (some .int) 0 := ⟨lk_610, lk_67, ⟨by decide +kernel, by decide +kernel⟩, by decide +kernel, by decide, by decide +kernel⟩
theorem mvX10_law : Cond.instanceMethod yX10_law ∈ lw_W ∧ Cond.selects yX10_law.cls yX10_law yX10_law ∈ lw_W := ⟨lk_608, lk_609⟩
theorem mfX10_fix : MF yX10_fix cX10_fix 4 (some .int) 1 := ⟨lk_658, lk_67, ⟨by decide +kernel, by decide +kernel⟩, by decide +kernel, by decide, by decide +kernel⟩
theorem mvX10_fix : Cond.instanceMethod yX10_fix ∈ lw_W ∧ Cond.selects yX10_fix.cls yX10_fix yX10_fix ∈ lw_W := ⟨lk_656, lk_657⟩
theorem mfX10_years : MF yX10_years cX10_years 5 (some .int) 2 := ⟨lk_672, lk_67, ⟨by decide +kernel, by decide +kernel⟩, by decide +kernel, by decide, by decide +kernel⟩
theorem mvX10_years : Cond.instanceMethod yX10_years ∈ lw_W ∧ Cond.selects yX10_years.cls yX10_years yX10_years ∈ lw_W := ⟨lk_670, lk_671⟩
theorem mfX10_paid : MF yX10_paid cX10_paid 2 (some .int) 1 := ⟨lk_754, lk_67, ⟨by decide +kernel, by decide +kernel⟩, by decide +kernel, by decide, by decide +kernel⟩
theorem mvX10_paid : Cond.instanceMethod yX10_paid ∈ lw_W ∧ Cond.selects yX10_paid.cls yX10_paid yX10_paid ∈ lw_W := ⟨lk_752, lk_753⟩
theorem mfX10_layer : MF yX10_layer cX10_layer 3 (some .int) 2 := ⟨lk_758, lk_67, ⟨by decide +kernel, by decide +kernel⟩, by decide +kernel, by decide, by decide +kernel⟩
theorem mvX10_layer : Cond.instanceMethod yX10_layer ∈ lw_W ∧ Cond.selects yX10_layer.cls yX10_layer yX10_layer ∈ lw_W := ⟨lk_756, lk_757⟩
theorem mfX10_told : MF yX10_told cX10_told 7 (some .int) 2 := ⟨lk_766, lk_67, ⟨by decide +kernel, by decide +kernel⟩, by decide +kernel, by decide, by decide +kernel⟩
theorem mvX10_told : Cond.instanceMethod yX10_told ∈ lw_W ∧ Cond.selects yX10_told.cls yX10_told yX10_told ∈ lw_W := ⟨lk_764, lk_765⟩
theorem mfX10_over : MF yX10_over cX10_over 4 (some .int) 1 := ⟨lk_771, lk_67, ⟨by decide +kernel, by decide +kernel⟩, by decide +kernel, by decide, by decide +kernel⟩
theorem mvX10_over : Cond.instanceMethod yX10_over ∈ lw_W ∧ Cond.selects yX10_over.cls yX10_over yX10_over ∈ lw_W := ⟨lk_769, lk_770⟩
theorem mfX10_isThought : MF yX10_isThought cX10_isThought 2 (some .boolean) 1 := ⟨lk_784, lk_67, ⟨by decide +kernel, by decide +kernel⟩, by decide +kernel, by decide, by decide +kernel⟩
theorem mvX10_isThought : Cond.instanceMethod yX10_isThought ∈ lw_W ∧ Cond.selects yX10_isThought.cls yX10_isThought yX10_isThought ∈ lw_W := ⟨lk_783, lk_17⟩
theorem mfX10_isZeroOrOne : MF yX10_isZeroOrOne cX10_isZeroOrOne 1 (some .boolean) 1 := ⟨lk_787, lk_67, ⟨by decide +kernel, by decide +kernel⟩, by decide +kernel, by decide, by decide +kernel⟩
theorem mvX10_isZeroOrOne : Cond.static yX10_isZeroOrOne ∈ lw_W := lk_786
theorem mfX10_fraction : MF yX10_fraction cX10_fraction 13 (some .long) 3 := ⟨lk_795, lk_67, ⟨by decide +kernel, by decide +kernel⟩, by decide +kernel, by decide, by decide +kernel⟩
theorem mvX10_fraction : Cond.static yX10_fraction ∈ lw_W := lk_794
theorem mfX10_worth : MF yX10_worth cX10_worth 6 (some .long) 3 := ⟨lk_780, lk_67, ⟨by decide +kernel, by decide +kernel⟩, by decide +kernel, by decide, by decide +kernel⟩
theorem mvX10_worth : Cond.instanceMethod yX10_worth ∈ lw_W ∧ Cond.selects yX10_worth.cls yX10_worth yX10_worth ∈ lw_W := ⟨lk_778, lk_779⟩
theorem mfX10_now : MF yX10_now cX10_now 8 (some .int) 2 := ⟨lk_803, lk_67, ⟨by decide +kernel, by decide +kernel⟩, by decide +kernel, by decide, by decide +kernel⟩
theorem mvX10_now : Cond.instanceMethod yX10_now ∈ lw_W ∧ Cond.selects yX10_now.cls yX10_now yX10_now ∈ lw_W := ⟨lk_801, lk_802⟩
theorem mfX10_leastSkill : MF yX10_leastSkill cX10_leastSkill 4 (some .int) 2 := ⟨lk_807, lk_67, ⟨by decide +kernel, by decide +kernel⟩, by decide +kernel, by decide, by decide +kernel⟩
theorem mvX10_leastSkill : Cond.instanceMethod yX10_leastSkill ∈ lw_W ∧ Cond.selects yX10_leastSkill.cls yX10_leastSkill yX10_leastSkill ∈ lw_W := ⟨lk_806, lk_18⟩
theorem mfX10_smith : MF yX10_smith cX10_smith 11 (some .long) 4 := ⟨lk_812, lk_67, ⟨by decide +kernel, by decide +kernel⟩, by decide +kernel, by decide, by decide +kernel⟩
theorem mvX10_smith : Cond.instanceMethod yX10_smith ∈ lw_W ∧ Cond.selects yX10_smith.cls yX10_smith yX10_smith ∈ lw_W := ⟨lk_810, lk_811⟩
theorem mfX10_gift : MF yX10_gift cX10_gift 5 (some .long) 3 := ⟨lk_825, lk_67, ⟨by decide +kernel, by decide +kernel⟩, by decide +kernel, by decide, by decide +kernel⟩
theorem mvX10_gift : Cond.instanceMethod yX10_gift ∈ lw_W ∧ Cond.selects yX10_gift.cls yX10_gift yX10_gift ∈ lw_W := ⟨lk_823, lk_824⟩
theorem mfX10_debts : MF yX10_debts cX10_debts 6 (some .long) 2 := ⟨lk_829, lk_67, ⟨by decide +kernel, by decide +kernel⟩, by decide +kernel, by decide, by decide +kernel⟩
theorem mvX10_debts : Cond.instanceMethod yX10_debts ∈ lw_W ∧ Cond.selects yX10_debts.cls yX10_debts yX10_debts ∈ lw_W := ⟨lk_827, lk_828⟩
theorem mfX10_startThought : MF yX10_startThought cX10_startThought 2 (none) 1 := ⟨lk_841, lk_67, ⟨by decide +kernel, by decide +kernel⟩, by decide +kernel, by decide, by decide +kernel⟩
theorem mvX10_startThought : Cond.instanceMethod yX10_startThought ∈ lw_W ∧ Cond.selects yX10_startThought.cls yX10_startThought yX10_startThought ∈ lw_W := ⟨lk_840, lk_19⟩
theorem mfX10_ruled : MF yX10_ruled cX10_ruled 11 (some .int) 3 := ⟨lk_833, lk_67, ⟨by decide +kernel, by decide +kernel⟩, by decide +kernel, by decide, by decide +kernel⟩
theorem mvX10_ruled : Cond.instanceMethod yX10_ruled ∈ lw_W ∧ Cond.selects yX10_ruled.cls yX10_ruled yX10_ruled ∈ lw_W := ⟨lk_831, lk_832⟩
theorem mfX10_ruined : MF yX10_ruined cX10_ruined 6 (some .int) 3 := ⟨lk_849, lk_67, ⟨by decide +kernel, by decide +kernel⟩, by decide +kernel, by decide, by decide +kernel⟩
theorem mvX10_ruined : Cond.instanceMethod yX10_ruined ∈ lw_W ∧ Cond.selects yX10_ruined.cls yX10_ruined yX10_ruined ∈ lw_W := ⟨lk_847, lk_848⟩
theorem mfX10_image : MF yX10_image cX10_image 1 (some .int) 0 := ⟨lk_853, lk_67, ⟨by decide +kernel, by decide +kernel⟩, by decide +kernel, by decide, by decide +kernel⟩
theorem mvX10_image : Cond.instanceMethod yX10_image ∈ lw_W ∧ Cond.selects yX10_image.cls yX10_image yX10_image ∈ lw_W := ⟨lk_851, lk_852⟩
theorem mfX10_back : MF yX10_back cX10_back 1 (some .int) 0 := ⟨lk_857, lk_67, ⟨by decide +kernel, by decide +kernel⟩, by decide +kernel, by decide, by decide +kernel⟩
theorem mvX10_back : Cond.instanceMethod yX10_back ∈ lw_W ∧ Cond.selects yX10_back.cls yX10_back yX10_back ∈ lw_W := ⟨lk_855, lk_856⟩
theorem mfX10_undo : MF yX10_undo cX10_undo 1 (some .int) 0 := ⟨lk_861, lk_67, ⟨by decide +kernel, by decide +kernel⟩, by decide +kernel, by decide, by decide +kernel⟩
theorem mvX10_undo : Cond.instanceMethod yX10_undo ∈ lw_W ∧ Cond.selects yX10_undo.cls yX10_undo yX10_undo ∈ lw_W := ⟨lk_859, lk_860⟩
theorem mfX10_redo : MF yX10_redo cX10_redo 1 (some .int) 0 := ⟨lk_870, lk_67, ⟨by decide +kernel, by decide +kernel⟩, by decide +kernel, by decide, by decide +kernel⟩
theorem mvX10_redo : Cond.instanceMethod yX10_redo ∈ lw_W ∧ Cond.selects yX10_redo.cls yX10_redo yX10_redo ∈ lw_W := ⟨lk_868, lk_869⟩
theorem mfX10_body : MF yX10_body cX10_body 2 (some .int) 1 := ⟨lk_883, lk_67, ⟨by decide +kernel, by decide +kernel⟩, by decide +kernel, by decide, by decide +kernel⟩
theorem mvX10_body : Cond.instanceMethod yX10_body ∈ lw_W ∧ Cond.selects yX10_body.cls yX10_body yX10_body ∈ lw_W := ⟨lk_881, lk_882⟩
theorem mfX10_act : MF yX10_act cX10_act 4 (some .int) 3 := ⟨lk_891, lk_67, ⟨by decide +kernel, by decide +kernel⟩, by decide +kernel, by decide, by decide +kernel⟩
theorem mvX10_act : Cond.instanceMethod yX10_act ∈ lw_W ∧ Cond.selects yX10_act.cls yX10_act yX10_act ∈ lw_W := ⟨lk_889, lk_890⟩
theorem mfX10_trace : MF yX10_trace cX10_trace 2 (some .int) 1 := ⟨lk_911, lk_67, ⟨by decide +kernel, by decide +kernel⟩, by decide +kernel, by decide, by decide +kernel⟩
theorem mvX10_trace : Cond.instanceMethod yX10_trace ∈ lw_W ∧ Cond.selects yX10_trace.cls yX10_trace yX10_trace ∈ lw_W := ⟨lk_909, lk_910⟩
theorem mfX10_shelfAt : MF yX10_shelfAt cX10_shelfAt 2 (some (.object "LastMender$Shelf")) 1 := ⟨lk_527, lk_67, ⟨by decide +kernel, by decide +kernel⟩, by decide +kernel, by decide, by decide +kernel⟩
theorem mvX10_shelfAt : Cond.instanceMethod yX10_shelfAt ∈ lw_W ∧ Cond.selects yX10_shelfAt.cls yX10_shelfAt yX10_shelfAt ∈ lw_W := ⟨lk_526, lk_1⟩
theorem mfX10_keep : MF yX10_keep cX10_keep 4 (some .int) 2 := ⟨lk_920, lk_67, ⟨by decide +kernel, by decide +kernel⟩, by decide +kernel, by decide, by decide +kernel⟩
theorem mvX10_keep : Cond.instanceMethod yX10_keep ∈ lw_W ∧ Cond.selects yX10_keep.cls yX10_keep yX10_keep ∈ lw_W := ⟨lk_918, lk_919⟩
theorem mfX10_row : MF yX10_row cX10_row 5 (some .int) 3 := ⟨lk_932, lk_67, ⟨by decide +kernel, by decide +kernel⟩, by decide +kernel, by decide, by decide +kernel⟩
theorem mvX10_row : Cond.instanceMethod yX10_row ∈ lw_W ∧ Cond.selects yX10_row.cls yX10_row yX10_row ∈ lw_W := ⟨lk_930, lk_931⟩
theorem mfX10_put : MF yX10_put cX10_put 7 (some .int) 3 := ⟨lk_941, lk_67, ⟨by decide +kernel, by decide +kernel⟩, by decide +kernel, by decide, by decide +kernel⟩
theorem mvX10_put : Cond.instanceMethod yX10_put ∈ lw_W ∧ Cond.selects yX10_put.cls yX10_put yX10_put ∈ lw_W := ⟨lk_939, lk_940⟩
theorem mfX10_element : MF yX10_element cX10_element 4 (some .long) 2 := ⟨lk_953, lk_67, ⟨by decide +kernel, by decide +kernel⟩, by decide +kernel, by decide, by decide +kernel⟩
theorem mvX10_element : Cond.instanceMethod yX10_element ∈ lw_W ∧ Cond.selects yX10_element.cls yX10_element yX10_element ∈ lw_W := ⟨lk_951, lk_952⟩
theorem mfX10_shift : MF yX10_shift cX10_shift 8 (some .int) 5 := ⟨lk_957, lk_67, ⟨by decide +kernel, by decide +kernel⟩, by decide +kernel, by decide, by decide +kernel⟩
theorem mvX10_shift : Cond.instanceMethod yX10_shift ∈ lw_W ∧ Cond.selects yX10_shift.cls yX10_shift yX10_shift ∈ lw_W := ⟨lk_955, lk_956⟩
theorem mfX10_taken : MF yX10_taken cX10_taken 4 (some .int) 2 := ⟨lk_966, lk_67, ⟨by decide +kernel, by decide +kernel⟩, by decide +kernel, by decide, by decide +kernel⟩
theorem mvX10_taken : Cond.instanceMethod yX10_taken ∈ lw_W ∧ Cond.selects yX10_taken.cls yX10_taken yX10_taken ∈ lw_W := ⟨lk_964, lk_965⟩
theorem mfX10_count : MF yX10_count cX10_count 2 (some .int) 1 := ⟨lk_979, lk_67, ⟨by decide +kernel, by decide +kernel⟩, by decide +kernel, by decide, by decide +kernel⟩
theorem mvX10_count : Cond.instanceMethod yX10_count ∈ lw_W ∧ Cond.selects yX10_count.cls yX10_count yX10_count ∈ lw_W := ⟨lk_977, lk_978⟩
theorem mfX11_within : MF yX11_within cX11_within 6 (some .boolean) 3 := ⟨lk_1192, lk_78, ⟨by decide +kernel, by decide +kernel⟩, by decide +kernel, by decide, by decide +kernel⟩
theorem mvX11_within : Cond.static yX11_within ∈ lw_W := lk_1191
theorem mfX11_becomes : MF yX11_becomes cX11_becomes 5 (some .int) 2 := ⟨lk_1231, lk_78, ⟨by decide +kernel, by decide +kernel⟩, by decide +kernel, by decide, by decide +kernel⟩
theorem mvX11_becomes : Cond.instanceMethod yX11_becomes ∈ lw_W ∧ Cond.selects yX11_becomes.cls yX11_becomes yX11_becomes ∈ lw_W := ⟨lk_1230, lk_25⟩
theorem mfX11_undo : MF yX11_undo cX11_undo 1 (some .int) 0 := ⟨lk_1180, lk_78, ⟨by decide +kernel, by decide +kernel⟩, by decide +kernel, by decide, by decide +kernel⟩
theorem mvX11_undo : Cond.instanceMethod yX11_undo ∈ lw_W ∧ Cond.selects yX11_undo.cls yX11_undo yX11_undo ∈ lw_W := ⟨lk_1178, lk_1179⟩
theorem mfX11_redo : MF yX11_redo cX11_redo 1 (some .int) 0 := ⟨lk_1184, lk_78, ⟨by decide +kernel, by decide +kernel⟩, by decide +kernel, by decide, by decide +kernel⟩
theorem mvX11_redo : Cond.instanceMethod yX11_redo ∈ lw_W ∧ Cond.selects yX11_redo.cls yX11_redo yX11_redo ∈ lw_W := ⟨lk_1182, lk_1183⟩
theorem mfX11_isPerson : MF yX11_isPerson cX11_isPerson 2 (some .boolean) 1 := ⟨lk_1227, lk_78, ⟨by decide +kernel, by decide +kernel⟩, by decide +kernel, by decide, by decide +kernel⟩
theorem mvX11_isPerson : Cond.instanceMethod yX11_isPerson ∈ lw_W ∧ Cond.selects yX11_isPerson.cls yX11_isPerson yX11_isPerson ∈ lw_W := ⟨lk_1226, lk_24⟩
theorem mfX11_isThing : MF yX11_isThing cX11_isThing 2 (some .boolean) 1 := ⟨lk_1236, lk_78, ⟨by decide +kernel, by decide +kernel⟩, by decide +kernel, by decide, by decide +kernel⟩
theorem mvX11_isThing : Cond.instanceMethod yX11_isThing ∈ lw_W ∧ Cond.selects yX11_isThing.cls yX11_isThing yX11_isThing ∈ lw_W := ⟨lk_1235, lk_26⟩
theorem mfX11_person : MF yX11_person cX11_person 3 (some .int) 2 := ⟨lk_1188, lk_78, ⟨by decide +kernel, by decide +kernel⟩, by decide +kernel, by decide, by decide +kernel⟩
theorem mvX11_person : Cond.instanceMethod yX11_person ∈ lw_W ∧ Cond.selects yX11_person.cls yX11_person yX11_person ∈ lw_W := ⟨lk_1186, lk_1187⟩
theorem mfX11_isOne : MF yX11_isOne cX11_isOne 7 (some .boolean) 3 := ⟨lk_1201, lk_78, ⟨by decide +kernel, by decide +kernel⟩, by decide +kernel, by decide, by decide +kernel⟩
theorem mvX11_isOne : Cond.instanceMethod yX11_isOne ∈ lw_W ∧ Cond.selects yX11_isOne.cls yX11_isOne yX11_isOne ∈ lw_W := ⟨lk_1200, lk_22⟩
theorem mfX11_adds : MF yX11_adds cX11_adds 5 (none) 3 := ⟨lk_1205, lk_78, ⟨by decide +kernel, by decide +kernel⟩, by decide +kernel, by decide, by decide +kernel⟩
theorem mvX11_adds : Cond.instanceMethod yX11_adds ∈ lw_W ∧ Cond.selects yX11_adds.cls yX11_adds yX11_adds ∈ lw_W := ⟨lk_1204, lk_23⟩
theorem mfX11_thing : MF yX11_thing cX11_thing 3 (some .int) 2 := ⟨lk_1197, lk_78, ⟨by decide +kernel, by decide +kernel⟩, by decide +kernel, by decide, by decide +kernel⟩
theorem mvX11_thing : Cond.instanceMethod yX11_thing ∈ lw_W ∧ Cond.selects yX11_thing.cls yX11_thing yX11_thing ∈ lw_W := ⟨lk_1195, lk_1196⟩
theorem mfX11_things : MF yX11_things cX11_things 7 (some .int) 3 := ⟨lk_1209, lk_78, ⟨by decide +kernel, by decide +kernel⟩, by decide +kernel, by decide, by decide +kernel⟩
theorem mvX11_things : Cond.instanceMethod yX11_things ∈ lw_W ∧ Cond.selects yX11_things.cls yX11_things yX11_things ∈ lw_W := ⟨lk_1207, lk_1208⟩
theorem mfX11_rule : MF yX11_rule cX11_rule 4 (some .int) 2 := ⟨lk_1218, lk_78, ⟨by decide +kernel, by decide +kernel⟩, by decide +kernel, by decide, by decide +kernel⟩
theorem mvX11_rule : Cond.instanceMethod yX11_rule ∈ lw_W ∧ Cond.selects yX11_rule.cls yX11_rule yX11_rule ∈ lw_W := ⟨lk_1216, lk_1217⟩
theorem mfX11_mend : MF yX11_mend cX11_mend 4 (some .int) 3 := ⟨lk_1223, lk_78, ⟨by decide +kernel, by decide +kernel⟩, by decide +kernel, by decide, by decide +kernel⟩
theorem mvX11_mend : Cond.instanceMethod yX11_mend ∈ lw_W ∧ Cond.selects yX11_mend.cls yX11_mend yX11_mend ∈ lw_W := ⟨lk_1221, lk_1222⟩
theorem mfX11_ofPerson : MF yX11_ofPerson cX11_ofPerson 3 (some .int) 2 := ⟨lk_1244, lk_78, ⟨by decide +kernel, by decide +kernel⟩, by decide +kernel, by decide, by decide +kernel⟩
theorem mvX11_ofPerson : Cond.instanceMethod yX11_ofPerson ∈ lw_W ∧ Cond.selects yX11_ofPerson.cls yX11_ofPerson yX11_ofPerson ∈ lw_W := ⟨lk_1243, lk_27⟩
theorem mfX11_ofThing : MF yX11_ofThing cX11_ofThing 3 (some .int) 2 := ⟨lk_1251, lk_78, ⟨by decide +kernel, by decide +kernel⟩, by decide +kernel, by decide, by decide +kernel⟩
theorem mvX11_ofThing : Cond.instanceMethod yX11_ofThing ∈ lw_W ∧ Cond.selects yX11_ofThing.cls yX11_ofThing yX11_ofThing ∈ lw_W := ⟨lk_1250, lk_28⟩
theorem mfX11_of : MF yX11_of cX11_of 3 (some .int) 2 := ⟨lk_1240, lk_78, ⟨by decide +kernel, by decide +kernel⟩, by decide +kernel, by decide, by decide +kernel⟩
theorem mvX11_of : Cond.instanceMethod yX11_of ∈ lw_W ∧ Cond.selects yX11_of.cls yX11_of yX11_of ∈ lw_W := ⟨lk_1238, lk_1239⟩
theorem mfX11_feed : MF yX11_feed cX11_feed 2 (some .int) 1 := ⟨lk_1302, lk_78, ⟨by decide +kernel, by decide +kernel⟩, by decide +kernel, by decide, by decide +kernel⟩
theorem mvX11_feed : Cond.instanceMethod yX11_feed ∈ lw_W ∧ Cond.selects yX11_feed.cls yX11_feed yX11_feed ∈ lw_W := ⟨lk_1300, lk_1301⟩
theorem mfX11_byteAt : MF yX11_byteAt cX11_byteAt 1 (some .int) 0 := ⟨lk_1287, lk_78, ⟨by decide +kernel, by decide +kernel⟩, by decide +kernel, by decide, by decide +kernel⟩
theorem mvX11_byteAt : Cond.instanceMethod yX11_byteAt ∈ lw_W ∧ Cond.selects yX11_byteAt.cls yX11_byteAt yX11_byteAt ∈ lw_W := ⟨lk_1286, lk_37⟩
theorem mfX11_wrong : MF yX11_wrong cX11_wrong 1 (some .int) 0 := ⟨lk_1291, lk_78, ⟨by decide +kernel, by decide +kernel⟩, by decide +kernel, by decide, by decide +kernel⟩
theorem mvX11_wrong : Cond.instanceMethod yX11_wrong ∈ lw_W ∧ Cond.selects yX11_wrong.cls yX11_wrong yX11_wrong ∈ lw_W := ⟨lk_1290, lk_38⟩
theorem mfX11_takes : MF yX11_takes cX11_takes 2 (some .boolean) 1 := ⟨lk_1295, lk_78, ⟨by decide +kernel, by decide +kernel⟩, by decide +kernel, by decide, by decide +kernel⟩
theorem mvX11_takes : Cond.instanceMethod yX11_takes ∈ lw_W ∧ Cond.selects yX11_takes.cls yX11_takes yX11_takes ∈ lw_W := ⟨lk_1294, lk_39⟩
theorem mfX11_either : MF yX11_either cX11_either 3 (some .int) 0 := ⟨lk_1263, lk_78, ⟨by decide +kernel, by decide +kernel⟩, by decide +kernel, by decide, by decide +kernel⟩
theorem mvX11_either : Cond.instanceMethod yX11_either ∈ lw_W ∧ Cond.selects yX11_either.cls yX11_either yX11_either ∈ lw_W := ⟨lk_1262, lk_31⟩
theorem mfX11_both : MF yX11_both cX11_both 3 (some .int) 0 := ⟨lk_1267, lk_78, ⟨by decide +kernel, by decide +kernel⟩, by decide +kernel, by decide, by decide +kernel⟩
theorem mvX11_both : Cond.instanceMethod yX11_both ∈ lw_W ∧ Cond.selects yX11_both.cls yX11_both yX11_both ∈ lw_W := ⟨lk_1266, lk_32⟩
theorem mfX11_compared : MF yX11_compared cX11_compared 4 (some .int) 0 := ⟨lk_1271, lk_78, ⟨by decide +kernel, by decide +kernel⟩, by decide +kernel, by decide, by decide +kernel⟩
theorem mvX11_compared : Cond.instanceMethod yX11_compared ∈ lw_W ∧ Cond.selects yX11_compared.cls yX11_compared yX11_compared ∈ lw_W := ⟨lk_1270, lk_33⟩
theorem mfX11_sums : MF yX11_sums cX11_sums 4 (some .int) 0 := ⟨lk_1275, lk_78, ⟨by decide +kernel, by decide +kernel⟩, by decide +kernel, by decide, by decide +kernel⟩
theorem mvX11_sums : Cond.instanceMethod yX11_sums ∈ lw_W ∧ Cond.selects yX11_sums.cls yX11_sums yX11_sums ∈ lw_W := ⟨lk_1274, lk_34⟩
theorem mfX11_product : MF yX11_product cX11_product 4 (some .int) 0 := ⟨lk_1279, lk_78, ⟨by decide +kernel, by decide +kernel⟩, by decide +kernel, by decide, by decide +kernel⟩
theorem mvX11_product : Cond.instanceMethod yX11_product ∈ lw_W ∧ Cond.selects yX11_product.cls yX11_product yX11_product ∈ lw_W := ⟨lk_1278, lk_35⟩
theorem mfX11_nameOf : MF yX11_nameOf cX11_nameOf 1 (some .int) 1 := ⟨lk_1298, lk_78, ⟨by decide +kernel, by decide +kernel⟩, by decide +kernel, by decide, by decide +kernel⟩
theorem mvX11_nameOf : Cond.static yX11_nameOf ∈ lw_W := lk_1297
theorem mfX11_one : MF yX11_one cX11_one 5 (some .int) 0 := ⟨lk_1283, lk_78, ⟨by decide +kernel, by decide +kernel⟩, by decide +kernel, by decide, by decide +kernel⟩
theorem mvX11_one : Cond.instanceMethod yX11_one ∈ lw_W ∧ Cond.selects yX11_one.cls yX11_one yX11_one ∈ lw_W := ⟨lk_1282, lk_36⟩
theorem mfX11_workOut : MF yX11_workOut cX11_workOut 8 (some .int) 2 := ⟨lk_1259, lk_78, ⟨by decide +kernel, by decide +kernel⟩, by decide +kernel, by decide, by decide +kernel⟩
theorem mvX11_workOut : Cond.instanceMethod yX11_workOut ∈ lw_W ∧ Cond.selects yX11_workOut.cls yX11_workOut yX11_workOut ∈ lw_W := ⟨lk_1258, lk_30⟩
theorem mfX11_law : MF yX11_law cX11_law 4 (some .int) 0 := ⟨lk_1307, lk_78, ⟨by decide +kernel, by decide +kernel⟩, by decide +kernel, by decide, by decide +kernel⟩
theorem mvX11_law : Cond.instanceMethod yX11_law ∈ lw_W ∧ Cond.selects yX11_law.cls yX11_law yX11_law ∈ lw_W := ⟨lk_1305, lk_1306⟩
theorem mfX11_numberOf : MF yX11_numberOf cX11_numberOf 6 (some .int) 4 := ⟨lk_1255, lk_78, ⟨by decide +kernel, by decide +kernel⟩, by decide +kernel, by decide, by decide +kernel⟩
theorem mvX11_numberOf : Cond.instanceMethod yX11_numberOf ∈ lw_W ∧ Cond.selects yX11_numberOf.cls yX11_numberOf yX11_numberOf ∈ lw_W := ⟨lk_1254, lk_29⟩
theorem mfX11_placeOf : MF yX11_placeOf cX11_placeOf 4 (some .int) 4 := ⟨lk_1332, lk_78, ⟨by decide +kernel, by decide +kernel⟩, by decide +kernel, by decide, by decide +kernel⟩
theorem mvX11_placeOf : Cond.static yX11_placeOf ∈ lw_W := lk_1331
theorem mfX11_wearsAt : MF yX11_wearsAt cX11_wearsAt 4 (some .int) 3 := ⟨lk_1340, lk_78, ⟨by decide +kernel, by decide +kernel⟩, by decide +kernel, by decide, by decide +kernel⟩
theorem mvX11_wearsAt : Cond.instanceMethod yX11_wearsAt ∈ lw_W ∧ Cond.selects yX11_wearsAt.cls yX11_wearsAt yX11_wearsAt ∈ lw_W := ⟨lk_1339, lk_45⟩
theorem mfX11_thinksOf : MF yX11_thinksOf cX11_thinksOf 6 (none) 3 := ⟨lk_1324, lk_78, ⟨by decide +kernel, by decide +kernel⟩, by decide +kernel, by decide, by decide +kernel⟩
theorem mvX11_thinksOf : Cond.instanceMethod yX11_thinksOf ∈ lw_W ∧ Cond.selects yX11_thinksOf.cls yX11_thinksOf yX11_thinksOf ∈ lw_W := ⟨lk_1323, lk_42⟩
theorem mfX11_isForgotten : MF yX11_isForgotten cX11_isForgotten 2 (some .boolean) 1 := ⟨lk_1344, lk_78, ⟨by decide +kernel, by decide +kernel⟩, by decide +kernel, by decide, by decide +kernel⟩
theorem mvX11_isForgotten : Cond.instanceMethod yX11_isForgotten ∈ lw_W ∧ Cond.selects yX11_isForgotten.cls yX11_isForgotten yX11_isForgotten ∈ lw_W := ⟨lk_1343, lk_46⟩
theorem mfX11_goes : MF yX11_goes cX11_goes 12 (some .long) 4 := ⟨lk_1336, lk_78, ⟨by decide +kernel, by decide +kernel⟩, by decide +kernel, by decide, by decide +kernel⟩
theorem mvX11_goes : Cond.instanceMethod yX11_goes ∈ lw_W ∧ Cond.selects yX11_goes.cls yX11_goes yX11_goes ∈ lw_W := ⟨lk_1335, lk_44⟩
theorem mfX11_worksOut : MF yX11_worksOut cX11_worksOut 12 (none) 1 := ⟨lk_1329, lk_78, ⟨by decide +kernel, by decide +kernel⟩, by decide +kernel, by decide, by decide +kernel⟩
theorem mvX11_worksOut : Cond.instanceMethod yX11_worksOut ∈ lw_W ∧ Cond.selects yX11_worksOut.cls yX11_worksOut yX11_worksOut ∈ lw_W := ⟨lk_1328, lk_43⟩
theorem mfX11_sortFor : MF yX11_sortFor cX11_sortFor 3 (some .int) 2 := ⟨lk_1348, lk_78, ⟨by decide +kernel, by decide +kernel⟩, by decide +kernel, by decide, by decide +kernel⟩
theorem mvX11_sortFor : Cond.instanceMethod yX11_sortFor ∈ lw_W ∧ Cond.selects yX11_sortFor.cls yX11_sortFor yX11_sortFor ∈ lw_W := ⟨lk_1347, lk_47⟩
theorem mfX11_isTy : MF yX11_isTy cX11_isTy 2 (some .boolean) 1 := ⟨lk_1315, lk_78, ⟨by decide +kernel, by decide +kernel⟩, by decide +kernel, by decide, by decide +kernel⟩
theorem mvX11_isTy : Cond.instanceMethod yX11_isTy ∈ lw_W ∧ Cond.selects yX11_isTy.cls yX11_isTy yX11_isTy ∈ lw_W := ⟨lk_1314, lk_40⟩
theorem mfX11_common : MF yX11_common cX11_common 10 (some .long) 2 := ⟨lk_1354, lk_78, ⟨by decide +kernel, by decide +kernel⟩, by decide +kernel, by decide, by decide +kernel⟩
theorem mvX11_common : Cond.static yX11_common ∈ lw_W := lk_1353
theorem mfX11_partOf : MF yX11_partOf cX11_partOf 7 (some .long) 3 := ⟨lk_1351, lk_78, ⟨by decide +kernel, by decide +kernel⟩, by decide +kernel, by decide, by decide +kernel⟩
theorem mvX11_partOf : Cond.static yX11_partOf ∈ lw_W := lk_1350
theorem mfX11_bestOf : MF yX11_bestOf cX11_bestOf 5 (some .long) 4 := ⟨lk_1320, lk_78, ⟨by decide +kernel, by decide +kernel⟩, by decide +kernel, by decide, by decide +kernel⟩
theorem mvX11_bestOf : Cond.instanceMethod yX11_bestOf ∈ lw_W ∧ Cond.selects yX11_bestOf.cls yX11_bestOf yX11_bestOf ∈ lw_W := ⟨lk_1319, lk_41⟩
theorem mfX11_worth : MF yX11_worth cX11_worth 7 (some .long) 3 := ⟨lk_1311, lk_78, ⟨by decide +kernel, by decide +kernel⟩, by decide +kernel, by decide, by decide +kernel⟩
theorem mvX11_worth : Cond.instanceMethod yX11_worth ∈ lw_W ∧ Cond.selects yX11_worth.cls yX11_worth yX11_worth ∈ lw_W := ⟨lk_1309, lk_1310⟩
theorem mfX11_now : MF yX11_now cX11_now 8 (some .int) 2 := ⟨lk_1358, lk_78, ⟨by decide +kernel, by decide +kernel⟩, by decide +kernel, by decide, by decide +kernel⟩
theorem mvX11_now : Cond.instanceMethod yX11_now ∈ lw_W ∧ Cond.selects yX11_now.cls yX11_now yX11_now ∈ lw_W := ⟨lk_1356, lk_1357⟩
theorem mfX11_payAt : MF yX11_payAt cX11_payAt 3 (some .int) 3 := ⟨lk_1370, lk_78, ⟨by decide +kernel, by decide +kernel⟩, by decide +kernel, by decide, by decide +kernel⟩
theorem mvX11_payAt : Cond.static yX11_payAt ∈ lw_W := lk_1369
theorem mfX11_paysFrom : MF yX11_paysFrom cX11_paysFrom 12 (some .long) 4 := ⟨lk_1367, lk_78, ⟨by decide +kernel, by decide +kernel⟩, by decide +kernel, by decide, by decide +kernel⟩
theorem mvX11_paysFrom : Cond.instanceMethod yX11_paysFrom ∈ lw_W ∧ Cond.selects yX11_paysFrom.cls yX11_paysFrom yX11_paysFrom ∈ lw_W := ⟨lk_1366, lk_48⟩
theorem mfX11_smith : MF yX11_smith cX11_smith 10 (some .long) 4 := ⟨lk_1363, lk_78, ⟨by decide +kernel, by decide +kernel⟩, by decide +kernel, by decide, by decide +kernel⟩
theorem mvX11_smith : Cond.instanceMethod yX11_smith ∈ lw_W ∧ Cond.selects yX11_smith.cls yX11_smith yX11_smith ∈ lw_W := ⟨lk_1361, lk_1362⟩
theorem mfX11_gift : MF yX11_gift cX11_gift 6 (some .long) 3 := ⟨lk_1374, lk_78, ⟨by decide +kernel, by decide +kernel⟩, by decide +kernel, by decide, by decide +kernel⟩
theorem mvX11_gift : Cond.instanceMethod yX11_gift ∈ lw_W ∧ Cond.selects yX11_gift.cls yX11_gift yX11_gift ∈ lw_W := ⟨lk_1372, lk_1373⟩
theorem mfX11_debts : MF yX11_debts cX11_debts 6 (some .long) 2 := ⟨lk_1378, lk_78, ⟨by decide +kernel, by decide +kernel⟩, by decide +kernel, by decide, by decide +kernel⟩
theorem mvX11_debts : Cond.instanceMethod yX11_debts ∈ lw_W ∧ Cond.selects yX11_debts.cls yX11_debts yX11_debts ∈ lw_W := ⟨lk_1376, lk_1377⟩
theorem mfX11_asksBest : MF yX11_asksBest cX11_asksBest 3 (none) 0 := ⟨lk_1395, lk_78, ⟨by decide +kernel, by decide +kernel⟩, by decide +kernel, by decide, by decide +kernel⟩
theorem mvX11_asksBest : Cond.instanceMethod yX11_asksBest ∈ lw_W ∧ Cond.selects yX11_asksBest.cls yX11_asksBest yX11_asksBest ∈ lw_W := ⟨lk_1394, lk_50⟩
theorem mfX11_mendsNow : MF yX11_mendsNow cX11_mendsNow 3 (some .boolean) 1 := ⟨lk_1403, lk_78, ⟨by decide +kernel, by decide +kernel⟩, by decide +kernel, by decide, by decide +kernel⟩
theorem mvX11_mendsNow : Cond.instanceMethod yX11_mendsNow ∈ lw_W ∧ Cond.selects yX11_mendsNow.cls yX11_mendsNow yX11_mendsNow ∈ lw_W := ⟨lk_1402, lk_52⟩
theorem mfX11_mended : MF yX11_mended cX11_mended 4 (none) 2 := ⟨lk_1386, lk_78, ⟨by decide +kernel, by decide +kernel⟩, by decide +kernel, by decide, by decide +kernel⟩
theorem mvX11_mended : Cond.instanceMethod yX11_mended ∈ lw_W ∧ Cond.selects yX11_mended.cls yX11_mended yX11_mended ∈ lw_W := ⟨lk_1385, lk_49⟩
theorem mfX11_pays : MF yX11_pays cX11_pays 3 (none) 2 := ⟨lk_1412, lk_78, ⟨by decide +kernel, by decide +kernel⟩, by decide +kernel, by decide, by decide +kernel⟩
theorem mvX11_pays : Cond.instanceMethod yX11_pays ∈ lw_W ∧ Cond.selects yX11_pays.cls yX11_pays yX11_pays ∈ lw_W := ⟨lk_1411, lk_54⟩
theorem mfX11_breaks : MF yX11_breaks cX11_breaks 7 (none) 1 := ⟨lk_1408, lk_78, ⟨by decide +kernel, by decide +kernel⟩, by decide +kernel, by decide, by decide +kernel⟩
theorem mvX11_breaks : Cond.instanceMethod yX11_breaks ∈ lw_W ∧ Cond.selects yX11_breaks.cls yX11_breaks yX11_breaks ∈ lw_W := ⟨lk_1407, lk_53⟩
theorem mfX11_goesYear : MF yX11_goesYear cX11_goesYear 3 (none) 0 := ⟨lk_1399, lk_78, ⟨by decide +kernel, by decide +kernel⟩, by decide +kernel, by decide, by decide +kernel⟩
theorem mvX11_goesYear : Cond.instanceMethod yX11_goesYear ∈ lw_W ∧ Cond.selects yX11_goesYear.cls yX11_goesYear yX11_goesYear ∈ lw_W := ⟨lk_1398, lk_51⟩
theorem mfX11_fix : MF yX11_fix cX11_fix 2 (some .int) 1 := ⟨lk_1382, lk_78, ⟨by decide +kernel, by decide +kernel⟩, by decide +kernel, by decide, by decide +kernel⟩
theorem mvX11_fix : Cond.instanceMethod yX11_fix ∈ lw_W ∧ Cond.selects yX11_fix.cls yX11_fix yX11_fix ∈ lw_W := ⟨lk_1380, lk_1381⟩
theorem mfX11_years : MF yX11_years cX11_years 4 (some .int) 2 := ⟨lk_1390, lk_78, ⟨by decide +kernel, by decide +kernel⟩, by decide +kernel, by decide, by decide +kernel⟩
theorem mvX11_years : Cond.instanceMethod yX11_years ∈ lw_W ∧ Cond.selects yX11_years.cls yX11_years yX11_years ∈ lw_W := ⟨lk_1388, lk_1389⟩
theorem mfX11_paid : MF yX11_paid cX11_paid 2 (some .int) 1 := ⟨lk_1416, lk_78, ⟨by decide +kernel, by decide +kernel⟩, by decide +kernel, by decide, by decide +kernel⟩
theorem mvX11_paid : Cond.instanceMethod yX11_paid ∈ lw_W ∧ Cond.selects yX11_paid.cls yX11_paid yX11_paid ∈ lw_W := ⟨lk_1414, lk_1415⟩
theorem mfX11_layer : MF yX11_layer cX11_layer 3 (some .int) 2 := ⟨lk_1420, lk_78, ⟨by decide +kernel, by decide +kernel⟩, by decide +kernel, by decide, by decide +kernel⟩
theorem mvX11_layer : Cond.instanceMethod yX11_layer ∈ lw_W ∧ Cond.selects yX11_layer.cls yX11_layer yX11_layer ∈ lw_W := ⟨lk_1418, lk_1419⟩
theorem mfX11_told : MF yX11_told cX11_told 5 (some .int) 2 := ⟨lk_1424, lk_78, ⟨by decide +kernel, by decide +kernel⟩, by decide +kernel, by decide, by decide +kernel⟩
theorem mvX11_told : Cond.instanceMethod yX11_told ∈ lw_W ∧ Cond.selects yX11_told.cls yX11_told yX11_told ∈ lw_W := ⟨lk_1422, lk_1423⟩
theorem mfX11_over : MF yX11_over cX11_over 5 (some .int) 1 := ⟨lk_1428, lk_78, ⟨by decide +kernel, by decide +kernel⟩, by decide +kernel, by decide, by decide +kernel⟩
theorem mvX11_over : Cond.instanceMethod yX11_over ∈ lw_W ∧ Cond.selects yX11_over.cls yX11_over yX11_over ∈ lw_W := ⟨lk_1426, lk_1427⟩
theorem mfX11_keepsAside : MF yX11_keepsAside cX11_keepsAside 5 (none) 1 := ⟨lk_1437, lk_78, ⟨by decide +kernel, by decide +kernel⟩, by decide +kernel, by decide, by decide +kernel⟩
theorem mvX11_keepsAside : Cond.instanceMethod yX11_keepsAside ∈ lw_W ∧ Cond.selects yX11_keepsAside.cls yX11_keepsAside yX11_keepsAside ∈ lw_W := ⟨lk_1436, lk_55⟩
theorem mfX11_laysBack : MF yX11_laysBack cX11_laysBack 8 (none) 4 := ⟨lk_1441, lk_78, ⟨by decide +kernel, by decide +kernel⟩, by decide +kernel, by decide, by decide +kernel⟩
theorem mvX11_laysBack : Cond.instanceMethod yX11_laysBack ∈ lw_W ∧ Cond.selects yX11_laysBack.cls yX11_laysBack yX11_laysBack ∈ lw_W := ⟨lk_1440, lk_56⟩
theorem mfX11_ruled : MF yX11_ruled cX11_ruled 9 (some .int) 3 := ⟨lk_1432, lk_78, ⟨by decide +kernel, by decide +kernel⟩, by decide +kernel, by decide, by decide +kernel⟩
theorem mvX11_ruled : Cond.instanceMethod yX11_ruled ∈ lw_W ∧ Cond.selects yX11_ruled.cls yX11_ruled yX11_ruled ∈ lw_W := ⟨lk_1430, lk_1431⟩
theorem mfX11_firstBelow : MF yX11_firstBelow cX11_firstBelow 3 (some .int) 1 := ⟨lk_1450, lk_78, ⟨by decide +kernel, by decide +kernel⟩, by decide +kernel, by decide, by decide +kernel⟩
theorem mvX11_firstBelow : Cond.instanceMethod yX11_firstBelow ∈ lw_W ∧ Cond.selects yX11_firstBelow.cls yX11_firstBelow yX11_firstBelow ∈ lw_W := ⟨lk_1449, lk_57⟩
theorem mfX11_ruined : MF yX11_ruined cX11_ruined 6 (some .int) 3 := ⟨lk_1445, lk_78, ⟨by decide +kernel, by decide +kernel⟩, by decide +kernel, by decide, by decide +kernel⟩
theorem mvX11_ruined : Cond.instanceMethod yX11_ruined ∈ lw_W ∧ Cond.selects yX11_ruined.cls yX11_ruined yX11_ruined ∈ lw_W := ⟨lk_1443, lk_1444⟩
theorem mfX11_image : MF yX11_image cX11_image 1 (some .int) 0 := ⟨lk_1454, lk_78, ⟨by decide +kernel, by decide +kernel⟩, by decide +kernel, by decide, by decide +kernel⟩
theorem mvX11_image : Cond.instanceMethod yX11_image ∈ lw_W ∧ Cond.selects yX11_image.cls yX11_image yX11_image ∈ lw_W := ⟨lk_1452, lk_1453⟩
theorem mfX11_back : MF yX11_back cX11_back 1 (some .int) 0 := ⟨lk_1458, lk_78, ⟨by decide +kernel, by decide +kernel⟩, by decide +kernel, by decide, by decide +kernel⟩
theorem mvX11_back : Cond.instanceMethod yX11_back ∈ lw_W ∧ Cond.selects yX11_back.cls yX11_back yX11_back ∈ lw_W := ⟨lk_1456, lk_1457⟩
theorem mfX11_isBody : MF yX11_isBody cX11_isBody 2 (some .boolean) 1 := ⟨lk_1471, lk_78, ⟨by decide +kernel, by decide +kernel⟩, by decide +kernel, by decide, by decide +kernel⟩
theorem mvX11_isBody : Cond.instanceMethod yX11_isBody ∈ lw_W ∧ Cond.selects yX11_isBody.cls yX11_isBody yX11_isBody ∈ lw_W := ⟨lk_1470, lk_58⟩
theorem mfX11_kindOf : MF yX11_kindOf cX11_kindOf 2 (some .int) 1 := ⟨lk_1530, lk_78, ⟨by decide +kernel, by decide +kernel⟩, by decide +kernel, by decide, by decide +kernel⟩
theorem mvX11_kindOf : Cond.instanceMethod yX11_kindOf ∈ lw_W ∧ Cond.selects yX11_kindOf.cls yX11_kindOf yX11_kindOf ∈ lw_W := ⟨lk_1529, lk_65⟩
theorem mfX11_body : MF yX11_body cX11_body 2 (some .int) 1 := ⟨lk_1462, lk_78, ⟨by decide +kernel, by decide +kernel⟩, by decide +kernel, by decide, by decide +kernel⟩
theorem mvX11_body : Cond.instanceMethod yX11_body ∈ lw_W ∧ Cond.selects yX11_body.cls yX11_body yX11_body ∈ lw_W := ⟨lk_1460, lk_1461⟩
theorem mfX11_above : MF yX11_above cX11_above 1 (some .int) 1 := ⟨lk_1533, lk_78, ⟨by decide +kernel, by decide +kernel⟩, by decide +kernel, by decide, by decide +kernel⟩
theorem mvX11_above : Cond.static yX11_above ∈ lw_W := lk_1532
theorem mfX11_begins : MF yX11_begins cX11_begins 2 (none) 1 := ⟨lk_1479, lk_78, ⟨by decide +kernel, by decide +kernel⟩, by decide +kernel, by decide, by decide +kernel⟩
theorem mvX11_begins : Cond.instanceMethod yX11_begins ∈ lw_W ∧ Cond.selects yX11_begins.cls yX11_begins yX11_begins ∈ lw_W := ⟨lk_1478, lk_60⟩
theorem mfX11_mendsAs : MF yX11_mendsAs cX11_mendsAs 3 (some .int) 2 := ⟨lk_1475, lk_78, ⟨by decide +kernel, by decide +kernel⟩, by decide +kernel, by decide, by decide +kernel⟩
theorem mvX11_mendsAs : Cond.instanceMethod yX11_mendsAs ∈ lw_W ∧ Cond.selects yX11_mendsAs.cls yX11_mendsAs yX11_mendsAs ∈ lw_W := ⟨lk_1474, lk_59⟩
theorem mfX11_paysAs : MF yX11_paysAs cX11_paysAs 4 (some .int) 2 := ⟨lk_1483, lk_78, ⟨by decide +kernel, by decide +kernel⟩, by decide +kernel, by decide, by decide +kernel⟩
theorem mvX11_paysAs : Cond.instanceMethod yX11_paysAs ∈ lw_W ∧ Cond.selects yX11_paysAs.cls yX11_paysAs yX11_paysAs ∈ lw_W := ⟨lk_1482, lk_61⟩
theorem mfX11_leavesAs : MF yX11_leavesAs cX11_leavesAs 4 (some .int) 2 := ⟨lk_1487, lk_78, ⟨by decide +kernel, by decide +kernel⟩, by decide +kernel, by decide, by decide +kernel⟩
theorem mvX11_leavesAs : Cond.instanceMethod yX11_leavesAs ∈ lw_W ∧ Cond.selects yX11_leavesAs.cls yX11_leavesAs yX11_leavesAs ∈ lw_W := ⟨lk_1486, lk_62⟩
theorem mfX11_tellsAs : MF yX11_tellsAs cX11_tellsAs 4 (some .int) 2 := ⟨lk_1491, lk_78, ⟨by decide +kernel, by decide +kernel⟩, by decide +kernel, by decide, by decide +kernel⟩
theorem mvX11_tellsAs : Cond.instanceMethod yX11_tellsAs ∈ lw_W ∧ Cond.selects yX11_tellsAs.cls yX11_tellsAs yX11_tellsAs ∈ lw_W := ⟨lk_1490, lk_63⟩
theorem mfX11_act : MF yX11_act cX11_act 4 (some .int) 3 := ⟨lk_1467, lk_78, ⟨by decide +kernel, by decide +kernel⟩, by decide +kernel, by decide, by decide +kernel⟩
theorem mvX11_act : Cond.instanceMethod yX11_act ∈ lw_W ∧ Cond.selects yX11_act.cls yX11_act yX11_act ∈ lw_W := ⟨lk_1465, lk_1466⟩
theorem mfX11_trace : MF yX11_trace cX11_trace 2 (some .int) 1 := ⟨lk_1495, lk_78, ⟨by decide +kernel, by decide +kernel⟩, by decide +kernel, by decide, by decide +kernel⟩
theorem mvX11_trace : Cond.instanceMethod yX11_trace ∈ lw_W ∧ Cond.selects yX11_trace.cls yX11_trace yX11_trace ∈ lw_W := ⟨lk_1493, lk_1494⟩
theorem mfX11_isShelf : MF yX11_isShelf cX11_isShelf 1 (some .boolean) 1 := ⟨lk_1212, lk_78, ⟨by decide +kernel, by decide +kernel⟩, by decide +kernel, by decide, by decide +kernel⟩
theorem mvX11_isShelf : Cond.static yX11_isShelf ∈ lw_W := lk_1211
theorem mfX11_keep : MF yX11_keep cX11_keep 3 (some .int) 2 := ⟨lk_1499, lk_78, ⟨by decide +kernel, by decide +kernel⟩, by decide +kernel, by decide, by decide +kernel⟩
theorem mvX11_keep : Cond.instanceMethod yX11_keep ∈ lw_W ∧ Cond.selects yX11_keep.cls yX11_keep yX11_keep ∈ lw_W := ⟨lk_1497, lk_1498⟩
theorem mfX11_row : MF yX11_row cX11_row 5 (some .int) 3 := ⟨lk_1503, lk_78, ⟨by decide +kernel, by decide +kernel⟩, by decide +kernel, by decide, by decide +kernel⟩
theorem mvX11_row : Cond.instanceMethod yX11_row ∈ lw_W ∧ Cond.selects yX11_row.cls yX11_row yX11_row ∈ lw_W := ⟨lk_1501, lk_1502⟩
theorem mfX11_refusal : MF yX11_refusal cX11_refusal 3 (some .int) 2 := ⟨lk_1511, lk_78, ⟨by decide +kernel, by decide +kernel⟩, by decide +kernel, by decide, by decide +kernel⟩
theorem mvX11_refusal : Cond.instanceMethod yX11_refusal ∈ lw_W ∧ Cond.selects yX11_refusal.cls yX11_refusal yX11_refusal ∈ lw_W := ⟨lk_1510, lk_64⟩
theorem mfX11_asSort : MF yX11_asSort cX11_asSort 3 (some .long) 2 := ⟨lk_1514, lk_78, ⟨by decide +kernel, by decide +kernel⟩, by decide +kernel, by decide, by decide +kernel⟩
theorem mvX11_asSort : Cond.static yX11_asSort ∈ lw_W := lk_1513
theorem mfX11_put : MF yX11_put cX11_put 6 (some .int) 3 := ⟨lk_1507, lk_78, ⟨by decide +kernel, by decide +kernel⟩, by decide +kernel, by decide, by decide +kernel⟩
theorem mvX11_put : Cond.instanceMethod yX11_put ∈ lw_W ∧ Cond.selects yX11_put.cls yX11_put yX11_put ∈ lw_W := ⟨lk_1505, lk_1506⟩
theorem mfX11_element : MF yX11_element cX11_element 3 (some .long) 2 := ⟨lk_1518, lk_78, ⟨by decide +kernel, by decide +kernel⟩, by decide +kernel, by decide, by decide +kernel⟩
theorem mvX11_element : Cond.instanceMethod yX11_element ∈ lw_W ∧ Cond.selects yX11_element.cls yX11_element yX11_element ∈ lw_W := ⟨lk_1516, lk_1517⟩
theorem mfX11_shift : MF yX11_shift cX11_shift 7 (some .int) 5 := ⟨lk_1522, lk_78, ⟨by decide +kernel, by decide +kernel⟩, by decide +kernel, by decide, by decide +kernel⟩
theorem mvX11_shift : Cond.instanceMethod yX11_shift ∈ lw_W ∧ Cond.selects yX11_shift.cls yX11_shift yX11_shift ∈ lw_W := ⟨lk_1520, lk_1521⟩
theorem mfX11_taken : MF yX11_taken cX11_taken 4 (some .int) 2 := ⟨lk_1526, lk_78, ⟨by decide +kernel, by decide +kernel⟩, by decide +kernel, by decide, by decide +kernel⟩
theorem mvX11_taken : Cond.instanceMethod yX11_taken ∈ lw_W ∧ Cond.selects yX11_taken.cls yX11_taken yX11_taken ∈ lw_W := ⟨lk_1524, lk_1525⟩
theorem mfX11_count : MF yX11_count cX11_count 2 (some .int) 1 := ⟨lk_1537, lk_78, ⟨by decide +kernel, by decide +kernel⟩, by decide +kernel, by decide, by decide +kernel⟩
theorem mvX11_count : Cond.instanceMethod yX11_count ∈ lw_W ∧ Cond.selects yX11_count.cls yX11_count yX11_count ∈ lw_W := ⟨lk_1535, lk_1536⟩
theorem mfJ7_fill_d0a16 : MF yJ7_fill_d0a16 cJ7_fill_d0a16 5 (none) 2 := ⟨lk_707, lk_81, ⟨by decide +kernel, by decide +kernel⟩, by decide +kernel, by decide, by decide +kernel⟩
theorem mvJ7_fill_d0a16 : Cond.static yJ7_fill_d0a16 ∈ lw_W := lk_706
theorem mfJ7_fill_031fb : MF yJ7_fill_031fb cJ7_fill_031fb 4 (none) 2 := ⟨lk_654, lk_81, ⟨by decide +kernel, by decide +kernel⟩, by decide +kernel, by decide, by decide +kernel⟩
theorem mvJ7_fill_031fb : Cond.static yJ7_fill_031fb ∈ lw_W := lk_653
