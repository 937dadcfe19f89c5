theorem l_callVI {g : gx} {cc : ByteArray} {own : String} {d : Nat} (hg : EC g cc own d) {cs : Nat × Nat} (hcs : CS g cs (0, 0)) {pc : Nat} {ls : List (Option Value)} {st rest : List Value} {M M' : mm} {y : MethodName} {b : ByteArray} {maxL n idx d' : Nat} {ret : Option FieldType} {a : List Value} {k0 ci N : Nat} {T : u_T} {v : Int32} (mf : MF y b maxL ret n) (mv : Cond.instanceMethod y ∈ lw_W ∧ Cond.selects y.cls y y ∈ lw_W) (cm : CM y b maxL ret d' (.ref k0 :: a) (cells M) (some (.int v)) (cells M')) (hw : Cond.methodLink own idx y ∈ lw_W) (hd : decode cc pc = .ok (.invokevirtual idx, 3)) (ho : isO ci k0 = true) (hc : vwCl[ci]? = some (y.cls, T, N)) (hst : st = a.reverse ++ .ref k0 :: rest) (hn : a.length = n) (hdd : d' < d) (hsum : (rest.map fun v => v.category).sum ≤ 8) (k : E g cs (pc + 3) ls (.int v :: rest) (cells M')) : E g cs pc ls st (cells M) := by
  obtain ⟨fks, h⟩ := isO_spec ho
  exact e_callV hg mf mv cm hw hd (cells_get h) hc hst hn hdd hsum hcs k
theorem l_callVJ {g : gx} {cc : ByteArray} {own : String} {d : Nat} (hg : EC g cc own d) {cs : Nat × Nat} (hcs : CS g cs (0, 0)) {pc : Nat} {ls : List (Option Value)} {st rest : List Value} {M M' : mm} {y : MethodName} {b : ByteArray} {maxL n idx d' : Nat} {ret : Option FieldType} {a : List Value} {k0 ci N : Nat} {T : u_T} {v : Int64} (mf : MF y b maxL ret n) (mv : Cond.instanceMethod y ∈ lw_W ∧ Cond.selects y.cls y y ∈ lw_W) (cm : CM y b maxL ret d' (.ref k0 :: a) (cells M) (some (.long v)) (cells M')) (hw : Cond.methodLink own idx y ∈ lw_W) (hd : decode cc pc = .ok (.invokevirtual idx, 3)) (ho : isO ci k0 = true) (hc : vwCl[ci]? = some (y.cls, T, N)) (hst : st = a.reverse ++ .ref k0 :: rest) (hn : a.length = n) (hdd : d' < d) (hsum : (rest.map fun v => v.category).sum ≤ 8) (k : E g cs (pc + 3) ls (.long v :: rest) (cells M')) : E g cs pc ls st (cells M) := by
  obtain ⟨fks, h⟩ := isO_spec ho
  exact e_callV hg mf mv cm hw hd (cells_get h) hc hst hn hdd hsum hcs k
theorem l_ret {g : gx} {cs : Nat × Nat} {pc : Nat} {ls : List (Option Value)} {M : mm} {v : Int32} {r : Int32 × mm} (hret : ∀ (pc : Nat) (ls : List (Option Value)) (M : mm), decode cL_law pc = .ok (.ireturn, 1) → E g cs pc ls [.int 1] (cells M)) (hr : r.1 = 1) (hd : decode cL_law pc = .ok (.ireturn, 1)) (h : some (v, M) = some r) : E g cs pc ls [.int v] (cells M) := by
  cases h
  cases hr
  exact hret pc ls M hd
def L_law_b1348 (L : Nat) (xs : Nat → Int32) (R18 : Int32 → mm → Option (Int32 × mm)) (x3 : Int32) (M : mm) : Option (Int32 × mm) :=
  R18 (x3 + 6) M
set_option maxRecDepth 100000 in
set_option maxHeartbeats 4000000 in
theorem L_law_b1348_ok {g : gx} {d : Nat} (hg : EC g cL_law RL d) (hd107 : 107 < d) {cs : Nat × Nat} (hcs : CS g cs (0, 0)) {L : Nat} {xs : Nat → Int32} (hx : SX g L xs) (hret : ∀ (pc : Nat) (ls : List (Option Value)) (M : mm), decode cL_law pc = .ok (.ireturn, 1) → E g cs pc ls [.int 1] (cells M)) {r : Int32 × mm} (hr : r.1 = 1) {R18 : Int32 → mm → Option (Int32 × mm)} (hR18 : ∀ (x3 : Int32) (M : mm), R18 x3 M = some r → E g cs 18 [some (.ref 1000002), some (.ref 0), some (.ref 82), some (.int x3)] [] (cells M)) {x3 : Int32} {M : mm} (h : L_law_b1348 L xs R18 x3 M = some r) : E g cs 1348 [some (.ref 1000002), some (.ref 0), some (.ref 82), some (.int x3)] [] (cells M) := by
  unfold L_law_b1348 at h
  refine e_iinc (v := (x3 + 6)) (ls' := [some (.ref 1000002), some (.ref 0), some (.ref 82), some (.int (x3 + 6))]) hg dL_law_1348 rfl rfl rfl ?_
  refine e_goto hg 18 dL_law_1351 (by decide) ?_
  exact hR18 _ _ h

def L_law_L18 (L : Nat) (xs : Nat → Int32) : Nat → Int32 → mm → Option (Int32 × mm)
  | 0, _, _ => none
  | n_ + 1, x3, M =>
    if ((Int32.ofNat L) - 6) < x3 then
      some (1, M)
    else
      gd (inb x3 L) <|
      if ((xs x3.toNatClampNeg) &&& 63) = 0 then
        gd (inb (x3 + 1) L) <|
        gd (inb (x3 + 2) L) <|
        bd (X10_person (xs (x3 + 1).toNatClampNeg) (xs (x3 + 2).toNatClampNeg) M) fun v6 M7 =>
        gd (inb (x3 + 1) L) <|
        gd (inb (x3 + 2) L) <|
        bd (X11_person (xs (x3 + 1).toNatClampNeg) (xs (x3 + 2).toNatClampNeg) M7) fun v11 M12 =>
        if v6 = v11 then
          L_law_b1348 L xs (L_law_L18 L xs n_) x3 M12
        else
          some (0, M12)
      else
      if ((xs x3.toNatClampNeg) &&& 63) = 1 then
        gd (inb (x3 + 1) L) <|
        gd (inb (x3 + 2) L) <|
        bd (X10_thing (xs (x3 + 1).toNatClampNeg) (xs (x3 + 2).toNatClampNeg) M) fun v18 M19 =>
        gd (inb (x3 + 1) L) <|
        gd (inb (x3 + 2) L) <|
        bd (X11_thing (xs (x3 + 1).toNatClampNeg) (xs (x3 + 2).toNatClampNeg) M19) fun v23 M24 =>
        if v18 = v23 then
          L_law_b1348 L xs (L_law_L18 L xs n_) x3 M24
        else
          some (0, M24)
      else
      if ((xs x3.toNatClampNeg) &&& 63) = 2 then
        gd (inb (x3 + 1) L) <|
        gd (inb (x3 + 2) L) <|
        gd (inb (x3 + 3) L) <|
        bd (X10_things (xs (x3 + 1).toNatClampNeg) (xs (x3 + 2).toNatClampNeg) (xs (x3 + 3).toNatClampNeg) M) fun v31 M32 =>
        gd (inb (x3 + 1) L) <|
        gd (inb (x3 + 2) L) <|
        gd (inb (x3 + 3) L) <|
        bd (X11_things (xs (x3 + 1).toNatClampNeg) (xs (x3 + 2).toNatClampNeg) (xs (x3 + 3).toNatClampNeg) M32) fun v37 M38 =>
        if v31 = v37 then
          L_law_b1348 L xs (L_law_L18 L xs n_) x3 M38
        else
          some (0, M38)
      else
      if ((xs x3.toNatClampNeg) &&& 63) = 3 then
        gd (inb (x3 + 1) L) <|
        gd (inb (x3 + 2) L) <|
        bd (X10_rule (xs (x3 + 1).toNatClampNeg) (xs (x3 + 2).toNatClampNeg) M) fun v44 M45 =>
        gd (inb (x3 + 1) L) <|
        gd (inb (x3 + 2) L) <|
        bd (X11_rule (xs (x3 + 1).toNatClampNeg) (xs (x3 + 2).toNatClampNeg) M45) fun v49 M50 =>
        if v44 = v49 then
          L_law_b1348 L xs (L_law_L18 L xs n_) x3 M50
        else
          some (0, M50)
      else
      if ((xs x3.toNatClampNeg) &&& 63) = 4 then
        gd (inb (x3 + 1) L) <|
        gd (inb (x3 + 2) L) <|
        gd (inb (x3 + 3) L) <|
        bd (X10_mend (xs (x3 + 1).toNatClampNeg) (xs (x3 + 2).toNatClampNeg) (xs (x3 + 3).toNatClampNeg) M) fun v57 M58 =>
        gd (inb (x3 + 1) L) <|
        gd (inb (x3 + 2) L) <|
        gd (inb (x3 + 3) L) <|
        bd (X11_mend (xs (x3 + 1).toNatClampNeg) (xs (x3 + 2).toNatClampNeg) (xs (x3 + 3).toNatClampNeg) M58) fun v63 M64 =>
        if v57 = v63 then
          L_law_b1348 L xs (L_law_L18 L xs n_) x3 M64
        else
          some (0, M64)
      else
      if ((xs x3.toNatClampNeg) &&& 63) = 5 then
        gd (inb (x3 + 1) L) <|
        gd (inb (x3 + 2) L) <|
        bd (X10_of (xs (x3 + 1).toNatClampNeg) (xs (x3 + 2).toNatClampNeg) M) fun v70 M71 =>
        gd (inb (x3 + 1) L) <|
        gd (inb (x3 + 2) L) <|
        bd (X11_of (xs (x3 + 1).toNatClampNeg) (xs (x3 + 2).toNatClampNeg) M71) fun v75 M76 =>
        if v70 = v75 then
          L_law_b1348 L xs (L_law_L18 L xs n_) x3 M76
        else
          some (0, M76)
      else
      if ((xs x3.toNatClampNeg) &&& 63) = 6 then
        gd (inb (x3 + 1) L) <|
        bd (X10_feed (xs (x3 + 1).toNatClampNeg) M) fun v81 M82 =>
        gd (inb (x3 + 1) L) <|
        bd (X11_feed (xs (x3 + 1).toNatClampNeg) M82) fun v85 M86 =>
        if v81 = v85 then
          L_law_b1348 L xs (L_law_L18 L xs n_) x3 M86
        else
          some (0, M86)
      else
      if ((xs x3.toNatClampNeg) &&& 63) = 7 then
        bd (X10_law M) fun v90 M91 =>
        bd (X11_law M91) fun v93 M94 =>
        if v90 = v93 then
          L_law_b1348 L xs (L_law_L18 L xs n_) x3 M94
        else
          some (0, M94)
      else
      if ((xs x3.toNatClampNeg) &&& 63) = 8 then
        gd (inb (x3 + 1) L) <|
        bd (X10_fix (xs (x3 + 1).toNatClampNeg) M) fun v99 M100 =>
        gd (inb (x3 + 1) L) <|
        bd (X11_fix (xs (x3 + 1).toNatClampNeg) M100) fun v103 M104 =>
        if v99 = v103 then
          L_law_b1348 L xs (L_law_L18 L xs n_) x3 M104
        else
          some (0, M104)
      else
      if ((xs x3.toNatClampNeg) &&& 63) = 9 then
        gd (inb (x3 + 1) L) <|
        gd (inb (x3 + 2) L) <|
        bd (X10_years (xs (x3 + 1).toNatClampNeg) (xs (x3 + 2).toNatClampNeg) M) fun v110 M111 =>
        gd (inb (x3 + 1) L) <|
        gd (inb (x3 + 2) L) <|
        bd (X11_years (xs (x3 + 1).toNatClampNeg) (xs (x3 + 2).toNatClampNeg) M111) fun v115 M116 =>
        if v110 = v115 then
          L_law_b1348 L xs (L_law_L18 L xs n_) x3 M116
        else
          some (0, M116)
      else
      if ((xs x3.toNatClampNeg) &&& 63) = 10 then
        gd (inb (x3 + 1) L) <|
        bd (X10_paid (xs (x3 + 1).toNatClampNeg) M) fun v121 M122 =>
        gd (inb (x3 + 1) L) <|
        bd (X11_paid (xs (x3 + 1).toNatClampNeg) M122) fun v125 M126 =>
        if v121 = v125 then
          L_law_b1348 L xs (L_law_L18 L xs n_) x3 M126
        else
          some (0, M126)
      else
      if ((xs x3.toNatClampNeg) &&& 63) = 11 then
        gd (inb (x3 + 1) L) <|
        gd (inb (x3 + 2) L) <|
        bd (X10_layer (xs (x3 + 1).toNatClampNeg) (xs (x3 + 2).toNatClampNeg) M) fun v132 M133 =>
        gd (inb (x3 + 1) L) <|
        gd (inb (x3 + 2) L) <|
        bd (X11_layer (xs (x3 + 1).toNatClampNeg) (xs (x3 + 2).toNatClampNeg) M133) fun v137 M138 =>
        if v132 = v137 then
          L_law_b1348 L xs (L_law_L18 L xs n_) x3 M138
        else
          some (0, M138)
      else
      if ((xs x3.toNatClampNeg) &&& 63) = 12 then
        gd (inb (x3 + 1) L) <|
        gd (inb (x3 + 2) L) <|
        bd (X10_told (xs (x3 + 1).toNatClampNeg) (xs (x3 + 2).toNatClampNeg) M) fun v144 M145 =>
        gd (inb (x3 + 1) L) <|
        gd (inb (x3 + 2) L) <|
        bd (X11_told (xs (x3 + 1).toNatClampNeg) (xs (x3 + 2).toNatClampNeg) M145) fun v149 M150 =>
        if v144 = v149 then
          L_law_b1348 L xs (L_law_L18 L xs n_) x3 M150
        else
          some (0, M150)
      else
      if ((xs x3.toNatClampNeg) &&& 63) = 13 then
        gd (inb (x3 + 1) L) <|
        bd (X10_over (xs (x3 + 1).toNatClampNeg) M) fun v155 M156 =>
        gd (inb (x3 + 1) L) <|
        bd (X11_over (xs (x3 + 1).toNatClampNeg) M156) fun v159 M160 =>
        if v155 = v159 then
          L_law_b1348 L xs (L_law_L18 L xs n_) x3 M160
        else
          some (0, M160)
      else
      if ((xs x3.toNatClampNeg) &&& 63) = 14 then
        gd (inb (x3 + 1) L) <|
        gd (inb (x3 + 2) L) <|
        gd (inb (x3 + 3) L) <|
        bd (X10_worth (xs (x3 + 1).toNatClampNeg) (xs (x3 + 2).toNatClampNeg) (xs (x3 + 3).toNatClampNeg) M) fun v167 M168 =>
        gd (inb (x3 + 1) L) <|
        gd (inb (x3 + 2) L) <|
        gd (inb (x3 + 3) L) <|
        bd (X11_worth (xs (x3 + 1).toNatClampNeg) (xs (x3 + 2).toNatClampNeg) (xs (x3 + 3).toNatClampNeg) M168) fun v173 M174 =>
        if (lg_cmp v167 v173) = 0 then
          L_law_b1348 L xs (L_law_L18 L xs n_) x3 M174
        else
          some (0, M174)
      else
      if ((xs x3.toNatClampNeg) &&& 63) = 15 then
        gd (inb (x3 + 1) L) <|
        gd (inb (x3 + 2) L) <|
        bd (X10_now (xs (x3 + 1).toNatClampNeg) (xs (x3 + 2).toNatClampNeg) M) fun v180 M181 =>
        gd (inb (x3 + 1) L) <|
        gd (inb (x3 + 2) L) <|
        bd (X11_now (xs (x3 + 1).toNatClampNeg) (xs (x3 + 2).toNatClampNeg) M181) fun v185 M186 =>
        if v180 = v185 then
          L_law_b1348 L xs (L_law_L18 L xs n_) x3 M186
        else
          some (0, M186)
      else
      if ((xs x3.toNatClampNeg) &&& 63) = 16 then
        gd (inb (x3 + 1) L) <|
        gd (inb (x3 + 2) L) <|
        gd (inb (x3 + 3) L) <|
        gd (inb (x3 + 4) L) <|
        bd (X10_smith (xs (x3 + 1).toNatClampNeg) (xs (x3 + 2).toNatClampNeg) (xs (x3 + 3).toNatClampNeg) (xs (x3 + 4).toNatClampNeg) M) fun v194 M195 =>
        gd (inb (x3 + 1) L) <|
        gd (inb (x3 + 2) L) <|
        gd (inb (x3 + 3) L) <|
        gd (inb (x3 + 4) L) <|
        bd (X11_smith (xs (x3 + 1).toNatClampNeg) (xs (x3 + 2).toNatClampNeg) (xs (x3 + 3).toNatClampNeg) (xs (x3 + 4).toNatClampNeg) M195) fun v201 M202 =>
        if (lg_cmp v194 v201) = 0 then
          L_law_b1348 L xs (L_law_L18 L xs n_) x3 M202
        else
          some (0, M202)
      else
      if ((xs x3.toNatClampNeg) &&& 63) = 17 then
        gd (inb (x3 + 1) L) <|
        gd (inb (x3 + 2) L) <|
        gd (inb (x3 + 3) L) <|
        bd (X10_gift (xs (x3 + 1).toNatClampNeg) (xs (x3 + 2).toNatClampNeg) (xs (x3 + 3).toNatClampNeg) M) fun v209 M210 =>
        gd (inb (x3 + 1) L) <|
        gd (inb (x3 + 2) L) <|
        gd (inb (x3 + 3) L) <|
        bd (X11_gift (xs (x3 + 1).toNatClampNeg) (xs (x3 + 2).toNatClampNeg) (xs (x3 + 3).toNatClampNeg) M210) fun v215 M216 =>
        if (lg_cmp v209 v215) = 0 then
          L_law_b1348 L xs (L_law_L18 L xs n_) x3 M216
        else
          some (0, M216)
      else
      if ((xs x3.toNatClampNeg) &&& 63) = 18 then
        gd (inb (x3 + 1) L) <|
        gd (inb (x3 + 2) L) <|
        bd (X10_debts (xs (x3 + 1).toNatClampNeg) (xs (x3 + 2).toNatClampNeg) M) fun v222 M223 =>
        gd (inb (x3 + 1) L) <|
        gd (inb (x3 + 2) L) <|
        bd (X11_debts (xs (x3 + 1).toNatClampNeg) (xs (x3 + 2).toNatClampNeg) M223) fun v227 M228 =>
        if (lg_cmp v222 v227) = 0 then
          L_law_b1348 L xs (L_law_L18 L xs n_) x3 M228
        else
          some (0, M228)
      else
      if ((xs x3.toNatClampNeg) &&& 63) = 19 then
        gd (inb (x3 + 1) L) <|
        gd (inb (x3 + 2) L) <|
        gd (inb (x3 + 3) L) <|
        bd (X10_ruled (xs (x3 + 1).toNatClampNeg) (xs (x3 + 2).toNatClampNeg) (xs (x3 + 3).toNatClampNeg) M) fun v235 M236 =>
        gd (inb (x3 + 1) L) <|
        gd (inb (x3 + 2) L) <|
        gd (inb (x3 + 3) L) <|
        bd (X11_ruled (xs (x3 + 1).toNatClampNeg) (xs (x3 + 2).toNatClampNeg) (xs (x3 + 3).toNatClampNeg) M236) fun v241 M242 =>
        if v235 = v241 then
          L_law_b1348 L xs (L_law_L18 L xs n_) x3 M242
        else
          some (0, M242)
      else
      if ((xs x3.toNatClampNeg) &&& 63) = 20 then
        gd (inb (x3 + 1) L) <|
        gd (inb (x3 + 2) L) <|
        gd (inb (x3 + 3) L) <|
        bd (X10_ruined (xs (x3 + 1).toNatClampNeg) (xs (x3 + 2).toNatClampNeg) (xs (x3 + 3).toNatClampNeg) M) fun v249 M250 =>
        gd (inb (x3 + 1) L) <|
        gd (inb (x3 + 2) L) <|
        gd (inb (x3 + 3) L) <|
        bd (X11_ruined (xs (x3 + 1).toNatClampNeg) (xs (x3 + 2).toNatClampNeg) (xs (x3 + 3).toNatClampNeg) M250) fun v255 M256 =>
        if v249 = v255 then
          L_law_b1348 L xs (L_law_L18 L xs n_) x3 M256
        else
          some (0, M256)
      else
      if ((xs x3.toNatClampNeg) &&& 63) = 21 then
        bd (X10_image M) fun v260 M261 =>
        bd (X11_image M261) fun v263 M264 =>
        if v260 = v263 then
          L_law_b1348 L xs (L_law_L18 L xs n_) x3 M264
        else
          some (0, M264)
      else
      if ((xs x3.toNatClampNeg) &&& 63) = 22 then
        bd (X10_back M) fun v268 M269 =>
        bd (X11_back M269) fun v271 M272 =>
        if v268 = v271 then
          L_law_b1348 L xs (L_law_L18 L xs n_) x3 M272
        else
          some (0, M272)
      else
      if ((xs x3.toNatClampNeg) &&& 63) = 23 then
        bd (X10_undo M) fun v276 M277 =>
        bd (X11_undo M277) fun v279 M280 =>
        if v276 = v279 then
          L_law_b1348 L xs (L_law_L18 L xs n_) x3 M280
        else
          some (0, M280)
      else
      if ((xs x3.toNatClampNeg) &&& 63) = 24 then
        bd (X10_redo M) fun v284 M285 =>
        bd (X11_redo M285) fun v287 M288 =>
        if v284 = v287 then
          L_law_b1348 L xs (L_law_L18 L xs n_) x3 M288
        else
          some (0, M288)
      else
      if ((xs x3.toNatClampNeg) &&& 63) = 25 then
        gd (inb (x3 + 1) L) <|
        bd (X10_body (xs (x3 + 1).toNatClampNeg) M) fun v293 M294 =>
        gd (inb (x3 + 1) L) <|
        bd (X11_body (xs (x3 + 1).toNatClampNeg) M294) fun v297 M298 =>
        if v293 = v297 then
          L_law_b1348 L xs (L_law_L18 L xs n_) x3 M298
        else
          some (0, M298)
      else
      if ((xs x3.toNatClampNeg) &&& 63) = 26 then
        gd (inb (x3 + 1) L) <|
        gd (inb (x3 + 2) L) <|
        gd (inb (x3 + 3) L) <|
        bd (X10_act (xs (x3 + 1).toNatClampNeg) (xs (x3 + 2).toNatClampNeg) (xs (x3 + 3).toNatClampNeg) M) fun v305 M306 =>
        gd (inb (x3 + 1) L) <|
        gd (inb (x3 + 2) L) <|
        gd (inb (x3 + 3) L) <|
        bd (X11_act (xs (x3 + 1).toNatClampNeg) (xs (x3 + 2).toNatClampNeg) (xs (x3 + 3).toNatClampNeg) M306) fun v311 M312 =>
        if v305 = v311 then
          L_law_b1348 L xs (L_law_L18 L xs n_) x3 M312
        else
          some (0, M312)
      else
      if ((xs x3.toNatClampNeg) &&& 63) = 27 then
        gd (inb (x3 + 1) L) <|
        bd (X10_trace (xs (x3 + 1).toNatClampNeg) M) fun v317 M318 =>
        gd (inb (x3 + 1) L) <|
        bd (X11_trace (xs (x3 + 1).toNatClampNeg) M318) fun v321 M322 =>
        if v317 = v321 then
          L_law_b1348 L xs (L_law_L18 L xs n_) x3 M322
        else
          some (0, M322)
      else
      if ((xs x3.toNatClampNeg) &&& 63) = 28 then
        gd (inb (x3 + 1) L) <|
        gd (inb (x3 + 2) L) <|
        bd (X10_keep (xs (x3 + 1).toNatClampNeg) (xs (x3 + 2).toNatClampNeg) M) fun v328 M329 =>
        gd (inb (x3 + 1) L) <|
        gd (inb (x3 + 2) L) <|
        bd (X11_keep (xs (x3 + 1).toNatClampNeg) (xs (x3 + 2).toNatClampNeg) M329) fun v333 M334 =>
        if v328 = v333 then
          L_law_b1348 L xs (L_law_L18 L xs n_) x3 M334
        else
          some (0, M334)
      else
      if ((xs x3.toNatClampNeg) &&& 63) = 29 then
        gd (inb (x3 + 1) L) <|
        gd (inb (x3 + 2) L) <|
        gd (inb (x3 + 3) L) <|
        bd (X10_row (xs (x3 + 1).toNatClampNeg) (xs (x3 + 2).toNatClampNeg) (xs (x3 + 3).toNatClampNeg) M) fun v341 M342 =>
        gd (inb (x3 + 1) L) <|
        gd (inb (x3 + 2) L) <|
        gd (inb (x3 + 3) L) <|
        bd (X11_row (xs (x3 + 1).toNatClampNeg) (xs (x3 + 2).toNatClampNeg) (xs (x3 + 3).toNatClampNeg) M342) fun v347 M348 =>
        if v341 = v347 then
          L_law_b1348 L xs (L_law_L18 L xs n_) x3 M348
        else
          some (0, M348)
      else
      if ((xs x3.toNatClampNeg) &&& 63) = 30 then
        gd (inb (x3 + 1) L) <|
        gd (inb (x3 + 2) L) <|
        gd (inb (x3 + 3) L) <|
        gd (inb (x3 + 4) L) <|
        bd (X10_put (xs (x3 + 1).toNatClampNeg) (xs (x3 + 2).toNatClampNeg) (((xs (x3 + 3).toNatClampNeg).toInt64 <<< ((32 : Int32).toInt64 &&& 63)) ||| ((xs (x3 + 4).toNatClampNeg).toInt64 &&& 4294967295)) M) fun v356 M357 =>
        gd (inb (x3 + 1) L) <|
        gd (inb (x3 + 2) L) <|
        gd (inb (x3 + 3) L) <|
        gd (inb (x3 + 4) L) <|
        bd (X11_put (xs (x3 + 1).toNatClampNeg) (xs (x3 + 2).toNatClampNeg) (((xs (x3 + 3).toNatClampNeg).toInt64 <<< ((32 : Int32).toInt64 &&& 63)) ||| ((xs (x3 + 4).toNatClampNeg).toInt64 &&& 4294967295)) M357) fun v363 M364 =>
        if v356 = v363 then
          L_law_b1348 L xs (L_law_L18 L xs n_) x3 M364
        else
          some (0, M364)
      else
      if ((xs x3.toNatClampNeg) &&& 63) = 31 then
        gd (inb (x3 + 1) L) <|
        gd (inb (x3 + 2) L) <|
        bd (X10_element (xs (x3 + 1).toNatClampNeg) (xs (x3 + 2).toNatClampNeg) M) fun v370 M371 =>
        gd (inb (x3 + 1) L) <|
        gd (inb (x3 + 2) L) <|
        bd (X11_element (xs (x3 + 1).toNatClampNeg) (xs (x3 + 2).toNatClampNeg) M371) fun v375 M376 =>
        if (lg_cmp v370 v375) = 0 then
          L_law_b1348 L xs (L_law_L18 L xs n_) x3 M376
        else
          some (0, M376)
      else
      if ((xs x3.toNatClampNeg) &&& 63) = 32 then
        gd (inb (x3 + 1) L) <|
        gd (inb (x3 + 2) L) <|
        gd (inb (x3 + 3) L) <|
        gd (inb (x3 + 4) L) <|
        gd (inb (x3 + 5) L) <|
        bd (X10_shift (xs (x3 + 1).toNatClampNeg) (xs (x3 + 2).toNatClampNeg) (xs (x3 + 3).toNatClampNeg) (xs (x3 + 4).toNatClampNeg) (xs (x3 + 5).toNatClampNeg) M) fun v385 M386 =>
        gd (inb (x3 + 1) L) <|
        gd (inb (x3 + 2) L) <|
        gd (inb (x3 + 3) L) <|
        gd (inb (x3 + 4) L) <|
        gd (inb (x3 + 5) L) <|
        bd (X11_shift (xs (x3 + 1).toNatClampNeg) (xs (x3 + 2).toNatClampNeg) (xs (x3 + 3).toNatClampNeg) (xs (x3 + 4).toNatClampNeg) (xs (x3 + 5).toNatClampNeg) M386) fun v393 M394 =>
        if v385 = v393 then
          L_law_b1348 L xs (L_law_L18 L xs n_) x3 M394
        else
          some (0, M394)
      else
      if ((xs x3.toNatClampNeg) &&& 63) = 33 then
        gd (inb (x3 + 1) L) <|
        gd (inb (x3 + 2) L) <|
        bd (X10_taken (xs (x3 + 1).toNatClampNeg) (xs (x3 + 2).toNatClampNeg) M) fun v400 M401 =>
        gd (inb (x3 + 1) L) <|
        gd (inb (x3 + 2) L) <|
        bd (X11_taken (xs (x3 + 1).toNatClampNeg) (xs (x3 + 2).toNatClampNeg) M401) fun v405 M406 =>
        if v400 = v405 then
          L_law_b1348 L xs (L_law_L18 L xs n_) x3 M406
        else
          some (0, M406)
      else
      if ((xs x3.toNatClampNeg) &&& 63) = 34 then
        gd (inb (x3 + 1) L) <|
        bd (X10_count (xs (x3 + 1).toNatClampNeg) M) fun v411 M412 =>
        gd (inb (x3 + 1) L) <|
        bd (X11_count (xs (x3 + 1).toNatClampNeg) M412) fun v415 M416 =>
        if v411 = v415 then
          L_law_b1348 L xs (L_law_L18 L xs n_) x3 M416
        else
          some (0, M416)
      else
      L_law_b1348 L xs (L_law_L18 L xs n_) x3 M
set_option maxRecDepth 100000 in
set_option maxHeartbeats 4000000 in
theorem L_law_L18_ok {g : gx} {d : Nat} (hg : EC g cL_law RL d) (hd107 : 107 < d) {cs : Nat × Nat} (hcs : CS g cs (0, 0)) {L : Nat} {xs : Nat → Int32} (hx : SX g L xs) (hret : ∀ (pc : Nat) (ls : List (Option Value)) (M : mm), decode cL_law pc = .ok (.ireturn, 1) → E g cs pc ls [.int 1] (cells M)) {r : Int32 × mm} (hr : r.1 = 1) : ∀ (n_ : Nat) (x3 : Int32) (M : mm), L_law_L18 L xs n_ x3 M = some r → E g cs 18 [some (.ref 1000002), some (.ref 0), some (.ref 82), some (.int x3)] [] (cells M) := by
  intro n_
  induction n_ with
  | zero => intro x3 M h; exact o_no h
  | succ n_ ih =>
    intro x3 M h
    rw [L_law_L18] at h
    refine e_iload_n hg dL_law_18 rfl ?_
    refine e_aload_n hg dL_law_19 rfl ?_
    refine e_slen hg hx dL_law_20 ?_
    refine e_bipush (v := 6) hg dL_law_21 (by decide) ?_
    refine e_isub hg dL_law_23 ?_
    refine e_icmpgt hg 1354 dL_law_24 (by decide) (fun c1 => ?_) (fun c1 => ?_)
    · have h := o_pos c1 h
      refine e_iconst (v := 1) hg dL_law_1354 (by decide) ?_
      exact l_ret hret hr dL_law_1355 h
    · have h := o_neg c1 h
      refine e_aload_n hg dL_law_27 rfl ?_
      refine e_iload_n hg dL_law_28 rfl ?_
      obtain ⟨hi2, h⟩ := o_gd h
      refine e_sld hg hx hi2 dL_law_29 ?_
      refine e_bipush (v := 63) hg dL_law_30 (by decide) ?_
      refine e_iand hg dL_law_32 ?_
      by_cases c3 : ((xs x3.toNatClampNeg) &&& 63) = 0
      · have h := o_pos c3 h
        refine e_tabIn (v := 0) hg 188 dL_law_33 c3 (by decide) (by decide) rfl (by decide) ?_
        refine e_aload_n hg dL_law_188 rfl ?_
        refine e_aload_n hg dL_law_189 rfl ?_
        refine e_iload_n hg dL_law_190 rfl ?_
        refine e_iconst (v := 1) hg dL_law_191 (by decide) ?_
        refine e_iadd hg dL_law_192 ?_
        obtain ⟨hi4, h⟩ := o_gd h
        refine e_sld hg hx hi4 dL_law_193 ?_
        refine e_aload_n hg dL_law_194 rfl ?_
        refine e_iload_n hg dL_law_195 rfl ?_
        refine e_iconst (v := 2) hg dL_law_196 (by decide) ?_
        refine e_iadd hg dL_law_197 ?_
        obtain ⟨hi5, h⟩ := o_gd h
        refine e_sld hg hx hi5 dL_law_198 ?_
        obtain ⟨v6, M7, hc8, h⟩ := o_bd h
        refine l_callVI (rest := []) (v := v6) (M' := M7) (ci := 10) hg hcs mfX10_person mvX10_person (X10_person_ok (r := (v6, M7)) hc8) lk_492 dL_law_199 io_0 rfl rfl rfl (by omega) (Nat.le_of_ble_eq_true rfl) ?_
        refine e_aload_n hg dL_law_202 rfl ?_
        refine e_aload_n hg dL_law_203 rfl ?_
        refine e_iload_n hg dL_law_204 rfl ?_
        refine e_iconst (v := 1) hg dL_law_205 (by decide) ?_
        refine e_iadd hg dL_law_206 ?_
        obtain ⟨hi9, h⟩ := o_gd h
        refine e_sld hg hx hi9 dL_law_207 ?_
        refine e_aload_n hg dL_law_208 rfl ?_
        refine e_iload_n hg dL_law_209 rfl ?_
        refine e_iconst (v := 2) hg dL_law_210 (by decide) ?_
        refine e_iadd hg dL_law_211 ?_
        obtain ⟨hi10, h⟩ := o_gd h
        refine e_sld hg hx hi10 dL_law_212 ?_
        obtain ⟨v11, M12, hc13, h⟩ := o_bd h
        refine l_callVI (rest := [.int v6]) (v := v11) (M' := M12) (ci := 11) hg hcs mfX11_person mvX11_person (X11_person_ok (r := (v11, M12)) hc13) lk_1185 dL_law_213 io_82 rfl rfl rfl (by omega) (Nat.le_of_ble_eq_true rfl) ?_
        refine e_icmpeq hg 1348 dL_law_216 (by decide) (fun c14 => ?_) (fun c14 => ?_)
        · have h := o_pos c14 h
          exact L_law_b1348_ok hg hd107 hcs hx hret hr ih h
        · have h := o_neg c14 h
          refine e_iconst (v := 0) hg dL_law_219 (by decide) ?_
          exact l_ret hret hr dL_law_220 h
      have h := o_neg c3 h
      by_cases c15 : ((xs x3.toNatClampNeg) &&& 63) = 1
      · have h := o_pos c15 h
        refine e_tabIn (v := 1) hg 221 dL_law_33 c15 (by decide) (by decide) rfl (by decide) ?_
        refine e_aload_n hg dL_law_221 rfl ?_
        refine e_aload_n hg dL_law_222 rfl ?_
        refine e_iload_n hg dL_law_223 rfl ?_
        refine e_iconst (v := 1) hg dL_law_224 (by decide) ?_
        refine e_iadd hg dL_law_225 ?_
        obtain ⟨hi16, h⟩ := o_gd h
        refine e_sld hg hx hi16 dL_law_226 ?_
        refine e_aload_n hg dL_law_227 rfl ?_
        refine e_iload_n hg dL_law_228 rfl ?_
        refine e_iconst (v := 2) hg dL_law_229 (by decide) ?_
        refine e_iadd hg dL_law_230 ?_
        obtain ⟨hi17, h⟩ := o_gd h
        refine e_sld hg hx hi17 dL_law_231 ?_
        obtain ⟨v18, M19, hc20, h⟩ := o_bd h
        refine l_callVI (rest := []) (v := v18) (M' := M19) (ci := 10) hg hcs mfX10_thing mvX10_thing (X10_thing_ok (r := (v18, M19)) hc20) lk_500 dL_law_232 io_0 rfl rfl rfl (by omega) (Nat.le_of_ble_eq_true rfl) ?_
        refine e_aload_n hg dL_law_235 rfl ?_
        refine e_aload_n hg dL_law_236 rfl ?_
        refine e_iload_n hg dL_law_237 rfl ?_
        refine e_iconst (v := 1) hg dL_law_238 (by decide) ?_
        refine e_iadd hg dL_law_239 ?_
        obtain ⟨hi21, h⟩ := o_gd h
        refine e_sld hg hx hi21 dL_law_240 ?_
        refine e_aload_n hg dL_law_241 rfl ?_
        refine e_iload_n hg dL_law_242 rfl ?_
        refine e_iconst (v := 2) hg dL_law_243 (by decide) ?_
        refine e_iadd hg dL_law_244 ?_
        obtain ⟨hi22, h⟩ := o_gd h
        refine e_sld hg hx hi22 dL_law_245 ?_
        obtain ⟨v23, M24, hc25, h⟩ := o_bd h
        refine l_callVI (rest := [.int v18]) (v := v23) (M' := M24) (ci := 11) hg hcs mfX11_thing mvX11_thing (X11_thing_ok (r := (v23, M24)) hc25) lk_1194 dL_law_246 io_82 rfl rfl rfl (by omega) (Nat.le_of_ble_eq_true rfl) ?_
        refine e_icmpeq hg 1348 dL_law_249 (by decide) (fun c26 => ?_) (fun c26 => ?_)
        · have h := o_pos c26 h
          exact L_law_b1348_ok hg hd107 hcs hx hret hr ih h
        · have h := o_neg c26 h
          refine e_iconst (v := 0) hg dL_law_252 (by decide) ?_
          exact l_ret hret hr dL_law_253 h
      have h := o_neg c15 h
      by_cases c27 : ((xs x3.toNatClampNeg) &&& 63) = 2
      · have h := o_pos c27 h
        refine e_tabIn (v := 2) hg 254 dL_law_33 c27 (by decide) (by decide) rfl (by decide) ?_
        refine e_aload_n hg dL_law_254 rfl ?_
        refine e_aload_n hg dL_law_255 rfl ?_
        refine e_iload_n hg dL_law_256 rfl ?_
        refine e_iconst (v := 1) hg dL_law_257 (by decide) ?_
        refine e_iadd hg dL_law_258 ?_
        obtain ⟨hi28, h⟩ := o_gd h
        refine e_sld hg hx hi28 dL_law_259 ?_
        refine e_aload_n hg dL_law_260 rfl ?_
        refine e_iload_n hg dL_law_261 rfl ?_
        refine e_iconst (v := 2) hg dL_law_262 (by decide) ?_
        refine e_iadd hg dL_law_263 ?_
        obtain ⟨hi29, h⟩ := o_gd h
        refine e_sld hg hx hi29 dL_law_264 ?_
        refine e_aload_n hg dL_law_265 rfl ?_
        refine e_iload_n hg dL_law_266 rfl ?_
        refine e_iconst (v := 3) hg dL_law_267 (by decide) ?_
        refine e_iadd hg dL_law_268 ?_
        obtain ⟨hi30, h⟩ := o_gd h
        refine e_sld hg hx hi30 dL_law_269 ?_
        obtain ⟨v31, M32, hc33, h⟩ := o_bd h
        refine l_callVI (rest := []) (v := v31) (M' := M32) (ci := 10) hg hcs mfX10_things mvX10_things (X10_things_ok (r := (v31, M32)) hc33) lk_520 dL_law_270 io_0 rfl rfl rfl (by omega) (Nat.le_of_ble_eq_true rfl) ?_
        refine e_aload_n hg dL_law_273 rfl ?_
        refine e_aload_n hg dL_law_274 rfl ?_
        refine e_iload_n hg dL_law_275 rfl ?_
        refine e_iconst (v := 1) hg dL_law_276 (by decide) ?_
        refine e_iadd hg dL_law_277 ?_
        obtain ⟨hi34, h⟩ := o_gd h
        refine e_sld hg hx hi34 dL_law_278 ?_
        refine e_aload_n hg dL_law_279 rfl ?_
        refine e_iload_n hg dL_law_280 rfl ?_
        refine e_iconst (v := 2) hg dL_law_281 (by decide) ?_
        refine e_iadd hg dL_law_282 ?_
        obtain ⟨hi35, h⟩ := o_gd h
        refine e_sld hg hx hi35 dL_law_283 ?_
        refine e_aload_n hg dL_law_284 rfl ?_
        refine e_iload_n hg dL_law_285 rfl ?_
        refine e_iconst (v := 3) hg dL_law_286 (by decide) ?_
        refine e_iadd hg dL_law_287 ?_
        obtain ⟨hi36, h⟩ := o_gd h
        refine e_sld hg hx hi36 dL_law_288 ?_
        obtain ⟨v37, M38, hc39, h⟩ := o_bd h
        refine l_callVI (rest := [.int v31]) (v := v37) (M' := M38) (ci := 11) hg hcs mfX11_things mvX11_things (X11_things_ok (r := (v37, M38)) hc39) lk_1206 dL_law_289 io_82 rfl rfl rfl (by omega) (Nat.le_of_ble_eq_true rfl) ?_
        refine e_icmpeq hg 1348 dL_law_292 (by decide) (fun c40 => ?_) (fun c40 => ?_)
        · have h := o_pos c40 h
          exact L_law_b1348_ok hg hd107 hcs hx hret hr ih h
        · have h := o_neg c40 h
          refine e_iconst (v := 0) hg dL_law_295 (by decide) ?_
          exact l_ret hret hr dL_law_296 h
      have h := o_neg c27 h
      by_cases c41 : ((xs x3.toNatClampNeg) &&& 63) = 3
      · have h := o_pos c41 h
        refine e_tabIn (v := 3) hg 297 dL_law_33 c41 (by decide) (by decide) rfl (by decide) ?_
        refine e_aload_n hg dL_law_297 rfl ?_
        refine e_aload_n hg dL_law_298 rfl ?_
        refine e_iload_n hg dL_law_299 rfl ?_
        refine e_iconst (v := 1) hg dL_law_300 (by decide) ?_
        refine e_iadd hg dL_law_301 ?_
        obtain ⟨hi42, h⟩ := o_gd h
        refine e_sld hg hx hi42 dL_law_302 ?_
        refine e_aload_n hg dL_law_303 rfl ?_
        refine e_iload_n hg dL_law_304 rfl ?_
        refine e_iconst (v := 2) hg dL_law_305 (by decide) ?_
        refine e_iadd hg dL_law_306 ?_
        obtain ⟨hi43, h⟩ := o_gd h
        refine e_sld hg hx hi43 dL_law_307 ?_
        obtain ⟨v44, M45, hc46, h⟩ := o_bd h
        refine l_callVI (rest := []) (v := v44) (M' := M45) (ci := 10) hg hcs mfX10_rule mvX10_rule (X10_rule_ok (r := (v44, M45)) hc46) lk_532 dL_law_308 io_0 rfl rfl rfl (by omega) (Nat.le_of_ble_eq_true rfl) ?_
        refine e_aload_n hg dL_law_311 rfl ?_
        refine e_aload_n hg dL_law_312 rfl ?_
        refine e_iload_n hg dL_law_313 rfl ?_
        refine e_iconst (v := 1) hg dL_law_314 (by decide) ?_
        refine e_iadd hg dL_law_315 ?_
        obtain ⟨hi47, h⟩ := o_gd h
        refine e_sld hg hx hi47 dL_law_316 ?_
        refine e_aload_n hg dL_law_317 rfl ?_
        refine e_iload_n hg dL_law_318 rfl ?_
        refine e_iconst (v := 2) hg dL_law_319 (by decide) ?_
        refine e_iadd hg dL_law_320 ?_
        obtain ⟨hi48, h⟩ := o_gd h
        refine e_sld hg hx hi48 dL_law_321 ?_
        obtain ⟨v49, M50, hc51, h⟩ := o_bd h
        refine l_callVI (rest := [.int v44]) (v := v49) (M' := M50) (ci := 11) hg hcs mfX11_rule mvX11_rule (X11_rule_ok (r := (v49, M50)) hc51) lk_1215 dL_law_322 io_82 rfl rfl rfl (by omega) (Nat.le_of_ble_eq_true rfl) ?_
        refine e_icmpeq hg 1348 dL_law_325 (by decide) (fun c52 => ?_) (fun c52 => ?_)
        · have h := o_pos c52 h
          exact L_law_b1348_ok hg hd107 hcs hx hret hr ih h
        · have h := o_neg c52 h
          refine e_iconst (v := 0) hg dL_law_328 (by decide) ?_
          exact l_ret hret hr dL_law_329 h
      have h := o_neg c41 h
      by_cases c53 : ((xs x3.toNatClampNeg) &&& 63) = 4
      · have h := o_pos c53 h
        refine e_tabIn (v := 4) hg 330 dL_law_33 c53 (by decide) (by decide) rfl (by decide) ?_
        refine e_aload_n hg dL_law_330 rfl ?_
        refine e_aload_n hg dL_law_331 rfl ?_
        refine e_iload_n hg dL_law_332 rfl ?_
        refine e_iconst (v := 1) hg dL_law_333 (by decide) ?_
        refine e_iadd hg dL_law_334 ?_
        obtain ⟨hi54, h⟩ := o_gd h
        refine e_sld hg hx hi54 dL_law_335 ?_
        refine e_aload_n hg dL_law_336 rfl ?_
        refine e_iload_n hg dL_law_337 rfl ?_
        refine e_iconst (v := 2) hg dL_law_338 (by decide) ?_
        refine e_iadd hg dL_law_339 ?_
        obtain ⟨hi55, h⟩ := o_gd h
        refine e_sld hg hx hi55 dL_law_340 ?_
        refine e_aload_n hg dL_law_341 rfl ?_
        refine e_iload_n hg dL_law_342 rfl ?_
        refine e_iconst (v := 3) hg dL_law_343 (by decide) ?_
        refine e_iadd hg dL_law_344 ?_
        obtain ⟨hi56, h⟩ := o_gd h
        refine e_sld hg hx hi56 dL_law_345 ?_
        obtain ⟨v57, M58, hc59, h⟩ := o_bd h
        refine l_callVI (rest := []) (v := v57) (M' := M58) (ci := 10) hg hcs mfX10_mend mvX10_mend (X10_mend_ok (r := (v57, M58)) hc59) lk_536 dL_law_346 io_0 rfl rfl rfl (by omega) (Nat.le_of_ble_eq_true rfl) ?_
        refine e_aload_n hg dL_law_349 rfl ?_
        refine e_aload_n hg dL_law_350 rfl ?_
        refine e_iload_n hg dL_law_351 rfl ?_
        refine e_iconst (v := 1) hg dL_law_352 (by decide) ?_
        refine e_iadd hg dL_law_353 ?_
        obtain ⟨hi60, h⟩ := o_gd h
        refine e_sld hg hx hi60 dL_law_354 ?_
        refine e_aload_n hg dL_law_355 rfl ?_
        refine e_iload_n hg dL_law_356 rfl ?_
        refine e_iconst (v := 2) hg dL_law_357 (by decide) ?_
        refine e_iadd hg dL_law_358 ?_
        obtain ⟨hi61, h⟩ := o_gd h
        refine e_sld hg hx hi61 dL_law_359 ?_
        refine e_aload_n hg dL_law_360 rfl ?_
        refine e_iload_n hg dL_law_361 rfl ?_
        refine e_iconst (v := 3) hg dL_law_362 (by decide) ?_
        refine e_iadd hg dL_law_363 ?_
        obtain ⟨hi62, h⟩ := o_gd h
        refine e_sld hg hx hi62 dL_law_364 ?_
        obtain ⟨v63, M64, hc65, h⟩ := o_bd h
        refine l_callVI (rest := [.int v57]) (v := v63) (M' := M64) (ci := 11) hg hcs mfX11_mend mvX11_mend (X11_mend_ok (r := (v63, M64)) hc65) lk_1220 dL_law_365 io_82 rfl rfl rfl (by omega) (Nat.le_of_ble_eq_true rfl) ?_
        refine e_icmpeq hg 1348 dL_law_368 (by decide) (fun c66 => ?_) (fun c66 => ?_)
        · have h := o_pos c66 h
          exact L_law_b1348_ok hg hd107 hcs hx hret hr ih h
        · have h := o_neg c66 h
          refine e_iconst (v := 0) hg dL_law_371 (by decide) ?_
          exact l_ret hret hr dL_law_372 h
      have h := o_neg c53 h
      by_cases c67 : ((xs x3.toNatClampNeg) &&& 63) = 5
      · have h := o_pos c67 h
        refine e_tabIn (v := 5) hg 373 dL_law_33 c67 (by decide) (by decide) rfl (by decide) ?_
        refine e_aload_n hg dL_law_373 rfl ?_
        refine e_aload_n hg dL_law_374 rfl ?_
        refine e_iload_n hg dL_law_375 rfl ?_
        refine e_iconst (v := 1) hg dL_law_376 (by decide) ?_
        refine e_iadd hg dL_law_377 ?_
        obtain ⟨hi68, h⟩ := o_gd h
        refine e_sld hg hx hi68 dL_law_378 ?_
        refine e_aload_n hg dL_law_379 rfl ?_
        refine e_iload_n hg dL_law_380 rfl ?_
        refine e_iconst (v := 2) hg dL_law_381 (by decide) ?_
        refine e_iadd hg dL_law_382 ?_
        obtain ⟨hi69, h⟩ := o_gd h
        refine e_sld hg hx hi69 dL_law_383 ?_
        obtain ⟨v70, M71, hc72, h⟩ := o_bd h
        refine l_callVI (rest := []) (v := v70) (M' := M71) (ci := 10) hg hcs mfX10_of mvX10_of (X10_of_ok (r := (v70, M71)) hc72) lk_568 dL_law_384 io_0 rfl rfl rfl (by omega) (Nat.le_of_ble_eq_true rfl) ?_
        refine e_aload_n hg dL_law_387 rfl ?_
        refine e_aload_n hg dL_law_388 rfl ?_
        refine e_iload_n hg dL_law_389 rfl ?_
        refine e_iconst (v := 1) hg dL_law_390 (by decide) ?_
        refine e_iadd hg dL_law_391 ?_
        obtain ⟨hi73, h⟩ := o_gd h
        refine e_sld hg hx hi73 dL_law_392 ?_
        refine e_aload_n hg dL_law_393 rfl ?_
        refine e_iload_n hg dL_law_394 rfl ?_
        refine e_iconst (v := 2) hg dL_law_395 (by decide) ?_
        refine e_iadd hg dL_law_396 ?_
        obtain ⟨hi74, h⟩ := o_gd h
        refine e_sld hg hx hi74 dL_law_397 ?_
        obtain ⟨v75, M76, hc77, h⟩ := o_bd h
        refine l_callVI (rest := [.int v70]) (v := v75) (M' := M76) (ci := 11) hg hcs mfX11_of mvX11_of (X11_of_ok (r := (v75, M76)) hc77) lk_1237 dL_law_398 io_82 rfl rfl rfl (by omega) (Nat.le_of_ble_eq_true rfl) ?_
        refine e_icmpeq hg 1348 dL_law_401 (by decide) (fun c78 => ?_) (fun c78 => ?_)
        · have h := o_pos c78 h
          exact L_law_b1348_ok hg hd107 hcs hx hret hr ih h
        · have h := o_neg c78 h
          refine e_iconst (v := 0) hg dL_law_404 (by decide) ?_
          exact l_ret hret hr dL_law_405 h
      have h := o_neg c67 h
      by_cases c79 : ((xs x3.toNatClampNeg) &&& 63) = 6
      · have h := o_pos c79 h
        refine e_tabIn (v := 6) hg 406 dL_law_33 c79 (by decide) (by decide) rfl (by decide) ?_
        refine e_aload_n hg dL_law_406 rfl ?_
        refine e_aload_n hg dL_law_407 rfl ?_
        refine e_iload_n hg dL_law_408 rfl ?_
        refine e_iconst (v := 1) hg dL_law_409 (by decide) ?_
        refine e_iadd hg dL_law_410 ?_
        obtain ⟨hi80, h⟩ := o_gd h
        refine e_sld hg hx hi80 dL_law_411 ?_
        obtain ⟨v81, M82, hc83, h⟩ := o_bd h
        refine l_callVI (rest := []) (v := v81) (M' := M82) (ci := 10) hg hcs mfX10_feed mvX10_feed (X10_feed_ok (r := (v81, M82)) hc83) lk_599 dL_law_412 io_0 rfl rfl rfl (by omega) (Nat.le_of_ble_eq_true rfl) ?_
        refine e_aload_n hg dL_law_415 rfl ?_
        refine e_aload_n hg dL_law_416 rfl ?_
        refine e_iload_n hg dL_law_417 rfl ?_
        refine e_iconst (v := 1) hg dL_law_418 (by decide) ?_
        refine e_iadd hg dL_law_419 ?_
        obtain ⟨hi84, h⟩ := o_gd h
        refine e_sld hg hx hi84 dL_law_420 ?_
        obtain ⟨v85, M86, hc87, h⟩ := o_bd h
        refine l_callVI (rest := [.int v81]) (v := v85) (M' := M86) (ci := 11) hg hcs mfX11_feed mvX11_feed (X11_feed_ok (r := (v85, M86)) hc87) lk_1299 dL_law_421 io_82 rfl rfl rfl (by omega) (Nat.le_of_ble_eq_true rfl) ?_
        refine e_icmpeq hg 1348 dL_law_424 (by decide) (fun c88 => ?_) (fun c88 => ?_)
        · have h := o_pos c88 h
          exact L_law_b1348_ok hg hd107 hcs hx hret hr ih h
        · have h := o_neg c88 h
          refine e_iconst (v := 0) hg dL_law_427 (by decide) ?_
          exact l_ret hret hr dL_law_428 h
      have h := o_neg c79 h
      by_cases c89 : ((xs x3.toNatClampNeg) &&& 63) = 7
      · have h := o_pos c89 h
        refine e_tabIn (v := 7) hg 429 dL_law_33 c89 (by decide) (by decide) rfl (by decide) ?_
        refine e_aload_n hg dL_law_429 rfl ?_
        obtain ⟨v90, M91, hc92, h⟩ := o_bd h
        refine l_callVI (rest := []) (v := v90) (M' := M91) (ci := 10) hg hcs mfX10_law mvX10_law (X10_law_ok (r := (v90, M91)) hc92) lk_607 dL_law_430 io_0 rfl rfl rfl (by omega) (Nat.le_of_ble_eq_true rfl) ?_
        refine e_aload_n hg dL_law_433 rfl ?_
        obtain ⟨v93, M94, hc95, h⟩ := o_bd h
        refine l_callVI (rest := [.int v90]) (v := v93) (M' := M94) (ci := 11) hg hcs mfX11_law mvX11_law (X11_law_ok (r := (v93, M94)) hc95) lk_1304 dL_law_434 io_82 rfl rfl rfl (by omega) (Nat.le_of_ble_eq_true rfl) ?_
        refine e_icmpeq hg 1348 dL_law_437 (by decide) (fun c96 => ?_) (fun c96 => ?_)
        · have h := o_pos c96 h
          exact L_law_b1348_ok hg hd107 hcs hx hret hr ih h
        · have h := o_neg c96 h
          refine e_iconst (v := 0) hg dL_law_440 (by decide) ?_
          exact l_ret hret hr dL_law_441 h
      have h := o_neg c89 h
      by_cases c97 : ((xs x3.toNatClampNeg) &&& 63) = 8
      · have h := o_pos c97 h
        refine e_tabIn (v := 8) hg 442 dL_law_33 c97 (by decide) (by decide) rfl (by decide) ?_
        refine e_aload_n hg dL_law_442 rfl ?_
        refine e_aload_n hg dL_law_443 rfl ?_
        refine e_iload_n hg dL_law_444 rfl ?_
        refine e_iconst (v := 1) hg dL_law_445 (by decide) ?_
        refine e_iadd hg dL_law_446 ?_
        obtain ⟨hi98, h⟩ := o_gd h
        refine e_sld hg hx hi98 dL_law_447 ?_
        obtain ⟨v99, M100, hc101, h⟩ := o_bd h
        refine l_callVI (rest := []) (v := v99) (M' := M100) (ci := 10) hg hcs mfX10_fix mvX10_fix (X10_fix_ok (r := (v99, M100)) hc101) lk_655 dL_law_448 io_0 rfl rfl rfl (by omega) (Nat.le_of_ble_eq_true rfl) ?_
        refine e_aload_n hg dL_law_451 rfl ?_
        refine e_aload_n hg dL_law_452 rfl ?_
        refine e_iload_n hg dL_law_453 rfl ?_
        refine e_iconst (v := 1) hg dL_law_454 (by decide) ?_
        refine e_iadd hg dL_law_455 ?_
        obtain ⟨hi102, h⟩ := o_gd h
        refine e_sld hg hx hi102 dL_law_456 ?_
        obtain ⟨v103, M104, hc105, h⟩ := o_bd h
        refine l_callVI (rest := [.int v99]) (v := v103) (M' := M104) (ci := 11) hg hcs mfX11_fix mvX11_fix (X11_fix_ok (r := (v103, M104)) hc105) lk_1379 dL_law_457 io_82 rfl rfl rfl (by omega) (Nat.le_of_ble_eq_true rfl) ?_
        refine e_icmpeq hg 1348 dL_law_460 (by decide) (fun c106 => ?_) (fun c106 => ?_)
        · have h := o_pos c106 h
          exact L_law_b1348_ok hg hd107 hcs hx hret hr ih h
        · have h := o_neg c106 h
          refine e_iconst (v := 0) hg dL_law_463 (by decide) ?_
          exact l_ret hret hr dL_law_464 h
      have h := o_neg c97 h
      by_cases c107 : ((xs x3.toNatClampNeg) &&& 63) = 9
      · have h := o_pos c107 h
        refine e_tabIn (v := 9) hg 465 dL_law_33 c107 (by decide) (by decide) rfl (by decide) ?_
        refine e_aload_n hg dL_law_465 rfl ?_
        refine e_aload_n hg dL_law_466 rfl ?_
        refine e_iload_n hg dL_law_467 rfl ?_
        refine e_iconst (v := 1) hg dL_law_468 (by decide) ?_
        refine e_iadd hg dL_law_469 ?_
        obtain ⟨hi108, h⟩ := o_gd h
        refine e_sld hg hx hi108 dL_law_470 ?_
        refine e_aload_n hg dL_law_471 rfl ?_
        refine e_iload_n hg dL_law_472 rfl ?_
        refine e_iconst (v := 2) hg dL_law_473 (by decide) ?_
        refine e_iadd hg dL_law_474 ?_
        obtain ⟨hi109, h⟩ := o_gd h
        refine e_sld hg hx hi109 dL_law_475 ?_
        obtain ⟨v110, M111, hc112, h⟩ := o_bd h
        refine l_callVI (rest := []) (v := v110) (M' := M111) (ci := 10) hg hcs mfX10_years mvX10_years (X10_years_ok (r := (v110, M111)) hc112) lk_669 dL_law_476 io_0 rfl rfl rfl (by omega) (Nat.le_of_ble_eq_true rfl) ?_
        refine e_aload_n hg dL_law_479 rfl ?_
        refine e_aload_n hg dL_law_480 rfl ?_
        refine e_iload_n hg dL_law_481 rfl ?_
        refine e_iconst (v := 1) hg dL_law_482 (by decide) ?_
        refine e_iadd hg dL_law_483 ?_
        obtain ⟨hi113, h⟩ := o_gd h
        refine e_sld hg hx hi113 dL_law_484 ?_
        refine e_aload_n hg dL_law_485 rfl ?_
        refine e_iload_n hg dL_law_486 rfl ?_
        refine e_iconst (v := 2) hg dL_law_487 (by decide) ?_
        refine e_iadd hg dL_law_488 ?_
        obtain ⟨hi114, h⟩ := o_gd h
        refine e_sld hg hx hi114 dL_law_489 ?_
        obtain ⟨v115, M116, hc117, h⟩ := o_bd h
        refine l_callVI (rest := [.int v110]) (v := v115) (M' := M116) (ci := 11) hg hcs mfX11_years mvX11_years (X11_years_ok (r := (v115, M116)) hc117) lk_1387 dL_law_490 io_82 rfl rfl rfl (by omega) (Nat.le_of_ble_eq_true rfl) ?_
        refine e_icmpeq hg 1348 dL_law_493 (by decide) (fun c118 => ?_) (fun c118 => ?_)
        · have h := o_pos c118 h
          exact L_law_b1348_ok hg hd107 hcs hx hret hr ih h
        · have h := o_neg c118 h
          refine e_iconst (v := 0) hg dL_law_496 (by decide) ?_
          exact l_ret hret hr dL_law_497 h
      have h := o_neg c107 h
      by_cases c119 : ((xs x3.toNatClampNeg) &&& 63) = 10
      · have h := o_pos c119 h
        refine e_tabIn (v := 10) hg 498 dL_law_33 c119 (by decide) (by decide) rfl (by decide) ?_
        refine e_aload_n hg dL_law_498 rfl ?_
        refine e_aload_n hg dL_law_499 rfl ?_
        refine e_iload_n hg dL_law_500 rfl ?_
        refine e_iconst (v := 1) hg dL_law_501 (by decide) ?_
        refine e_iadd hg dL_law_502 ?_
        obtain ⟨hi120, h⟩ := o_gd h
        refine e_sld hg hx hi120 dL_law_503 ?_
        obtain ⟨v121, M122, hc123, h⟩ := o_bd h
        refine l_callVI (rest := []) (v := v121) (M' := M122) (ci := 10) hg hcs mfX10_paid mvX10_paid (X10_paid_ok (r := (v121, M122)) hc123) lk_751 dL_law_504 io_0 rfl rfl rfl (by omega) (Nat.le_of_ble_eq_true rfl) ?_
        refine e_aload_n hg dL_law_507 rfl ?_
        refine e_aload_n hg dL_law_508 rfl ?_
        refine e_iload_n hg dL_law_509 rfl ?_
        refine e_iconst (v := 1) hg dL_law_510 (by decide) ?_
        refine e_iadd hg dL_law_511 ?_
        obtain ⟨hi124, h⟩ := o_gd h
        refine e_sld hg hx hi124 dL_law_512 ?_
        obtain ⟨v125, M126, hc127, h⟩ := o_bd h
        refine l_callVI (rest := [.int v121]) (v := v125) (M' := M126) (ci := 11) hg hcs mfX11_paid mvX11_paid (X11_paid_ok (r := (v125, M126)) hc127) lk_1413 dL_law_513 io_82 rfl rfl rfl (by omega) (Nat.le_of_ble_eq_true rfl) ?_
        refine e_icmpeq hg 1348 dL_law_516 (by decide) (fun c128 => ?_) (fun c128 => ?_)
        · have h := o_pos c128 h
          exact L_law_b1348_ok hg hd107 hcs hx hret hr ih h
        · have h := o_neg c128 h
          refine e_iconst (v := 0) hg dL_law_519 (by decide) ?_
          exact l_ret hret hr dL_law_520 h
      have h := o_neg c119 h
      by_cases c129 : ((xs x3.toNatClampNeg) &&& 63) = 11
      · have h := o_pos c129 h
        refine e_tabIn (v := 11) hg 521 dL_law_33 c129 (by decide) (by decide) rfl (by decide) ?_
        refine e_aload_n hg dL_law_521 rfl ?_
        refine e_aload_n hg dL_law_522 rfl ?_
        refine e_iload_n hg dL_law_523 rfl ?_
        refine e_iconst (v := 1) hg dL_law_524 (by decide) ?_
        refine e_iadd hg dL_law_525 ?_
        obtain ⟨hi130, h⟩ := o_gd h
        refine e_sld hg hx hi130 dL_law_526 ?_
        refine e_aload_n hg dL_law_527 rfl ?_
        refine e_iload_n hg dL_law_528 rfl ?_
        refine e_iconst (v := 2) hg dL_law_529 (by decide) ?_
        refine e_iadd hg dL_law_530 ?_
        obtain ⟨hi131, h⟩ := o_gd h
        refine e_sld hg hx hi131 dL_law_531 ?_
        obtain ⟨v132, M133, hc134, h⟩ := o_bd h
        refine l_callVI (rest := []) (v := v132) (M' := M133) (ci := 10) hg hcs mfX10_layer mvX10_layer (X10_layer_ok (r := (v132, M133)) hc134) lk_755 dL_law_532 io_0 rfl rfl rfl (by omega) (Nat.le_of_ble_eq_true rfl) ?_
        refine e_aload_n hg dL_law_535 rfl ?_
        refine e_aload_n hg dL_law_536 rfl ?_
        refine e_iload_n hg dL_law_537 rfl ?_
        refine e_iconst (v := 1) hg dL_law_538 (by decide) ?_
        refine e_iadd hg dL_law_539 ?_
        obtain ⟨hi135, h⟩ := o_gd h
        refine e_sld hg hx hi135 dL_law_540 ?_
        refine e_aload_n hg dL_law_541 rfl ?_
        refine e_iload_n hg dL_law_542 rfl ?_
        refine e_iconst (v := 2) hg dL_law_543 (by decide) ?_
        refine e_iadd hg dL_law_544 ?_
        obtain ⟨hi136, h⟩ := o_gd h
        refine e_sld hg hx hi136 dL_law_545 ?_
        obtain ⟨v137, M138, hc139, h⟩ := o_bd h
        refine l_callVI (rest := [.int v132]) (v := v137) (M' := M138) (ci := 11) hg hcs mfX11_layer mvX11_layer (X11_layer_ok (r := (v137, M138)) hc139) lk_1417 dL_law_546 io_82 rfl rfl rfl (by omega) (Nat.le_of_ble_eq_true rfl) ?_
        refine e_icmpeq hg 1348 dL_law_549 (by decide) (fun c140 => ?_) (fun c140 => ?_)
        · have h := o_pos c140 h
          exact L_law_b1348_ok hg hd107 hcs hx hret hr ih h
        · have h := o_neg c140 h
          refine e_iconst (v := 0) hg dL_law_552 (by decide) ?_
          exact l_ret hret hr dL_law_553 h
      have h := o_neg c129 h
      by_cases c141 : ((xs x3.toNatClampNeg) &&& 63) = 12
      · have h := o_pos c141 h
        refine e_tabIn (v := 12) hg 554 dL_law_33 c141 (by decide) (by decide) rfl (by decide) ?_
        refine e_aload_n hg dL_law_554 rfl ?_
        refine e_aload_n hg dL_law_555 rfl ?_
        refine e_iload_n hg dL_law_556 rfl ?_
        refine e_iconst (v := 1) hg dL_law_557 (by decide) ?_
        refine e_iadd hg dL_law_558 ?_
        obtain ⟨hi142, h⟩ := o_gd h
        refine e_sld hg hx hi142 dL_law_559 ?_
        refine e_aload_n hg dL_law_560 rfl ?_
        refine e_iload_n hg dL_law_561 rfl ?_
        refine e_iconst (v := 2) hg dL_law_562 (by decide) ?_
        refine e_iadd hg dL_law_563 ?_
        obtain ⟨hi143, h⟩ := o_gd h
        refine e_sld hg hx hi143 dL_law_564 ?_
        obtain ⟨v144, M145, hc146, h⟩ := o_bd h
        refine l_callVI (rest := []) (v := v144) (M' := M145) (ci := 10) hg hcs mfX10_told mvX10_told (X10_told_ok (r := (v144, M145)) hc146) lk_763 dL_law_565 io_0 rfl rfl rfl (by omega) (Nat.le_of_ble_eq_true rfl) ?_
        refine e_aload_n hg dL_law_568 rfl ?_
        refine e_aload_n hg dL_law_569 rfl ?_
        refine e_iload_n hg dL_law_570 rfl ?_
        refine e_iconst (v := 1) hg dL_law_571 (by decide) ?_
        refine e_iadd hg dL_law_572 ?_
        obtain ⟨hi147, h⟩ := o_gd h
        refine e_sld hg hx hi147 dL_law_573 ?_
        refine e_aload_n hg dL_law_574 rfl ?_
        refine e_iload_n hg dL_law_575 rfl ?_
        refine e_iconst (v := 2) hg dL_law_576 (by decide) ?_
        refine e_iadd hg dL_law_577 ?_
        obtain ⟨hi148, h⟩ := o_gd h
        refine e_sld hg hx hi148 dL_law_578 ?_
        obtain ⟨v149, M150, hc151, h⟩ := o_bd h
        refine l_callVI (rest := [.int v144]) (v := v149) (M' := M150) (ci := 11) hg hcs mfX11_told mvX11_told (X11_told_ok (r := (v149, M150)) hc151) lk_1421 dL_law_579 io_82 rfl rfl rfl (by omega) (Nat.le_of_ble_eq_true rfl) ?_
        refine e_icmpeq hg 1348 dL_law_582 (by decide) (fun c152 => ?_) (fun c152 => ?_)
        · have h := o_pos c152 h
          exact L_law_b1348_ok hg hd107 hcs hx hret hr ih h
        · have h := o_neg c152 h
          refine e_iconst (v := 0) hg dL_law_585 (by decide) ?_
          exact l_ret hret hr dL_law_586 h
      have h := o_neg c141 h
      by_cases c153 : ((xs x3.toNatClampNeg) &&& 63) = 13
      · have h := o_pos c153 h
        refine e_tabIn (v := 13) hg 587 dL_law_33 c153 (by decide) (by decide) rfl (by decide) ?_
        refine e_aload_n hg dL_law_587 rfl ?_
        refine e_aload_n hg dL_law_588 rfl ?_
        refine e_iload_n hg dL_law_589 rfl ?_
        refine e_iconst (v := 1) hg dL_law_590 (by decide) ?_
        refine e_iadd hg dL_law_591 ?_
        obtain ⟨hi154, h⟩ := o_gd h
        refine e_sld hg hx hi154 dL_law_592 ?_
        obtain ⟨v155, M156, hc157, h⟩ := o_bd h
        refine l_callVI (rest := []) (v := v155) (M' := M156) (ci := 10) hg hcs mfX10_over mvX10_over (X10_over_ok (r := (v155, M156)) hc157) lk_768 dL_law_593 io_0 rfl rfl rfl (by omega) (Nat.le_of_ble_eq_true rfl) ?_
        refine e_aload_n hg dL_law_596 rfl ?_
        refine e_aload_n hg dL_law_597 rfl ?_
        refine e_iload_n hg dL_law_598 rfl ?_
        refine e_iconst (v := 1) hg dL_law_599 (by decide) ?_
        refine e_iadd hg dL_law_600 ?_
        obtain ⟨hi158, h⟩ := o_gd h
        refine e_sld hg hx hi158 dL_law_601 ?_
        obtain ⟨v159, M160, hc161, h⟩ := o_bd h
        refine l_callVI (rest := [.int v155]) (v := v159) (M' := M160) (ci := 11) hg hcs mfX11_over mvX11_over (X11_over_ok (r := (v159, M160)) hc161) lk_1425 dL_law_602 io_82 rfl rfl rfl (by omega) (Nat.le_of_ble_eq_true rfl) ?_
        refine e_icmpeq hg 1348 dL_law_605 (by decide) (fun c162 => ?_) (fun c162 => ?_)
        · have h := o_pos c162 h
          exact L_law_b1348_ok hg hd107 hcs hx hret hr ih h
        · have h := o_neg c162 h
          refine e_iconst (v := 0) hg dL_law_608 (by decide) ?_
          exact l_ret hret hr dL_law_609 h
      have h := o_neg c153 h
      by_cases c163 : ((xs x3.toNatClampNeg) &&& 63) = 14
      · have h := o_pos c163 h
        refine e_tabIn (v := 14) hg 610 dL_law_33 c163 (by decide) (by decide) rfl (by decide) ?_
        refine e_aload_n hg dL_law_610 rfl ?_
        refine e_aload_n hg dL_law_611 rfl ?_
        refine e_iload_n hg dL_law_612 rfl ?_
        refine e_iconst (v := 1) hg dL_law_613 (by decide) ?_
        refine e_iadd hg dL_law_614 ?_
        obtain ⟨hi164, h⟩ := o_gd h
        refine e_sld hg hx hi164 dL_law_615 ?_
        refine e_aload_n hg dL_law_616 rfl ?_
        refine e_iload_n hg dL_law_617 rfl ?_
        refine e_iconst (v := 2) hg dL_law_618 (by decide) ?_
        refine e_iadd hg dL_law_619 ?_
        obtain ⟨hi165, h⟩ := o_gd h
        refine e_sld hg hx hi165 dL_law_620 ?_
        refine e_aload_n hg dL_law_621 rfl ?_
        refine e_iload_n hg dL_law_622 rfl ?_
        refine e_iconst (v := 3) hg dL_law_623 (by decide) ?_
        refine e_iadd hg dL_law_624 ?_
        obtain ⟨hi166, h⟩ := o_gd h
        refine e_sld hg hx hi166 dL_law_625 ?_
        obtain ⟨v167, M168, hc169, h⟩ := o_bd h
        refine l_callVJ (rest := []) (v := v167) (M' := M168) (ci := 10) hg hcs mfX10_worth mvX10_worth (X10_worth_ok (r := (v167, M168)) hc169) lk_777 dL_law_626 io_0 rfl rfl rfl (by omega) (Nat.le_of_ble_eq_true rfl) ?_
        refine e_aload_n hg dL_law_629 rfl ?_
        refine e_aload_n hg dL_law_630 rfl ?_
        refine e_iload_n hg dL_law_631 rfl ?_
        refine e_iconst (v := 1) hg dL_law_632 (by decide) ?_
        refine e_iadd hg dL_law_633 ?_
        obtain ⟨hi170, h⟩ := o_gd h
        refine e_sld hg hx hi170 dL_law_634 ?_
        refine e_aload_n hg dL_law_635 rfl ?_
        refine e_iload_n hg dL_law_636 rfl ?_
        refine e_iconst (v := 2) hg dL_law_637 (by decide) ?_
        refine e_iadd hg dL_law_638 ?_
        obtain ⟨hi171, h⟩ := o_gd h
        refine e_sld hg hx hi171 dL_law_639 ?_
        refine e_aload_n hg dL_law_640 rfl ?_
        refine e_iload_n hg dL_law_641 rfl ?_
        refine e_iconst (v := 3) hg dL_law_642 (by decide) ?_
        refine e_iadd hg dL_law_643 ?_
        obtain ⟨hi172, h⟩ := o_gd h
        refine e_sld hg hx hi172 dL_law_644 ?_
        obtain ⟨v173, M174, hc175, h⟩ := o_bd h
        refine l_callVJ (rest := [.long v167]) (v := v173) (M' := M174) (ci := 11) hg hcs mfX11_worth mvX11_worth (X11_worth_ok (r := (v173, M174)) hc175) lk_1308 dL_law_645 io_82 rfl rfl rfl (by omega) (Nat.le_of_ble_eq_true rfl) ?_
        refine e_lcmp hg dL_law_648 ?_
        refine e_ifeq hg 1348 dL_law_649 (by decide) (fun c176 => ?_) (fun c176 => ?_)
        · have h := o_pos c176 h
          exact L_law_b1348_ok hg hd107 hcs hx hret hr ih h
        · have h := o_neg c176 h
          refine e_iconst (v := 0) hg dL_law_652 (by decide) ?_
          exact l_ret hret hr dL_law_653 h
      have h := o_neg c163 h
      by_cases c177 : ((xs x3.toNatClampNeg) &&& 63) = 15
      · have h := o_pos c177 h
        refine e_tabIn (v := 15) hg 654 dL_law_33 c177 (by decide) (by decide) rfl (by decide) ?_
        refine e_aload_n hg dL_law_654 rfl ?_
        refine e_aload_n hg dL_law_655 rfl ?_
        refine e_iload_n hg dL_law_656 rfl ?_
        refine e_iconst (v := 1) hg dL_law_657 (by decide) ?_
        refine e_iadd hg dL_law_658 ?_
        obtain ⟨hi178, h⟩ := o_gd h
        refine e_sld hg hx hi178 dL_law_659 ?_
        refine e_aload_n hg dL_law_660 rfl ?_
        refine e_iload_n hg dL_law_661 rfl ?_
        refine e_iconst (v := 2) hg dL_law_662 (by decide) ?_
        refine e_iadd hg dL_law_663 ?_
        obtain ⟨hi179, h⟩ := o_gd h
        refine e_sld hg hx hi179 dL_law_664 ?_
        obtain ⟨v180, M181, hc182, h⟩ := o_bd h
        refine l_callVI (rest := []) (v := v180) (M' := M181) (ci := 10) hg hcs mfX10_now mvX10_now (X10_now_ok (r := (v180, M181)) hc182) lk_800 dL_law_665 io_0 rfl rfl rfl (by omega) (Nat.le_of_ble_eq_true rfl) ?_
        refine e_aload_n hg dL_law_668 rfl ?_
        refine e_aload_n hg dL_law_669 rfl ?_
        refine e_iload_n hg dL_law_670 rfl ?_
        refine e_iconst (v := 1) hg dL_law_671 (by decide) ?_
        refine e_iadd hg dL_law_672 ?_
        obtain ⟨hi183, h⟩ := o_gd h
        refine e_sld hg hx hi183 dL_law_673 ?_
        refine e_aload_n hg dL_law_674 rfl ?_
        refine e_iload_n hg dL_law_675 rfl ?_
        refine e_iconst (v := 2) hg dL_law_676 (by decide) ?_
        refine e_iadd hg dL_law_677 ?_
        obtain ⟨hi184, h⟩ := o_gd h
        refine e_sld hg hx hi184 dL_law_678 ?_
        obtain ⟨v185, M186, hc187, h⟩ := o_bd h
        refine l_callVI (rest := [.int v180]) (v := v185) (M' := M186) (ci := 11) hg hcs mfX11_now mvX11_now (X11_now_ok (r := (v185, M186)) hc187) lk_1355 dL_law_679 io_82 rfl rfl rfl (by omega) (Nat.le_of_ble_eq_true rfl) ?_
        refine e_icmpeq hg 1348 dL_law_682 (by decide) (fun c188 => ?_) (fun c188 => ?_)
        · have h := o_pos c188 h
          exact L_law_b1348_ok hg hd107 hcs hx hret hr ih h
        · have h := o_neg c188 h
          refine e_iconst (v := 0) hg dL_law_685 (by decide) ?_
          exact l_ret hret hr dL_law_686 h
      have h := o_neg c177 h
      by_cases c189 : ((xs x3.toNatClampNeg) &&& 63) = 16
      · have h := o_pos c189 h
        refine e_tabIn (v := 16) hg 687 dL_law_33 c189 (by decide) (by decide) rfl (by decide) ?_
        refine e_aload_n hg dL_law_687 rfl ?_
        refine e_aload_n hg dL_law_688 rfl ?_
        refine e_iload_n hg dL_law_689 rfl ?_
        refine e_iconst (v := 1) hg dL_law_690 (by decide) ?_
        refine e_iadd hg dL_law_691 ?_
        obtain ⟨hi190, h⟩ := o_gd h
        refine e_sld hg hx hi190 dL_law_692 ?_
        refine e_aload_n hg dL_law_693 rfl ?_
        refine e_iload_n hg dL_law_694 rfl ?_
        refine e_iconst (v := 2) hg dL_law_695 (by decide) ?_
        refine e_iadd hg dL_law_696 ?_
        obtain ⟨hi191, h⟩ := o_gd h
        refine e_sld hg hx hi191 dL_law_697 ?_
        refine e_aload_n hg dL_law_698 rfl ?_
        refine e_iload_n hg dL_law_699 rfl ?_
        refine e_iconst (v := 3) hg dL_law_700 (by decide) ?_
        refine e_iadd hg dL_law_701 ?_
        obtain ⟨hi192, h⟩ := o_gd h
        refine e_sld hg hx hi192 dL_law_702 ?_
        refine e_aload_n hg dL_law_703 rfl ?_
        refine e_iload_n hg dL_law_704 rfl ?_
        refine e_iconst (v := 4) hg dL_law_705 (by decide) ?_
        refine e_iadd hg dL_law_706 ?_
        obtain ⟨hi193, h⟩ := o_gd h
        refine e_sld hg hx hi193 dL_law_707 ?_
        obtain ⟨v194, M195, hc196, h⟩ := o_bd h
        refine l_callVJ (rest := []) (v := v194) (M' := M195) (ci := 10) hg hcs mfX10_smith mvX10_smith (X10_smith_ok (r := (v194, M195)) hc196) lk_809 dL_law_708 io_0 rfl rfl rfl (by omega) (Nat.le_of_ble_eq_true rfl) ?_
        refine e_aload_n hg dL_law_711 rfl ?_
        refine e_aload_n hg dL_law_712 rfl ?_
        refine e_iload_n hg dL_law_713 rfl ?_
        refine e_iconst (v := 1) hg dL_law_714 (by decide) ?_
        refine e_iadd hg dL_law_715 ?_
        obtain ⟨hi197, h⟩ := o_gd h
        refine e_sld hg hx hi197 dL_law_716 ?_
        refine e_aload_n hg dL_law_717 rfl ?_
        refine e_iload_n hg dL_law_718 rfl ?_
        refine e_iconst (v := 2) hg dL_law_719 (by decide) ?_
        refine e_iadd hg dL_law_720 ?_
        obtain ⟨hi198, h⟩ := o_gd h
        refine e_sld hg hx hi198 dL_law_721 ?_
        refine e_aload_n hg dL_law_722 rfl ?_
        refine e_iload_n hg dL_law_723 rfl ?_
        refine e_iconst (v := 3) hg dL_law_724 (by decide) ?_
        refine e_iadd hg dL_law_725 ?_
        obtain ⟨hi199, h⟩ := o_gd h
        refine e_sld hg hx hi199 dL_law_726 ?_
        refine e_aload_n hg dL_law_727 rfl ?_
        refine e_iload_n hg dL_law_728 rfl ?_
        refine e_iconst (v := 4) hg dL_law_729 (by decide) ?_
        refine e_iadd hg dL_law_730 ?_
        obtain ⟨hi200, h⟩ := o_gd h
        refine e_sld hg hx hi200 dL_law_731 ?_
        obtain ⟨v201, M202, hc203, h⟩ := o_bd h
        refine l_callVJ (rest := [.long v194]) (v := v201) (M' := M202) (ci := 11) hg hcs mfX11_smith mvX11_smith (X11_smith_ok (r := (v201, M202)) hc203) lk_1360 dL_law_732 io_82 rfl rfl rfl (by omega) (Nat.le_of_ble_eq_true rfl) ?_
        refine e_lcmp hg dL_law_735 ?_
        refine e_ifeq hg 1348 dL_law_736 (by decide) (fun c204 => ?_) (fun c204 => ?_)
        · have h := o_pos c204 h
          exact L_law_b1348_ok hg hd107 hcs hx hret hr ih h
        · have h := o_neg c204 h
          refine e_iconst (v := 0) hg dL_law_739 (by decide) ?_
          exact l_ret hret hr dL_law_740 h
      have h := o_neg c189 h
      by_cases c205 : ((xs x3.toNatClampNeg) &&& 63) = 17
      · have h := o_pos c205 h
        refine e_tabIn (v := 17) hg 741 dL_law_33 c205 (by decide) (by decide) rfl (by decide) ?_
        refine e_aload_n hg dL_law_741 rfl ?_
        refine e_aload_n hg dL_law_742 rfl ?_
        refine e_iload_n hg dL_law_743 rfl ?_
        refine e_iconst (v := 1) hg dL_law_744 (by decide) ?_
        refine e_iadd hg dL_law_745 ?_
        obtain ⟨hi206, h⟩ := o_gd h
        refine e_sld hg hx hi206 dL_law_746 ?_
        refine e_aload_n hg dL_law_747 rfl ?_
        refine e_iload_n hg dL_law_748 rfl ?_
        refine e_iconst (v := 2) hg dL_law_749 (by decide) ?_
        refine e_iadd hg dL_law_750 ?_
        obtain ⟨hi207, h⟩ := o_gd h
        refine e_sld hg hx hi207 dL_law_751 ?_
        refine e_aload_n hg dL_law_752 rfl ?_
        refine e_iload_n hg dL_law_753 rfl ?_
        refine e_iconst (v := 3) hg dL_law_754 (by decide) ?_
        refine e_iadd hg dL_law_755 ?_
        obtain ⟨hi208, h⟩ := o_gd h
        refine e_sld hg hx hi208 dL_law_756 ?_
        obtain ⟨v209, M210, hc211, h⟩ := o_bd h
        refine l_callVJ (rest := []) (v := v209) (M' := M210) (ci := 10) hg hcs mfX10_gift mvX10_gift (X10_gift_ok (r := (v209, M210)) hc211) lk_822 dL_law_757 io_0 rfl rfl rfl (by omega) (Nat.le_of_ble_eq_true rfl) ?_
        refine e_aload_n hg dL_law_760 rfl ?_
        refine e_aload_n hg dL_law_761 rfl ?_
        refine e_iload_n hg dL_law_762 rfl ?_
        refine e_iconst (v := 1) hg dL_law_763 (by decide) ?_
        refine e_iadd hg dL_law_764 ?_
        obtain ⟨hi212, h⟩ := o_gd h
        refine e_sld hg hx hi212 dL_law_765 ?_
        refine e_aload_n hg dL_law_766 rfl ?_
        refine e_iload_n hg dL_law_767 rfl ?_
        refine e_iconst (v := 2) hg dL_law_768 (by decide) ?_
        refine e_iadd hg dL_law_769 ?_
        obtain ⟨hi213, h⟩ := o_gd h
        refine e_sld hg hx hi213 dL_law_770 ?_
        refine e_aload_n hg dL_law_771 rfl ?_
        refine e_iload_n hg dL_law_772 rfl ?_
        refine e_iconst (v := 3) hg dL_law_773 (by decide) ?_
        refine e_iadd hg dL_law_774 ?_
        obtain ⟨hi214, h⟩ := o_gd h
        refine e_sld hg hx hi214 dL_law_775 ?_
        obtain ⟨v215, M216, hc217, h⟩ := o_bd h
        refine l_callVJ (rest := [.long v209]) (v := v215) (M' := M216) (ci := 11) hg hcs mfX11_gift mvX11_gift (X11_gift_ok (r := (v215, M216)) hc217) lk_1371 dL_law_776 io_82 rfl rfl rfl (by omega) (Nat.le_of_ble_eq_true rfl) ?_
        refine e_lcmp hg dL_law_779 ?_
        refine e_ifeq hg 1348 dL_law_780 (by decide) (fun c218 => ?_) (fun c218 => ?_)
        · have h := o_pos c218 h
          exact L_law_b1348_ok hg hd107 hcs hx hret hr ih h
        · have h := o_neg c218 h
          refine e_iconst (v := 0) hg dL_law_783 (by decide) ?_
          exact l_ret hret hr dL_law_784 h
      have h := o_neg c205 h
      by_cases c219 : ((xs x3.toNatClampNeg) &&& 63) = 18
      · have h := o_pos c219 h
        refine e_tabIn (v := 18) hg 785 dL_law_33 c219 (by decide) (by decide) rfl (by decide) ?_
        refine e_aload_n hg dL_law_785 rfl ?_
        refine e_aload_n hg dL_law_786 rfl ?_
        refine e_iload_n hg dL_law_787 rfl ?_
        refine e_iconst (v := 1) hg dL_law_788 (by decide) ?_
        refine e_iadd hg dL_law_789 ?_
        obtain ⟨hi220, h⟩ := o_gd h
        refine e_sld hg hx hi220 dL_law_790 ?_
        refine e_aload_n hg dL_law_791 rfl ?_
        refine e_iload_n hg dL_law_792 rfl ?_
        refine e_iconst (v := 2) hg dL_law_793 (by decide) ?_
        refine e_iadd hg dL_law_794 ?_
        obtain ⟨hi221, h⟩ := o_gd h
        refine e_sld hg hx hi221 dL_law_795 ?_
        obtain ⟨v222, M223, hc224, h⟩ := o_bd h
        refine l_callVJ (rest := []) (v := v222) (M' := M223) (ci := 10) hg hcs mfX10_debts mvX10_debts (X10_debts_ok (r := (v222, M223)) hc224) lk_826 dL_law_796 io_0 rfl rfl rfl (by omega) (Nat.le_of_ble_eq_true rfl) ?_
        refine e_aload_n hg dL_law_799 rfl ?_
        refine e_aload_n hg dL_law_800 rfl ?_
        refine e_iload_n hg dL_law_801 rfl ?_
        refine e_iconst (v := 1) hg dL_law_802 (by decide) ?_
        refine e_iadd hg dL_law_803 ?_
        obtain ⟨hi225, h⟩ := o_gd h
        refine e_sld hg hx hi225 dL_law_804 ?_
        refine e_aload_n hg dL_law_805 rfl ?_
        refine e_iload_n hg dL_law_806 rfl ?_
        refine e_iconst (v := 2) hg dL_law_807 (by decide) ?_
        refine e_iadd hg dL_law_808 ?_
        obtain ⟨hi226, h⟩ := o_gd h
        refine e_sld hg hx hi226 dL_law_809 ?_
        obtain ⟨v227, M228, hc229, h⟩ := o_bd h
        refine l_callVJ (rest := [.long v222]) (v := v227) (M' := M228) (ci := 11) hg hcs mfX11_debts mvX11_debts (X11_debts_ok (r := (v227, M228)) hc229) lk_1375 dL_law_810 io_82 rfl rfl rfl (by omega) (Nat.le_of_ble_eq_true rfl) ?_
        refine e_lcmp hg dL_law_813 ?_
        refine e_ifeq hg 1348 dL_law_814 (by decide) (fun c230 => ?_) (fun c230 => ?_)
        · have h := o_pos c230 h
          exact L_law_b1348_ok hg hd107 hcs hx hret hr ih h
        · have h := o_neg c230 h
          refine e_iconst (v := 0) hg dL_law_817 (by decide) ?_
          exact l_ret hret hr dL_law_818 h
      have h := o_neg c219 h
      by_cases c231 : ((xs x3.toNatClampNeg) &&& 63) = 19
      · have h := o_pos c231 h
        refine e_tabIn (v := 19) hg 819 dL_law_33 c231 (by decide) (by decide) rfl (by decide) ?_
        refine e_aload_n hg dL_law_819 rfl ?_
        refine e_aload_n hg dL_law_820 rfl ?_
        refine e_iload_n hg dL_law_821 rfl ?_
        refine e_iconst (v := 1) hg dL_law_822 (by decide) ?_
        refine e_iadd hg dL_law_823 ?_
        obtain ⟨hi232, h⟩ := o_gd h
        refine e_sld hg hx hi232 dL_law_824 ?_
        refine e_aload_n hg dL_law_825 rfl ?_
        refine e_iload_n hg dL_law_826 rfl ?_
        refine e_iconst (v := 2) hg dL_law_827 (by decide) ?_
        refine e_iadd hg dL_law_828 ?_
        obtain ⟨hi233, h⟩ := o_gd h
        refine e_sld hg hx hi233 dL_law_829 ?_
        refine e_aload_n hg dL_law_830 rfl ?_
        refine e_iload_n hg dL_law_831 rfl ?_
        refine e_iconst (v := 3) hg dL_law_832 (by decide) ?_
        refine e_iadd hg dL_law_833 ?_
        obtain ⟨hi234, h⟩ := o_gd h
        refine e_sld hg hx hi234 dL_law_834 ?_
        obtain ⟨v235, M236, hc237, h⟩ := o_bd h
        refine l_callVI (rest := []) (v := v235) (M' := M236) (ci := 10) hg hcs mfX10_ruled mvX10_ruled (X10_ruled_ok (r := (v235, M236)) hc237) lk_830 dL_law_835 io_0 rfl rfl rfl (by omega) (Nat.le_of_ble_eq_true rfl) ?_
        refine e_aload_n hg dL_law_838 rfl ?_
        refine e_aload_n hg dL_law_839 rfl ?_
        refine e_iload_n hg dL_law_840 rfl ?_
        refine e_iconst (v := 1) hg dL_law_841 (by decide) ?_
        refine e_iadd hg dL_law_842 ?_
        obtain ⟨hi238, h⟩ := o_gd h
        refine e_sld hg hx hi238 dL_law_843 ?_
        refine e_aload_n hg dL_law_844 rfl ?_
        refine e_iload_n hg dL_law_845 rfl ?_
        refine e_iconst (v := 2) hg dL_law_846 (by decide) ?_
        refine e_iadd hg dL_law_847 ?_
        obtain ⟨hi239, h⟩ := o_gd h
        refine e_sld hg hx hi239 dL_law_848 ?_
        refine e_aload_n hg dL_law_849 rfl ?_
        refine e_iload_n hg dL_law_850 rfl ?_
        refine e_iconst (v := 3) hg dL_law_851 (by decide) ?_
        refine e_iadd hg dL_law_852 ?_
        obtain ⟨hi240, h⟩ := o_gd h
        refine e_sld hg hx hi240 dL_law_853 ?_
        obtain ⟨v241, M242, hc243, h⟩ := o_bd h
        refine l_callVI (rest := [.int v235]) (v := v241) (M' := M242) (ci := 11) hg hcs mfX11_ruled mvX11_ruled (X11_ruled_ok (r := (v241, M242)) hc243) lk_1429 dL_law_854 io_82 rfl rfl rfl (by omega) (Nat.le_of_ble_eq_true rfl) ?_
        refine e_icmpeq hg 1348 dL_law_857 (by decide) (fun c244 => ?_) (fun c244 => ?_)
        · have h := o_pos c244 h
          exact L_law_b1348_ok hg hd107 hcs hx hret hr ih h
        · have h := o_neg c244 h
          refine e_iconst (v := 0) hg dL_law_860 (by decide) ?_
          exact l_ret hret hr dL_law_861 h
      have h := o_neg c231 h
      by_cases c245 : ((xs x3.toNatClampNeg) &&& 63) = 20
      · have h := o_pos c245 h
        refine e_tabIn (v := 20) hg 862 dL_law_33 c245 (by decide) (by decide) rfl (by decide) ?_
        refine e_aload_n hg dL_law_862 rfl ?_
        refine e_aload_n hg dL_law_863 rfl ?_
        refine e_iload_n hg dL_law_864 rfl ?_
        refine e_iconst (v := 1) hg dL_law_865 (by decide) ?_
        refine e_iadd hg dL_law_866 ?_
        obtain ⟨hi246, h⟩ := o_gd h
        refine e_sld hg hx hi246 dL_law_867 ?_
        refine e_aload_n hg dL_law_868 rfl ?_
        refine e_iload_n hg dL_law_869 rfl ?_
        refine e_iconst (v := 2) hg dL_law_870 (by decide) ?_
        refine e_iadd hg dL_law_871 ?_
        obtain ⟨hi247, h⟩ := o_gd h
        refine e_sld hg hx hi247 dL_law_872 ?_
        refine e_aload_n hg dL_law_873 rfl ?_
        refine e_iload_n hg dL_law_874 rfl ?_
        refine e_iconst (v := 3) hg dL_law_875 (by decide) ?_
        refine e_iadd hg dL_law_876 ?_
        obtain ⟨hi248, h⟩ := o_gd h
        refine e_sld hg hx hi248 dL_law_877 ?_
        obtain ⟨v249, M250, hc251, h⟩ := o_bd h
        refine l_callVI (rest := []) (v := v249) (M' := M250) (ci := 10) hg hcs mfX10_ruined mvX10_ruined (X10_ruined_ok (r := (v249, M250)) hc251) lk_846 dL_law_878 io_0 rfl rfl rfl (by omega) (Nat.le_of_ble_eq_true rfl) ?_
        refine e_aload_n hg dL_law_881 rfl ?_
        refine e_aload_n hg dL_law_882 rfl ?_
        refine e_iload_n hg dL_law_883 rfl ?_
        refine e_iconst (v := 1) hg dL_law_884 (by decide) ?_
        refine e_iadd hg dL_law_885 ?_
        obtain ⟨hi252, h⟩ := o_gd h
        refine e_sld hg hx hi252 dL_law_886 ?_
        refine e_aload_n hg dL_law_887 rfl ?_
        refine e_iload_n hg dL_law_888 rfl ?_
        refine e_iconst (v := 2) hg dL_law_889 (by decide) ?_
        refine e_iadd hg dL_law_890 ?_
        obtain ⟨hi253, h⟩ := o_gd h
        refine e_sld hg hx hi253 dL_law_891 ?_
        refine e_aload_n hg dL_law_892 rfl ?_
        refine e_iload_n hg dL_law_893 rfl ?_
        refine e_iconst (v := 3) hg dL_law_894 (by decide) ?_
        refine e_iadd hg dL_law_895 ?_
        obtain ⟨hi254, h⟩ := o_gd h
        refine e_sld hg hx hi254 dL_law_896 ?_
        obtain ⟨v255, M256, hc257, h⟩ := o_bd h
        refine l_callVI (rest := [.int v249]) (v := v255) (M' := M256) (ci := 11) hg hcs mfX11_ruined mvX11_ruined (X11_ruined_ok (r := (v255, M256)) hc257) lk_1442 dL_law_897 io_82 rfl rfl rfl (by omega) (Nat.le_of_ble_eq_true rfl) ?_
        refine e_icmpeq hg 1348 dL_law_900 (by decide) (fun c258 => ?_) (fun c258 => ?_)
        · have h := o_pos c258 h
          exact L_law_b1348_ok hg hd107 hcs hx hret hr ih h
        · have h := o_neg c258 h
          refine e_iconst (v := 0) hg dL_law_903 (by decide) ?_
          exact l_ret hret hr dL_law_904 h
      have h := o_neg c245 h
      by_cases c259 : ((xs x3.toNatClampNeg) &&& 63) = 21
      · have h := o_pos c259 h
        refine e_tabIn (v := 21) hg 905 dL_law_33 c259 (by decide) (by decide) rfl (by decide) ?_
        refine e_aload_n hg dL_law_905 rfl ?_
        obtain ⟨v260, M261, hc262, h⟩ := o_bd h
        refine l_callVI (rest := []) (v := v260) (M' := M261) (ci := 10) hg hcs mfX10_image mvX10_image (X10_image_ok (r := (v260, M261)) hc262) lk_850 dL_law_906 io_0 rfl rfl rfl (by omega) (Nat.le_of_ble_eq_true rfl) ?_
        refine e_aload_n hg dL_law_909 rfl ?_
        obtain ⟨v263, M264, hc265, h⟩ := o_bd h
        refine l_callVI (rest := [.int v260]) (v := v263) (M' := M264) (ci := 11) hg hcs mfX11_image mvX11_image (X11_image_ok (r := (v263, M264)) hc265) lk_1451 dL_law_910 io_82 rfl rfl rfl (by omega) (Nat.le_of_ble_eq_true rfl) ?_
        refine e_icmpeq hg 1348 dL_law_913 (by decide) (fun c266 => ?_) (fun c266 => ?_)
        · have h := o_pos c266 h
          exact L_law_b1348_ok hg hd107 hcs hx hret hr ih h
        · have h := o_neg c266 h
          refine e_iconst (v := 0) hg dL_law_916 (by decide) ?_
          exact l_ret hret hr dL_law_917 h
      have h := o_neg c259 h
      by_cases c267 : ((xs x3.toNatClampNeg) &&& 63) = 22
      · have h := o_pos c267 h
        refine e_tabIn (v := 22) hg 918 dL_law_33 c267 (by decide) (by decide) rfl (by decide) ?_
        refine e_aload_n hg dL_law_918 rfl ?_
        obtain ⟨v268, M269, hc270, h⟩ := o_bd h
        refine l_callVI (rest := []) (v := v268) (M' := M269) (ci := 10) hg hcs mfX10_back mvX10_back (X10_back_ok (r := (v268, M269)) hc270) lk_854 dL_law_919 io_0 rfl rfl rfl (by omega) (Nat.le_of_ble_eq_true rfl) ?_
        refine e_aload_n hg dL_law_922 rfl ?_
        obtain ⟨v271, M272, hc273, h⟩ := o_bd h
        refine l_callVI (rest := [.int v268]) (v := v271) (M' := M272) (ci := 11) hg hcs mfX11_back mvX11_back (X11_back_ok (r := (v271, M272)) hc273) lk_1455 dL_law_923 io_82 rfl rfl rfl (by omega) (Nat.le_of_ble_eq_true rfl) ?_
        refine e_icmpeq hg 1348 dL_law_926 (by decide) (fun c274 => ?_) (fun c274 => ?_)
        · have h := o_pos c274 h
          exact L_law_b1348_ok hg hd107 hcs hx hret hr ih h
        · have h := o_neg c274 h
          refine e_iconst (v := 0) hg dL_law_929 (by decide) ?_
          exact l_ret hret hr dL_law_930 h
      have h := o_neg c267 h
      by_cases c275 : ((xs x3.toNatClampNeg) &&& 63) = 23
      · have h := o_pos c275 h
        refine e_tabIn (v := 23) hg 931 dL_law_33 c275 (by decide) (by decide) rfl (by decide) ?_
        refine e_aload_n hg dL_law_931 rfl ?_
        obtain ⟨v276, M277, hc278, h⟩ := o_bd h
        refine l_callVI (rest := []) (v := v276) (M' := M277) (ci := 10) hg hcs mfX10_undo mvX10_undo (X10_undo_ok (r := (v276, M277)) hc278) lk_858 dL_law_932 io_0 rfl rfl rfl (by omega) (Nat.le_of_ble_eq_true rfl) ?_
        refine e_aload_n hg dL_law_935 rfl ?_
        obtain ⟨v279, M280, hc281, h⟩ := o_bd h
        refine l_callVI (rest := [.int v276]) (v := v279) (M' := M280) (ci := 11) hg hcs mfX11_undo mvX11_undo (X11_undo_ok (r := (v279, M280)) hc281) lk_1177 dL_law_936 io_82 rfl rfl rfl (by omega) (Nat.le_of_ble_eq_true rfl) ?_
        refine e_icmpeq hg 1348 dL_law_939 (by decide) (fun c282 => ?_) (fun c282 => ?_)
        · have h := o_pos c282 h
          exact L_law_b1348_ok hg hd107 hcs hx hret hr ih h
        · have h := o_neg c282 h
          refine e_iconst (v := 0) hg dL_law_942 (by decide) ?_
          exact l_ret hret hr dL_law_943 h
      have h := o_neg c275 h
      by_cases c283 : ((xs x3.toNatClampNeg) &&& 63) = 24
      · have h := o_pos c283 h
        refine e_tabIn (v := 24) hg 944 dL_law_33 c283 (by decide) (by decide) rfl (by decide) ?_
        refine e_aload_n hg dL_law_944 rfl ?_
        obtain ⟨v284, M285, hc286, h⟩ := o_bd h
        refine l_callVI (rest := []) (v := v284) (M' := M285) (ci := 10) hg hcs mfX10_redo mvX10_redo (X10_redo_ok (r := (v284, M285)) hc286) lk_867 dL_law_945 io_0 rfl rfl rfl (by omega) (Nat.le_of_ble_eq_true rfl) ?_
        refine e_aload_n hg dL_law_948 rfl ?_
        obtain ⟨v287, M288, hc289, h⟩ := o_bd h
        refine l_callVI (rest := [.int v284]) (v := v287) (M' := M288) (ci := 11) hg hcs mfX11_redo mvX11_redo (X11_redo_ok (r := (v287, M288)) hc289) lk_1181 dL_law_949 io_82 rfl rfl rfl (by omega) (Nat.le_of_ble_eq_true rfl) ?_
        refine e_icmpeq hg 1348 dL_law_952 (by decide) (fun c290 => ?_) (fun c290 => ?_)
        · have h := o_pos c290 h
          exact L_law_b1348_ok hg hd107 hcs hx hret hr ih h
        · have h := o_neg c290 h
          refine e_iconst (v := 0) hg dL_law_955 (by decide) ?_
          exact l_ret hret hr dL_law_956 h
      have h := o_neg c283 h
      by_cases c291 : ((xs x3.toNatClampNeg) &&& 63) = 25
      · have h := o_pos c291 h
        refine e_tabIn (v := 25) hg 957 dL_law_33 c291 (by decide) (by decide) rfl (by decide) ?_
        refine e_aload_n hg dL_law_957 rfl ?_
        refine e_aload_n hg dL_law_958 rfl ?_
        refine e_iload_n hg dL_law_959 rfl ?_
        refine e_iconst (v := 1) hg dL_law_960 (by decide) ?_
        refine e_iadd hg dL_law_961 ?_
        obtain ⟨hi292, h⟩ := o_gd h
        refine e_sld hg hx hi292 dL_law_962 ?_
        obtain ⟨v293, M294, hc295, h⟩ := o_bd h
        refine l_callVI (rest := []) (v := v293) (M' := M294) (ci := 10) hg hcs mfX10_body mvX10_body (X10_body_ok (r := (v293, M294)) hc295) lk_880 dL_law_963 io_0 rfl rfl rfl (by omega) (Nat.le_of_ble_eq_true rfl) ?_
        refine e_aload_n hg dL_law_966 rfl ?_
        refine e_aload_n hg dL_law_967 rfl ?_
        refine e_iload_n hg dL_law_968 rfl ?_
        refine e_iconst (v := 1) hg dL_law_969 (by decide) ?_
        refine e_iadd hg dL_law_970 ?_
        obtain ⟨hi296, h⟩ := o_gd h
        refine e_sld hg hx hi296 dL_law_971 ?_
        obtain ⟨v297, M298, hc299, h⟩ := o_bd h
        refine l_callVI (rest := [.int v293]) (v := v297) (M' := M298) (ci := 11) hg hcs mfX11_body mvX11_body (X11_body_ok (r := (v297, M298)) hc299) lk_1459 dL_law_972 io_82 rfl rfl rfl (by omega) (Nat.le_of_ble_eq_true rfl) ?_
        refine e_icmpeq hg 1348 dL_law_975 (by decide) (fun c300 => ?_) (fun c300 => ?_)
        · have h := o_pos c300 h
          exact L_law_b1348_ok hg hd107 hcs hx hret hr ih h
        · have h := o_neg c300 h
          refine e_iconst (v := 0) hg dL_law_978 (by decide) ?_
          exact l_ret hret hr dL_law_979 h
      have h := o_neg c291 h
      by_cases c301 : ((xs x3.toNatClampNeg) &&& 63) = 26
      · have h := o_pos c301 h
        refine e_tabIn (v := 26) hg 980 dL_law_33 c301 (by decide) (by decide) rfl (by decide) ?_
        refine e_aload_n hg dL_law_980 rfl ?_
        refine e_aload_n hg dL_law_981 rfl ?_
        refine e_iload_n hg dL_law_982 rfl ?_
        refine e_iconst (v := 1) hg dL_law_983 (by decide) ?_
        refine e_iadd hg dL_law_984 ?_
        obtain ⟨hi302, h⟩ := o_gd h
        refine e_sld hg hx hi302 dL_law_985 ?_
        refine e_aload_n hg dL_law_986 rfl ?_
        refine e_iload_n hg dL_law_987 rfl ?_
        refine e_iconst (v := 2) hg dL_law_988 (by decide) ?_
        refine e_iadd hg dL_law_989 ?_
        obtain ⟨hi303, h⟩ := o_gd h
        refine e_sld hg hx hi303 dL_law_990 ?_
        refine e_aload_n hg dL_law_991 rfl ?_
        refine e_iload_n hg dL_law_992 rfl ?_
        refine e_iconst (v := 3) hg dL_law_993 (by decide) ?_
        refine e_iadd hg dL_law_994 ?_
        obtain ⟨hi304, h⟩ := o_gd h
        refine e_sld hg hx hi304 dL_law_995 ?_
        obtain ⟨v305, M306, hc307, h⟩ := o_bd h
        refine l_callVI (rest := []) (v := v305) (M' := M306) (ci := 10) hg hcs mfX10_act mvX10_act (X10_act_ok (r := (v305, M306)) hc307) lk_888 dL_law_996 io_0 rfl rfl rfl (by omega) (Nat.le_of_ble_eq_true rfl) ?_
        refine e_aload_n hg dL_law_999 rfl ?_
        refine e_aload_n hg dL_law_1000 rfl ?_
        refine e_iload_n hg dL_law_1001 rfl ?_
        refine e_iconst (v := 1) hg dL_law_1002 (by decide) ?_
        refine e_iadd hg dL_law_1003 ?_
        obtain ⟨hi308, h⟩ := o_gd h
        refine e_sld hg hx hi308 dL_law_1004 ?_
        refine e_aload_n hg dL_law_1005 rfl ?_
        refine e_iload_n hg dL_law_1006 rfl ?_
        refine e_iconst (v := 2) hg dL_law_1007 (by decide) ?_
        refine e_iadd hg dL_law_1008 ?_
        obtain ⟨hi309, h⟩ := o_gd h
        refine e_sld hg hx hi309 dL_law_1009 ?_
        refine e_aload_n hg dL_law_1010 rfl ?_
        refine e_iload_n hg dL_law_1011 rfl ?_
        refine e_iconst (v := 3) hg dL_law_1012 (by decide) ?_
        refine e_iadd hg dL_law_1013 ?_
        obtain ⟨hi310, h⟩ := o_gd h
        refine e_sld hg hx hi310 dL_law_1014 ?_
        obtain ⟨v311, M312, hc313, h⟩ := o_bd h
        refine l_callVI (rest := [.int v305]) (v := v311) (M' := M312) (ci := 11) hg hcs mfX11_act mvX11_act (X11_act_ok (r := (v311, M312)) hc313) lk_1464 dL_law_1015 io_82 rfl rfl rfl (by omega) (Nat.le_of_ble_eq_true rfl) ?_
        refine e_icmpeq hg 1348 dL_law_1018 (by decide) (fun c314 => ?_) (fun c314 => ?_)
        · have h := o_pos c314 h
          exact L_law_b1348_ok hg hd107 hcs hx hret hr ih h
        · have h := o_neg c314 h
          refine e_iconst (v := 0) hg dL_law_1021 (by decide) ?_
          exact l_ret hret hr dL_law_1022 h
      have h := o_neg c301 h
      by_cases c315 : ((xs x3.toNatClampNeg) &&& 63) = 27
      · have h := o_pos c315 h
        refine e_tabIn (v := 27) hg 1023 dL_law_33 c315 (by decide) (by decide) rfl (by decide) ?_
        refine e_aload_n hg dL_law_1023 rfl ?_
        refine e_aload_n hg dL_law_1024 rfl ?_
        refine e_iload_n hg dL_law_1025 rfl ?_
        refine e_iconst (v := 1) hg dL_law_1026 (by decide) ?_
        refine e_iadd hg dL_law_1027 ?_
        obtain ⟨hi316, h⟩ := o_gd h
        refine e_sld hg hx hi316 dL_law_1028 ?_
        obtain ⟨v317, M318, hc319, h⟩ := o_bd h
        refine l_callVI (rest := []) (v := v317) (M' := M318) (ci := 10) hg hcs mfX10_trace mvX10_trace (X10_trace_ok (r := (v317, M318)) hc319) lk_908 dL_law_1029 io_0 rfl rfl rfl (by omega) (Nat.le_of_ble_eq_true rfl) ?_
        refine e_aload_n hg dL_law_1032 rfl ?_
        refine e_aload_n hg dL_law_1033 rfl ?_
        refine e_iload_n hg dL_law_1034 rfl ?_
        refine e_iconst (v := 1) hg dL_law_1035 (by decide) ?_
        refine e_iadd hg dL_law_1036 ?_
        obtain ⟨hi320, h⟩ := o_gd h
        refine e_sld hg hx hi320 dL_law_1037 ?_
        obtain ⟨v321, M322, hc323, h⟩ := o_bd h
        refine l_callVI (rest := [.int v317]) (v := v321) (M' := M322) (ci := 11) hg hcs mfX11_trace mvX11_trace (X11_trace_ok (r := (v321, M322)) hc323) lk_1492 dL_law_1038 io_82 rfl rfl rfl (by omega) (Nat.le_of_ble_eq_true rfl) ?_
        refine e_icmpeq hg 1348 dL_law_1041 (by decide) (fun c324 => ?_) (fun c324 => ?_)
        · have h := o_pos c324 h
          exact L_law_b1348_ok hg hd107 hcs hx hret hr ih h
        · have h := o_neg c324 h
          refine e_iconst (v := 0) hg dL_law_1044 (by decide) ?_
          exact l_ret hret hr dL_law_1045 h
      have h := o_neg c315 h
      by_cases c325 : ((xs x3.toNatClampNeg) &&& 63) = 28
      · have h := o_pos c325 h
        refine e_tabIn (v := 28) hg 1046 dL_law_33 c325 (by decide) (by decide) rfl (by decide) ?_
        refine e_aload_n hg dL_law_1046 rfl ?_
        refine e_aload_n hg dL_law_1047 rfl ?_
        refine e_iload_n hg dL_law_1048 rfl ?_
        refine e_iconst (v := 1) hg dL_law_1049 (by decide) ?_
        refine e_iadd hg dL_law_1050 ?_
        obtain ⟨hi326, h⟩ := o_gd h
        refine e_sld hg hx hi326 dL_law_1051 ?_
        refine e_aload_n hg dL_law_1052 rfl ?_
        refine e_iload_n hg dL_law_1053 rfl ?_
        refine e_iconst (v := 2) hg dL_law_1054 (by decide) ?_
        refine e_iadd hg dL_law_1055 ?_
        obtain ⟨hi327, h⟩ := o_gd h
        refine e_sld hg hx hi327 dL_law_1056 ?_
        obtain ⟨v328, M329, hc330, h⟩ := o_bd h
        refine l_callVI (rest := []) (v := v328) (M' := M329) (ci := 10) hg hcs mfX10_keep mvX10_keep (X10_keep_ok (r := (v328, M329)) hc330) lk_917 dL_law_1057 io_0 rfl rfl rfl (by omega) (Nat.le_of_ble_eq_true rfl) ?_
        refine e_aload_n hg dL_law_1060 rfl ?_
        refine e_aload_n hg dL_law_1061 rfl ?_
        refine e_iload_n hg dL_law_1062 rfl ?_
        refine e_iconst (v := 1) hg dL_law_1063 (by decide) ?_
        refine e_iadd hg dL_law_1064 ?_
        obtain ⟨hi331, h⟩ := o_gd h
        refine e_sld hg hx hi331 dL_law_1065 ?_
        refine e_aload_n hg dL_law_1066 rfl ?_
        refine e_iload_n hg dL_law_1067 rfl ?_
        refine e_iconst (v := 2) hg dL_law_1068 (by decide) ?_
        refine e_iadd hg dL_law_1069 ?_
        obtain ⟨hi332, h⟩ := o_gd h
        refine e_sld hg hx hi332 dL_law_1070 ?_
        obtain ⟨v333, M334, hc335, h⟩ := o_bd h
        refine l_callVI (rest := [.int v328]) (v := v333) (M' := M334) (ci := 11) hg hcs mfX11_keep mvX11_keep (X11_keep_ok (r := (v333, M334)) hc335) lk_1496 dL_law_1071 io_82 rfl rfl rfl (by omega) (Nat.le_of_ble_eq_true rfl) ?_
        refine e_icmpeq hg 1348 dL_law_1074 (by decide) (fun c336 => ?_) (fun c336 => ?_)
        · have h := o_pos c336 h
          exact L_law_b1348_ok hg hd107 hcs hx hret hr ih h
        · have h := o_neg c336 h
          refine e_iconst (v := 0) hg dL_law_1077 (by decide) ?_
          exact l_ret hret hr dL_law_1078 h
      have h := o_neg c325 h
      by_cases c337 : ((xs x3.toNatClampNeg) &&& 63) = 29
      · have h := o_pos c337 h
        refine e_tabIn (v := 29) hg 1079 dL_law_33 c337 (by decide) (by decide) rfl (by decide) ?_
        refine e_aload_n hg dL_law_1079 rfl ?_
        refine e_aload_n hg dL_law_1080 rfl ?_
        refine e_iload_n hg dL_law_1081 rfl ?_
        refine e_iconst (v := 1) hg dL_law_1082 (by decide) ?_
        refine e_iadd hg dL_law_1083 ?_
        obtain ⟨hi338, h⟩ := o_gd h
        refine e_sld hg hx hi338 dL_law_1084 ?_
        refine e_aload_n hg dL_law_1085 rfl ?_
        refine e_iload_n hg dL_law_1086 rfl ?_
        refine e_iconst (v := 2) hg dL_law_1087 (by decide) ?_
        refine e_iadd hg dL_law_1088 ?_
        obtain ⟨hi339, h⟩ := o_gd h
        refine e_sld hg hx hi339 dL_law_1089 ?_
        refine e_aload_n hg dL_law_1090 rfl ?_
        refine e_iload_n hg dL_law_1091 rfl ?_
        refine e_iconst (v := 3) hg dL_law_1092 (by decide) ?_
        refine e_iadd hg dL_law_1093 ?_
        obtain ⟨hi340, h⟩ := o_gd h
        refine e_sld hg hx hi340 dL_law_1094 ?_
        obtain ⟨v341, M342, hc343, h⟩ := o_bd h
        refine l_callVI (rest := []) (v := v341) (M' := M342) (ci := 10) hg hcs mfX10_row mvX10_row (X10_row_ok (r := (v341, M342)) hc343) lk_929 dL_law_1095 io_0 rfl rfl rfl (by omega) (Nat.le_of_ble_eq_true rfl) ?_
        refine e_aload_n hg dL_law_1098 rfl ?_
        refine e_aload_n hg dL_law_1099 rfl ?_
        refine e_iload_n hg dL_law_1100 rfl ?_
        refine e_iconst (v := 1) hg dL_law_1101 (by decide) ?_
        refine e_iadd hg dL_law_1102 ?_
        obtain ⟨hi344, h⟩ := o_gd h
        refine e_sld hg hx hi344 dL_law_1103 ?_
        refine e_aload_n hg dL_law_1104 rfl ?_
        refine e_iload_n hg dL_law_1105 rfl ?_
        refine e_iconst (v := 2) hg dL_law_1106 (by decide) ?_
        refine e_iadd hg dL_law_1107 ?_
        obtain ⟨hi345, h⟩ := o_gd h
        refine e_sld hg hx hi345 dL_law_1108 ?_
        refine e_aload_n hg dL_law_1109 rfl ?_
        refine e_iload_n hg dL_law_1110 rfl ?_
        refine e_iconst (v := 3) hg dL_law_1111 (by decide) ?_
        refine e_iadd hg dL_law_1112 ?_
        obtain ⟨hi346, h⟩ := o_gd h
        refine e_sld hg hx hi346 dL_law_1113 ?_
        obtain ⟨v347, M348, hc349, h⟩ := o_bd h
        refine l_callVI (rest := [.int v341]) (v := v347) (M' := M348) (ci := 11) hg hcs mfX11_row mvX11_row (X11_row_ok (r := (v347, M348)) hc349) lk_1500 dL_law_1114 io_82 rfl rfl rfl (by omega) (Nat.le_of_ble_eq_true rfl) ?_
        refine e_icmpeq hg 1348 dL_law_1117 (by decide) (fun c350 => ?_) (fun c350 => ?_)
        · have h := o_pos c350 h
          exact L_law_b1348_ok hg hd107 hcs hx hret hr ih h
        · have h := o_neg c350 h
          refine e_iconst (v := 0) hg dL_law_1120 (by decide) ?_
          exact l_ret hret hr dL_law_1121 h
      have h := o_neg c337 h
      by_cases c351 : ((xs x3.toNatClampNeg) &&& 63) = 30
      · have h := o_pos c351 h
        refine e_tabIn (v := 30) hg 1122 dL_law_33 c351 (by decide) (by decide) rfl (by decide) ?_
        refine e_aload_n hg dL_law_1122 rfl ?_
        refine e_aload_n hg dL_law_1123 rfl ?_
        refine e_iload_n hg dL_law_1124 rfl ?_
        refine e_iconst (v := 1) hg dL_law_1125 (by decide) ?_
        refine e_iadd hg dL_law_1126 ?_
        obtain ⟨hi352, h⟩ := o_gd h
        refine e_sld hg hx hi352 dL_law_1127 ?_
        refine e_aload_n hg dL_law_1128 rfl ?_
        refine e_iload_n hg dL_law_1129 rfl ?_
        refine e_iconst (v := 2) hg dL_law_1130 (by decide) ?_
        refine e_iadd hg dL_law_1131 ?_
        obtain ⟨hi353, h⟩ := o_gd h
        refine e_sld hg hx hi353 dL_law_1132 ?_
        refine e_aload_n hg dL_law_1133 rfl ?_
        refine e_iload_n hg dL_law_1134 rfl ?_
        refine e_iconst (v := 3) hg dL_law_1135 (by decide) ?_
        refine e_iadd hg dL_law_1136 ?_
        obtain ⟨hi354, h⟩ := o_gd h
        refine e_sld hg hx hi354 dL_law_1137 ?_
        refine e_i2l hg dL_law_1138 ?_
        refine e_bipush (v := 32) hg dL_law_1139 (by decide) ?_
        refine e_lshl hg dL_law_1141 ?_
        refine e_aload_n hg dL_law_1142 rfl ?_
        refine e_iload_n hg dL_law_1143 rfl ?_
        refine e_iconst (v := 4) hg dL_law_1144 (by decide) ?_
        refine e_iadd hg dL_law_1145 ?_
        obtain ⟨hi355, h⟩ := o_gd h
        refine e_sld hg hx hi355 dL_law_1146 ?_
        refine e_i2l hg dL_law_1147 ?_
        refine e_ldc2 hg dL_law_1148 lk_1538 ?_
        refine e_land hg dL_law_1151 ?_
        refine e_lor hg dL_law_1152 ?_
        obtain ⟨v356, M357, hc358, h⟩ := o_bd h
        refine l_callVI (rest := []) (v := v356) (M' := M357) (ci := 10) hg hcs mfX10_put mvX10_put (X10_put_ok (r := (v356, M357)) hc358) lk_938 dL_law_1153 io_0 rfl rfl rfl (by omega) (Nat.le_of_ble_eq_true rfl) ?_
        refine e_aload_n hg dL_law_1156 rfl ?_
        refine e_aload_n hg dL_law_1157 rfl ?_
        refine e_iload_n hg dL_law_1158 rfl ?_
        refine e_iconst (v := 1) hg dL_law_1159 (by decide) ?_
        refine e_iadd hg dL_law_1160 ?_
        obtain ⟨hi359, h⟩ := o_gd h
        refine e_sld hg hx hi359 dL_law_1161 ?_
        refine e_aload_n hg dL_law_1162 rfl ?_
        refine e_iload_n hg dL_law_1163 rfl ?_
        refine e_iconst (v := 2) hg dL_law_1164 (by decide) ?_
        refine e_iadd hg dL_law_1165 ?_
        obtain ⟨hi360, h⟩ := o_gd h
        refine e_sld hg hx hi360 dL_law_1166 ?_
        refine e_aload_n hg dL_law_1167 rfl ?_
        refine e_iload_n hg dL_law_1168 rfl ?_
        refine e_iconst (v := 3) hg dL_law_1169 (by decide) ?_
        refine e_iadd hg dL_law_1170 ?_
        obtain ⟨hi361, h⟩ := o_gd h
        refine e_sld hg hx hi361 dL_law_1171 ?_
        refine e_i2l hg dL_law_1172 ?_
        refine e_bipush (v := 32) hg dL_law_1173 (by decide) ?_
        refine e_lshl hg dL_law_1175 ?_
        refine e_aload_n hg dL_law_1176 rfl ?_
        refine e_iload_n hg dL_law_1177 rfl ?_
        refine e_iconst (v := 4) hg dL_law_1178 (by decide) ?_
        refine e_iadd hg dL_law_1179 ?_
        obtain ⟨hi362, h⟩ := o_gd h
        refine e_sld hg hx hi362 dL_law_1180 ?_
        refine e_i2l hg dL_law_1181 ?_
        refine e_ldc2 hg dL_law_1182 lk_1538 ?_
        refine e_land hg dL_law_1185 ?_
        refine e_lor hg dL_law_1186 ?_
        obtain ⟨v363, M364, hc365, h⟩ := o_bd h
        refine l_callVI (rest := [.int v356]) (v := v363) (M' := M364) (ci := 11) hg hcs mfX11_put mvX11_put (X11_put_ok (r := (v363, M364)) hc365) lk_1504 dL_law_1187 io_82 rfl rfl rfl (by omega) (Nat.le_of_ble_eq_true rfl) ?_
        refine e_icmpeq hg 1348 dL_law_1190 (by decide) (fun c366 => ?_) (fun c366 => ?_)
        · have h := o_pos c366 h
          exact L_law_b1348_ok hg hd107 hcs hx hret hr ih h
        · have h := o_neg c366 h
          refine e_iconst (v := 0) hg dL_law_1193 (by decide) ?_
          exact l_ret hret hr dL_law_1194 h
      have h := o_neg c351 h
      by_cases c367 : ((xs x3.toNatClampNeg) &&& 63) = 31
      · have h := o_pos c367 h
        refine e_tabIn (v := 31) hg 1195 dL_law_33 c367 (by decide) (by decide) rfl (by decide) ?_
        refine e_aload_n hg dL_law_1195 rfl ?_
        refine e_aload_n hg dL_law_1196 rfl ?_
        refine e_iload_n hg dL_law_1197 rfl ?_
        refine e_iconst (v := 1) hg dL_law_1198 (by decide) ?_
        refine e_iadd hg dL_law_1199 ?_
        obtain ⟨hi368, h⟩ := o_gd h
        refine e_sld hg hx hi368 dL_law_1200 ?_
        refine e_aload_n hg dL_law_1201 rfl ?_
        refine e_iload_n hg dL_law_1202 rfl ?_
        refine e_iconst (v := 2) hg dL_law_1203 (by decide) ?_
        refine e_iadd hg dL_law_1204 ?_
        obtain ⟨hi369, h⟩ := o_gd h
        refine e_sld hg hx hi369 dL_law_1205 ?_
        obtain ⟨v370, M371, hc372, h⟩ := o_bd h
        refine l_callVJ (rest := []) (v := v370) (M' := M371) (ci := 10) hg hcs mfX10_element mvX10_element (X10_element_ok (r := (v370, M371)) hc372) lk_950 dL_law_1206 io_0 rfl rfl rfl (by omega) (Nat.le_of_ble_eq_true rfl) ?_
        refine e_aload_n hg dL_law_1209 rfl ?_
        refine e_aload_n hg dL_law_1210 rfl ?_
        refine e_iload_n hg dL_law_1211 rfl ?_
        refine e_iconst (v := 1) hg dL_law_1212 (by decide) ?_
        refine e_iadd hg dL_law_1213 ?_
        obtain ⟨hi373, h⟩ := o_gd h
        refine e_sld hg hx hi373 dL_law_1214 ?_
        refine e_aload_n hg dL_law_1215 rfl ?_
        refine e_iload_n hg dL_law_1216 rfl ?_
        refine e_iconst (v := 2) hg dL_law_1217 (by decide) ?_
        refine e_iadd hg dL_law_1218 ?_
        obtain ⟨hi374, h⟩ := o_gd h
        refine e_sld hg hx hi374 dL_law_1219 ?_
        obtain ⟨v375, M376, hc377, h⟩ := o_bd h
        refine l_callVJ (rest := [.long v370]) (v := v375) (M' := M376) (ci := 11) hg hcs mfX11_element mvX11_element (X11_element_ok (r := (v375, M376)) hc377) lk_1515 dL_law_1220 io_82 rfl rfl rfl (by omega) (Nat.le_of_ble_eq_true rfl) ?_
        refine e_lcmp hg dL_law_1223 ?_
        refine e_ifeq hg 1348 dL_law_1224 (by decide) (fun c378 => ?_) (fun c378 => ?_)
        · have h := o_pos c378 h
          exact L_law_b1348_ok hg hd107 hcs hx hret hr ih h
        · have h := o_neg c378 h
          refine e_iconst (v := 0) hg dL_law_1227 (by decide) ?_
          exact l_ret hret hr dL_law_1228 h
      have h := o_neg c367 h
      by_cases c379 : ((xs x3.toNatClampNeg) &&& 63) = 32
      · have h := o_pos c379 h
        refine e_tabIn (v := 32) hg 1229 dL_law_33 c379 (by decide) (by decide) rfl (by decide) ?_
        refine e_aload_n hg dL_law_1229 rfl ?_
        refine e_aload_n hg dL_law_1230 rfl ?_
        refine e_iload_n hg dL_law_1231 rfl ?_
        refine e_iconst (v := 1) hg dL_law_1232 (by decide) ?_
        refine e_iadd hg dL_law_1233 ?_
        obtain ⟨hi380, h⟩ := o_gd h
        refine e_sld hg hx hi380 dL_law_1234 ?_
        refine e_aload_n hg dL_law_1235 rfl ?_
        refine e_iload_n hg dL_law_1236 rfl ?_
        refine e_iconst (v := 2) hg dL_law_1237 (by decide) ?_
        refine e_iadd hg dL_law_1238 ?_
        obtain ⟨hi381, h⟩ := o_gd h
        refine e_sld hg hx hi381 dL_law_1239 ?_
        refine e_aload_n hg dL_law_1240 rfl ?_
        refine e_iload_n hg dL_law_1241 rfl ?_
        refine e_iconst (v := 3) hg dL_law_1242 (by decide) ?_
        refine e_iadd hg dL_law_1243 ?_
        obtain ⟨hi382, h⟩ := o_gd h
        refine e_sld hg hx hi382 dL_law_1244 ?_
        refine e_aload_n hg dL_law_1245 rfl ?_
        refine e_iload_n hg dL_law_1246 rfl ?_
        refine e_iconst (v := 4) hg dL_law_1247 (by decide) ?_
        refine e_iadd hg dL_law_1248 ?_
        obtain ⟨hi383, h⟩ := o_gd h
        refine e_sld hg hx hi383 dL_law_1249 ?_
        refine e_aload_n hg dL_law_1250 rfl ?_
        refine e_iload_n hg dL_law_1251 rfl ?_
        refine e_iconst (v := 5) hg dL_law_1252 (by decide) ?_
        refine e_iadd hg dL_law_1253 ?_
        obtain ⟨hi384, h⟩ := o_gd h
        refine e_sld hg hx hi384 dL_law_1254 ?_
        obtain ⟨v385, M386, hc387, h⟩ := o_bd h
        refine l_callVI (rest := []) (v := v385) (M' := M386) (ci := 10) hg hcs mfX10_shift mvX10_shift (X10_shift_ok (r := (v385, M386)) hc387) lk_954 dL_law_1255 io_0 rfl rfl rfl (by omega) (Nat.le_of_ble_eq_true rfl) ?_
        refine e_aload_n hg dL_law_1258 rfl ?_
        refine e_aload_n hg dL_law_1259 rfl ?_
        refine e_iload_n hg dL_law_1260 rfl ?_
        refine e_iconst (v := 1) hg dL_law_1261 (by decide) ?_
        refine e_iadd hg dL_law_1262 ?_
        obtain ⟨hi388, h⟩ := o_gd h
        refine e_sld hg hx hi388 dL_law_1263 ?_
        refine e_aload_n hg dL_law_1264 rfl ?_
        refine e_iload_n hg dL_law_1265 rfl ?_
        refine e_iconst (v := 2) hg dL_law_1266 (by decide) ?_
        refine e_iadd hg dL_law_1267 ?_
        obtain ⟨hi389, h⟩ := o_gd h
        refine e_sld hg hx hi389 dL_law_1268 ?_
        refine e_aload_n hg dL_law_1269 rfl ?_
        refine e_iload_n hg dL_law_1270 rfl ?_
        refine e_iconst (v := 3) hg dL_law_1271 (by decide) ?_
        refine e_iadd hg dL_law_1272 ?_
        obtain ⟨hi390, h⟩ := o_gd h
        refine e_sld hg hx hi390 dL_law_1273 ?_
        refine e_aload_n hg dL_law_1274 rfl ?_
        refine e_iload_n hg dL_law_1275 rfl ?_
        refine e_iconst (v := 4) hg dL_law_1276 (by decide) ?_
        refine e_iadd hg dL_law_1277 ?_
        obtain ⟨hi391, h⟩ := o_gd h
        refine e_sld hg hx hi391 dL_law_1278 ?_
        refine e_aload_n hg dL_law_1279 rfl ?_
        refine e_iload_n hg dL_law_1280 rfl ?_
        refine e_iconst (v := 5) hg dL_law_1281 (by decide) ?_
        refine e_iadd hg dL_law_1282 ?_
        obtain ⟨hi392, h⟩ := o_gd h
        refine e_sld hg hx hi392 dL_law_1283 ?_
        obtain ⟨v393, M394, hc395, h⟩ := o_bd h
        refine l_callVI (rest := [.int v385]) (v := v393) (M' := M394) (ci := 11) hg hcs mfX11_shift mvX11_shift (X11_shift_ok (r := (v393, M394)) hc395) lk_1519 dL_law_1284 io_82 rfl rfl rfl (by omega) (Nat.le_of_ble_eq_true rfl) ?_
        refine e_icmpeq hg 1348 dL_law_1287 (by decide) (fun c396 => ?_) (fun c396 => ?_)
        · have h := o_pos c396 h
          exact L_law_b1348_ok hg hd107 hcs hx hret hr ih h
        · have h := o_neg c396 h
          refine e_iconst (v := 0) hg dL_law_1290 (by decide) ?_
          exact l_ret hret hr dL_law_1291 h
      have h := o_neg c379 h
      by_cases c397 : ((xs x3.toNatClampNeg) &&& 63) = 33
      · have h := o_pos c397 h
        refine e_tabIn (v := 33) hg 1292 dL_law_33 c397 (by decide) (by decide) rfl (by decide) ?_
        refine e_aload_n hg dL_law_1292 rfl ?_
        refine e_aload_n hg dL_law_1293 rfl ?_
        refine e_iload_n hg dL_law_1294 rfl ?_
        refine e_iconst (v := 1) hg dL_law_1295 (by decide) ?_
        refine e_iadd hg dL_law_1296 ?_
        obtain ⟨hi398, h⟩ := o_gd h
        refine e_sld hg hx hi398 dL_law_1297 ?_
        refine e_aload_n hg dL_law_1298 rfl ?_
        refine e_iload_n hg dL_law_1299 rfl ?_
        refine e_iconst (v := 2) hg dL_law_1300 (by decide) ?_
        refine e_iadd hg dL_law_1301 ?_
        obtain ⟨hi399, h⟩ := o_gd h
        refine e_sld hg hx hi399 dL_law_1302 ?_
        obtain ⟨v400, M401, hc402, h⟩ := o_bd h
        refine l_callVI (rest := []) (v := v400) (M' := M401) (ci := 10) hg hcs mfX10_taken mvX10_taken (X10_taken_ok (r := (v400, M401)) hc402) lk_963 dL_law_1303 io_0 rfl rfl rfl (by omega) (Nat.le_of_ble_eq_true rfl) ?_
        refine e_aload_n hg dL_law_1306 rfl ?_
        refine e_aload_n hg dL_law_1307 rfl ?_
        refine e_iload_n hg dL_law_1308 rfl ?_
        refine e_iconst (v := 1) hg dL_law_1309 (by decide) ?_
        refine e_iadd hg dL_law_1310 ?_
        obtain ⟨hi403, h⟩ := o_gd h
        refine e_sld hg hx hi403 dL_law_1311 ?_
        refine e_aload_n hg dL_law_1312 rfl ?_
        refine e_iload_n hg dL_law_1313 rfl ?_
        refine e_iconst (v := 2) hg dL_law_1314 (by decide) ?_
        refine e_iadd hg dL_law_1315 ?_
        obtain ⟨hi404, h⟩ := o_gd h
        refine e_sld hg hx hi404 dL_law_1316 ?_
        obtain ⟨v405, M406, hc407, h⟩ := o_bd h
        refine l_callVI (rest := [.int v400]) (v := v405) (M' := M406) (ci := 11) hg hcs mfX11_taken mvX11_taken (X11_taken_ok (r := (v405, M406)) hc407) lk_1523 dL_law_1317 io_82 rfl rfl rfl (by omega) (Nat.le_of_ble_eq_true rfl) ?_
        refine e_icmpeq hg 1348 dL_law_1320 (by decide) (fun c408 => ?_) (fun c408 => ?_)
        · have h := o_pos c408 h
          exact L_law_b1348_ok hg hd107 hcs hx hret hr ih h
        · have h := o_neg c408 h
          refine e_iconst (v := 0) hg dL_law_1323 (by decide) ?_
          exact l_ret hret hr dL_law_1324 h
      have h := o_neg c397 h
      by_cases c409 : ((xs x3.toNatClampNeg) &&& 63) = 34
      · have h := o_pos c409 h
        refine e_tabIn (v := 34) hg 1325 dL_law_33 c409 (by decide) (by decide) rfl (by decide) ?_
        refine e_aload_n hg dL_law_1325 rfl ?_
        refine e_aload_n hg dL_law_1326 rfl ?_
        refine e_iload_n hg dL_law_1327 rfl ?_
        refine e_iconst (v := 1) hg dL_law_1328 (by decide) ?_
        refine e_iadd hg dL_law_1329 ?_
        obtain ⟨hi410, h⟩ := o_gd h
        refine e_sld hg hx hi410 dL_law_1330 ?_
        obtain ⟨v411, M412, hc413, h⟩ := o_bd h
        refine l_callVI (rest := []) (v := v411) (M' := M412) (ci := 10) hg hcs mfX10_count mvX10_count (X10_count_ok (r := (v411, M412)) hc413) lk_976 dL_law_1331 io_0 rfl rfl rfl (by omega) (Nat.le_of_ble_eq_true rfl) ?_
        refine e_aload_n hg dL_law_1334 rfl ?_
        refine e_aload_n hg dL_law_1335 rfl ?_
        refine e_iload_n hg dL_law_1336 rfl ?_
        refine e_iconst (v := 1) hg dL_law_1337 (by decide) ?_
        refine e_iadd hg dL_law_1338 ?_
        obtain ⟨hi414, h⟩ := o_gd h
        refine e_sld hg hx hi414 dL_law_1339 ?_
        obtain ⟨v415, M416, hc417, h⟩ := o_bd h
        refine l_callVI (rest := [.int v411]) (v := v415) (M' := M416) (ci := 11) hg hcs mfX11_count mvX11_count (X11_count_ok (r := (v415, M416)) hc417) lk_1534 dL_law_1340 io_82 rfl rfl rfl (by omega) (Nat.le_of_ble_eq_true rfl) ?_
        refine e_icmpeq hg 1348 dL_law_1343 (by decide) (fun c418 => ?_) (fun c418 => ?_)
        · have h := o_pos c418 h
          exact L_law_b1348_ok hg hd107 hcs hx hret hr ih h
        · have h := o_neg c418 h
          refine e_iconst (v := 0) hg dL_law_1346 (by decide) ?_
          exact l_ret hret hr dL_law_1347 h
      have h := o_neg c409 h
      refine e_tabOut hg 1348 dL_law_33 (by have e_c3 := ne_toIntL (n := 0) (by decide) c3; have e_c15 := ne_toIntL (n := 1) (by decide) c15; have e_c27 := ne_toIntL (n := 2) (by decide) c27; have e_c41 := ne_toIntL (n := 3) (by decide) c41; have e_c53 := ne_toIntL (n := 4) (by decide) c53; have e_c67 := ne_toIntL (n := 5) (by decide) c67; have e_c79 := ne_toIntL (n := 6) (by decide) c79; have e_c89 := ne_toIntL (n := 7) (by decide) c89; have e_c97 := ne_toIntL (n := 8) (by decide) c97; have e_c107 := ne_toIntL (n := 9) (by decide) c107; have e_c119 := ne_toIntL (n := 10) (by decide) c119; have e_c129 := ne_toIntL (n := 11) (by decide) c129; have e_c141 := ne_toIntL (n := 12) (by decide) c141; have e_c153 := ne_toIntL (n := 13) (by decide) c153; have e_c163 := ne_toIntL (n := 14) (by decide) c163; have e_c177 := ne_toIntL (n := 15) (by decide) c177; have e_c189 := ne_toIntL (n := 16) (by decide) c189; have e_c205 := ne_toIntL (n := 17) (by decide) c205; have e_c219 := ne_toIntL (n := 18) (by decide) c219; have e_c231 := ne_toIntL (n := 19) (by decide) c231; have e_c245 := ne_toIntL (n := 20) (by decide) c245; have e_c259 := ne_toIntL (n := 21) (by decide) c259; have e_c267 := ne_toIntL (n := 22) (by decide) c267; have e_c275 := ne_toIntL (n := 23) (by decide) c275; have e_c283 := ne_toIntL (n := 24) (by decide) c283; have e_c291 := ne_toIntL (n := 25) (by decide) c291; have e_c301 := ne_toIntL (n := 26) (by decide) c301; have e_c315 := ne_toIntL (n := 27) (by decide) c315; have e_c325 := ne_toIntL (n := 28) (by decide) c325; have e_c337 := ne_toIntL (n := 29) (by decide) c337; have e_c351 := ne_toIntL (n := 30) (by decide) c351; have e_c367 := ne_toIntL (n := 31) (by decide) c367; have e_c379 := ne_toIntL (n := 32) (by decide) c379; have e_c397 := ne_toIntL (n := 33) (by decide) c397; have e_c409 := ne_toIntL (n := 34) (by decide) c409; omega) (by decide) ?_
      exact L_law_b1348_ok hg hd107 hcs hx hret hr ih h

