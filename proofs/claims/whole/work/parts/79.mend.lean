/-! ===== the call mend, on both sides ===== -/
theorem bA (a3 lo hi : Int32) (d : Bool) (M : mm) : (bd (some (bI d, M)) fun v3 M3 => if v3 = 0 then some ((0 : Int32), M3) else if a3 < lo then some (0, M3) else if hi < a3 then some (0, M3) else some (1, M3)) = some (bI (d && decide (lo.toInt ≤ a3.toInt ∧ a3.toInt ≤ hi.toInt)), M) := by
  rw [bd_s]
  cases d
  · rfl
  · rw [show bI true = 1 from rfl, i_10, i_P (propext (q_lt _ _)), i_P (propext (q_lt _ _)), Bool.true_and]
    by_cases h1 : a3.toInt < lo.toInt
    · rw [if_pos h1, decide_eq_false (by omega)]; rfl
    · rw [if_neg h1]
      by_cases h2 : hi.toInt < a3.toInt
      · rw [if_pos h2, decide_eq_false (by omega)]; rfl
      · rw [if_neg h2, decide_eq_true (by omega)]; rfl
theorem bA5 (a3 : Int32) (d : Bool) (M : mm) : (bd (some (bI d, M)) fun v3 M3 => if v3 = 0 then some ((0 : Int32), M3) else if a3 < 0 then some (0, M3) else if a3 < 6 then some (1, M3) else some (0, M3)) = some (bI (d && decide ((0 : Int32).toInt ≤ a3.toInt ∧ a3.toInt ≤ (5 : Int32).toInt)), M) := by
  have z6 : (6 : Int32).toInt = 6 := by decide
  have z5 : (5 : Int32).toInt = 5 := by decide
  rw [bd_s]
  cases d
  · rfl
  · rw [show bI true = 1 from rfl, i_10, i_P (propext (q_lt _ _)), i_P (propext (q_lt _ _)), Bool.true_and, z6, z5]
    by_cases h1 : a3.toInt < (0 : Int32).toInt
    · rw [if_pos h1, decide_eq_false (by omega)]; rfl
    · rw [if_neg h1]
      by_cases h2 : a3.toInt < 6
      · rw [if_pos h2, decide_eq_true (by omega)]; rfl
      · rw [if_neg h2, decide_eq_false (by omega)]; rfl
theorem bB (a3 e : Int32) (lo hi : Int64) (d : Bool) (M : mm) : (bd (some (bI d, M)) fun v2 M3 => if v2 = 0 then some ((-1 : Int32), M3) else bd (X11_within a3.toInt64 lo hi M3) fun v6 M7 => if v6 = 0 then some (-1, M7) else bd (X11_becomes e a3 M7) fun v10 M11 => some (v10, M11)) = if (d && decide (lo.toInt ≤ a3.toInt ∧ a3.toInt ≤ hi.toInt)) = true then X11_becomes e a3 M else some (-1, M) := by
  rw [bd_s]
  cases d
  · rfl
  · rw [show bI true = 1 from rfl, i_10, w_within, bd_s, q_i64, Bool.true_and, i_P (bI_0 _), bd_eta]
    by_cases h1 : lo.toInt ≤ a3.toInt ∧ a3.toInt ≤ hi.toInt
    · rw [decide_eq_true h1, if_neg (fun q => nomatch q), if_pos rfl]
    · rw [decide_eq_false h1, if_pos rfl, if_neg (fun q => nomatch q)]
/-- what may be told -/
def mTold (P T : Nat) (a1 a2 a3 : Int32) (Mb : mm) : Prop := ∃ w n x, w ≤ 5 ∧ n < (if w ≤ 2 then P else T) ∧ wlow w ≤ x ∧ x ≤ wtop w ∧ a1 = nI n ∧ a2 = nI w ∧ a3 = nI x ∧ X11_mend a1 a2 a3 Mb = X11_becomes (nI (wbase w + n)) (nI x) Mb
theorem m_one {P T w L : Nat} {a1 a2 a3 e lo hi : Int32} {lo6 hi6 : Int64} {Ma Mb : mm} (hP : P ≤ 5) (hT : T ≤ 6) (hw : w ≤ 5) (hL : L = if w ≤ 2 then P else T) (h2 : a2 = nI w) (hl : lo.toInt = wlow w) (hh : hi.toInt = wtop w) (hl6 : lo6.toInt = wlow w) (hh6 : hi6.toInt = wtop w) (he : ∀ n, n < L → a1 = nI n → e = nI (wbase w + n)) (hA : X3_mayTell a1 a2 a3 Ma = some (bI (decide (0 ≤ a1.toInt ∧ a1.toInt < L) && decide (lo.toInt ≤ a3.toInt ∧ a3.toInt ≤ hi.toInt)), Ma)) (hB : X11_mend a1 a2 a3 Mb = if (decide (0 ≤ a1.toInt ∧ a1.toInt < L) && decide (lo6.toInt ≤ a3.toInt ∧ a3.toInt ≤ hi6.toInt)) = true then X11_becomes e a3 Mb else some (-1, Mb)) : ∃ c : Bool, X3_mayTell a1 a2 a3 Ma = some (bI c, Ma) ∧ (c = false → X11_mend a1 a2 a3 Mb = some (-1, Mb)) ∧ (c = true → mTold P T a1 a2 a3 Mb) := by
  rw [hl, hh] at hA
  rw [hl6, hh6] at hB
  have hL6 : L ≤ 6 := by rw [hL]; split <;> omega
  have h99 := (wr_ok hw).2.2.2.2.2.1
  refine ⟨_, hA, fun q => by rw [hB, q]; rfl, fun q => ?_⟩
  have q' := q
  simp only [Bool.and_eq_true, decide_eq_true_eq] at q'
  obtain ⟨⟨q1, q2⟩, q3, q4⟩ := q'
  obtain ⟨n, n1, n2⟩ := q_ex (a := a1) (n := L) q1 q2 (by omega)
  obtain ⟨x, x1, x2⟩ := q_ex (a := a3) (n := wtop w + 1) (by omega) (by omega) (by omega)
  rw [x2, nI_toInt (by omega)] at q3
  refine ⟨w, n, x, hw, by rw [← hL]; exact n1, by omega, by omega, n2, h2, x2, ?_⟩
  rw [hB, q, if_pos rfl, he n n1 n2, x2]
theorem m_may {P T : Nat} {Ma Mb : mm} (hP : P ≤ 5) (hT : T ≤ 6) (h1 : Ma.1 1 0 = nI P) (h2 : Ma.1 1 1 = nI T) (h3 : Mb.1 82 6 = nI P) (h4 : Mb.1 82 7 = nI T) (a1 a2 a3 : Int32) : ∃ c : Bool, X3_mayTell a1 a2 a3 Ma = some (bI c, Ma) ∧ (c = false → X11_mend a1 a2 a3 Mb = some (-1, Mb)) ∧ (c = true → mTold P T a1 a2 a3 Mb) := by
  have hp := w_hasPerson (a := a1) hP h1
  have ht := w_hasThing (a := a1) hT h2
  have ip := w_isPerson (a := a1) hP h3
  have it := w_isThing (a := a1) hT h4
  by_cases c0 : a2 = 0
  · subst c0
    refine m_one (w := 0) (L := P) (e := a1) (lo := 1) (hi := 3) (lo6 := 1) (hi6 := 3) hP hT (by omega) rfl rfl (by decide) (by decide) (by decide) (by decide) (fun n _ q => by rw [q]; show nI n = nI (0 + n); rw [Nat.zero_add]) ?_ ?_
    · unfold X3_mayTell; rw [if_pos rfl, hp]; exact bA _ _ _ _ _
    · unfold X11_mend; rw [if_pos rfl, ip]; exact bB _ _ _ _ _ _
  by_cases c1 : a2 = 1
  · subst c1
    refine m_one (w := 1) (L := P) (e := 5 + a1) (lo := 0) (hi := 99) (lo6 := 0) (hi6 := 99) hP hT (by omega) rfl rfl (by decide) (by decide) (by decide) (by decide) (fun n _ q => by rw [q]; exact n_add 5 n) ?_ ?_
    · unfold X3_mayTell; rw [if_neg (by decide), if_pos rfl, hp]; exact bA _ _ _ _ _
    · unfold X11_mend; rw [if_neg (by decide), if_pos rfl, ip]; exact bB _ _ _ _ _ _
  by_cases c2 : a2 = 2
  · subst c2
    refine m_one (w := 2) (L := P) (e := 10 + a1) (lo := 0) (hi := 4) (lo6 := 0) (hi6 := 4) hP hT (by omega) rfl rfl (by decide) (by decide) (by decide) (by decide) (fun n _ q => by rw [q]; exact n_add 10 n) ?_ ?_
    · unfold X3_mayTell; rw [if_neg (by decide), if_neg (by decide), if_pos rfl, hp]; exact bA _ _ _ _ _
    · unfold X11_mend; rw [if_neg (by decide), if_neg (by decide), if_pos rfl, ip]; exact bB _ _ _ _ _ _
  by_cases c3 : a2 = 3
  · subst c3
    refine m_one (w := 3) (L := T) (e := 15 + a1) (lo := 0) (hi := 99) (lo6 := 0) (hi6 := 99) hP hT (by omega) rfl rfl (by decide) (by decide) (by decide) (by decide) (fun n _ q => by rw [q]; exact n_add 15 n) ?_ ?_
    · unfold X3_mayTell; rw [if_neg (by decide), if_neg (by decide), if_neg (by decide), if_pos rfl, ht]; exact bA _ _ _ _ _
    · unfold X11_mend; rw [if_neg (by decide), if_neg (by decide), if_neg (by decide), if_pos rfl, it]; exact bB _ _ _ _ _ _
  by_cases c4 : a2 = 4
  · subst c4
    refine m_one (w := 4) (L := T) (e := 21 + a1) (lo := 0) (hi := 99) (lo6 := 0) (hi6 := 99) hP hT (by omega) rfl rfl (by decide) (by decide) (by decide) (by decide) (fun n _ q => by rw [q]; exact n_add 21 n) ?_ ?_
    · unfold X3_mayTell; rw [if_neg (by decide), if_neg (by decide), if_neg (by decide), if_neg (by decide), if_pos rfl, ht]; exact bA _ _ _ _ _
    · unfold X11_mend; rw [if_neg (by decide), if_neg (by decide), if_neg (by decide), if_neg (by decide), if_pos rfl, it]; exact bB _ _ _ _ _ _
  by_cases c5 : a2 = 5
  · subst c5
    refine m_one (w := 5) (L := T) (e := 27 + a1) (lo := 0) (hi := 5) (lo6 := 0) (hi6 := 5) hP hT (by omega) rfl rfl (by decide) (by decide) (by decide) (by decide) (fun n _ q => by rw [q]; exact n_add 27 n) ?_ ?_
    · unfold X3_mayTell; rw [if_neg (by decide), if_neg (by decide), if_neg (by decide), if_neg (by decide), if_neg (by decide), if_pos rfl, ht]; exact bA5 _ _ _
    · unfold X11_mend; rw [if_neg (by decide), if_neg (by decide), if_neg (by decide), if_neg (by decide), if_neg (by decide), if_pos rfl, it]; exact bB _ _ _ _ _ _
  · refine ⟨false, ?_, fun _ => ?_, fun q => nomatch q⟩
    · unfold X3_mayTell; rw [if_neg c0, if_neg c1, if_neg c2, if_neg c3, if_neg c4, if_neg c5]; rfl
    · unfold X11_mend; rw [if_neg c0, if_neg c1, if_neg c2, if_neg c3, if_neg c4, if_neg c5]
theorem op_mend {P T N : Nat} {O : Option (List stp)} {Ma Mb : mm} (hN : N ≤ 600) (R : RR P T N O Ma Mb) (a1 a2 a3 : Int32) : ∃ v Ma' Mb', X10_mend a1 a2 a3 Ma = some (v, Ma') ∧ X11_mend a1 a2 a3 Mb = some (v, Mb') ∧ RR P T (N + 1) O Ma' Mb' := by
  obtain ⟨RQ0, hC⟩ := RQ_of R
  obtain ⟨f1, f2, f3, f4, f5, f6, f7, f8, f9⟩ := RQ0.1
  obtain ⟨c, m1, m2, m3⟩ := m_may f1 f2 f3 f4 f5 f6 a1 a2 a3
  unfold X10_mend
  rw [m1, bd_s, i_P (bI_0 _)]
  cases c with
  | false =>
    rw [if_pos rfl]
    exact ⟨_, Ma, Mb, rfl, m2 rfl, RR_of (RQ_N RQ0) hC⟩
  | true =>
    rw [if_neg (c := true = false) (fun q => nomatch q)]
    obtain ⟨w, n, x, e1, e2, e3, e4, rfl, rfl, rfl, m4⟩ := m3 rfl
    rw [m4]
    obtain ⟨d, al, c1, c2, c3, c4, c5, c6, c7⟩ := id hC
    obtain ⟨y, y1, y2, y3, y4⟩ := old_ok RQ0.2.1 RQ0.2.2.1 e1 e2
    obtain ⟨A', t1, t2, t3, t4⟩ := w_tell hN RQ0 e1 e2 e3 e4
    obtain ⟨r1, r2, r3, r4, r5, r6, r7⟩ := wr_ok e1
    have hn6 : n ≤ 5 := by split at e2 <;> omega
    rw [t1, bd_s, y3, i_eqP (by omega) (by omega)]
    by_cases h : y = x
    · subst h
      rw [if_pos rfl]
      rw [← y4, upd_id, sA_same _ _ _ rfl] at t4
      refine ⟨_, A', Mb, rfl, ?_, RR_of t4 ⟨d, al, c1, c2, ?_, ?_, c5, c6, ?_⟩⟩
      · unfold X11_becomes
        rw [n_inb (by omega) (by omega), gd_t, n_cl (by omega), y4, if_pos rfl]
      · rw [t3 61 (by omega)]; exact c3
      · rw [t3 61 (by omega)]; exact c4
      · rw [t3 62 (by omega), t3 63 (by omega), t3 64 (by omega), t3 65 (by omega)]; exact c7
    · rw [if_neg h]
      obtain ⟨B', b1, b2, b3, b4, b5, d1, s1, b6, b7, b8, b9, b10, b11, b12, b13⟩ := b_becomes (x := nI x) (y := nI y) (k := wbase w + n) (d := d) (M := Mb) (by omega) (by omega) c5 y4 (fun q => h ((n_eq (by omega) (by omega)).mp q))
      obtain ⟨A2, a1', a2', a3', d2, s2, a4', a5', a6', a7', a8', a9', a10', a11', a12'⟩ := m_note (a1 := nI n) (a2 := nI w) (a3 := nI y) (a4 := nI x) (d := d) (M := A') (by omega) (by rw [t3 61 (by omega)]; exact c3)
      have hs : s2 = s1 := by rw [a6', b8]
      have hd : d2 = d1 := by omega
      subst hs hd
      rw [a1', bd_s, b1]
      refine ⟨_, A2, B', rfl, rfl, RR_of (RQ_c t4 a2' a3' (fun k h1 h2 => ?_) (by rw [b2]; rfl) (fun j h4 h5 => by rw [b4 j h4 h5, sA_n _ _ _ _ (by decide)])) ⟨d2 + 1, d2 + 1, by omega, by omega, a7', a8', b9, b10, fun i hi => ?_⟩⟩
      · by_cases hk : k = 83
        · rw [hk, b5, sA_s]
        · rw [b3 k h1 (by omega), sA_n _ _ _ _ hk]
      · by_cases hid : i = d2
        · subst hid
          exact ⟨n, w, y, x, e1, e2, y1, y2, e3, e4, a9'.2, a10'.2, a11'.2, a12'.2, b11.2, b12.2, b13.2⟩
        · rw [a9'.1 i (by omega), a10'.1 i (by omega), a11'.1 i (by omega), a12'.1 i (by omega), b11.1 i (by omega), b12.1 i (by omega), b13.1 i (by omega), t3 62 (by omega), t3 63 (by omega), t3 64 (by omega), t3 65 (by omega)]
          exact c7 (i + s2) (by omega)
