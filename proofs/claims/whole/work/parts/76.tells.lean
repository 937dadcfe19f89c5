/-! ===== what is told anew: the calls mend, undo, redo ===== -/
def wr (w : Nat) : Nat := [2, 3, 4, 6, 7, 8].getD w 0
/-- the relation but for the changes -/
def RQ (P T N : Nat) (O : Option (List stp)) (Ma Mb : mm) : Prop := rF P T N Ma Mb ∧ rP P Ma Mb ∧ rT P T Ma Mb ∧ rW 28 P T Ma Mb ∧ rY T Ma Mb ∧ rI P T Ma Mb ∧ rTa Ma Mb ∧ rA Ma Mb ∧ rS Ma Mb ∧ (lawA O Ma ∧ rFo O Ma ∧ RefOK Ma) ∧ lawB O Mb ∧ rM T N O Ma
theorem RQ_of {P T N : Nat} {O : Option (List stp)} {Ma Mb : mm} (R : RR P T N O Ma Mb) : RQ P T N O Ma Mb ∧ rC P T Ma Mb := by
  obtain ⟨⟨hF, hP, hT, hW, hY, hI, hC, hTa, hA, hS⟩, hL, hB, hM⟩ := R
  exact ⟨⟨hF, hP, hT, hW, hY, hI, hTa, hA, hS, hL, hB, hM⟩, hC⟩
theorem RR_of {P T N : Nat} {O : Option (List stp)} {Ma Mb : mm} (R : RQ P T N O Ma Mb) (hC : rC P T Ma Mb) : RR P T N O Ma Mb := by
  obtain ⟨hF, hP, hT, hW, hY, hI, hTa, hA, hS, hL, hB, hM⟩ := R
  exact ⟨⟨hF, hP, hT, hW, hY, hI, hC, hTa, hA, hS⟩, hL, hB, hM⟩
theorem rM_N {T N : Nat} {O : Option (List stp)} {M : mm} (h : rM T N O M) : rM T (N + 1) O M := by
  obtain ⟨V, V1, V2, V3, V4⟩ := h
  exact ⟨V, V1, by omega, V3, V4⟩
theorem RQ_N {P T N : Nat} {O : Option (List stp)} {Ma Mb : mm} (R : RQ P T N O Ma Mb) : RQ P T (N + 1) O Ma Mb := by
  obtain ⟨hF, hP, hT, hW, hY, hI, hTa, hA, hS, hL, hB, hM⟩ := R
  exact ⟨rF_c hF (Nat.le_succ _) ⟨rfl, rfl, rfl, rfl, rfl, rfl, rfl, rfl, rfl⟩, hP, hT, hW, hY, hI, hTa, hA, hS, hL, hB, rM_N hM⟩
theorem RQ_c {P T N : Nat} {O : Option (List stp)} {Ma Mb Ma' Mb' : mm} (R : RQ P T N O Ma Mb) (ea2 : Ma'.2 = Ma.2) (ea : ∀ k, (k < 61 ∨ 65 < k) → Ma'.1 k = Ma.1 k) (eb : ∀ k, k ≠ 82 → (k < 84 ∨ 86 < k) → Mb'.1 k = Mb.1 k) (eb2 : Mb'.2.1 115 = Mb.2.1 115) (ej : ∀ j, j ≠ 4 → j ≠ 5 → Mb'.1 82 j = Mb.1 82 j) : RQ P T N O Ma' Mb' := by
  obtain ⟨hF, hP, hT, hW, hY, hI, hTa, hA, hS, hL, hB, hM⟩ := R
  have f1 := hF.1
  obtain ⟨l1, l2⟩ := law_w3 (M' := Ma') ea2 (fun k h0 hk => ea k (by omega)) hL hM
  refine ⟨rF_c hF (Nat.le_refl _) ?_, rP_c hP ?_ f1 (fun i _ => by rw [eb 83 (by omega) (by omega)]), rT_c hT (Nat.le_refl _) ?_ (fun i _ => by rw [eb 83 (by omega) (by omega)]), rW_c hW (Nat.le_refl _) ?_ ?_, rY_c hY ?_, rI_c hI (Nat.le_refl _) (Nat.le_refl _) ?_ ?_, rTa_c hTa ?_, rA_c hA ?_, rS_c hS ?_ fun d hd => ⟨ea _ (by omega), by rw [ea2]⟩, l1, lawB_N hB ⟨ej 26 (by omega) (by omega), eb 99 (by omega) (by omega)⟩, l2⟩
  all_goals simp (disch := omega) only [ea, eb, eb2, ej, and_self, implies_true]
theorem w_rowOf {w : Nat} (hw : w ≤ 5) (M : mm) : X3_rowOf (nI w) M = some (wr w, M) := by
  match w, hw with
  | 0, _ => rfl
  | 1, _ => rfl
  | 2, _ => rfl
  | 3, _ => rfl
  | 4, _ => rfl
  | 5, _ => rfl
  | n + 6, h => exact absurd h (by omega)
theorem wr_ok {w : Nat} (hw : w ≤ 5) : isA 0 (wr w) = true ∧ alN (wr w) = (if w ≤ 2 then 5 else 6) ∧ 2 ≤ wr w ∧ wr w ≤ 8 ∧ wr w ≠ 5 ∧ wtop w ≤ 99 ∧ wbase w ≤ 27 := by
  match w, hw with
  | 0, _ => decide
  | 1, _ => decide
  | 2, _ => decide
  | 3, _ => decide
  | 4, _ => decide
  | 5, _ => decide
  | n + 6, h => exact absurd h (by omega)
/-- what stands in the row -/
theorem old_ok {P T n w : Nat} {Ma Mb : mm} (hP : rP P Ma Mb) (hT : rT P T Ma Mb) (hw : w ≤ 5) (hn : n < (if w ≤ 2 then P else T)) : ∃ y, wlow w ≤ y ∧ y ≤ wtop w ∧ Ma.1 (wr w) n = nI y ∧ Mb.1 83 (wbase w + n) = nI y := by
  match w, hw, hn with
  | 0, _, hn =>
    obtain ⟨⟨y, y1, y2, y3, y4⟩, -⟩ := hP.2 n hn
    exact ⟨y, y1, y2, y3, by show Mb.1 83 (0 + n) = _; rw [Nat.zero_add]; exact y4⟩
  | 1, _, hn =>
    obtain ⟨-, ⟨y, y2, y3, y4⟩, -⟩ := hP.2 n hn
    exact ⟨y, Nat.zero_le _, y2, y3, y4⟩
  | 2, _, hn =>
    obtain ⟨-, -, y, y2, y3, y4⟩ := hP.2 n hn
    exact ⟨y, Nat.zero_le _, y2, y3, y4⟩
  | 3, _, hn =>
    obtain ⟨-, ⟨y, y2, y3, y4⟩, -⟩ := hT n hn
    exact ⟨y, Nat.zero_le _, y2, y3, y4⟩
  | 4, _, hn =>
    obtain ⟨-, -, ⟨y, y2, y3, y4⟩, -⟩ := hT n hn
    exact ⟨y, Nat.zero_le _, y2, y3, y4⟩
  | 5, _, hn =>
    obtain ⟨-, -, -, y, y2, y3, y4⟩ := hT n hn
    exact ⟨y, Nat.zero_le _, by show y ≤ 5; omega, y3, y4⟩
  | k + 6, h, _ => exact absurd h (by omega)
theorem tell_P {P n w x : Nat} {T : Nat} {Ma Mb Ma' Mb' : mm} (hP5 : P ≤ 5) (hT6 : T ≤ 6) (hP : rP P Ma Mb) (hT : rT P T Ma Mb) (hw : w ≤ 5) (hn : n < (if w ≤ 2 then P else T)) (hx : wlow w ≤ x) (hx2 : x ≤ wtop w) (A : ∀ k, 2 ≤ k → k ≤ 8 → ∀ j, Ma'.1 k j = if k = wr w ∧ j = n then nI x else Ma.1 k j) (B : ∀ j, Mb'.1 83 j = if j = wbase w + n then nI x else Mb.1 83 j) (e90 : Mb'.1 90 = Mb.1 90) : rP P Ma' Mb' ∧ rT P T Ma' Mb' := by
  have comp : ∀ k base p lo hi, 2 ≤ k → k ≤ 8 → (∃ y, lo ≤ y ∧ y ≤ hi ∧ Ma.1 k p = nI y ∧ Mb.1 83 (base + p) = nI y) → (k = wr w ∧ p = n ↔ base + p = wbase w + n) → (k = wr w → lo ≤ x ∧ x ≤ hi) → ∃ y, lo ≤ y ∧ y ≤ hi ∧ Ma'.1 k p = nI y ∧ Mb'.1 83 (base + p) = nI y := by
    intro k base p lo hi k2 k8 ⟨y, y1, y2, y3, y4⟩ hiff hxx
    rw [A k k2 k8, B]
    by_cases c : k = wr w ∧ p = n
    · rw [if_pos c, if_pos (hiff.mp c)]
      exact ⟨x, (hxx c.1).1, (hxx c.1).2, rfl, rfl⟩
    · rw [if_neg c, if_neg (fun q => c (hiff.mpr q))]
      exact ⟨y, y1, y2, y3, y4⟩
  have C : ∀ w', w' ≤ 5 → ∀ p, p < (if w' ≤ 2 then P else T) → ∃ y, wlow w' ≤ y ∧ y ≤ wtop w' ∧ Ma'.1 (wr w') p = nI y ∧ Mb'.1 83 (wbase w' + p) = nI y := by
    intro w' hw' p hp
    refine comp (wr w') (wbase w') p (wlow w') (wtop w') (wr_ok hw').2.2.1 (wr_ok hw').2.2.2.1 (old_ok hP hT hw' hp) ?_ ?_
    · have hwc : w = 0 ∨ w = 1 ∨ w = 2 ∨ w = 3 ∨ w = 4 ∨ w = 5 := by omega
      have hwc' : w' = 0 ∨ w' = 1 ∨ w' = 2 ∨ w' = 3 ∨ w' = 4 ∨ w' = 5 := by omega
      rcases hwc with rfl | rfl | rfl | rfl | rfl | rfl <;> rcases hwc' with rfl | rfl | rfl | rfl | rfl | rfl <;> simp [wr, wbase] at hn hp ⊢ <;> omega
    · intro he
      have hww : w' = w := by
        have hwc : w = 0 ∨ w = 1 ∨ w = 2 ∨ w = 3 ∨ w = 4 ∨ w = 5 := by omega
        have hwc' : w' = 0 ∨ w' = 1 ∨ w' = 2 ∨ w' = 3 ∨ w' = 4 ∨ w' = 5 := by omega
        rcases hwc with rfl | rfl | rfl | rfl | rfl | rfl <;> rcases hwc' with rfl | rfl | rfl | rfl | rfl | rfl <;> simp [wr] at he ⊢
      rw [hww]
      exact ⟨hx, hx2⟩
  refine ⟨⟨fun p h1 h2 => ?_, fun p hp => ⟨?_, ?_, ?_⟩⟩, fun t ht => ⟨?_, ?_, ?_, ?_⟩⟩
  · rw [A 4 (by omega) (by omega), if_neg (fun q => ?_)]
    · exact hP.1 p h1 h2
    · have hwc : w = 0 ∨ w = 1 ∨ w = 2 ∨ w = 3 ∨ w = 4 ∨ w = 5 := by omega
      rcases hwc with rfl | rfl | rfl | rfl | rfl | rfl <;> simp [wr] at q hn <;> omega
  · obtain ⟨y, y1, y2, y3, y4⟩ := C 0 (by omega) p hp
    have y4' : Mb'.1 83 (0 + p) = nI y := y4
    rw [Nat.zero_add] at y4'
    exact ⟨y, y1, y2, y3, y4'⟩
  · obtain ⟨y, y1, y2, y3, y4⟩ := C 1 (by omega) p hp
    exact ⟨y, y2, y3, y4⟩
  · obtain ⟨y, y1, y2, y3, y4⟩ := C 2 (by omega) p hp
    exact ⟨y, y2, y3, y4⟩
  · obtain ⟨⟨o, o1, o2, o3⟩, -⟩ := hT t ht
    refine ⟨o, o1, ?_, by rw [e90]; exact o3⟩
    rw [A 5 (by omega) (by omega), if_neg (fun q => (wr_ok hw).2.2.2.2.1 q.1.symm)]
    exact o2
  · obtain ⟨y, y1, y2, y3, y4⟩ := C 3 (by omega) t ht
    exact ⟨y, y2, y3, y4⟩
  · obtain ⟨y, y1, y2, y3, y4⟩ := C 4 (by omega) t ht
    exact ⟨y, y2, y3, y4⟩
  · obtain ⟨y, y1, y2, y3, y4⟩ := C 5 (by omega) t ht
    exact ⟨y, by have : wtop 5 = 5 := rfl; omega, y3, y4⟩
/-- telling, on both sides -/
theorem w_tell {P T N n w x : Nat} {O : Option (List stp)} {Ma Mb : mm} (hN : N ≤ 600) (R : RQ P T N O Ma Mb) (hw : w ≤ 5) (hn : n < (if w ≤ 2 then P else T)) (hx : wlow w ≤ x) (hx2 : x ≤ wtop w) : ∃ A', X3_tell (nI n) (nI w) (nI x) Ma = some (Ma.1 (wr w) n, A') ∧ A'.2 = Ma.2 ∧ (∀ k, 9 ≤ k → A'.1 k = Ma.1 k) ∧ RQ P T (N + 1) O A' (sA Mb 83 (upd (Mb.1 83) (wbase w + n) (nI x))) := by
  obtain ⟨hF, hP, hT, hW, hY, hI, hTa, hA, hS, hL, hB, hM⟩ := id R
  obtain ⟨f1, f2, f3, f4, f5, f6, f7, f8, f9⟩ := id hF
  obtain ⟨r1, r2, r3, r4, r5, r6, r7⟩ := wr_ok hw
  obtain ⟨y, y1, y2, y3, y4⟩ := old_ok hP hT hw hn
  have hn6 : n < alN (wr w) := by
    rw [r2]
    split at hn <;> split <;> omega
  have ha6 : alN (wr w) ≤ 6 := by rw [r2]; split <;> omega
  unfold X3_tell
  rw [w_rowOf hw, bd_s, r1, gd_t, n_inb hn6 (by omega), gd_t, gd_t, gd_t, lt_s_, n_cl (by omega)]
  by_cases hs : Ma.1 (wr w) n = nI x
  · rw [if_pos hs]
    have e1 : sA Ma (wr w) (upd (Ma.1 (wr w)) n (nI x)) = Ma := sA_same _ _ _ (by rw [← hs, upd_id])
    have e2 : sA Mb 83 (upd (Mb.1 83) (wbase w + n) (nI x)) = Mb := sA_same _ _ _ (by rw [← hs, y3, ← y4, upd_id])
    rw [e1, e2]
    exact ⟨Ma, rfl, rfl, fun _ _ => rfl, RQ_N R⟩
  · rw [if_neg hs, lt_s_]
    obtain ⟨V, V1, V2, V3⟩ := f9
    have c4 : (sA Ma (wr w) (upd (Ma.1 (wr w)) n (nI x))).1 1 = Ma.1 1 := sA_n _ _ _ _ (by omega)
    rw [c4, V3, nI_1]
    generalize hA' : sA (sA Ma (wr w) (upd (Ma.1 (wr w)) n (nI x))) 1 (upd (Ma.1 1) 4 (nI (V + 1))) = A'
    have g2 : A'.2 = Ma.2 := by rw [← hA']; rfl
    have g : ∀ k, k ≠ 1 → k ≠ wr w → A'.1 k = Ma.1 k := fun k a b => by rw [← hA', sA_n _ _ _ _ a, sA_n _ _ _ _ b]
    have g1 : A'.1 1 = upd (Ma.1 1) 4 (nI (V + 1)) := by rw [← hA', sA_s]
    have gw : A'.1 (wr w) = upd (Ma.1 (wr w)) n (nI x) := by rw [← hA', sA_n _ _ _ _ (by omega), sA_s]
    have g9 : ∀ k, 9 ≤ k → A'.1 k = Ma.1 k := fun k hk => g k (by omega) (by omega)
    have g0 : A'.1 0 = Ma.1 0 := g 0 (by omega) (by omega)
    have b : ∀ k, k ≠ 83 → (sA Mb 83 (upd (Mb.1 83) (wbase w + n) (nI x))).1 k = Mb.1 k := fun k hk => sA_n _ _ _ _ hk
    obtain ⟨hP', hT'⟩ := tell_P (Ma' := A') (Mb' := sA Mb 83 (upd (Mb.1 83) (wbase w + n) (nI x))) f1 f2 hP hT hw hn hx hx2 (fun k k2 k8 j => by
      by_cases c : k = wr w
      · rw [c, gw, upd_a]
        by_cases d : j = n
        · rw [if_pos d, if_pos ⟨rfl, d⟩]
        · rw [if_neg d, if_neg (fun q => d q.2)]
      · rw [g k (by omega) c, if_neg (fun q => c q.1)]) (fun j => by rw [sA_s, upd_a]) (b 90 (by decide))
    refine ⟨A', rfl, g2, g9, ?_, hP', hT', rW_c hW (Nat.le_refl _) ?_ ?_, rY_c hY ?_, rI_c hI (Nat.le_refl _) (Nat.le_refl _) ?_ ?_, rTa_c hTa ?_, rA_c hA ?_, rS_c hS ?_ fun d hd => ⟨g9 _ (by omega), by rw [g2]⟩, ⟨lawA_X hL.1 ⟨g9 16 (by omega), g9 17 (by omega), g9 18 (by omega)⟩, fun t s a l k1 k2 k3 k4 k5 => by rw [g9 20 (by omega)]; exact hL.2.1 t s a l k1 k2 k3 k4 k5, by have := hL.2.2; unfold RefOK at this ⊢; rw [g2]; exact this⟩, lawB_N hB ⟨by rw [b 82 (by decide)], b 99 (by decide)⟩, rM_new hM V3 ⟨by omega, by omega⟩ (by rw [g1, upd_s]) (by rw [g2])⟩
    · refine ⟨f1, f2, ?_, ?_, ?_, ?_, ?_, ?_, V + 1, by omega, by omega, ?_⟩
      · rw [g1, upd_n _ _ _ _ (by decide)]; exact f3
      · rw [g1, upd_n _ _ _ _ (by decide)]; exact f4
      · rw [b 82 (by decide)]; exact f5
      · rw [b 82 (by decide)]; exact f6
      · rw [g1, upd_n _ _ _ _ (by decide), b 82 (by decide)]; exact f7
      · rw [g1, upd_n _ _ _ _ (by decide), b 82 (by decide)]; exact f8
      · rw [g1, upd_s]
    all_goals simp (disch := omega) only [g9, g0, b, sA_2, and_self, implies_true]
theorem op_undo {P T N : Nat} {O : Option (List stp)} {Ma Mb : mm} (hN : N ≤ 600) (R : RR P T N O Ma Mb) : ∃ v Ma' Mb', X10_undo Ma = some (v, Ma') ∧ X11_undo Mb = some (v, Mb') ∧ RR P T (N + 1) O Ma' Mb' := by
  obtain ⟨RQ0, hC⟩ := RQ_of R
  obtain ⟨d, al, c1, c2, c3, c4, c5, c6, c7⟩ := id hC
  unfold X10_undo X1_takeBack X11_undo
  rw [c3, c5, show (0 : Int32) = nI 0 from rfl, i_ltP (by omega) (by omega), i_eqP (by omega) (by omega)]
  by_cases h : d = 0
  · rw [if_neg (by omega), if_pos h, bd_s]
    exact ⟨_, Ma, Mb, rfl, rfl, RR_of (RQ_N RQ0) hC⟩
  · obtain ⟨d, rfl⟩ : ∃ d', d = d' + 1 := ⟨d - 1, by omega⟩
    obtain ⟨n, w, x, y, e1, e2, e3, e4, e5, e6, e7, e8, e9, e10, e11, e12, e13⟩ := c7 d (by omega)
    rw [if_pos (by omega), if_neg h, lt_s_, lt_s_, nI_pred]
    have RQ1 : RQ P T N O (sA Ma 61 (upd (Ma.1 61) 0 (nI d))) (sA Mb 82 (upd (Mb.1 82) 5 (nI d))) := RQ_c RQ0 rfl (fun k hk => sA_n _ _ _ _ (by omega)) (fun k h1 _ => sA_n _ _ _ _ h1) rfl (fun j h4 h5 => by rw [sA_s, upd_n _ _ _ _ h5])
    obtain ⟨A', t1, t2, t3, t4⟩ := w_tell hN RQ1 e1 e2 e3 e4
    simp (disch := omega) only [sA_s, sA_n, upd_s, n_inb, n_cl, gd_t, lt_s_, bd_s, e7, e8, e9, e11, e12]
    obtain ⟨r1, r2, r3, r4, r5, r6, r7⟩ := wr_ok e1
    have hn6 : n ≤ 5 := by
      have f1 := RQ0.1.1
      have f2 := RQ0.1.2.1
      split at e2 <;> omega
    rw [t1, bd_s, bd_s, show nI 0 = (0 : Int32) from rfl, i_10, n_inb (show wbase w + n < 33 by omega) (by omega), gd_t, n_cl (show wbase w + n < 2 ^ 31 by omega)]
    rw [sA_n _ _ _ _ (show (83 : Nat) ≠ 82 by decide)] at t4
    refine ⟨nI d, A', _, by rw [t3 61 (by omega), sA_s, upd_s], rfl, RR_of t4 ⟨d, al, by omega, c2, ?_, ?_, ?_, ?_, fun i hi => ?_⟩⟩
    · rw [t3 61 (by omega), sA_s, upd_s]
    · rw [t3 61 (by omega), sA_s, upd_n _ _ _ _ (by decide)]; exact c4
    · rw [sA_n _ _ _ _ (by decide), sA_s, upd_s]
    · rw [sA_n _ _ _ _ (by decide), sA_s, upd_n _ _ _ _ (by decide)]; exact c6
    · rw [t3 62 (by omega), t3 63 (by omega), t3 64 (by omega), t3 65 (by omega)]
      simp (disch := omega) only [sA_n]
      exact c7 i hi
