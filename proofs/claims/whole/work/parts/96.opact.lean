theorem if_y {α : Type} {y : Nat} (hy : y ≤ 3) (A B C D E : α) : (if nI y = 0 then A else if nI y = 1 then B else if nI y = 2 then C else if nI y = 3 then D else E) = (if y = 0 then A else if y = 1 then B else if y = 2 then C else D) := by
  have e : ∀ j, j < 4 → (nI y = nI j) = (y = j) := fun j hj => n_eq (by omega) (by omega)
  rw [show (0 : Int32) = nI 0 from rfl, show (1 : Int32) = nI 1 from rfl, show (2 : Int32) = nI 2 from rfl, show (3 : Int32) = nI 3 from rfl, i_P (e 0 (by omega)), i_P (e 1 (by omega)), i_P (e 2 (by omega)), i_P (e 3 (by omega))]
  repeat' split
  all_goals first | rfl | omega
theorem RR_act {P T N r : Nat} {O : Option (List stp)} {Ma Mb Ma' Mb' : mm} (R : RR P T N O Ma Mb) (F : FTr Ma Ma') (G : GTr Mb Mb') (hr : r ≤ 1000) (a1 : Ma'.1 66 1 = nI r) (b1 : Mb'.1 82 56 = nI r) (t : ∀ i, i < r → i < 24 → Ma'.1 67 i = Mb'.1 112 i) : RR P T N O Ma' Mb' := by
  obtain ⟨hF, hP, hT, hW, hY, hI, hC, hTa, hA, hS⟩ := id R.1
  have f1 := hF.1
  obtain ⟨F1, F2, F3⟩ := F
  obtain ⟨G1, G2, G3⟩ := G
  refine RR_lift R ⟨rF_c hF (Nat.le_refl _) ?_, rP_c hP ?_ f1 (fun i _ => by rw [G2 83 (by omega) (by omega)]), rT_c hT (Nat.le_refl _) ?_ (fun i _ => by rw [G2 83 (by omega) (by omega)]), rW_c hW (Nat.le_refl _) ?_ ?_, rY_c hY ?_, rI_c hI (Nat.le_refl _) (Nat.le_refl _) ?_ ?_, rC_c hC (Nat.le_refl _) (Nat.le_refl _) ?_, rTa_c hTa ?_, ?_, rS_c hS ?_ fun d hd => ⟨F2 _ (by omega) (by omega), by rw [F1]⟩⟩ (Nat.le_refl _) F1 (fun k k1 k2 => F2 k (by omega) (by omega)) (by rw [F2 1 (by omega) (by omega)]) (fun F t _ => cNow_c O F t (F2 2 (by omega) (by omega)) (F2 3 (by omega) (by omega)) (F2 5 (by omega) (by omega)) (F2 6 (by omega) (by omega)) (F2 7 (by omega) (by omega))) ⟨G3 26 (by omega), G2 99 (by omega) (by omega)⟩
  case refine_11 =>
    obtain ⟨b, r0, q1, q2, q3, q4, q5, q6, q7, q8⟩ := hA
    exact ⟨b, r, q1, hr, by rw [F3 0 (by omega) (by omega) (by omega)]; exact q3, by rw [G3 53 (by omega)]; exact q4, a1, b1, fun i hi => by rw [F2 68 (by omega) (by omega), G2 111 (by omega) (by omega)]; exact q7 i hi, t⟩
  all_goals simp (disch := omega) only [F2, F3, G1, G2, G3, and_self, implies_true]
theorem op_act {P T N : Nat} {O : Option (List stp)} {Ma Mb : mm} (R : RR P T N O Ma Mb) (a1 a2 a3 : Int32) : ∃ v Ma' Mb', X10_act a1 a2 a3 Ma = some (v, Ma') ∧ X11_act a1 a2 a3 Mb = some (v, Mb') ∧ RR P T N O Ma' Mb' := by
  obtain ⟨-, -, -, -, -, -, -, -, hA, -⟩ := id R.1
  obtain ⟨bb, r0, q1, q2, q3, q4, q5, q6, q7, q8⟩ := hA
  have eA : ∀ K : mm → Option (Int32 × mm), lt_ (sA Ma 66 (upd (Ma.1 66) 1 0)) K = K (sA Ma 66 (upd (Ma.1 66) 1 0)) := fun _ => rfl
  have eB : ∀ K : mm → Option (Int32 × mm), lt_ (sA Mb 82 (upd (Mb.1 82) 56 0)) K = K (sA Mb 82 (upd (Mb.1 82) 56 0)) := fun _ => rfl
  unfold X10_act X0_perform X11_act
  rw [eA, eB]
  have cA : (sA Ma 66 (upd (Ma.1 66) 1 0)).1 66 0 = nI bb := by rw [sA_s, upd_n _ _ _ _ (by omega)]; exact q3
  have cB : (sA Mb 82 (upd (Mb.1 82) 56 0)).1 82 53 = nI bb := by rw [sA_s, upd_n _ _ _ _ (by omega)]; exact q4
  have F0 : FTr Ma (sA Ma 66 (upd (Ma.1 66) 1 0)) := ⟨rfl, fun k k1 _ => sA_n _ _ _ _ k1, fun j j1 _ _ => by rw [sA_s, upd_n _ _ _ _ j1]⟩
  have G0 : GTr Mb (sA Mb 82 (upd (Mb.1 82) 56 0)) := ⟨rfl, fun k k1 _ => sA_n _ _ _ _ k1, fun j j1 => by rw [sA_s, upd_n _ _ _ _ (by omega)]⟩
  have R0 : RR P T N O (sA Ma 66 (upd (Ma.1 66) 1 0)) (sA Mb 82 (upd (Mb.1 82) 56 0)) := RR_act (r := 0) R F0 G0 (by omega) (by rw [sA_s, upd_s]; rfl) (by rw [sA_s, upd_s]; rfl) (fun i hi => by omega)
  rw [w_isBody q1 cB, bd_s, i_P (bI_0 _), cA]
  by_cases hb : 0 ≤ a1.toInt ∧ a1.toInt < bb
  · obtain ⟨b, b1, rfl⟩ := q_ex hb.1 hb.2 (by omega)
    obtain ⟨k, k1, k2, k3⟩ := q7 b b1
    rw [decide_eq_true hb, if_neg (c := true = false) (fun q => nomatch q), if_neg (neg0 (show b < 2 ^ 31 by omega)), i_ltP (by omega) (by omega), if_pos b1, n_inb (show b < 50 by omega) (by omega), n_cl (show b < 2 ^ 31 by omega)]
    simp only [gd_t, lt_s_]
    generalize hA1 : sA (sA (sA Ma 66 (upd (Ma.1 66) 1 0)) 66 (upd ((sA Ma 66 (upd (Ma.1 66) 1 0)).1 66) 4 (nI b))) 66 (upd ((sA (sA Ma 66 (upd (Ma.1 66) 1 0)) 66 (upd ((sA Ma 66 (upd (Ma.1 66) 1 0)).1 66) 4 (nI b))).1 66) 5 ((sA (sA Ma 66 (upd (Ma.1 66) 1 0)) 66 (upd ((sA Ma 66 (upd (Ma.1 66) 1 0)).1 66) 4 (nI b))).1 68 b)) = A1
    generalize hB1 : sA (sA (sA Mb 82 (upd (Mb.1 82) 56 0)) 82 (upd ((sA Mb 82 (upd (Mb.1 82) 56 0)).1 82) 57 ((sA Mb 82 (upd (Mb.1 82) 56 0)).1 111 b))) 82 (upd ((sA (sA Mb 82 (upd (Mb.1 82) 56 0)) 82 (upd ((sA Mb 82 (upd (Mb.1 82) 56 0)).1 82) 57 ((sA Mb 82 (upd (Mb.1 82) 56 0)).1 111 b))).1 82) 58 (nI b)) = B1
    have FA : FTr Ma A1 := by
      rw [← hA1]
      refine ⟨rfl, fun j j1 _ => ?_, fun j j1 j2 j3 => ?_⟩ <;> simp (disch := omega) only [sA_s, sA_n, upd_n]
    have GB : GTr Mb B1 := by
      rw [← hB1]
      refine ⟨rfl, fun j j1 _ => ?_, fun j j1 => ?_⟩ <;> simp (disch := omega) only [sA_s, sA_n, upd_n]
    have c1 : A1.1 66 5 = nI k := by rw [← hA1]; simp (disch := omega) only [sA_s, sA_n, upd_s]; exact k2
    have c2 : B1.1 82 57 = nI k := by rw [← hB1]; simp (disch := omega) only [sA_s, sA_n, upd_s, upd_n]; exact k3
    have RT1 : RTr k b 0 A1 B1 := by
      refine ⟨k1, by omega, by omega, ?_, ?_, ?_, ?_, c1, c2, fun i hi => by omega⟩
      · rw [← hA1]; simp (disch := omega) only [sA_s, upd_s, upd_n]; rfl
      · rw [← hB1]; simp (disch := omega) only [sA_s, upd_s, upd_n]; rfl
      · rw [← hA1]; simp (disch := omega) only [sA_s, upd_s, upd_n]
      · rw [← hB1]; simp (disch := omega) only [sA_s, upd_s, upd_n]
    have R1 : RR P T N O (sA Ma 66 (upd (Ma.1 66) 1 0)) B1 := RR_act (r := 0) R F0 GB (by omega) (by rw [sA_s, upd_s]; rfl) RT1.2.2.2.2.1 (fun i hi => by omega)
    rw [c1, c2, bd_eta, bd_eta, bd_eta, bd_eta]
    rcases q_rng a2 0 3 (by omega) with hc | ⟨y, -, y3, rfl⟩
    · have hc' : ¬ (0 ≤ a2.toInt ∧ a2.toInt ≤ 3) := by simpa using hc
      have n0 : ¬ a2 = 0 := fun q => hc' (by rw [q]; decide)
      have n1 : ¬ a2 = 1 := fun q => hc' (by rw [q]; decide)
      have n2 : ¬ a2 = 2 := fun q => hc' (by rw [q]; decide)
      have n3 : ¬ a2 = 3 := fun q => hc' (by rw [q]; decide)
      rw [if_neg n0, if_neg n1, if_neg n2, if_neg n3]
      by_cases h0 : a2 < 0
      · rw [if_pos h0]
        exact ⟨_, _, _, rfl, rfl, R1⟩
      · rw [if_neg h0, if_neg]
        · exact ⟨_, _, _, rfl, rfl, R1⟩
        · rw [q_lt, z32_0] at h0
          rw [q_lt, show (4 : Int32).toInt = 4 from by decide]
          omega
    · obtain ⟨v, A2, B2, r', g1, g2, g3, g4, g5, g6⟩ := w_act (a := a3) (b := b) k1 (show y < 4 by omega) 0 A1 B1 RT1 (by omega)
      rw [if_neg (neg0 (show y < 2 ^ 31 by omega)), if_pos (show nI y < 4 by rw [q_lt, n_ti (by omega), show (4 : Int32).toInt = 4 from by decide]; omega), bd_eta]
      simp only at g1 g2
      rw [g1]
      have gB : (if nI y = 0 then X11_mendsAs (nI k) a3 B1 else if nI y = 1 then X11_paysAs (nI k) a3 B1 else if nI y = 2 then X11_leavesAs (nI k) a3 B1 else if nI y = 3 then X11_tellsAs (nI k) a3 B1 else some (0, B1)) = some (v, B2) := (if_y (show y ≤ 3 from y3) _ _ _ _ _).trans g2
      rw [bd_eta, gB]
      exact ⟨v, A2, B2, rfl, rfl, RR_act (r := r') R (FTr_t FA g5) (GTr_t GB g6) (by have := g4.2.2.1; omega) g4.2.2.2.1 g4.2.2.2.2.1 g4.2.2.2.2.2.2.2.2.2⟩
  · rw [decide_eq_false hb, if_pos rfl]
    by_cases h0 : a1 < 0
    · rw [if_pos h0, bd_s]
      exact ⟨_, _, _, rfl, rfl, R0⟩
    · rw [if_neg h0, if_neg, bd_s]
      · exact ⟨_, _, _, rfl, rfl, R0⟩
      · rw [q_lt, z32_0] at h0
        rw [q_lt, n_ti (by omega)]
        omega
