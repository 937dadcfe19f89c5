/-! ===== the single calls: people, things, the rule ===== -/
/-- the plain parts of the relation -/
def RC (P T N : Nat) (Ma Mb : mm) : Prop := rF P T N Ma Mb ∧ rP P Ma Mb ∧ rT P T Ma Mb ∧ rW 28 P T Ma Mb ∧ rY T Ma Mb ∧ rI P T Ma Mb ∧ rC P T Ma Mb ∧ rTa Ma Mb ∧ rA Ma Mb ∧ rS Ma Mb
theorem upd_s (f : Nat → Int32) (k : Nat) (x : Int32) : upd f k x k = x := if_pos rfl
theorem upd_n (f : Nat → Int32) (k j : Nat) (x : Int32) (h : j ≠ k) : upd f k x j = f j := if_neg h
theorem updL_s (f : Nat → Int64) (k : Nat) (x : Int64) : vp_updL f k x k = x := if_pos rfl
theorem updL_n (f : Nat → Int64) (k j : Nat) (x : Int64) (h : j ≠ k) : vp_updL f k x j = f j := if_neg h
theorem sA_s (M : mm) (k : Nat) (f : Nat → Int32) : (sA M k f).1 k = f := if_pos rfl
theorem sA_n (M : mm) (k k' : Nat) (f : Nat → Int32) (h : k' ≠ k) : (sA M k f).1 k' = M.1 k' := if_neg h
theorem sL_s (M : mm) (k : Nat) (f : Nat → Int64) : (sL M k f).2.1 k = f := if_pos rfl
theorem sL_n (M : mm) (k k' : Nat) (f : Nat → Int64) (h : k' ≠ k) : (sL M k f).2.1 k' = M.2.1 k' := if_neg h
theorem q_rng (a : Int32) (lo hi : Nat) (hh : hi < 2 ^ 31) : (¬ ((lo : Int) ≤ a.toInt ∧ a.toInt ≤ hi)) ∨ ∃ x : Nat, lo ≤ x ∧ x ≤ hi ∧ a = nI x := by
  by_cases h : (lo : Int) ≤ a.toInt ∧ a.toInt ≤ hi
  · obtain ⟨i, h1, h2⟩ := q_ex (a := a) (n := hi + 1) (by omega) (by omega) (by omega)
    subst h2
    rw [nI_toInt (by omega)] at h
    exact Or.inr ⟨i, by omega, by omega, rfl⟩
  · exact Or.inl h
theorem l_5 (a : Nat) : (5 : Int32) + nI a = nI (5 + a) := nI_add 5 a
theorem l_10 (a : Nat) : (10 : Int32) + nI a = nI (10 + a) := nI_add 10 a
theorem l_15 (a : Nat) : (15 : Int32) + nI a = nI (15 + a) := nI_add 15 a
theorem l_21 (a : Nat) : (21 : Int32) + nI a = nI (21 + a) := nI_add 21 a
theorem l_27 (a : Nat) : (27 : Int32) + nI a = nI (27 + a) := nI_add 27 a
theorem z32_0 : (0 : Int32).toInt = 0 := by decide
theorem z32_1 : (1 : Int32).toInt = 1 := by decide
theorem z32_3 : (3 : Int32).toInt = 3 := by decide
theorem z32_4 : (4 : Int32).toInt = 4 := by decide
theorem z32_5 : (5 : Int32).toInt = 5 := by decide
theorem z32_6 : (6 : Int32).toInt = 6 := by decide
theorem z32_9 : (9 : Int32).toInt = 9 := by decide
theorem z32_99 : (99 : Int32).toInt = 99 := by decide
theorem z64_0 : (0 : Int64).toInt = 0 := by decide
theorem z64_1 : (1 : Int64).toInt = 1 := by decide
theorem z64_3 : (3 : Int64).toInt = 3 := by decide
theorem z64_9 : (9 : Int64).toInt = 9 := by decide
theorem z64_99 : (99 : Int64).toInt = 99 := by decide
theorem w_addPerson {P : Nat} {M : mm} (hP : P < 5) (h : M.1 1 0 = nI P) (a b : Int32) : X3_addPerson a b M = some (nI P, sA (sA (sA M 2 (upd (M.1 2) P a)) 3 (upd (M.1 3) P b)) 1 (upd (M.1 1) 0 (nI (P + 1)))) := by
  unfold X3_addPerson
  simp [lt_s_, sA_1, h, gd_t, q_inbN (show P < 5 by omega) (by decide), q_cl (show P < 2 ^ 31 by omega), nI_1]
theorem t_person {P : Nat} {Ma : mm} (hP : P ≤ 5) (h : Ma.1 1 0 = nI P) (a b : Int32) : X10_person a b Ma =
    if (1 ≤ a.toInt ∧ a.toInt ≤ 3) ∧ 0 ≤ b.toInt ∧ b.toInt ≤ 99 then (if P = 5 then some (-3, Ma) else some (nI P, sA (sA (sA Ma 2 (upd (Ma.1 2) P a)) 3 (upd (Ma.1 3) P b)) 1 (upd (Ma.1 1) 0 (nI (P + 1))))) else some (-1, Ma) := by
  unfold X10_person
  simp only [q_lt, h, z32_0, z32_1, z32_3, z32_99, z32_5, nI_toInt (show P < 2 ^ 31 by omega)]
  repeat' split
  all_goals first | rfl | omega | (rw [w_addPerson (by omega) h]; rfl)
theorem u_person {P : Nat} {Mb : mm} (hP : P ≤ 5) (h : Mb.1 82 6 = nI P) (a b : Int32) : X11_person a b Mb =
    if (1 ≤ a.toInt ∧ a.toInt ≤ 3) ∧ 0 ≤ b.toInt ∧ b.toInt ≤ 99 then (if P = 5 then some (-3, Mb) else some (nI P, sA (sA Mb 83 (upd (upd (upd (Mb.1 83) P a) (5 + P) b) (10 + P) 0)) 82 (upd (Mb.1 82) 6 (nI (P + 1))))) else some (-1, Mb) := by
  unfold X11_person
  simp only [w_within, bd_s, bI_0, q_i64, z64_0, z64_1, z64_3, z64_99, h, q_eq (nI P) 5, z32_5, nI_toInt (show P < 2 ^ 31 by omega), decide_eq_false_iff_not]
  repeat' split
  all_goals first | rfl | omega | skip
  simp [lt_s_, sA_1, h, gd_t, upd_a, q_inbN (show P < 33 by omega) (by decide), q_inbN (show 5 + P < 33 by omega) (by decide), q_inbN (show 10 + P < 33 by omega) (by decide), q_cl (show P < 2 ^ 31 by omega), q_cl (show 5 + P < 2 ^ 31 by omega), q_cl (show 10 + P < 2 ^ 31 by omega), nI_1, l_5, l_10, nI_pred, sA_sA]
theorem op_person {P T N : Nat} {Ma Mb : mm} (R : RC P T N Ma Mb) (a b : Int32) : ∃ v Ma' Mb' P', X10_person a b Ma = some (v, Ma') ∧ X11_person a b Mb = some (v, Mb') ∧ P ≤ P' ∧ RC P' T N Ma' Mb' := by
  obtain ⟨hF, hP, hT, hW, hY, hI, hC, hTa, hA, hS⟩ := R
  obtain ⟨f1, f2, f3, f4, f5, f6, f7, f8, f9⟩ := id hF
  rw [t_person f1 f3, u_person f1 f5]
  split
  · next hv =>
    split
    · exact ⟨_, _, _, P, rfl, rfl, Nat.le_refl _, hF, hP, hT, hW, hY, hI, hC, hTa, hA, hS⟩
    · next h5 =>
      obtain ⟨x, x1, x2, rfl⟩ := (q_rng a 1 3 (by omega)).resolve_left (fun q => q hv.1)
      obtain ⟨y, y1, y2, rfl⟩ := (q_rng b 0 99 (by omega)).resolve_left (fun q => q hv.2)
      refine ⟨_, _, _, P + 1, rfl, rfl, by omega, ?_, ?_, ?_, ?_, ?_, ?_, ?_, ?_, ?_, ?_⟩
      · refine ⟨by omega, f2, ?_, ?_, ?_, ?_, ?_, ?_, ?_⟩ <;> simp [sA_1, upd_a] <;> assumption
      · refine ⟨fun p h1 h2 => by simp [sA_1]; exact hP.1 p (by omega) h2, fun p hp => ?_⟩
        by_cases hpP : p = P
        · subst hpP
          refine ⟨⟨x, x1, x2, ?_, ?_⟩, ⟨y, y2, ?_, ?_⟩, ⟨0, by omega, ?_, ?_⟩⟩ <;> simp (disch := omega) [sA_1, upd_s, upd_n]
          · exact hP.1 p (by omega) (by omega)
          · rfl
        · have h0 := hP.2 p (by omega)
          simp (disch := omega) [sA_1, upd_n]
          exact h0
      · exact rT_c hT (by omega) (by simp [sA_1]) (fun i hi => by simp (disch := omega) [sA_1, upd_n])
      · exact rW_c hW (by omega) (by simp [sA_1]) (by simp [sA_1, upd_a])
      · exact rY_c hY (by simp [sA_1])
      · exact rI_c hI (by omega) (Nat.le_refl _) (by simp [sA_1]) (by simp [sA_1, upd_a])
      · exact rC_c hC (by omega) (Nat.le_refl _) (by simp [sA_1, upd_a])
      · exact rTa_c hTa (by simp [sA_1, upd_a])
      · exact rA_c hA (by simp [sA_1, upd_a])
      · exact rS_c hS (by simp [sA_1, sA_2]) (fun d hd => by simp (disch := omega) [sA_n, sA_2])
  · exact ⟨_, _, _, P, rfl, rfl, Nat.le_refl _, hF, hP, hT, hW, hY, hI, hC, hTa, hA, hS⟩
theorem w_addThing {T : Nat} {M : mm} (hT : T < 6) (h : M.1 1 1 = nI T) (a b c : Int32) : X3_addThing a b c M = some (nI T, sA (sA (sA (sA (sA M 5 (upd (M.1 5) T a)) 6 (upd (M.1 6) T b)) 7 (upd (M.1 7) T c)) 8 (upd (M.1 8) T (nI T))) 1 (upd (M.1 1) 1 (nI (T + 1)))) := by
  unfold X3_addThing
  simp [lt_s_, sA_1, h, gd_t, q_inbN (show T < 6 by omega) (by decide), q_cl (show T < 2 ^ 31 by omega), nI_1]
theorem w_makeWhole {w t : Nat} {M : mm} (hw : isO 9 w = true) (ht : t < 6) : X9_makeWhole w (nI t) M = some ((), sA (sA (sA (sA M (w + 1) (upd (M.1 (w + 1)) t 3)) (w + 2) (upd (M.1 (w + 2)) t (-2))) (w + 3) (upd (M.1 (w + 3)) t (-2))) (w + 4) (upd (M.1 (w + 4)) t 0)) := by
  unfold X9_makeWhole
  simp [lt_s_, sA_1, hw, gd_t, q_inbN (show t < 6 by omega) (by decide), q_cl (show t < 2 ^ 31 by omega)]
