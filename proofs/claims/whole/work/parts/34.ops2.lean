/-! ===== things ===== -/
theorem wb_neg (x : Int32) (h : x.toInt < 0) : ¬ (0 ≤ (x / 100).toInt ∧ 0 ≤ (x - x / 100 * 100).toInt) := by
  have hx := Int32.le_toInt x
  obtain ⟨n, hn⟩ : ∃ n : Nat, x.toInt = -(n : Int) := ⟨(-x.toInt).toNat, by omega⟩
  have e1 : (x / 100).toInt = -((n / 100 : Nat) : Int) := by
    have h100 : (100 : Int32).toInt = ((100 : Nat) : Int) := by decide
    rw [Int32.toInt_div, hn, h100, Int.neg_tdiv, ← Int.ofNat_tdiv, Int.bmod_eq_of_le (by omega) (by omega)]
  rintro ⟨h0, h1⟩
  have h2 : x / 100 = 0 := by
    rw [q_eq, e1, z32_0]
    omega
  rw [h2] at h1
  simp at h1
  omega
/-- a thing comes: the class, the reference -/
def adI (T : Nat) (a b c : Int32) (M : mm) : mm := sA (sA (sA (sA (sA (sA (sA (sA (sA M 5 (upd (M.1 5) T a)) 6 (upd (M.1 6) T b)) 7 (upd (M.1 7) T c)) 8 (upd (M.1 8) T (nI T))) 1 (upd (M.1 1) 1 (nI (T + 1)))) 29 (upd (M.1 29) T 3)) 30 (upd (M.1 30) T (-2))) 31 (upd (M.1 31) T (-2))) 32 (upd (M.1 32) T 0)
def adM (T : Nat) (a b c : Int32) (M : mm) : mm := sA (sA (sA (sA (sA (sA (sA (sA (sA M 90 (upd (M.1 90) T a)) 83 (upd (upd (upd (M.1 83) (15 + T) b) (21 + T) c) (27 + T) (nI T))) 91 (upd (M.1 91) T 3)) 92 (upd (M.1 92) T (-2))) 93 (upd (M.1 93) T (-2))) 94 (upd (M.1 94) T 0)) 96 (upd (M.1 96) T 0)) 97 (upd (M.1 97) T (-5))) 82 (upd (M.1 82) 7 (nI (T + 1)))
theorem t_addThing {P T : Nat} {M : mm} (hP : P ≤ 5) (hT : T ≤ 6) (h : M.1 1 0 = nI P) (h1 : M.1 1 1 = nI T) (a b c : Int32) : X10_addThing a b c M =
    if (0 ≤ a.toInt ∧ a.toInt < P) ∧ (0 ≤ b.toInt ∧ b.toInt ≤ 99) ∧ (0 ≤ c.toInt ∧ c.toInt ≤ 99) then (if T = 6 then some (-3, M) else some (nI T, adI T a b c M)) else some (-1, M) := by
  unfold X10_addThing
  rw [w_hasPerson hP h]
  simp only [bd_s, bI_0, decide_eq_false_iff_not, q_lt, z32_0, z32_99, z32_6, h1, nI_toInt (show T < 2 ^ 31 by omega)]
  repeat' split
  all_goals first | rfl | omega | skip
  rw [w_addThing (by omega) h1, bd_s, w_makeWhole (by decide) (by omega), bd_s]
  simp [sA_1, adI]
theorem u_adds {T : Nat} {M : mm} (hT : T < 6) (h : M.1 82 7 = nI T) (a b c : Int32) : X11_adds a b c M = some ((), adM T a b c M) := by
  unfold X11_adds
  simp [lt_s_, sA_1, h, gd_t, l_15, l_21, l_27, q_inbN (show T < 6 by omega) (by decide), q_inbN (show 15 + T < 33 by omega) (by decide), q_inbN (show 21 + T < 33 by omega) (by decide), q_inbN (show 27 + T < 33 by omega) (by decide), q_cl (show T < 2 ^ 31 by omega), q_cl (show 15 + T < 2 ^ 31 by omega), q_cl (show 21 + T < 2 ^ 31 by omega), q_cl (show 27 + T < 2 ^ 31 by omega), nI_1, sA_sA, adM]
theorem u_isOne {P : Nat} {M : mm} (hP : P ≤ 5) (h : M.1 82 6 = nI P) (a b c : Int64) : X11_isOne a b c M = some (bI (decide ((0 ≤ a.toInt ∧ a.toInt < P) ∧ (0 ≤ b.toInt ∧ b.toInt ≤ 99) ∧ (0 ≤ c.toInt ∧ c.toInt ≤ 99))), M) := by
  unfold X11_isOne
  simp only [w_within, bd_s, bI_0, q_i64, z64_0, z64_99, h, q_pm1 (show P < 2 ^ 31 by omega), decide_eq_false_iff_not]
  repeat' split
  · rw [decide_eq_false (by omega)]; rfl
  · rw [decide_eq_false (by omega)]; rfl
  · rw [decide_eq_false (by omega)]; rfl
  · rw [decide_eq_true (by omega)]; rfl
theorem t_thing {P T : Nat} {M : mm} (hP : P ≤ 5) (hT : T ≤ 6) (h : M.1 1 0 = nI P) (h1 : M.1 1 1 = nI T) (a b : Int32) : X10_thing a b M =
    if (0 ≤ a.toInt ∧ a.toInt < P) ∧ (0 ≤ (b / 100).toInt ∧ (b / 100).toInt ≤ 99) ∧ (0 ≤ (b - b / 100 * 100).toInt ∧ (b - b / 100 * 100).toInt ≤ 99) then (if T = 6 then some (-3, M) else some (nI T, adI T a (b / 100) (b - b / 100 * 100) M)) else some (-1, M) := by
  unfold X10_thing
  rw [t_addThing hP hT h h1]
  repeat' split
  all_goals rfl
theorem u_thing {P T : Nat} {M : mm} (hP : P ≤ 5) (hT : T ≤ 6) (h : M.1 82 6 = nI P) (h1 : M.1 82 7 = nI T) (a b : Int32) : X11_thing a b M =
    if (0 ≤ a.toInt ∧ a.toInt < P) ∧ (0 ≤ (b / 100).toInt ∧ (b / 100).toInt ≤ 99) ∧ (0 ≤ (b - b / 100 * 100).toInt ∧ (b - b / 100 * 100).toInt ≤ 99) then (if T = 6 then some (-3, M) else some (nI T, adM T a (b / 100) (b - b / 100 * 100) M)) else some (-1, M) := by
  have hneg := wb_neg b
  unfold X11_thing
  simp only [u_isOne hP h, bd_s, bI_0, q_i64, h1, q_lt b 0, z32_0, q_eq (nI T) 6, z32_6, nI_toInt (show T < 2 ^ 31 by omega), decide_eq_false_iff_not]
  repeat' split
  all_goals first | rfl | omega | skip
  rw [u_adds (by omega) h1, bd_s]
  simp [adM, sA_1, upd_a, nI_pred]
/-- a thing that came keeps the relation -/
theorem rc_adds {P T N : Nat} {Ma Mb : mm} (R : RC P T N Ma Mb) (hT6 : T < 6) {o b c : Nat} (ho : o < P) (hb : b ≤ 99) (hc : c ≤ 99) : RC P (T + 1) N (adI T (nI o) (nI b) (nI c) Ma) (adM T (nI o) (nI b) (nI c) Mb) := by
  obtain ⟨hF, hP, hT, hW, hY, hI, hC, hTa, hA, hS⟩ := R
  obtain ⟨f1, f2, f3, f4, f5, f6, f7, f8, f9⟩ := id hF
  refine ⟨?_, ?_, ?_, ?_, ?_, ?_, ?_, ?_, ?_, ?_⟩
  · refine ⟨f1, by omega, ?_, ?_, ?_, ?_, ?_, ?_, ?_⟩ <;> simp (disch := omega) [adI, adM, sA_s, sA_n, upd_s, upd_n] <;> assumption
  · exact rP_c hP (by simp (disch := omega) [adI, adM, sA_n]) f1 (fun i hi => by simp (disch := omega) [adM, sA_s, sA_n, upd_n])
  · intro t ht
    by_cases h : t = T
    · subst h
      refine ⟨⟨o, ho, ?_⟩, ⟨b, hb, ?_⟩, ⟨c, hc, ?_⟩, ⟨t, hT6, ?_⟩⟩ <;> simp (disch := omega) [adI, adM, sA_s, sA_n, upd_s, upd_n]
    · have h0 := hT t (by omega)
      simp (disch := omega) [adI, adM, sA_s, sA_n, upd_n]
      exact h0
  · refine ⟨fun t ht => ?_, ?_⟩
    · by_cases h : t = T
      · subst h
        have h33 := hY.2 t (Nat.le_refl _) hT6
        refine ⟨⟨3, by omega, by omega, ?_⟩, ⟨?_, Or.inl ?_⟩, ⟨?_, Or.inl ?_⟩, ⟨0, by omega, ?_⟩, 0, by omega, ?_, ?_, fun i hi => by omega⟩ <;> simp (disch := omega) [adI, adM, sA_s, sA_n, upd_s, upd_n]
        · rfl
        · rfl
        · rw [h33]; rfl
        · rfl
      · have h0 := hW.1 t (by omega)
        simp (disch := omega) [adI, adM, sA_s, sA_n, upd_n]
        simp at h0
        exact h0
    · have h0 := hW.2
      simp (disch := omega) [adI, adM, sA_s, sA_n, upd_n]
      simp at h0
      exact h0
  · obtain ⟨⟨l, l1, l2, l3⟩, h33⟩ := hY
    refine ⟨⟨l, by omega, ?_, fun t ht => ?_⟩, fun t h1 h2 => ?_⟩
    · simp (disch := omega) [adI, sA_n]; exact l2
    · by_cases h : t = T
      · subst h
        rw [if_neg (by omega)]
        simp (disch := omega) [adM, sA_s, sA_n, upd_s]
      · have h0 := l3 t (by omega)
        simp (disch := omega) [adI, adM, sA_s, sA_n, upd_n]
        exact h0
    · simp (disch := omega) [adI, sA_n]
      exact h33 t (by omega) h2
  · exact rI_c hI (Nat.le_refl _) (by omega) (by simp (disch := omega) [adI, sA_n]) (by simp (disch := omega) [adM, sA_s, sA_n, upd_n])
  · exact rC_c hC (Nat.le_refl _) (by omega) (by simp (disch := omega) [adI, adM, sA_s, sA_n, upd_n])
  · exact rTa_c hTa (by simp (disch := omega) [adI, adM, sA_s, sA_n, upd_n])
  · exact rA_c hA (by simp (disch := omega) [adI, adM, sA_s, sA_n, upd_n])
  · exact rS_c hS (by simp (disch := omega) [adI, adM, sA_n, sA_2]) (fun d hd => by simp (disch := omega) [adI, sA_n, sA_2])
theorem op_thing {P T N : Nat} {Ma Mb : mm} (R : RC P T N Ma Mb) (a b : Int32) : ∃ v Ma' Mb' T', X10_thing a b Ma = some (v, Ma') ∧ X11_thing a b Mb = some (v, Mb') ∧ T ≤ T' ∧ RC P T' N Ma' Mb' := by
  obtain ⟨f1, f2, f3, f4, f5, f6, f7, f8, f9⟩ := id R.1
  rw [t_thing f1 f2 f3 f4, u_thing f1 f2 f5 f6]
  split
  · next hv =>
    split
    · exact ⟨_, _, _, T, rfl, rfl, Nat.le_refl _, R⟩
    · next h6 =>
      obtain ⟨o, o1, o2⟩ := q_ex (n := P) hv.1.1 hv.1.2 (by omega)
      obtain ⟨x, x1, x2, ex⟩ := (q_rng (b / 100) 0 99 (by omega)).resolve_left (fun q => q hv.2.1)
      obtain ⟨y, y1, y2, ey⟩ := (q_rng (b - b / 100 * 100) 0 99 (by omega)).resolve_left (fun q => q hv.2.2)
      rw [ey, ex, o2]
      exact ⟨_, _, _, T + 1, rfl, rfl, by omega, rc_adds R (by omega) o1 x2 y2⟩
  · exact ⟨_, _, _, T, rfl, rfl, Nat.le_refl _, R⟩
