/-! ===== the calls smith, debts ===== -/
theorem l64_12 {w : Nat} (hw : w ≤ 12) : (12 - nI w).toInt64 = 12 - cL w := by
  unfold cL
  rw [show (12 : Int32) = nI 12 from rfl, n_sub hw, nI_l (by omega), nI_l (by omega), show (12 : Int64) = lN 12 from rfl, lN_sub hw]
def ag9 (a i : Nat) : Nat := if 99 < a + i then 99 else a + i
theorem ag9_le (a i : Nat) : ag9 a i ≤ 99 := by
  unfold ag9
  split <;> omega
theorem ag9_s (a i : Nat) : oldr (ag9 a i) = ag9 a (i + 1) := by
  unfold oldr ag9
  repeat' split
  all_goals omega
theorem w_L42 {c : cns} {O : Option (List stp)} {t a y bi F : Nat} (ht : t < 6) (ha : a ≤ 99) (hy : y ≤ 6) (hc : cW c = fun s l a => wn O s t a l) (hcF : cF c = F) (hF9 : F ≤ 9) (a2 : Int32) : ∀ k i one two three sum (M : mm), i ≤ y → y - i < k → lawA O M → rFo O M → M.1 1 2 = nI F → M.1 7 t = nI bi → ∃ M', X4_risk_L42 (nI t) a2 (nI a) (nI y) k one two three sum (nI i) M = some (sum * pw12 (y - i) + cL bi * (one * pY c (y - i) 1 (ag9 a i) + two * pY c (y - i) 2 (ag9 a i) + three * pY c (y - i) 3 (ag9 a i)), M') ∧ EqX M M' ∧ rFo O M' := by
  intro k
  induction k with
  | zero => intro i one two three sum M _ h; omega
  | succ k ih =>
    intro i one two three sum M hi hk hA hFo hF hb
    rw [X4_risk_L42, i_ltP (by omega) (by omega)]
    by_cases h : i < y
    · have e : (if 99 < nI a + nI i then (99 : Int32) else nI a + nI i) = nI (ag9 a i) := by
        rw [n_add, show (99 : Int32) = nI 99 from rfl, i_ltP (by omega) (by omega)]
        unfold ag9
        split <;> rfl
      have h9 := ag9_le a i
      obtain ⟨M1, e1, x1, y1⟩ := w_number (s := 1) (a := ag9 a i) (l := 1) hA hFo ht (by omega) (by omega) h9 (by omega)
      have la1 := lawA_X hA ⟨x1.2 16 (by decide) (by decide), x1.2 17 (by decide) (by decide), x1.2 18 (by decide) (by decide)⟩
      obtain ⟨M2, e2, x2, y2⟩ := w_number (s := 2) (a := ag9 a i) (l := 1) la1 y1 ht (by omega) (by omega) h9 (by omega)
      have la2 := lawA_X la1 ⟨x2.2 16 (by decide) (by decide), x2.2 17 (by decide) (by decide), x2.2 18 (by decide) (by decide)⟩
      obtain ⟨M3, e3, x3, y3⟩ := w_number (s := 3) (a := ag9 a i) (l := 1) la2 y2 ht (by omega) (by omega) h9 (by omega)
      have la3 := lawA_X la2 ⟨x3.2 16 (by decide) (by decide), x3.2 17 (by decide) (by decide), x3.2 18 (by decide) (by decide)⟩
      have X := EqX_t x1 (EqX_t x2 x3)
      have f3 : M3.1 1 2 = nI F := by rw [X.2 1 (by decide) (by decide)]; exact hF
      have b3 : M3.1 7 t = nI bi := by rw [X.2 7 (by decide) (by decide)]; exact hb
      rw [show nI 1 = (1 : Int32) from rfl] at e1 e2 e3
      rw [show nI 2 = (2 : Int32) from rfl] at e2
      rw [show nI 3 = (3 : Int32) from rfl] at e3
      rw [if_pos h, e, e1, bd_s, e2, bd_s, e3, bd_s, w_isFgtA hF9 h9 f3, bd_s, i_P (bI_0 _)]
      obtain ⟨k0, hk0⟩ : ∃ k0, y - i = k0 + 1 := ⟨y - i - 1, by omega⟩
      have hk1 : y - (i + 1) = k0 := by omega
      have W : ∀ s, cW c s 1 (ag9 a i) = wn O s t (ag9 a i) 1 := fun s => by rw [hc]
      have p1 : pY c (k0 + 1) 1 (ag9 a i) = cL (wn O 1 t (ag9 a i) 1) * (if fgt F (ag9 a i) = true then 0 else pw12 k0) + (12 - cL (wn O 1 t (ag9 a i) 1)) * pY c k0 1 (ag9 a (i + 1)) := by
        rw [pY, W, hcF, if_neg (by omega), l64_12 (wn_le _ _ _ _ _), ag9_s]
      have p2 : pY c (k0 + 1) 2 (ag9 a i) = cL (wn O 2 t (ag9 a i) 1) * pY c k0 1 (ag9 a (i + 1)) + (12 - cL (wn O 2 t (ag9 a i) 1)) * pY c k0 2 (ag9 a (i + 1)) := by
        rw [pY, W, if_pos (by omega), l64_12 (wn_le _ _ _ _ _), ag9_s]
      have p3 : pY c (k0 + 1) 3 (ag9 a i) = cL (wn O 3 t (ag9 a i) 1) * pY c k0 2 (ag9 a (i + 1)) + (12 - cL (wn O 3 t (ag9 a i) 1)) * pY c k0 3 (ag9 a (i + 1)) := by
        rw [pY, W, if_pos (by omega), l64_12 (wn_le _ _ _ _ _), ag9_s]
      rw [hk0, p1, p2, p3, show pw12 (k0 + 1) = 12 * pw12 k0 from rfl]
      have fin : ∀ s1, s1 = one * cL (wn O 1 t (ag9 a i) 1) * (if fgt F (ag9 a i) = true then 0 else cL bi) → ∃ M', X4_risk_b149 (nI t) a2 (nI a) (nI y) (X4_risk_L42 (nI t) a2 (nI a) (nI y) k) one two three (nI i) (one * cL (wn O 1 t (ag9 a i) 1)) (two * cL (wn O 2 t (ag9 a i) 1)) (three * cL (wn O 3 t (ag9 a i) 1)) (sum * 12) s1 M3 = some (sum * (12 * pw12 k0) + cL bi * (one * (cL (wn O 1 t (ag9 a i) 1) * (if fgt F (ag9 a i) = true then 0 else pw12 k0) + (12 - cL (wn O 1 t (ag9 a i) 1)) * pY c k0 1 (ag9 a (i + 1))) + two * (cL (wn O 2 t (ag9 a i) 1) * pY c k0 1 (ag9 a (i + 1)) + (12 - cL (wn O 2 t (ag9 a i) 1)) * pY c k0 2 (ag9 a (i + 1))) + three * (cL (wn O 3 t (ag9 a i) 1) * pY c k0 2 (ag9 a (i + 1)) + (12 - cL (wn O 3 t (ag9 a i) 1)) * pY c k0 3 (ag9 a (i + 1)))), M') ∧ EqX M M' ∧ rFo O M' := by
        intro s1 hs1
        unfold X4_risk_b149
        rw [nI_1]
        obtain ⟨M', q1, q2, q3⟩ := ih (i + 1) (one * 12 - one * cL (wn O 1 t (ag9 a i) 1) + two * cL (wn O 2 t (ag9 a i) 1)) (two * 12 - two * cL (wn O 2 t (ag9 a i) 1) + three * cL (wn O 3 t (ag9 a i) 1)) (three * 12 - three * cL (wn O 3 t (ag9 a i) 1)) (sum * 12 + s1) M3 (by omega) (by omega) la3 y3 f3 b3
        rw [q1, hk1, hs1]
        refine ⟨M', ?_, EqX_t X q2, q3⟩
        refine congrArg (fun z => some (z, M')) ?_
        generalize cL (wn O 1 t (ag9 a i) 1) = A1
        generalize cL (wn O 2 t (ag9 a i) 1) = A2
        generalize cL (wn O 3 t (ag9 a i) 1) = A3
        generalize pY c k0 1 (ag9 a (i + 1)) = B1
        generalize pY c k0 2 (ag9 a (i + 1)) = B2
        generalize pY c k0 3 (ag9 a (i + 1)) = B3
        generalize pw12 k0 = p
        generalize cL bi = b
        cases fgt F (ag9 a i) with
        | true => simp only [if_true]; grind
        | false => simp only [Bool.false_eq_true, if_false]; grind
      cases hf : fgt F (ag9 a i) with
      | true =>
        rw [hf] at fin
        rw [if_neg (fun q => nomatch q)]
        exact fin 0 (by rw [if_pos rfl, Int64.mul_zero])
      | false =>
        rw [hf] at fin
        rw [if_pos rfl, n_inb ht (by omega), gd_t, n_cl (by omega), b3]
        exact fin _ (by rw [if_neg (fun q => nomatch q)]; rfl)
    · rw [if_neg h]
      obtain rfl : i = y := by omega
      refine ⟨M, ?_, EqX_r M, hFo⟩
      rw [Nat.sub_self]
      refine congrArg (fun z => some (z, M)) ?_
      show sum = sum * 1 + cL bi * (one * 0 + two * 0 + three * 0)
      grind
theorem w_risk {c : cns} {O : Option (List stp)} {t s a y bi F : Nat} (ht : t < 6) (hs1 : 1 ≤ s) (hs3 : s ≤ 3) (ha : a ≤ 99) (hy : y ≤ 6) (hc : cW c = fun s l a => wn O s t a l) (hcF : cF c = F) (hF9 : F ≤ 9) {M : mm} (hA : lawA O M) (hFo : rFo O M) (hF : M.1 1 2 = nI F) (hb : M.1 7 t = nI bi) : ∃ M', X4_risk (nI t) (nI s) (nI a) (nI y) M = some (cL bi * pY c y s a, M') ∧ EqX M M' ∧ rFo O M' := by
  unfold X4_risk X4_risk_b10 X4_risk_b22 X4_risk_b34
  obtain ⟨M', q1, q2, q3⟩ := w_L42 (c := c) ht ha hy hc hcF hF9 (nI s) 10000 0 (if nI s = 1 then 1 else 0) (if nI s = 2 then 1 else 0) (if nI s = 3 then 1 else 0) 0 M (by omega) (by omega) hA hFo hF hb
  rw [show nI 0 = (0 : Int32) from rfl] at q1
  refine ⟨M', ?_, q2, q3⟩
  rw [q1, Nat.sub_zero]
  refine congrArg (fun z => some (z, M')) ?_
  have e0 : ag9 a 0 = a := by unfold ag9; rw [if_neg (by omega)]; rfl
  rw [e0, show (1 : Int32) = nI 1 from rfl, show (2 : Int32) = nI 2 from rfl, show (3 : Int32) = nI 3 from rfl, i_eqP (by omega) (by omega), i_eqP (by omega) (by omega), i_eqP (by omega) (by omega)]
  obtain rfl | rfl | rfl : s = 1 ∨ s = 2 ∨ s = 3 := by omega
  · simp only [if_true, show ¬ ((1 : Nat) = 2) by omega, show ¬ ((1 : Nat) = 3) by omega, if_false]
    grind
  · simp only [if_true, show ¬ ((2 : Nat) = 1) by omega, show ¬ ((2 : Nat) = 3) by omega, if_false]
    grind
  · simp only [if_true, show ¬ ((3 : Nat) = 1) by omega, show ¬ ((3 : Nat) = 2) by omega, if_false]
    grind
