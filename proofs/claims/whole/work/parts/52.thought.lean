/-! ===== what thinking leaves ===== -/
/-- but for what thinking works with, as before -/
def EqK (M M' : mm) : Prop := (∀ k, k ≠ 19 → k ≠ 20 → k ≠ 21 → M'.1 k = M.1 k) ∧ (∀ j, j ≠ 8 → j ≠ 9 → M'.1 21 j = M.1 21 j) ∧ (∀ k, k ≠ 21 → k ≠ 22 → k ≠ 23 → k ≠ 24 → k ≠ 25 → M'.2.1 k = M.2.1 k) ∧ M'.2.2 0 = M.2.2 0
theorem EqK_r (M : mm) : EqK M M := ⟨fun _ _ _ _ => rfl, fun _ _ _ => rfl, fun _ _ _ _ _ _ => rfl, rfl⟩
theorem EqK_t {M M' M'' : mm} (h : EqK M M') (h2 : EqK M' M'') : EqK M M'' := ⟨fun k a b c => (h2.1 k a b c).trans (h.1 k a b c), fun j a b => (h2.2.1 j a b).trans (h.2.1 j a b), fun k a b c d e => (h2.2.2.1 k a b c d e).trans (h.2.2.1 k a b c d e), h2.2.2.2.trans h.2.2.2⟩
theorem EqK_M {M M' : mm} (hR : RefOK M) (h : EqM M M') : EqK M M' := by
  refine ⟨fun k a b _ => h.2.1 k a b, fun j _ _ => by rw [h.2.1 21 (by decide) (by decide)], fun k a b c d e => h.2.2 k d e ?_, by rw [h.1]⟩
  rcases hR with ⟨q, -⟩ | ⟨q, -⟩ <;> rw [q] <;> assumption
/-- what is left, what is mended -/
def lfV (c : cns) (l0 a0 : Nat) : Nat → Nat → Int64
  | 0, _ => 0
  | k + 1, s => gV c (vV c k) (pw12 k) s l0 a0
def mfV (c : cns) : Nat → Nat → Int64
  | 0, _ => 0
  | k + 1, s => mV c (vV c k) k s
def finM (c : cns) (l0 a0 y : Nat) (M : mm) : Prop := ∀ s, 1 ≤ s → s ≤ 3 → M.2.1 24 s = lfV c l0 a0 y s ∧ M.2.1 25 s = mfV c y s
theorem th_L36 {c : cns} {O : Option (List stp)} {t l0 a0 y : Nat} (hC : tC c O t l0 a0) (hy : y ≤ 6) (a2 : Int32) : ∀ n k (M : mm), k ≤ y → y - k < n → tS c O t l0 a0 M → M.2.1 21 10 = pw12 k → bH (vV c k) l0 a0 (y - k) M → (k = y → finM c l0 a0 y M) → ∃ M', X4_think_L36 (nI y) a2 n (nI (k + 1)) M = some ((), M') ∧ EqK M M' ∧ tS c O t l0 a0 M' ∧ finM c l0 a0 y M' := by
  intro n
  induction n with
  | zero => intro k M _ h; omega
  | succ n ih =>
    intro k M hk hn hS hu hB hf
    rw [X4_think_L36, i_ltP (by omega) (by omega)]
    by_cases h : y < k + 1
    · rw [if_pos h]
      exact ⟨M, rfl, EqK_r M, hS, hf (by omega)⟩
    · rw [if_neg h, n_sub (by omega), lt_s_]
      have hR := hS.2.2.2.2
      obtain ⟨gone, rfl⟩ : ∃ gone, y = k + 1 + gone := ⟨y - (k + 1), by omega⟩
      rw [show k + 1 + gone - (k + 1) = gone from by omega]
      rw [show k + 1 + gone - k = gone + 1 from by omega] at hB
      have E1 : EqK M (sA M 21 (upd (M.1 21) 9 (nI gone))) := ⟨fun k _ _ c => sA_n _ _ _ _ c, fun j _ b => by rw [sA_s, upd_n _ _ _ _ b], fun _ _ _ _ _ _ => rfl, rfl⟩
      have hS1 : tS c O t l0 a0 (sA M 21 (upd (M.1 21) 9 (nI gone))) := by
        obtain ⟨⟨h1, h2, h3, h4, h5, h6⟩, ⟨h7, h8, h9⟩, h10, h11, h12⟩ := hS
        refine ⟨⟨?_, ?_, ?_, ?_, ?_, ?_⟩, ⟨?_, ?_, ?_⟩, h10, h11, h12⟩
        all_goals try rw [sA_s, upd_n _ _ _ _ (by decide)]
        all_goals assumption
      have hg1 : (sA M 21 (upd (M.1 21) 9 (nI gone))).1 21 9 = nI gone := by rw [sA_s, upd_s]
      have hu1 : (sA M 21 (upd (M.1 21) 9 (nI gone))).2.1 21 10 = pw12 k := hu
      have hB1 : bH (vV c k) l0 a0 (gone + 1) (sA M 21 (upd (M.1 21) 9 (nI gone))) := hB
      generalize sA M 21 (upd (M.1 21) 9 (nI gone)) = Ma at E1 hS1 hg1 hu1 hB1 ⊢
      have hR1 := hS1.2.2.2.2
      obtain ⟨M1, q1, q2, q3, q4, q5, q6⟩ := th_L51 hC (show gone ≤ 5 by omega) (nI (k + 1 + gone)) a2 (nI (k + 1)) (fun x3 M =>
          X4_think_L116 (nI (k + 1 + gone)) a2 (fun x3 M =>
              bd (X4_turnPage M) fun u36 M37 =>
              (X4_think_L36 (nI (k + 1 + gone)) a2 n) (x3 + 1) M37) 10000 x3 0 M) 10000 3 Ma (by omega) (by omega) hS1 hu1 hg1 hB1 (fun s' h1 h2 => by omega)
      rw [show nI 3 = (3 : Int32) from rfl] at q1
      rw [q1]
      have hS2 := tS_M hS1 q2 q3
      have hR2 := hS2.2.2.2.2
      obtain ⟨M2, w1, w2, w3, w4, w5, w6⟩ := th_L116 hC (show gone ≤ 5 by omega) (nI (k + 1 + gone)) a2 (nI (k + 1)) (fun x3 M =>
              bd (X4_turnPage M) fun u36 M37 =>
              (X4_think_L36 (nI (k + 1 + gone)) a2 n) (x3 + 1) M37) 10000 0 M1 (by omega) (by omega) hS2 (by rw [u_M hR1 q2]; exact hu1) (by rw [q2.2.1 21 (by decide) (by decide)]; exact hg1) (bH_M hB1 hR1 q2) q4 (fun p' h => by omega) (fun _ h => by omega)
      rw [show nI 0 = (0 : Int32) from rfl] at w1
      rw [w1]
      have hS3 := tS_M hS2 w2 w3
      have hR3 := hS3.2.2.2.2
      obtain ⟨-, -, -, -, r5, -, -, -, -, r10, r11⟩ := ref_beh hR3
      have eT : X4_turnPage M2 = some ((), sL (sR (sR M2 1 (M2.2.2 2)) 2 (M2.2.2 1)) 21 (vp_updL (M2.2.1 21) 10 (M2.2.1 21 10 * 12))) := rfl
      rw [eT, bd_s, nI_1]
      have hu3 : M2.2.1 21 10 = pw12 k := by rw [u_M hR2 w2, u_M hR1 q2]; exact hu1
      have e21 : (sL (sR (sR M2 1 (M2.2.2 2)) 2 (M2.2.2 1)) 21 (vp_updL (M2.2.1 21) 10 (M2.2.1 21 10 * 12))).2.2 1 = M2.2.2 2 := rfl
      have e22 : (sL (sR (sR M2 1 (M2.2.2 2)) 2 (M2.2.2 1)) 21 (vp_updL (M2.2.1 21) 10 (M2.2.1 21 10 * 12))).2.2 2 = M2.2.2 1 := rfl
      have e1 : ∀ j, j ≠ 21 → (sL (sR (sR M2 1 (M2.2.2 2)) 2 (M2.2.2 1)) 21 (vp_updL (M2.2.1 21) 10 (M2.2.1 21 10 * 12))).2.1 j = M2.2.1 j := fun j hj => sL_n _ _ _ _ hj
      have eu : (sL (sR (sR M2 1 (M2.2.2 2)) 2 (M2.2.2 1)) 21 (vp_updL (M2.2.1 21) 10 (M2.2.1 21 10 * 12))).2.1 21 10 = pw12 (k + 1) := by
        rw [sL_s, updL_s, hu3, Int64.mul_comm]; rfl
      have E3 : EqK M2 (sL (sR (sR M2 1 (M2.2.2 2)) 2 (M2.2.2 1)) 21 (vp_updL (M2.2.1 21) 10 (M2.2.1 21 10 * 12))) := ⟨fun _ _ _ _ => rfl, fun _ _ _ => rfl, fun j a _ _ _ _ => e1 j a, rfl⟩
      have hS4 : tS c O t l0 a0 (sL (sR (sR M2 1 (M2.2.2 2)) 2 (M2.2.2 1)) 21 (vp_updL (M2.2.1 21) 10 (M2.2.1 21 10 * 12))) := by
        refine ⟨hS3.1, hS3.2.1, hS3.2.2.1, hS3.2.2.2.1, ?_⟩
        rcases hR3 with ⟨z1, z2⟩ | ⟨z1, z2⟩
        · exact Or.inr ⟨by rw [e21]; exact z2, by rw [e22]; exact z1⟩
        · exact Or.inl ⟨by rw [e21]; exact z2, by rw [e22]; exact z1⟩
      generalize sL (sR (sR M2 1 (M2.2.2 2)) 2 (M2.2.2 1)) 21 (vp_updL (M2.2.1 21) 10 (M2.2.1 21 10 * 12)) = M4 at e21 e22 e1 eu E3 hS4 ⊢
      obtain ⟨M', v1, v2, v3, v4⟩ := ih (k + 1) M4 (by omega) (by omega) hS4 eu (fun p hp h1 s s1 s3 => by
        rw [e22, e1 _ r10, w2.1]
        rw [show k + 1 + gone - (k + 1) = gone from by omega] at hp ⊢
        exact w5 p hp h1 s s1 s3) (fun hk2 s s1 s3 => by
        have hg0 : gone = 0 := by omega
        rw [e1 24 (by decide), e1 25 (by decide), w4, w6 hg0 s s1 s3, q4 s s1 s3, hg0]
        exact ⟨rfl, rfl⟩)
      exact ⟨M', v1, EqK_t E1 (EqK_t (EqK_M hR1 q2) (EqK_t (EqK_M hR2 w2) (EqK_t E3 v2))), v3, v4⟩
theorem w_fillL {k0 : Nat} (h1 : isA 1 k0 = true) (h2 : alN k0 ≤ 100) (v : Int64) : ∀ n i (M : mm), i ≤ alN k0 → alN k0 - i < n → J7_fill_d0a16_L6 k0 v n (nI i) (nI (alN k0)) M = some ((), sL M k0 (fun j => if i ≤ j ∧ j < alN k0 then v else M.2.1 k0 j)) := by
  intro n
  induction n with
  | zero => intro i M _ h; omega
  | succ n ih =>
    intro i M hi hn
    rw [J7_fill_d0a16_L6, i_ltP (by omega) (by omega)]
    by_cases h : i < alN k0
    · rw [if_pos h, h1, gd_t, n_inb h (by omega), gd_t, lt_s_, n_cl (by omega), nI_1, ih (i + 1) _ (by omega) (by omega), sL_sL]
      refine congrArg (fun z => some ((), sL M k0 z)) (funext fun j => ?_)
      rw [sL_s, updL_a]
      by_cases hj : j = i
      · subst hj
        rw [if_neg (by omega), if_pos rfl, if_pos (by omega)]
      · rw [if_neg hj]
        by_cases h3 : i + 1 ≤ j ∧ j < alN k0
        · rw [if_pos h3, if_pos (by omega)]
        · rw [if_neg h3, if_neg (by omega)]
    · rw [if_neg h]
      refine congrArg (fun z => some ((), z)) ?_
      refine Prod.ext rfl (Prod.ext (funext fun k => ?_) rfl)
      show M.2.1 k = if k = k0 then _ else M.2.1 k
      by_cases hk : k = k0
      · rw [if_pos hk, hk]
        funext j
        rw [if_neg (by omega)]
      · rw [if_neg hk]
theorem w_fillM {k0 : Nat} (h1 : isA 1 k0 = true) (h2 : alN k0 ≤ 100) (v : Int64) (M : mm) : J7_fill_d0a16 k0 v M = some ((), sL M k0 (fun j => if j < alN k0 then v else M.2.1 k0 j)) := by
  unfold J7_fill_d0a16
  have h := w_fillL h1 h2 v 10000 0 M (by omega) (by omega)
  rw [show nI 0 = (0 : Int32) from rfl] at h
  rw [h1, gd_t, show Int32.ofNat (alN k0) = nI (alN k0) from rfl, h]
  refine congrArg (fun z => some ((), sL M k0 z)) (funext fun j => ?_)
  by_cases h : j < alN k0
  · rw [if_pos ⟨by omega, h⟩, if_pos h]
  · rw [if_neg (by omega), if_neg h]
theorem w_think {c : cns} {O : Option (List stp)} {t l0 a0 y : Nat} (hC : tC c O t l0 a0) (hy : y ≤ 6) {M : mm} (hS : tS c O t l0 a0 (sA M 21 (upd (M.1 21) 8 (nI (cWy c))))) : ∃ M', X4_think (nI y) (nI (cWy c)) M = some ((), M') ∧ EqK M M' ∧ tS c O t l0 a0 M' ∧ finM c l0 a0 y M' := by
  unfold X4_think
  rw [lt_s_]
  have E1 : EqK M (sA M 21 (upd (M.1 21) 8 (nI (cWy c)))) := ⟨fun k _ _ c => sA_n _ _ _ _ c, fun j a _ => by rw [sA_s, upd_n _ _ _ _ a], fun _ _ _ _ _ _ => rfl, rfl⟩
  generalize sA M 21 (upd (M.1 21) 8 (nI (cWy c))) = M1 at hS E1 ⊢
  have hR := hS.2.2.2.2
  obtain ⟨r1, r2, -, -, r5, r6, r7, r8, r9, r10, r11⟩ := ref_beh hR
  rw [w_fillM r1 (by rw [r2]; omega), bd_s, w_fillM (by decide) (by decide), bd_s, w_fillM (by decide) (by decide), bd_s, lt_s_]
  have hk : M1.2.2 2 = 22 ∨ M1.2.2 2 = 23 := by rcases hR with ⟨-, q⟩ | ⟨-, q⟩ <;> simp [q]
  have e24 : alN 24 = 4 := by decide
  have e25 : alN 25 = 4 := by decide
  rw [r2, e24, e25]
  generalize hM2 : sL (sL (sL (sL M1 (M1.2.2 2) (fun j => if j < 56 then 0 else M1.2.1 (M1.2.2 2) j)) 24 _) 25 _) 21 _ = M2
  have f22 : M2.2.2 = M1.2.2 := by rw [← hM2]; rfl
  have f1 : M2.1 = M1.1 := by rw [← hM2]; rfl
  have fB : ∀ j, j < 56 → M2.2.1 (M1.2.2 2) j = 0 := by
    intro j hj
    rw [← hM2, sL_n _ _ _ _ r11, sL_n _ _ _ _ r9, sL_n _ _ _ _ r8, sL_s, if_pos hj]
  have f24 : ∀ j, j < 4 → M2.2.1 24 j = 0 := by
    intro j hj
    rw [← hM2, sL_n _ _ _ _ (by decide), sL_n _ _ _ _ (by decide), sL_s, if_pos hj]
  have f25 : ∀ j, j < 4 → M2.2.1 25 j = 0 := by
    intro j hj
    rw [← hM2, sL_n _ _ _ _ (by decide), sL_s, if_pos hj]
  have fu : M2.2.1 21 10 = 1 := by rw [← hM2, sL_s, updL_s]
  have fk : ∀ k, k ≠ 21 → k ≠ 22 → k ≠ 23 → k ≠ 24 → k ≠ 25 → M2.2.1 k = M1.2.1 k := by
    intro k a b c d e
    rw [← hM2, sL_n _ _ _ _ a, sL_n _ _ _ _ e, sL_n _ _ _ _ d, sL_n _ _ _ _ (by rcases hk with q | q <;> rw [q] <;> assumption)]
  have E2 : EqK M1 M2 := ⟨fun _ _ _ _ => by rw [f1], fun _ _ _ => by rw [f1], fk, by rw [f22]⟩
  have hS2 : tS c O t l0 a0 M2 := by
    have hA := hS.2.2.1
    have hF := hS.2.2.2.1
    refine ⟨by rw [f1]; exact hS.1, by rw [f1]; exact hS.2.1, ?_, ?_, ?_⟩
    · unfold lawA at hA ⊢; rw [f1]; exact hA
    · unfold rFo at hF ⊢; rw [f1]; exact hF
    · unfold RefOK at hR ⊢; rw [f22]; exact hR
  obtain ⟨M', v1, v2, v3, v4⟩ := th_L36 hC hy (nI (cWy c)) 10000 0 M2 (by omega) (by omega) hS2 fu (fun p hp h1 s s1 s3 => by
    rw [f22, fB _ (by omega)]; rfl) (fun h0 s s1 s3 => by
    rw [f24 s (by omega), f25 s (by omega), ← h0]
    exact ⟨rfl, rfl⟩)
  exact ⟨M', v1, EqK_t E1 (EqK_t E2 v2), v3, v4⟩
/-- the worth, the mending, out of what thinking leaves -/
theorem fin_V (c : cns) (l0 a0 y s : Nat) : (if bV c s (mfV c y s) (lfV c l0 a0 y s) = true then mfV c y s else lfV c l0 a0 y s) = vV c y s l0 a0 := by
  cases y with
  | zero =>
    show (if _ then (0 : Int64) else 0) = 0
    split <;> rfl
  | succ k => rfl
theorem fin_B (c : cns) (l0 a0 y s : Nat) (hw : cWy c = 4) : bV c s (mfV c y s) (lfV c l0 a0 y s) = isB c y s l0 a0 := by
  cases y with
  | zero =>
    unfold bV
    rw [if_pos hw]
    rfl
  | succ k => rfl
