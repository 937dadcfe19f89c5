/-! ===== the first calls, over the whole relation ===== -/
theorem RR_lift {P T N P' T' : Nat} {O : Option (List stp)} {Ma Mb Ma' Mb' : mm} (R : RR P T N O Ma Mb) (R' : RC P' T' N Ma' Mb') (hT : T ≤ T') (e2 : Ma'.2 = Ma.2) (e : ∀ k, 16 ≤ k → k ≤ 20 → Ma'.1 k = Ma.1 k) (e4 : Ma'.1 1 4 = Ma.1 1 4) (ec : ∀ F t, t < T → cNow Ma' O F t = cNow Ma O F t) (eb : Mb'.1 82 26 = Mb.1 82 26 ∧ Mb'.1 99 = Mb.1 99) : RR P' T' N O Ma' Mb' := by
  obtain ⟨-, hL, hB, hM⟩ := R
  refine ⟨R', ⟨lawA_X hL.1 ⟨e 16 (by omega) (by omega), e 17 (by omega) (by omega), e 18 (by omega) (by omega)⟩, fun t s a l k1 k2 k3 k4 k5 => ?_, ?_⟩, lawB_N hB eb, rM_c hM hT e4 (by rw [e2]) ec⟩
  · rw [e 20 (by omega) (by omega)]
    exact hL.2.1 t s a l k1 k2 k3 k4 k5
  · have := hL.2.2
    unfold RefOK at this ⊢
    rw [e2]
    exact this
theorem rr_person {P T N : Nat} {O : Option (List stp)} {Ma Mb : mm} (R : RR P T N O Ma Mb) (a b : Int32) : ∃ v Ma' Mb' P', X10_person a b Ma = some (v, Ma') ∧ X11_person a b Mb = some (v, Mb') ∧ RR P' T N O Ma' Mb' := by
  obtain ⟨v, Ma', Mb', P', h1, h2, h3, h4⟩ := op_person R.1 a b
  obtain ⟨hF, -, hT, -⟩ := id R.1
  obtain ⟨f1, f2, f3, f4, f5, f6, -⟩ := id hF
  have pa : Ma'.2 = Ma.2 ∧ (∀ k, 4 ≤ k → Ma'.1 k = Ma.1 k) ∧ Ma'.1 1 4 = Ma.1 1 4 ∧ ∀ j, j ≠ P → Ma'.1 2 j = Ma.1 2 j ∧ Ma'.1 3 j = Ma.1 3 j := by
    rw [t_person f1 f3] at h1
    split at h1
    · split at h1 <;> cases h1
      · exact ⟨rfl, fun _ _ => rfl, rfl, fun _ _ => ⟨rfl, rfl⟩⟩
      · refine ⟨rfl, fun k hk => ?_, ?_, fun j hj => ⟨?_, ?_⟩⟩ <;> simp (disch := omega) only [sA_s, sA_n, upd_n]
    · cases h1
      exact ⟨rfl, fun _ _ => rfl, rfl, fun _ _ => ⟨rfl, rfl⟩⟩
  have pb : Mb'.1 82 26 = Mb.1 82 26 ∧ Mb'.1 99 = Mb.1 99 := by
    rw [u_person f1 f5] at h2
    split at h2
    · split at h2 <;> cases h2
      · exact ⟨rfl, rfl⟩
      · constructor <;> simp (disch := omega) only [sA_s, sA_n, upd_n]
    · cases h2
      exact ⟨rfl, rfl⟩
  refine ⟨v, Ma', Mb', P', h1, h2, RR_lift R h4 (Nat.le_refl _) pa.1 (fun k h _ => pa.2.1 k (by omega)) pa.2.2.1 (fun F t ht => ?_) pb⟩
  obtain ⟨⟨o, o1, o2, -⟩, -⟩ := hT t ht
  unfold cNow
  rw [pa.2.1 5 (by omega), pa.2.1 6 (by omega), pa.2.1 7 (by omega), o2, tn_nI (by omega), (pa.2.2.2 o (by omega)).1, (pa.2.2.2 o (by omega)).2]
theorem ad_lift {P T N : Nat} {O : Option (List stp)} {Ma Mb : mm} (R : RR P T N O Ma Mb) (hT6 : T < 6) {o b c : Nat} (ho : o < P) (hb : b ≤ 99) (hc : c ≤ 99) : RR P (T + 1) N O (adI T (nI o) (nI b) (nI c) Ma) (adM T (nI o) (nI b) (nI c) Mb) := by
  refine RR_lift R (rc_adds R.1 hT6 ho hb hc) (by omega) rfl (fun k k1 k2 => ?_) ?_ (fun F t ht => ?_) ⟨?_, ?_⟩
  · simp (disch := omega) only [adI, sA_n]
  · simp (disch := omega) only [adI, sA_s, sA_n, upd_n]
  · unfold cNow
    simp (disch := omega) only [adI, sA_s, sA_n, upd_n]
  · simp (disch := omega) only [adM, sA_s, sA_n, upd_n]
  · simp (disch := omega) only [adM, sA_s, sA_n, upd_n]
theorem rr_thing {P T N : Nat} {O : Option (List stp)} {Ma Mb : mm} (R : RR P T N O Ma Mb) (a b : Int32) : ∃ v Ma' Mb' T', X10_thing a b Ma = some (v, Ma') ∧ X11_thing a b Mb = some (v, Mb') ∧ RR P T' N O Ma' Mb' := by
  obtain ⟨f1, f2, f3, f4, f5, f6, f7, f8, f9⟩ := id R.1.1
  rw [t_thing f1 f2 f3 f4, u_thing f1 f2 f5 f6]
  split
  · next hv =>
    split
    · exact ⟨_, _, _, T, rfl, rfl, R⟩
    · next h6 =>
      obtain ⟨o, o1, o2⟩ := q_ex (n := P) hv.1.1 hv.1.2 (by omega)
      obtain ⟨x, x1, x2, ex⟩ := (q_rng (b / 100) 0 99 (by omega)).resolve_left (fun q => q hv.2.1)
      obtain ⟨y, y1, y2, ey⟩ := (q_rng (b - b / 100 * 100) 0 99 (by omega)).resolve_left (fun q => q hv.2.2)
      rw [ey, ex, o2]
      exact ⟨_, _, _, T + 1, rfl, rfl, ad_lift R (by omega) o1 x2 y2⟩
  · exact ⟨_, _, _, T, rfl, rfl, R⟩
theorem rr_feed {P T N : Nat} {O : Option (List stp)} {Ma Mb : mm} (R : RR P T N O Ma Mb) (a : Int32) : ∃ v Ma' Mb', X10_feed a Ma = some (v, Ma') ∧ X11_feed a Mb = some (v, Mb') ∧ RR P T N O Ma' Mb' := by
  obtain ⟨v, Ma', Mb', h1, h2, h4⟩ := op_feed R.1 a
  obtain ⟨hF, -, -, -, -, -, -, hTa, -, -⟩ := id R.1
  obtain ⟨n, n1, n2, n3, n4⟩ := id hTa
  have pa : Ma'.2 = Ma.2 ∧ ∀ k, k ≠ 9 → k ≠ 10 → Ma'.1 k = Ma.1 k := by
    rw [t_feed n1 n2] at h1
    split at h1
    · split at h1 <;> cases h1
      · exact ⟨rfl, fun _ _ _ => rfl⟩
      · refine ⟨rfl, fun k hk hk2 => ?_⟩; simp (disch := omega) only [sA_n]
    · cases h1
      exact ⟨rfl, fun _ _ _ => rfl⟩
  have pb : Mb'.1 82 26 = Mb.1 82 26 ∧ Mb'.1 99 = Mb.1 99 := by
    rw [u_feed n1 n3] at h2
    split at h2
    · split at h2 <;> cases h2
      · exact ⟨rfl, rfl⟩
      · constructor <;> simp (disch := omega) only [sA_s, sA_n, upd_n]
    · cases h2
      exact ⟨rfl, rfl⟩
  have c := fun k h => pa.2 k h
  exact ⟨v, Ma', Mb', h1, h2, RR_lift R h4 (Nat.le_refl _) pa.1 (fun k h _ => pa.2 k (by omega) (by omega)) (by rw [pa.2 1 (by omega) (by omega)]) (fun F t _ => cNow_c O F t (pa.2 2 (by omega) (by omega)) (pa.2 3 (by omega) (by omega)) (pa.2 5 (by omega) (by omega)) (pa.2 6 (by omega) (by omega)) (pa.2 7 (by omega) (by omega))) pb⟩
theorem rr_rule {P T N : Nat} {O : Option (List stp)} {Ma Mb : mm} (R : RR P T N O Ma Mb) (a b : Int32) : ∃ v Ma' Mb', X10_rule a b Ma = some (v, Ma') ∧ X11_rule a b Mb = some (v, Mb') ∧ RR P T N O Ma' Mb' := by
  obtain ⟨v, Ma', Mb', h1, h2, h4⟩ := op_rule R.1 a b
  have pa : Ma'.2 = Ma.2 ∧ (∀ k, k ≠ 1 → Ma'.1 k = Ma.1 k) ∧ Ma'.1 1 4 = Ma.1 1 4 := by
    rw [t_rule] at h1
    by_cases hc : (0 ≤ a.toInt ∧ a.toInt ≤ 1) ∧ 0 ≤ b.toInt ∧ b.toInt ≤ (if a = 0 then 9 else 1)
    · rw [if_pos hc] at h1
      injection h1 with h1
      injection h1 with _ h1
      subst h1
      refine ⟨rfl, fun k hk => ?_, ?_⟩
      · simp (disch := omega) only [sA_n]
      · rw [sA_s, upd_n _ _ _ _ (by split <;> omega)]
    · rw [if_neg hc] at h1
      cases h1
      exact ⟨rfl, fun _ _ => rfl, rfl⟩
  have pb : Mb'.1 82 26 = Mb.1 82 26 ∧ Mb'.1 99 = Mb.1 99 := by
    rw [u_rule] at h2
    by_cases hc : (0 ≤ a.toInt ∧ a.toInt ≤ 1) ∧ 0 ≤ b.toInt ∧ b.toInt ≤ (if a = 0 then 9 else 1)
    · rw [if_pos hc] at h2
      injection h2 with h2
      injection h2 with _ h2
      subst h2
      constructor
      · rw [sA_s, upd_n _ _ _ _ (by split <;> omega)]
      · simp (disch := omega) only [sA_n]
    · rw [if_neg hc] at h2
      cases h2
      exact ⟨rfl, rfl⟩
  exact ⟨v, Ma', Mb', h1, h2, RR_lift R h4 (Nat.le_refl _) pa.1 (fun k h _ => pa.2.1 k (by omega)) pa.2.2 (fun F t _ => cNow_c O F t (pa.2.1 2 (by omega)) (pa.2.1 3 (by omega)) (pa.2.1 5 (by omega)) (pa.2.1 6 (by omega)) (pa.2.1 7 (by omega))) pb⟩
