/-! ===== the parts hang on their cells alone ===== -/
theorem sA_sA (M : mm) (k : Nat) (f g : Nat → Int32) : sA (sA M k f) k g = sA M k g := by
  unfold sA
  simp only [Prod.mk.injEq, and_true]
  funext j
  by_cases h : j = k <;> simp [h]
theorem sL_sL (M : mm) (k : Nat) (f g : Nat → Int64) : sL (sL M k f) k g = sL M k g := by
  unfold sL
  simp only [Prod.mk.injEq, and_true, true_and]
  funext j
  by_cases h : j = k <;> simp [h]
theorem rWho_m {P P' : Nat} {x y : Int32} (h : rWho P x y) (hp : P ≤ P') : rWho P' x y := ⟨h.1, h.2.imp id fun ⟨p, h1, h2⟩ => ⟨p, by omega, h2⟩⟩
theorem rF_c {P T N N' : Nat} {Ma Mb Ma' Mb' : mm} (h : rF P T N Ma Mb) (hn : N ≤ N') (e : Ma'.1 1 0 = Ma.1 1 0 ∧ Ma'.1 1 1 = Ma.1 1 1 ∧ Ma'.1 1 2 = Ma.1 1 2 ∧ Ma'.1 1 3 = Ma.1 1 3 ∧ Ma'.1 1 4 = Ma.1 1 4 ∧ Mb'.1 82 6 = Mb.1 82 6 ∧ Mb'.1 82 7 = Mb.1 82 7 ∧ Mb'.1 82 19 = Mb.1 82 19 ∧ Mb'.1 82 20 = Mb.1 82 20) : rF P T N' Ma' Mb' := by
  obtain ⟨e1, e2, e3, e4, e5, e6, e7, e8, e9⟩ := e
  obtain ⟨f1, f2, f3, f4, f5, f6, f7, f8, V, v1, v2, v3⟩ := h
  exact ⟨f1, f2, by rw [e1]; exact f3, by rw [e2]; exact f4, by rw [e6]; exact f5, by rw [e7]; exact f6, by rw [e3, e8]; exact f7, by rw [e4, e9]; exact f8, V, v1, by omega, by rw [e5]; exact v3⟩
theorem rP_c {P : Nat} {Ma Mb Ma' Mb' : mm} (h : rP P Ma Mb) (e : Ma'.1 2 = Ma.1 2 ∧ Ma'.1 3 = Ma.1 3 ∧ Ma'.1 4 = Ma.1 4) (hP : P ≤ 5) (e2 : ∀ i, i < 15 → Mb'.1 83 i = Mb.1 83 i) : rP P Ma' Mb' := by
  refine ⟨fun p h1 h2 => by rw [e.2.2]; exact h.1 p h1 h2, fun p hp => ?_⟩
  rw [e.1, e.2.1, e.2.2, e2 p (by omega), e2 (5 + p) (by omega), e2 (10 + p) (by omega)]
  exact h.2 p hp
theorem rT_c {P P' T : Nat} {Ma Mb Ma' Mb' : mm} (h : rT P T Ma Mb) (hp : P ≤ P') (e : Ma'.1 5 = Ma.1 5 ∧ Ma'.1 6 = Ma.1 6 ∧ Ma'.1 7 = Ma.1 7 ∧ Ma'.1 8 = Ma.1 8 ∧ Mb'.1 90 = Mb.1 90) (e2 : ∀ i, 15 ≤ i → Mb'.1 83 i = Mb.1 83 i) : rT P' T Ma' Mb' := by
  intro t ht
  obtain ⟨⟨o, o1, o2⟩, h2⟩ := h t ht
  rw [e.1, e.2.1, e.2.2.1, e.2.2.2.1, e.2.2.2.2, e2 (15 + t) (by omega), e2 (21 + t) (by omega), e2 (27 + t) (by omega)]
  exact ⟨⟨o, by omega, o2⟩, h2⟩
theorem rW_c {w P P' T : Nat} {Ma Mb Ma' Mb' : mm} (h : rW w P T Ma Mb) (hp : P ≤ P') (ea : Ma'.1 (w + 1) = Ma.1 (w + 1) ∧ Ma'.1 (w + 2) = Ma.1 (w + 2) ∧ Ma'.1 (w + 3) = Ma.1 (w + 3) ∧ Ma'.1 (w + 4) = Ma.1 (w + 4) ∧ Ma'.1 (w + 5) = Ma.1 (w + 5) ∧ Ma'.1 (w + 6) = Ma.1 (w + 6) ∧ Ma'.1 (w + 7) = Ma.1 (w + 7) ∧ Ma'.1 (w + 8) = Ma.1 (w + 8) ∧ Ma'.1 (w + 9) = Ma.1 (w + 9) ∧ Ma'.1 w 0 = Ma.1 w 0 ∧ Ma'.1 w 1 = Ma.1 w 1)
    (eb : Mb'.1 87 = Mb.1 87 ∧ Mb'.1 88 = Mb.1 88 ∧ Mb'.1 89 = Mb.1 89 ∧ Mb'.1 91 = Mb.1 91 ∧ Mb'.1 92 = Mb.1 92 ∧ Mb'.1 93 = Mb.1 93 ∧ Mb'.1 94 = Mb.1 94 ∧ Mb'.1 95 = Mb.1 95 ∧ Mb'.1 96 = Mb.1 96 ∧ Mb'.1 82 21 = Mb.1 82 21 ∧ Mb'.1 82 22 = Mb.1 82 22) : rW w P' T Ma' Mb' := by
  obtain ⟨a1, a2, a3, a4, a5, a6, a7, a8, a9, a10, a11⟩ := ea
  obtain ⟨b1, b2, b3, b4, b5, b6, b7, b8, b9, b10, b11⟩ := eb
  unfold rW
  rw [a1, a2, a3, a4, a5, a6, a7, a8, a9, a10, a11, b1, b2, b3, b4, b5, b6, b7, b8, b9, b10, b11]
  exact ⟨fun t ht => by obtain ⟨h1, h2, h3, h4⟩ := h.1 t ht; exact ⟨h1, rWho_m h2 hp, rWho_m h3 hp, h4⟩, h.2⟩
theorem rY_c {T : Nat} {Ma Mb Ma' Mb' : mm} (h : rY T Ma Mb) (e : Ma'.1 0 10 = Ma.1 0 10 ∧ Ma'.1 38 = Ma.1 38 ∧ Ma'.1 33 = Ma.1 33 ∧ Mb'.1 97 = Mb.1 97) : rY T Ma' Mb' := by
  unfold rY
  rw [e.1, e.2.1, e.2.2.1, e.2.2.2]
  exact h
theorem rI_c {P P' T T' : Nat} {Ma Mb Ma' Mb' : mm} (h : rI P T Ma Mb) (hp : P ≤ P') (ht : T ≤ T') (ea : Ma'.1 0 11 = Ma.1 0 11 ∧ Ma'.1 0 12 = Ma.1 0 12 ∧ Ma'.1 51 = Ma.1 51 ∧ Ma'.1 52 = Ma.1 52 ∧ Ma'.1 53 = Ma.1 53 ∧ Ma'.1 54 = Ma.1 54 ∧ Ma'.1 55 = Ma.1 55 ∧ Ma'.1 56 = Ma.1 56 ∧ Ma'.1 57 = Ma.1 57 ∧ Ma'.1 58 = Ma.1 58 ∧ Ma'.1 59 = Ma.1 59 ∧ Ma'.1 50 0 = Ma.1 50 0 ∧ Ma'.1 50 1 = Ma.1 50 1)
    (eb : Mb'.1 82 50 = Mb.1 82 50 ∧ Mb'.1 82 51 = Mb.1 82 51 ∧ Mb'.1 82 52 = Mb.1 82 52 ∧ (∀ i, 36 ≤ i → Mb'.1 107 i = Mb.1 107 i) ∧ (∀ i, 48 ≤ i → Mb'.1 108 i = Mb.1 108 i) ∧ (∀ i, 15 ≤ i → Mb'.1 109 i = Mb.1 109 i) ∧ (∀ i, 2 ≤ i → Mb'.1 110 i = Mb.1 110 i)) : rI P' T' Ma' Mb' := by
  obtain ⟨a1, a2, a3, a4, a5, a6, a7, a8, a9, a10, a11, a12, a13⟩ := ea
  obtain ⟨b1, b2, b3, b4, b5, b6, b7⟩ := eb
  rcases h with ⟨h1, h2⟩ | ⟨kp, kt, h1, h2, h3, h4, h5, h6, h7, h8, h9, h10, h11⟩
  · exact Or.inl ⟨by rw [a2]; exact h1, by rw [b1]; exact h2⟩
  · refine Or.inr ⟨kp, kt, by omega, by omega, by rw [a1]; exact h3, by rw [a2]; exact h4, by rw [b1]; exact h5, by rw [b2]; exact h6, by rw [b3]; exact h7, fun t htt => ?_, fun p hpp => ?_, by rw [a12, b7 2 (by omega)]; exact h10, by rw [a13, b7 3 (by omega)]; exact h11⟩
    · obtain ⟨g1, g2, g3, g4, n, g5, g6, g7, g8⟩ := h8 t htt
      rw [a3, a4, a5, a6, a7, a8, b4 _ (by omega), b4 _ (by omega), b4 _ (by omega), b4 _ (by omega), b4 _ (by omega)]
      exact ⟨g1, rWho_m g2 hp, rWho_m g3 hp, g4, n, g5, g6, g7, fun i hi => by rw [b5 _ (by omega)]; exact g8 i hi⟩
    · rw [a9, a10, a11, b6 _ (by omega), b6 _ (by omega), b6 _ (by omega)]
      exact h9 p hpp
theorem rC_c {P P' T T' : Nat} {Ma Mb Ma' Mb' : mm} (h : rC P T Ma Mb) (hp : P ≤ P') (ht : T ≤ T') (e : Ma'.1 61 0 = Ma.1 61 0 ∧ Ma'.1 61 1 = Ma.1 61 1 ∧ Ma'.1 62 = Ma.1 62 ∧ Ma'.1 63 = Ma.1 63 ∧ Ma'.1 64 = Ma.1 64 ∧ Ma'.1 65 = Ma.1 65 ∧ Mb'.1 82 4 = Mb.1 82 4 ∧ Mb'.1 82 5 = Mb.1 82 5 ∧ Mb'.1 84 = Mb.1 84 ∧ Mb'.1 85 = Mb.1 85 ∧ Mb'.1 86 = Mb.1 86) : rC P' T' Ma' Mb' := by
  obtain ⟨e1, e2, e3, e4, e5, e6, e7, e8, e9, e10, e11⟩ := e
  unfold rC
  rw [e1, e2, e3, e4, e5, e6, e7, e8, e9, e10, e11]
  obtain ⟨d, al, h1, h2, h3, h4, h5, h6, h7⟩ := h
  refine ⟨d, al, h1, h2, h3, h4, h5, h6, fun i hi => ?_⟩
  obtain ⟨n, what, x, y, g1, g2, g3⟩ := h7 i hi
  exact ⟨n, what, x, y, g1, by split at g2 <;> split <;> omega, g3⟩
theorem rTa_c {Ma Mb Ma' Mb' : mm} (h : rTa Ma Mb) (e : Ma'.1 9 0 = Ma.1 9 0 ∧ Ma'.1 10 = Ma.1 10 ∧ Mb'.1 82 24 = Mb.1 82 24 ∧ Mb'.1 98 = Mb.1 98) : rTa Ma' Mb' := by
  unfold rTa
  rw [e.1, e.2.1, e.2.2.1, e.2.2.2]
  exact h
theorem rA_c {Ma Mb Ma' Mb' : mm} (h : rA Ma Mb) (e : Ma'.1 66 0 = Ma.1 66 0 ∧ Ma'.1 66 1 = Ma.1 66 1 ∧ Ma'.1 67 = Ma.1 67 ∧ Ma'.1 68 = Ma.1 68 ∧ Mb'.1 82 53 = Mb.1 82 53 ∧ Mb'.1 82 56 = Mb.1 82 56 ∧ Mb'.1 111 = Mb.1 111 ∧ Mb'.1 112 = Mb.1 112) : rA Ma' Mb' := by
  obtain ⟨e1, e2, e3, e4, e5, e6, e7, e8⟩ := e
  unfold rA
  rw [e1, e2, e3, e4, e5, e6, e7, e8]
  exact h
theorem rS_c {Ma Mb Ma' Mb' : mm} (h : rS Ma Mb) (e : Ma'.1 66 0 = Ma.1 66 0 ∧ Mb'.1 113 = Mb.1 113 ∧ Mb'.1 114 = Mb.1 114 ∧ Mb'.2.1 115 = Mb.2.1 115) (e2 : ∀ d, d < 6 → Ma'.1 (70 + 2 * d) = Ma.1 (70 + 2 * d) ∧ Ma'.2.1 (71 + 2 * d) = Ma.2.1 (71 + 2 * d)) : rS Ma' Mb' := by
  intro d hd
  have := h d hd
  unfold rS1 at this ⊢
  rw [e.1, e.2.1, e.2.2.1, e.2.2.2, (e2 d hd).1, (e2 d hd).2]
  exact this
