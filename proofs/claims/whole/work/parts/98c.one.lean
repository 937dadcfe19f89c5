theorem RR_0 : RR 0 0 1 none M0 M0 := by
  refine ⟨⟨⟨by omega, by omega, rfl, rfl, rfl, rfl, ⟨0, by omega, rfl, rfl⟩, ⟨0, by omega, rfl, rfl⟩, 1, by omega, by omega, rfl⟩, ⟨fun p _ _ => rfl, fun p hp => by omega⟩, fun t ht => by omega, ⟨fun t ht => by omega, fun p _ => ⟨rfl, rfl, rfl⟩, rfl, rfl⟩, ⟨⟨0, by omega, rfl, fun t ht => by omega⟩, fun t _ _ => rfl⟩, Or.inl ⟨rfl, rfl⟩, ⟨0, 0, by omega, by omega, rfl, rfl, rfl, rfl, fun i hi => by omega⟩, ⟨0, by omega, rfl, rfl, fun i hi => by omega⟩, ⟨0, 0, by omega, by omega, rfl, rfl, rfl, rfl, fun i hi => by omega, fun i hi => by omega⟩, fun d hd => Or.inl ⟨?_, ?_⟩⟩, ⟨rfl, fun t s a l _ _ _ _ _ => Or.inl rfl, Or.inl ⟨rfl, rfl⟩⟩, rfl, ⟨1, by omega, by omega, rfl, fun q _ => ⟨0, 0, by omega, by omega, rfl, Or.inl (by omega)⟩⟩⟩
  · show (if 70 + 2 * d = 1 ∧ (0 : Nat) = 4 then (1 : Int32) else if 70 + 2 * d = 0 ∧ (0 : Nat) = 12 then -1 else if 70 + 2 * d = 82 ∧ (0 : Nat) = 26 then -1 else if 70 + 2 * d = 113 ∧ 0 < 6 then -1 else 0) = 0
    rw [if_neg (by omega), if_neg (by omega), if_neg (by omega), if_neg (by omega)]
  · show (if (113 : Nat) = 1 ∧ d = 4 then (1 : Int32) else if (113 : Nat) = 0 ∧ d = 12 then -1 else if (113 : Nat) = 82 ∧ d = 26 then -1 else if (113 : Nat) = 113 ∧ d < 6 then -1 else 0) = -1
    rw [if_neg (by omega), if_neg (by omega), if_neg (by omega), if_pos (by omega)]
theorem law_one {L : Nat} {xs : Nat → Int32} (hL : L ≤ 3072) : ∃ M, L_law_L18 L xs 10000 0 M0 = some (1, M) :=
  law_L hL 10000 0 0 0 1 none M0 (by omega) (by omega) (by omega) RR_0
