theorem n0_le {g : gx} {a b : Nat} (h : N0 g a) (hab : a ≤ b) : N0 g b := Nat.le_trans h hab
theorem mfX0_init : MF yX0_init cX0_init 1 none 0 := ⟨lk_400, lk_76, ⟨by decide +kernel, by decide +kernel⟩, by decide +kernel, by decide, by decide +kernel⟩
theorem mfX1_init : MF yX1_init cX1_init 1 none 0 := ⟨lk_374, lk_75, ⟨by decide +kernel, by decide +kernel⟩, by decide +kernel, by decide, by decide +kernel⟩
theorem mfX2_init : MF yX2_init cX2_init 4 none 3 := ⟨lk_290, lk_73, ⟨by decide +kernel, by decide +kernel⟩, by decide +kernel, by decide, by decide +kernel⟩
theorem mfX3_init : MF yX3_init cX3_init 1 none 0 := ⟨lk_94, lk_68, ⟨by decide +kernel, by decide +kernel⟩, by decide +kernel, by decide, by decide +kernel⟩
theorem mfX4_init : MF yX4_init cX4_init 3 none 2 := ⟨lk_234, lk_72, ⟨by decide +kernel, by decide +kernel⟩, by decide +kernel, by decide, by decide +kernel⟩
theorem mfX5_init : MF yX5_init cX5_init 1 none 0 := ⟨lk_171, lk_70, ⟨by decide +kernel, by decide +kernel⟩, by decide +kernel, by decide, by decide +kernel⟩
theorem mfX6_init : MF yX6_init cX6_init 1 none 0 := ⟨lk_429, lk_77, ⟨by decide +kernel, by decide +kernel⟩, by decide +kernel, by decide, by decide +kernel⟩
theorem mfX7_init : MF yX7_init cX7_init 1 none 0 := ⟨lk_177, lk_71, ⟨by decide +kernel, by decide +kernel⟩, by decide +kernel, by decide, by decide +kernel⟩
theorem mfX8_init : MF yX8_init cX8_init 1 none 0 := ⟨lk_165, lk_69, ⟨by decide +kernel, by decide +kernel⟩, by decide +kernel, by decide, by decide +kernel⟩
theorem mfX9_init : MF yX9_init cX9_init 1 none 0 := ⟨lk_309, lk_74, ⟨by decide +kernel, by decide +kernel⟩, by decide +kernel, by decide, by decide +kernel⟩
theorem mfX10_init : MF yX10_init cX10_init 2 none 0 := ⟨lk_86, lk_67, ⟨by decide +kernel, by decide +kernel⟩, by decide +kernel, by decide, by decide +kernel⟩
theorem mfX11_init : MF yX11_init cX11_init 2 none 0 := ⟨lk_984, lk_78, ⟨by decide +kernel, by decide +kernel⟩, by decide +kernel, by decide, by decide +kernel⟩
theorem dfX0 : ∀ ad : Nat → Nat, ∀ j, j < 6 → defaultValue (tyX0 j) = vp_V (([.int 0, .int 0, .null, .null, .int 0, .int 0] : List Value).map (tr ad)) j := by
  intro ad j hj
  match j, hj with
  | 0, _ => rfl
  | 1, _ => rfl
  | 2, _ => rfl
  | 3, _ => rfl
  | 4, _ => rfl
  | 5, _ => rfl
  | q + 6, hj => exact absurd hj (by omega)
theorem dfX1 : ∀ ad : Nat → Nat, ∀ j, j < 6 → defaultValue (tyX1 j) = vp_V (([.int 0, .int 0, .null, .null, .null, .null] : List Value).map (tr ad)) j := by
  intro ad j hj
  match j, hj with
  | 0, _ => rfl
  | 1, _ => rfl
  | 2, _ => rfl
  | 3, _ => rfl
  | 4, _ => rfl
  | 5, _ => rfl
  | q + 6, hj => exact absurd hj (by omega)
theorem dfX2 : ∀ ad : Nat → Nat, ∀ j, j < 4 → defaultValue (tyX2 j) = vp_V (([.null, .null, .null, .int 0] : List Value).map (tr ad)) j := by
  intro ad j hj
  match j, hj with
  | 0, _ => rfl
  | 1, _ => rfl
  | 2, _ => rfl
  | 3, _ => rfl
  | q + 4, hj => exact absurd hj (by omega)
theorem dfX3 : ∀ ad : Nat → Nat, ∀ j, j < 12 → defaultValue (tyX3 j) = vp_V (([.int 0, .int 0, .int 0, .int 0, .int 0, .null, .null, .null, .null, .null, .null, .null] : List Value).map (tr ad)) j := by
  intro ad j hj
  match j, hj with
  | 0, _ => rfl
  | 1, _ => rfl
  | 2, _ => rfl
  | 3, _ => rfl
  | 4, _ => rfl
  | 5, _ => rfl
  | 6, _ => rfl
  | 7, _ => rfl
  | 8, _ => rfl
  | 9, _ => rfl
  | 10, _ => rfl
  | 11, _ => rfl
  | q + 12, hj => exact absurd hj (by omega)
theorem dfX4 : ∀ ad : Nat → Nat, ∀ j, j < 16 → defaultValue (tyX4 j) = vp_V (([.null, .null, .int 0, .int 0, .int 0, .int 0, .int 0, .int 0, .int 0, .int 0, .long 0, .null, .null, .null, .null, .null] : List Value).map (tr ad)) j := by
  intro ad j hj
  match j, hj with
  | 0, _ => rfl
  | 1, _ => rfl
  | 2, _ => rfl
  | 3, _ => rfl
  | 4, _ => rfl
  | 5, _ => rfl
  | 6, _ => rfl
  | 7, _ => rfl
  | 8, _ => rfl
  | 9, _ => rfl
  | 10, _ => rfl
  | 11, _ => rfl
  | 12, _ => rfl
  | 13, _ => rfl
  | 14, _ => rfl
  | 15, _ => rfl
  | q + 16, hj => exact absurd hj (by omega)
theorem dfX5 : ∀ ad : Nat → Nat, ∀ j, j < 4 → defaultValue (tyX5 j) = vp_V (([.null, .int 0, .int 0, .null] : List Value).map (tr ad)) j := by
  intro ad j hj
  match j, hj with
  | 0, _ => rfl
  | 1, _ => rfl
  | 2, _ => rfl
  | 3, _ => rfl
  | q + 4, hj => exact absurd hj (by omega)
theorem dfX6 : ∀ ad : Nat → Nat, ∀ j, j < 5 → defaultValue (tyX6 j) = vp_V (([.int 0, .int 0, .int 0, .int 0, .null] : List Value).map (tr ad)) j := by
  intro ad j hj
  match j, hj with
  | 0, _ => rfl
  | 1, _ => rfl
  | 2, _ => rfl
  | 3, _ => rfl
  | 4, _ => rfl
  | q + 5, hj => exact absurd hj (by omega)
theorem dfX7 : ∀ ad : Nat → Nat, ∀ j, j < 3 → defaultValue (tyX7 j) = vp_V (([.int 0, .null, .null] : List Value).map (tr ad)) j := by
  intro ad j hj
  match j, hj with
  | 0, _ => rfl
  | 1, _ => rfl
  | 2, _ => rfl
  | q + 3, hj => exact absurd hj (by omega)
theorem dfX8 : ∀ ad : Nat → Nat, ∀ j, j < 6 → defaultValue (tyX8 j) = vp_V (([.int 0, .null, .null, .null, .null, .null] : List Value).map (tr ad)) j := by
  intro ad j hj
  match j, hj with
  | 0, _ => rfl
  | 1, _ => rfl
  | 2, _ => rfl
  | 3, _ => rfl
  | 4, _ => rfl
  | 5, _ => rfl
  | q + 6, hj => exact absurd hj (by omega)
theorem dfX9 : ∀ ad : Nat → Nat, ∀ j, j < 12 → defaultValue (tyX9 j) = vp_V (([.int 0, .int 0, .null, .null, .null, .null, .null, .null, .null, .null, .null, .null] : List Value).map (tr ad)) j := by
  intro ad j hj
  match j, hj with
  | 0, _ => rfl
  | 1, _ => rfl
  | 2, _ => rfl
  | 3, _ => rfl
  | 4, _ => rfl
  | 5, _ => rfl
  | 6, _ => rfl
  | 7, _ => rfl
  | 8, _ => rfl
  | 9, _ => rfl
  | 10, _ => rfl
  | 11, _ => rfl
  | q + 12, hj => exact absurd hj (by omega)
theorem dfX10 : ∀ ad : Nat → Nat, ∀ j, j < 13 → defaultValue (tyX10 j) = vp_V (([.null, .null, .null, .null, .null, .null, .null, .null, .null, .null, .int 0, .int 0, .int 0] : List Value).map (tr ad)) j := by
  intro ad j hj
  match j, hj with
  | 0, _ => rfl
  | 1, _ => rfl
  | 2, _ => rfl
  | 3, _ => rfl
  | 4, _ => rfl
  | 5, _ => rfl
  | 6, _ => rfl
  | 7, _ => rfl
  | 8, _ => rfl
  | 9, _ => rfl
  | 10, _ => rfl
  | 11, _ => rfl
  | 12, _ => rfl
  | q + 13, hj => exact absurd hj (by omega)
theorem dfX11 : ∀ ad : Nat → Nat, ∀ j, j < 63 → defaultValue (tyX11 j) = vp_V (([.null, .null, .null, .null, .int 0, .int 0, .int 0, .int 0, .null, .null, .null, .null, .null, .null, .null, .null, .null, .null, .null, .int 0, .int 0, .int 0, .int 0, .null, .int 0, .null, .int 0, .int 0, .int 0, .int 0, .int 0, .int 0, .null, .null, .null, .null, .null, .int 0, .int 0, .int 0, .int 0, .int 0, .null, .int 0, .int 0, .null, .null, .null, .null, .null, .int 0, .int 0, .int 0, .int 0, .null, .null, .int 0, .int 0, .int 0, .null, .null, .null, .null] : List Value).map (tr ad)) j := by
  intro ad j hj
  match j, hj with
  | 0, _ => rfl
  | 1, _ => rfl
  | 2, _ => rfl
  | 3, _ => rfl
  | 4, _ => rfl
  | 5, _ => rfl
  | 6, _ => rfl
  | 7, _ => rfl
  | 8, _ => rfl
  | 9, _ => rfl
  | 10, _ => rfl
  | 11, _ => rfl
  | 12, _ => rfl
  | 13, _ => rfl
  | 14, _ => rfl
  | 15, _ => rfl
  | 16, _ => rfl
  | 17, _ => rfl
  | 18, _ => rfl
  | 19, _ => rfl
  | 20, _ => rfl
  | 21, _ => rfl
  | 22, _ => rfl
  | 23, _ => rfl
  | 24, _ => rfl
  | 25, _ => rfl
  | 26, _ => rfl
  | 27, _ => rfl
  | 28, _ => rfl
  | 29, _ => rfl
  | 30, _ => rfl
  | 31, _ => rfl
  | 32, _ => rfl
  | 33, _ => rfl
  | 34, _ => rfl
  | 35, _ => rfl
  | 36, _ => rfl
  | 37, _ => rfl
  | 38, _ => rfl
  | 39, _ => rfl
  | 40, _ => rfl
  | 41, _ => rfl
  | 42, _ => rfl
  | 43, _ => rfl
  | 44, _ => rfl
  | 45, _ => rfl
  | 46, _ => rfl
  | 47, _ => rfl
  | 48, _ => rfl
  | 49, _ => rfl
  | 50, _ => rfl
  | 51, _ => rfl
  | 52, _ => rfl
  | 53, _ => rfl
  | 54, _ => rfl
  | 55, _ => rfl
  | 56, _ => rfl
  | 57, _ => rfl
  | 58, _ => rfl
  | 59, _ => rfl
  | 60, _ => rfl
  | 61, _ => rfl
  | 62, _ => rfl
  | q + 63, hj => exact absurd hj (by omega)
def cw_0 : List rc := [.inr (10, [.null, .null, .null, .null, .null, .null, .null, .null, .null, .null, .int 0, .int 0, .int 0])]
def cw_1 : List rc := [.inr (10, [.null, .null, .null, .null, .null, .null, .null, .null, .null, .null, .int 0, .int 0, .int 0]), .inr (3, [.int 0, .int 0, .int 0, .int 0, .int 0, .null, .null, .null, .null, .null, .null, .null])]
def cw_2 : List rc := [.inr (10, [.null, .null, .null, .null, .null, .null, .null, .null, .null, .null, .int 0, .int 0, .int 0]), .inr (3, [.int 0, .int 0, .int 0, .int 0, .int 1, .ref 2, .ref 3, .ref 4, .ref 5, .ref 6, .ref 7, .ref 8]), .inl (0, 5, .inl (fun _ => 0)), .inl (0, 5, .inl (fun _ => 0)), .inl (0, 5, .inl (fun _ => 0)), .inl (0, 6, .inl (fun _ => 0)), .inl (0, 6, .inl (fun _ => 0)), .inl (0, 6, .inl (fun _ => 0)), .inl (0, 6, .inl (fun _ => 0))]
def cw_3 : List rc := [.inr (10, [.ref 1, .null, .null, .null, .null, .null, .null, .null, .null, .null, .int 0, .int 0, .int 0]), .inr (3, [.int 0, .int 0, .int 0, .int 0, .int 1, .ref 2, .ref 3, .ref 4, .ref 5, .ref 6, .ref 7, .ref 8]), .inl (0, 5, .inl (fun _ => 0)), .inl (0, 5, .inl (fun _ => 0)), .inl (0, 5, .inl (fun _ => 0)), .inl (0, 6, .inl (fun _ => 0)), .inl (0, 6, .inl (fun _ => 0)), .inl (0, 6, .inl (fun _ => 0)), .inl (0, 6, .inl (fun _ => 0)), .inr (8, [.int 0, .null, .null, .null, .null, .null])]
def cw_4 : List rc := [.inr (10, [.ref 1, .null, .null, .null, .null, .null, .null, .null, .null, .null, .int 0, .int 0, .int 0]), .inr (3, [.int 0, .int 0, .int 0, .int 0, .int 1, .ref 2, .ref 3, .ref 4, .ref 5, .ref 6, .ref 7, .ref 8]), .inl (0, 5, .inl (fun _ => 0)), .inl (0, 5, .inl (fun _ => 0)), .inl (0, 5, .inl (fun _ => 0)), .inl (0, 6, .inl (fun _ => 0)), .inl (0, 6, .inl (fun _ => 0)), .inl (0, 6, .inl (fun _ => 0)), .inl (0, 6, .inl (fun _ => 0)), .inr (8, [.int 0, .ref 10, .null, .null, .null, .null]), .inl (0, 120, .inl (fun _ => 0)), .inr (5, [.null, .int 0, .int 0, .null])]
def cw_5 : List rc := [.inr (10, [.ref 1, .null, .null, .null, .null, .null, .null, .null, .null, .null, .int 0, .int 0, .int 0]), .inr (3, [.int 0, .int 0, .int 0, .int 0, .int 1, .ref 2, .ref 3, .ref 4, .ref 5, .ref 6, .ref 7, .ref 8]), .inl (0, 5, .inl (fun _ => 0)), .inl (0, 5, .inl (fun _ => 0)), .inl (0, 5, .inl (fun _ => 0)), .inl (0, 6, .inl (fun _ => 0)), .inl (0, 6, .inl (fun _ => 0)), .inl (0, 6, .inl (fun _ => 0)), .inl (0, 6, .inl (fun _ => 0)), .inr (8, [.int 0, .ref 10, .null, .null, .null, .null]), .inl (0, 120, .inl (fun _ => 0)), .inr (5, [.ref 12, .int 0, .int 0, .null]), .inl (0, 0, .inl (fun _ => 0)), .inr (7, [.int 0, .null, .null])]
def cw_6 : List rc := [.inr (10, [.ref 1, .null, .null, .null, .null, .null, .null, .null, .null, .null, .int 0, .int 0, .int 0]), .inr (3, [.int 0, .int 0, .int 0, .int 0, .int 1, .ref 2, .ref 3, .ref 4, .ref 5, .ref 6, .ref 7, .ref 8]), .inl (0, 5, .inl (fun _ => 0)), .inl (0, 5, .inl (fun _ => 0)), .inl (0, 5, .inl (fun _ => 0)), .inl (0, 6, .inl (fun _ => 0)), .inl (0, 6, .inl (fun _ => 0)), .inl (0, 6, .inl (fun _ => 0)), .inl (0, 6, .inl (fun _ => 0)), .inr (8, [.int 0, .ref 10, .null, .null, .null, .null]), .inl (0, 120, .inl (fun _ => 0)), .inr (5, [.ref 12, .int 0, .int 0, .null]), .inl (0, 0, .inl (fun _ => 0)), .inr (7, [.int 0, .ref 14, .ref 15]), .inl (0, 242, .inl (fun _ => 0)), .inl (0, 242, .inl (fun _ => 0))]
def cw_7 : List rc := [.inr (10, [.ref 1, .null, .null, .null, .null, .null, .null, .null, .null, .null, .int 0, .int 0, .int 0]), .inr (3, [.int 0, .int 0, .int 0, .int 0, .int 1, .ref 2, .ref 3, .ref 4, .ref 5, .ref 6, .ref 7, .ref 8]), .inl (0, 5, .inl (fun _ => 0)), .inl (0, 5, .inl (fun _ => 0)), .inl (0, 5, .inl (fun _ => 0)), .inl (0, 6, .inl (fun _ => 0)), .inl (0, 6, .inl (fun _ => 0)), .inl (0, 6, .inl (fun _ => 0)), .inl (0, 6, .inl (fun _ => 0)), .inr (8, [.int 0, .ref 10, .null, .null, .null, .null]), .inl (0, 120, .inl (fun _ => 0)), .inr (5, [.ref 12, .int 0, .int 0, .ref 13]), .inl (0, 0, .inl (fun _ => 0)), .inr (7, [.int 0, .ref 14, .ref 15]), .inl (0, 242, .inl (fun _ => 0)), .inl (0, 242, .inl (fun _ => 0))]
def cw_8 : List rc := [.inr (10, [.ref 1, .null, .null, .null, .null, .null, .null, .null, .null, .null, .int 0, .int 0, .int 0]), .inr (3, [.int 0, .int 0, .int 0, .int 0, .int 1, .ref 2, .ref 3, .ref 4, .ref 5, .ref 6, .ref 7, .ref 8]), .inl (0, 5, .inl (fun _ => 0)), .inl (0, 5, .inl (fun _ => 0)), .inl (0, 5, .inl (fun _ => 0)), .inl (0, 6, .inl (fun _ => 0)), .inl (0, 6, .inl (fun _ => 0)), .inl (0, 6, .inl (fun _ => 0)), .inl (0, 6, .inl (fun _ => 0)), .inr (8, [.int 0, .ref 10, .ref 11, .null, .null, .null]), .inl (0, 120, .inl (fun _ => 0)), .inr (5, [.ref 12, .int 0, .int 0, .ref 13]), .inl (0, 0, .inl (fun _ => 0)), .inr (7, [.int 0, .ref 14, .ref 15]), .inl (0, 242, .inl (fun _ => 0)), .inl (0, 242, .inl (fun _ => 0)), .inr (7, [.int 0, .null, .null])]
def cw_9 : List rc := [.inr (10, [.ref 1, .null, .null, .null, .null, .null, .null, .null, .null, .null, .int 0, .int 0, .int 0]), .inr (3, [.int 0, .int 0, .int 0, .int 0, .int 1, .ref 2, .ref 3, .ref 4, .ref 5, .ref 6, .ref 7, .ref 8]), .inl (0, 5, .inl (fun _ => 0)), .inl (0, 5, .inl (fun _ => 0)), .inl (0, 5, .inl (fun _ => 0)), .inl (0, 6, .inl (fun _ => 0)), .inl (0, 6, .inl (fun _ => 0)), .inl (0, 6, .inl (fun _ => 0)), .inl (0, 6, .inl (fun _ => 0)), .inr (8, [.int 0, .ref 10, .ref 11, .null, .null, .null]), .inl (0, 120, .inl (fun _ => 0)), .inr (5, [.ref 12, .int 0, .int 0, .ref 13]), .inl (0, 0, .inl (fun _ => 0)), .inr (7, [.int 0, .ref 14, .ref 15]), .inl (0, 242, .inl (fun _ => 0)), .inl (0, 242, .inl (fun _ => 0)), .inr (7, [.int 0, .ref 17, .ref 18]), .inl (0, 242, .inl (fun _ => 0)), .inl (0, 242, .inl (fun _ => 0))]
def cw_10 : List rc := [.inr (10, [.ref 1, .null, .null, .null, .null, .null, .null, .null, .null, .null, .int 0, .int 0, .int 0]), .inr (3, [.int 0, .int 0, .int 0, .int 0, .int 1, .ref 2, .ref 3, .ref 4, .ref 5, .ref 6, .ref 7, .ref 8]), .inl (0, 5, .inl (fun _ => 0)), .inl (0, 5, .inl (fun _ => 0)), .inl (0, 5, .inl (fun _ => 0)), .inl (0, 6, .inl (fun _ => 0)), .inl (0, 6, .inl (fun _ => 0)), .inl (0, 6, .inl (fun _ => 0)), .inl (0, 6, .inl (fun _ => 0)), .inr (8, [.int 0, .ref 10, .ref 11, .ref 16, .ref 19, .ref 20]), .inl (0, 120, .inl (fun _ => 0)), .inr (5, [.ref 12, .int 0, .int 0, .ref 13]), .inl (0, 0, .inl (fun _ => 0)), .inr (7, [.int 0, .ref 14, .ref 15]), .inl (0, 242, .inl (fun _ => 0)), .inl (0, 242, .inl (fun _ => 0)), .inr (7, [.int 0, .ref 17, .ref 18]), .inl (0, 242, .inl (fun _ => 0)), .inl (0, 242, .inl (fun _ => 0)), .inl (0, 48, .inl (fun _ => 0)), .inl (2, 3600, .inl (fun _ => 0))]
def cw_11 : List rc := [.inr (10, [.ref 1, .ref 9, .null, .null, .null, .null, .null, .null, .null, .null, .int 0, .int 0, .int 0]), .inr (3, [.int 0, .int 0, .int 0, .int 0, .int 1, .ref 2, .ref 3, .ref 4, .ref 5, .ref 6, .ref 7, .ref 8]), .inl (0, 5, .inl (fun _ => 0)), .inl (0, 5, .inl (fun _ => 0)), .inl (0, 5, .inl (fun _ => 0)), .inl (0, 6, .inl (fun _ => 0)), .inl (0, 6, .inl (fun _ => 0)), .inl (0, 6, .inl (fun _ => 0)), .inl (0, 6, .inl (fun _ => 0)), .inr (8, [.int 0, .ref 10, .ref 11, .ref 16, .ref 19, .ref 20]), .inl (0, 120, .inl (fun _ => 0)), .inr (5, [.ref 12, .int 0, .int 0, .ref 13]), .inl (0, 0, .inl (fun _ => 0)), .inr (7, [.int 0, .ref 14, .ref 15]), .inl (0, 242, .inl (fun _ => 0)), .inl (0, 242, .inl (fun _ => 0)), .inr (7, [.int 0, .ref 17, .ref 18]), .inl (0, 242, .inl (fun _ => 0)), .inl (0, 242, .inl (fun _ => 0)), .inl (0, 48, .inl (fun _ => 0)), .inl (2, 3600, .inl (fun _ => 0)), .inr (4, [.null, .null, .int 0, .int 0, .int 0, .int 0, .int 0, .int 0, .int 0, .int 0, .long 0, .null, .null, .null, .null, .null])]
def cw_12 : List rc := [.inr (10, [.ref 1, .ref 9, .null, .null, .null, .null, .null, .null, .null, .null, .int 0, .int 0, .int 0]), .inr (3, [.int 0, .int 0, .int 0, .int 0, .int 1, .ref 2, .ref 3, .ref 4, .ref 5, .ref 6, .ref 7, .ref 8]), .inl (0, 5, .inl (fun _ => 0)), .inl (0, 5, .inl (fun _ => 0)), .inl (0, 5, .inl (fun _ => 0)), .inl (0, 6, .inl (fun _ => 0)), .inl (0, 6, .inl (fun _ => 0)), .inl (0, 6, .inl (fun _ => 0)), .inl (0, 6, .inl (fun _ => 0)), .inr (8, [.int 0, .ref 10, .ref 11, .ref 16, .ref 19, .ref 20]), .inl (0, 120, .inl (fun _ => 0)), .inr (5, [.ref 12, .int 0, .int 0, .ref 13]), .inl (0, 0, .inl (fun _ => 0)), .inr (7, [.int 0, .ref 14, .ref 15]), .inl (0, 242, .inl (fun _ => 0)), .inl (0, 242, .inl (fun _ => 0)), .inr (7, [.int 0, .ref 17, .ref 18]), .inl (0, 242, .inl (fun _ => 0)), .inl (0, 242, .inl (fun _ => 0)), .inl (0, 48, .inl (fun _ => 0)), .inl (2, 3600, .inl (fun _ => 0)), .inr (4, [.ref 1, .ref 9, .int 0, .int 0, .int 0, .int 0, .int 0, .int 0, .int 0, .int 0, .long 0, .ref 22, .ref 23, .ref 24, .ref 25, .ref 26]), .inl (1, 56, .inr (.inl (fun _ => 0))), .inl (1, 56, .inr (.inl (fun _ => 0))), .inl (1, 4, .inr (.inl (fun _ => 0))), .inl (1, 4, .inr (.inl (fun _ => 0))), .inl (1, 2048, .inr (.inl (fun _ => 0)))]
def cw_13 : List rc := [.inr (10, [.ref 1, .ref 9, .ref 21, .null, .null, .null, .null, .null, .null, .null, .int 0, .int 0, .int 0]), .inr (3, [.int 0, .int 0, .int 0, .int 0, .int 1, .ref 2, .ref 3, .ref 4, .ref 5, .ref 6, .ref 7, .ref 8]), .inl (0, 5, .inl (fun _ => 0)), .inl (0, 5, .inl (fun _ => 0)), .inl (0, 5, .inl (fun _ => 0)), .inl (0, 6, .inl (fun _ => 0)), .inl (0, 6, .inl (fun _ => 0)), .inl (0, 6, .inl (fun _ => 0)), .inl (0, 6, .inl (fun _ => 0)), .inr (8, [.int 0, .ref 10, .ref 11, .ref 16, .ref 19, .ref 20]), .inl (0, 120, .inl (fun _ => 0)), .inr (5, [.ref 12, .int 0, .int 0, .ref 13]), .inl (0, 0, .inl (fun _ => 0)), .inr (7, [.int 0, .ref 14, .ref 15]), .inl (0, 242, .inl (fun _ => 0)), .inl (0, 242, .inl (fun _ => 0)), .inr (7, [.int 0, .ref 17, .ref 18]), .inl (0, 242, .inl (fun _ => 0)), .inl (0, 242, .inl (fun _ => 0)), .inl (0, 48, .inl (fun _ => 0)), .inl (2, 3600, .inl (fun _ => 0)), .inr (4, [.ref 1, .ref 9, .int 0, .int 0, .int 0, .int 0, .int 0, .int 0, .int 0, .int 0, .long 0, .ref 22, .ref 23, .ref 24, .ref 25, .ref 26]), .inl (1, 56, .inr (.inl (fun _ => 0))), .inl (1, 56, .inr (.inl (fun _ => 0))), .inl (1, 4, .inr (.inl (fun _ => 0))), .inl (1, 4, .inr (.inl (fun _ => 0))), .inl (1, 2048, .inr (.inl (fun _ => 0))), .inr (2, [.null, .null, .null, .int 0])]
def cw_14 : List rc := [.inr (10, [.ref 1, .ref 9, .ref 21, .null, .null, .null, .null, .null, .null, .null, .int 0, .int 0, .int 0]), .inr (3, [.int 0, .int 0, .int 0, .int 0, .int 1, .ref 2, .ref 3, .ref 4, .ref 5, .ref 6, .ref 7, .ref 8]), .inl (0, 5, .inl (fun _ => 0)), .inl (0, 5, .inl (fun _ => 0)), .inl (0, 5, .inl (fun _ => 0)), .inl (0, 6, .inl (fun _ => 0)), .inl (0, 6, .inl (fun _ => 0)), .inl (0, 6, .inl (fun _ => 0)), .inl (0, 6, .inl (fun _ => 0)), .inr (8, [.int 0, .ref 10, .ref 11, .ref 16, .ref 19, .ref 20]), .inl (0, 120, .inl (fun _ => 0)), .inr (5, [.ref 12, .int 0, .int 0, .ref 13]), .inl (0, 0, .inl (fun _ => 0)), .inr (7, [.int 0, .ref 14, .ref 15]), .inl (0, 242, .inl (fun _ => 0)), .inl (0, 242, .inl (fun _ => 0)), .inr (7, [.int 0, .ref 17, .ref 18]), .inl (0, 242, .inl (fun _ => 0)), .inl (0, 242, .inl (fun _ => 0)), .inl (0, 48, .inl (fun _ => 0)), .inl (2, 3600, .inl (fun _ => 0)), .inr (4, [.ref 1, .ref 9, .int 0, .int 0, .int 0, .int 0, .int 0, .int 0, .int 0, .int 0, .long 0, .ref 22, .ref 23, .ref 24, .ref 25, .ref 26]), .inl (1, 56, .inr (.inl (fun _ => 0))), .inl (1, 56, .inr (.inl (fun _ => 0))), .inl (1, 4, .inr (.inl (fun _ => 0))), .inl (1, 4, .inr (.inl (fun _ => 0))), .inl (1, 2048, .inr (.inl (fun _ => 0))), .inr (2, [.ref 1, .ref 9, .ref 21, .int 0])]
def cw_15 : List rc := [.inr (10, [.ref 1, .ref 9, .ref 21, .ref 27, .null, .null, .null, .null, .null, .null, .int 0, .int 0, .int 0]), .inr (3, [.int 0, .int 0, .int 0, .int 0, .int 1, .ref 2, .ref 3, .ref 4, .ref 5, .ref 6, .ref 7, .ref 8]), .inl (0, 5, .inl (fun _ => 0)), .inl (0, 5, .inl (fun _ => 0)), .inl (0, 5, .inl (fun _ => 0)), .inl (0, 6, .inl (fun _ => 0)), .inl (0, 6, .inl (fun _ => 0)), .inl (0, 6, .inl (fun _ => 0)), .inl (0, 6, .inl (fun _ => 0)), .inr (8, [.int 0, .ref 10, .ref 11, .ref 16, .ref 19, .ref 20]), .inl (0, 120, .inl (fun _ => 0)), .inr (5, [.ref 12, .int 0, .int 0, .ref 13]), .inl (0, 0, .inl (fun _ => 0)), .inr (7, [.int 0, .ref 14, .ref 15]), .inl (0, 242, .inl (fun _ => 0)), .inl (0, 242, .inl (fun _ => 0)), .inr (7, [.int 0, .ref 17, .ref 18]), .inl (0, 242, .inl (fun _ => 0)), .inl (0, 242, .inl (fun _ => 0)), .inl (0, 48, .inl (fun _ => 0)), .inl (2, 3600, .inl (fun _ => 0)), .inr (4, [.ref 1, .ref 9, .int 0, .int 0, .int 0, .int 0, .int 0, .int 0, .int 0, .int 0, .long 0, .ref 22, .ref 23, .ref 24, .ref 25, .ref 26]), .inl (1, 56, .inr (.inl (fun _ => 0))), .inl (1, 56, .inr (.inl (fun _ => 0))), .inl (1, 4, .inr (.inl (fun _ => 0))), .inl (1, 4, .inr (.inl (fun _ => 0))), .inl (1, 2048, .inr (.inl (fun _ => 0))), .inr (2, [.ref 1, .ref 9, .ref 21, .int 0]), .inr (9, [.int 0, .int 0, .null, .null, .null, .null, .null, .null, .null, .null, .null, .null])]
def cw_16 : List rc := [.inr (10, [.ref 1, .ref 9, .ref 21, .ref 27, .null, .null, .null, .null, .null, .null, .int 0, .int 0, .int 0]), .inr (3, [.int 0, .int 0, .int 0, .int 0, .int 1, .ref 2, .ref 3, .ref 4, .ref 5, .ref 6, .ref 7, .ref 8]), .inl (0, 5, .inl (fun _ => 0)), .inl (0, 5, .inl (fun _ => 0)), .inl (0, 5, .inl (fun _ => 0)), .inl (0, 6, .inl (fun _ => 0)), .inl (0, 6, .inl (fun _ => 0)), .inl (0, 6, .inl (fun _ => 0)), .inl (0, 6, .inl (fun _ => 0)), .inr (8, [.int 0, .ref 10, .ref 11, .ref 16, .ref 19, .ref 20]), .inl (0, 120, .inl (fun _ => 0)), .inr (5, [.ref 12, .int 0, .int 0, .ref 13]), .inl (0, 0, .inl (fun _ => 0)), .inr (7, [.int 0, .ref 14, .ref 15]), .inl (0, 242, .inl (fun _ => 0)), .inl (0, 242, .inl (fun _ => 0)), .inr (7, [.int 0, .ref 17, .ref 18]), .inl (0, 242, .inl (fun _ => 0)), .inl (0, 242, .inl (fun _ => 0)), .inl (0, 48, .inl (fun _ => 0)), .inl (2, 3600, .inl (fun _ => 0)), .inr (4, [.ref 1, .ref 9, .int 0, .int 0, .int 0, .int 0, .int 0, .int 0, .int 0, .int 0, .long 0, .ref 22, .ref 23, .ref 24, .ref 25, .ref 26]), .inl (1, 56, .inr (.inl (fun _ => 0))), .inl (1, 56, .inr (.inl (fun _ => 0))), .inl (1, 4, .inr (.inl (fun _ => 0))), .inl (1, 4, .inr (.inl (fun _ => 0))), .inl (1, 2048, .inr (.inl (fun _ => 0))), .inr (2, [.ref 1, .ref 9, .ref 21, .int 0]), .inr (9, [.int 0, .int 0, .ref 29, .ref 30, .ref 31, .ref 32, .ref 33, .ref 34, .ref 35, .ref 36, .ref 37, .ref 38]), .inl (0, 6, .inl (fun _ => 0)), .inl (0, 6, .inl (fun _ => 0)), .inl (0, 6, .inl (fun _ => 0)), .inl (0, 6, .inl (fun _ => 0)), .inl (0, 6, .inl (fun _ => 0)), .inl (0, 48, .inl (fun _ => 0)), .inl (0, 5, .inl (fun _ => 0)), .inl (0, 5, .inl (fun _ => 0)), .inl (0, 5, .inl (fun _ => 0)), .inl (0, 6, .inl (fun _ => 0))]
def cw_17 : List rc := [.inr (10, [.ref 1, .ref 9, .ref 21, .ref 27, .ref 28, .null, .null, .null, .null, .null, .int 0, .int 0, .int 0]), .inr (3, [.int 0, .int 0, .int 0, .int 0, .int 1, .ref 2, .ref 3, .ref 4, .ref 5, .ref 6, .ref 7, .ref 8]), .inl (0, 5, .inl (fun _ => 0)), .inl (0, 5, .inl (fun _ => 0)), .inl (0, 5, .inl (fun _ => 0)), .inl (0, 6, .inl (fun _ => 0)), .inl (0, 6, .inl (fun _ => 0)), .inl (0, 6, .inl (fun _ => 0)), .inl (0, 6, .inl (fun _ => 0)), .inr (8, [.int 0, .ref 10, .ref 11, .ref 16, .ref 19, .ref 20]), .inl (0, 120, .inl (fun _ => 0)), .inr (5, [.ref 12, .int 0, .int 0, .ref 13]), .inl (0, 0, .inl (fun _ => 0)), .inr (7, [.int 0, .ref 14, .ref 15]), .inl (0, 242, .inl (fun _ => 0)), .inl (0, 242, .inl (fun _ => 0)), .inr (7, [.int 0, .ref 17, .ref 18]), .inl (0, 242, .inl (fun _ => 0)), .inl (0, 242, .inl (fun _ => 0)), .inl (0, 48, .inl (fun _ => 0)), .inl (2, 3600, .inl (fun _ => 0)), .inr (4, [.ref 1, .ref 9, .int 0, .int 0, .int 0, .int 0, .int 0, .int 0, .int 0, .int 0, .long 0, .ref 22, .ref 23, .ref 24, .ref 25, .ref 26]), .inl (1, 56, .inr (.inl (fun _ => 0))), .inl (1, 56, .inr (.inl (fun _ => 0))), .inl (1, 4, .inr (.inl (fun _ => 0))), .inl (1, 4, .inr (.inl (fun _ => 0))), .inl (1, 2048, .inr (.inl (fun _ => 0))), .inr (2, [.ref 1, .ref 9, .ref 21, .int 0]), .inr (9, [.int 0, .int 0, .ref 29, .ref 30, .ref 31, .ref 32, .ref 33, .ref 34, .ref 35, .ref 36, .ref 37, .ref 38]), .inl (0, 6, .inl (fun _ => 0)), .inl (0, 6, .inl (fun _ => 0)), .inl (0, 6, .inl (fun _ => 0)), .inl (0, 6, .inl (fun _ => 0)), .inl (0, 6, .inl (fun _ => 0)), .inl (0, 48, .inl (fun _ => 0)), .inl (0, 5, .inl (fun _ => 0)), .inl (0, 5, .inl (fun _ => 0)), .inl (0, 5, .inl (fun _ => 0)), .inl (0, 6, .inl (fun _ => 0)), .inr (9, [.int 0, .int 0, .null, .null, .null, .null, .null, .null, .null, .null, .null, .null])]
def cw_18 : List rc := [.inr (10, [.ref 1, .ref 9, .ref 21, .ref 27, .ref 28, .null, .null, .null, .null, .null, .int 0, .int 0, .int 0]), .inr (3, [.int 0, .int 0, .int 0, .int 0, .int 1, .ref 2, .ref 3, .ref 4, .ref 5, .ref 6, .ref 7, .ref 8]), .inl (0, 5, .inl (fun _ => 0)), .inl (0, 5, .inl (fun _ => 0)), .inl (0, 5, .inl (fun _ => 0)), .inl (0, 6, .inl (fun _ => 0)), .inl (0, 6, .inl (fun _ => 0)), .inl (0, 6, .inl (fun _ => 0)), .inl (0, 6, .inl (fun _ => 0)), .inr (8, [.int 0, .ref 10, .ref 11, .ref 16, .ref 19, .ref 20]), .inl (0, 120, .inl (fun _ => 0)), .inr (5, [.ref 12, .int 0, .int 0, .ref 13]), .inl (0, 0, .inl (fun _ => 0)), .inr (7, [.int 0, .ref 14, .ref 15]), .inl (0, 242, .inl (fun _ => 0)), .inl (0, 242, .inl (fun _ => 0)), .inr (7, [.int 0, .ref 17, .ref 18]), .inl (0, 242, .inl (fun _ => 0)), .inl (0, 242, .inl (fun _ => 0)), .inl (0, 48, .inl (fun _ => 0)), .inl (2, 3600, .inl (fun _ => 0)), .inr (4, [.ref 1, .ref 9, .int 0, .int 0, .int 0, .int 0, .int 0, .int 0, .int 0, .int 0, .long 0, .ref 22, .ref 23, .ref 24, .ref 25, .ref 26]), .inl (1, 56, .inr (.inl (fun _ => 0))), .inl (1, 56, .inr (.inl (fun _ => 0))), .inl (1, 4, .inr (.inl (fun _ => 0))), .inl (1, 4, .inr (.inl (fun _ => 0))), .inl (1, 2048, .inr (.inl (fun _ => 0))), .inr (2, [.ref 1, .ref 9, .ref 21, .int 0]), .inr (9, [.int 0, .int 0, .ref 29, .ref 30, .ref 31, .ref 32, .ref 33, .ref 34, .ref 35, .ref 36, .ref 37, .ref 38]), .inl (0, 6, .inl (fun _ => 0)), .inl (0, 6, .inl (fun _ => 0)), .inl (0, 6, .inl (fun _ => 0)), .inl (0, 6, .inl (fun _ => 0)), .inl (0, 6, .inl (fun _ => 0)), .inl (0, 48, .inl (fun _ => 0)), .inl (0, 5, .inl (fun _ => 0)), .inl (0, 5, .inl (fun _ => 0)), .inl (0, 5, .inl (fun _ => 0)), .inl (0, 6, .inl (fun _ => 0)), .inr (9, [.int 0, .int 0, .ref 40, .ref 41, .ref 42, .ref 43, .ref 44, .ref 45, .ref 46, .ref 47, .ref 48, .ref 49]), .inl (0, 6, .inl (fun _ => 0)), .inl (0, 6, .inl (fun _ => 0)), .inl (0, 6, .inl (fun _ => 0)), .inl (0, 6, .inl (fun _ => 0)), .inl (0, 6, .inl (fun _ => 0)), .inl (0, 48, .inl (fun _ => 0)), .inl (0, 5, .inl (fun _ => 0)), .inl (0, 5, .inl (fun _ => 0)), .inl (0, 5, .inl (fun _ => 0)), .inl (0, 6, .inl (fun _ => 0))]
def cw_19 : List rc := [.inr (10, [.ref 1, .ref 9, .ref 21, .ref 27, .ref 28, .ref 39, .null, .null, .null, .null, .int 0, .int 0, .int 0]), .inr (3, [.int 0, .int 0, .int 0, .int 0, .int 1, .ref 2, .ref 3, .ref 4, .ref 5, .ref 6, .ref 7, .ref 8]), .inl (0, 5, .inl (fun _ => 0)), .inl (0, 5, .inl (fun _ => 0)), .inl (0, 5, .inl (fun _ => 0)), .inl (0, 6, .inl (fun _ => 0)), .inl (0, 6, .inl (fun _ => 0)), .inl (0, 6, .inl (fun _ => 0)), .inl (0, 6, .inl (fun _ => 0)), .inr (8, [.int 0, .ref 10, .ref 11, .ref 16, .ref 19, .ref 20]), .inl (0, 120, .inl (fun _ => 0)), .inr (5, [.ref 12, .int 0, .int 0, .ref 13]), .inl (0, 0, .inl (fun _ => 0)), .inr (7, [.int 0, .ref 14, .ref 15]), .inl (0, 242, .inl (fun _ => 0)), .inl (0, 242, .inl (fun _ => 0)), .inr (7, [.int 0, .ref 17, .ref 18]), .inl (0, 242, .inl (fun _ => 0)), .inl (0, 242, .inl (fun _ => 0)), .inl (0, 48, .inl (fun _ => 0)), .inl (2, 3600, .inl (fun _ => 0)), .inr (4, [.ref 1, .ref 9, .int 0, .int 0, .int 0, .int 0, .int 0, .int 0, .int 0, .int 0, .long 0, .ref 22, .ref 23, .ref 24, .ref 25, .ref 26]), .inl (1, 56, .inr (.inl (fun _ => 0))), .inl (1, 56, .inr (.inl (fun _ => 0))), .inl (1, 4, .inr (.inl (fun _ => 0))), .inl (1, 4, .inr (.inl (fun _ => 0))), .inl (1, 2048, .inr (.inl (fun _ => 0))), .inr (2, [.ref 1, .ref 9, .ref 21, .int 0]), .inr (9, [.int 0, .int 0, .ref 29, .ref 30, .ref 31, .ref 32, .ref 33, .ref 34, .ref 35, .ref 36, .ref 37, .ref 38]), .inl (0, 6, .inl (fun _ => 0)), .inl (0, 6, .inl (fun _ => 0)), .inl (0, 6, .inl (fun _ => 0)), .inl (0, 6, .inl (fun _ => 0)), .inl (0, 6, .inl (fun _ => 0)), .inl (0, 48, .inl (fun _ => 0)), .inl (0, 5, .inl (fun _ => 0)), .inl (0, 5, .inl (fun _ => 0)), .inl (0, 5, .inl (fun _ => 0)), .inl (0, 6, .inl (fun _ => 0)), .inr (9, [.int 0, .int 0, .ref 40, .ref 41, .ref 42, .ref 43, .ref 44, .ref 45, .ref 46, .ref 47, .ref 48, .ref 49]), .inl (0, 6, .inl (fun _ => 0)), .inl (0, 6, .inl (fun _ => 0)), .inl (0, 6, .inl (fun _ => 0)), .inl (0, 6, .inl (fun _ => 0)), .inl (0, 6, .inl (fun _ => 0)), .inl (0, 48, .inl (fun _ => 0)), .inl (0, 5, .inl (fun _ => 0)), .inl (0, 5, .inl (fun _ => 0)), .inl (0, 5, .inl (fun _ => 0)), .inl (0, 6, .inl (fun _ => 0)), .inr (9, [.int 0, .int 0, .null, .null, .null, .null, .null, .null, .null, .null, .null, .null])]
def cw_20 : List rc := [.inr (10, [.ref 1, .ref 9, .ref 21, .ref 27, .ref 28, .ref 39, .null, .null, .null, .null, .int 0, .int 0, .int 0]), .inr (3, [.int 0, .int 0, .int 0, .int 0, .int 1, .ref 2, .ref 3, .ref 4, .ref 5, .ref 6, .ref 7, .ref 8]), .inl (0, 5, .inl (fun _ => 0)), .inl (0, 5, .inl (fun _ => 0)), .inl (0, 5, .inl (fun _ => 0)), .inl (0, 6, .inl (fun _ => 0)), .inl (0, 6, .inl (fun _ => 0)), .inl (0, 6, .inl (fun _ => 0)), .inl (0, 6, .inl (fun _ => 0)), .inr (8, [.int 0, .ref 10, .ref 11, .ref 16, .ref 19, .ref 20]), .inl (0, 120, .inl (fun _ => 0)), .inr (5, [.ref 12, .int 0, .int 0, .ref 13]), .inl (0, 0, .inl (fun _ => 0)), .inr (7, [.int 0, .ref 14, .ref 15]), .inl (0, 242, .inl (fun _ => 0)), .inl (0, 242, .inl (fun _ => 0)), .inr (7, [.int 0, .ref 17, .ref 18]), .inl (0, 242, .inl (fun _ => 0)), .inl (0, 242, .inl (fun _ => 0)), .inl (0, 48, .inl (fun _ => 0)), .inl (2, 3600, .inl (fun _ => 0)), .inr (4, [.ref 1, .ref 9, .int 0, .int 0, .int 0, .int 0, .int 0, .int 0, .int 0, .int 0, .long 0, .ref 22, .ref 23, .ref 24, .ref 25, .ref 26]), .inl (1, 56, .inr (.inl (fun _ => 0))), .inl (1, 56, .inr (.inl (fun _ => 0))), .inl (1, 4, .inr (.inl (fun _ => 0))), .inl (1, 4, .inr (.inl (fun _ => 0))), .inl (1, 2048, .inr (.inl (fun _ => 0))), .inr (2, [.ref 1, .ref 9, .ref 21, .int 0]), .inr (9, [.int 0, .int 0, .ref 29, .ref 30, .ref 31, .ref 32, .ref 33, .ref 34, .ref 35, .ref 36, .ref 37, .ref 38]), .inl (0, 6, .inl (fun _ => 0)), .inl (0, 6, .inl (fun _ => 0)), .inl (0, 6, .inl (fun _ => 0)), .inl (0, 6, .inl (fun _ => 0)), .inl (0, 6, .inl (fun _ => 0)), .inl (0, 48, .inl (fun _ => 0)), .inl (0, 5, .inl (fun _ => 0)), .inl (0, 5, .inl (fun _ => 0)), .inl (0, 5, .inl (fun _ => 0)), .inl (0, 6, .inl (fun _ => 0)), .inr (9, [.int 0, .int 0, .ref 40, .ref 41, .ref 42, .ref 43, .ref 44, .ref 45, .ref 46, .ref 47, .ref 48, .ref 49]), .inl (0, 6, .inl (fun _ => 0)), .inl (0, 6, .inl (fun _ => 0)), .inl (0, 6, .inl (fun _ => 0)), .inl (0, 6, .inl (fun _ => 0)), .inl (0, 6, .inl (fun _ => 0)), .inl (0, 48, .inl (fun _ => 0)), .inl (0, 5, .inl (fun _ => 0)), .inl (0, 5, .inl (fun _ => 0)), .inl (0, 5, .inl (fun _ => 0)), .inl (0, 6, .inl (fun _ => 0)), .inr (9, [.int 0, .int 0, .ref 51, .ref 52, .ref 53, .ref 54, .ref 55, .ref 56, .ref 57, .ref 58, .ref 59, .ref 60]), .inl (0, 6, .inl (fun _ => 0)), .inl (0, 6, .inl (fun _ => 0)), .inl (0, 6, .inl (fun _ => 0)), .inl (0, 6, .inl (fun _ => 0)), .inl (0, 6, .inl (fun _ => 0)), .inl (0, 48, .inl (fun _ => 0)), .inl (0, 5, .inl (fun _ => 0)), .inl (0, 5, .inl (fun _ => 0)), .inl (0, 5, .inl (fun _ => 0)), .inl (0, 6, .inl (fun _ => 0))]
def cw_21 : List rc := [.inr (10, [.ref 1, .ref 9, .ref 21, .ref 27, .ref 28, .ref 39, .ref 50, .null, .null, .null, .int 0, .int 0, .int 0]), .inr (3, [.int 0, .int 0, .int 0, .int 0, .int 1, .ref 2, .ref 3, .ref 4, .ref 5, .ref 6, .ref 7, .ref 8]), .inl (0, 5, .inl (fun _ => 0)), .inl (0, 5, .inl (fun _ => 0)), .inl (0, 5, .inl (fun _ => 0)), .inl (0, 6, .inl (fun _ => 0)), .inl (0, 6, .inl (fun _ => 0)), .inl (0, 6, .inl (fun _ => 0)), .inl (0, 6, .inl (fun _ => 0)), .inr (8, [.int 0, .ref 10, .ref 11, .ref 16, .ref 19, .ref 20]), .inl (0, 120, .inl (fun _ => 0)), .inr (5, [.ref 12, .int 0, .int 0, .ref 13]), .inl (0, 0, .inl (fun _ => 0)), .inr (7, [.int 0, .ref 14, .ref 15]), .inl (0, 242, .inl (fun _ => 0)), .inl (0, 242, .inl (fun _ => 0)), .inr (7, [.int 0, .ref 17, .ref 18]), .inl (0, 242, .inl (fun _ => 0)), .inl (0, 242, .inl (fun _ => 0)), .inl (0, 48, .inl (fun _ => 0)), .inl (2, 3600, .inl (fun _ => 0)), .inr (4, [.ref 1, .ref 9, .int 0, .int 0, .int 0, .int 0, .int 0, .int 0, .int 0, .int 0, .long 0, .ref 22, .ref 23, .ref 24, .ref 25, .ref 26]), .inl (1, 56, .inr (.inl (fun _ => 0))), .inl (1, 56, .inr (.inl (fun _ => 0))), .inl (1, 4, .inr (.inl (fun _ => 0))), .inl (1, 4, .inr (.inl (fun _ => 0))), .inl (1, 2048, .inr (.inl (fun _ => 0))), .inr (2, [.ref 1, .ref 9, .ref 21, .int 0]), .inr (9, [.int 0, .int 0, .ref 29, .ref 30, .ref 31, .ref 32, .ref 33, .ref 34, .ref 35, .ref 36, .ref 37, .ref 38]), .inl (0, 6, .inl (fun _ => 0)), .inl (0, 6, .inl (fun _ => 0)), .inl (0, 6, .inl (fun _ => 0)), .inl (0, 6, .inl (fun _ => 0)), .inl (0, 6, .inl (fun _ => 0)), .inl (0, 48, .inl (fun _ => 0)), .inl (0, 5, .inl (fun _ => 0)), .inl (0, 5, .inl (fun _ => 0)), .inl (0, 5, .inl (fun _ => 0)), .inl (0, 6, .inl (fun _ => 0)), .inr (9, [.int 0, .int 0, .ref 40, .ref 41, .ref 42, .ref 43, .ref 44, .ref 45, .ref 46, .ref 47, .ref 48, .ref 49]), .inl (0, 6, .inl (fun _ => 0)), .inl (0, 6, .inl (fun _ => 0)), .inl (0, 6, .inl (fun _ => 0)), .inl (0, 6, .inl (fun _ => 0)), .inl (0, 6, .inl (fun _ => 0)), .inl (0, 48, .inl (fun _ => 0)), .inl (0, 5, .inl (fun _ => 0)), .inl (0, 5, .inl (fun _ => 0)), .inl (0, 5, .inl (fun _ => 0)), .inl (0, 6, .inl (fun _ => 0)), .inr (9, [.int 0, .int 0, .ref 51, .ref 52, .ref 53, .ref 54, .ref 55, .ref 56, .ref 57, .ref 58, .ref 59, .ref 60]), .inl (0, 6, .inl (fun _ => 0)), .inl (0, 6, .inl (fun _ => 0)), .inl (0, 6, .inl (fun _ => 0)), .inl (0, 6, .inl (fun _ => 0)), .inl (0, 6, .inl (fun _ => 0)), .inl (0, 48, .inl (fun _ => 0)), .inl (0, 5, .inl (fun _ => 0)), .inl (0, 5, .inl (fun _ => 0)), .inl (0, 5, .inl (fun _ => 0)), .inl (0, 6, .inl (fun _ => 0)), .inr (1, [.int 0, .int 0, .null, .null, .null, .null])]
def cw_22 : List rc := [.inr (10, [.ref 1, .ref 9, .ref 21, .ref 27, .ref 28, .ref 39, .ref 50, .null, .null, .null, .int 0, .int 0, .int 0]), .inr (3, [.int 0, .int 0, .int 0, .int 0, .int 1, .ref 2, .ref 3, .ref 4, .ref 5, .ref 6, .ref 7, .ref 8]), .inl (0, 5, .inl (fun _ => 0)), .inl (0, 5, .inl (fun _ => 0)), .inl (0, 5, .inl (fun _ => 0)), .inl (0, 6, .inl (fun _ => 0)), .inl (0, 6, .inl (fun _ => 0)), .inl (0, 6, .inl (fun _ => 0)), .inl (0, 6, .inl (fun _ => 0)), .inr (8, [.int 0, .ref 10, .ref 11, .ref 16, .ref 19, .ref 20]), .inl (0, 120, .inl (fun _ => 0)), .inr (5, [.ref 12, .int 0, .int 0, .ref 13]), .inl (0, 0, .inl (fun _ => 0)), .inr (7, [.int 0, .ref 14, .ref 15]), .inl (0, 242, .inl (fun _ => 0)), .inl (0, 242, .inl (fun _ => 0)), .inr (7, [.int 0, .ref 17, .ref 18]), .inl (0, 242, .inl (fun _ => 0)), .inl (0, 242, .inl (fun _ => 0)), .inl (0, 48, .inl (fun _ => 0)), .inl (2, 3600, .inl (fun _ => 0)), .inr (4, [.ref 1, .ref 9, .int 0, .int 0, .int 0, .int 0, .int 0, .int 0, .int 0, .int 0, .long 0, .ref 22, .ref 23, .ref 24, .ref 25, .ref 26]), .inl (1, 56, .inr (.inl (fun _ => 0))), .inl (1, 56, .inr (.inl (fun _ => 0))), .inl (1, 4, .inr (.inl (fun _ => 0))), .inl (1, 4, .inr (.inl (fun _ => 0))), .inl (1, 2048, .inr (.inl (fun _ => 0))), .inr (2, [.ref 1, .ref 9, .ref 21, .int 0]), .inr (9, [.int 0, .int 0, .ref 29, .ref 30, .ref 31, .ref 32, .ref 33, .ref 34, .ref 35, .ref 36, .ref 37, .ref 38]), .inl (0, 6, .inl (fun _ => 0)), .inl (0, 6, .inl (fun _ => 0)), .inl (0, 6, .inl (fun _ => 0)), .inl (0, 6, .inl (fun _ => 0)), .inl (0, 6, .inl (fun _ => 0)), .inl (0, 48, .inl (fun _ => 0)), .inl (0, 5, .inl (fun _ => 0)), .inl (0, 5, .inl (fun _ => 0)), .inl (0, 5, .inl (fun _ => 0)), .inl (0, 6, .inl (fun _ => 0)), .inr (9, [.int 0, .int 0, .ref 40, .ref 41, .ref 42, .ref 43, .ref 44, .ref 45, .ref 46, .ref 47, .ref 48, .ref 49]), .inl (0, 6, .inl (fun _ => 0)), .inl (0, 6, .inl (fun _ => 0)), .inl (0, 6, .inl (fun _ => 0)), .inl (0, 6, .inl (fun _ => 0)), .inl (0, 6, .inl (fun _ => 0)), .inl (0, 48, .inl (fun _ => 0)), .inl (0, 5, .inl (fun _ => 0)), .inl (0, 5, .inl (fun _ => 0)), .inl (0, 5, .inl (fun _ => 0)), .inl (0, 6, .inl (fun _ => 0)), .inr (9, [.int 0, .int 0, .ref 51, .ref 52, .ref 53, .ref 54, .ref 55, .ref 56, .ref 57, .ref 58, .ref 59, .ref 60]), .inl (0, 6, .inl (fun _ => 0)), .inl (0, 6, .inl (fun _ => 0)), .inl (0, 6, .inl (fun _ => 0)), .inl (0, 6, .inl (fun _ => 0)), .inl (0, 6, .inl (fun _ => 0)), .inl (0, 48, .inl (fun _ => 0)), .inl (0, 5, .inl (fun _ => 0)), .inl (0, 5, .inl (fun _ => 0)), .inl (0, 5, .inl (fun _ => 0)), .inl (0, 6, .inl (fun _ => 0)), .inr (1, [.int 0, .int 0, .ref 62, .ref 63, .ref 64, .ref 65]), .inl (0, 40, .inl (fun _ => 0)), .inl (0, 40, .inl (fun _ => 0)), .inl (0, 40, .inl (fun _ => 0)), .inl (0, 40, .inl (fun _ => 0))]
def cw_23 : List rc := [.inr (10, [.ref 1, .ref 9, .ref 21, .ref 27, .ref 28, .ref 39, .ref 50, .ref 61, .null, .null, .int 0, .int 0, .int 0]), .inr (3, [.int 0, .int 0, .int 0, .int 0, .int 1, .ref 2, .ref 3, .ref 4, .ref 5, .ref 6, .ref 7, .ref 8]), .inl (0, 5, .inl (fun _ => 0)), .inl (0, 5, .inl (fun _ => 0)), .inl (0, 5, .inl (fun _ => 0)), .inl (0, 6, .inl (fun _ => 0)), .inl (0, 6, .inl (fun _ => 0)), .inl (0, 6, .inl (fun _ => 0)), .inl (0, 6, .inl (fun _ => 0)), .inr (8, [.int 0, .ref 10, .ref 11, .ref 16, .ref 19, .ref 20]), .inl (0, 120, .inl (fun _ => 0)), .inr (5, [.ref 12, .int 0, .int 0, .ref 13]), .inl (0, 0, .inl (fun _ => 0)), .inr (7, [.int 0, .ref 14, .ref 15]), .inl (0, 242, .inl (fun _ => 0)), .inl (0, 242, .inl (fun _ => 0)), .inr (7, [.int 0, .ref 17, .ref 18]), .inl (0, 242, .inl (fun _ => 0)), .inl (0, 242, .inl (fun _ => 0)), .inl (0, 48, .inl (fun _ => 0)), .inl (2, 3600, .inl (fun _ => 0)), .inr (4, [.ref 1, .ref 9, .int 0, .int 0, .int 0, .int 0, .int 0, .int 0, .int 0, .int 0, .long 0, .ref 22, .ref 23, .ref 24, .ref 25, .ref 26]), .inl (1, 56, .inr (.inl (fun _ => 0))), .inl (1, 56, .inr (.inl (fun _ => 0))), .inl (1, 4, .inr (.inl (fun _ => 0))), .inl (1, 4, .inr (.inl (fun _ => 0))), .inl (1, 2048, .inr (.inl (fun _ => 0))), .inr (2, [.ref 1, .ref 9, .ref 21, .int 0]), .inr (9, [.int 0, .int 0, .ref 29, .ref 30, .ref 31, .ref 32, .ref 33, .ref 34, .ref 35, .ref 36, .ref 37, .ref 38]), .inl (0, 6, .inl (fun _ => 0)), .inl (0, 6, .inl (fun _ => 0)), .inl (0, 6, .inl (fun _ => 0)), .inl (0, 6, .inl (fun _ => 0)), .inl (0, 6, .inl (fun _ => 0)), .inl (0, 48, .inl (fun _ => 0)), .inl (0, 5, .inl (fun _ => 0)), .inl (0, 5, .inl (fun _ => 0)), .inl (0, 5, .inl (fun _ => 0)), .inl (0, 6, .inl (fun _ => 0)), .inr (9, [.int 0, .int 0, .ref 40, .ref 41, .ref 42, .ref 43, .ref 44, .ref 45, .ref 46, .ref 47, .ref 48, .ref 49]), .inl (0, 6, .inl (fun _ => 0)), .inl (0, 6, .inl (fun _ => 0)), .inl (0, 6, .inl (fun _ => 0)), .inl (0, 6, .inl (fun _ => 0)), .inl (0, 6, .inl (fun _ => 0)), .inl (0, 48, .inl (fun _ => 0)), .inl (0, 5, .inl (fun _ => 0)), .inl (0, 5, .inl (fun _ => 0)), .inl (0, 5, .inl (fun _ => 0)), .inl (0, 6, .inl (fun _ => 0)), .inr (9, [.int 0, .int 0, .ref 51, .ref 52, .ref 53, .ref 54, .ref 55, .ref 56, .ref 57, .ref 58, .ref 59, .ref 60]), .inl (0, 6, .inl (fun _ => 0)), .inl (0, 6, .inl (fun _ => 0)), .inl (0, 6, .inl (fun _ => 0)), .inl (0, 6, .inl (fun _ => 0)), .inl (0, 6, .inl (fun _ => 0)), .inl (0, 48, .inl (fun _ => 0)), .inl (0, 5, .inl (fun _ => 0)), .inl (0, 5, .inl (fun _ => 0)), .inl (0, 5, .inl (fun _ => 0)), .inl (0, 6, .inl (fun _ => 0)), .inr (1, [.int 0, .int 0, .ref 62, .ref 63, .ref 64, .ref 65]), .inl (0, 40, .inl (fun _ => 0)), .inl (0, 40, .inl (fun _ => 0)), .inl (0, 40, .inl (fun _ => 0)), .inl (0, 40, .inl (fun _ => 0)), .inr (0, [.int 0, .int 0, .null, .null, .int 0, .int 0])]
def cw_24 : List rc := [.inr (10, [.ref 1, .ref 9, .ref 21, .ref 27, .ref 28, .ref 39, .ref 50, .ref 61, .null, .null, .int 0, .int 0, .int 0]), .inr (3, [.int 0, .int 0, .int 0, .int 0, .int 1, .ref 2, .ref 3, .ref 4, .ref 5, .ref 6, .ref 7, .ref 8]), .inl (0, 5, .inl (fun _ => 0)), .inl (0, 5, .inl (fun _ => 0)), .inl (0, 5, .inl (fun _ => 0)), .inl (0, 6, .inl (fun _ => 0)), .inl (0, 6, .inl (fun _ => 0)), .inl (0, 6, .inl (fun _ => 0)), .inl (0, 6, .inl (fun _ => 0)), .inr (8, [.int 0, .ref 10, .ref 11, .ref 16, .ref 19, .ref 20]), .inl (0, 120, .inl (fun _ => 0)), .inr (5, [.ref 12, .int 0, .int 0, .ref 13]), .inl (0, 0, .inl (fun _ => 0)), .inr (7, [.int 0, .ref 14, .ref 15]), .inl (0, 242, .inl (fun _ => 0)), .inl (0, 242, .inl (fun _ => 0)), .inr (7, [.int 0, .ref 17, .ref 18]), .inl (0, 242, .inl (fun _ => 0)), .inl (0, 242, .inl (fun _ => 0)), .inl (0, 48, .inl (fun _ => 0)), .inl (2, 3600, .inl (fun _ => 0)), .inr (4, [.ref 1, .ref 9, .int 0, .int 0, .int 0, .int 0, .int 0, .int 0, .int 0, .int 0, .long 0, .ref 22, .ref 23, .ref 24, .ref 25, .ref 26]), .inl (1, 56, .inr (.inl (fun _ => 0))), .inl (1, 56, .inr (.inl (fun _ => 0))), .inl (1, 4, .inr (.inl (fun _ => 0))), .inl (1, 4, .inr (.inl (fun _ => 0))), .inl (1, 2048, .inr (.inl (fun _ => 0))), .inr (2, [.ref 1, .ref 9, .ref 21, .int 0]), .inr (9, [.int 0, .int 0, .ref 29, .ref 30, .ref 31, .ref 32, .ref 33, .ref 34, .ref 35, .ref 36, .ref 37, .ref 38]), .inl (0, 6, .inl (fun _ => 0)), .inl (0, 6, .inl (fun _ => 0)), .inl (0, 6, .inl (fun _ => 0)), .inl (0, 6, .inl (fun _ => 0)), .inl (0, 6, .inl (fun _ => 0)), .inl (0, 48, .inl (fun _ => 0)), .inl (0, 5, .inl (fun _ => 0)), .inl (0, 5, .inl (fun _ => 0)), .inl (0, 5, .inl (fun _ => 0)), .inl (0, 6, .inl (fun _ => 0)), .inr (9, [.int 0, .int 0, .ref 40, .ref 41, .ref 42, .ref 43, .ref 44, .ref 45, .ref 46, .ref 47, .ref 48, .ref 49]), .inl (0, 6, .inl (fun _ => 0)), .inl (0, 6, .inl (fun _ => 0)), .inl (0, 6, .inl (fun _ => 0)), .inl (0, 6, .inl (fun _ => 0)), .inl (0, 6, .inl (fun _ => 0)), .inl (0, 48, .inl (fun _ => 0)), .inl (0, 5, .inl (fun _ => 0)), .inl (0, 5, .inl (fun _ => 0)), .inl (0, 5, .inl (fun _ => 0)), .inl (0, 6, .inl (fun _ => 0)), .inr (9, [.int 0, .int 0, .ref 51, .ref 52, .ref 53, .ref 54, .ref 55, .ref 56, .ref 57, .ref 58, .ref 59, .ref 60]), .inl (0, 6, .inl (fun _ => 0)), .inl (0, 6, .inl (fun _ => 0)), .inl (0, 6, .inl (fun _ => 0)), .inl (0, 6, .inl (fun _ => 0)), .inl (0, 6, .inl (fun _ => 0)), .inl (0, 48, .inl (fun _ => 0)), .inl (0, 5, .inl (fun _ => 0)), .inl (0, 5, .inl (fun _ => 0)), .inl (0, 5, .inl (fun _ => 0)), .inl (0, 6, .inl (fun _ => 0)), .inr (1, [.int 0, .int 0, .ref 62, .ref 63, .ref 64, .ref 65]), .inl (0, 40, .inl (fun _ => 0)), .inl (0, 40, .inl (fun _ => 0)), .inl (0, 40, .inl (fun _ => 0)), .inl (0, 40, .inl (fun _ => 0)), .inr (0, [.int 0, .int 0, .ref 67, .ref 68, .int 0, .int 0]), .inl (0, 24, .inl (fun _ => 0)), .inl (0, 50, .inl (fun _ => 0))]
def cw_25 : List rc := [.inr (10, [.ref 1, .ref 9, .ref 21, .ref 27, .ref 28, .ref 39, .ref 50, .ref 61, .ref 66, .ref 69, .int 0, .int 0, .int (-1)]), .inr (3, [.int 0, .int 0, .int 0, .int 0, .int 1, .ref 2, .ref 3, .ref 4, .ref 5, .ref 6, .ref 7, .ref 8]), .inl (0, 5, .inl (fun _ => 0)), .inl (0, 5, .inl (fun _ => 0)), .inl (0, 5, .inl (fun _ => 0)), .inl (0, 6, .inl (fun _ => 0)), .inl (0, 6, .inl (fun _ => 0)), .inl (0, 6, .inl (fun _ => 0)), .inl (0, 6, .inl (fun _ => 0)), .inr (8, [.int 0, .ref 10, .ref 11, .ref 16, .ref 19, .ref 20]), .inl (0, 120, .inl (fun _ => 0)), .inr (5, [.ref 12, .int 0, .int 0, .ref 13]), .inl (0, 0, .inl (fun _ => 0)), .inr (7, [.int 0, .ref 14, .ref 15]), .inl (0, 242, .inl (fun _ => 0)), .inl (0, 242, .inl (fun _ => 0)), .inr (7, [.int 0, .ref 17, .ref 18]), .inl (0, 242, .inl (fun _ => 0)), .inl (0, 242, .inl (fun _ => 0)), .inl (0, 48, .inl (fun _ => 0)), .inl (2, 3600, .inl (fun _ => 0)), .inr (4, [.ref 1, .ref 9, .int 0, .int 0, .int 0, .int 0, .int 0, .int 0, .int 0, .int 0, .long 0, .ref 22, .ref 23, .ref 24, .ref 25, .ref 26]), .inl (1, 56, .inr (.inl (fun _ => 0))), .inl (1, 56, .inr (.inl (fun _ => 0))), .inl (1, 4, .inr (.inl (fun _ => 0))), .inl (1, 4, .inr (.inl (fun _ => 0))), .inl (1, 2048, .inr (.inl (fun _ => 0))), .inr (2, [.ref 1, .ref 9, .ref 21, .int 0]), .inr (9, [.int 0, .int 0, .ref 29, .ref 30, .ref 31, .ref 32, .ref 33, .ref 34, .ref 35, .ref 36, .ref 37, .ref 38]), .inl (0, 6, .inl (fun _ => 0)), .inl (0, 6, .inl (fun _ => 0)), .inl (0, 6, .inl (fun _ => 0)), .inl (0, 6, .inl (fun _ => 0)), .inl (0, 6, .inl (fun _ => 0)), .inl (0, 48, .inl (fun _ => 0)), .inl (0, 5, .inl (fun _ => 0)), .inl (0, 5, .inl (fun _ => 0)), .inl (0, 5, .inl (fun _ => 0)), .inl (0, 6, .inl (fun _ => 0)), .inr (9, [.int 0, .int 0, .ref 40, .ref 41, .ref 42, .ref 43, .ref 44, .ref 45, .ref 46, .ref 47, .ref 48, .ref 49]), .inl (0, 6, .inl (fun _ => 0)), .inl (0, 6, .inl (fun _ => 0)), .inl (0, 6, .inl (fun _ => 0)), .inl (0, 6, .inl (fun _ => 0)), .inl (0, 6, .inl (fun _ => 0)), .inl (0, 48, .inl (fun _ => 0)), .inl (0, 5, .inl (fun _ => 0)), .inl (0, 5, .inl (fun _ => 0)), .inl (0, 5, .inl (fun _ => 0)), .inl (0, 6, .inl (fun _ => 0)), .inr (9, [.int 0, .int 0, .ref 51, .ref 52, .ref 53, .ref 54, .ref 55, .ref 56, .ref 57, .ref 58, .ref 59, .ref 60]), .inl (0, 6, .inl (fun _ => 0)), .inl (0, 6, .inl (fun _ => 0)), .inl (0, 6, .inl (fun _ => 0)), .inl (0, 6, .inl (fun _ => 0)), .inl (0, 6, .inl (fun _ => 0)), .inl (0, 48, .inl (fun _ => 0)), .inl (0, 5, .inl (fun _ => 0)), .inl (0, 5, .inl (fun _ => 0)), .inl (0, 5, .inl (fun _ => 0)), .inl (0, 6, .inl (fun _ => 0)), .inr (1, [.int 0, .int 0, .ref 62, .ref 63, .ref 64, .ref 65]), .inl (0, 40, .inl (fun _ => 0)), .inl (0, 40, .inl (fun _ => 0)), .inl (0, 40, .inl (fun _ => 0)), .inl (0, 40, .inl (fun _ => 0)), .inr (0, [.int 0, .int 0, .ref 67, .ref 68, .int 0, .int 0]), .inl (0, 24, .inl (fun _ => 0)), .inl (0, 50, .inl (fun _ => 0)), .inl (4, 6, .inr (.inr (fun _ => none))), .inr (6, [.int 0, .int 0, .int 0, .int 0, .null])]
def cw_26 : List rc := [.inr (10, [.ref 1, .ref 9, .ref 21, .ref 27, .ref 28, .ref 39, .ref 50, .ref 61, .ref 66, .ref 69, .int 0, .int 0, .int (-1)]), .inr (3, [.int 0, .int 0, .int 0, .int 0, .int 1, .ref 2, .ref 3, .ref 4, .ref 5, .ref 6, .ref 7, .ref 8]), .inl (0, 5, .inl (fun _ => 0)), .inl (0, 5, .inl (fun _ => 0)), .inl (0, 5, .inl (fun _ => 0)), .inl (0, 6, .inl (fun _ => 0)), .inl (0, 6, .inl (fun _ => 0)), .inl (0, 6, .inl (fun _ => 0)), .inl (0, 6, .inl (fun _ => 0)), .inr (8, [.int 0, .ref 10, .ref 11, .ref 16, .ref 19, .ref 20]), .inl (0, 120, .inl (fun _ => 0)), .inr (5, [.ref 12, .int 0, .int 0, .ref 13]), .inl (0, 0, .inl (fun _ => 0)), .inr (7, [.int 0, .ref 14, .ref 15]), .inl (0, 242, .inl (fun _ => 0)), .inl (0, 242, .inl (fun _ => 0)), .inr (7, [.int 0, .ref 17, .ref 18]), .inl (0, 242, .inl (fun _ => 0)), .inl (0, 242, .inl (fun _ => 0)), .inl (0, 48, .inl (fun _ => 0)), .inl (2, 3600, .inl (fun _ => 0)), .inr (4, [.ref 1, .ref 9, .int 0, .int 0, .int 0, .int 0, .int 0, .int 0, .int 0, .int 0, .long 0, .ref 22, .ref 23, .ref 24, .ref 25, .ref 26]), .inl (1, 56, .inr (.inl (fun _ => 0))), .inl (1, 56, .inr (.inl (fun _ => 0))), .inl (1, 4, .inr (.inl (fun _ => 0))), .inl (1, 4, .inr (.inl (fun _ => 0))), .inl (1, 2048, .inr (.inl (fun _ => 0))), .inr (2, [.ref 1, .ref 9, .ref 21, .int 0]), .inr (9, [.int 0, .int 0, .ref 29, .ref 30, .ref 31, .ref 32, .ref 33, .ref 34, .ref 35, .ref 36, .ref 37, .ref 38]), .inl (0, 6, .inl (fun _ => 0)), .inl (0, 6, .inl (fun _ => 0)), .inl (0, 6, .inl (fun _ => 0)), .inl (0, 6, .inl (fun _ => 0)), .inl (0, 6, .inl (fun _ => 0)), .inl (0, 48, .inl (fun _ => 0)), .inl (0, 5, .inl (fun _ => 0)), .inl (0, 5, .inl (fun _ => 0)), .inl (0, 5, .inl (fun _ => 0)), .inl (0, 6, .inl (fun _ => 0)), .inr (9, [.int 0, .int 0, .ref 40, .ref 41, .ref 42, .ref 43, .ref 44, .ref 45, .ref 46, .ref 47, .ref 48, .ref 49]), .inl (0, 6, .inl (fun _ => 0)), .inl (0, 6, .inl (fun _ => 0)), .inl (0, 6, .inl (fun _ => 0)), .inl (0, 6, .inl (fun _ => 0)), .inl (0, 6, .inl (fun _ => 0)), .inl (0, 48, .inl (fun _ => 0)), .inl (0, 5, .inl (fun _ => 0)), .inl (0, 5, .inl (fun _ => 0)), .inl (0, 5, .inl (fun _ => 0)), .inl (0, 6, .inl (fun _ => 0)), .inr (9, [.int 0, .int 0, .ref 51, .ref 52, .ref 53, .ref 54, .ref 55, .ref 56, .ref 57, .ref 58, .ref 59, .ref 60]), .inl (0, 6, .inl (fun _ => 0)), .inl (0, 6, .inl (fun _ => 0)), .inl (0, 6, .inl (fun _ => 0)), .inl (0, 6, .inl (fun _ => 0)), .inl (0, 6, .inl (fun _ => 0)), .inl (0, 48, .inl (fun _ => 0)), .inl (0, 5, .inl (fun _ => 0)), .inl (0, 5, .inl (fun _ => 0)), .inl (0, 5, .inl (fun _ => 0)), .inl (0, 6, .inl (fun _ => 0)), .inr (1, [.int 0, .int 0, .ref 62, .ref 63, .ref 64, .ref 65]), .inl (0, 40, .inl (fun _ => 0)), .inl (0, 40, .inl (fun _ => 0)), .inl (0, 40, .inl (fun _ => 0)), .inl (0, 40, .inl (fun _ => 0)), .inr (0, [.int 0, .int 0, .ref 67, .ref 68, .int 0, .int 0]), .inl (0, 24, .inl (fun _ => 0)), .inl (0, 50, .inl (fun _ => 0)), .inl (4, 6, .inr (.inr (fun _ => none))), .inr (6, [.int 0, .int 0, .int 0, .int 0, .ref 71]), .inl (1, 60, .inr (.inl (fun _ => 0)))]
def cw_27 : List rc := [.inr (10, [.ref 1, .ref 9, .ref 21, .ref 27, .ref 28, .ref 39, .ref 50, .ref 61, .ref 66, .ref 69, .int 0, .int 0, .int (-1)]), .inr (3, [.int 0, .int 0, .int 0, .int 0, .int 1, .ref 2, .ref 3, .ref 4, .ref 5, .ref 6, .ref 7, .ref 8]), .inl (0, 5, .inl (fun _ => 0)), .inl (0, 5, .inl (fun _ => 0)), .inl (0, 5, .inl (fun _ => 0)), .inl (0, 6, .inl (fun _ => 0)), .inl (0, 6, .inl (fun _ => 0)), .inl (0, 6, .inl (fun _ => 0)), .inl (0, 6, .inl (fun _ => 0)), .inr (8, [.int 0, .ref 10, .ref 11, .ref 16, .ref 19, .ref 20]), .inl (0, 120, .inl (fun _ => 0)), .inr (5, [.ref 12, .int 0, .int 0, .ref 13]), .inl (0, 0, .inl (fun _ => 0)), .inr (7, [.int 0, .ref 14, .ref 15]), .inl (0, 242, .inl (fun _ => 0)), .inl (0, 242, .inl (fun _ => 0)), .inr (7, [.int 0, .ref 17, .ref 18]), .inl (0, 242, .inl (fun _ => 0)), .inl (0, 242, .inl (fun _ => 0)), .inl (0, 48, .inl (fun _ => 0)), .inl (2, 3600, .inl (fun _ => 0)), .inr (4, [.ref 1, .ref 9, .int 0, .int 0, .int 0, .int 0, .int 0, .int 0, .int 0, .int 0, .long 0, .ref 22, .ref 23, .ref 24, .ref 25, .ref 26]), .inl (1, 56, .inr (.inl (fun _ => 0))), .inl (1, 56, .inr (.inl (fun _ => 0))), .inl (1, 4, .inr (.inl (fun _ => 0))), .inl (1, 4, .inr (.inl (fun _ => 0))), .inl (1, 2048, .inr (.inl (fun _ => 0))), .inr (2, [.ref 1, .ref 9, .ref 21, .int 0]), .inr (9, [.int 0, .int 0, .ref 29, .ref 30, .ref 31, .ref 32, .ref 33, .ref 34, .ref 35, .ref 36, .ref 37, .ref 38]), .inl (0, 6, .inl (fun _ => 0)), .inl (0, 6, .inl (fun _ => 0)), .inl (0, 6, .inl (fun _ => 0)), .inl (0, 6, .inl (fun _ => 0)), .inl (0, 6, .inl (fun _ => 0)), .inl (0, 48, .inl (fun _ => 0)), .inl (0, 5, .inl (fun _ => 0)), .inl (0, 5, .inl (fun _ => 0)), .inl (0, 5, .inl (fun _ => 0)), .inl (0, 6, .inl (fun _ => 0)), .inr (9, [.int 0, .int 0, .ref 40, .ref 41, .ref 42, .ref 43, .ref 44, .ref 45, .ref 46, .ref 47, .ref 48, .ref 49]), .inl (0, 6, .inl (fun _ => 0)), .inl (0, 6, .inl (fun _ => 0)), .inl (0, 6, .inl (fun _ => 0)), .inl (0, 6, .inl (fun _ => 0)), .inl (0, 6, .inl (fun _ => 0)), .inl (0, 48, .inl (fun _ => 0)), .inl (0, 5, .inl (fun _ => 0)), .inl (0, 5, .inl (fun _ => 0)), .inl (0, 5, .inl (fun _ => 0)), .inl (0, 6, .inl (fun _ => 0)), .inr (9, [.int 0, .int 0, .ref 51, .ref 52, .ref 53, .ref 54, .ref 55, .ref 56, .ref 57, .ref 58, .ref 59, .ref 60]), .inl (0, 6, .inl (fun _ => 0)), .inl (0, 6, .inl (fun _ => 0)), .inl (0, 6, .inl (fun _ => 0)), .inl (0, 6, .inl (fun _ => 0)), .inl (0, 6, .inl (fun _ => 0)), .inl (0, 48, .inl (fun _ => 0)), .inl (0, 5, .inl (fun _ => 0)), .inl (0, 5, .inl (fun _ => 0)), .inl (0, 5, .inl (fun _ => 0)), .inl (0, 6, .inl (fun _ => 0)), .inr (1, [.int 0, .int 0, .ref 62, .ref 63, .ref 64, .ref 65]), .inl (0, 40, .inl (fun _ => 0)), .inl (0, 40, .inl (fun _ => 0)), .inl (0, 40, .inl (fun _ => 0)), .inl (0, 40, .inl (fun _ => 0)), .inr (0, [.int 0, .int 0, .ref 67, .ref 68, .int 0, .int 0]), .inl (0, 24, .inl (fun _ => 0)), .inl (0, 50, .inl (fun _ => 0)), .inl (4, 6, .inr (.inr (va_up (fun _ => none) (0 : Int32).toNatClampNeg (some 70)))), .inr (6, [.int 0, .int 0, .int 0, .int 0, .ref 71]), .inl (1, 60, .inr (.inl (fun _ => 0))), .inr (6, [.int 0, .int 0, .int 0, .int 0, .null])]
def cw_28 : List rc := [.inr (10, [.ref 1, .ref 9, .ref 21, .ref 27, .ref 28, .ref 39, .ref 50, .ref 61, .ref 66, .ref 69, .int 0, .int 0, .int (-1)]), .inr (3, [.int 0, .int 0, .int 0, .int 0, .int 1, .ref 2, .ref 3, .ref 4, .ref 5, .ref 6, .ref 7, .ref 8]), .inl (0, 5, .inl (fun _ => 0)), .inl (0, 5, .inl (fun _ => 0)), .inl (0, 5, .inl (fun _ => 0)), .inl (0, 6, .inl (fun _ => 0)), .inl (0, 6, .inl (fun _ => 0)), .inl (0, 6, .inl (fun _ => 0)), .inl (0, 6, .inl (fun _ => 0)), .inr (8, [.int 0, .ref 10, .ref 11, .ref 16, .ref 19, .ref 20]), .inl (0, 120, .inl (fun _ => 0)), .inr (5, [.ref 12, .int 0, .int 0, .ref 13]), .inl (0, 0, .inl (fun _ => 0)), .inr (7, [.int 0, .ref 14, .ref 15]), .inl (0, 242, .inl (fun _ => 0)), .inl (0, 242, .inl (fun _ => 0)), .inr (7, [.int 0, .ref 17, .ref 18]), .inl (0, 242, .inl (fun _ => 0)), .inl (0, 242, .inl (fun _ => 0)), .inl (0, 48, .inl (fun _ => 0)), .inl (2, 3600, .inl (fun _ => 0)), .inr (4, [.ref 1, .ref 9, .int 0, .int 0, .int 0, .int 0, .int 0, .int 0, .int 0, .int 0, .long 0, .ref 22, .ref 23, .ref 24, .ref 25, .ref 26]), .inl (1, 56, .inr (.inl (fun _ => 0))), .inl (1, 56, .inr (.inl (fun _ => 0))), .inl (1, 4, .inr (.inl (fun _ => 0))), .inl (1, 4, .inr (.inl (fun _ => 0))), .inl (1, 2048, .inr (.inl (fun _ => 0))), .inr (2, [.ref 1, .ref 9, .ref 21, .int 0]), .inr (9, [.int 0, .int 0, .ref 29, .ref 30, .ref 31, .ref 32, .ref 33, .ref 34, .ref 35, .ref 36, .ref 37, .ref 38]), .inl (0, 6, .inl (fun _ => 0)), .inl (0, 6, .inl (fun _ => 0)), .inl (0, 6, .inl (fun _ => 0)), .inl (0, 6, .inl (fun _ => 0)), .inl (0, 6, .inl (fun _ => 0)), .inl (0, 48, .inl (fun _ => 0)), .inl (0, 5, .inl (fun _ => 0)), .inl (0, 5, .inl (fun _ => 0)), .inl (0, 5, .inl (fun _ => 0)), .inl (0, 6, .inl (fun _ => 0)), .inr (9, [.int 0, .int 0, .ref 40, .ref 41, .ref 42, .ref 43, .ref 44, .ref 45, .ref 46, .ref 47, .ref 48, .ref 49]), .inl (0, 6, .inl (fun _ => 0)), .inl (0, 6, .inl (fun _ => 0)), .inl (0, 6, .inl (fun _ => 0)), .inl (0, 6, .inl (fun _ => 0)), .inl (0, 6, .inl (fun _ => 0)), .inl (0, 48, .inl (fun _ => 0)), .inl (0, 5, .inl (fun _ => 0)), .inl (0, 5, .inl (fun _ => 0)), .inl (0, 5, .inl (fun _ => 0)), .inl (0, 6, .inl (fun _ => 0)), .inr (9, [.int 0, .int 0, .ref 51, .ref 52, .ref 53, .ref 54, .ref 55, .ref 56, .ref 57, .ref 58, .ref 59, .ref 60]), .inl (0, 6, .inl (fun _ => 0)), .inl (0, 6, .inl (fun _ => 0)), .inl (0, 6, .inl (fun _ => 0)), .inl (0, 6, .inl (fun _ => 0)), .inl (0, 6, .inl (fun _ => 0)), .inl (0, 48, .inl (fun _ => 0)), .inl (0, 5, .inl (fun _ => 0)), .inl (0, 5, .inl (fun _ => 0)), .inl (0, 5, .inl (fun _ => 0)), .inl (0, 6, .inl (fun _ => 0)), .inr (1, [.int 0, .int 0, .ref 62, .ref 63, .ref 64, .ref 65]), .inl (0, 40, .inl (fun _ => 0)), .inl (0, 40, .inl (fun _ => 0)), .inl (0, 40, .inl (fun _ => 0)), .inl (0, 40, .inl (fun _ => 0)), .inr (0, [.int 0, .int 0, .ref 67, .ref 68, .int 0, .int 0]), .inl (0, 24, .inl (fun _ => 0)), .inl (0, 50, .inl (fun _ => 0)), .inl (4, 6, .inr (.inr (va_up (fun _ => none) (0 : Int32).toNatClampNeg (some 70)))), .inr (6, [.int 0, .int 0, .int 0, .int 0, .ref 71]), .inl (1, 60, .inr (.inl (fun _ => 0))), .inr (6, [.int 0, .int 0, .int 0, .int 0, .ref 73]), .inl (1, 60, .inr (.inl (fun _ => 0)))]
def cw_29 : List rc := [.inr (10, [.ref 1, .ref 9, .ref 21, .ref 27, .ref 28, .ref 39, .ref 50, .ref 61, .ref 66, .ref 69, .int 0, .int 0, .int (-1)]), .inr (3, [.int 0, .int 0, .int 0, .int 0, .int 1, .ref 2, .ref 3, .ref 4, .ref 5, .ref 6, .ref 7, .ref 8]), .inl (0, 5, .inl (fun _ => 0)), .inl (0, 5, .inl (fun _ => 0)), .inl (0, 5, .inl (fun _ => 0)), .inl (0, 6, .inl (fun _ => 0)), .inl (0, 6, .inl (fun _ => 0)), .inl (0, 6, .inl (fun _ => 0)), .inl (0, 6, .inl (fun _ => 0)), .inr (8, [.int 0, .ref 10, .ref 11, .ref 16, .ref 19, .ref 20]), .inl (0, 120, .inl (fun _ => 0)), .inr (5, [.ref 12, .int 0, .int 0, .ref 13]), .inl (0, 0, .inl (fun _ => 0)), .inr (7, [.int 0, .ref 14, .ref 15]), .inl (0, 242, .inl (fun _ => 0)), .inl (0, 242, .inl (fun _ => 0)), .inr (7, [.int 0, .ref 17, .ref 18]), .inl (0, 242, .inl (fun _ => 0)), .inl (0, 242, .inl (fun _ => 0)), .inl (0, 48, .inl (fun _ => 0)), .inl (2, 3600, .inl (fun _ => 0)), .inr (4, [.ref 1, .ref 9, .int 0, .int 0, .int 0, .int 0, .int 0, .int 0, .int 0, .int 0, .long 0, .ref 22, .ref 23, .ref 24, .ref 25, .ref 26]), .inl (1, 56, .inr (.inl (fun _ => 0))), .inl (1, 56, .inr (.inl (fun _ => 0))), .inl (1, 4, .inr (.inl (fun _ => 0))), .inl (1, 4, .inr (.inl (fun _ => 0))), .inl (1, 2048, .inr (.inl (fun _ => 0))), .inr (2, [.ref 1, .ref 9, .ref 21, .int 0]), .inr (9, [.int 0, .int 0, .ref 29, .ref 30, .ref 31, .ref 32, .ref 33, .ref 34, .ref 35, .ref 36, .ref 37, .ref 38]), .inl (0, 6, .inl (fun _ => 0)), .inl (0, 6, .inl (fun _ => 0)), .inl (0, 6, .inl (fun _ => 0)), .inl (0, 6, .inl (fun _ => 0)), .inl (0, 6, .inl (fun _ => 0)), .inl (0, 48, .inl (fun _ => 0)), .inl (0, 5, .inl (fun _ => 0)), .inl (0, 5, .inl (fun _ => 0)), .inl (0, 5, .inl (fun _ => 0)), .inl (0, 6, .inl (fun _ => 0)), .inr (9, [.int 0, .int 0, .ref 40, .ref 41, .ref 42, .ref 43, .ref 44, .ref 45, .ref 46, .ref 47, .ref 48, .ref 49]), .inl (0, 6, .inl (fun _ => 0)), .inl (0, 6, .inl (fun _ => 0)), .inl (0, 6, .inl (fun _ => 0)), .inl (0, 6, .inl (fun _ => 0)), .inl (0, 6, .inl (fun _ => 0)), .inl (0, 48, .inl (fun _ => 0)), .inl (0, 5, .inl (fun _ => 0)), .inl (0, 5, .inl (fun _ => 0)), .inl (0, 5, .inl (fun _ => 0)), .inl (0, 6, .inl (fun _ => 0)), .inr (9, [.int 0, .int 0, .ref 51, .ref 52, .ref 53, .ref 54, .ref 55, .ref 56, .ref 57, .ref 58, .ref 59, .ref 60]), .inl (0, 6, .inl (fun _ => 0)), .inl (0, 6, .inl (fun _ => 0)), .inl (0, 6, .inl (fun _ => 0)), .inl (0, 6, .inl (fun _ => 0)), .inl (0, 6, .inl (fun _ => 0)), .inl (0, 48, .inl (fun _ => 0)), .inl (0, 5, .inl (fun _ => 0)), .inl (0, 5, .inl (fun _ => 0)), .inl (0, 5, .inl (fun _ => 0)), .inl (0, 6, .inl (fun _ => 0)), .inr (1, [.int 0, .int 0, .ref 62, .ref 63, .ref 64, .ref 65]), .inl (0, 40, .inl (fun _ => 0)), .inl (0, 40, .inl (fun _ => 0)), .inl (0, 40, .inl (fun _ => 0)), .inl (0, 40, .inl (fun _ => 0)), .inr (0, [.int 0, .int 0, .ref 67, .ref 68, .int 0, .int 0]), .inl (0, 24, .inl (fun _ => 0)), .inl (0, 50, .inl (fun _ => 0)), .inl (4, 6, .inr (.inr (va_up (va_up (fun _ => none) (0 : Int32).toNatClampNeg (some 70)) (1 : Int32).toNatClampNeg (some 72)))), .inr (6, [.int 0, .int 0, .int 0, .int 0, .ref 71]), .inl (1, 60, .inr (.inl (fun _ => 0))), .inr (6, [.int 0, .int 0, .int 0, .int 0, .ref 73]), .inl (1, 60, .inr (.inl (fun _ => 0))), .inr (6, [.int 0, .int 0, .int 0, .int 0, .null])]
def cw_30 : List rc := [.inr (10, [.ref 1, .ref 9, .ref 21, .ref 27, .ref 28, .ref 39, .ref 50, .ref 61, .ref 66, .ref 69, .int 0, .int 0, .int (-1)]), .inr (3, [.int 0, .int 0, .int 0, .int 0, .int 1, .ref 2, .ref 3, .ref 4, .ref 5, .ref 6, .ref 7, .ref 8]), .inl (0, 5, .inl (fun _ => 0)), .inl (0, 5, .inl (fun _ => 0)), .inl (0, 5, .inl (fun _ => 0)), .inl (0, 6, .inl (fun _ => 0)), .inl (0, 6, .inl (fun _ => 0)), .inl (0, 6, .inl (fun _ => 0)), .inl (0, 6, .inl (fun _ => 0)), .inr (8, [.int 0, .ref 10, .ref 11, .ref 16, .ref 19, .ref 20]), .inl (0, 120, .inl (fun _ => 0)), .inr (5, [.ref 12, .int 0, .int 0, .ref 13]), .inl (0, 0, .inl (fun _ => 0)), .inr (7, [.int 0, .ref 14, .ref 15]), .inl (0, 242, .inl (fun _ => 0)), .inl (0, 242, .inl (fun _ => 0)), .inr (7, [.int 0, .ref 17, .ref 18]), .inl (0, 242, .inl (fun _ => 0)), .inl (0, 242, .inl (fun _ => 0)), .inl (0, 48, .inl (fun _ => 0)), .inl (2, 3600, .inl (fun _ => 0)), .inr (4, [.ref 1, .ref 9, .int 0, .int 0, .int 0, .int 0, .int 0, .int 0, .int 0, .int 0, .long 0, .ref 22, .ref 23, .ref 24, .ref 25, .ref 26]), .inl (1, 56, .inr (.inl (fun _ => 0))), .inl (1, 56, .inr (.inl (fun _ => 0))), .inl (1, 4, .inr (.inl (fun _ => 0))), .inl (1, 4, .inr (.inl (fun _ => 0))), .inl (1, 2048, .inr (.inl (fun _ => 0))), .inr (2, [.ref 1, .ref 9, .ref 21, .int 0]), .inr (9, [.int 0, .int 0, .ref 29, .ref 30, .ref 31, .ref 32, .ref 33, .ref 34, .ref 35, .ref 36, .ref 37, .ref 38]), .inl (0, 6, .inl (fun _ => 0)), .inl (0, 6, .inl (fun _ => 0)), .inl (0, 6, .inl (fun _ => 0)), .inl (0, 6, .inl (fun _ => 0)), .inl (0, 6, .inl (fun _ => 0)), .inl (0, 48, .inl (fun _ => 0)), .inl (0, 5, .inl (fun _ => 0)), .inl (0, 5, .inl (fun _ => 0)), .inl (0, 5, .inl (fun _ => 0)), .inl (0, 6, .inl (fun _ => 0)), .inr (9, [.int 0, .int 0, .ref 40, .ref 41, .ref 42, .ref 43, .ref 44, .ref 45, .ref 46, .ref 47, .ref 48, .ref 49]), .inl (0, 6, .inl (fun _ => 0)), .inl (0, 6, .inl (fun _ => 0)), .inl (0, 6, .inl (fun _ => 0)), .inl (0, 6, .inl (fun _ => 0)), .inl (0, 6, .inl (fun _ => 0)), .inl (0, 48, .inl (fun _ => 0)), .inl (0, 5, .inl (fun _ => 0)), .inl (0, 5, .inl (fun _ => 0)), .inl (0, 5, .inl (fun _ => 0)), .inl (0, 6, .inl (fun _ => 0)), .inr (9, [.int 0, .int 0, .ref 51, .ref 52, .ref 53, .ref 54, .ref 55, .ref 56, .ref 57, .ref 58, .ref 59, .ref 60]), .inl (0, 6, .inl (fun _ => 0)), .inl (0, 6, .inl (fun _ => 0)), .inl (0, 6, .inl (fun _ => 0)), .inl (0, 6, .inl (fun _ => 0)), .inl (0, 6, .inl (fun _ => 0)), .inl (0, 48, .inl (fun _ => 0)), .inl (0, 5, .inl (fun _ => 0)), .inl (0, 5, .inl (fun _ => 0)), .inl (0, 5, .inl (fun _ => 0)), .inl (0, 6, .inl (fun _ => 0)), .inr (1, [.int 0, .int 0, .ref 62, .ref 63, .ref 64, .ref 65]), .inl (0, 40, .inl (fun _ => 0)), .inl (0, 40, .inl (fun _ => 0)), .inl (0, 40, .inl (fun _ => 0)), .inl (0, 40, .inl (fun _ => 0)), .inr (0, [.int 0, .int 0, .ref 67, .ref 68, .int 0, .int 0]), .inl (0, 24, .inl (fun _ => 0)), .inl (0, 50, .inl (fun _ => 0)), .inl (4, 6, .inr (.inr (va_up (va_up (fun _ => none) (0 : Int32).toNatClampNeg (some 70)) (1 : Int32).toNatClampNeg (some 72)))), .inr (6, [.int 0, .int 0, .int 0, .int 0, .ref 71]), .inl (1, 60, .inr (.inl (fun _ => 0))), .inr (6, [.int 0, .int 0, .int 0, .int 0, .ref 73]), .inl (1, 60, .inr (.inl (fun _ => 0))), .inr (6, [.int 0, .int 0, .int 0, .int 0, .ref 75]), .inl (1, 60, .inr (.inl (fun _ => 0)))]
def cw_31 : List rc := [.inr (10, [.ref 1, .ref 9, .ref 21, .ref 27, .ref 28, .ref 39, .ref 50, .ref 61, .ref 66, .ref 69, .int 0, .int 0, .int (-1)]), .inr (3, [.int 0, .int 0, .int 0, .int 0, .int 1, .ref 2, .ref 3, .ref 4, .ref 5, .ref 6, .ref 7, .ref 8]), .inl (0, 5, .inl (fun _ => 0)), .inl (0, 5, .inl (fun _ => 0)), .inl (0, 5, .inl (fun _ => 0)), .inl (0, 6, .inl (fun _ => 0)), .inl (0, 6, .inl (fun _ => 0)), .inl (0, 6, .inl (fun _ => 0)), .inl (0, 6, .inl (fun _ => 0)), .inr (8, [.int 0, .ref 10, .ref 11, .ref 16, .ref 19, .ref 20]), .inl (0, 120, .inl (fun _ => 0)), .inr (5, [.ref 12, .int 0, .int 0, .ref 13]), .inl (0, 0, .inl (fun _ => 0)), .inr (7, [.int 0, .ref 14, .ref 15]), .inl (0, 242, .inl (fun _ => 0)), .inl (0, 242, .inl (fun _ => 0)), .inr (7, [.int 0, .ref 17, .ref 18]), .inl (0, 242, .inl (fun _ => 0)), .inl (0, 242, .inl (fun _ => 0)), .inl (0, 48, .inl (fun _ => 0)), .inl (2, 3600, .inl (fun _ => 0)), .inr (4, [.ref 1, .ref 9, .int 0, .int 0, .int 0, .int 0, .int 0, .int 0, .int 0, .int 0, .long 0, .ref 22, .ref 23, .ref 24, .ref 25, .ref 26]), .inl (1, 56, .inr (.inl (fun _ => 0))), .inl (1, 56, .inr (.inl (fun _ => 0))), .inl (1, 4, .inr (.inl (fun _ => 0))), .inl (1, 4, .inr (.inl (fun _ => 0))), .inl (1, 2048, .inr (.inl (fun _ => 0))), .inr (2, [.ref 1, .ref 9, .ref 21, .int 0]), .inr (9, [.int 0, .int 0, .ref 29, .ref 30, .ref 31, .ref 32, .ref 33, .ref 34, .ref 35, .ref 36, .ref 37, .ref 38]), .inl (0, 6, .inl (fun _ => 0)), .inl (0, 6, .inl (fun _ => 0)), .inl (0, 6, .inl (fun _ => 0)), .inl (0, 6, .inl (fun _ => 0)), .inl (0, 6, .inl (fun _ => 0)), .inl (0, 48, .inl (fun _ => 0)), .inl (0, 5, .inl (fun _ => 0)), .inl (0, 5, .inl (fun _ => 0)), .inl (0, 5, .inl (fun _ => 0)), .inl (0, 6, .inl (fun _ => 0)), .inr (9, [.int 0, .int 0, .ref 40, .ref 41, .ref 42, .ref 43, .ref 44, .ref 45, .ref 46, .ref 47, .ref 48, .ref 49]), .inl (0, 6, .inl (fun _ => 0)), .inl (0, 6, .inl (fun _ => 0)), .inl (0, 6, .inl (fun _ => 0)), .inl (0, 6, .inl (fun _ => 0)), .inl (0, 6, .inl (fun _ => 0)), .inl (0, 48, .inl (fun _ => 0)), .inl (0, 5, .inl (fun _ => 0)), .inl (0, 5, .inl (fun _ => 0)), .inl (0, 5, .inl (fun _ => 0)), .inl (0, 6, .inl (fun _ => 0)), .inr (9, [.int 0, .int 0, .ref 51, .ref 52, .ref 53, .ref 54, .ref 55, .ref 56, .ref 57, .ref 58, .ref 59, .ref 60]), .inl (0, 6, .inl (fun _ => 0)), .inl (0, 6, .inl (fun _ => 0)), .inl (0, 6, .inl (fun _ => 0)), .inl (0, 6, .inl (fun _ => 0)), .inl (0, 6, .inl (fun _ => 0)), .inl (0, 48, .inl (fun _ => 0)), .inl (0, 5, .inl (fun _ => 0)), .inl (0, 5, .inl (fun _ => 0)), .inl (0, 5, .inl (fun _ => 0)), .inl (0, 6, .inl (fun _ => 0)), .inr (1, [.int 0, .int 0, .ref 62, .ref 63, .ref 64, .ref 65]), .inl (0, 40, .inl (fun _ => 0)), .inl (0, 40, .inl (fun _ => 0)), .inl (0, 40, .inl (fun _ => 0)), .inl (0, 40, .inl (fun _ => 0)), .inr (0, [.int 0, .int 0, .ref 67, .ref 68, .int 0, .int 0]), .inl (0, 24, .inl (fun _ => 0)), .inl (0, 50, .inl (fun _ => 0)), .inl (4, 6, .inr (.inr (va_up (va_up (va_up (fun _ => none) (0 : Int32).toNatClampNeg (some 70)) (1 : Int32).toNatClampNeg (some 72)) (2 : Int32).toNatClampNeg (some 74)))), .inr (6, [.int 0, .int 0, .int 0, .int 0, .ref 71]), .inl (1, 60, .inr (.inl (fun _ => 0))), .inr (6, [.int 0, .int 0, .int 0, .int 0, .ref 73]), .inl (1, 60, .inr (.inl (fun _ => 0))), .inr (6, [.int 0, .int 0, .int 0, .int 0, .ref 75]), .inl (1, 60, .inr (.inl (fun _ => 0))), .inr (6, [.int 0, .int 0, .int 0, .int 0, .null])]
def cw_32 : List rc := [.inr (10, [.ref 1, .ref 9, .ref 21, .ref 27, .ref 28, .ref 39, .ref 50, .ref 61, .ref 66, .ref 69, .int 0, .int 0, .int (-1)]), .inr (3, [.int 0, .int 0, .int 0, .int 0, .int 1, .ref 2, .ref 3, .ref 4, .ref 5, .ref 6, .ref 7, .ref 8]), .inl (0, 5, .inl (fun _ => 0)), .inl (0, 5, .inl (fun _ => 0)), .inl (0, 5, .inl (fun _ => 0)), .inl (0, 6, .inl (fun _ => 0)), .inl (0, 6, .inl (fun _ => 0)), .inl (0, 6, .inl (fun _ => 0)), .inl (0, 6, .inl (fun _ => 0)), .inr (8, [.int 0, .ref 10, .ref 11, .ref 16, .ref 19, .ref 20]), .inl (0, 120, .inl (fun _ => 0)), .inr (5, [.ref 12, .int 0, .int 0, .ref 13]), .inl (0, 0, .inl (fun _ => 0)), .inr (7, [.int 0, .ref 14, .ref 15]), .inl (0, 242, .inl (fun _ => 0)), .inl (0, 242, .inl (fun _ => 0)), .inr (7, [.int 0, .ref 17, .ref 18]), .inl (0, 242, .inl (fun _ => 0)), .inl (0, 242, .inl (fun _ => 0)), .inl (0, 48, .inl (fun _ => 0)), .inl (2, 3600, .inl (fun _ => 0)), .inr (4, [.ref 1, .ref 9, .int 0, .int 0, .int 0, .int 0, .int 0, .int 0, .int 0, .int 0, .long 0, .ref 22, .ref 23, .ref 24, .ref 25, .ref 26]), .inl (1, 56, .inr (.inl (fun _ => 0))), .inl (1, 56, .inr (.inl (fun _ => 0))), .inl (1, 4, .inr (.inl (fun _ => 0))), .inl (1, 4, .inr (.inl (fun _ => 0))), .inl (1, 2048, .inr (.inl (fun _ => 0))), .inr (2, [.ref 1, .ref 9, .ref 21, .int 0]), .inr (9, [.int 0, .int 0, .ref 29, .ref 30, .ref 31, .ref 32, .ref 33, .ref 34, .ref 35, .ref 36, .ref 37, .ref 38]), .inl (0, 6, .inl (fun _ => 0)), .inl (0, 6, .inl (fun _ => 0)), .inl (0, 6, .inl (fun _ => 0)), .inl (0, 6, .inl (fun _ => 0)), .inl (0, 6, .inl (fun _ => 0)), .inl (0, 48, .inl (fun _ => 0)), .inl (0, 5, .inl (fun _ => 0)), .inl (0, 5, .inl (fun _ => 0)), .inl (0, 5, .inl (fun _ => 0)), .inl (0, 6, .inl (fun _ => 0)), .inr (9, [.int 0, .int 0, .ref 40, .ref 41, .ref 42, .ref 43, .ref 44, .ref 45, .ref 46, .ref 47, .ref 48, .ref 49]), .inl (0, 6, .inl (fun _ => 0)), .inl (0, 6, .inl (fun _ => 0)), .inl (0, 6, .inl (fun _ => 0)), .inl (0, 6, .inl (fun _ => 0)), .inl (0, 6, .inl (fun _ => 0)), .inl (0, 48, .inl (fun _ => 0)), .inl (0, 5, .inl (fun _ => 0)), .inl (0, 5, .inl (fun _ => 0)), .inl (0, 5, .inl (fun _ => 0)), .inl (0, 6, .inl (fun _ => 0)), .inr (9, [.int 0, .int 0, .ref 51, .ref 52, .ref 53, .ref 54, .ref 55, .ref 56, .ref 57, .ref 58, .ref 59, .ref 60]), .inl (0, 6, .inl (fun _ => 0)), .inl (0, 6, .inl (fun _ => 0)), .inl (0, 6, .inl (fun _ => 0)), .inl (0, 6, .inl (fun _ => 0)), .inl (0, 6, .inl (fun _ => 0)), .inl (0, 48, .inl (fun _ => 0)), .inl (0, 5, .inl (fun _ => 0)), .inl (0, 5, .inl (fun _ => 0)), .inl (0, 5, .inl (fun _ => 0)), .inl (0, 6, .inl (fun _ => 0)), .inr (1, [.int 0, .int 0, .ref 62, .ref 63, .ref 64, .ref 65]), .inl (0, 40, .inl (fun _ => 0)), .inl (0, 40, .inl (fun _ => 0)), .inl (0, 40, .inl (fun _ => 0)), .inl (0, 40, .inl (fun _ => 0)), .inr (0, [.int 0, .int 0, .ref 67, .ref 68, .int 0, .int 0]), .inl (0, 24, .inl (fun _ => 0)), .inl (0, 50, .inl (fun _ => 0)), .inl (4, 6, .inr (.inr (va_up (va_up (va_up (fun _ => none) (0 : Int32).toNatClampNeg (some 70)) (1 : Int32).toNatClampNeg (some 72)) (2 : Int32).toNatClampNeg (some 74)))), .inr (6, [.int 0, .int 0, .int 0, .int 0, .ref 71]), .inl (1, 60, .inr (.inl (fun _ => 0))), .inr (6, [.int 0, .int 0, .int 0, .int 0, .ref 73]), .inl (1, 60, .inr (.inl (fun _ => 0))), .inr (6, [.int 0, .int 0, .int 0, .int 0, .ref 75]), .inl (1, 60, .inr (.inl (fun _ => 0))), .inr (6, [.int 0, .int 0, .int 0, .int 0, .ref 77]), .inl (1, 60, .inr (.inl (fun _ => 0)))]
def cw_33 : List rc := [.inr (10, [.ref 1, .ref 9, .ref 21, .ref 27, .ref 28, .ref 39, .ref 50, .ref 61, .ref 66, .ref 69, .int 0, .int 0, .int (-1)]), .inr (3, [.int 0, .int 0, .int 0, .int 0, .int 1, .ref 2, .ref 3, .ref 4, .ref 5, .ref 6, .ref 7, .ref 8]), .inl (0, 5, .inl (fun _ => 0)), .inl (0, 5, .inl (fun _ => 0)), .inl (0, 5, .inl (fun _ => 0)), .inl (0, 6, .inl (fun _ => 0)), .inl (0, 6, .inl (fun _ => 0)), .inl (0, 6, .inl (fun _ => 0)), .inl (0, 6, .inl (fun _ => 0)), .inr (8, [.int 0, .ref 10, .ref 11, .ref 16, .ref 19, .ref 20]), .inl (0, 120, .inl (fun _ => 0)), .inr (5, [.ref 12, .int 0, .int 0, .ref 13]), .inl (0, 0, .inl (fun _ => 0)), .inr (7, [.int 0, .ref 14, .ref 15]), .inl (0, 242, .inl (fun _ => 0)), .inl (0, 242, .inl (fun _ => 0)), .inr (7, [.int 0, .ref 17, .ref 18]), .inl (0, 242, .inl (fun _ => 0)), .inl (0, 242, .inl (fun _ => 0)), .inl (0, 48, .inl (fun _ => 0)), .inl (2, 3600, .inl (fun _ => 0)), .inr (4, [.ref 1, .ref 9, .int 0, .int 0, .int 0, .int 0, .int 0, .int 0, .int 0, .int 0, .long 0, .ref 22, .ref 23, .ref 24, .ref 25, .ref 26]), .inl (1, 56, .inr (.inl (fun _ => 0))), .inl (1, 56, .inr (.inl (fun _ => 0))), .inl (1, 4, .inr (.inl (fun _ => 0))), .inl (1, 4, .inr (.inl (fun _ => 0))), .inl (1, 2048, .inr (.inl (fun _ => 0))), .inr (2, [.ref 1, .ref 9, .ref 21, .int 0]), .inr (9, [.int 0, .int 0, .ref 29, .ref 30, .ref 31, .ref 32, .ref 33, .ref 34, .ref 35, .ref 36, .ref 37, .ref 38]), .inl (0, 6, .inl (fun _ => 0)), .inl (0, 6, .inl (fun _ => 0)), .inl (0, 6, .inl (fun _ => 0)), .inl (0, 6, .inl (fun _ => 0)), .inl (0, 6, .inl (fun _ => 0)), .inl (0, 48, .inl (fun _ => 0)), .inl (0, 5, .inl (fun _ => 0)), .inl (0, 5, .inl (fun _ => 0)), .inl (0, 5, .inl (fun _ => 0)), .inl (0, 6, .inl (fun _ => 0)), .inr (9, [.int 0, .int 0, .ref 40, .ref 41, .ref 42, .ref 43, .ref 44, .ref 45, .ref 46, .ref 47, .ref 48, .ref 49]), .inl (0, 6, .inl (fun _ => 0)), .inl (0, 6, .inl (fun _ => 0)), .inl (0, 6, .inl (fun _ => 0)), .inl (0, 6, .inl (fun _ => 0)), .inl (0, 6, .inl (fun _ => 0)), .inl (0, 48, .inl (fun _ => 0)), .inl (0, 5, .inl (fun _ => 0)), .inl (0, 5, .inl (fun _ => 0)), .inl (0, 5, .inl (fun _ => 0)), .inl (0, 6, .inl (fun _ => 0)), .inr (9, [.int 0, .int 0, .ref 51, .ref 52, .ref 53, .ref 54, .ref 55, .ref 56, .ref 57, .ref 58, .ref 59, .ref 60]), .inl (0, 6, .inl (fun _ => 0)), .inl (0, 6, .inl (fun _ => 0)), .inl (0, 6, .inl (fun _ => 0)), .inl (0, 6, .inl (fun _ => 0)), .inl (0, 6, .inl (fun _ => 0)), .inl (0, 48, .inl (fun _ => 0)), .inl (0, 5, .inl (fun _ => 0)), .inl (0, 5, .inl (fun _ => 0)), .inl (0, 5, .inl (fun _ => 0)), .inl (0, 6, .inl (fun _ => 0)), .inr (1, [.int 0, .int 0, .ref 62, .ref 63, .ref 64, .ref 65]), .inl (0, 40, .inl (fun _ => 0)), .inl (0, 40, .inl (fun _ => 0)), .inl (0, 40, .inl (fun _ => 0)), .inl (0, 40, .inl (fun _ => 0)), .inr (0, [.int 0, .int 0, .ref 67, .ref 68, .int 0, .int 0]), .inl (0, 24, .inl (fun _ => 0)), .inl (0, 50, .inl (fun _ => 0)), .inl (4, 6, .inr (.inr (va_up (va_up (va_up (va_up (fun _ => none) (0 : Int32).toNatClampNeg (some 70)) (1 : Int32).toNatClampNeg (some 72)) (2 : Int32).toNatClampNeg (some 74)) (3 : Int32).toNatClampNeg (some 76)))), .inr (6, [.int 0, .int 0, .int 0, .int 0, .ref 71]), .inl (1, 60, .inr (.inl (fun _ => 0))), .inr (6, [.int 0, .int 0, .int 0, .int 0, .ref 73]), .inl (1, 60, .inr (.inl (fun _ => 0))), .inr (6, [.int 0, .int 0, .int 0, .int 0, .ref 75]), .inl (1, 60, .inr (.inl (fun _ => 0))), .inr (6, [.int 0, .int 0, .int 0, .int 0, .ref 77]), .inl (1, 60, .inr (.inl (fun _ => 0))), .inr (6, [.int 0, .int 0, .int 0, .int 0, .null])]
def cw_34 : List rc := [.inr (10, [.ref 1, .ref 9, .ref 21, .ref 27, .ref 28, .ref 39, .ref 50, .ref 61, .ref 66, .ref 69, .int 0, .int 0, .int (-1)]), .inr (3, [.int 0, .int 0, .int 0, .int 0, .int 1, .ref 2, .ref 3, .ref 4, .ref 5, .ref 6, .ref 7, .ref 8]), .inl (0, 5, .inl (fun _ => 0)), .inl (0, 5, .inl (fun _ => 0)), .inl (0, 5, .inl (fun _ => 0)), .inl (0, 6, .inl (fun _ => 0)), .inl (0, 6, .inl (fun _ => 0)), .inl (0, 6, .inl (fun _ => 0)), .inl (0, 6, .inl (fun _ => 0)), .inr (8, [.int 0, .ref 10, .ref 11, .ref 16, .ref 19, .ref 20]), .inl (0, 120, .inl (fun _ => 0)), .inr (5, [.ref 12, .int 0, .int 0, .ref 13]), .inl (0, 0, .inl (fun _ => 0)), .inr (7, [.int 0, .ref 14, .ref 15]), .inl (0, 242, .inl (fun _ => 0)), .inl (0, 242, .inl (fun _ => 0)), .inr (7, [.int 0, .ref 17, .ref 18]), .inl (0, 242, .inl (fun _ => 0)), .inl (0, 242, .inl (fun _ => 0)), .inl (0, 48, .inl (fun _ => 0)), .inl (2, 3600, .inl (fun _ => 0)), .inr (4, [.ref 1, .ref 9, .int 0, .int 0, .int 0, .int 0, .int 0, .int 0, .int 0, .int 0, .long 0, .ref 22, .ref 23, .ref 24, .ref 25, .ref 26]), .inl (1, 56, .inr (.inl (fun _ => 0))), .inl (1, 56, .inr (.inl (fun _ => 0))), .inl (1, 4, .inr (.inl (fun _ => 0))), .inl (1, 4, .inr (.inl (fun _ => 0))), .inl (1, 2048, .inr (.inl (fun _ => 0))), .inr (2, [.ref 1, .ref 9, .ref 21, .int 0]), .inr (9, [.int 0, .int 0, .ref 29, .ref 30, .ref 31, .ref 32, .ref 33, .ref 34, .ref 35, .ref 36, .ref 37, .ref 38]), .inl (0, 6, .inl (fun _ => 0)), .inl (0, 6, .inl (fun _ => 0)), .inl (0, 6, .inl (fun _ => 0)), .inl (0, 6, .inl (fun _ => 0)), .inl (0, 6, .inl (fun _ => 0)), .inl (0, 48, .inl (fun _ => 0)), .inl (0, 5, .inl (fun _ => 0)), .inl (0, 5, .inl (fun _ => 0)), .inl (0, 5, .inl (fun _ => 0)), .inl (0, 6, .inl (fun _ => 0)), .inr (9, [.int 0, .int 0, .ref 40, .ref 41, .ref 42, .ref 43, .ref 44, .ref 45, .ref 46, .ref 47, .ref 48, .ref 49]), .inl (0, 6, .inl (fun _ => 0)), .inl (0, 6, .inl (fun _ => 0)), .inl (0, 6, .inl (fun _ => 0)), .inl (0, 6, .inl (fun _ => 0)), .inl (0, 6, .inl (fun _ => 0)), .inl (0, 48, .inl (fun _ => 0)), .inl (0, 5, .inl (fun _ => 0)), .inl (0, 5, .inl (fun _ => 0)), .inl (0, 5, .inl (fun _ => 0)), .inl (0, 6, .inl (fun _ => 0)), .inr (9, [.int 0, .int 0, .ref 51, .ref 52, .ref 53, .ref 54, .ref 55, .ref 56, .ref 57, .ref 58, .ref 59, .ref 60]), .inl (0, 6, .inl (fun _ => 0)), .inl (0, 6, .inl (fun _ => 0)), .inl (0, 6, .inl (fun _ => 0)), .inl (0, 6, .inl (fun _ => 0)), .inl (0, 6, .inl (fun _ => 0)), .inl (0, 48, .inl (fun _ => 0)), .inl (0, 5, .inl (fun _ => 0)), .inl (0, 5, .inl (fun _ => 0)), .inl (0, 5, .inl (fun _ => 0)), .inl (0, 6, .inl (fun _ => 0)), .inr (1, [.int 0, .int 0, .ref 62, .ref 63, .ref 64, .ref 65]), .inl (0, 40, .inl (fun _ => 0)), .inl (0, 40, .inl (fun _ => 0)), .inl (0, 40, .inl (fun _ => 0)), .inl (0, 40, .inl (fun _ => 0)), .inr (0, [.int 0, .int 0, .ref 67, .ref 68, .int 0, .int 0]), .inl (0, 24, .inl (fun _ => 0)), .inl (0, 50, .inl (fun _ => 0)), .inl (4, 6, .inr (.inr (va_up (va_up (va_up (va_up (fun _ => none) (0 : Int32).toNatClampNeg (some 70)) (1 : Int32).toNatClampNeg (some 72)) (2 : Int32).toNatClampNeg (some 74)) (3 : Int32).toNatClampNeg (some 76)))), .inr (6, [.int 0, .int 0, .int 0, .int 0, .ref 71]), .inl (1, 60, .inr (.inl (fun _ => 0))), .inr (6, [.int 0, .int 0, .int 0, .int 0, .ref 73]), .inl (1, 60, .inr (.inl (fun _ => 0))), .inr (6, [.int 0, .int 0, .int 0, .int 0, .ref 75]), .inl (1, 60, .inr (.inl (fun _ => 0))), .inr (6, [.int 0, .int 0, .int 0, .int 0, .ref 77]), .inl (1, 60, .inr (.inl (fun _ => 0))), .inr (6, [.int 0, .int 0, .int 0, .int 0, .ref 79]), .inl (1, 60, .inr (.inl (fun _ => 0)))]
def cw_35 : List rc := [.inr (10, [.ref 1, .ref 9, .ref 21, .ref 27, .ref 28, .ref 39, .ref 50, .ref 61, .ref 66, .ref 69, .int 0, .int 0, .int (-1)]), .inr (3, [.int 0, .int 0, .int 0, .int 0, .int 1, .ref 2, .ref 3, .ref 4, .ref 5, .ref 6, .ref 7, .ref 8]), .inl (0, 5, .inl (fun _ => 0)), .inl (0, 5, .inl (fun _ => 0)), .inl (0, 5, .inl (fun _ => 0)), .inl (0, 6, .inl (fun _ => 0)), .inl (0, 6, .inl (fun _ => 0)), .inl (0, 6, .inl (fun _ => 0)), .inl (0, 6, .inl (fun _ => 0)), .inr (8, [.int 0, .ref 10, .ref 11, .ref 16, .ref 19, .ref 20]), .inl (0, 120, .inl (fun _ => 0)), .inr (5, [.ref 12, .int 0, .int 0, .ref 13]), .inl (0, 0, .inl (fun _ => 0)), .inr (7, [.int 0, .ref 14, .ref 15]), .inl (0, 242, .inl (fun _ => 0)), .inl (0, 242, .inl (fun _ => 0)), .inr (7, [.int 0, .ref 17, .ref 18]), .inl (0, 242, .inl (fun _ => 0)), .inl (0, 242, .inl (fun _ => 0)), .inl (0, 48, .inl (fun _ => 0)), .inl (2, 3600, .inl (fun _ => 0)), .inr (4, [.ref 1, .ref 9, .int 0, .int 0, .int 0, .int 0, .int 0, .int 0, .int 0, .int 0, .long 0, .ref 22, .ref 23, .ref 24, .ref 25, .ref 26]), .inl (1, 56, .inr (.inl (fun _ => 0))), .inl (1, 56, .inr (.inl (fun _ => 0))), .inl (1, 4, .inr (.inl (fun _ => 0))), .inl (1, 4, .inr (.inl (fun _ => 0))), .inl (1, 2048, .inr (.inl (fun _ => 0))), .inr (2, [.ref 1, .ref 9, .ref 21, .int 0]), .inr (9, [.int 0, .int 0, .ref 29, .ref 30, .ref 31, .ref 32, .ref 33, .ref 34, .ref 35, .ref 36, .ref 37, .ref 38]), .inl (0, 6, .inl (fun _ => 0)), .inl (0, 6, .inl (fun _ => 0)), .inl (0, 6, .inl (fun _ => 0)), .inl (0, 6, .inl (fun _ => 0)), .inl (0, 6, .inl (fun _ => 0)), .inl (0, 48, .inl (fun _ => 0)), .inl (0, 5, .inl (fun _ => 0)), .inl (0, 5, .inl (fun _ => 0)), .inl (0, 5, .inl (fun _ => 0)), .inl (0, 6, .inl (fun _ => 0)), .inr (9, [.int 0, .int 0, .ref 40, .ref 41, .ref 42, .ref 43, .ref 44, .ref 45, .ref 46, .ref 47, .ref 48, .ref 49]), .inl (0, 6, .inl (fun _ => 0)), .inl (0, 6, .inl (fun _ => 0)), .inl (0, 6, .inl (fun _ => 0)), .inl (0, 6, .inl (fun _ => 0)), .inl (0, 6, .inl (fun _ => 0)), .inl (0, 48, .inl (fun _ => 0)), .inl (0, 5, .inl (fun _ => 0)), .inl (0, 5, .inl (fun _ => 0)), .inl (0, 5, .inl (fun _ => 0)), .inl (0, 6, .inl (fun _ => 0)), .inr (9, [.int 0, .int 0, .ref 51, .ref 52, .ref 53, .ref 54, .ref 55, .ref 56, .ref 57, .ref 58, .ref 59, .ref 60]), .inl (0, 6, .inl (fun _ => 0)), .inl (0, 6, .inl (fun _ => 0)), .inl (0, 6, .inl (fun _ => 0)), .inl (0, 6, .inl (fun _ => 0)), .inl (0, 6, .inl (fun _ => 0)), .inl (0, 48, .inl (fun _ => 0)), .inl (0, 5, .inl (fun _ => 0)), .inl (0, 5, .inl (fun _ => 0)), .inl (0, 5, .inl (fun _ => 0)), .inl (0, 6, .inl (fun _ => 0)), .inr (1, [.int 0, .int 0, .ref 62, .ref 63, .ref 64, .ref 65]), .inl (0, 40, .inl (fun _ => 0)), .inl (0, 40, .inl (fun _ => 0)), .inl (0, 40, .inl (fun _ => 0)), .inl (0, 40, .inl (fun _ => 0)), .inr (0, [.int 0, .int 0, .ref 67, .ref 68, .int 0, .int 0]), .inl (0, 24, .inl (fun _ => 0)), .inl (0, 50, .inl (fun _ => 0)), .inl (4, 6, .inr (.inr (va_up (va_up (va_up (va_up (va_up (fun _ => none) (0 : Int32).toNatClampNeg (some 70)) (1 : Int32).toNatClampNeg (some 72)) (2 : Int32).toNatClampNeg (some 74)) (3 : Int32).toNatClampNeg (some 76)) (4 : Int32).toNatClampNeg (some 78)))), .inr (6, [.int 0, .int 0, .int 0, .int 0, .ref 71]), .inl (1, 60, .inr (.inl (fun _ => 0))), .inr (6, [.int 0, .int 0, .int 0, .int 0, .ref 73]), .inl (1, 60, .inr (.inl (fun _ => 0))), .inr (6, [.int 0, .int 0, .int 0, .int 0, .ref 75]), .inl (1, 60, .inr (.inl (fun _ => 0))), .inr (6, [.int 0, .int 0, .int 0, .int 0, .ref 77]), .inl (1, 60, .inr (.inl (fun _ => 0))), .inr (6, [.int 0, .int 0, .int 0, .int 0, .ref 79]), .inl (1, 60, .inr (.inl (fun _ => 0))), .inr (6, [.int 0, .int 0, .int 0, .int 0, .null])]
def cw_36 : List rc := [.inr (10, [.ref 1, .ref 9, .ref 21, .ref 27, .ref 28, .ref 39, .ref 50, .ref 61, .ref 66, .ref 69, .int 0, .int 0, .int (-1)]), .inr (3, [.int 0, .int 0, .int 0, .int 0, .int 1, .ref 2, .ref 3, .ref 4, .ref 5, .ref 6, .ref 7, .ref 8]), .inl (0, 5, .inl (fun _ => 0)), .inl (0, 5, .inl (fun _ => 0)), .inl (0, 5, .inl (fun _ => 0)), .inl (0, 6, .inl (fun _ => 0)), .inl (0, 6, .inl (fun _ => 0)), .inl (0, 6, .inl (fun _ => 0)), .inl (0, 6, .inl (fun _ => 0)), .inr (8, [.int 0, .ref 10, .ref 11, .ref 16, .ref 19, .ref 20]), .inl (0, 120, .inl (fun _ => 0)), .inr (5, [.ref 12, .int 0, .int 0, .ref 13]), .inl (0, 0, .inl (fun _ => 0)), .inr (7, [.int 0, .ref 14, .ref 15]), .inl (0, 242, .inl (fun _ => 0)), .inl (0, 242, .inl (fun _ => 0)), .inr (7, [.int 0, .ref 17, .ref 18]), .inl (0, 242, .inl (fun _ => 0)), .inl (0, 242, .inl (fun _ => 0)), .inl (0, 48, .inl (fun _ => 0)), .inl (2, 3600, .inl (fun _ => 0)), .inr (4, [.ref 1, .ref 9, .int 0, .int 0, .int 0, .int 0, .int 0, .int 0, .int 0, .int 0, .long 0, .ref 22, .ref 23, .ref 24, .ref 25, .ref 26]), .inl (1, 56, .inr (.inl (fun _ => 0))), .inl (1, 56, .inr (.inl (fun _ => 0))), .inl (1, 4, .inr (.inl (fun _ => 0))), .inl (1, 4, .inr (.inl (fun _ => 0))), .inl (1, 2048, .inr (.inl (fun _ => 0))), .inr (2, [.ref 1, .ref 9, .ref 21, .int 0]), .inr (9, [.int 0, .int 0, .ref 29, .ref 30, .ref 31, .ref 32, .ref 33, .ref 34, .ref 35, .ref 36, .ref 37, .ref 38]), .inl (0, 6, .inl (fun _ => 0)), .inl (0, 6, .inl (fun _ => 0)), .inl (0, 6, .inl (fun _ => 0)), .inl (0, 6, .inl (fun _ => 0)), .inl (0, 6, .inl (fun _ => 0)), .inl (0, 48, .inl (fun _ => 0)), .inl (0, 5, .inl (fun _ => 0)), .inl (0, 5, .inl (fun _ => 0)), .inl (0, 5, .inl (fun _ => 0)), .inl (0, 6, .inl (fun _ => 0)), .inr (9, [.int 0, .int 0, .ref 40, .ref 41, .ref 42, .ref 43, .ref 44, .ref 45, .ref 46, .ref 47, .ref 48, .ref 49]), .inl (0, 6, .inl (fun _ => 0)), .inl (0, 6, .inl (fun _ => 0)), .inl (0, 6, .inl (fun _ => 0)), .inl (0, 6, .inl (fun _ => 0)), .inl (0, 6, .inl (fun _ => 0)), .inl (0, 48, .inl (fun _ => 0)), .inl (0, 5, .inl (fun _ => 0)), .inl (0, 5, .inl (fun _ => 0)), .inl (0, 5, .inl (fun _ => 0)), .inl (0, 6, .inl (fun _ => 0)), .inr (9, [.int 0, .int 0, .ref 51, .ref 52, .ref 53, .ref 54, .ref 55, .ref 56, .ref 57, .ref 58, .ref 59, .ref 60]), .inl (0, 6, .inl (fun _ => 0)), .inl (0, 6, .inl (fun _ => 0)), .inl (0, 6, .inl (fun _ => 0)), .inl (0, 6, .inl (fun _ => 0)), .inl (0, 6, .inl (fun _ => 0)), .inl (0, 48, .inl (fun _ => 0)), .inl (0, 5, .inl (fun _ => 0)), .inl (0, 5, .inl (fun _ => 0)), .inl (0, 5, .inl (fun _ => 0)), .inl (0, 6, .inl (fun _ => 0)), .inr (1, [.int 0, .int 0, .ref 62, .ref 63, .ref 64, .ref 65]), .inl (0, 40, .inl (fun _ => 0)), .inl (0, 40, .inl (fun _ => 0)), .inl (0, 40, .inl (fun _ => 0)), .inl (0, 40, .inl (fun _ => 0)), .inr (0, [.int 0, .int 0, .ref 67, .ref 68, .int 0, .int 0]), .inl (0, 24, .inl (fun _ => 0)), .inl (0, 50, .inl (fun _ => 0)), .inl (4, 6, .inr (.inr (va_up (va_up (va_up (va_up (va_up (fun _ => none) (0 : Int32).toNatClampNeg (some 70)) (1 : Int32).toNatClampNeg (some 72)) (2 : Int32).toNatClampNeg (some 74)) (3 : Int32).toNatClampNeg (some 76)) (4 : Int32).toNatClampNeg (some 78)))), .inr (6, [.int 0, .int 0, .int 0, .int 0, .ref 71]), .inl (1, 60, .inr (.inl (fun _ => 0))), .inr (6, [.int 0, .int 0, .int 0, .int 0, .ref 73]), .inl (1, 60, .inr (.inl (fun _ => 0))), .inr (6, [.int 0, .int 0, .int 0, .int 0, .ref 75]), .inl (1, 60, .inr (.inl (fun _ => 0))), .inr (6, [.int 0, .int 0, .int 0, .int 0, .ref 77]), .inl (1, 60, .inr (.inl (fun _ => 0))), .inr (6, [.int 0, .int 0, .int 0, .int 0, .ref 79]), .inl (1, 60, .inr (.inl (fun _ => 0))), .inr (6, [.int 0, .int 0, .int 0, .int 0, .ref 81]), .inl (1, 60, .inr (.inl (fun _ => 0)))]
def cw_37 : List rc := [.inr (10, [.ref 1, .ref 9, .ref 21, .ref 27, .ref 28, .ref 39, .ref 50, .ref 61, .ref 66, .ref 69, .int 0, .int 0, .int (-1)]), .inr (3, [.int 0, .int 0, .int 0, .int 0, .int 1, .ref 2, .ref 3, .ref 4, .ref 5, .ref 6, .ref 7, .ref 8]), .inl (0, 5, .inl (fun _ => 0)), .inl (0, 5, .inl (fun _ => 0)), .inl (0, 5, .inl (fun _ => 0)), .inl (0, 6, .inl (fun _ => 0)), .inl (0, 6, .inl (fun _ => 0)), .inl (0, 6, .inl (fun _ => 0)), .inl (0, 6, .inl (fun _ => 0)), .inr (8, [.int 0, .ref 10, .ref 11, .ref 16, .ref 19, .ref 20]), .inl (0, 120, .inl (fun _ => 0)), .inr (5, [.ref 12, .int 0, .int 0, .ref 13]), .inl (0, 0, .inl (fun _ => 0)), .inr (7, [.int 0, .ref 14, .ref 15]), .inl (0, 242, .inl (fun _ => 0)), .inl (0, 242, .inl (fun _ => 0)), .inr (7, [.int 0, .ref 17, .ref 18]), .inl (0, 242, .inl (fun _ => 0)), .inl (0, 242, .inl (fun _ => 0)), .inl (0, 48, .inl (fun _ => 0)), .inl (2, 3600, .inl (fun _ => 0)), .inr (4, [.ref 1, .ref 9, .int 0, .int 0, .int 0, .int 0, .int 0, .int 0, .int 0, .int 0, .long 0, .ref 22, .ref 23, .ref 24, .ref 25, .ref 26]), .inl (1, 56, .inr (.inl (fun _ => 0))), .inl (1, 56, .inr (.inl (fun _ => 0))), .inl (1, 4, .inr (.inl (fun _ => 0))), .inl (1, 4, .inr (.inl (fun _ => 0))), .inl (1, 2048, .inr (.inl (fun _ => 0))), .inr (2, [.ref 1, .ref 9, .ref 21, .int 0]), .inr (9, [.int 0, .int 0, .ref 29, .ref 30, .ref 31, .ref 32, .ref 33, .ref 34, .ref 35, .ref 36, .ref 37, .ref 38]), .inl (0, 6, .inl (fun _ => 0)), .inl (0, 6, .inl (fun _ => 0)), .inl (0, 6, .inl (fun _ => 0)), .inl (0, 6, .inl (fun _ => 0)), .inl (0, 6, .inl (fun _ => 0)), .inl (0, 48, .inl (fun _ => 0)), .inl (0, 5, .inl (fun _ => 0)), .inl (0, 5, .inl (fun _ => 0)), .inl (0, 5, .inl (fun _ => 0)), .inl (0, 6, .inl (fun _ => 0)), .inr (9, [.int 0, .int 0, .ref 40, .ref 41, .ref 42, .ref 43, .ref 44, .ref 45, .ref 46, .ref 47, .ref 48, .ref 49]), .inl (0, 6, .inl (fun _ => 0)), .inl (0, 6, .inl (fun _ => 0)), .inl (0, 6, .inl (fun _ => 0)), .inl (0, 6, .inl (fun _ => 0)), .inl (0, 6, .inl (fun _ => 0)), .inl (0, 48, .inl (fun _ => 0)), .inl (0, 5, .inl (fun _ => 0)), .inl (0, 5, .inl (fun _ => 0)), .inl (0, 5, .inl (fun _ => 0)), .inl (0, 6, .inl (fun _ => 0)), .inr (9, [.int 0, .int 0, .ref 51, .ref 52, .ref 53, .ref 54, .ref 55, .ref 56, .ref 57, .ref 58, .ref 59, .ref 60]), .inl (0, 6, .inl (fun _ => 0)), .inl (0, 6, .inl (fun _ => 0)), .inl (0, 6, .inl (fun _ => 0)), .inl (0, 6, .inl (fun _ => 0)), .inl (0, 6, .inl (fun _ => 0)), .inl (0, 48, .inl (fun _ => 0)), .inl (0, 5, .inl (fun _ => 0)), .inl (0, 5, .inl (fun _ => 0)), .inl (0, 5, .inl (fun _ => 0)), .inl (0, 6, .inl (fun _ => 0)), .inr (1, [.int 0, .int 0, .ref 62, .ref 63, .ref 64, .ref 65]), .inl (0, 40, .inl (fun _ => 0)), .inl (0, 40, .inl (fun _ => 0)), .inl (0, 40, .inl (fun _ => 0)), .inl (0, 40, .inl (fun _ => 0)), .inr (0, [.int 0, .int 0, .ref 67, .ref 68, .int 0, .int 0]), .inl (0, 24, .inl (fun _ => 0)), .inl (0, 50, .inl (fun _ => 0)), .inl (4, 6, .inr (.inr (va_up (va_up (va_up (va_up (va_up (va_up (fun _ => none) (0 : Int32).toNatClampNeg (some 70)) (1 : Int32).toNatClampNeg (some 72)) (2 : Int32).toNatClampNeg (some 74)) (3 : Int32).toNatClampNeg (some 76)) (4 : Int32).toNatClampNeg (some 78)) (5 : Int32).toNatClampNeg (some 80)))), .inr (6, [.int 0, .int 0, .int 0, .int 0, .ref 71]), .inl (1, 60, .inr (.inl (fun _ => 0))), .inr (6, [.int 0, .int 0, .int 0, .int 0, .ref 73]), .inl (1, 60, .inr (.inl (fun _ => 0))), .inr (6, [.int 0, .int 0, .int 0, .int 0, .ref 75]), .inl (1, 60, .inr (.inl (fun _ => 0))), .inr (6, [.int 0, .int 0, .int 0, .int 0, .ref 77]), .inl (1, 60, .inr (.inl (fun _ => 0))), .inr (6, [.int 0, .int 0, .int 0, .int 0, .ref 79]), .inl (1, 60, .inr (.inl (fun _ => 0))), .inr (6, [.int 0, .int 0, .int 0, .int 0, .ref 81]), .inl (1, 60, .inr (.inl (fun _ => 0)))]
def cw_38 : List rc := [.inr (10, [.ref 1, .ref 9, .ref 21, .ref 27, .ref 28, .ref 39, .ref 50, .ref 61, .ref 66, .ref 69, .int 0, .int 0, .int (-1)]), .inr (3, [.int 0, .int 0, .int 0, .int 0, .int 1, .ref 2, .ref 3, .ref 4, .ref 5, .ref 6, .ref 7, .ref 8]), .inl (0, 5, .inl (fun _ => 0)), .inl (0, 5, .inl (fun _ => 0)), .inl (0, 5, .inl (fun _ => 0)), .inl (0, 6, .inl (fun _ => 0)), .inl (0, 6, .inl (fun _ => 0)), .inl (0, 6, .inl (fun _ => 0)), .inl (0, 6, .inl (fun _ => 0)), .inr (8, [.int 0, .ref 10, .ref 11, .ref 16, .ref 19, .ref 20]), .inl (0, 120, .inl (fun _ => 0)), .inr (5, [.ref 12, .int 0, .int 0, .ref 13]), .inl (0, 0, .inl (fun _ => 0)), .inr (7, [.int 0, .ref 14, .ref 15]), .inl (0, 242, .inl (fun _ => 0)), .inl (0, 242, .inl (fun _ => 0)), .inr (7, [.int 0, .ref 17, .ref 18]), .inl (0, 242, .inl (fun _ => 0)), .inl (0, 242, .inl (fun _ => 0)), .inl (0, 48, .inl (fun _ => 0)), .inl (2, 3600, .inl (fun _ => 0)), .inr (4, [.ref 1, .ref 9, .int 0, .int 0, .int 0, .int 0, .int 0, .int 0, .int 0, .int 0, .long 0, .ref 22, .ref 23, .ref 24, .ref 25, .ref 26]), .inl (1, 56, .inr (.inl (fun _ => 0))), .inl (1, 56, .inr (.inl (fun _ => 0))), .inl (1, 4, .inr (.inl (fun _ => 0))), .inl (1, 4, .inr (.inl (fun _ => 0))), .inl (1, 2048, .inr (.inl (fun _ => 0))), .inr (2, [.ref 1, .ref 9, .ref 21, .int 0]), .inr (9, [.int 0, .int 0, .ref 29, .ref 30, .ref 31, .ref 32, .ref 33, .ref 34, .ref 35, .ref 36, .ref 37, .ref 38]), .inl (0, 6, .inl (fun _ => 0)), .inl (0, 6, .inl (fun _ => 0)), .inl (0, 6, .inl (fun _ => 0)), .inl (0, 6, .inl (fun _ => 0)), .inl (0, 6, .inl (fun _ => 0)), .inl (0, 48, .inl (fun _ => 0)), .inl (0, 5, .inl (fun _ => 0)), .inl (0, 5, .inl (fun _ => 0)), .inl (0, 5, .inl (fun _ => 0)), .inl (0, 6, .inl (fun _ => 0)), .inr (9, [.int 0, .int 0, .ref 40, .ref 41, .ref 42, .ref 43, .ref 44, .ref 45, .ref 46, .ref 47, .ref 48, .ref 49]), .inl (0, 6, .inl (fun _ => 0)), .inl (0, 6, .inl (fun _ => 0)), .inl (0, 6, .inl (fun _ => 0)), .inl (0, 6, .inl (fun _ => 0)), .inl (0, 6, .inl (fun _ => 0)), .inl (0, 48, .inl (fun _ => 0)), .inl (0, 5, .inl (fun _ => 0)), .inl (0, 5, .inl (fun _ => 0)), .inl (0, 5, .inl (fun _ => 0)), .inl (0, 6, .inl (fun _ => 0)), .inr (9, [.int 0, .int 0, .ref 51, .ref 52, .ref 53, .ref 54, .ref 55, .ref 56, .ref 57, .ref 58, .ref 59, .ref 60]), .inl (0, 6, .inl (fun _ => 0)), .inl (0, 6, .inl (fun _ => 0)), .inl (0, 6, .inl (fun _ => 0)), .inl (0, 6, .inl (fun _ => 0)), .inl (0, 6, .inl (fun _ => 0)), .inl (0, 48, .inl (fun _ => 0)), .inl (0, 5, .inl (fun _ => 0)), .inl (0, 5, .inl (fun _ => 0)), .inl (0, 5, .inl (fun _ => 0)), .inl (0, 6, .inl (fun _ => 0)), .inr (1, [.int 0, .int 0, .ref 62, .ref 63, .ref 64, .ref 65]), .inl (0, 40, .inl (fun _ => 0)), .inl (0, 40, .inl (fun _ => 0)), .inl (0, 40, .inl (fun _ => 0)), .inl (0, 40, .inl (fun _ => 0)), .inr (0, [.int 0, .int 0, .ref 67, .ref 68, .int 0, .int 0]), .inl (0, 24, .inl (fun _ => 0)), .inl (0, 50, .inl (fun _ => 0)), .inl (4, 6, .inr (.inr (va_up (va_up (va_up (va_up (va_up (va_up (fun _ => none) (0 : Int32).toNatClampNeg (some 70)) (1 : Int32).toNatClampNeg (some 72)) (2 : Int32).toNatClampNeg (some 74)) (3 : Int32).toNatClampNeg (some 76)) (4 : Int32).toNatClampNeg (some 78)) (5 : Int32).toNatClampNeg (some 80)))), .inr (6, [.int 0, .int 0, .int 0, .int 0, .ref 71]), .inl (1, 60, .inr (.inl (fun _ => 0))), .inr (6, [.int 0, .int 0, .int 0, .int 0, .ref 73]), .inl (1, 60, .inr (.inl (fun _ => 0))), .inr (6, [.int 0, .int 0, .int 0, .int 0, .ref 75]), .inl (1, 60, .inr (.inl (fun _ => 0))), .inr (6, [.int 0, .int 0, .int 0, .int 0, .ref 77]), .inl (1, 60, .inr (.inl (fun _ => 0))), .inr (6, [.int 0, .int 0, .int 0, .int 0, .ref 79]), .inl (1, 60, .inr (.inl (fun _ => 0))), .inr (6, [.int 0, .int 0, .int 0, .int 0, .ref 81]), .inl (1, 60, .inr (.inl (fun _ => 0))), .inr (11, [.null, .null, .null, .null, .int 0, .int 0, .int 0, .int 0, .null, .null, .null, .null, .null, .null, .null, .null, .null, .null, .null, .int 0, .int 0, .int 0, .int 0, .null, .int 0, .null, .int 0, .int 0, .int 0, .int 0, .int 0, .int 0, .null, .null, .null, .null, .null, .int 0, .int 0, .int 0, .int 0, .int 0, .null, .int 0, .int 0, .null, .null, .null, .null, .null, .int 0, .int 0, .int 0, .int 0, .null, .null, .int 0, .int 0, .int 0, .null, .null, .null, .null])]
def cw_39 : List rc := [.inr (10, [.ref 1, .ref 9, .ref 21, .ref 27, .ref 28, .ref 39, .ref 50, .ref 61, .ref 66, .ref 69, .int 0, .int 0, .int (-1)]), .inr (3, [.int 0, .int 0, .int 0, .int 0, .int 1, .ref 2, .ref 3, .ref 4, .ref 5, .ref 6, .ref 7, .ref 8]), .inl (0, 5, .inl (fun _ => 0)), .inl (0, 5, .inl (fun _ => 0)), .inl (0, 5, .inl (fun _ => 0)), .inl (0, 6, .inl (fun _ => 0)), .inl (0, 6, .inl (fun _ => 0)), .inl (0, 6, .inl (fun _ => 0)), .inl (0, 6, .inl (fun _ => 0)), .inr (8, [.int 0, .ref 10, .ref 11, .ref 16, .ref 19, .ref 20]), .inl (0, 120, .inl (fun _ => 0)), .inr (5, [.ref 12, .int 0, .int 0, .ref 13]), .inl (0, 0, .inl (fun _ => 0)), .inr (7, [.int 0, .ref 14, .ref 15]), .inl (0, 242, .inl (fun _ => 0)), .inl (0, 242, .inl (fun _ => 0)), .inr (7, [.int 0, .ref 17, .ref 18]), .inl (0, 242, .inl (fun _ => 0)), .inl (0, 242, .inl (fun _ => 0)), .inl (0, 48, .inl (fun _ => 0)), .inl (2, 3600, .inl (fun _ => 0)), .inr (4, [.ref 1, .ref 9, .int 0, .int 0, .int 0, .int 0, .int 0, .int 0, .int 0, .int 0, .long 0, .ref 22, .ref 23, .ref 24, .ref 25, .ref 26]), .inl (1, 56, .inr (.inl (fun _ => 0))), .inl (1, 56, .inr (.inl (fun _ => 0))), .inl (1, 4, .inr (.inl (fun _ => 0))), .inl (1, 4, .inr (.inl (fun _ => 0))), .inl (1, 2048, .inr (.inl (fun _ => 0))), .inr (2, [.ref 1, .ref 9, .ref 21, .int 0]), .inr (9, [.int 0, .int 0, .ref 29, .ref 30, .ref 31, .ref 32, .ref 33, .ref 34, .ref 35, .ref 36, .ref 37, .ref 38]), .inl (0, 6, .inl (fun _ => 0)), .inl (0, 6, .inl (fun _ => 0)), .inl (0, 6, .inl (fun _ => 0)), .inl (0, 6, .inl (fun _ => 0)), .inl (0, 6, .inl (fun _ => 0)), .inl (0, 48, .inl (fun _ => 0)), .inl (0, 5, .inl (fun _ => 0)), .inl (0, 5, .inl (fun _ => 0)), .inl (0, 5, .inl (fun _ => 0)), .inl (0, 6, .inl (fun _ => 0)), .inr (9, [.int 0, .int 0, .ref 40, .ref 41, .ref 42, .ref 43, .ref 44, .ref 45, .ref 46, .ref 47, .ref 48, .ref 49]), .inl (0, 6, .inl (fun _ => 0)), .inl (0, 6, .inl (fun _ => 0)), .inl (0, 6, .inl (fun _ => 0)), .inl (0, 6, .inl (fun _ => 0)), .inl (0, 6, .inl (fun _ => 0)), .inl (0, 48, .inl (fun _ => 0)), .inl (0, 5, .inl (fun _ => 0)), .inl (0, 5, .inl (fun _ => 0)), .inl (0, 5, .inl (fun _ => 0)), .inl (0, 6, .inl (fun _ => 0)), .inr (9, [.int 0, .int 0, .ref 51, .ref 52, .ref 53, .ref 54, .ref 55, .ref 56, .ref 57, .ref 58, .ref 59, .ref 60]), .inl (0, 6, .inl (fun _ => 0)), .inl (0, 6, .inl (fun _ => 0)), .inl (0, 6, .inl (fun _ => 0)), .inl (0, 6, .inl (fun _ => 0)), .inl (0, 6, .inl (fun _ => 0)), .inl (0, 48, .inl (fun _ => 0)), .inl (0, 5, .inl (fun _ => 0)), .inl (0, 5, .inl (fun _ => 0)), .inl (0, 5, .inl (fun _ => 0)), .inl (0, 6, .inl (fun _ => 0)), .inr (1, [.int 0, .int 0, .ref 62, .ref 63, .ref 64, .ref 65]), .inl (0, 40, .inl (fun _ => 0)), .inl (0, 40, .inl (fun _ => 0)), .inl (0, 40, .inl (fun _ => 0)), .inl (0, 40, .inl (fun _ => 0)), .inr (0, [.int 0, .int 0, .ref 67, .ref 68, .int 0, .int 0]), .inl (0, 24, .inl (fun _ => 0)), .inl (0, 50, .inl (fun _ => 0)), .inl (4, 6, .inr (.inr (va_up (va_up (va_up (va_up (va_up (va_up (fun _ => none) (0 : Int32).toNatClampNeg (some 70)) (1 : Int32).toNatClampNeg (some 72)) (2 : Int32).toNatClampNeg (some 74)) (3 : Int32).toNatClampNeg (some 76)) (4 : Int32).toNatClampNeg (some 78)) (5 : Int32).toNatClampNeg (some 80)))), .inr (6, [.int 0, .int 0, .int 0, .int 0, .ref 71]), .inl (1, 60, .inr (.inl (fun _ => 0))), .inr (6, [.int 0, .int 0, .int 0, .int 0, .ref 73]), .inl (1, 60, .inr (.inl (fun _ => 0))), .inr (6, [.int 0, .int 0, .int 0, .int 0, .ref 75]), .inl (1, 60, .inr (.inl (fun _ => 0))), .inr (6, [.int 0, .int 0, .int 0, .int 0, .ref 77]), .inl (1, 60, .inr (.inl (fun _ => 0))), .inr (6, [.int 0, .int 0, .int 0, .int 0, .ref 79]), .inl (1, 60, .inr (.inl (fun _ => 0))), .inr (6, [.int 0, .int 0, .int 0, .int 0, .ref 81]), .inl (1, 60, .inr (.inl (fun _ => 0))), .inr (11, [.ref 83, .ref 84, .ref 85, .ref 86, .int 0, .int 0, .int 0, .int 0, .ref 87, .ref 88, .ref 89, .ref 90, .ref 91, .ref 92, .ref 93, .ref 94, .ref 95, .ref 96, .ref 97, .int 0, .int 0, .int 0, .int 0, .ref 98, .int 0, .ref 99, .int (-1), .int 0, .int 0, .int 0, .int 0, .int 0, .ref 100, .ref 101, .ref 102, .ref 103, .ref 104, .int 0, .int 0, .int 0, .int 0, .int 0, .ref 105, .int 0, .int 0, .ref 106, .ref 107, .ref 108, .ref 109, .ref 110, .int 0, .int 0, .int 0, .int 0, .ref 111, .ref 112, .int 0, .int 0, .int 0, .ref 113, .ref 114, .ref 115, .ref 116]), .inl (0, 33, .inl (fun _ => 0)), .inl (0, 40, .inl (fun _ => 0)), .inl (0, 40, .inl (fun _ => 0)), .inl (0, 40, .inl (fun _ => 0)), .inl (0, 5, .inl (fun _ => 0)), .inl (0, 5, .inl (fun _ => 0)), .inl (0, 5, .inl (fun _ => 0)), .inl (0, 6, .inl (fun _ => 0)), .inl (0, 6, .inl (fun _ => 0)), .inl (0, 6, .inl (fun _ => 0)), .inl (0, 6, .inl (fun _ => 0)), .inl (0, 6, .inl (fun _ => 0)), .inl (0, 48, .inl (fun _ => 0)), .inl (0, 6, .inl (fun _ => 0)), .inl (0, 6, .inl (fun _ => 0)), .inl (0, 120, .inl (fun _ => 0)), .inl (0, 120, .inl (fun _ => 0)), .inl (0, 4, .inl (fun _ => 0)), .inl (1, 7, .inr (.inl (fun _ => 0))), .inl (0, 800, .inl (fun _ => 0)), .inl (1, 8400, .inr (.inl (fun _ => 0))), .inl (3, 8400, .inl (fun _ => 0)), .inl (1, 2800, .inr (.inl (fun _ => 0))), .inl (3, 7200, .inl (fun _ => 0)), .inl (0, 72, .inl (fun _ => 0)), .inl (0, 96, .inl (fun _ => 0)), .inl (0, 30, .inl (fun _ => 0)), .inl (0, 4, .inl (fun _ => 0)), .inl (0, 50, .inl (fun _ => 0)), .inl (0, 24, .inl (fun _ => 0)), .inl (0, 6, .inl (upd (upd (upd (upd (upd (upd (fun _ => 0) (0 : Int32).toNatClampNeg (-1)) (1 : Int32).toNatClampNeg (-1)) (2 : Int32).toNatClampNeg (-1)) (3 : Int32).toNatClampNeg (-1)) (4 : Int32).toNatClampNeg (-1)) (5 : Int32).toNatClampNeg (-1))), .inl (0, 6, .inl (fun _ => 0)), .inl (1, 360, .inr (.inl (fun _ => 0))), .inl (1, 60, .inr (.inl (fun _ => 0)))]
set_option maxRecDepth 100000 in
set_option maxHeartbeats 4000000 in
theorem cnX3_init_1 : CN yX3_init cX3_init 1 1 7 39 [.ref 1] cw_1 cw_2 := by
  refine cn_of (ls := [some (.ref 1)]) mfX3_init rfl (Nat.le_of_ble_eq_true rfl) rfl (fun g hg hgn hr hcap hn0 => ?_)
  refine e_aload_n hg dX3_init_0 rfl ?_
  refine e_objInit hg (by omega) lk_95 (Nat.le_of_ble_eq_true rfl) dX3_init_1 ?_
  refine e_aload_n hg dX3_init_4 rfl ?_
  refine e_iconst (v := 1) hg dX3_init_5 (by decide) ?_
  refine e_putf hg inX3 tyX3_ok nmX3 rfl 4 lk_106 dX3_init_6 rfl (Nat.le_of_ble_eq_true rfl) (Nat.le_of_ble_eq_true rfl) rfl (fun _ => rfl) (fun _ => rfl) ?_
  refine e_aload_n hg dX3_init_9 rfl ?_
  refine e_iconst (v := 5) hg dX3_init_10 (by decide) ?_
  refine e_newa0 (n := 2) (N := 5) hg hcap dX3_init_11 (by decide) rfl (Nat.le_of_ble_eq_true rfl) rfl (n0_le hn0 (Nat.le_of_ble_eq_true rfl)) (by decide) (by decide +kernel) (Nat.le_of_ble_eq_true rfl) (Nat.le_of_ble_eq_true rfl) ?_
  refine e_putF hg hgn inX3 tyX3_ok nmX3 rfl 5 lk_109 dX3_init_13 rfl (Nat.le_of_ble_eq_true rfl) (Nat.le_of_ble_eq_true rfl) rfl rfl (fun _ => rfl) (fun _ => rfl) ?_
  refine e_aload_n hg dX3_init_16 rfl ?_
  refine e_iconst (v := 5) hg dX3_init_17 (by decide) ?_
  refine e_newa0 (n := 3) (N := 5) hg hcap dX3_init_18 (by decide) rfl (Nat.le_of_ble_eq_true rfl) rfl (n0_le hn0 (Nat.le_of_ble_eq_true rfl)) (by decide) (by decide +kernel) (Nat.le_of_ble_eq_true rfl) (Nat.le_of_ble_eq_true rfl) ?_
  refine e_putF hg hgn inX3 tyX3_ok nmX3 rfl 6 lk_113 dX3_init_20 rfl (Nat.le_of_ble_eq_true rfl) (Nat.le_of_ble_eq_true rfl) rfl rfl (fun _ => rfl) (fun _ => rfl) ?_
  refine e_aload_n hg dX3_init_23 rfl ?_
  refine e_iconst (v := 5) hg dX3_init_24 (by decide) ?_
  refine e_newa0 (n := 4) (N := 5) hg hcap dX3_init_25 (by decide) rfl (Nat.le_of_ble_eq_true rfl) rfl (n0_le hn0 (Nat.le_of_ble_eq_true rfl)) (by decide) (by decide +kernel) (Nat.le_of_ble_eq_true rfl) (Nat.le_of_ble_eq_true rfl) ?_
  refine e_putF hg hgn inX3 tyX3_ok nmX3 rfl 7 lk_117 dX3_init_27 rfl (Nat.le_of_ble_eq_true rfl) (Nat.le_of_ble_eq_true rfl) rfl rfl (fun _ => rfl) (fun _ => rfl) ?_
  refine e_aload_n hg dX3_init_30 rfl ?_
  refine e_bipush (v := 6) hg dX3_init_31 (by decide) ?_
  refine e_newa0 (n := 5) (N := 6) hg hcap dX3_init_33 (by decide) rfl (Nat.le_of_ble_eq_true rfl) rfl (n0_le hn0 (Nat.le_of_ble_eq_true rfl)) (by decide) (by decide +kernel) (Nat.le_of_ble_eq_true rfl) (Nat.le_of_ble_eq_true rfl) ?_
  refine e_putF hg hgn inX3 tyX3_ok nmX3 rfl 8 lk_120 dX3_init_35 rfl (Nat.le_of_ble_eq_true rfl) (Nat.le_of_ble_eq_true rfl) rfl rfl (fun _ => rfl) (fun _ => rfl) ?_
  refine e_aload_n hg dX3_init_38 rfl ?_
  refine e_bipush (v := 6) hg dX3_init_39 (by decide) ?_
  refine e_newa0 (n := 6) (N := 6) hg hcap dX3_init_41 (by decide) rfl (Nat.le_of_ble_eq_true rfl) rfl (n0_le hn0 (Nat.le_of_ble_eq_true rfl)) (by decide) (by decide +kernel) (Nat.le_of_ble_eq_true rfl) (Nat.le_of_ble_eq_true rfl) ?_
  refine e_putF hg hgn inX3 tyX3_ok nmX3 rfl 9 lk_124 dX3_init_43 rfl (Nat.le_of_ble_eq_true rfl) (Nat.le_of_ble_eq_true rfl) rfl rfl (fun _ => rfl) (fun _ => rfl) ?_
  refine e_aload_n hg dX3_init_46 rfl ?_
  refine e_bipush (v := 6) hg dX3_init_47 (by decide) ?_
  refine e_newa0 (n := 7) (N := 6) hg hcap dX3_init_49 (by decide) rfl (Nat.le_of_ble_eq_true rfl) rfl (n0_le hn0 (Nat.le_of_ble_eq_true rfl)) (by decide) (by decide +kernel) (Nat.le_of_ble_eq_true rfl) (Nat.le_of_ble_eq_true rfl) ?_
  refine e_putF hg hgn inX3 tyX3_ok nmX3 rfl 10 lk_128 dX3_init_51 rfl (Nat.le_of_ble_eq_true rfl) (Nat.le_of_ble_eq_true rfl) rfl rfl (fun _ => rfl) (fun _ => rfl) ?_
  refine e_aload_n hg dX3_init_54 rfl ?_
  refine e_bipush (v := 6) hg dX3_init_55 (by decide) ?_
  refine e_newa0 (n := 8) (N := 6) hg hcap dX3_init_57 (by decide) rfl (Nat.le_of_ble_eq_true rfl) rfl (n0_le hn0 (Nat.le_of_ble_eq_true rfl)) (by decide) (by decide +kernel) (Nat.le_of_ble_eq_true rfl) (Nat.le_of_ble_eq_true rfl) ?_
  refine e_putF hg hgn inX3 tyX3_ok nmX3 rfl 11 lk_132 dX3_init_59 rfl (Nat.le_of_ble_eq_true rfl) (Nat.le_of_ble_eq_true rfl) rfl rfl (fun _ => rfl) (fun _ => rfl) ?_
  change E g _ _ _ _ cw_2
  exact e_vret hg hr dX3_init_62
set_option maxRecDepth 100000 in
set_option maxHeartbeats 4000000 in
theorem cnX7_init_13 : CN yX7_init cX7_init 1 1 2 484 [.ref 13] cw_5 cw_6 := by
  refine cn_of (ls := [some (.ref 13)]) mfX7_init rfl (Nat.le_of_ble_eq_true rfl) rfl (fun g hg hgn hr hcap hn0 => ?_)
  refine e_aload_n hg dX7_init_0 rfl ?_
  refine e_objInit hg (by omega) lk_178 (Nat.le_of_ble_eq_true rfl) dX7_init_1 ?_
  refine e_aload_n hg dX7_init_4 rfl ?_
  refine e_sipush (v := 242) hg dX7_init_5 (by decide) ?_
  refine e_newa0 (n := 14) (N := 242) hg hcap dX7_init_8 (by decide) rfl (Nat.le_of_ble_eq_true rfl) rfl (n0_le hn0 (Nat.le_of_ble_eq_true rfl)) (by decide) (by decide +kernel) (Nat.le_of_ble_eq_true rfl) (Nat.le_of_ble_eq_true rfl) ?_
  refine e_putF hg hgn inX7 tyX7_ok nmX7 rfl 1 lk_182 dX7_init_10 rfl (Nat.le_of_ble_eq_true rfl) (Nat.le_of_ble_eq_true rfl) rfl rfl (fun _ => rfl) (fun _ => rfl) ?_
  refine e_aload_n hg dX7_init_13 rfl ?_
  refine e_sipush (v := 242) hg dX7_init_14 (by decide) ?_
  refine e_newa0 (n := 15) (N := 242) hg hcap dX7_init_17 (by decide) rfl (Nat.le_of_ble_eq_true rfl) rfl (n0_le hn0 (Nat.le_of_ble_eq_true rfl)) (by decide) (by decide +kernel) (Nat.le_of_ble_eq_true rfl) (Nat.le_of_ble_eq_true rfl) ?_
  refine e_putF hg hgn inX7 tyX7_ok nmX7 rfl 2 lk_184 dX7_init_19 rfl (Nat.le_of_ble_eq_true rfl) (Nat.le_of_ble_eq_true rfl) rfl rfl (fun _ => rfl) (fun _ => rfl) ?_
  change E g _ _ _ _ cw_6
  exact e_vret hg hr dX7_init_22
set_option maxRecDepth 100000 in
set_option maxHeartbeats 4000000 in
theorem cnX5_init_11 : CN yX5_init cX5_init 1 2 4 487 [.ref 11] cw_4 cw_7 := by
  refine cn_of (ls := [some (.ref 11)]) mfX5_init rfl (Nat.le_of_ble_eq_true rfl) rfl (fun g hg hgn hr hcap hn0 => ?_)
  refine e_aload_n hg dX5_init_0 rfl ?_
  refine e_objInit hg (by omega) lk_172 (Nat.le_of_ble_eq_true rfl) dX5_init_1 ?_
  refine e_aload_n hg dX5_init_4 rfl ?_
  refine e_iconst (v := 0) hg dX5_init_5 (by decide) ?_
  refine e_newa0 (n := 12) (N := 0) hg hcap dX5_init_6 (by decide) rfl (Nat.le_of_ble_eq_true rfl) rfl (n0_le hn0 (Nat.le_of_ble_eq_true rfl)) (by decide) (by decide +kernel) (Nat.le_of_ble_eq_true rfl) (Nat.le_of_ble_eq_true rfl) ?_
  refine e_putf hg inX5 tyX5_ok nmX5 rfl 0 lk_193 dX5_init_8 rfl (Nat.le_of_ble_eq_true rfl) (Nat.le_of_ble_eq_true rfl) rfl (fun _ => rfl) (fun _ => rfl) ?_
  refine e_aload_n hg dX5_init_11 rfl ?_
  refine e_new (n := 13) hg hcap ciX7 dfX7 lk_173 lk_174 lk_71 dX5_init_12 rfl (n0_le hn0 (Nat.le_of_ble_eq_true rfl)) (by decide) (by decide +kernel) (by decide +kernel) (Nat.le_of_ble_eq_true rfl) (Nat.le_of_ble_eq_true rfl) ?_
  refine e_dup hg dX5_init_15 rfl ?_
  change E g _ _ _ _ cw_5
  refine e_callN (rest := [.ref 13, .ref 11]) hg hcap mfX7_init lk_176 rfl cnX7_init_13 (Or.inl ⟨"LastMender", by decide +kernel⟩) dX5_init_16 rfl rfl (by omega) (Nat.le_of_ble_eq_true rfl) (n0_le hn0 (Nat.le_of_ble_eq_true rfl)) (by decide +kernel) (Nat.le_of_ble_eq_true rfl) (Nat.le_of_ble_eq_true rfl) ?_
  refine e_putF hg hgn inX5 tyX5_ok nmX5 rfl 3 lk_196 dX5_init_19 rfl (Nat.le_of_ble_eq_true rfl) (Nat.le_of_ble_eq_true rfl) rfl rfl (fun _ => rfl) (fun _ => rfl) ?_
  change E g _ _ _ _ cw_7
  exact e_vret hg hr dX5_init_22
set_option maxRecDepth 100000 in
set_option maxHeartbeats 4000000 in
theorem cnX7_init_16 : CN yX7_init cX7_init 1 1 2 484 [.ref 16] cw_8 cw_9 := by
  refine cn_of (ls := [some (.ref 16)]) mfX7_init rfl (Nat.le_of_ble_eq_true rfl) rfl (fun g hg hgn hr hcap hn0 => ?_)
  refine e_aload_n hg dX7_init_0 rfl ?_
  refine e_objInit hg (by omega) lk_178 (Nat.le_of_ble_eq_true rfl) dX7_init_1 ?_
  refine e_aload_n hg dX7_init_4 rfl ?_
  refine e_sipush (v := 242) hg dX7_init_5 (by decide) ?_
  refine e_newa0 (n := 17) (N := 242) hg hcap dX7_init_8 (by decide) rfl (Nat.le_of_ble_eq_true rfl) rfl (n0_le hn0 (Nat.le_of_ble_eq_true rfl)) (by decide) (by decide +kernel) (Nat.le_of_ble_eq_true rfl) (Nat.le_of_ble_eq_true rfl) ?_
  refine e_putF hg hgn inX7 tyX7_ok nmX7 rfl 1 lk_182 dX7_init_10 rfl (Nat.le_of_ble_eq_true rfl) (Nat.le_of_ble_eq_true rfl) rfl rfl (fun _ => rfl) (fun _ => rfl) ?_
  refine e_aload_n hg dX7_init_13 rfl ?_
  refine e_sipush (v := 242) hg dX7_init_14 (by decide) ?_
  refine e_newa0 (n := 18) (N := 242) hg hcap dX7_init_17 (by decide) rfl (Nat.le_of_ble_eq_true rfl) rfl (n0_le hn0 (Nat.le_of_ble_eq_true rfl)) (by decide) (by decide +kernel) (Nat.le_of_ble_eq_true rfl) (Nat.le_of_ble_eq_true rfl) ?_
  refine e_putF hg hgn inX7 tyX7_ok nmX7 rfl 2 lk_184 dX7_init_19 rfl (Nat.le_of_ble_eq_true rfl) (Nat.le_of_ble_eq_true rfl) rfl rfl (fun _ => rfl) (fun _ => rfl) ?_
  change E g _ _ _ _ cw_9
  exact e_vret hg hr dX7_init_22
set_option maxRecDepth 100000 in
set_option maxHeartbeats 4000000 in
theorem cnX8_init_9 : CN yX8_init cX8_init 1 3 11 4746 [.ref 9] cw_3 cw_10 := by
  refine cn_of (ls := [some (.ref 9)]) mfX8_init rfl (Nat.le_of_ble_eq_true rfl) rfl (fun g hg hgn hr hcap hn0 => ?_)
  refine e_aload_n hg dX8_init_0 rfl ?_
  refine e_objInit hg (by omega) lk_166 (Nat.le_of_ble_eq_true rfl) dX8_init_1 ?_
  refine e_aload_n hg dX8_init_4 rfl ?_
  refine e_bipush (v := 120) hg dX8_init_5 (by decide) ?_
  refine e_newa0 (n := 10) (N := 120) hg hcap dX8_init_7 (by decide) rfl (Nat.le_of_ble_eq_true rfl) rfl (n0_le hn0 (Nat.le_of_ble_eq_true rfl)) (by decide) (by decide +kernel) (Nat.le_of_ble_eq_true rfl) (Nat.le_of_ble_eq_true rfl) ?_
  refine e_putF hg hgn inX8 tyX8_ok nmX8 rfl 1 lk_211 dX8_init_9 rfl (Nat.le_of_ble_eq_true rfl) (Nat.le_of_ble_eq_true rfl) rfl rfl (fun _ => rfl) (fun _ => rfl) ?_
  refine e_aload_n hg dX8_init_12 rfl ?_
  refine e_new (n := 11) hg hcap ciX5 dfX5 lk_167 lk_168 lk_70 dX8_init_13 rfl (n0_le hn0 (Nat.le_of_ble_eq_true rfl)) (by decide) (by decide +kernel) (by decide +kernel) (Nat.le_of_ble_eq_true rfl) (Nat.le_of_ble_eq_true rfl) ?_
  refine e_dup hg dX8_init_16 rfl ?_
  change E g _ _ _ _ cw_4
  refine e_callN (rest := [.ref 11, .ref 9]) hg hcap mfX5_init lk_170 rfl cnX5_init_11 (Or.inl ⟨"LastMender", by decide +kernel⟩) dX8_init_17 rfl rfl (by omega) (Nat.le_of_ble_eq_true rfl) (n0_le hn0 (Nat.le_of_ble_eq_true rfl)) (by decide +kernel) (Nat.le_of_ble_eq_true rfl) (Nat.le_of_ble_eq_true rfl) ?_
  refine e_putF hg hgn inX8 tyX8_ok nmX8 rfl 2 lk_212 dX8_init_20 rfl (Nat.le_of_ble_eq_true rfl) (Nat.le_of_ble_eq_true rfl) rfl rfl (fun _ => rfl) (fun _ => rfl) ?_
  refine e_aload_n hg dX8_init_23 rfl ?_
  refine e_new (n := 16) hg hcap ciX7 dfX7 lk_207 lk_174 lk_71 dX8_init_24 rfl (n0_le hn0 (Nat.le_of_ble_eq_true rfl)) (by decide) (by decide +kernel) (by decide +kernel) (Nat.le_of_ble_eq_true rfl) (Nat.le_of_ble_eq_true rfl) ?_
  refine e_dup hg dX8_init_27 rfl ?_
  change E g _ _ _ _ cw_8
  refine e_callN (rest := [.ref 16, .ref 9]) hg hcap mfX7_init lk_176 rfl cnX7_init_16 (Or.inl ⟨"LastMender", by decide +kernel⟩) dX8_init_28 rfl rfl (by omega) (Nat.le_of_ble_eq_true rfl) (n0_le hn0 (Nat.le_of_ble_eq_true rfl)) (by decide +kernel) (Nat.le_of_ble_eq_true rfl) (Nat.le_of_ble_eq_true rfl) ?_
  refine e_putF hg hgn inX8 tyX8_ok nmX8 rfl 3 lk_213 dX8_init_31 rfl (Nat.le_of_ble_eq_true rfl) (Nat.le_of_ble_eq_true rfl) rfl rfl (fun _ => rfl) (fun _ => rfl) ?_
  refine e_aload_n hg dX8_init_34 rfl ?_
  refine e_bipush (v := 48) hg dX8_init_35 (by decide) ?_
  refine e_newa0 (n := 19) (N := 48) hg hcap dX8_init_37 (by decide) rfl (Nat.le_of_ble_eq_true rfl) rfl (n0_le hn0 (Nat.le_of_ble_eq_true rfl)) (by decide) (by decide +kernel) (Nat.le_of_ble_eq_true rfl) (Nat.le_of_ble_eq_true rfl) ?_
  refine e_putF hg hgn inX8 tyX8_ok nmX8 rfl 4 lk_214 dX8_init_39 rfl (Nat.le_of_ble_eq_true rfl) (Nat.le_of_ble_eq_true rfl) rfl rfl (fun _ => rfl) (fun _ => rfl) ?_
  refine e_aload_n hg dX8_init_42 rfl ?_
  refine e_sipush (v := 3600) hg dX8_init_43 (by decide) ?_
  refine e_newa2 (n := 20) (N := 3600) hg hcap dX8_init_46 (by decide) rfl (Nat.le_of_ble_eq_true rfl) rfl (n0_le hn0 (Nat.le_of_ble_eq_true rfl)) (by decide) (by decide +kernel) (Nat.le_of_ble_eq_true rfl) (Nat.le_of_ble_eq_true rfl) ?_
  refine e_putF hg hgn inX8 tyX8_ok nmX8 rfl 5 lk_215 dX8_init_48 rfl (Nat.le_of_ble_eq_true rfl) (Nat.le_of_ble_eq_true rfl) rfl rfl (fun _ => rfl) (fun _ => rfl) ?_
  change E g _ _ _ _ cw_10
  exact e_vret hg hr dX8_init_51
set_option maxRecDepth 100000 in
set_option maxHeartbeats 4000000 in
theorem cnX4_init_21 : CN yX4_init cX4_init 3 1 5 2168 [.ref 21, .ref 1, .ref 9] cw_11 cw_12 := by
  refine cn_of (ls := [some (.ref 21), some (.ref 1), some (.ref 9)]) mfX4_init rfl (Nat.le_of_ble_eq_true rfl) rfl (fun g hg hgn hr hcap hn0 => ?_)
  refine e_aload_n hg dX4_init_0 rfl ?_
  refine e_objInit hg (by omega) lk_235 (Nat.le_of_ble_eq_true rfl) dX4_init_1 ?_
  refine e_aload_n hg dX4_init_4 rfl ?_
  refine e_bipush (v := 56) hg dX4_init_5 (by decide) ?_
  refine e_newa1 (n := 22) (N := 56) hg hcap dX4_init_7 (by decide) rfl (Nat.le_of_ble_eq_true rfl) rfl (n0_le hn0 (Nat.le_of_ble_eq_true rfl)) (by decide) (by decide +kernel) (Nat.le_of_ble_eq_true rfl) (Nat.le_of_ble_eq_true rfl) ?_
  refine e_putf hg inX4 tyX4_ok nmX4 rfl 11 lk_247 dX4_init_9 rfl (Nat.le_of_ble_eq_true rfl) (Nat.le_of_ble_eq_true rfl) rfl (fun _ => rfl) (fun _ => rfl) ?_
  refine e_aload_n hg dX4_init_12 rfl ?_
  refine e_bipush (v := 56) hg dX4_init_13 (by decide) ?_
  refine e_newa1 (n := 23) (N := 56) hg hcap dX4_init_15 (by decide) rfl (Nat.le_of_ble_eq_true rfl) rfl (n0_le hn0 (Nat.le_of_ble_eq_true rfl)) (by decide) (by decide +kernel) (Nat.le_of_ble_eq_true rfl) (Nat.le_of_ble_eq_true rfl) ?_
  refine e_putf hg inX4 tyX4_ok nmX4 rfl 12 lk_248 dX4_init_17 rfl (Nat.le_of_ble_eq_true rfl) (Nat.le_of_ble_eq_true rfl) rfl (fun _ => rfl) (fun _ => rfl) ?_
  refine e_aload_n hg dX4_init_20 rfl ?_
  refine e_iconst (v := 4) hg dX4_init_21 (by decide) ?_
  refine e_newa1 (n := 24) (N := 4) hg hcap dX4_init_22 (by decide) rfl (Nat.le_of_ble_eq_true rfl) rfl (n0_le hn0 (Nat.le_of_ble_eq_true rfl)) (by decide) (by decide +kernel) (Nat.le_of_ble_eq_true rfl) (Nat.le_of_ble_eq_true rfl) ?_
  refine e_putF hg hgn inX4 tyX4_ok nmX4 rfl 13 lk_249 dX4_init_24 rfl (Nat.le_of_ble_eq_true rfl) (Nat.le_of_ble_eq_true rfl) rfl rfl (fun _ => rfl) (fun _ => rfl) ?_
  refine e_aload_n hg dX4_init_27 rfl ?_
  refine e_iconst (v := 4) hg dX4_init_28 (by decide) ?_
  refine e_newa1 (n := 25) (N := 4) hg hcap dX4_init_29 (by decide) rfl (Nat.le_of_ble_eq_true rfl) rfl (n0_le hn0 (Nat.le_of_ble_eq_true rfl)) (by decide) (by decide +kernel) (Nat.le_of_ble_eq_true rfl) (Nat.le_of_ble_eq_true rfl) ?_
  refine e_putF hg hgn inX4 tyX4_ok nmX4 rfl 14 lk_250 dX4_init_31 rfl (Nat.le_of_ble_eq_true rfl) (Nat.le_of_ble_eq_true rfl) rfl rfl (fun _ => rfl) (fun _ => rfl) ?_
  refine e_aload_n hg dX4_init_34 rfl ?_
  refine e_sipush (v := 2048) hg dX4_init_35 (by decide) ?_
  refine e_newa1 (n := 26) (N := 2048) hg hcap dX4_init_38 (by decide) rfl (Nat.le_of_ble_eq_true rfl) rfl (n0_le hn0 (Nat.le_of_ble_eq_true rfl)) (by decide) (by decide +kernel) (Nat.le_of_ble_eq_true rfl) (Nat.le_of_ble_eq_true rfl) ?_
  refine e_putF hg hgn inX4 tyX4_ok nmX4 rfl 15 lk_251 dX4_init_40 rfl (Nat.le_of_ble_eq_true rfl) (Nat.le_of_ble_eq_true rfl) rfl rfl (fun _ => rfl) (fun _ => rfl) ?_
  refine e_aload_n hg dX4_init_43 rfl ?_
  refine e_aload_n hg dX4_init_44 rfl ?_
  refine e_putF hg hgn inX4 tyX4_ok nmX4 rfl 0 lk_236 dX4_init_45 rfl (Nat.le_of_ble_eq_true rfl) (Nat.le_of_ble_eq_true rfl) rfl rfl (fun _ => rfl) (fun _ => rfl) ?_
  refine e_aload_n hg dX4_init_48 rfl ?_
  refine e_aload_n hg dX4_init_49 rfl ?_
  refine e_putF hg hgn inX4 tyX4_ok nmX4 rfl 1 lk_237 dX4_init_50 rfl (Nat.le_of_ble_eq_true rfl) (Nat.le_of_ble_eq_true rfl) rfl rfl (fun _ => rfl) (fun _ => rfl) ?_
  change E g _ _ _ _ cw_12
  exact e_vret hg hr dX4_init_53
set_option maxRecDepth 100000 in
set_option maxHeartbeats 4000000 in
theorem cnX2_init_27 : CN yX2_init cX2_init 4 1 0 0 [.ref 27, .ref 1, .ref 9, .ref 21] cw_13 cw_14 := by
  refine cn_of (ls := [some (.ref 27), some (.ref 1), some (.ref 9), some (.ref 21)]) mfX2_init rfl (Nat.le_of_ble_eq_true rfl) rfl (fun g hg hgn hr hcap hn0 => ?_)
  refine e_aload_n hg dX2_init_0 rfl ?_
  refine e_objInit hg (by omega) lk_291 (Nat.le_of_ble_eq_true rfl) dX2_init_1 ?_
  refine e_aload_n hg dX2_init_4 rfl ?_
  refine e_aload_n hg dX2_init_5 rfl ?_
  refine e_putF hg hgn inX2 tyX2_ok nmX2 rfl 0 lk_292 dX2_init_6 rfl (Nat.le_of_ble_eq_true rfl) (Nat.le_of_ble_eq_true rfl) rfl rfl (fun _ => rfl) (fun _ => rfl) ?_
  refine e_aload_n hg dX2_init_9 rfl ?_
  refine e_aload_n hg dX2_init_10 rfl ?_
  refine e_putF hg hgn inX2 tyX2_ok nmX2 rfl 1 lk_293 dX2_init_11 rfl (Nat.le_of_ble_eq_true rfl) (Nat.le_of_ble_eq_true rfl) rfl rfl (fun _ => rfl) (fun _ => rfl) ?_
  refine e_aload_n hg dX2_init_14 rfl ?_
  refine e_aload_n hg dX2_init_15 rfl ?_
  refine e_putF hg hgn inX2 tyX2_ok nmX2 rfl 2 lk_294 dX2_init_16 rfl (Nat.le_of_ble_eq_true rfl) (Nat.le_of_ble_eq_true rfl) rfl rfl (fun _ => rfl) (fun _ => rfl) ?_
  change E g _ _ _ _ cw_14
  exact e_vret hg hr dX2_init_19
set_option maxRecDepth 100000 in
set_option maxHeartbeats 4000000 in
theorem cnX9_init_28 : CN yX9_init cX9_init 1 1 10 99 [.ref 28] cw_15 cw_16 := by
  refine cn_of (ls := [some (.ref 28)]) mfX9_init rfl (Nat.le_of_ble_eq_true rfl) rfl (fun g hg hgn hr hcap hn0 => ?_)
  refine e_aload_n hg dX9_init_0 rfl ?_
  refine e_objInit hg (by omega) lk_310 (Nat.le_of_ble_eq_true rfl) dX9_init_1 ?_
  refine e_aload_n hg dX9_init_4 rfl ?_
  refine e_bipush (v := 6) hg dX9_init_5 (by decide) ?_
  refine e_newa0 (n := 29) (N := 6) hg hcap dX9_init_7 (by decide) rfl (Nat.le_of_ble_eq_true rfl) rfl (n0_le hn0 (Nat.le_of_ble_eq_true rfl)) (by decide) (by decide +kernel) (Nat.le_of_ble_eq_true rfl) (Nat.le_of_ble_eq_true rfl) ?_
  refine e_putF hg hgn inX9 tyX9_ok nmX9 rfl 2 lk_317 dX9_init_9 rfl (Nat.le_of_ble_eq_true rfl) (Nat.le_of_ble_eq_true rfl) rfl rfl (fun _ => rfl) (fun _ => rfl) ?_
  refine e_aload_n hg dX9_init_12 rfl ?_
  refine e_bipush (v := 6) hg dX9_init_13 (by decide) ?_
  refine e_newa0 (n := 30) (N := 6) hg hcap dX9_init_15 (by decide) rfl (Nat.le_of_ble_eq_true rfl) rfl (n0_le hn0 (Nat.le_of_ble_eq_true rfl)) (by decide) (by decide +kernel) (Nat.le_of_ble_eq_true rfl) (Nat.le_of_ble_eq_true rfl) ?_
  refine e_putF hg hgn inX9 tyX9_ok nmX9 rfl 3 lk_321 dX9_init_17 rfl (Nat.le_of_ble_eq_true rfl) (Nat.le_of_ble_eq_true rfl) rfl rfl (fun _ => rfl) (fun _ => rfl) ?_
  refine e_aload_n hg dX9_init_20 rfl ?_
  refine e_bipush (v := 6) hg dX9_init_21 (by decide) ?_
  refine e_newa0 (n := 31) (N := 6) hg hcap dX9_init_23 (by decide) rfl (Nat.le_of_ble_eq_true rfl) rfl (n0_le hn0 (Nat.le_of_ble_eq_true rfl)) (by decide) (by decide +kernel) (Nat.le_of_ble_eq_true rfl) (Nat.le_of_ble_eq_true rfl) ?_
  refine e_putF hg hgn inX9 tyX9_ok nmX9 rfl 4 lk_325 dX9_init_25 rfl (Nat.le_of_ble_eq_true rfl) (Nat.le_of_ble_eq_true rfl) rfl rfl (fun _ => rfl) (fun _ => rfl) ?_
  refine e_aload_n hg dX9_init_28 rfl ?_
  refine e_bipush (v := 6) hg dX9_init_29 (by decide) ?_
  refine e_newa0 (n := 32) (N := 6) hg hcap dX9_init_31 (by decide) rfl (Nat.le_of_ble_eq_true rfl) rfl (n0_le hn0 (Nat.le_of_ble_eq_true rfl)) (by decide) (by decide +kernel) (Nat.le_of_ble_eq_true rfl) (Nat.le_of_ble_eq_true rfl) ?_
  refine e_putF hg hgn inX9 tyX9_ok nmX9 rfl 5 lk_328 dX9_init_33 rfl (Nat.le_of_ble_eq_true rfl) (Nat.le_of_ble_eq_true rfl) rfl rfl (fun _ => rfl) (fun _ => rfl) ?_
  refine e_aload_n hg dX9_init_36 rfl ?_
  refine e_bipush (v := 6) hg dX9_init_37 (by decide) ?_
  refine e_newa0 (n := 33) (N := 6) hg hcap dX9_init_39 (by decide) rfl (Nat.le_of_ble_eq_true rfl) rfl (n0_le hn0 (Nat.le_of_ble_eq_true rfl)) (by decide) (by decide +kernel) (Nat.le_of_ble_eq_true rfl) (Nat.le_of_ble_eq_true rfl) ?_
  refine e_putF hg hgn inX9 tyX9_ok nmX9 rfl 6 lk_332 dX9_init_41 rfl (Nat.le_of_ble_eq_true rfl) (Nat.le_of_ble_eq_true rfl) rfl rfl (fun _ => rfl) (fun _ => rfl) ?_
  refine e_aload_n hg dX9_init_44 rfl ?_
  refine e_bipush (v := 48) hg dX9_init_45 (by decide) ?_
  refine e_newa0 (n := 34) (N := 48) hg hcap dX9_init_47 (by decide) rfl (Nat.le_of_ble_eq_true rfl) rfl (n0_le hn0 (Nat.le_of_ble_eq_true rfl)) (by decide) (by decide +kernel) (Nat.le_of_ble_eq_true rfl) (Nat.le_of_ble_eq_true rfl) ?_
  refine e_putF hg hgn inX9 tyX9_ok nmX9 rfl 7 lk_334 dX9_init_49 rfl (Nat.le_of_ble_eq_true rfl) (Nat.le_of_ble_eq_true rfl) rfl rfl (fun _ => rfl) (fun _ => rfl) ?_
  refine e_aload_n hg dX9_init_52 rfl ?_
  refine e_iconst (v := 5) hg dX9_init_53 (by decide) ?_
  refine e_newa0 (n := 35) (N := 5) hg hcap dX9_init_54 (by decide) rfl (Nat.le_of_ble_eq_true rfl) rfl (n0_le hn0 (Nat.le_of_ble_eq_true rfl)) (by decide) (by decide +kernel) (Nat.le_of_ble_eq_true rfl) (Nat.le_of_ble_eq_true rfl) ?_
  refine e_putF hg hgn inX9 tyX9_ok nmX9 rfl 8 lk_335 dX9_init_56 rfl (Nat.le_of_ble_eq_true rfl) (Nat.le_of_ble_eq_true rfl) rfl rfl (fun _ => rfl) (fun _ => rfl) ?_
  refine e_aload_n hg dX9_init_59 rfl ?_
  refine e_iconst (v := 5) hg dX9_init_60 (by decide) ?_
  refine e_newa0 (n := 36) (N := 5) hg hcap dX9_init_61 (by decide) rfl (Nat.le_of_ble_eq_true rfl) rfl (n0_le hn0 (Nat.le_of_ble_eq_true rfl)) (by decide) (by decide +kernel) (Nat.le_of_ble_eq_true rfl) (Nat.le_of_ble_eq_true rfl) ?_
  refine e_putF hg hgn inX9 tyX9_ok nmX9 rfl 9 lk_338 dX9_init_63 rfl (Nat.le_of_ble_eq_true rfl) (Nat.le_of_ble_eq_true rfl) rfl rfl (fun _ => rfl) (fun _ => rfl) ?_
  refine e_aload_n hg dX9_init_66 rfl ?_
  refine e_iconst (v := 5) hg dX9_init_67 (by decide) ?_
  refine e_newa0 (n := 37) (N := 5) hg hcap dX9_init_68 (by decide) rfl (Nat.le_of_ble_eq_true rfl) rfl (n0_le hn0 (Nat.le_of_ble_eq_true rfl)) (by decide) (by decide +kernel) (Nat.le_of_ble_eq_true rfl) (Nat.le_of_ble_eq_true rfl) ?_
  refine e_putF hg hgn inX9 tyX9_ok nmX9 rfl 10 lk_340 dX9_init_70 rfl (Nat.le_of_ble_eq_true rfl) (Nat.le_of_ble_eq_true rfl) rfl rfl (fun _ => rfl) (fun _ => rfl) ?_
  refine e_aload_n hg dX9_init_73 rfl ?_
  refine e_bipush (v := 6) hg dX9_init_74 (by decide) ?_
  refine e_newa0 (n := 38) (N := 6) hg hcap dX9_init_76 (by decide) rfl (Nat.le_of_ble_eq_true rfl) rfl (n0_le hn0 (Nat.le_of_ble_eq_true rfl)) (by decide) (by decide +kernel) (Nat.le_of_ble_eq_true rfl) (Nat.le_of_ble_eq_true rfl) ?_
  refine e_putF hg hgn inX9 tyX9_ok nmX9 rfl 11 lk_342 dX9_init_78 rfl (Nat.le_of_ble_eq_true rfl) (Nat.le_of_ble_eq_true rfl) rfl rfl (fun _ => rfl) (fun _ => rfl) ?_
  change E g _ _ _ _ cw_16
  exact e_vret hg hr dX9_init_81
set_option maxRecDepth 100000 in
set_option maxHeartbeats 4000000 in
theorem cnX9_init_39 : CN yX9_init cX9_init 1 1 10 99 [.ref 39] cw_17 cw_18 := by
  refine cn_of (ls := [some (.ref 39)]) mfX9_init rfl (Nat.le_of_ble_eq_true rfl) rfl (fun g hg hgn hr hcap hn0 => ?_)
  refine e_aload_n hg dX9_init_0 rfl ?_
  refine e_objInit hg (by omega) lk_310 (Nat.le_of_ble_eq_true rfl) dX9_init_1 ?_
  refine e_aload_n hg dX9_init_4 rfl ?_
  refine e_bipush (v := 6) hg dX9_init_5 (by decide) ?_
  refine e_newa0 (n := 40) (N := 6) hg hcap dX9_init_7 (by decide) rfl (Nat.le_of_ble_eq_true rfl) rfl (n0_le hn0 (Nat.le_of_ble_eq_true rfl)) (by decide) (by decide +kernel) (Nat.le_of_ble_eq_true rfl) (Nat.le_of_ble_eq_true rfl) ?_
  refine e_putF hg hgn inX9 tyX9_ok nmX9 rfl 2 lk_317 dX9_init_9 rfl (Nat.le_of_ble_eq_true rfl) (Nat.le_of_ble_eq_true rfl) rfl rfl (fun _ => rfl) (fun _ => rfl) ?_
  refine e_aload_n hg dX9_init_12 rfl ?_
  refine e_bipush (v := 6) hg dX9_init_13 (by decide) ?_
  refine e_newa0 (n := 41) (N := 6) hg hcap dX9_init_15 (by decide) rfl (Nat.le_of_ble_eq_true rfl) rfl (n0_le hn0 (Nat.le_of_ble_eq_true rfl)) (by decide) (by decide +kernel) (Nat.le_of_ble_eq_true rfl) (Nat.le_of_ble_eq_true rfl) ?_
  refine e_putF hg hgn inX9 tyX9_ok nmX9 rfl 3 lk_321 dX9_init_17 rfl (Nat.le_of_ble_eq_true rfl) (Nat.le_of_ble_eq_true rfl) rfl rfl (fun _ => rfl) (fun _ => rfl) ?_
  refine e_aload_n hg dX9_init_20 rfl ?_
  refine e_bipush (v := 6) hg dX9_init_21 (by decide) ?_
  refine e_newa0 (n := 42) (N := 6) hg hcap dX9_init_23 (by decide) rfl (Nat.le_of_ble_eq_true rfl) rfl (n0_le hn0 (Nat.le_of_ble_eq_true rfl)) (by decide) (by decide +kernel) (Nat.le_of_ble_eq_true rfl) (Nat.le_of_ble_eq_true rfl) ?_
  refine e_putF hg hgn inX9 tyX9_ok nmX9 rfl 4 lk_325 dX9_init_25 rfl (Nat.le_of_ble_eq_true rfl) (Nat.le_of_ble_eq_true rfl) rfl rfl (fun _ => rfl) (fun _ => rfl) ?_
  refine e_aload_n hg dX9_init_28 rfl ?_
  refine e_bipush (v := 6) hg dX9_init_29 (by decide) ?_
  refine e_newa0 (n := 43) (N := 6) hg hcap dX9_init_31 (by decide) rfl (Nat.le_of_ble_eq_true rfl) rfl (n0_le hn0 (Nat.le_of_ble_eq_true rfl)) (by decide) (by decide +kernel) (Nat.le_of_ble_eq_true rfl) (Nat.le_of_ble_eq_true rfl) ?_
  refine e_putF hg hgn inX9 tyX9_ok nmX9 rfl 5 lk_328 dX9_init_33 rfl (Nat.le_of_ble_eq_true rfl) (Nat.le_of_ble_eq_true rfl) rfl rfl (fun _ => rfl) (fun _ => rfl) ?_
  refine e_aload_n hg dX9_init_36 rfl ?_
  refine e_bipush (v := 6) hg dX9_init_37 (by decide) ?_
  refine e_newa0 (n := 44) (N := 6) hg hcap dX9_init_39 (by decide) rfl (Nat.le_of_ble_eq_true rfl) rfl (n0_le hn0 (Nat.le_of_ble_eq_true rfl)) (by decide) (by decide +kernel) (Nat.le_of_ble_eq_true rfl) (Nat.le_of_ble_eq_true rfl) ?_
  refine e_putF hg hgn inX9 tyX9_ok nmX9 rfl 6 lk_332 dX9_init_41 rfl (Nat.le_of_ble_eq_true rfl) (Nat.le_of_ble_eq_true rfl) rfl rfl (fun _ => rfl) (fun _ => rfl) ?_
  refine e_aload_n hg dX9_init_44 rfl ?_
  refine e_bipush (v := 48) hg dX9_init_45 (by decide) ?_
  refine e_newa0 (n := 45) (N := 48) hg hcap dX9_init_47 (by decide) rfl (Nat.le_of_ble_eq_true rfl) rfl (n0_le hn0 (Nat.le_of_ble_eq_true rfl)) (by decide) (by decide +kernel) (Nat.le_of_ble_eq_true rfl) (Nat.le_of_ble_eq_true rfl) ?_
  refine e_putF hg hgn inX9 tyX9_ok nmX9 rfl 7 lk_334 dX9_init_49 rfl (Nat.le_of_ble_eq_true rfl) (Nat.le_of_ble_eq_true rfl) rfl rfl (fun _ => rfl) (fun _ => rfl) ?_
  refine e_aload_n hg dX9_init_52 rfl ?_
  refine e_iconst (v := 5) hg dX9_init_53 (by decide) ?_
  refine e_newa0 (n := 46) (N := 5) hg hcap dX9_init_54 (by decide) rfl (Nat.le_of_ble_eq_true rfl) rfl (n0_le hn0 (Nat.le_of_ble_eq_true rfl)) (by decide) (by decide +kernel) (Nat.le_of_ble_eq_true rfl) (Nat.le_of_ble_eq_true rfl) ?_
  refine e_putF hg hgn inX9 tyX9_ok nmX9 rfl 8 lk_335 dX9_init_56 rfl (Nat.le_of_ble_eq_true rfl) (Nat.le_of_ble_eq_true rfl) rfl rfl (fun _ => rfl) (fun _ => rfl) ?_
  refine e_aload_n hg dX9_init_59 rfl ?_
  refine e_iconst (v := 5) hg dX9_init_60 (by decide) ?_
  refine e_newa0 (n := 47) (N := 5) hg hcap dX9_init_61 (by decide) rfl (Nat.le_of_ble_eq_true rfl) rfl (n0_le hn0 (Nat.le_of_ble_eq_true rfl)) (by decide) (by decide +kernel) (Nat.le_of_ble_eq_true rfl) (Nat.le_of_ble_eq_true rfl) ?_
  refine e_putF hg hgn inX9 tyX9_ok nmX9 rfl 9 lk_338 dX9_init_63 rfl (Nat.le_of_ble_eq_true rfl) (Nat.le_of_ble_eq_true rfl) rfl rfl (fun _ => rfl) (fun _ => rfl) ?_
  refine e_aload_n hg dX9_init_66 rfl ?_
  refine e_iconst (v := 5) hg dX9_init_67 (by decide) ?_
  refine e_newa0 (n := 48) (N := 5) hg hcap dX9_init_68 (by decide) rfl (Nat.le_of_ble_eq_true rfl) rfl (n0_le hn0 (Nat.le_of_ble_eq_true rfl)) (by decide) (by decide +kernel) (Nat.le_of_ble_eq_true rfl) (Nat.le_of_ble_eq_true rfl) ?_
  refine e_putF hg hgn inX9 tyX9_ok nmX9 rfl 10 lk_340 dX9_init_70 rfl (Nat.le_of_ble_eq_true rfl) (Nat.le_of_ble_eq_true rfl) rfl rfl (fun _ => rfl) (fun _ => rfl) ?_
  refine e_aload_n hg dX9_init_73 rfl ?_
  refine e_bipush (v := 6) hg dX9_init_74 (by decide) ?_
  refine e_newa0 (n := 49) (N := 6) hg hcap dX9_init_76 (by decide) rfl (Nat.le_of_ble_eq_true rfl) rfl (n0_le hn0 (Nat.le_of_ble_eq_true rfl)) (by decide) (by decide +kernel) (Nat.le_of_ble_eq_true rfl) (Nat.le_of_ble_eq_true rfl) ?_
  refine e_putF hg hgn inX9 tyX9_ok nmX9 rfl 11 lk_342 dX9_init_78 rfl (Nat.le_of_ble_eq_true rfl) (Nat.le_of_ble_eq_true rfl) rfl rfl (fun _ => rfl) (fun _ => rfl) ?_
  change E g _ _ _ _ cw_18
  exact e_vret hg hr dX9_init_81
set_option maxRecDepth 100000 in
set_option maxHeartbeats 4000000 in
theorem cnX9_init_50 : CN yX9_init cX9_init 1 1 10 99 [.ref 50] cw_19 cw_20 := by
  refine cn_of (ls := [some (.ref 50)]) mfX9_init rfl (Nat.le_of_ble_eq_true rfl) rfl (fun g hg hgn hr hcap hn0 => ?_)
  refine e_aload_n hg dX9_init_0 rfl ?_
  refine e_objInit hg (by omega) lk_310 (Nat.le_of_ble_eq_true rfl) dX9_init_1 ?_
  refine e_aload_n hg dX9_init_4 rfl ?_
  refine e_bipush (v := 6) hg dX9_init_5 (by decide) ?_
  refine e_newa0 (n := 51) (N := 6) hg hcap dX9_init_7 (by decide) rfl (Nat.le_of_ble_eq_true rfl) rfl (n0_le hn0 (Nat.le_of_ble_eq_true rfl)) (by decide) (by decide +kernel) (Nat.le_of_ble_eq_true rfl) (Nat.le_of_ble_eq_true rfl) ?_
  refine e_putF hg hgn inX9 tyX9_ok nmX9 rfl 2 lk_317 dX9_init_9 rfl (Nat.le_of_ble_eq_true rfl) (Nat.le_of_ble_eq_true rfl) rfl rfl (fun _ => rfl) (fun _ => rfl) ?_
  refine e_aload_n hg dX9_init_12 rfl ?_
  refine e_bipush (v := 6) hg dX9_init_13 (by decide) ?_
  refine e_newa0 (n := 52) (N := 6) hg hcap dX9_init_15 (by decide) rfl (Nat.le_of_ble_eq_true rfl) rfl (n0_le hn0 (Nat.le_of_ble_eq_true rfl)) (by decide) (by decide +kernel) (Nat.le_of_ble_eq_true rfl) (Nat.le_of_ble_eq_true rfl) ?_
  refine e_putF hg hgn inX9 tyX9_ok nmX9 rfl 3 lk_321 dX9_init_17 rfl (Nat.le_of_ble_eq_true rfl) (Nat.le_of_ble_eq_true rfl) rfl rfl (fun _ => rfl) (fun _ => rfl) ?_
  refine e_aload_n hg dX9_init_20 rfl ?_
  refine e_bipush (v := 6) hg dX9_init_21 (by decide) ?_
  refine e_newa0 (n := 53) (N := 6) hg hcap dX9_init_23 (by decide) rfl (Nat.le_of_ble_eq_true rfl) rfl (n0_le hn0 (Nat.le_of_ble_eq_true rfl)) (by decide) (by decide +kernel) (Nat.le_of_ble_eq_true rfl) (Nat.le_of_ble_eq_true rfl) ?_
  refine e_putF hg hgn inX9 tyX9_ok nmX9 rfl 4 lk_325 dX9_init_25 rfl (Nat.le_of_ble_eq_true rfl) (Nat.le_of_ble_eq_true rfl) rfl rfl (fun _ => rfl) (fun _ => rfl) ?_
  refine e_aload_n hg dX9_init_28 rfl ?_
  refine e_bipush (v := 6) hg dX9_init_29 (by decide) ?_
  refine e_newa0 (n := 54) (N := 6) hg hcap dX9_init_31 (by decide) rfl (Nat.le_of_ble_eq_true rfl) rfl (n0_le hn0 (Nat.le_of_ble_eq_true rfl)) (by decide) (by decide +kernel) (Nat.le_of_ble_eq_true rfl) (Nat.le_of_ble_eq_true rfl) ?_
  refine e_putF hg hgn inX9 tyX9_ok nmX9 rfl 5 lk_328 dX9_init_33 rfl (Nat.le_of_ble_eq_true rfl) (Nat.le_of_ble_eq_true rfl) rfl rfl (fun _ => rfl) (fun _ => rfl) ?_
  refine e_aload_n hg dX9_init_36 rfl ?_
  refine e_bipush (v := 6) hg dX9_init_37 (by decide) ?_
  refine e_newa0 (n := 55) (N := 6) hg hcap dX9_init_39 (by decide) rfl (Nat.le_of_ble_eq_true rfl) rfl (n0_le hn0 (Nat.le_of_ble_eq_true rfl)) (by decide) (by decide +kernel) (Nat.le_of_ble_eq_true rfl) (Nat.le_of_ble_eq_true rfl) ?_
  refine e_putF hg hgn inX9 tyX9_ok nmX9 rfl 6 lk_332 dX9_init_41 rfl (Nat.le_of_ble_eq_true rfl) (Nat.le_of_ble_eq_true rfl) rfl rfl (fun _ => rfl) (fun _ => rfl) ?_
  refine e_aload_n hg dX9_init_44 rfl ?_
  refine e_bipush (v := 48) hg dX9_init_45 (by decide) ?_
  refine e_newa0 (n := 56) (N := 48) hg hcap dX9_init_47 (by decide) rfl (Nat.le_of_ble_eq_true rfl) rfl (n0_le hn0 (Nat.le_of_ble_eq_true rfl)) (by decide) (by decide +kernel) (Nat.le_of_ble_eq_true rfl) (Nat.le_of_ble_eq_true rfl) ?_
  refine e_putF hg hgn inX9 tyX9_ok nmX9 rfl 7 lk_334 dX9_init_49 rfl (Nat.le_of_ble_eq_true rfl) (Nat.le_of_ble_eq_true rfl) rfl rfl (fun _ => rfl) (fun _ => rfl) ?_
  refine e_aload_n hg dX9_init_52 rfl ?_
  refine e_iconst (v := 5) hg dX9_init_53 (by decide) ?_
  refine e_newa0 (n := 57) (N := 5) hg hcap dX9_init_54 (by decide) rfl (Nat.le_of_ble_eq_true rfl) rfl (n0_le hn0 (Nat.le_of_ble_eq_true rfl)) (by decide) (by decide +kernel) (Nat.le_of_ble_eq_true rfl) (Nat.le_of_ble_eq_true rfl) ?_
  refine e_putF hg hgn inX9 tyX9_ok nmX9 rfl 8 lk_335 dX9_init_56 rfl (Nat.le_of_ble_eq_true rfl) (Nat.le_of_ble_eq_true rfl) rfl rfl (fun _ => rfl) (fun _ => rfl) ?_
  refine e_aload_n hg dX9_init_59 rfl ?_
  refine e_iconst (v := 5) hg dX9_init_60 (by decide) ?_
  refine e_newa0 (n := 58) (N := 5) hg hcap dX9_init_61 (by decide) rfl (Nat.le_of_ble_eq_true rfl) rfl (n0_le hn0 (Nat.le_of_ble_eq_true rfl)) (by decide) (by decide +kernel) (Nat.le_of_ble_eq_true rfl) (Nat.le_of_ble_eq_true rfl) ?_
  refine e_putF hg hgn inX9 tyX9_ok nmX9 rfl 9 lk_338 dX9_init_63 rfl (Nat.le_of_ble_eq_true rfl) (Nat.le_of_ble_eq_true rfl) rfl rfl (fun _ => rfl) (fun _ => rfl) ?_
  refine e_aload_n hg dX9_init_66 rfl ?_
  refine e_iconst (v := 5) hg dX9_init_67 (by decide) ?_
  refine e_newa0 (n := 59) (N := 5) hg hcap dX9_init_68 (by decide) rfl (Nat.le_of_ble_eq_true rfl) rfl (n0_le hn0 (Nat.le_of_ble_eq_true rfl)) (by decide) (by decide +kernel) (Nat.le_of_ble_eq_true rfl) (Nat.le_of_ble_eq_true rfl) ?_
  refine e_putF hg hgn inX9 tyX9_ok nmX9 rfl 10 lk_340 dX9_init_70 rfl (Nat.le_of_ble_eq_true rfl) (Nat.le_of_ble_eq_true rfl) rfl rfl (fun _ => rfl) (fun _ => rfl) ?_
  refine e_aload_n hg dX9_init_73 rfl ?_
  refine e_bipush (v := 6) hg dX9_init_74 (by decide) ?_
  refine e_newa0 (n := 60) (N := 6) hg hcap dX9_init_76 (by decide) rfl (Nat.le_of_ble_eq_true rfl) rfl (n0_le hn0 (Nat.le_of_ble_eq_true rfl)) (by decide) (by decide +kernel) (Nat.le_of_ble_eq_true rfl) (Nat.le_of_ble_eq_true rfl) ?_
  refine e_putF hg hgn inX9 tyX9_ok nmX9 rfl 11 lk_342 dX9_init_78 rfl (Nat.le_of_ble_eq_true rfl) (Nat.le_of_ble_eq_true rfl) rfl rfl (fun _ => rfl) (fun _ => rfl) ?_
  change E g _ _ _ _ cw_20
  exact e_vret hg hr dX9_init_81
set_option maxRecDepth 100000 in
set_option maxHeartbeats 4000000 in
theorem cnX1_init_61 : CN yX1_init cX1_init 1 1 4 160 [.ref 61] cw_21 cw_22 := by
  refine cn_of (ls := [some (.ref 61)]) mfX1_init rfl (Nat.le_of_ble_eq_true rfl) rfl (fun g hg hgn hr hcap hn0 => ?_)
  refine e_aload_n hg dX1_init_0 rfl ?_
  refine e_objInit hg (by omega) lk_375 (Nat.le_of_ble_eq_true rfl) dX1_init_1 ?_
  refine e_aload_n hg dX1_init_4 rfl ?_
  refine e_bipush (v := 40) hg dX1_init_5 (by decide) ?_
  refine e_newa0 (n := 62) (N := 40) hg hcap dX1_init_7 (by decide) rfl (Nat.le_of_ble_eq_true rfl) rfl (n0_le hn0 (Nat.le_of_ble_eq_true rfl)) (by decide) (by decide +kernel) (Nat.le_of_ble_eq_true rfl) (Nat.le_of_ble_eq_true rfl) ?_
  refine e_putF hg hgn inX1 tyX1_ok nmX1 rfl 2 lk_379 dX1_init_9 rfl (Nat.le_of_ble_eq_true rfl) (Nat.le_of_ble_eq_true rfl) rfl rfl (fun _ => rfl) (fun _ => rfl) ?_
  refine e_aload_n hg dX1_init_12 rfl ?_
  refine e_bipush (v := 40) hg dX1_init_13 (by decide) ?_
  refine e_newa0 (n := 63) (N := 40) hg hcap dX1_init_15 (by decide) rfl (Nat.le_of_ble_eq_true rfl) rfl (n0_le hn0 (Nat.le_of_ble_eq_true rfl)) (by decide) (by decide +kernel) (Nat.le_of_ble_eq_true rfl) (Nat.le_of_ble_eq_true rfl) ?_
  refine e_putF hg hgn inX1 tyX1_ok nmX1 rfl 3 lk_380 dX1_init_17 rfl (Nat.le_of_ble_eq_true rfl) (Nat.le_of_ble_eq_true rfl) rfl rfl (fun _ => rfl) (fun _ => rfl) ?_
  refine e_aload_n hg dX1_init_20 rfl ?_
  refine e_bipush (v := 40) hg dX1_init_21 (by decide) ?_
  refine e_newa0 (n := 64) (N := 40) hg hcap dX1_init_23 (by decide) rfl (Nat.le_of_ble_eq_true rfl) rfl (n0_le hn0 (Nat.le_of_ble_eq_true rfl)) (by decide) (by decide +kernel) (Nat.le_of_ble_eq_true rfl) (Nat.le_of_ble_eq_true rfl) ?_
  refine e_putF hg hgn inX1 tyX1_ok nmX1 rfl 4 lk_381 dX1_init_25 rfl (Nat.le_of_ble_eq_true rfl) (Nat.le_of_ble_eq_true rfl) rfl rfl (fun _ => rfl) (fun _ => rfl) ?_
  refine e_aload_n hg dX1_init_28 rfl ?_
  refine e_bipush (v := 40) hg dX1_init_29 (by decide) ?_
  refine e_newa0 (n := 65) (N := 40) hg hcap dX1_init_31 (by decide) rfl (Nat.le_of_ble_eq_true rfl) rfl (n0_le hn0 (Nat.le_of_ble_eq_true rfl)) (by decide) (by decide +kernel) (Nat.le_of_ble_eq_true rfl) (Nat.le_of_ble_eq_true rfl) ?_
  refine e_putF hg hgn inX1 tyX1_ok nmX1 rfl 5 lk_382 dX1_init_33 rfl (Nat.le_of_ble_eq_true rfl) (Nat.le_of_ble_eq_true rfl) rfl rfl (fun _ => rfl) (fun _ => rfl) ?_
  change E g _ _ _ _ cw_22
  exact e_vret hg hr dX1_init_36
set_option maxRecDepth 100000 in
set_option maxHeartbeats 4000000 in
theorem cnX0_init_66 : CN yX0_init cX0_init 1 1 2 74 [.ref 66] cw_23 cw_24 := by
  refine cn_of (ls := [some (.ref 66)]) mfX0_init rfl (Nat.le_of_ble_eq_true rfl) rfl (fun g hg hgn hr hcap hn0 => ?_)
  refine e_aload_n hg dX0_init_0 rfl ?_
  refine e_objInit hg (by omega) lk_401 (Nat.le_of_ble_eq_true rfl) dX0_init_1 ?_
  refine e_aload_n hg dX0_init_4 rfl ?_
  refine e_bipush (v := 24) hg dX0_init_5 (by decide) ?_
  refine e_newa0 (n := 67) (N := 24) hg hcap dX0_init_7 (by decide) rfl (Nat.le_of_ble_eq_true rfl) rfl (n0_le hn0 (Nat.le_of_ble_eq_true rfl)) (by decide) (by decide +kernel) (Nat.le_of_ble_eq_true rfl) (Nat.le_of_ble_eq_true rfl) ?_
  refine e_putF hg hgn inX0 tyX0_ok nmX0 rfl 2 lk_406 dX0_init_9 rfl (Nat.le_of_ble_eq_true rfl) (Nat.le_of_ble_eq_true rfl) rfl rfl (fun _ => rfl) (fun _ => rfl) ?_
  refine e_aload_n hg dX0_init_12 rfl ?_
  refine e_bipush (v := 50) hg dX0_init_13 (by decide) ?_
  refine e_newa0 (n := 68) (N := 50) hg hcap dX0_init_15 (by decide) rfl (Nat.le_of_ble_eq_true rfl) rfl (n0_le hn0 (Nat.le_of_ble_eq_true rfl)) (by decide) (by decide +kernel) (Nat.le_of_ble_eq_true rfl) (Nat.le_of_ble_eq_true rfl) ?_
  refine e_putF hg hgn inX0 tyX0_ok nmX0 rfl 3 lk_408 dX0_init_17 rfl (Nat.le_of_ble_eq_true rfl) (Nat.le_of_ble_eq_true rfl) rfl rfl (fun _ => rfl) (fun _ => rfl) ?_
  change E g _ _ _ _ cw_24
  exact e_vret hg hr dX0_init_20
set_option maxRecDepth 100000 in
set_option maxHeartbeats 4000000 in
theorem cnX6_init_70 : CN yX6_init cX6_init 1 1 1 60 [.ref 70] cw_25 cw_26 := by
  refine cn_of (ls := [some (.ref 70)]) mfX6_init rfl (Nat.le_of_ble_eq_true rfl) rfl (fun g hg hgn hr hcap hn0 => ?_)
  refine e_aload_n hg dX6_init_0 rfl ?_
  refine e_objInit hg (by omega) lk_430 (Nat.le_of_ble_eq_true rfl) dX6_init_1 ?_
  refine e_aload_n hg dX6_init_4 rfl ?_
  refine e_bipush (v := 60) hg dX6_init_5 (by decide) ?_
  refine e_newa1 (n := 71) (N := 60) hg hcap dX6_init_7 (by decide) rfl (Nat.le_of_ble_eq_true rfl) rfl (n0_le hn0 (Nat.le_of_ble_eq_true rfl)) (by decide) (by decide +kernel) (Nat.le_of_ble_eq_true rfl) (Nat.le_of_ble_eq_true rfl) ?_
  refine e_putF hg hgn inX6 tyX6_ok nmX6 rfl 4 lk_439 dX6_init_9 rfl (Nat.le_of_ble_eq_true rfl) (Nat.le_of_ble_eq_true rfl) rfl rfl (fun _ => rfl) (fun _ => rfl) ?_
  change E g _ _ _ _ cw_26
  exact e_vret hg hr dX6_init_12
set_option maxRecDepth 100000 in
set_option maxHeartbeats 4000000 in
theorem cnX6_init_72 : CN yX6_init cX6_init 1 1 1 60 [.ref 72] cw_27 cw_28 := by
  refine cn_of (ls := [some (.ref 72)]) mfX6_init rfl (Nat.le_of_ble_eq_true rfl) rfl (fun g hg hgn hr hcap hn0 => ?_)
  refine e_aload_n hg dX6_init_0 rfl ?_
  refine e_objInit hg (by omega) lk_430 (Nat.le_of_ble_eq_true rfl) dX6_init_1 ?_
  refine e_aload_n hg dX6_init_4 rfl ?_
  refine e_bipush (v := 60) hg dX6_init_5 (by decide) ?_
  refine e_newa1 (n := 73) (N := 60) hg hcap dX6_init_7 (by decide) rfl (Nat.le_of_ble_eq_true rfl) rfl (n0_le hn0 (Nat.le_of_ble_eq_true rfl)) (by decide) (by decide +kernel) (Nat.le_of_ble_eq_true rfl) (Nat.le_of_ble_eq_true rfl) ?_
  refine e_putF hg hgn inX6 tyX6_ok nmX6 rfl 4 lk_439 dX6_init_9 rfl (Nat.le_of_ble_eq_true rfl) (Nat.le_of_ble_eq_true rfl) rfl rfl (fun _ => rfl) (fun _ => rfl) ?_
  change E g _ _ _ _ cw_28
  exact e_vret hg hr dX6_init_12
set_option maxRecDepth 100000 in
set_option maxHeartbeats 4000000 in
theorem cnX6_init_74 : CN yX6_init cX6_init 1 1 1 60 [.ref 74] cw_29 cw_30 := by
  refine cn_of (ls := [some (.ref 74)]) mfX6_init rfl (Nat.le_of_ble_eq_true rfl) rfl (fun g hg hgn hr hcap hn0 => ?_)
  refine e_aload_n hg dX6_init_0 rfl ?_
  refine e_objInit hg (by omega) lk_430 (Nat.le_of_ble_eq_true rfl) dX6_init_1 ?_
  refine e_aload_n hg dX6_init_4 rfl ?_
  refine e_bipush (v := 60) hg dX6_init_5 (by decide) ?_
  refine e_newa1 (n := 75) (N := 60) hg hcap dX6_init_7 (by decide) rfl (Nat.le_of_ble_eq_true rfl) rfl (n0_le hn0 (Nat.le_of_ble_eq_true rfl)) (by decide) (by decide +kernel) (Nat.le_of_ble_eq_true rfl) (Nat.le_of_ble_eq_true rfl) ?_
  refine e_putF hg hgn inX6 tyX6_ok nmX6 rfl 4 lk_439 dX6_init_9 rfl (Nat.le_of_ble_eq_true rfl) (Nat.le_of_ble_eq_true rfl) rfl rfl (fun _ => rfl) (fun _ => rfl) ?_
  change E g _ _ _ _ cw_30
  exact e_vret hg hr dX6_init_12
set_option maxRecDepth 100000 in
set_option maxHeartbeats 4000000 in
theorem cnX6_init_76 : CN yX6_init cX6_init 1 1 1 60 [.ref 76] cw_31 cw_32 := by
  refine cn_of (ls := [some (.ref 76)]) mfX6_init rfl (Nat.le_of_ble_eq_true rfl) rfl (fun g hg hgn hr hcap hn0 => ?_)
  refine e_aload_n hg dX6_init_0 rfl ?_
  refine e_objInit hg (by omega) lk_430 (Nat.le_of_ble_eq_true rfl) dX6_init_1 ?_
  refine e_aload_n hg dX6_init_4 rfl ?_
  refine e_bipush (v := 60) hg dX6_init_5 (by decide) ?_
  refine e_newa1 (n := 77) (N := 60) hg hcap dX6_init_7 (by decide) rfl (Nat.le_of_ble_eq_true rfl) rfl (n0_le hn0 (Nat.le_of_ble_eq_true rfl)) (by decide) (by decide +kernel) (Nat.le_of_ble_eq_true rfl) (Nat.le_of_ble_eq_true rfl) ?_
  refine e_putF hg hgn inX6 tyX6_ok nmX6 rfl 4 lk_439 dX6_init_9 rfl (Nat.le_of_ble_eq_true rfl) (Nat.le_of_ble_eq_true rfl) rfl rfl (fun _ => rfl) (fun _ => rfl) ?_
  change E g _ _ _ _ cw_32
  exact e_vret hg hr dX6_init_12
set_option maxRecDepth 100000 in
set_option maxHeartbeats 4000000 in
theorem cnX6_init_78 : CN yX6_init cX6_init 1 1 1 60 [.ref 78] cw_33 cw_34 := by
  refine cn_of (ls := [some (.ref 78)]) mfX6_init rfl (Nat.le_of_ble_eq_true rfl) rfl (fun g hg hgn hr hcap hn0 => ?_)
  refine e_aload_n hg dX6_init_0 rfl ?_
  refine e_objInit hg (by omega) lk_430 (Nat.le_of_ble_eq_true rfl) dX6_init_1 ?_
  refine e_aload_n hg dX6_init_4 rfl ?_
  refine e_bipush (v := 60) hg dX6_init_5 (by decide) ?_
  refine e_newa1 (n := 79) (N := 60) hg hcap dX6_init_7 (by decide) rfl (Nat.le_of_ble_eq_true rfl) rfl (n0_le hn0 (Nat.le_of_ble_eq_true rfl)) (by decide) (by decide +kernel) (Nat.le_of_ble_eq_true rfl) (Nat.le_of_ble_eq_true rfl) ?_
  refine e_putF hg hgn inX6 tyX6_ok nmX6 rfl 4 lk_439 dX6_init_9 rfl (Nat.le_of_ble_eq_true rfl) (Nat.le_of_ble_eq_true rfl) rfl rfl (fun _ => rfl) (fun _ => rfl) ?_
  change E g _ _ _ _ cw_34
  exact e_vret hg hr dX6_init_12
set_option maxRecDepth 100000 in
set_option maxHeartbeats 4000000 in
theorem cnX6_init_80 : CN yX6_init cX6_init 1 1 1 60 [.ref 80] cw_35 cw_36 := by
  refine cn_of (ls := [some (.ref 80)]) mfX6_init rfl (Nat.le_of_ble_eq_true rfl) rfl (fun g hg hgn hr hcap hn0 => ?_)
  refine e_aload_n hg dX6_init_0 rfl ?_
  refine e_objInit hg (by omega) lk_430 (Nat.le_of_ble_eq_true rfl) dX6_init_1 ?_
  refine e_aload_n hg dX6_init_4 rfl ?_
  refine e_bipush (v := 60) hg dX6_init_5 (by decide) ?_
  refine e_newa1 (n := 81) (N := 60) hg hcap dX6_init_7 (by decide) rfl (Nat.le_of_ble_eq_true rfl) rfl (n0_le hn0 (Nat.le_of_ble_eq_true rfl)) (by decide) (by decide +kernel) (Nat.le_of_ble_eq_true rfl) (Nat.le_of_ble_eq_true rfl) ?_
  refine e_putF hg hgn inX6 tyX6_ok nmX6 rfl 4 lk_439 dX6_init_9 rfl (Nat.le_of_ble_eq_true rfl) (Nat.le_of_ble_eq_true rfl) rfl rfl (fun _ => rfl) (fun _ => rfl) ?_
  change E g _ _ _ _ cw_36
  exact e_vret hg hr dX6_init_12
set_option maxRecDepth 100000 in
set_option maxHeartbeats 4000000 in
theorem cnX10_init_0 : CN yX10_init cX10_init 2 4 81 7966 [.ref 0] cw_0 cw_37 := by
  refine cn_of (ls := [some (.ref 0), none]) mfX10_init rfl (Nat.le_of_ble_eq_true rfl) rfl (fun g hg hgn hr hcap hn0 => ?_)
  refine e_aload_n hg dX10_init_0 rfl ?_
  refine e_objInit hg (by omega) lk_87 (Nat.le_of_ble_eq_true rfl) dX10_init_1 ?_
  refine e_aload_n hg dX10_init_4 rfl ?_
  refine e_new (n := 1) hg hcap ciX3 dfX3 lk_90 lk_91 lk_68 dX10_init_5 rfl (n0_le hn0 (Nat.le_of_ble_eq_true rfl)) (by decide) (by decide +kernel) (by decide +kernel) (Nat.le_of_ble_eq_true rfl) (Nat.le_of_ble_eq_true rfl) ?_
  refine e_dup hg dX10_init_8 rfl ?_
  change E g _ _ _ _ cw_1
  refine e_callN (rest := [.ref 1, .ref 0]) hg hcap mfX3_init lk_93 rfl cnX3_init_1 (Or.inl ⟨"LastMender", by decide +kernel⟩) dX10_init_9 rfl rfl (by omega) (Nat.le_of_ble_eq_true rfl) (n0_le hn0 (Nat.le_of_ble_eq_true rfl)) (by decide +kernel) (Nat.le_of_ble_eq_true rfl) (Nat.le_of_ble_eq_true rfl) ?_
  refine e_putF hg hgn inX10 tyX10_ok nmX10 rfl 0 lk_452 dX10_init_12 rfl (Nat.le_of_ble_eq_true rfl) (Nat.le_of_ble_eq_true rfl) rfl rfl (fun _ => rfl) (fun _ => rfl) ?_
  refine e_aload_n hg dX10_init_15 rfl ?_
  refine e_new (n := 9) hg hcap ciX8 dfX8 lk_161 lk_162 lk_69 dX10_init_16 rfl (n0_le hn0 (Nat.le_of_ble_eq_true rfl)) (by decide) (by decide +kernel) (by decide +kernel) (Nat.le_of_ble_eq_true rfl) (Nat.le_of_ble_eq_true rfl) ?_
  refine e_dup hg dX10_init_19 rfl ?_
  change E g _ _ _ _ cw_3
  refine e_callN (rest := [.ref 9, .ref 0]) hg hcap mfX8_init lk_164 rfl cnX8_init_9 (Or.inl ⟨"LastMender", by decide +kernel⟩) dX10_init_20 rfl rfl (by omega) (Nat.le_of_ble_eq_true rfl) (n0_le hn0 (Nat.le_of_ble_eq_true rfl)) (by decide +kernel) (Nat.le_of_ble_eq_true rfl) (Nat.le_of_ble_eq_true rfl) ?_
  refine e_putF hg hgn inX10 tyX10_ok nmX10 rfl 1 lk_453 dX10_init_23 rfl (Nat.le_of_ble_eq_true rfl) (Nat.le_of_ble_eq_true rfl) rfl rfl (fun _ => rfl) (fun _ => rfl) ?_
  refine e_aload_n hg dX10_init_26 rfl ?_
  refine e_new (n := 21) hg hcap ciX4 dfX4 lk_230 lk_231 lk_72 dX10_init_27 rfl (n0_le hn0 (Nat.le_of_ble_eq_true rfl)) (by decide) (by decide +kernel) (by decide +kernel) (Nat.le_of_ble_eq_true rfl) (Nat.le_of_ble_eq_true rfl) ?_
  refine e_dup hg dX10_init_30 rfl ?_
  refine e_aload_n hg dX10_init_31 rfl ?_
  refine e_getf (v := .ref 1) hg inX10 rfl 0 lk_452 dX10_init_32 rfl rfl (Nat.le_of_ble_eq_true rfl) ?_
  refine e_aload_n hg dX10_init_35 rfl ?_
  refine e_getf (v := .ref 9) hg inX10 rfl 1 lk_453 dX10_init_36 rfl rfl (Nat.le_of_ble_eq_true rfl) ?_
  change E g _ _ _ _ cw_11
  refine e_callN (rest := [.ref 21, .ref 0]) hg hcap mfX4_init lk_233 rfl cnX4_init_21 (Or.inr lk_232) dX10_init_39 rfl rfl (by omega) (Nat.le_of_ble_eq_true rfl) (n0_le hn0 (Nat.le_of_ble_eq_true rfl)) (by decide +kernel) (Nat.le_of_ble_eq_true rfl) (Nat.le_of_ble_eq_true rfl) ?_
  refine e_putF hg hgn inX10 tyX10_ok nmX10 rfl 2 lk_454 dX10_init_42 rfl (Nat.le_of_ble_eq_true rfl) (Nat.le_of_ble_eq_true rfl) rfl rfl (fun _ => rfl) (fun _ => rfl) ?_
  refine e_aload_n hg dX10_init_45 rfl ?_
  refine e_new (n := 27) hg hcap ciX2 dfX2 lk_286 lk_287 lk_73 dX10_init_46 rfl (n0_le hn0 (Nat.le_of_ble_eq_true rfl)) (by decide) (by decide +kernel) (by decide +kernel) (Nat.le_of_ble_eq_true rfl) (Nat.le_of_ble_eq_true rfl) ?_
  refine e_dup hg dX10_init_49 rfl ?_
  refine e_aload_n hg dX10_init_50 rfl ?_
  refine e_getf (v := .ref 1) hg inX10 rfl 0 lk_452 dX10_init_51 rfl rfl (Nat.le_of_ble_eq_true rfl) ?_
  refine e_aload_n hg dX10_init_54 rfl ?_
  refine e_getf (v := .ref 9) hg inX10 rfl 1 lk_453 dX10_init_55 rfl rfl (Nat.le_of_ble_eq_true rfl) ?_
  refine e_aload_n hg dX10_init_58 rfl ?_
  refine e_getf (v := .ref 21) hg inX10 rfl 2 lk_454 dX10_init_59 rfl rfl (Nat.le_of_ble_eq_true rfl) ?_
  change E g _ _ _ _ cw_13
  refine e_callN (rest := [.ref 27, .ref 0]) hg hcap mfX2_init lk_289 rfl cnX2_init_27 (Or.inr lk_288) dX10_init_62 rfl rfl (by omega) (Nat.le_of_ble_eq_true rfl) (n0_le hn0 (Nat.le_of_ble_eq_true rfl)) (by decide +kernel) (Nat.le_of_ble_eq_true rfl) (Nat.le_of_ble_eq_true rfl) ?_
  refine e_putF hg hgn inX10 tyX10_ok nmX10 rfl 3 lk_455 dX10_init_65 rfl (Nat.le_of_ble_eq_true rfl) (Nat.le_of_ble_eq_true rfl) rfl rfl (fun _ => rfl) (fun _ => rfl) ?_
  refine e_aload_n hg dX10_init_68 rfl ?_
  refine e_new (n := 28) hg hcap ciX9 dfX9 lk_305 lk_306 lk_74 dX10_init_69 rfl (n0_le hn0 (Nat.le_of_ble_eq_true rfl)) (by decide) (by decide +kernel) (by decide +kernel) (Nat.le_of_ble_eq_true rfl) (Nat.le_of_ble_eq_true rfl) ?_
  refine e_dup hg dX10_init_72 rfl ?_
  change E g _ _ _ _ cw_15
  refine e_callN (rest := [.ref 28, .ref 0]) hg hcap mfX9_init lk_308 rfl cnX9_init_28 (Or.inl ⟨"LastMender", by decide +kernel⟩) dX10_init_73 rfl rfl (by omega) (Nat.le_of_ble_eq_true rfl) (n0_le hn0 (Nat.le_of_ble_eq_true rfl)) (by decide +kernel) (Nat.le_of_ble_eq_true rfl) (Nat.le_of_ble_eq_true rfl) ?_
  refine e_putF hg hgn inX10 tyX10_ok nmX10 rfl 4 lk_456 dX10_init_76 rfl (Nat.le_of_ble_eq_true rfl) (Nat.le_of_ble_eq_true rfl) rfl rfl (fun _ => rfl) (fun _ => rfl) ?_
  refine e_aload_n hg dX10_init_79 rfl ?_
  refine e_new (n := 39) hg hcap ciX9 dfX9 lk_305 lk_306 lk_74 dX10_init_80 rfl (n0_le hn0 (Nat.le_of_ble_eq_true rfl)) (by decide) (by decide +kernel) (by decide +kernel) (Nat.le_of_ble_eq_true rfl) (Nat.le_of_ble_eq_true rfl) ?_
  refine e_dup hg dX10_init_83 rfl ?_
  change E g _ _ _ _ cw_17
  refine e_callN (rest := [.ref 39, .ref 0]) hg hcap mfX9_init lk_308 rfl cnX9_init_39 (Or.inl ⟨"LastMender", by decide +kernel⟩) dX10_init_84 rfl rfl (by omega) (Nat.le_of_ble_eq_true rfl) (n0_le hn0 (Nat.le_of_ble_eq_true rfl)) (by decide +kernel) (Nat.le_of_ble_eq_true rfl) (Nat.le_of_ble_eq_true rfl) ?_
  refine e_putF hg hgn inX10 tyX10_ok nmX10 rfl 5 lk_457 dX10_init_87 rfl (Nat.le_of_ble_eq_true rfl) (Nat.le_of_ble_eq_true rfl) rfl rfl (fun _ => rfl) (fun _ => rfl) ?_
  refine e_aload_n hg dX10_init_90 rfl ?_
  refine e_new (n := 50) hg hcap ciX9 dfX9 lk_305 lk_306 lk_74 dX10_init_91 rfl (n0_le hn0 (Nat.le_of_ble_eq_true rfl)) (by decide) (by decide +kernel) (by decide +kernel) (Nat.le_of_ble_eq_true rfl) (Nat.le_of_ble_eq_true rfl) ?_
  refine e_dup hg dX10_init_94 rfl ?_
  change E g _ _ _ _ cw_19
  refine e_callN (rest := [.ref 50, .ref 0]) hg hcap mfX9_init lk_308 rfl cnX9_init_50 (Or.inl ⟨"LastMender", by decide +kernel⟩) dX10_init_95 rfl rfl (by omega) (Nat.le_of_ble_eq_true rfl) (n0_le hn0 (Nat.le_of_ble_eq_true rfl)) (by decide +kernel) (Nat.le_of_ble_eq_true rfl) (Nat.le_of_ble_eq_true rfl) ?_
  refine e_putF hg hgn inX10 tyX10_ok nmX10 rfl 6 lk_458 dX10_init_98 rfl (Nat.le_of_ble_eq_true rfl) (Nat.le_of_ble_eq_true rfl) rfl rfl (fun _ => rfl) (fun _ => rfl) ?_
  refine e_aload_n hg dX10_init_101 rfl ?_
  refine e_new (n := 61) hg hcap ciX1 dfX1 lk_370 lk_371 lk_75 dX10_init_102 rfl (n0_le hn0 (Nat.le_of_ble_eq_true rfl)) (by decide) (by decide +kernel) (by decide +kernel) (Nat.le_of_ble_eq_true rfl) (Nat.le_of_ble_eq_true rfl) ?_
  refine e_dup hg dX10_init_105 rfl ?_
  change E g _ _ _ _ cw_21
  refine e_callN (rest := [.ref 61, .ref 0]) hg hcap mfX1_init lk_373 rfl cnX1_init_61 (Or.inl ⟨"LastMender", by decide +kernel⟩) dX10_init_106 rfl rfl (by omega) (Nat.le_of_ble_eq_true rfl) (n0_le hn0 (Nat.le_of_ble_eq_true rfl)) (by decide +kernel) (Nat.le_of_ble_eq_true rfl) (Nat.le_of_ble_eq_true rfl) ?_
  refine e_putF hg hgn inX10 tyX10_ok nmX10 rfl 7 lk_459 dX10_init_109 rfl (Nat.le_of_ble_eq_true rfl) (Nat.le_of_ble_eq_true rfl) rfl rfl (fun _ => rfl) (fun _ => rfl) ?_
  refine e_aload_n hg dX10_init_112 rfl ?_
  refine e_new (n := 66) hg hcap ciX0 dfX0 lk_396 lk_397 lk_76 dX10_init_113 rfl (n0_le hn0 (Nat.le_of_ble_eq_true rfl)) (by decide) (by decide +kernel) (by decide +kernel) (Nat.le_of_ble_eq_true rfl) (Nat.le_of_ble_eq_true rfl) ?_
  refine e_dup hg dX10_init_116 rfl ?_
  change E g _ _ _ _ cw_23
  refine e_callN (rest := [.ref 66, .ref 0]) hg hcap mfX0_init lk_399 rfl cnX0_init_66 (Or.inl ⟨"LastMender", by decide +kernel⟩) dX10_init_117 rfl rfl (by omega) (Nat.le_of_ble_eq_true rfl) (n0_le hn0 (Nat.le_of_ble_eq_true rfl)) (by decide +kernel) (Nat.le_of_ble_eq_true rfl) (Nat.le_of_ble_eq_true rfl) ?_
  refine e_putF hg hgn inX10 tyX10_ok nmX10 rfl 8 lk_460 dX10_init_120 rfl (Nat.le_of_ble_eq_true rfl) (Nat.le_of_ble_eq_true rfl) rfl rfl (fun _ => rfl) (fun _ => rfl) ?_
  refine e_aload_n hg dX10_init_123 rfl ?_
  refine e_bipush (v := 6) hg dX10_init_124 (by decide) ?_
  refine e_newq (n := 69) (N := 6) hg hcap lk_424 (by decide) rfl (Nat.le_of_ble_eq_true rfl) dX10_init_126 rfl (n0_le hn0 (Nat.le_of_ble_eq_true rfl)) (by decide) (by decide +kernel) (Nat.le_of_ble_eq_true rfl) (Nat.le_of_ble_eq_true rfl) ?_
  refine e_putF hg hgn inX10 tyX10_ok nmX10 rfl 9 lk_461 dX10_init_129 rfl (Nat.le_of_ble_eq_true rfl) (Nat.le_of_ble_eq_true rfl) rfl rfl (fun _ => rfl) (fun _ => rfl) ?_
  refine e_aload_n hg dX10_init_132 rfl ?_
  refine e_iconst (v := (-1)) hg dX10_init_133 (by decide) ?_
  refine e_putf hg inX10 tyX10_ok nmX10 rfl 12 lk_464 dX10_init_134 rfl (Nat.le_of_ble_eq_true rfl) (Nat.le_of_ble_eq_true rfl) rfl (fun _ => rfl) (fun _ => rfl) ?_
  refine e_iconst (v := 0) hg dX10_init_137 (by decide) ?_
  refine e_istore_n (ls' := [some (.ref 0), some (.int 0)]) hg dX10_init_138 rfl ?_
  refine e_iload_n hg dX10_init_139 rfl ?_
  refine e_bipush (v := 6) hg dX10_init_140 (by decide) ?_
  refine e_icmpge hg 164 dX10_init_142 (by decide) (fun _ => ?_) (fun q => absurd (by decide) q)
  refine e_aload_n hg dX10_init_145 rfl ?_
  refine e_getf (v := .ref 69) hg inX10 rfl 9 lk_461 dX10_init_146 rfl rfl (Nat.le_of_ble_eq_true rfl) ?_
  refine e_iload_n hg dX10_init_149 rfl ?_
  refine e_new (n := 70) hg hcap ciX6 dfX6 lk_424 lk_426 lk_77 dX10_init_150 rfl (n0_le hn0 (Nat.le_of_ble_eq_true rfl)) (by decide) (by decide +kernel) (by decide +kernel) (Nat.le_of_ble_eq_true rfl) (Nat.le_of_ble_eq_true rfl) ?_
  refine e_dup hg dX10_init_153 rfl ?_
  change E g _ _ _ _ cw_25
  refine e_callN (rest := [.ref 70, .int 0, .ref 69]) hg hcap mfX6_init lk_428 rfl cnX6_init_70 (Or.inl ⟨"LastMender", by decide +kernel⟩) dX10_init_154 rfl rfl (by omega) (Nat.le_of_ble_eq_true rfl) (n0_le hn0 (Nat.le_of_ble_eq_true rfl)) (by decide +kernel) (Nat.le_of_ble_eq_true rfl) (Nat.le_of_ble_eq_true rfl) ?_
  refine e_aast hg rfl rfl (by decide) dX10_init_157 ?_
  refine e_iinc (v := 1) (ls' := [some (.ref 0), some (.int 1)]) hg dX10_init_158 rfl (by decide) rfl ?_
  refine e_goto hg 139 dX10_init_161 (by decide) ?_
  refine e_iload_n hg dX10_init_139 rfl ?_
  refine e_bipush (v := 6) hg dX10_init_140 (by decide) ?_
  refine e_icmpge hg 164 dX10_init_142 (by decide) (fun _ => ?_) (fun q => absurd (by decide) q)
  refine e_aload_n hg dX10_init_145 rfl ?_
  refine e_getf (v := .ref 69) hg inX10 rfl 9 lk_461 dX10_init_146 rfl rfl (Nat.le_of_ble_eq_true rfl) ?_
  refine e_iload_n hg dX10_init_149 rfl ?_
  refine e_new (n := 72) hg hcap ciX6 dfX6 lk_424 lk_426 lk_77 dX10_init_150 rfl (n0_le hn0 (Nat.le_of_ble_eq_true rfl)) (by decide) (by decide +kernel) (by decide +kernel) (Nat.le_of_ble_eq_true rfl) (Nat.le_of_ble_eq_true rfl) ?_
  refine e_dup hg dX10_init_153 rfl ?_
  change E g _ _ _ _ cw_27
  refine e_callN (rest := [.ref 72, .int 1, .ref 69]) hg hcap mfX6_init lk_428 rfl cnX6_init_72 (Or.inl ⟨"LastMender", by decide +kernel⟩) dX10_init_154 rfl rfl (by omega) (Nat.le_of_ble_eq_true rfl) (n0_le hn0 (Nat.le_of_ble_eq_true rfl)) (by decide +kernel) (Nat.le_of_ble_eq_true rfl) (Nat.le_of_ble_eq_true rfl) ?_
  refine e_aast hg rfl rfl (by decide) dX10_init_157 ?_
  refine e_iinc (v := 2) (ls' := [some (.ref 0), some (.int 2)]) hg dX10_init_158 rfl (by decide) rfl ?_
  refine e_goto hg 139 dX10_init_161 (by decide) ?_
  refine e_iload_n hg dX10_init_139 rfl ?_
  refine e_bipush (v := 6) hg dX10_init_140 (by decide) ?_
  refine e_icmpge hg 164 dX10_init_142 (by decide) (fun _ => ?_) (fun q => absurd (by decide) q)
  refine e_aload_n hg dX10_init_145 rfl ?_
  refine e_getf (v := .ref 69) hg inX10 rfl 9 lk_461 dX10_init_146 rfl rfl (Nat.le_of_ble_eq_true rfl) ?_
  refine e_iload_n hg dX10_init_149 rfl ?_
  refine e_new (n := 74) hg hcap ciX6 dfX6 lk_424 lk_426 lk_77 dX10_init_150 rfl (n0_le hn0 (Nat.le_of_ble_eq_true rfl)) (by decide) (by decide +kernel) (by decide +kernel) (Nat.le_of_ble_eq_true rfl) (Nat.le_of_ble_eq_true rfl) ?_
  refine e_dup hg dX10_init_153 rfl ?_
  change E g _ _ _ _ cw_29
  refine e_callN (rest := [.ref 74, .int 2, .ref 69]) hg hcap mfX6_init lk_428 rfl cnX6_init_74 (Or.inl ⟨"LastMender", by decide +kernel⟩) dX10_init_154 rfl rfl (by omega) (Nat.le_of_ble_eq_true rfl) (n0_le hn0 (Nat.le_of_ble_eq_true rfl)) (by decide +kernel) (Nat.le_of_ble_eq_true rfl) (Nat.le_of_ble_eq_true rfl) ?_
  refine e_aast hg rfl rfl (by decide) dX10_init_157 ?_
  refine e_iinc (v := 3) (ls' := [some (.ref 0), some (.int 3)]) hg dX10_init_158 rfl (by decide) rfl ?_
  refine e_goto hg 139 dX10_init_161 (by decide) ?_
  refine e_iload_n hg dX10_init_139 rfl ?_
  refine e_bipush (v := 6) hg dX10_init_140 (by decide) ?_
  refine e_icmpge hg 164 dX10_init_142 (by decide) (fun _ => ?_) (fun q => absurd (by decide) q)
  refine e_aload_n hg dX10_init_145 rfl ?_
  refine e_getf (v := .ref 69) hg inX10 rfl 9 lk_461 dX10_init_146 rfl rfl (Nat.le_of_ble_eq_true rfl) ?_
  refine e_iload_n hg dX10_init_149 rfl ?_
  refine e_new (n := 76) hg hcap ciX6 dfX6 lk_424 lk_426 lk_77 dX10_init_150 rfl (n0_le hn0 (Nat.le_of_ble_eq_true rfl)) (by decide) (by decide +kernel) (by decide +kernel) (Nat.le_of_ble_eq_true rfl) (Nat.le_of_ble_eq_true rfl) ?_
  refine e_dup hg dX10_init_153 rfl ?_
  change E g _ _ _ _ cw_31
  refine e_callN (rest := [.ref 76, .int 3, .ref 69]) hg hcap mfX6_init lk_428 rfl cnX6_init_76 (Or.inl ⟨"LastMender", by decide +kernel⟩) dX10_init_154 rfl rfl (by omega) (Nat.le_of_ble_eq_true rfl) (n0_le hn0 (Nat.le_of_ble_eq_true rfl)) (by decide +kernel) (Nat.le_of_ble_eq_true rfl) (Nat.le_of_ble_eq_true rfl) ?_
  refine e_aast hg rfl rfl (by decide) dX10_init_157 ?_
  refine e_iinc (v := 4) (ls' := [some (.ref 0), some (.int 4)]) hg dX10_init_158 rfl (by decide) rfl ?_
  refine e_goto hg 139 dX10_init_161 (by decide) ?_
  refine e_iload_n hg dX10_init_139 rfl ?_
  refine e_bipush (v := 6) hg dX10_init_140 (by decide) ?_
  refine e_icmpge hg 164 dX10_init_142 (by decide) (fun _ => ?_) (fun q => absurd (by decide) q)
  refine e_aload_n hg dX10_init_145 rfl ?_
  refine e_getf (v := .ref 69) hg inX10 rfl 9 lk_461 dX10_init_146 rfl rfl (Nat.le_of_ble_eq_true rfl) ?_
  refine e_iload_n hg dX10_init_149 rfl ?_
  refine e_new (n := 78) hg hcap ciX6 dfX6 lk_424 lk_426 lk_77 dX10_init_150 rfl (n0_le hn0 (Nat.le_of_ble_eq_true rfl)) (by decide) (by decide +kernel) (by decide +kernel) (Nat.le_of_ble_eq_true rfl) (Nat.le_of_ble_eq_true rfl) ?_
  refine e_dup hg dX10_init_153 rfl ?_
  change E g _ _ _ _ cw_33
  refine e_callN (rest := [.ref 78, .int 4, .ref 69]) hg hcap mfX6_init lk_428 rfl cnX6_init_78 (Or.inl ⟨"LastMender", by decide +kernel⟩) dX10_init_154 rfl rfl (by omega) (Nat.le_of_ble_eq_true rfl) (n0_le hn0 (Nat.le_of_ble_eq_true rfl)) (by decide +kernel) (Nat.le_of_ble_eq_true rfl) (Nat.le_of_ble_eq_true rfl) ?_
  refine e_aast hg rfl rfl (by decide) dX10_init_157 ?_
  refine e_iinc (v := 5) (ls' := [some (.ref 0), some (.int 5)]) hg dX10_init_158 rfl (by decide) rfl ?_
  refine e_goto hg 139 dX10_init_161 (by decide) ?_
  refine e_iload_n hg dX10_init_139 rfl ?_
  refine e_bipush (v := 6) hg dX10_init_140 (by decide) ?_
  refine e_icmpge hg 164 dX10_init_142 (by decide) (fun _ => ?_) (fun q => absurd (by decide) q)
  refine e_aload_n hg dX10_init_145 rfl ?_
  refine e_getf (v := .ref 69) hg inX10 rfl 9 lk_461 dX10_init_146 rfl rfl (Nat.le_of_ble_eq_true rfl) ?_
  refine e_iload_n hg dX10_init_149 rfl ?_
  refine e_new (n := 80) hg hcap ciX6 dfX6 lk_424 lk_426 lk_77 dX10_init_150 rfl (n0_le hn0 (Nat.le_of_ble_eq_true rfl)) (by decide) (by decide +kernel) (by decide +kernel) (Nat.le_of_ble_eq_true rfl) (Nat.le_of_ble_eq_true rfl) ?_
  refine e_dup hg dX10_init_153 rfl ?_
  change E g _ _ _ _ cw_35
  refine e_callN (rest := [.ref 80, .int 5, .ref 69]) hg hcap mfX6_init lk_428 rfl cnX6_init_80 (Or.inl ⟨"LastMender", by decide +kernel⟩) dX10_init_154 rfl rfl (by omega) (Nat.le_of_ble_eq_true rfl) (n0_le hn0 (Nat.le_of_ble_eq_true rfl)) (by decide +kernel) (Nat.le_of_ble_eq_true rfl) (Nat.le_of_ble_eq_true rfl) ?_
  refine e_aast hg rfl rfl (by decide) dX10_init_157 ?_
  refine e_iinc (v := 6) (ls' := [some (.ref 0), some (.int 6)]) hg dX10_init_158 rfl (by decide) rfl ?_
  refine e_goto hg 139 dX10_init_161 (by decide) ?_
  refine e_iload_n hg dX10_init_139 rfl ?_
  refine e_bipush (v := 6) hg dX10_init_140 (by decide) ?_
  refine e_icmpge hg 164 dX10_init_142 (by decide) (fun q => absurd q (by decide)) (fun _ => ?_)
  change E g _ _ _ _ cw_37
  exact e_vret hg hr dX10_init_164
set_option maxRecDepth 100000 in
set_option maxHeartbeats 4000000 in
theorem cnX11_init_82 : CN yX11_init cX11_init 2 1 34 28817 [.ref 82] cw_38 cw_39 := by
  refine cn_of (ls := [some (.ref 82), none]) mfX11_init rfl (Nat.le_of_ble_eq_true rfl) rfl (fun g hg hgn hr hcap hn0 => ?_)
  refine e_aload_n hg dX11_init_0 rfl ?_
  refine e_objInit hg (by omega) lk_985 (Nat.le_of_ble_eq_true rfl) dX11_init_1 ?_
  refine e_aload_n hg dX11_init_4 rfl ?_
  refine e_bipush (v := 33) hg dX11_init_5 (by decide) ?_
  refine e_newa0 (n := 83) (N := 33) hg hcap dX11_init_7 (by decide) rfl (Nat.le_of_ble_eq_true rfl) rfl (n0_le hn0 (Nat.le_of_ble_eq_true rfl)) (by decide) (by decide +kernel) (Nat.le_of_ble_eq_true rfl) (Nat.le_of_ble_eq_true rfl) ?_
  refine e_putF hg hgn inX11 tyX11_ok nmX11 rfl 0 lk_986 dX11_init_9 rfl (Nat.le_of_ble_eq_true rfl) (Nat.le_of_ble_eq_true rfl) rfl rfl (fun _ => rfl) (fun _ => rfl) ?_
  refine e_aload_n hg dX11_init_12 rfl ?_
  refine e_bipush (v := 40) hg dX11_init_13 (by decide) ?_
  refine e_newa0 (n := 84) (N := 40) hg hcap dX11_init_15 (by decide) rfl (Nat.le_of_ble_eq_true rfl) rfl (n0_le hn0 (Nat.le_of_ble_eq_true rfl)) (by decide) (by decide +kernel) (Nat.le_of_ble_eq_true rfl) (Nat.le_of_ble_eq_true rfl) ?_
  refine e_putF hg hgn inX11 tyX11_ok nmX11 rfl 1 lk_987 dX11_init_17 rfl (Nat.le_of_ble_eq_true rfl) (Nat.le_of_ble_eq_true rfl) rfl rfl (fun _ => rfl) (fun _ => rfl) ?_
  refine e_aload_n hg dX11_init_20 rfl ?_
  refine e_bipush (v := 40) hg dX11_init_21 (by decide) ?_
  refine e_newa0 (n := 85) (N := 40) hg hcap dX11_init_23 (by decide) rfl (Nat.le_of_ble_eq_true rfl) rfl (n0_le hn0 (Nat.le_of_ble_eq_true rfl)) (by decide) (by decide +kernel) (Nat.le_of_ble_eq_true rfl) (Nat.le_of_ble_eq_true rfl) ?_
  refine e_putF hg hgn inX11 tyX11_ok nmX11 rfl 2 lk_988 dX11_init_25 rfl (Nat.le_of_ble_eq_true rfl) (Nat.le_of_ble_eq_true rfl) rfl rfl (fun _ => rfl) (fun _ => rfl) ?_
  refine e_aload_n hg dX11_init_28 rfl ?_
  refine e_bipush (v := 40) hg dX11_init_29 (by decide) ?_
  refine e_newa0 (n := 86) (N := 40) hg hcap dX11_init_31 (by decide) rfl (Nat.le_of_ble_eq_true rfl) rfl (n0_le hn0 (Nat.le_of_ble_eq_true rfl)) (by decide) (by decide +kernel) (Nat.le_of_ble_eq_true rfl) (Nat.le_of_ble_eq_true rfl) ?_
  refine e_putF hg hgn inX11 tyX11_ok nmX11 rfl 3 lk_989 dX11_init_33 rfl (Nat.le_of_ble_eq_true rfl) (Nat.le_of_ble_eq_true rfl) rfl rfl (fun _ => rfl) (fun _ => rfl) ?_
  refine e_aload_n hg dX11_init_36 rfl ?_
  refine e_iconst (v := 5) hg dX11_init_37 (by decide) ?_
  refine e_newa0 (n := 87) (N := 5) hg hcap dX11_init_38 (by decide) rfl (Nat.le_of_ble_eq_true rfl) rfl (n0_le hn0 (Nat.le_of_ble_eq_true rfl)) (by decide) (by decide +kernel) (Nat.le_of_ble_eq_true rfl) (Nat.le_of_ble_eq_true rfl) ?_
  refine e_putF hg hgn inX11 tyX11_ok nmX11 rfl 8 lk_994 dX11_init_40 rfl (Nat.le_of_ble_eq_true rfl) (Nat.le_of_ble_eq_true rfl) rfl rfl (fun _ => rfl) (fun _ => rfl) ?_
  refine e_aload_n hg dX11_init_43 rfl ?_
  refine e_iconst (v := 5) hg dX11_init_44 (by decide) ?_
  refine e_newa0 (n := 88) (N := 5) hg hcap dX11_init_45 (by decide) rfl (Nat.le_of_ble_eq_true rfl) rfl (n0_le hn0 (Nat.le_of_ble_eq_true rfl)) (by decide) (by decide +kernel) (Nat.le_of_ble_eq_true rfl) (Nat.le_of_ble_eq_true rfl) ?_
  refine e_putF hg hgn inX11 tyX11_ok nmX11 rfl 9 lk_995 dX11_init_47 rfl (Nat.le_of_ble_eq_true rfl) (Nat.le_of_ble_eq_true rfl) rfl rfl (fun _ => rfl) (fun _ => rfl) ?_
  refine e_aload_n hg dX11_init_50 rfl ?_
  refine e_iconst (v := 5) hg dX11_init_51 (by decide) ?_
  refine e_newa0 (n := 89) (N := 5) hg hcap dX11_init_52 (by decide) rfl (Nat.le_of_ble_eq_true rfl) rfl (n0_le hn0 (Nat.le_of_ble_eq_true rfl)) (by decide) (by decide +kernel) (Nat.le_of_ble_eq_true rfl) (Nat.le_of_ble_eq_true rfl) ?_
  refine e_putF hg hgn inX11 tyX11_ok nmX11 rfl 10 lk_996 dX11_init_54 rfl (Nat.le_of_ble_eq_true rfl) (Nat.le_of_ble_eq_true rfl) rfl rfl (fun _ => rfl) (fun _ => rfl) ?_
  refine e_aload_n hg dX11_init_57 rfl ?_
  refine e_bipush (v := 6) hg dX11_init_58 (by decide) ?_
  refine e_newa0 (n := 90) (N := 6) hg hcap dX11_init_60 (by decide) rfl (Nat.le_of_ble_eq_true rfl) rfl (n0_le hn0 (Nat.le_of_ble_eq_true rfl)) (by decide) (by decide +kernel) (Nat.le_of_ble_eq_true rfl) (Nat.le_of_ble_eq_true rfl) ?_
  refine e_putF hg hgn inX11 tyX11_ok nmX11 rfl 11 lk_997 dX11_init_62 rfl (Nat.le_of_ble_eq_true rfl) (Nat.le_of_ble_eq_true rfl) rfl rfl (fun _ => rfl) (fun _ => rfl) ?_
  refine e_aload_n hg dX11_init_65 rfl ?_
  refine e_bipush (v := 6) hg dX11_init_66 (by decide) ?_
  refine e_newa0 (n := 91) (N := 6) hg hcap dX11_init_68 (by decide) rfl (Nat.le_of_ble_eq_true rfl) rfl (n0_le hn0 (Nat.le_of_ble_eq_true rfl)) (by decide) (by decide +kernel) (Nat.le_of_ble_eq_true rfl) (Nat.le_of_ble_eq_true rfl) ?_
  refine e_putF hg hgn inX11 tyX11_ok nmX11 rfl 12 lk_998 dX11_init_70 rfl (Nat.le_of_ble_eq_true rfl) (Nat.le_of_ble_eq_true rfl) rfl rfl (fun _ => rfl) (fun _ => rfl) ?_
  refine e_aload_n hg dX11_init_73 rfl ?_
  refine e_bipush (v := 6) hg dX11_init_74 (by decide) ?_
  refine e_newa0 (n := 92) (N := 6) hg hcap dX11_init_76 (by decide) rfl (Nat.le_of_ble_eq_true rfl) rfl (n0_le hn0 (Nat.le_of_ble_eq_true rfl)) (by decide) (by decide +kernel) (Nat.le_of_ble_eq_true rfl) (Nat.le_of_ble_eq_true rfl) ?_
  refine e_putF hg hgn inX11 tyX11_ok nmX11 rfl 13 lk_999 dX11_init_78 rfl (Nat.le_of_ble_eq_true rfl) (Nat.le_of_ble_eq_true rfl) rfl rfl (fun _ => rfl) (fun _ => rfl) ?_
  refine e_aload_n hg dX11_init_81 rfl ?_
  refine e_bipush (v := 6) hg dX11_init_82 (by decide) ?_
  refine e_newa0 (n := 93) (N := 6) hg hcap dX11_init_84 (by decide) rfl (Nat.le_of_ble_eq_true rfl) rfl (n0_le hn0 (Nat.le_of_ble_eq_true rfl)) (by decide) (by decide +kernel) (Nat.le_of_ble_eq_true rfl) (Nat.le_of_ble_eq_true rfl) ?_
  refine e_putF hg hgn inX11 tyX11_ok nmX11 rfl 14 lk_1000 dX11_init_86 rfl (Nat.le_of_ble_eq_true rfl) (Nat.le_of_ble_eq_true rfl) rfl rfl (fun _ => rfl) (fun _ => rfl) ?_
  refine e_aload_n hg dX11_init_89 rfl ?_
  refine e_bipush (v := 6) hg dX11_init_90 (by decide) ?_
  refine e_newa0 (n := 94) (N := 6) hg hcap dX11_init_92 (by decide) rfl (Nat.le_of_ble_eq_true rfl) rfl (n0_le hn0 (Nat.le_of_ble_eq_true rfl)) (by decide) (by decide +kernel) (Nat.le_of_ble_eq_true rfl) (Nat.le_of_ble_eq_true rfl) ?_
  refine e_putF hg hgn inX11 tyX11_ok nmX11 rfl 15 lk_1001 dX11_init_94 rfl (Nat.le_of_ble_eq_true rfl) (Nat.le_of_ble_eq_true rfl) rfl rfl (fun _ => rfl) (fun _ => rfl) ?_
  refine e_aload_n hg dX11_init_97 rfl ?_
  refine e_bipush (v := 48) hg dX11_init_98 (by decide) ?_
  refine e_newa0 (n := 95) (N := 48) hg hcap dX11_init_100 (by decide) rfl (Nat.le_of_ble_eq_true rfl) rfl (n0_le hn0 (Nat.le_of_ble_eq_true rfl)) (by decide) (by decide +kernel) (Nat.le_of_ble_eq_true rfl) (Nat.le_of_ble_eq_true rfl) ?_
  refine e_putF hg hgn inX11 tyX11_ok nmX11 rfl 16 lk_1002 dX11_init_102 rfl (Nat.le_of_ble_eq_true rfl) (Nat.le_of_ble_eq_true rfl) rfl rfl (fun _ => rfl) (fun _ => rfl) ?_
  refine e_aload_n hg dX11_init_105 rfl ?_
  refine e_bipush (v := 6) hg dX11_init_106 (by decide) ?_
  refine e_newa0 (n := 96) (N := 6) hg hcap dX11_init_108 (by decide) rfl (Nat.le_of_ble_eq_true rfl) rfl (n0_le hn0 (Nat.le_of_ble_eq_true rfl)) (by decide) (by decide +kernel) (Nat.le_of_ble_eq_true rfl) (Nat.le_of_ble_eq_true rfl) ?_
  refine e_putF hg hgn inX11 tyX11_ok nmX11 rfl 17 lk_1003 dX11_init_110 rfl (Nat.le_of_ble_eq_true rfl) (Nat.le_of_ble_eq_true rfl) rfl rfl (fun _ => rfl) (fun _ => rfl) ?_
  refine e_aload_n hg dX11_init_113 rfl ?_
  refine e_bipush (v := 6) hg dX11_init_114 (by decide) ?_
  refine e_newa0 (n := 97) (N := 6) hg hcap dX11_init_116 (by decide) rfl (Nat.le_of_ble_eq_true rfl) rfl (n0_le hn0 (Nat.le_of_ble_eq_true rfl)) (by decide) (by decide +kernel) (Nat.le_of_ble_eq_true rfl) (Nat.le_of_ble_eq_true rfl) ?_
  refine e_putF hg hgn inX11 tyX11_ok nmX11 rfl 18 lk_1004 dX11_init_118 rfl (Nat.le_of_ble_eq_true rfl) (Nat.le_of_ble_eq_true rfl) rfl rfl (fun _ => rfl) (fun _ => rfl) ?_
  refine e_aload_n hg dX11_init_121 rfl ?_
  refine e_bipush (v := 120) hg dX11_init_122 (by decide) ?_
  refine e_newa0 (n := 98) (N := 120) hg hcap dX11_init_124 (by decide) rfl (Nat.le_of_ble_eq_true rfl) rfl (n0_le hn0 (Nat.le_of_ble_eq_true rfl)) (by decide) (by decide +kernel) (Nat.le_of_ble_eq_true rfl) (Nat.le_of_ble_eq_true rfl) ?_
  refine e_putF hg hgn inX11 tyX11_ok nmX11 rfl 23 lk_1009 dX11_init_126 rfl (Nat.le_of_ble_eq_true rfl) (Nat.le_of_ble_eq_true rfl) rfl rfl (fun _ => rfl) (fun _ => rfl) ?_
  refine e_aload_n hg dX11_init_129 rfl ?_
  refine e_bipush (v := 120) hg dX11_init_130 (by decide) ?_
  refine e_newa0 (n := 99) (N := 120) hg hcap dX11_init_132 (by decide) rfl (Nat.le_of_ble_eq_true rfl) rfl (n0_le hn0 (Nat.le_of_ble_eq_true rfl)) (by decide) (by decide +kernel) (Nat.le_of_ble_eq_true rfl) (Nat.le_of_ble_eq_true rfl) ?_
  refine e_putF hg hgn inX11 tyX11_ok nmX11 rfl 25 lk_1011 dX11_init_134 rfl (Nat.le_of_ble_eq_true rfl) (Nat.le_of_ble_eq_true rfl) rfl rfl (fun _ => rfl) (fun _ => rfl) ?_
  refine e_aload_n hg dX11_init_137 rfl ?_
  refine e_iconst (v := 4) hg dX11_init_138 (by decide) ?_
  refine e_newa0 (n := 100) (N := 4) hg hcap dX11_init_139 (by decide) rfl (Nat.le_of_ble_eq_true rfl) rfl (n0_le hn0 (Nat.le_of_ble_eq_true rfl)) (by decide) (by decide +kernel) (Nat.le_of_ble_eq_true rfl) (Nat.le_of_ble_eq_true rfl) ?_
  refine e_putF hg hgn inX11 tyX11_ok nmX11 rfl 32 lk_1018 dX11_init_141 rfl (Nat.le_of_ble_eq_true rfl) (Nat.le_of_ble_eq_true rfl) rfl rfl (fun _ => rfl) (fun _ => rfl) ?_
  refine e_aload_n hg dX11_init_144 rfl ?_
  refine e_bipush (v := 7) hg dX11_init_145 (by decide) ?_
  refine e_newa1 (n := 101) (N := 7) hg hcap dX11_init_147 (by decide) rfl (Nat.le_of_ble_eq_true rfl) rfl (n0_le hn0 (Nat.le_of_ble_eq_true rfl)) (by decide) (by decide +kernel) (Nat.le_of_ble_eq_true rfl) (Nat.le_of_ble_eq_true rfl) ?_
  refine e_putF hg hgn inX11 tyX11_ok nmX11 rfl 33 lk_1019 dX11_init_149 rfl (Nat.le_of_ble_eq_true rfl) (Nat.le_of_ble_eq_true rfl) rfl rfl (fun _ => rfl) (fun _ => rfl) ?_
  refine e_aload_n hg dX11_init_152 rfl ?_
  refine e_sipush (v := 800) hg dX11_init_153 (by decide) ?_
  refine e_newa0 (n := 102) (N := 800) hg hcap dX11_init_156 (by decide) rfl (Nat.le_of_ble_eq_true rfl) rfl (n0_le hn0 (Nat.le_of_ble_eq_true rfl)) (by decide) (by decide +kernel) (Nat.le_of_ble_eq_true rfl) (Nat.le_of_ble_eq_true rfl) ?_
  refine e_putF hg hgn inX11 tyX11_ok nmX11 rfl 34 lk_1020 dX11_init_158 rfl (Nat.le_of_ble_eq_true rfl) (Nat.le_of_ble_eq_true rfl) rfl rfl (fun _ => rfl) (fun _ => rfl) ?_
  refine e_aload_n hg dX11_init_161 rfl ?_
  refine e_sipush (v := 8400) hg dX11_init_162 (by decide) ?_
  refine e_newa1 (n := 103) (N := 8400) hg hcap dX11_init_165 (by decide) rfl (Nat.le_of_ble_eq_true rfl) rfl (n0_le hn0 (Nat.le_of_ble_eq_true rfl)) (by decide) (by decide +kernel) (Nat.le_of_ble_eq_true rfl) (Nat.le_of_ble_eq_true rfl) ?_
  refine e_putF hg hgn inX11 tyX11_ok nmX11 rfl 35 lk_1021 dX11_init_167 rfl (Nat.le_of_ble_eq_true rfl) (Nat.le_of_ble_eq_true rfl) rfl rfl (fun _ => rfl) (fun _ => rfl) ?_
  refine e_aload_n hg dX11_init_170 rfl ?_
  refine e_sipush (v := 8400) hg dX11_init_171 (by decide) ?_
  refine e_newa3 (n := 104) (N := 8400) hg hcap dX11_init_174 (by decide) rfl (Nat.le_of_ble_eq_true rfl) rfl (n0_le hn0 (Nat.le_of_ble_eq_true rfl)) (by decide) (by decide +kernel) (Nat.le_of_ble_eq_true rfl) (Nat.le_of_ble_eq_true rfl) ?_
  refine e_putF hg hgn inX11 tyX11_ok nmX11 rfl 36 lk_1022 dX11_init_176 rfl (Nat.le_of_ble_eq_true rfl) (Nat.le_of_ble_eq_true rfl) rfl rfl (fun _ => rfl) (fun _ => rfl) ?_
  refine e_aload_n hg dX11_init_179 rfl ?_
  refine e_sipush (v := 2800) hg dX11_init_180 (by decide) ?_
  refine e_newa1 (n := 105) (N := 2800) hg hcap dX11_init_183 (by decide) rfl (Nat.le_of_ble_eq_true rfl) rfl (n0_le hn0 (Nat.le_of_ble_eq_true rfl)) (by decide) (by decide +kernel) (Nat.le_of_ble_eq_true rfl) (Nat.le_of_ble_eq_true rfl) ?_
  refine e_putF hg hgn inX11 tyX11_ok nmX11 rfl 42 lk_1028 dX11_init_185 rfl (Nat.le_of_ble_eq_true rfl) (Nat.le_of_ble_eq_true rfl) rfl rfl (fun _ => rfl) (fun _ => rfl) ?_
  refine e_aload_n hg dX11_init_188 rfl ?_
  refine e_sipush (v := 7200) hg dX11_init_189 (by decide) ?_
  refine e_newa3 (n := 106) (N := 7200) hg hcap dX11_init_192 (by decide) rfl (Nat.le_of_ble_eq_true rfl) rfl (n0_le hn0 (Nat.le_of_ble_eq_true rfl)) (by decide) (by decide +kernel) (Nat.le_of_ble_eq_true rfl) (Nat.le_of_ble_eq_true rfl) ?_
  refine e_putF hg hgn inX11 tyX11_ok nmX11 rfl 45 lk_1031 dX11_init_194 rfl (Nat.le_of_ble_eq_true rfl) (Nat.le_of_ble_eq_true rfl) rfl rfl (fun _ => rfl) (fun _ => rfl) ?_
  refine e_aload_n hg dX11_init_197 rfl ?_
  refine e_bipush (v := 72) hg dX11_init_198 (by decide) ?_
  refine e_newa0 (n := 107) (N := 72) hg hcap dX11_init_200 (by decide) rfl (Nat.le_of_ble_eq_true rfl) rfl (n0_le hn0 (Nat.le_of_ble_eq_true rfl)) (by decide) (by decide +kernel) (Nat.le_of_ble_eq_true rfl) (Nat.le_of_ble_eq_true rfl) ?_
  refine e_putF hg hgn inX11 tyX11_ok nmX11 rfl 46 lk_1032 dX11_init_202 rfl (Nat.le_of_ble_eq_true rfl) (Nat.le_of_ble_eq_true rfl) rfl rfl (fun _ => rfl) (fun _ => rfl) ?_
  refine e_aload_n hg dX11_init_205 rfl ?_
  refine e_bipush (v := 96) hg dX11_init_206 (by decide) ?_
  refine e_newa0 (n := 108) (N := 96) hg hcap dX11_init_208 (by decide) rfl (Nat.le_of_ble_eq_true rfl) rfl (n0_le hn0 (Nat.le_of_ble_eq_true rfl)) (by decide) (by decide +kernel) (Nat.le_of_ble_eq_true rfl) (Nat.le_of_ble_eq_true rfl) ?_
  refine e_putF hg hgn inX11 tyX11_ok nmX11 rfl 47 lk_1033 dX11_init_210 rfl (Nat.le_of_ble_eq_true rfl) (Nat.le_of_ble_eq_true rfl) rfl rfl (fun _ => rfl) (fun _ => rfl) ?_
  refine e_aload_n hg dX11_init_213 rfl ?_
  refine e_bipush (v := 30) hg dX11_init_214 (by decide) ?_
  refine e_newa0 (n := 109) (N := 30) hg hcap dX11_init_216 (by decide) rfl (Nat.le_of_ble_eq_true rfl) rfl (n0_le hn0 (Nat.le_of_ble_eq_true rfl)) (by decide) (by decide +kernel) (Nat.le_of_ble_eq_true rfl) (Nat.le_of_ble_eq_true rfl) ?_
  refine e_putF hg hgn inX11 tyX11_ok nmX11 rfl 48 lk_1034 dX11_init_218 rfl (Nat.le_of_ble_eq_true rfl) (Nat.le_of_ble_eq_true rfl) rfl rfl (fun _ => rfl) (fun _ => rfl) ?_
  refine e_aload_n hg dX11_init_221 rfl ?_
  refine e_iconst (v := 4) hg dX11_init_222 (by decide) ?_
  refine e_newa0 (n := 110) (N := 4) hg hcap dX11_init_223 (by decide) rfl (Nat.le_of_ble_eq_true rfl) rfl (n0_le hn0 (Nat.le_of_ble_eq_true rfl)) (by decide) (by decide +kernel) (Nat.le_of_ble_eq_true rfl) (Nat.le_of_ble_eq_true rfl) ?_
  refine e_putF hg hgn inX11 tyX11_ok nmX11 rfl 49 lk_1035 dX11_init_225 rfl (Nat.le_of_ble_eq_true rfl) (Nat.le_of_ble_eq_true rfl) rfl rfl (fun _ => rfl) (fun _ => rfl) ?_
  refine e_aload_n hg dX11_init_228 rfl ?_
  refine e_bipush (v := 50) hg dX11_init_229 (by decide) ?_
  refine e_newa0 (n := 111) (N := 50) hg hcap dX11_init_231 (by decide) rfl (Nat.le_of_ble_eq_true rfl) rfl (n0_le hn0 (Nat.le_of_ble_eq_true rfl)) (by decide) (by decide +kernel) (Nat.le_of_ble_eq_true rfl) (Nat.le_of_ble_eq_true rfl) ?_
  refine e_putF hg hgn inX11 tyX11_ok nmX11 rfl 54 lk_1040 dX11_init_233 rfl (Nat.le_of_ble_eq_true rfl) (Nat.le_of_ble_eq_true rfl) rfl rfl (fun _ => rfl) (fun _ => rfl) ?_
  refine e_aload_n hg dX11_init_236 rfl ?_
  refine e_bipush (v := 24) hg dX11_init_237 (by decide) ?_
  refine e_newa0 (n := 112) (N := 24) hg hcap dX11_init_239 (by decide) rfl (Nat.le_of_ble_eq_true rfl) rfl (n0_le hn0 (Nat.le_of_ble_eq_true rfl)) (by decide) (by decide +kernel) (Nat.le_of_ble_eq_true rfl) (Nat.le_of_ble_eq_true rfl) ?_
  refine e_putF hg hgn inX11 tyX11_ok nmX11 rfl 55 lk_1041 dX11_init_241 rfl (Nat.le_of_ble_eq_true rfl) (Nat.le_of_ble_eq_true rfl) rfl rfl (fun _ => rfl) (fun _ => rfl) ?_
  refine e_aload_n hg dX11_init_244 rfl ?_
  refine e_bipush (v := 6) hg dX11_init_245 (by decide) ?_
  refine e_newa0 (n := 113) (N := 6) hg hcap dX11_init_247 (by decide) rfl (Nat.le_of_ble_eq_true rfl) rfl (n0_le hn0 (Nat.le_of_ble_eq_true rfl)) (by decide) (by decide +kernel) (Nat.le_of_ble_eq_true rfl) (Nat.le_of_ble_eq_true rfl) ?_
  refine e_putF hg hgn inX11 tyX11_ok nmX11 rfl 59 lk_1045 dX11_init_249 rfl (Nat.le_of_ble_eq_true rfl) (Nat.le_of_ble_eq_true rfl) rfl rfl (fun _ => rfl) (fun _ => rfl) ?_
  refine e_aload_n hg dX11_init_252 rfl ?_
  refine e_bipush (v := 6) hg dX11_init_253 (by decide) ?_
  refine e_newa0 (n := 114) (N := 6) hg hcap dX11_init_255 (by decide) rfl (Nat.le_of_ble_eq_true rfl) rfl (n0_le hn0 (Nat.le_of_ble_eq_true rfl)) (by decide) (by decide +kernel) (Nat.le_of_ble_eq_true rfl) (Nat.le_of_ble_eq_true rfl) ?_
  refine e_putF hg hgn inX11 tyX11_ok nmX11 rfl 60 lk_1046 dX11_init_257 rfl (Nat.le_of_ble_eq_true rfl) (Nat.le_of_ble_eq_true rfl) rfl rfl (fun _ => rfl) (fun _ => rfl) ?_
  refine e_aload_n hg dX11_init_260 rfl ?_
  refine e_sipush (v := 360) hg dX11_init_261 (by decide) ?_
  refine e_newa1 (n := 115) (N := 360) hg hcap dX11_init_264 (by decide) rfl (Nat.le_of_ble_eq_true rfl) rfl (n0_le hn0 (Nat.le_of_ble_eq_true rfl)) (by decide) (by decide +kernel) (Nat.le_of_ble_eq_true rfl) (Nat.le_of_ble_eq_true rfl) ?_
  refine e_putF hg hgn inX11 tyX11_ok nmX11 rfl 61 lk_1047 dX11_init_266 rfl (Nat.le_of_ble_eq_true rfl) (Nat.le_of_ble_eq_true rfl) rfl rfl (fun _ => rfl) (fun _ => rfl) ?_
  refine e_aload_n hg dX11_init_269 rfl ?_
  refine e_bipush (v := 60) hg dX11_init_270 (by decide) ?_
  refine e_newa1 (n := 116) (N := 60) hg hcap dX11_init_272 (by decide) rfl (Nat.le_of_ble_eq_true rfl) rfl (n0_le hn0 (Nat.le_of_ble_eq_true rfl)) (by decide) (by decide +kernel) (Nat.le_of_ble_eq_true rfl) (Nat.le_of_ble_eq_true rfl) ?_
  refine e_putF hg hgn inX11 tyX11_ok nmX11 rfl 62 lk_1048 dX11_init_274 rfl (Nat.le_of_ble_eq_true rfl) (Nat.le_of_ble_eq_true rfl) rfl rfl (fun _ => rfl) (fun _ => rfl) ?_
  refine e_iconst (v := 0) hg dX11_init_277 (by decide) ?_
  refine e_istore_n (ls' := [some (.ref 82), some (.int 0)]) hg dX11_init_278 rfl ?_
  refine e_iload_n hg dX11_init_279 rfl ?_
  refine e_bipush (v := 6) hg dX11_init_280 (by decide) ?_
  refine e_icmpge hg 298 dX11_init_282 (by decide) (fun _ => ?_) (fun q => absurd (by decide) q)
  refine e_aload_n hg dX11_init_285 rfl ?_
  refine e_getf (v := .ref 113) hg inX11 rfl 59 lk_1045 dX11_init_286 rfl rfl (Nat.le_of_ble_eq_true rfl) ?_
  refine e_iload_n hg dX11_init_289 rfl ?_
  refine e_iconst (v := (-1)) hg dX11_init_290 (by decide) ?_
  refine e_iast hg rfl (by decide) dX11_init_291 ?_
  refine e_iinc (v := 1) (ls' := [some (.ref 82), some (.int 1)]) hg dX11_init_292 rfl (by decide) rfl ?_
  refine e_goto hg 279 dX11_init_295 (by decide) ?_
  refine e_iload_n hg dX11_init_279 rfl ?_
  refine e_bipush (v := 6) hg dX11_init_280 (by decide) ?_
  refine e_icmpge hg 298 dX11_init_282 (by decide) (fun _ => ?_) (fun q => absurd (by decide) q)
  refine e_aload_n hg dX11_init_285 rfl ?_
  refine e_getf (v := .ref 113) hg inX11 rfl 59 lk_1045 dX11_init_286 rfl rfl (Nat.le_of_ble_eq_true rfl) ?_
  refine e_iload_n hg dX11_init_289 rfl ?_
  refine e_iconst (v := (-1)) hg dX11_init_290 (by decide) ?_
  refine e_iast hg rfl (by decide) dX11_init_291 ?_
  refine e_iinc (v := 2) (ls' := [some (.ref 82), some (.int 2)]) hg dX11_init_292 rfl (by decide) rfl ?_
  refine e_goto hg 279 dX11_init_295 (by decide) ?_
  refine e_iload_n hg dX11_init_279 rfl ?_
  refine e_bipush (v := 6) hg dX11_init_280 (by decide) ?_
  refine e_icmpge hg 298 dX11_init_282 (by decide) (fun _ => ?_) (fun q => absurd (by decide) q)
  refine e_aload_n hg dX11_init_285 rfl ?_
  refine e_getf (v := .ref 113) hg inX11 rfl 59 lk_1045 dX11_init_286 rfl rfl (Nat.le_of_ble_eq_true rfl) ?_
  refine e_iload_n hg dX11_init_289 rfl ?_
  refine e_iconst (v := (-1)) hg dX11_init_290 (by decide) ?_
  refine e_iast hg rfl (by decide) dX11_init_291 ?_
  refine e_iinc (v := 3) (ls' := [some (.ref 82), some (.int 3)]) hg dX11_init_292 rfl (by decide) rfl ?_
  refine e_goto hg 279 dX11_init_295 (by decide) ?_
  refine e_iload_n hg dX11_init_279 rfl ?_
  refine e_bipush (v := 6) hg dX11_init_280 (by decide) ?_
  refine e_icmpge hg 298 dX11_init_282 (by decide) (fun _ => ?_) (fun q => absurd (by decide) q)
  refine e_aload_n hg dX11_init_285 rfl ?_
  refine e_getf (v := .ref 113) hg inX11 rfl 59 lk_1045 dX11_init_286 rfl rfl (Nat.le_of_ble_eq_true rfl) ?_
  refine e_iload_n hg dX11_init_289 rfl ?_
  refine e_iconst (v := (-1)) hg dX11_init_290 (by decide) ?_
  refine e_iast hg rfl (by decide) dX11_init_291 ?_
  refine e_iinc (v := 4) (ls' := [some (.ref 82), some (.int 4)]) hg dX11_init_292 rfl (by decide) rfl ?_
  refine e_goto hg 279 dX11_init_295 (by decide) ?_
  refine e_iload_n hg dX11_init_279 rfl ?_
  refine e_bipush (v := 6) hg dX11_init_280 (by decide) ?_
  refine e_icmpge hg 298 dX11_init_282 (by decide) (fun _ => ?_) (fun q => absurd (by decide) q)
  refine e_aload_n hg dX11_init_285 rfl ?_
  refine e_getf (v := .ref 113) hg inX11 rfl 59 lk_1045 dX11_init_286 rfl rfl (Nat.le_of_ble_eq_true rfl) ?_
  refine e_iload_n hg dX11_init_289 rfl ?_
  refine e_iconst (v := (-1)) hg dX11_init_290 (by decide) ?_
  refine e_iast hg rfl (by decide) dX11_init_291 ?_
  refine e_iinc (v := 5) (ls' := [some (.ref 82), some (.int 5)]) hg dX11_init_292 rfl (by decide) rfl ?_
  refine e_goto hg 279 dX11_init_295 (by decide) ?_
  refine e_iload_n hg dX11_init_279 rfl ?_
  refine e_bipush (v := 6) hg dX11_init_280 (by decide) ?_
  refine e_icmpge hg 298 dX11_init_282 (by decide) (fun _ => ?_) (fun q => absurd (by decide) q)
  refine e_aload_n hg dX11_init_285 rfl ?_
  refine e_getf (v := .ref 113) hg inX11 rfl 59 lk_1045 dX11_init_286 rfl rfl (Nat.le_of_ble_eq_true rfl) ?_
  refine e_iload_n hg dX11_init_289 rfl ?_
  refine e_iconst (v := (-1)) hg dX11_init_290 (by decide) ?_
  refine e_iast hg rfl (by decide) dX11_init_291 ?_
  refine e_iinc (v := 6) (ls' := [some (.ref 82), some (.int 6)]) hg dX11_init_292 rfl (by decide) rfl ?_
  refine e_goto hg 279 dX11_init_295 (by decide) ?_
  refine e_iload_n hg dX11_init_279 rfl ?_
  refine e_bipush (v := 6) hg dX11_init_280 (by decide) ?_
  refine e_icmpge hg 298 dX11_init_282 (by decide) (fun q => absurd q (by decide)) (fun _ => ?_)
  refine e_aload_n hg dX11_init_298 rfl ?_
  refine e_iconst (v := (-1)) hg dX11_init_299 (by decide) ?_
  refine e_putf hg inX11 tyX11_ok nmX11 rfl 26 lk_1012 dX11_init_300 rfl (Nat.le_of_ble_eq_true rfl) (Nat.le_of_ble_eq_true rfl) rfl (fun _ => rfl) (fun _ => rfl) ?_
  change E g _ _ _ _ cw_39
  exact e_vret hg hr dX11_init_303
