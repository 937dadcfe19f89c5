/-! ===== small numbers, by simp with omega ===== -/
theorem n0 : (0 : Int32) = nI 0 := rfl
theorem n1 : (1 : Int32) = nI 1 := rfl
theorem n2 : (2 : Int32) = nI 2 := rfl
theorem n3 : (3 : Int32) = nI 3 := rfl
theorem n4 : (4 : Int32) = nI 4 := rfl
theorem n5 : (5 : Int32) = nI 5 := rfl
theorem n6 : (6 : Int32) = nI 6 := rfl
theorem n7 : (7 : Int32) = nI 7 := rfl
theorem n8 : (8 : Int32) = nI 8 := rfl
theorem n9 : (9 : Int32) = nI 9 := rfl
theorem n10 : (10 : Int32) = nI 10 := rfl
theorem n11 : (11 : Int32) = nI 11 := rfl
theorem n12 : (12 : Int32) = nI 12 := rfl
theorem n14 : (14 : Int32) = nI 14 := rfl
theorem n15 : (15 : Int32) = nI 15 := rfl
theorem n16 : (16 : Int32) = nI 16 := rfl
theorem n20 : (20 : Int32) = nI 20 := rfl
theorem n21 : (21 : Int32) = nI 21 := rfl
theorem n24 : (24 : Int32) = nI 24 := rfl
theorem n27 : (27 : Int32) = nI 27 := rfl
theorem n30 : (30 : Int32) = nI 30 := rfl
theorem n36 : (36 : Int32) = nI 36 := rfl
theorem n40 : (40 : Int32) = nI 40 := rfl
theorem n48 : (48 : Int32) = nI 48 := rfl
theorem n50 : (50 : Int32) = nI 50 := rfl
theorem n55 : (55 : Int32) = nI 55 := rfl
theorem n56 : (56 : Int32) = nI 56 := rfl
theorem n60 : (60 : Int32) = nI 60 := rfl
theorem n63 : (63 : Int32) = nI 63 := rfl
theorem n72 : (72 : Int32) = nI 72 := rfl
theorem n95 : (95 : Int32) = nI 95 := rfl
theorem n96 : (96 : Int32) = nI 96 := rfl
theorem n97 : (97 : Int32) = nI 97 := rfl
theorem n98 : (98 : Int32) = nI 98 := rfl
theorem n99 : (99 : Int32) = nI 99 := rfl
theorem n100 : (100 : Int32) = nI 100 := rfl
theorem n120 : (120 : Int32) = nI 120 := rfl
theorem n255 : (255 : Int32) = nI 255 := rfl
theorem n360 : (360 : Int32) = nI 360 := rfl
theorem n480 : (480 : Int32) = nI 480 := rfl
theorem n_inb {i n : Nat} (h : i < n) (hn : n < 2 ^ 31) : inb (nI i) n = true := q_inbN h hn
theorem n_cl {i : Nat} (h : i < 2 ^ 31) : (nI i).toNatClampNeg = i := q_cl h
theorem n_ti {i : Nat} (h : i < 2 ^ 31) : (nI i).toInt = (i : Int) := nI_toInt h
theorem n_lt {a b : Nat} (ha : a < 2 ^ 31) (hb : b < 2 ^ 31) : (nI a < nI b) = (a < b) := by
  rw [q_lt, n_ti ha, n_ti hb]
  exact propext (by omega)
theorem n_eq {a b : Nat} (ha : a < 2 ^ 31) (hb : b < 2 ^ 31) : (nI a = nI b) = (a = b) := by
  rw [q_eq, n_ti ha, n_ti hb]
  exact propext (by omega)
theorem n_le {a b : Nat} (ha : a < 2 ^ 31) (hb : b < 2 ^ 31) : (nI a ≤ nI b) = (a ≤ b) := by
  rw [Int32.le_iff_toInt_le, n_ti ha, n_ti hb]
  exact propext (by omega)
theorem n_add (a b : Nat) : nI a + nI b = nI (a + b) := nI_add a b
theorem n_mul (a b : Nat) : nI a * nI b = nI (a * b) := nI_mul a b
theorem n_sub {a b : Nat} (h : b ≤ a) : nI a - nI b = nI (a - b) := by
  obtain ⟨c, rfl⟩ : ∃ c, a = c + b := ⟨a - b, by omega⟩
  rw [← n_add, Int32.add_sub_cancel, Nat.add_sub_cancel]
theorem n_div {a b : Nat} (ha : a < 2 ^ 31) (hb : b < 2 ^ 31) : nI a / nI b = nI (a / b) := by
  have h1 : a / b < 2 ^ 31 := Nat.lt_of_le_of_lt (Nat.div_le_self a b) ha
  rw [q_eq, Int32.toInt_div, n_ti ha, n_ti hb, n_ti h1, ← Int.ofNat_tdiv]
  generalize a / b = q at h1 ⊢
  rw [Int.bmod_eq_of_le (by omega) (by omega)]
