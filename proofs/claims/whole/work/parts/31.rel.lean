/-! ===== the relation: the class's cells in Ma, the reference's in Mb ===== -/
def rF (P T N : Nat) (Ma Mb : mm) : Prop :=
  P ≤ 5 ∧ T ≤ 6 ∧ Ma.1 1 0 = nI P ∧ Ma.1 1 1 = nI T ∧ Mb.1 82 6 = nI P ∧ Mb.1 82 7 = nI T ∧
  (∃ F, F ≤ 9 ∧ Ma.1 1 2 = nI F ∧ Mb.1 82 19 = nI F) ∧ (∃ h, h ≤ 1 ∧ Ma.1 1 3 = nI h ∧ Mb.1 82 20 = nI h) ∧ (∃ V, 1 ≤ V ∧ V ≤ N ∧ Ma.1 1 4 = nI V)
def rP (P : Nat) (Ma Mb : mm) : Prop := (∀ p, P ≤ p → p < 5 → Ma.1 4 p = 0) ∧ ∀ p, p < P → (∃ x, 1 ≤ x ∧ x ≤ 3 ∧ Ma.1 2 p = nI x ∧ Mb.1 83 p = nI x) ∧ (∃ x, x ≤ 99 ∧ Ma.1 3 p = nI x ∧ Mb.1 83 (5 + p) = nI x) ∧ (∃ x, x ≤ 4 ∧ Ma.1 4 p = nI x ∧ Mb.1 83 (10 + p) = nI x)
def rT (P T : Nat) (Ma Mb : mm) : Prop := ∀ t, t < T → (∃ x, x < P ∧ Ma.1 5 t = nI x ∧ Mb.1 90 t = nI x) ∧ (∃ x, x ≤ 99 ∧ Ma.1 6 t = nI x ∧ Mb.1 83 (15 + t) = nI x) ∧ (∃ x, x ≤ 99 ∧ Ma.1 7 t = nI x ∧ Mb.1 83 (21 + t) = nI x) ∧ (∃ x, x < 6 ∧ Ma.1 8 t = nI x ∧ Mb.1 83 (27 + t) = nI x)
def rWho (P : Nat) (x y : Int32) : Prop := x = y ∧ (x = -2 ∨ ∃ p, p < P ∧ x = nI p)
/-- a world at w against the reference's rows -/
def rW (w P T : Nat) (Ma Mb : mm) : Prop :=
  (∀ t, t < T → (∃ s, 1 ≤ s ∧ s ≤ 3 ∧ Ma.1 (w + 1) t = nI s ∧ Mb.1 91 t = nI s) ∧ rWho P (Ma.1 (w + 2) t) (Mb.1 92 t) ∧ rWho P (Ma.1 (w + 3) t) (Mb.1 93 t) ∧ (∃ a, a ≤ 99 ∧ Ma.1 (w + 4) t = nI a ∧ Mb.1 94 t = nI a) ∧
    ∃ n, n ≤ 8 ∧ Ma.1 (w + 5) t = nI n ∧ Mb.1 96 t = nI n ∧ ∀ i, i < n → Ma.1 (w + 6) (8 * t + i) = Mb.1 95 (8 * t + i)) ∧
  (∀ p, p < 5 → Ma.1 (w + 7) p = Mb.1 87 p ∧ Ma.1 (w + 8) p = Mb.1 88 p ∧ Ma.1 (w + 9) p = Mb.1 89 p) ∧ Ma.1 w 0 = Mb.1 82 21 ∧ Ma.1 w 1 = Mb.1 82 22
/-- who paid in the latest year -/
def rY (T : Nat) (Ma Mb : mm) : Prop := (∃ l, l ≤ T ∧ Ma.1 0 10 = nI l ∧ ∀ t, t < T → Mb.1 97 t = if t < l then Ma.1 38 t else -5) ∧ ∀ t, T ≤ t → t < 6 → Ma.1 33 t = 0
/-- the image -/
def rI (P T : Nat) (Ma Mb : mm) : Prop := (Ma.1 0 12 = -1 ∧ Mb.1 82 50 = 0) ∨
  ∃ kp kt, kp ≤ P ∧ kt ≤ T ∧ Ma.1 0 11 = nI kp ∧ Ma.1 0 12 = nI kt ∧ Mb.1 82 50 = 1 ∧ Mb.1 82 51 = nI kt ∧ Mb.1 82 52 = nI kp ∧
    (∀ t, t < kt → (∃ s, 1 ≤ s ∧ s ≤ 3 ∧ Ma.1 51 t = nI s ∧ Mb.1 107 (36 + 6 * t) = nI s) ∧ rWho P (Ma.1 52 t) (Mb.1 107 (36 + 6 * t + 1)) ∧ rWho P (Ma.1 53 t) (Mb.1 107 (36 + 6 * t + 2)) ∧ (∃ a, a ≤ 99 ∧ Ma.1 54 t = nI a ∧ Mb.1 107 (36 + 6 * t + 3) = nI a) ∧
      ∃ n, n ≤ 8 ∧ Ma.1 55 t = nI n ∧ Mb.1 107 (36 + 6 * t + 4) = nI n ∧ ∀ i, i < n → Ma.1 56 (8 * t + i) = Mb.1 108 (48 + 8 * t + i)) ∧
    (∀ p, p < kp → Ma.1 57 p = Mb.1 109 (15 + 3 * p) ∧ Ma.1 58 p = Mb.1 109 (15 + 3 * p + 1) ∧ Ma.1 59 p = Mb.1 109 (15 + 3 * p + 2)) ∧ Ma.1 50 0 = Mb.1 110 2 ∧ Ma.1 50 1 = Mb.1 110 3
/-- where a change lies in the reference's row -/
def wbase (what : Nat) : Nat := [0, 5, 10, 15, 21, 27].getD what 0
def wlow (what : Nat) : Nat := if what = 0 then 1 else 0
def wtop (what : Nat) : Nat := [3, 99, 4, 99, 99, 5].getD what 0
/-- the changes -/
def rC (P T : Nat) (Ma Mb : mm) : Prop := ∃ d al, d ≤ al ∧ al ≤ 40 ∧ Ma.1 61 0 = nI d ∧ Ma.1 61 1 = nI al ∧ Mb.1 82 5 = nI d ∧ Mb.1 82 4 = nI al ∧
  ∀ i, i < al → ∃ n what x y, what ≤ 5 ∧ n < (if what ≤ 2 then P else T) ∧ wlow what ≤ x ∧ x ≤ wtop what ∧ wlow what ≤ y ∧ y ≤ wtop what ∧
    Ma.1 62 i = nI n ∧ Ma.1 63 i = nI what ∧ Ma.1 64 i = nI x ∧ Ma.1 65 i = nI y ∧ Mb.1 84 i = nI (wbase what + n) ∧ Mb.1 85 i = nI x ∧ Mb.1 86 i = nI y
/-- the tape -/
def rTa (Ma Mb : mm) : Prop := ∃ n, n ≤ 120 ∧ Ma.1 9 0 = nI n ∧ Mb.1 82 24 = nI n ∧ ∀ i, i < n → Ma.1 10 i = Mb.1 98 i
/-- bodies, the trace -/
def rA (Ma Mb : mm) : Prop := ∃ b r, b ≤ 50 ∧ r ≤ 1000 ∧ Ma.1 66 0 = nI b ∧ Mb.1 82 53 = nI b ∧ Ma.1 66 1 = nI r ∧ Mb.1 82 56 = nI r ∧ (∀ i, i < b → ∃ k, k < 8 ∧ Ma.1 68 i = nI k ∧ Mb.1 111 i = nI k) ∧ ∀ i, i < r → i < 24 → Ma.1 67 i = Mb.1 112 i
/-- the shelves -/
def rS1 (d : Nat) (Ma Mb : mm) : Prop :=
  (Ma.1 (70 + 2 * d) 0 = 0 ∧ Mb.1 113 d = -1) ∨
  (∃ b, b < 50 ∧ nI b < Ma.1 66 0 ∧ Ma.1 (70 + 2 * d) 0 = 1 ∧ Ma.1 (70 + 2 * d) 1 = nI b ∧ Mb.1 113 d = nI b) ∨
  (∃ s n, s ≤ 4 ∧ n ≤ 60 ∧ Ma.1 (70 + 2 * d) 0 = 2 ∧ Ma.1 (70 + 2 * d) 2 = nI s ∧ Ma.1 (70 + 2 * d) 3 = nI n ∧ Mb.1 113 d = nI (50 + s) ∧ Mb.1 114 d = nI n ∧ (∀ i, i < n → Ma.2.1 (71 + 2 * d) i = Mb.2.1 115 (60 * d + i)) ∧ (s = 0 → ∀ i, i < n → -128 ≤ (Ma.2.1 (71 + 2 * d) i).toInt ∧ (Ma.2.1 (71 + 2 * d) i).toInt ≤ 127))
def rS (Ma Mb : mm) : Prop := ∀ d, d < 6 → rS1 d Ma Mb
