/-! ===== the call things ===== -/
theorem q_byte {x : Int64} (h1 : -128 ≤ x.toInt) (h2 : x.toInt ≤ 127) : x.toInt32.toInt = x.toInt := by
  rw [Int64.toInt_toInt32, Int.bmod_def]
  split <;> omega
theorem t_sub3 {a b c : Nat} (ha : a ≤ 1000) (hb : b ≤ 1000) (hc : c ≤ 1000) : (nI a - nI b - nI c).toInt = (a : Int) - b - c := by
  rw [Int32.toInt_sub, t_sub (by omega) (by omega), n_ti (by omega), Int.bmod_def]
  split <;> omega
theorem th_0 {a1 a2 a3 x : Int32} {k : Nat} {M : mm} : X11_things_L69 a1 a2 a3 (k + 1) x 0 M = some (x, M) := by
  rw [X11_things_L69, if_pos rfl]
theorem th_L {P N p n d m : Nat} {O : Option (List stp)} {a1 a2 : Int32} (hd : d < 6) (hn : n ≤ 60) (hp : p ≤ 57) (hm : m ≤ 6) : ∀ k c T Ma Mb, c ≤ m → m - c + 1 < k → RR P T N O Ma Mb → Ma.1 (70 + 2 * d) 3 = nI n → Mb.1 114 d = nI n → (∀ i, i < n → Ma.2.1 (70 + 2 * d + 1) i = Mb.2.1 115 (60 * d + i)) → (∀ i, i < n → -128 ≤ (Ma.2.1 (70 + 2 * d + 1) i).toInt ∧ (Ma.2.1 (70 + 2 * d + 1) i).toInt ≤ 127) → ∃ v Ma' Mb' T', X10_things_L59 a1 a2 (nI m) (fun x5 M => some (x5, M)) k (70 + 2 * d) (nI c) (nI (p + 3 * c)) Ma = some (v, Ma') ∧ X11_things_L69 (nI d) (nI p) (nI m) k (nI c) 1 Mb = some (v, Mb') ∧ RR P T' N O Ma' Mb' := by
  intro k
  induction k with
  | zero => intro c T Ma Mb _ h; omega
  | succ k ih =>
    intro c T Ma Mb hc hk R h3 h14 hv hby
    obtain ⟨k, rfl⟩ : ∃ j, k = j + 1 := ⟨k - 1, by omega⟩
    obtain ⟨f1, f2, f3, f4, f5, f6, -⟩ := id R.1.1
    rw [X10_things_L59, X11_things_L69, i_10, i_ltP (by omega) (by omega), i_ltP (by omega) (by omega)]
    by_cases hcm : c < m
    · rw [if_pos hcm, if_pos hcm, sh_O d hd, gd_t, h3, n_inb hd (by omega), gd_t, n_cl (show d < 2 ^ 31 by omega), h14, show (3 : Int32) = nI 3 from rfl, n_mul, i_P (propext (q_lt (nI n - nI 3) (nI (p + 3 * c)))), i_P (propext (q_lt (nI n - nI 3 - nI (3 * c)) (nI p))), t_sub (by omega) (by omega), t_sub3 (by omega) (by omega) (by omega), n_ti (by omega), n_ti (by omega)]
      have stop : X11_things_b110 (nI d) (nI p) (nI m) (X11_things_L69 (nI d) (nI p) (nI m) (k + 1)) (nI c) Mb = some (nI c, Mb) := by
        unfold X11_things_b110 X11_things_b111
        rw [if_pos rfl]
        unfold X11_things_b167 X11_things_b168
        rw [if_pos rfl]
        unfold X11_things_b210
        exact th_0
      by_cases hs : (n : Int) - (3 : Nat) < (p + 3 * c : Nat)
      · rw [if_pos hs, if_pos (by omega), stop]
        exact ⟨_, _, _, T, rfl, rfl, R⟩
      · rw [if_neg hs, if_neg (by omega), show (6 : Int32) = nI 6 from rfl, f6, i_ltP (by omega) (by omega)]
        have x1 : nI (p + 3 * c) + 1 = nI (p + 3 * c + 1) := nI_1 _
        have x2 : nI (p + 3 * c) + 2 = nI (p + 3 * c + 2) := n_add (p + 3 * c) 2
        have x3 : nI (p + 3 * c) + nI 3 = nI (p + 3 * (c + 1)) := by rw [n_add]; congr 1
        have y0 : (60 * nI d + nI p) + 3 * nI c = nI (60 * d + (p + 3 * c)) := by
          rw [show (60 : Int32) = nI 60 from rfl, show (3 : Int32) = nI 3 from rfl, n_mul, n_mul, n_add, n_add, Nat.add_assoc]
        have y1 : nI (60 * d + (p + 3 * c)) + 1 = nI (60 * d + (p + 3 * c + 1)) := nI_1 _
        have y2 : nI (60 * d + (p + 3 * c)) + 2 = nI (60 * d + (p + 3 * c + 2)) := n_add (60 * d + (p + 3 * c)) 2
        rw [x1, x2, x3, n_inb (show p + 3 * c < 60 by omega) (by omega), gd_t, n_inb (show p + 3 * c + 1 < 60 by omega) (by omega), gd_t, n_inb (show p + 3 * c + 2 < 60 by omega) (by omega), gd_t, n_cl (show p + 3 * c < 2 ^ 31 by omega), n_cl (show p + 3 * c + 1 < 2 ^ 31 by omega), n_cl (show p + 3 * c + 2 < 2 ^ 31 by omega), hv _ (show p + 3 * c < n by omega), hv _ (show p + 3 * c + 1 < n by omega), hv _ (show p + 3 * c + 2 < n by omega)]
        have b0 := hby _ (show p + 3 * c < n by omega)
        have b1 := hby _ (show p + 3 * c + 1 < n by omega)
        have b2 := hby _ (show p + 3 * c + 2 < n by omega)
        rw [hv _ (show p + 3 * c < n by omega)] at b0
        rw [hv _ (show p + 3 * c + 1 < n by omega)] at b1
        rw [hv _ (show p + 3 * c + 2 < n by omega)] at b2
        have B : X11_things_b111 (nI d) (nI p) (nI m) (X11_things_L69 (nI d) (nI p) (nI m) (k + 1)) (nI c) 1 Mb = if (0 ≤ (Mb.2.1 115 (60 * d + (p + 3 * c))).toInt ∧ (Mb.2.1 115 (60 * d + (p + 3 * c))).toInt < P) ∧ (0 ≤ (Mb.2.1 115 (60 * d + (p + 3 * c + 1))).toInt ∧ (Mb.2.1 115 (60 * d + (p + 3 * c + 1))).toInt ≤ 99) ∧ (0 ≤ (Mb.2.1 115 (60 * d + (p + 3 * c + 2))).toInt ∧ (Mb.2.1 115 (60 * d + (p + 3 * c + 2))).toInt ≤ 99) then bd (X11_adds ((Mb.2.1 115 (60 * d + (p + 3 * c))).toInt32) ((Mb.2.1 115 (60 * d + (p + 3 * c + 1))).toInt32) ((Mb.2.1 115 (60 * d + (p + 3 * c + 2))).toInt32) Mb) fun u23 M24 => X11_things_L69 (nI d) (nI p) (nI m) (k + 1) (nI c + 1) 1 M24 else some (nI c, Mb) := by
          unfold X11_things_b111
          rw [y0, y1, y2, if_neg (by decide), n_inb (show 60 * d + (p + 3 * c) < 360 by omega) (by omega), gd_t, n_inb (show 60 * d + (p + 3 * c + 1) < 360 by omega) (by omega), gd_t, n_inb (show 60 * d + (p + 3 * c + 2) < 360 by omega) (by omega), gd_t, n_cl (show 60 * d + (p + 3 * c) < 2 ^ 31 by omega), n_cl (show 60 * d + (p + 3 * c + 1) < 2 ^ 31 by omega), n_cl (show 60 * d + (p + 3 * c + 2) < 2 ^ 31 by omega), u_isOne f1 f5, bd_s, i_P (bI_0 _)]
          by_cases hone : (0 ≤ (Mb.2.1 115 (60 * d + (p + 3 * c))).toInt ∧ (Mb.2.1 115 (60 * d + (p + 3 * c))).toInt < P) ∧ (0 ≤ (Mb.2.1 115 (60 * d + (p + 3 * c + 1))).toInt ∧ (Mb.2.1 115 (60 * d + (p + 3 * c + 1))).toInt ≤ 99) ∧ (0 ≤ (Mb.2.1 115 (60 * d + (p + 3 * c + 2))).toInt ∧ (Mb.2.1 115 (60 * d + (p + 3 * c + 2))).toInt ≤ 99)
          · rw [decide_eq_true hone, if_neg (c := true = false) (fun q => nomatch q), if_pos hone]
            unfold X11_things_b168
            rw [if_neg (by decide), y1, y2, n_inb (show 60 * d + (p + 3 * c) < 360 by omega) (by omega), gd_t, n_inb (show 60 * d + (p + 3 * c + 1) < 360 by omega) (by omega), gd_t, n_inb (show 60 * d + (p + 3 * c + 2) < 360 by omega) (by omega), gd_t, n_cl (show 60 * d + (p + 3 * c) < 2 ^ 31 by omega), n_cl (show 60 * d + (p + 3 * c + 1) < 2 ^ 31 by omega), n_cl (show 60 * d + (p + 3 * c + 2) < 2 ^ 31 by omega)]
            rfl
          · rw [decide_eq_false hone, if_pos rfl, if_neg hone]
            unfold X11_things_b167 X11_things_b168
            rw [if_pos rfl]
            unfold X11_things_b210
            exact th_0
        rw [t_addThing f1 f2 f3 f4, q_byte b0.1 b0.2, q_byte b1.1 b1.2, q_byte b2.1 b2.2]
        by_cases hone : (0 ≤ (Mb.2.1 115 (60 * d + (p + 3 * c))).toInt ∧ (Mb.2.1 115 (60 * d + (p + 3 * c))).toInt < P) ∧ (0 ≤ (Mb.2.1 115 (60 * d + (p + 3 * c + 1))).toInt ∧ (Mb.2.1 115 (60 * d + (p + 3 * c + 1))).toInt ≤ 99) ∧ (0 ≤ (Mb.2.1 115 (60 * d + (p + 3 * c + 2))).toInt ∧ (Mb.2.1 115 (60 * d + (p + 3 * c + 2))).toInt ≤ 99)
        · rw [if_pos hone]
          by_cases h6 : T = 6
          · rw [if_pos h6, if_neg (by omega), stop, bd_s, if_pos (by decide)]
            exact ⟨_, _, _, T, rfl, rfl, R⟩
          · rw [if_neg h6, if_pos (by omega), B, if_pos hone, u_adds (by omega) f6, bd_s, bd_s, if_neg (neg0 (by omega)), nI_1]
            obtain ⟨o, o1, o2⟩ := q_ex (a := (Mb.2.1 115 (60 * d + (p + 3 * c))).toInt32) (n := P) (by rw [q_byte b0.1 b0.2]; omega) (by rw [q_byte b0.1 b0.2]; omega) (by omega)
            obtain ⟨wo, w1, w2⟩ := q_ex (a := (Mb.2.1 115 (60 * d + (p + 3 * c + 1))).toInt32) (n := 100) (by rw [q_byte b1.1 b1.2]; omega) (by rw [q_byte b1.1 b1.2]; omega) (by omega)
            obtain ⟨bi, i1, i2⟩ := q_ex (a := (Mb.2.1 115 (60 * d + (p + 3 * c + 2))).toInt32) (n := 100) (by rw [q_byte b2.1 b2.2]; omega) (by rw [q_byte b2.1 b2.2]; omega) (by omega)
            rw [o2, w2, i2]
            refine ih (c + 1) (T + 1) _ _ (by omega) (by omega) (ad_lift R (by omega) o1 (by omega) (by omega)) ?_ ?_ hv hby
            · simp (disch := omega) only [adI, sA_n]; exact h3
            · simp (disch := omega) only [adM, sA_n]; exact h14
        · rw [if_neg hone, bd_s, if_pos (by decide)]
          by_cases h6 : T < 6
          · rw [if_pos h6, B, if_neg hone]
            exact ⟨_, _, _, T, rfl, rfl, R⟩
          · rw [if_neg h6, stop]
            exact ⟨_, _, _, T, rfl, rfl, R⟩
    · rw [if_neg hcm, if_neg hcm]
      exact ⟨_, _, _, T, rfl, rfl, R⟩
