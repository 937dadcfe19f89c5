/-! ===== what BEST does in deed: remembered under a key ===== -/
theorem ll_shr {a : Nat} (h : a < 2 ^ 62) : lN a >>> ((1 : Int32).toInt64 &&& 63) = lN (a / 2) := by
  apply Int64.toInt_inj.mp
  have hD : ((((1 : Int32).toInt64 &&& 63) : Int64).toBitVec.smod 64).toNat = 1 := by decide
  have e : (lN a >>> ((1 : Int32).toInt64 &&& 63)).toInt = (lN a).toInt >>> 1 := by
    rw [← hD]
    exact BitVec.toInt_sshiftRight ..
  rw [e, Int.shiftRight_eq_div_pow, pk_lT (by omega), pk_lT (by omega)]
  rfl
theorem ll_and1 {a : Nat} (h : a < 2 ^ 64) : lN a &&& 1 = lN (a % 2) := by
  apply Int64.toBitVec_inj.mp
  show BitVec.ofNat 64 a &&& BitVec.ofNat 64 1 = BitVec.ofNat 64 (a % 2)
  apply BitVec.eq_of_toNat_eq
  rw [BitVec.toNat_and, BitVec.toNat_ofNat, BitVec.toNat_ofNat, BitVec.toNat_ofNat, Nat.mod_eq_of_lt h, Nat.mod_eq_of_lt (show 1 < 2 ^ 64 by decide), Nat.mod_eq_of_lt (show a % 2 < 2 ^ 64 by omega), Nat.and_one_is_mod]
def kk (V F t sd a s : Nat) : Nat := (((((V * 10 + F) * 6 + t) * 3 + sd) * 100 + a) * 3 + s) - 1
theorem kk_inj {V F t sd a s F' t' sd' a' s' : Nat} (h1 : F ≤ 9) (h2 : t < 6) (h3 : sd < 3) (h4 : a ≤ 99) (h5 : 1 ≤ s) (h6 : s ≤ 3) (k1 : F' ≤ 9) (k2 : t' < 6) (k3 : sd' < 3) (k4 : a' ≤ 99) (k5 : 1 ≤ s') (k6 : s' ≤ 3) (e : kk V F t sd a s = kk V F' t' sd' a' s') : F = F' ∧ t = t' ∧ sd = sd' ∧ a = a' ∧ s = s' := by
  unfold kk at e
  omega
theorem kk_lo {V F t sd a s : Nat} (h5 : 1 ≤ s) : V * 54000 ≤ kk V F t sd a s := by
  unfold kk
  omega
theorem kk_hi {V F t sd a s : Nat} (h1 : F ≤ 9) (h2 : t < 6) (h3 : sd < 3) (h4 : a ≤ 99) (h5 : 1 ≤ s) (h6 : s ≤ 3) : kk V F t sd a s < (V + 1) * 54000 := by
  unfold kk
  omega
def tn (x : Int32) : Nat := x.toInt.toNat
theorem tn_nI {n : Nat} (h : n < 2 ^ 31) : tn (nI n) = n := by
  unfold tn
  rw [nI_toInt h]
  omega
/-- a thing as it is told now, its owner going by BEST -/
def cNow (M : mm) (O : Option (List stp)) (F t : Nat) : cns := cOf (tn (M.1 2 (tn (M.1 5 t)))) (tn (M.1 3 (tn (M.1 5 t)))) 4 (tn (M.1 6 t)) (tn (M.1 7 t)) F O t
/-- what is remembered -/
def rM (T N : Nat) (O : Option (List stp)) (M : mm) : Prop := ∃ V, 1 ≤ V ∧ V ≤ N ∧ M.1 1 4 = nI V ∧ ∀ q, q < 2048 → ∃ k b, b ≤ 1 ∧ k < (V + 1) * 54000 ∧ M.2.1 26 q = lN (2 * k + b) ∧ (k < V * 54000 ∨ ∃ F t l a s, F ≤ 9 ∧ t < T ∧ l < 3 ∧ a ≤ 99 ∧ 1 ≤ s ∧ s ≤ 3 ∧ k = kk V F t (2 - l) a s ∧ (b = if isB (cNow M O F t) 4 s l a = true then 1 else 0))
theorem rM_c {T T' N : Nat} {O : Option (List stp)} {M M' : mm} (h : rM T N O M) (hT : T ≤ T') (e4 : M'.1 1 4 = M.1 1 4) (e26 : M'.2.1 26 = M.2.1 26) (ec : ∀ F t, t < T → cNow M' O F t = cNow M O F t) : rM T' N O M' := by
  obtain ⟨V, V1, V2, V3, V4⟩ := h
  refine ⟨V, V1, V2, by rw [e4]; exact V3, fun q hq => ?_⟩
  obtain ⟨k, b, h1, h2, h3, h4⟩ := V4 q hq
  refine ⟨k, b, h1, h2, by rw [e26]; exact h3, h4.imp id fun ⟨F, t, l, a, s, g1, g2, g3, g4, g5, g6, g7, g8⟩ => ⟨F, t, l, a, s, g1, by omega, g3, g4, g5, g6, g7, by rw [ec F t g2]; exact g8⟩⟩
/-- another number: all that is remembered is old -/
theorem rM_new {T T' N : Nat} {O O' : Option (List stp)} {M M' : mm} {V : Nat} (h : rM T N O M) (hV : M.1 1 4 = nI V) (hN : V < 2 ^ 31 ∧ N + 1 < 2 ^ 31) (e4 : M'.1 1 4 = nI (V + 1)) (e26 : M'.2.1 26 = M.2.1 26) : rM T' (N + 1) O' M' := by
  obtain ⟨V', V1, V2, V3, V4⟩ := h
  obtain rfl : V' = V := by
    rw [V3, n_eq (by omega) (by omega)] at hV
    exact hV
  refine ⟨V' + 1, by omega, by omega, e4, fun q hq => ?_⟩
  obtain ⟨k, b, h1, h2, h3, h4⟩ := V4 q hq
  refine ⟨k, b, h1, ?_, ?_, ?_⟩
  · exact Nat.lt_of_lt_of_le h2 (Nat.mul_le_mul_right _ (Nat.le_succ _))
  · rw [e26]; exact h3
  · exact Or.inl h2
/-- whose the last nail is, for p -/
def lO (x : Int32) (p : Nat) : Nat := if x = -2 then 2 else if x = nI p then 0 else 1
theorem lO_lt (x : Int32) (p : Nat) : lO x p < 3 := by
  unfold lO
  split
  · omega
  · split <;> omega
theorem w_sideOf (x : Int32) (p : Nat) (M : mm) : X4_sideOf x (nI p) M = some (nI (2 - lO x p), M) := by
  unfold X4_sideOf lO
  by_cases h : x = -2
  · rw [if_pos h, if_pos h]; rfl
  · rw [if_neg h, if_neg h]
    by_cases h2 : x = nI p
    · rw [if_pos h2, if_pos h2]; rfl
    · rw [if_neg h2, if_neg h2]; rfl
/-- who thinks of which thing -/
def cs1 (M : mm) (t p sk fe : Nat) : mm := sA M 21 (upd (upd (upd (upd (M.1 21) 2 (nI t)) 3 (nI p)) 4 (nI sk)) 5 (nI fe))
theorem w_consider {M : mm} {t p sk fe : Nat} (hp : p < 5) (hf : M.1 3 p = nI fe) : X4_consider (nI t) (nI p) (nI sk) M = some ((), cs1 M t p sk fe) := by
  unfold X4_consider cs1
  simp (disch := decide) only [lt_s_, sA_s, sA_sA, sA_n]
  rw [n_inb hp (by omega), gd_t, n_cl (by omega), hf]
def cs2 (M : mm) (l a : Nat) : mm := sA M 21 (upd (upd (M.1 21) 6 (nI (2 - l))) 7 (nI a))
theorem w_start {M : mm} {p a : Nat} (h3 : M.1 21 3 = nI p) (x : Int32) : X4_start x (nI a) M = some ((), cs2 M (lO x p) a) := by
  unfold X4_start cs2
  rw [h3, w_sideOf, bd_s, lt_s_, lt_s_, sA_sA, sA_s]
theorem tS_cs {sk fe wy wo bi F t p l a : Nat} {O : Option (List stp)} {M : mm} (h6 : M.1 6 t = nI wo) (h7 : M.1 7 t = nI bi) (h2 : M.1 1 2 = nI F) (hA : lawA O M) (hF : rFo O M) (hR : RefOK M) : tS (cOf sk fe wy wo bi F O t) O t l a (sA (cs2 (cs1 M t p sk fe) l a) 21 (upd ((cs2 (cs1 M t p sk fe) l a).1 21) 8 (nI wy))) := by
  unfold cs2 cs1
  simp only [sA_s, sA_sA]
  refine ⟨⟨?_, ?_, ?_, ?_, ?_, ?_⟩, ⟨?_, ?_, ?_⟩, ?_, ?_, hR⟩
  · simp (disch := decide) only [sA_s, upd_n, upd_s]
  · simp (disch := decide) only [sA_s, upd_n, upd_s]; rfl
  · simp (disch := decide) only [sA_s, upd_n, upd_s]; rfl
  · simp (disch := decide) only [sA_s, upd_n, upd_s]
  · simp (disch := decide) only [sA_s, upd_n, upd_s]
  · simp (disch := decide) only [sA_s, upd_s]; rfl
  · rw [sA_n _ _ _ _ (by decide)]; exact h6
  · rw [sA_n _ _ _ _ (by decide)]; exact h7
  · rw [sA_n _ _ _ _ (by decide)]; exact h2
  · exact lawA_X hA ⟨sA_n _ _ _ _ (by decide), sA_n _ _ _ _ (by decide), sA_n _ _ _ _ (by decide)⟩
  · intro t s a l k1 k2 k3 k4 k5
    rw [sA_n _ _ _ _ (by decide)]
    exact hF t s a l k1 k2 k3 k4 k5
/-- but for the cells of thought (19 .. 25), as before -/
def EqT (M M' : mm) : Prop := (∀ k, k ≠ 19 → k ≠ 20 → k ≠ 21 → M'.1 k = M.1 k) ∧ (∀ k, k ≠ 21 → k ≠ 22 → k ≠ 23 → k ≠ 24 → k ≠ 25 → M'.2.1 k = M.2.1 k) ∧ M'.2.2 0 = M.2.2 0
theorem EqT_r (M : mm) : EqT M M := ⟨fun _ _ _ _ => rfl, fun _ _ _ _ _ _ => rfl, rfl⟩
theorem EqT_t {M M' M'' : mm} (h : EqT M M') (h2 : EqT M' M'') : EqT M M'' := ⟨fun k a b c => (h2.1 k a b c).trans (h.1 k a b c), fun k a b c d e => (h2.2.1 k a b c d e).trans (h.2.1 k a b c d e), h2.2.2.trans h.2.2⟩
theorem EqT_K {M M' : mm} (h : EqK M M') : EqT M M' := ⟨h.1, h.2.2.1, h.2.2.2⟩
theorem EqT_cs1 (M : mm) (t p sk fe : Nat) : EqT M (cs1 M t p sk fe) := ⟨fun _ _ _ c => sA_n _ _ _ _ c, fun _ _ _ _ _ _ => rfl, rfl⟩
theorem EqT_cs2 (M : mm) (l a : Nat) : EqT M (cs2 M l a) := ⟨fun _ _ _ c => sA_n _ _ _ _ c, fun _ _ _ _ _ _ => rfl, rfl⟩
/-- one thinks: what comes of it -/
theorem w_thinks {sk fe wy wo bi F t p l a y : Nat} {O : Option (List stp)} {M : mm} (ht : t < 6) (hl : l < 3) (ha : a ≤ 99) (hy : y ≤ 6) (hk : 1 ≤ sk ∧ sk ≤ 3 ∧ wy ≤ 4 ∧ F ≤ 9 ∧ bi ≤ 99) (h6 : M.1 6 t = nI wo) (h7 : M.1 7 t = nI bi) (h2 : M.1 1 2 = nI F) (hA : lawA O M) (hF : rFo O M) (hR : RefOK M) : ∃ M', X4_think (nI y) (nI wy) (cs2 (cs1 M t p sk fe) l a) = some ((), M') ∧ EqT M M' ∧ (lawA O M' ∧ rFo O M' ∧ RefOK M') ∧ M'.1 21 8 = nI wy ∧ M'.1 21 3 = nI p ∧ finM (cOf sk fe wy wo bi F O t) l a y M' ∧ (∀ k, M'.1 21 k = (cs2 (cs1 M t p sk fe) l a).1 21 k ∨ k = 8 ∨ k = 9) := by
  have hC : tC (cOf sk fe wy wo bi F O t) O t l a := ⟨⟨ht, hl, ha⟩, hk, rfl⟩
  obtain ⟨M', e, k1, k2, k3⟩ := w_think hC hy (tS_cs (sk := sk) (fe := fe) (wy := wy) (p := p) (l := l) (a := a) h6 h7 h2 hA hF hR)
  refine ⟨M', e, EqT_t (EqT_t (EqT_cs1 M t p sk fe) (EqT_cs2 _ l a)) (EqT_K k1), k2.2.2, k2.1.2.2.2.2.2, ?_, k3, fun k => ?_⟩
  · rw [k1.2.1 3 (by decide) (by decide)]
    unfold cs2 cs1
    simp (disch := decide) only [sA_s, upd_n, upd_s]
  · by_cases h8 : k = 8
    · exact Or.inr (Or.inl h8)
    · by_cases h9 : k = 9
      · exact Or.inr (Or.inr h9)
      · exact Or.inl (k1.2.1 k h8 h9)
