/-! ===== equilibrium, checksum ===== -/
theorem mPool_rg {τ : xD} {v : xV} {b C P : Nat} (h : RW τ v b C P) : 0 ≤ mPool v P ∧ mPool v P ≤ 128 := by
  obtain ⟨hR, -, hS, -⟩ := h
  have hG := hR.1
  have wP := hR.2.2.2.2.2.2.1
  have wQ := hR.2.2.2.2.2.2.2.1
  obtain ⟨h0, -, h8, -, -, h6, -⟩ := hG
  have a := sm32_bd (f := fun p => v (ip p 0) + v (ip p 2) + v (ip p 1)) P h6 (fun p hp => by
    obtain ⟨w0, w1, w2, -⟩ := wP p (by omega)
    unfold rg at *
    show 0 ≤ v (ip p 0) + v (ip p 2) + v (ip p 1) ∧ v (ip p 0) + v (ip p 2) + v (ip p 1) ≤ 600
    grind)
  have b := sm32_bd (f := fun p => s3 v p 7) P h6 (fun p hp => by
    have x0 := (wQ (3 * p) (by omega)).2.2.2.2.2.2.2.1
    have x1 := (wQ (3 * p + 1) (by omega)).2.2.2.2.2.2.2.1
    have x2 := (wQ (3 * p + 2) (by omega)).2.2.2.2.2.2.2.1
    unfold rg at *
    show 0 ≤ v (iq (3 * p) 7) + v (iq (3 * p + 1) 7) + v (iq (3 * p + 2) 7) ∧ v (iq (3 * p) 7) + v (iq (3 * p + 1) 7) + v (iq (3 * p + 2) 7) ≤ 600
    grind)
  have c : nI (600 * P) ≤ 3600 := nI_le (b := 3600) (by omega) (by omega)
  have e : nI C ≤ 128 := nI_le (b := 128) (by omega) (by omega)
  have e2 : 0 ≤ nI C := nI_pos' (by omega)
  have hf := hS.2
  rw [mFree] at hf
  have e3 : mPool v P = nI C - sm32 (fun p => v (ip p 0) + v (ip p 2) + v (ip p 1)) P := by rw [mPool, h0]
  generalize sm32 (fun p => s3 v p 7) P = B at *
  generalize sm32 (fun p => v (ip p 0) + v (ip p 2) + v (ip p 1)) P = D at *
  generalize mPool v P = M at *
  grind
def qEnd (a2 s t g : Int32) (σ : xS) : Option (Int32 × xS) := if a2 = 0 then (if g = 0 then none else some ((t / g), σ)) else (if g = 0 then none else some ((s / g), σ))
theorem gcd_loop {σ : xS} {a2 s t : Int32} : ∀ (m x y a n : Nat), x < 2000 → y < 2000 → y < 2 ^ m → a + 2 * m + 1 ≤ 64 → 2 * m + 1 < n → (1 ≤ x ∨ 1 ≤ y) → ∃ g, 1 ≤ g ∧ g < 2000 ∧ BX5_greatestCommonDivisor_7 n (nI x) (nI y) (nI a) σ = some (nI g, σ) ∧ BX6_equilibrium_90 a2 s t n (nI x) (nI y) σ = qEnd a2 s t (nI g) σ := by
  have base : ∀ (x a n : Nat), 1 ≤ x → x < 2000 → a < 64 → ∃ g, 1 ≤ g ∧ g < 2000 ∧ BX5_greatestCommonDivisor_7 (n + 1) (nI x) (nI 0) (nI a) σ = some (nI g, σ) ∧ BX6_equilibrium_90 a2 s t (n + 1) (nI x) (nI 0) σ = qEnd a2 s t (nI g) σ := by
    intro x a n h1 h2 h3
    refine ⟨x, h1, h2, ?_, ?_⟩
    · rw [BX5_greatestCommonDivisor_7, if_neg (show ¬ (64 : Int32) ≤ nI a from nI_ge (b := 64) h3 (by omega)), if_pos (show nI 0 = 0 from rfl)]
    · rw [BX6_equilibrium_90, if_pos (show nI 0 = 0 from rfl), qEnd]
  have step : ∀ (x y a n : Nat), 1 ≤ y → x < 2000 → y < 2000 → a < 64 → BX5_greatestCommonDivisor_7 (n + 1) (nI x) (nI y) (nI a) σ = BX5_greatestCommonDivisor_7 n (nI y) (nI (x % y)) (nI (a + 1)) σ ∧ BX6_equilibrium_90 a2 s t (n + 1) (nI x) (nI y) σ = BX6_equilibrium_90 a2 s t n (nI y) (nI (x % y)) σ := by
    intro x y a n h1 h2 h3 h4
    have ne := nI_ne0 (n := y) (by omega) (by omega)
    constructor
    · rw [BX5_greatestCommonDivisor_7, if_neg (show ¬ (64 : Int32) ≤ nI a from nI_ge (b := 64) h4 (by omega)), if_neg ne, if_neg ne, l_v, pk_rem (by omega) (by omega) (by omega), l_v, nI_1]
    · rw [BX6_equilibrium_90, if_neg ne, if_neg ne, l_v, pk_rem (by omega) (by omega) (by omega)]
  intro m
  induction m with
  | zero =>
    intro x y a n h1 h2 h3 h4 h5 h6
    obtain ⟨n, rfl⟩ : ∃ q, n = q + 1 := ⟨n - 1, by omega⟩
    have : y = 0 := by omega
    subst this
    exact base x a n (by omega) h1 (by omega)
  | succ m ih =>
    intro x y a n h1 h2 h3 h4 h5 h6
    obtain ⟨n, rfl⟩ : ∃ q, n = q + 1 + 1 := ⟨n - 2, by omega⟩
    by_cases hy : y = 0
    · subst hy
      exact base x a (n + 1) (by omega) h1 (by omega)
    · have s1 := step x y a (n + 1) (by omega) h1 h2 (by omega)
      rw [s1.1, s1.2]
      have l1 : x % y < y := Nat.mod_lt _ (by omega)
      by_cases hr : x % y = 0
      · rw [hr]
        exact base y (a + 1) n (by omega) h2 (by omega)
      · have s2 := step y (x % y) (a + 1) n (by omega) h2 (by omega) (by omega)
        rw [s2.1, s2.2]
        have l2 : y % (x % y) < x % y := Nat.mod_lt _ (by omega)
        have l3 : y % (x % y) + (x % y) ≤ y := by
          have e := Nat.div_add_mod y (x % y)
          have : 1 ≤ y / (x % y) := (Nat.one_le_div_iff (by omega)).mpr (by omega)
          have h9 : (x % y) * 1 ≤ (x % y) * (y / (x % y)) := Nat.mul_le_mul_left _ this
          omega
        have l4 : 2 ^ (m + 1) = 2 * 2 ^ m := by rw [Nat.pow_succ]; omega
        exact ih (x % y) (y % (x % y)) (a + 1 + 1) n (by omega) (by omega) (by omega) (by omega) (by omega) (by omega)
theorem mod3 {i : Nat} (hi : i < 2 ^ 30) : nI i - nI i / 3 * 3 = nI (i % 3) := pk_rem (d := 3) (by omega) (by omega) (by omega)
theorem div3 {i : Nat} (hi : i < 2 ^ 30) : nI i / 3 = nI (i / 3) := pk_div (d := 3) (by omega) (by omega) (by omega)
theorem eq_loop {σ : xS} {b C P : Nat} {a1 a2 : Int32} (hW : RW (σ 0) (vv σ) b C P) {t : Nat} (ht : t ≤ 1024) (hpool : 8 * mPool (vv σ) P = nI t) : ∀ (n i s : Nat), i ≤ 3 * P → 3 * P < n + i → 8 ≤ s → s ≤ 8 + 64 * i → ∃ r, BX5_equilibrium_39 a1 a2 (nI t) n (nI s) (nI i) σ = some (r, σ) ∧ BX6_equilibrium_27 a1 a2 n (nI s) (nI i) σ = some (r, σ) := by
  obtain ⟨hP5, hP0, h1, h6⟩ := w_P hW
  intro n
  induction n with
  | zero => intro i s g1 g2; omega
  | succ n ih =>
    intro i s g1 g2 g3 g4
    rw [BX5_equilibrium_39, BX6_equilibrium_27, hP0, hP5, q30]
    by_cases e : i < 3 * P
    · rw [if_neg (nI_ge e (by omega)), if_neg (nI_ge e (by omega)), mod3 (i := i) (by omega), div3 (i := i) (by omega), c_queueAt_t hP0 h6 (show i / 3 < P by omega) (show i % 3 < 3 by omega), b_s]
      have ea : σ 0 16 (i / 3) (i % 3) 1 = vv σ (iq i 0) := by
        have := hW.1.2.1 (i / 3) (i % 3) 1 0 (by omega) (by omega) rfl
        rw [show 3 * (i / 3) + i % 3 = i by omega] at this
        exact this
      obtain ⟨j, j1, j2, hj⟩ := rng_nI (lo := 0) (hi := 64) (by omega) (by omega) (hW.1.2.2.2.2.2.2.2.1 i (by omega)).1
      show ∃ r, x_g (ok3 (0, i / 3, i % 3)) (if (a1 >>> (nI i &&& 31)) &&& 1 = 1 then x_let (nI s + σ 0 16 (i / 3) (i % 3) 1) _ else _) = some (r, σ) ∧ _
      rw [ok3_t (by decide) (by omega) (by omega), g_t]
      by_cases q : (a1 >>> (nI i &&& 31)) &&& 1 = 1
      · rw [if_pos q, if_pos q, l_v, l_v, m_queue_0, b_s, in_nI (by omega) (by omega), g_t, nI_clamp (by omega), l_v, l_v, ea]
        show ∃ r, BX5_equilibrium_39 a1 a2 (nI t) n (nI s + vv σ (iq i 0)) (nI i + 1) σ = some (r, σ) ∧ BX6_equilibrium_27 a1 a2 n (nI s + vv σ (iq i 0)) (nI i + 1) σ = some (r, σ)
        rw [hj, nI_add, nI_1]
        exact ih (i + 1) (s + j) (by omega) (by omega) (by omega) (by omega)
      · rw [if_neg q, if_neg q, l_v, l_v, l_v, nI_1, show nI s + 0 = nI s by grind]
        exact ih (i + 1) s (by omega) (by omega) (by omega) (by omega)
    · rw [if_pos (nI_le (by omega) (by omega)), if_pos (nI_le (by omega) (by omega)), m_pool hP5 h6, b_s, l_v, hpool, fX5_greatestCommonDivisor]
      obtain ⟨g, k1, k2, k3, k4⟩ := gcd_loop (σ := σ) (a2 := a2) (s := nI s) (t := nI t) 11 t s 0 x_FU (by omega) (by omega) (by omega) (by omega) (by unfold x_FU; omega) (by omega)
      have em : i_max 1 (nI g) = nI g := by
        unfold i_max
        by_cases q : (1 : Int32) < nI g
        · rw [if_pos q]
        · rw [if_neg q]
          have : (1 : Int32) ≤ nI g := nI_le (a := 1) k1 (by omega)
          grind
      rw [show BX5_greatestCommonDivisor_7 x_FU (nI t) (nI s) 0 σ = some (nI g, σ) from k3, b_s, l_v, em, k4, qEnd]
      have ne := nI_ne0 (n := g) (by omega) (by omega)
      by_cases q : a2 = 0
      · rw [if_pos q, if_neg ne]
        exact ⟨_, rfl, rfl⟩
      · rw [if_neg q, if_neg ne]
        exact ⟨_, rfl, rfl⟩
theorem eq_guard {P : Nat} (h1 : 1 ≤ P) (h6 : P ≤ 6) {x : Int32} (hx : ¬ x < 0) : (x >>> ((3 * nI P) &&& 31) = 0) ↔ x < (1 <<< ((3 * nI P) &&& 31)) := by
  obtain ⟨j, hj, rfl⟩ := nI_of hx
  have key : ∀ (s : Int32) (k : Nat), k ≤ 18 → (s.toBitVec.smod 32).toNat = k → (1 : Int32) <<< s = nI (2 ^ k) → ((nI j >>> s = 0) ↔ nI j < (1 <<< s)) := by
    intro s k hk hs h2
    have hp : (2 : Nat) ^ k < 2 ^ 31 := Nat.pow_lt_pow_right (by omega) (by omega)
    have hpos : 0 < (2 : Nat) ^ k := Nat.pos_of_ne_zero (by
      have := Nat.one_le_two_pow (n := k)
      omega)
    rw [pk_shrN hj s k hs, h2, nI_ltI hj hp]
    have hd : j / 2 ^ k ≤ j := Nat.div_le_self _ _
    have : (nI (j / 2 ^ k) = 0) ↔ j / 2 ^ k = 0 := nI_eq (b := 0) (by omega) (by omega)
    rw [this, Nat.div_eq_zero_iff]
    omega
  rcases (show P = 1 ∨ P = 2 ∨ P = 3 ∨ P = 4 ∨ P = 5 ∨ P = 6 by omega) with rfl | rfl | rfl | rfl | rfl | rfl
  · exact key _ 3 (by omega) (by decide) (by decide)
  · exact key _ 6 (by omega) (by decide) (by decide)
  · exact key _ 9 (by omega) (by decide) (by decide)
  · exact key _ 12 (by omega) (by decide) (by decide)
  · exact key _ 15 (by omega) (by decide) (by decide)
  · exact key _ 18 (by omega) (by decide) (by decide)
theorem xp46 : xP46 Inv := by
  intro n σ a1 a2 hI hn hz
  obtain ⟨C, P, hW⟩ := RW_of hI hn
  obtain ⟨hP5, hP0, h1, h6⟩ := w_P hW
  by_cases h0 : a1 < 0
  · refine ⟨-2, σ, σ, ?_, ?_, Inv_mono n σ hI⟩
    · rw [fX5_equilibrium, if_pos h0]
    · rw [fX6_equilibrium, if_pos h0]
  · have hg := eq_guard h1 h6 h0
    by_cases hq : a1 >>> ((3 * nI P) &&& 31) = 0
    · obtain ⟨m, m1, m2, hm⟩ := rng_nI (lo := 0) (hi := 128) (by omega) (by omega) (mPool_rg hW)
      obtain ⟨r, k1, k2⟩ := eq_loop (a1 := a1) (a2 := a2) hW (t := 8 * m) (by omega) (by rw [hm]; exact pk_mul 8 m) x_FU 0 8 (by omega) (by unfold x_FU; omega) (by omega) (by omega)
      refine ⟨r, σ, σ, ?_, ?_, Inv_mono n σ hI⟩
      · rw [fX5_equilibrium, if_neg h0, hP0, if_pos hq, c_pool hP0 h6, b_s, l_v, cPool_eq hW.1.2.2.2.2.1.1 hW.1.2.2.1 h6]
        show BX5_equilibrium_39 a1 a2 (8 * mPool (vv σ) P) x_FU 8 0 σ = _
        rw [hm, show (8 : Int32) * nI m = nI (8 * m) from pk_mul 8 m]
        exact k1
      · rw [fX6_equilibrium, if_neg h0, hP5, if_pos (hg.mp hq)]
        exact k2
    · refine ⟨-2, σ, σ, ?_, ?_, Inv_mono n σ hI⟩
      · rw [fX5_equilibrium, if_neg h0, hP0, if_neg hq]
      · rw [fX6_equilibrium, if_neg h0, hP5, if_neg (fun q => hq (hg.mpr q))]
