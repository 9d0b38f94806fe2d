/-! ===== sums, free cells, getters ===== -/
theorem q3 (p r : Nat) : (3 : Int32) * nI p + nI r = nI (3 * p + r) := by
  show nI 3 * nI p + nI r = _
  rw [pk_mul, nI_add]
theorem q30 (p : Nat) : (3 : Int32) * nI p = nI (3 * p) := pk_mul 3 p
theorem ix3 (x : Int32) : (∃ r, r < 3 ∧ x = nI r) ∨ (x < 0 ∨ 3 ≤ x) := by
  rcases pk_ix x (n := 3) (by omega) with h | h | ⟨j, h1, h2⟩
  · exact Or.inr (Or.inl h)
  · exact Or.inr (Or.inr h)
  · exact Or.inl ⟨j, h1, h2⟩
theorem m_rd {p f : Nat} {σ : xS} {β : Type} (k : Int32 → Option β) (h : p + f < 6464) : x_g (x_in (nI (p + f)) 6464) (k (σ 5 31 0 0 (nI (p + f)).toNatClampNeg)) = k (σ 5 31 0 0 (p + f)) := by
  rw [in_nI h (by omega), g_t, nI_clamp (by omega)]
theorem m_ofPort_t {p P f : Nat} {σ : xS} (hP : σ 5 31 0 0 1 = nI P) (h6 : P ≤ 6) (hp : p < P) (hf : f < 24) (y : Int32) (hy : y = nI f) : fX6_ofPort (nI p) y σ = some (σ 5 31 0 0 (ip p f), σ) := by
  rw [hy, fX6_ofPort, m_isPort_t hP h6 hp, b_s, if_neg (by decide), m_portN, b_s, in_nI (by omega) (by omega), g_t, nI_clamp (by omega)]
theorem m_ofPort_f {x y : Int32} {P : Nat} {σ : xS} (hP : σ 5 31 0 0 1 = nI P) (h1 : 1 ≤ P) (h6 : P ≤ 6) (hx : x < 0 ∨ nI P ≤ x) : fX6_ofPort x y σ = some (-1, σ) := by
  rw [fX6_ofPort, m_isPort_f hP h1 h6 hx, b_s, if_pos rfl]
theorem m_ofQueue_t {p r P f : Nat} {σ : xS} (hP : σ 5 31 0 0 1 = nI P) (h6 : P ≤ 6) (hp : p < P) (hr : r < 3) (hf : f < 16) (y : Int32) (hy : y = nI f) : fX6_ofQueue (nI p) (nI r) y σ = some (σ 5 31 0 0 (iq (3 * p + r) f), σ) := by
  rw [hy, fX6_ofQueue, m_isQueue_t hP h6 hp hr, b_s, if_neg (by decide), q3, m_queueN, b_s, in_nI (by omega) (by omega), g_t, nI_clamp (by omega)]
theorem m_ofQueue_p {x y z : Int32} {P : Nat} {σ : xS} (hP : σ 5 31 0 0 1 = nI P) (h1 : 1 ≤ P) (h6 : P ≤ 6) (hx : x < 0 ∨ nI P ≤ x) : fX6_ofQueue x y z σ = some (-1, σ) := by
  rw [fX6_ofQueue, m_isQueue_p hP h1 h6 hx, b_s, if_pos rfl]
theorem m_ofQueue_r {y z : Int32} {p P : Nat} {σ : xS} (hP : σ 5 31 0 0 1 = nI P) (h6 : P ≤ 6) (hp : p < P) (hy : y < 0 ∨ 3 ≤ y) : fX6_ofQueue (nI p) y z σ = some (-1, σ) := by
  rw [fX6_ofQueue, m_isQueue_r hP h6 hp hy, b_s, if_pos rfl]
theorem m_sum {p : Nat} {σ : xS} (hp : p < 6) (f : Nat) (hf : f < 16) (y : Int32) (hy : y = nI f) : fX6_sum (nI p) y σ = some (s3 (vv σ) p f, σ) := by
  subst hy
  have e1 : (3 : Int32) * nI p + 1 = nI (3 * p + 1) := q3 p 1
  have e2 : (3 : Int32) * nI p + 2 = nI (3 * p + 2) := q3 p 2
  rw [fX6_sum, e1, e2, q30, m_queueN, b_s, in_nI (by omega) (by omega), g_t, m_queueN, b_s, in_nI (by omega) (by omega), g_t, m_queueN, b_s, in_nI (by omega) (by omega), g_t, nI_clamp (by omega), nI_clamp (by omega), nI_clamp (by omega)]
theorem m_guar {p : Nat} {σ : xS} (hp : p < 6) : fX6_guarantee (nI p) σ = some (vv σ (ip p 0) + vv σ (ip p 2), σ) := by
  rw [fX6_guarantee, m_port_0, b_s, in_nI (by omega) (by omega), g_t, m_port_2, b_s, in_nI (by omega) (by omega), g_t, nI_clamp (by omega), nI_clamp (by omega)]
theorem m_freeOf {p : Nat} {σ : xS} (hp : p < 6) : fX6_freeOf (nI p) σ = some (vv σ (ip p 0) + vv σ (ip p 2) - s3 (vv σ) p 6, σ) := by
  rw [fX6_freeOf, m_guar hp, b_s, m_sum hp 6 (by omega) 6 rfl, b_s]
theorem m_pool_loop {σ : xS} {P : Nat} (hP : σ 5 31 0 0 1 = nI P) (h6 : P ≤ 6) : ∀ (n i : Nat) (a : Int32), i ≤ P → P < n + i → BX6_pool_9 n (a - sm32 (fun p => vv σ (ip p 0) + vv σ (ip p 2) + vv σ (ip p 1)) i) (nI i) σ = some (a - sm32 (fun p => vv σ (ip p 0) + vv σ (ip p 2) + vv σ (ip p 1)) P, σ) := by
  intro n
  induction n with
  | zero => intro i a hi hn; omega
  | succ n ih =>
    intro i a hi hn
    rw [BX6_pool_9, hP]
    by_cases h : i < P
    · rw [if_neg (nI_ge h (by omega)), m_guar (by omega), b_s, m_port_1, b_s, in_nI (by omega) (by omega), g_t, nI_clamp (by omega), l_v, l_v]
      have e1 : nI i + 1 = nI (i + 1) := nI_1 i
      have e2 : a - sm32 (fun p => vv σ (ip p 0) + vv σ (ip p 2) + vv σ (ip p 1)) i - (vv σ (ip i 0) + vv σ (ip i 2) + σ 5 31 0 0 (16 + 24 * i + 1)) = a - sm32 (fun p => vv σ (ip p 0) + vv σ (ip p 2) + vv σ (ip p 1)) (i + 1) := by
        rw [sm32]
        grind
      rw [e1, e2]
      exact ih (i + 1) a (by omega) (by omega)
    · have : i = P := by omega
      subst this
      rw [if_pos (nI_le (Nat.le_refl _) (by omega))]
theorem m_pool {σ : xS} {P : Nat} (hP : σ 5 31 0 0 1 = nI P) (h6 : P ≤ 6) : fX6_pool σ = some (mPool (vv σ) P, σ) := by
  rw [fX6_pool, l_v]
  have h := m_pool_loop hP h6 x_FU 0 (σ 5 31 0 0 0) (by omega) (by unfold x_FU; omega)
  have e : σ 5 31 0 0 0 - sm32 (fun p => vv σ (ip p 0) + vv σ (ip p 2) + vv σ (ip p 1)) 0 = σ 5 31 0 0 0 := by rw [sm32]; grind
  rw [e] at h
  exact h
theorem sm32_3 (g : Nat → Int32) : ∀ P, sm32 g (3 * P) = sm32 (fun p => g (3 * p) + g (3 * p + 1) + g (3 * p + 2)) P
  | 0 => rfl
  | P + 1 => by
    show sm32 g (3 * P + 1 + 1 + 1) = _
    rw [sm32, sm32, sm32, sm32_3 g P]
    show _ = sm32 _ P + (g (3 * P) + g (3 * P + 1) + g (3 * P + 2))
    grind
theorem m_free_loop {σ : xS} {P : Nat} (hP : σ 5 31 0 0 1 = nI P) (h6 : P ≤ 6) : ∀ (n i : Nat) (a : Int32), i ≤ 3 * P → 3 * P < n + i → BX6_free_7 n (a - sm32 (fun q => vv σ (iq q 7)) i) (nI i) σ = some (a - sm32 (fun q => vv σ (iq q 7)) (3 * P), σ) := by
  intro n
  induction n with
  | zero => intro i a hi hn; omega
  | succ n ih =>
    intro i a hi hn
    rw [BX6_free_7, hP, q30]
    by_cases h : i < 3 * P
    · rw [if_neg (nI_ge h (by omega)), m_queue_7, b_s, in_nI (by omega) (by omega), g_t, nI_clamp (by omega), l_v, l_v]
      have e1 : nI i + 1 = nI (i + 1) := nI_1 i
      have e2 : a - sm32 (fun q => vv σ (iq q 7)) i - σ 5 31 0 0 (160 + 16 * i + 7) = a - sm32 (fun q => vv σ (iq q 7)) (i + 1) := by
        rw [sm32]
        grind
      rw [e1, e2]
      exact ih (i + 1) a (by omega) (by omega)
    · have : i = 3 * P := by omega
      subst this
      rw [if_pos (nI_le (Nat.le_refl _) (by omega))]
theorem m_free {σ : xS} {P : Nat} (hP : σ 5 31 0 0 1 = nI P) (h6 : P ≤ 6) : fX6_free σ = some (mFree (vv σ) P, σ) := by
  rw [fX6_free, m_pool hP h6, b_s]
  have h := m_free_loop hP h6 x_FU 0 (mPool (vv σ) P) (by omega) (by unfold x_FU; omega)
  have e : mPool (vv σ) P - sm32 (fun q => vv σ (iq q 7)) 0 = mPool (vv σ) P := by rw [sm32]; grind
  rw [e, sm32_3] at h
  exact h
theorem m_limit {σ : xS} {P q : Nat} (hP : σ 5 31 0 0 1 = nI P) (h6 : P ≤ 6) (hq : q < 18) : fX6_limit (nI q) σ = some (vv σ (iq q 0) * mFree (vv σ) P / 8, σ) := by
  rw [fX6_limit, m_queue_0, b_s, in_nI (by omega) (by omega), g_t, m_free hP h6, b_s, nI_clamp (by omega)]
-- the class's sums
def cPool (τ : xD) (P : Nat) : Int32 := τ 1 0 0 0 - sm32 (fun p => τ 13 p 0 2 + τ 13 p 0 4 + τ 13 p 0 3) P
def cFree (τ : xD) (P : Nat) : Int32 := cPool τ P - sm32 (fun p => τ 16 p 0 11 + τ 16 p 1 11 + τ 16 p 2 11) P
theorem c_pool_loop {σ : xS} {d P : Nat} (hP : σ d 0 0 0 2 = nI P) (h6 : P ≤ 6) : ∀ (n i : Nat) (a : Int32), i ≤ P → P < n + i → BX0_poolSize_10 d n (a - sm32 (fun p => σ d 13 p 0 2 + σ d 13 p 0 4 + σ d 13 p 0 3) i) (nI i) σ = some (a - sm32 (fun p => σ d 13 p 0 2 + σ d 13 p 0 4 + σ d 13 p 0 3) P, σ) := by
  intro n
  induction n with
  | zero => intro i a hi hn; omega
  | succ n ih =>
    intro i a hi hn
    rw [BX0_poolSize_10, hP]
    by_cases h : i < P
    · rw [if_neg (nI_ge h (by omega)), in_nI (by omega) (by omega), g_t, nI_clamp (by omega), l_v, l_v]
      have e1 : nI i + 1 = nI (i + 1) := nI_1 i
      have e2 : a - sm32 (fun p => σ d 13 p 0 2 + σ d 13 p 0 4 + σ d 13 p 0 3) i - (σ d 13 i 0 2 + σ d 13 i 0 4 + σ d 13 i 0 3) = a - sm32 (fun p => σ d 13 p 0 2 + σ d 13 p 0 4 + σ d 13 p 0 3) (i + 1) := by
        rw [sm32]
        grind
      rw [e1, e2]
      exact ih (i + 1) a (by omega) (by omega)
    · have : i = P := by omega
      subst this
      rw [if_pos (nI_le (Nat.le_refl _) (by omega))]
theorem c_pool {σ : xS} {d P : Nat} (hP : σ d 0 0 0 2 = nI P) (h6 : P ≤ 6) : fX0_poolSize d σ = some (cPool (σ d) P, σ) := by
  rw [fX0_poolSize, l_v]
  have h := c_pool_loop hP h6 x_FU 0 (σ d 1 0 0 0) (by omega) (by unfold x_FU; omega)
  have e : σ d 1 0 0 0 - sm32 (fun p => σ d 13 p 0 2 + σ d 13 p 0 4 + σ d 13 p 0 3) 0 = σ d 1 0 0 0 := by rw [sm32]; grind
  rw [e] at h
  exact h
theorem c_free_loop {σ : xS} {d P : Nat} (hP : σ d 0 0 0 2 = nI P) (h6 : P ≤ 6) : ∀ (n i : Nat) (a : Int32), i ≤ P → P < n + i → BX0_sharedLeft_7 d n (a - sm32 (fun p => σ d 16 p 0 11 + σ d 16 p 1 11 + σ d 16 p 2 11) i) (nI i) σ = some (a - sm32 (fun p => σ d 16 p 0 11 + σ d 16 p 1 11 + σ d 16 p 2 11) P, σ) := by
  intro n
  induction n with
  | zero => intro i a hi hn; omega
  | succ n ih =>
    intro i a hi hn
    rw [BX0_sharedLeft_7, hP]
    by_cases h : i < P
    · rw [if_neg (nI_ge h (by omega)), in_nI (by omega) (by omega), g_t, nI_clamp (by omega), fX2_sharedInUse, b_s, l_v, l_v]
      have e1 : nI i + 1 = nI (i + 1) := nI_1 i
      have e2 : a - sm32 (fun p => σ d 16 p 0 11 + σ d 16 p 1 11 + σ d 16 p 2 11) i - (σ d 16 i 0 11 + σ d 16 i 1 11 + σ d 16 i 2 11) = a - sm32 (fun p => σ d 16 p 0 11 + σ d 16 p 1 11 + σ d 16 p 2 11) (i + 1) := by
        rw [sm32]
        grind
      rw [e1, e2]
      exact ih (i + 1) a (by omega) (by omega)
    · have : i = P := by omega
      subst this
      rw [if_pos (nI_le (Nat.le_refl _) (by omega))]
theorem c_free {σ : xS} {d P : Nat} (hP : σ d 0 0 0 2 = nI P) (h6 : P ≤ 6) : fX0_sharedLeft d σ = some (cFree (σ d) P, σ) := by
  rw [fX0_sharedLeft, c_pool hP h6, b_s]
  have h := c_free_loop hP h6 x_FU 0 (cPool (σ d) P) (by omega) (by unfold x_FU; omega)
  have e : cPool (σ d) P - sm32 (fun p => σ d 16 p 0 11 + σ d 16 p 1 11 + σ d 16 p 2 11) 0 = cPool (σ d) P := by rw [sm32]; grind
  rw [e] at h
  exact h
theorem sm32_congr {f g : Nat → Int32} : ∀ {n : Nat}, (∀ k, k < n → f k = g k) → sm32 f n = sm32 g n
  | 0, _ => rfl
  | n + 1, h => by rw [sm32, sm32, sm32_congr (fun k hk => h k (by omega)), h n (by omega)]
theorem cPool_eq {τ : xD} {v : xV} {P : Nat} (h0 : τ 1 0 0 0 = v 0) (hP : cfP τ v) (h6 : P ≤ 6) : cPool τ P = mPool v P := by
  rw [cPool, mPool, h0]
  congr 1
  exact sm32_congr (fun p hp => by rw [hP p 2 0 (by omega) rfl, hP p 4 2 (by omega) rfl, hP p 3 1 (by omega) rfl])
theorem cFree_eq {τ : xD} {v : xV} {P : Nat} (h0 : τ 1 0 0 0 = v 0) (hP : cfP τ v) (hQ : cfQ τ v) (h6 : P ≤ 6) : cFree τ P = mFree v P := by
  rw [cFree, mFree, cPool_eq h0 hP h6]
  congr 1
  exact sm32_congr (fun p hp => by rw [hQ p 0 11 7 (by omega) (by omega) rfl, hQ p 1 11 7 (by omega) (by omega) rfl, hQ p 2 11 7 (by omega) (by omega) rfl]; rfl)
theorem c_asNum (x : Int32) (h : x_z x = true) (σ : xS) : fX5_asNumber x σ = some (x, σ) := by
  rw [fX5_asNumber]
  rcases x_z_or h with rfl | rfl <;> rfl
