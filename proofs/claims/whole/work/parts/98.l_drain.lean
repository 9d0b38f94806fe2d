/-! ===== drainTicks ===== -/
theorem Ti_nI {τ : xD} {v : xV} {b C P p : Nat} (h : RY τ v b C P p) (hp : p < 6) : Ti v p = nI (Tp v p) ∧ Tp v p ≤ 128 := by
  have hM := h.2.2.2.2.2.2.2.2.2.2.1
  have a := (Uq_nI hM (q := 3 * p) (by omega)).1
  have b := (Uq_nI hM (q := 3 * p + 1) (by omega)).1
  have c := (Uq_nI hM (q := 3 * p + 2) (by omega)).1
  have d := Nn_le h hp
  refine ⟨?_, by omega⟩
  rw [Tp, ← nI_add, ← nI_add, ← a, ← b, ← c]
  simp only [Ti, s3]
  grind
theorem c_dr {σ : xS} {τ τ1 : xD} {v1 : xV} {b C P p n i B m : Nat} (hW1 : RW τ1 v1 b C P) (hp : p < P) (hk : ∀ σ d, d < 4 → fX0_send d d p (va_up σ d τ) = some (nI m, va_up σ d τ1)) (hi : i ≤ B) (hB : B ≤ 1000) : BX5_drainTicks_69 1 p (nI B) (n + 1) (nI i) (va_up σ 1 τ) = if Nn v1 p = 0 then some (nI i, va_up σ 1 τ1) else BX5_drainTicks_69 1 p (nI B) n (nI (i + 1)) (va_up σ 1 τ1) := by
  rw [BX5_drainTicks_69, if_neg (nI_nlt hi (by omega)), hk σ 1 (by decide), b_s, c_idleN (RY_of hW1 p) hp, b_s]
  by_cases z : Nn v1 p = 0
  · rw [if_pos z, if_pos z, if_neg (by decide)]
  · rw [if_neg z, if_neg z, if_pos rfl, l_v, nI_1]
theorem m_dr {σ : xS} {τ τ1 : xD} {v v1 : xV} {b C P p n a m : Nat} (hW : RW τ v b C P) (hN : Nn v p ≠ 0) (hW1 : RW τ1 v1 b C P) (hp : p < P) (hk : ∀ σ, fX6_sends (nI p) (x_row σ 5 31 0 0 v) = some (nI m, x_row σ 5 31 0 0 v1)) (ha : a < 2 ^ 31) : BX6_drainTicks_16 (nI p) (n + 1) (nI a) (x_row σ 5 31 0 0 v) = if Nn v1 p = 0 then BX6_drainTicks_16 (nI p) n (nI (a + 1)) (x_row σ 5 31 0 0 v1) else if v1 (ip p 5) = 0 then BX6_drainTicks_16 (nI p) n (-1) (x_row σ 5 31 0 0 v1) else BX6_drainTicks_16 (nI p) n (nI (a + 1)) (x_row σ 5 31 0 0 v1) := by
  have h6 := hW.1.1.2.2.2.2.2.1
  rw [BX6_drainTicks_16, m_hasN (RY_of hW p) hp, if_neg hN, b_s, if_neg (by decide), if_neg (nI_nn ha), hk, b_s, m_hasN (RY_of hW1 p) hp, b_s]
  by_cases z : Nn v1 p = 0
  · rw [if_pos z, if_pos z, if_pos rfl, l_v, nI_1]
  · rw [if_neg z, if_neg z, if_neg (by decide), m_port_5, b_s, in_nI (by omega) (by omega), g_t, nI_clamp (by omega), row_rd]
    by_cases y : v1 (ip p 5) = 0
    · rw [if_pos y, if_pos y]
    · rw [if_neg y, if_neg y, l_v, nI_1]
theorem m_dr0 {σ : xS} {τ : xD} {u v : xV} {b C P p n a : Nat} (hW : RW τ v b C P) (hN : Nn v p = 0) (hp : p < P) (ha : a < 2 ^ 31) (hw : ∀ j, j < 6464 → σ 5 32 0 0 j = u j) (hu : ∀ j, 6464 ≤ j → v j = u j) : BX6_drainTicks_16 (nI p) (n + 1) (nI a) (x_row σ 5 31 0 0 v) = some (nI a, x_row σ 5 31 0 0 u) := by
  rw [BX6_drainTicks_16, m_hasN (RY_of hW p) hp, if_pos hN, b_s, if_pos rfl, m_brings hw hu, b_s, if_pos (nI_pos' ha)]
theorem m_dr1 {σ : xS} {τ : xD} {u v : xV} {b C P p n : Nat} (hW : RW τ v b C P) (hN : Nn v p ≠ 0) (hp : p < P) (hw : ∀ j, j < 6464 → σ 5 32 0 0 j = u j) (hu : ∀ j, 6464 ≤ j → v j = u j) : BX6_drainTicks_16 (nI p) (n + 1) (-1) (x_row σ 5 31 0 0 v) = some (-5, x_row σ 5 31 0 0 u) := by
  rw [BX6_drainTicks_16, m_hasN (RY_of hW p) hp, if_neg hN, b_s, if_neg (by decide), if_pos (by decide), m_brings hw hu, b_s, if_neg (by decide)]
theorem drain_loop {b C P p : Nat} {u : xV} (hp : p < P) : ∀ (m i n1 n2 : Nat) (τ : xD) (v : xV), RW τ v b C P → Nn v p ≠ 0 → ¬ v (ip p 5) = 0 → (∃ c, c ≤ 11 ∧ v (ip p 4) = nI c ∧ Tp v p + 11 ≤ m + c) → i + 1 + m ≤ 1000 → m + 1 < n1 → m + 2 < n2 → (∀ j, 6464 ≤ j → v j = u j) → ∃ k τ', (∀ σ, BX5_drainTicks_69 1 p (nI 1000) n1 (nI (i + 1)) (va_up σ 1 τ) = some (nI k, va_up σ 1 τ')) ∧ (∀ σ : xS, (∀ j, j < 6464 → σ 5 32 0 0 j = u j) → BX6_drainTicks_16 (nI p) n2 (nI i) (x_row σ 5 31 0 0 v) = some (nI k, x_row σ 5 31 0 0 u)) ∧ pri τ' := by
  intro m
  induction m with
  | zero =>
    intro i n1 n2 τ v hW hN hr hc hi h1 h2 hu
    obtain ⟨c, c1, c2, c3⟩ := hc
    have h6 := hW.1.1.2.2.2.2.2.1
    have := Nn_le (RY_of hW p) (show p < 6 by omega)
    omega
  | succ m ih =>
    intro i n1 n2 τ v hW hN hr hc hi h1 h2 hu
    have h6 := hW.1.1.2.2.2.2.2.1
    have hp6 : p < 6 := by omega
    obtain ⟨n1, rfl⟩ : ∃ n, n1 = n + 1 := ⟨n1 - 1, by omega⟩
    obtain ⟨n2, rfl⟩ : ∃ n, n2 = n + 1 := ⟨n2 - 1, by omega⟩
    obtain ⟨c, c1, c2, c3⟩ := hc
    obtain ⟨k, τ1, v1, k1, k2, k3, k4, k5, k6⟩ := S_send hW hp
    have hu1 : ∀ j, 6464 ≤ j → v1 j = u j := fun j hj => (k6 j hj).trans (hu j hj)
    by_cases z : Nn v1 p = 0
    · obtain ⟨n2, rfl⟩ : ∃ n, n2 = n + 1 := ⟨n2 - 1, by omega⟩
      refine ⟨i + 1, τ1, fun σ => ?_, fun σ hw => ?_, k3.2.2.2⟩
      · rw [c_dr k3 hp k1 (by omega) (by omega), if_pos z]
      · rw [m_dr hW hN k3 hp k2 (by omega), if_pos z, m_dr0 k3 z hp (by omega) hw hu1]
    · have k5' := (k5 hN).resolve_left z
      have w1 := (k3.1.2.2.2.2.2.2.1 p hp6).2.2.2.1
      obtain ⟨c', d1, d2, d3⟩ := rng_nI (lo := 0) (hi := 11) (by omega) (by omega) w1
      have w5 := (hW.1.2.2.2.2.2.2.1 p hp6).2.2.2.2.1
      obtain ⟨R, r1, r2, r3⟩ := rng_nI (lo := 0) (hi := 16) (by omega) (by omega) w5
      have hR : 1 ≤ R := by
        by_cases y : R = 0
        · exact absurd (by rw [r3, y]; rfl) hr
        · omega
      have t := Ti_nI (RY_of hW p) hp6
      have t1 := Ti_nI (RY_of k3 p) hp6
      rw [d3, t.1, c2, r3, t1.1, nI_add, nI_add, nI_add] at k5'
      have hsum := nIeq (by omega) (by omega) k5'
      obtain ⟨q, τ', g1, g2, g3⟩ := ih (i + 1) n1 n2 τ1 v1 k3 z (by rw [k4]; exact hr) ⟨c', d2, d3, by omega⟩ (by omega) (by omega) (by omega) hu1
      refine ⟨q, τ', fun σ => ?_, fun σ hw => ?_, g3⟩
      · rw [c_dr k3 hp k1 (by omega) (by omega), if_neg z, g1]
      · rw [m_dr hW hN k3 hp k2 (by omega), if_neg z, if_neg (by rw [k4]; exact hr), g2 σ hw]
theorem S_drain {τ : xD} {v : xV} {b C P p : Nat} (hW : RW τ v b C P) (hp : p < P) (hN : Nn v p ≠ 0) : ∃ r τ', (∀ σ, (if τ 13 p 0 6 = 0 then BX5_drainTicks_69 1 p 1 x_FU 1 (va_up σ 1 τ) else BX5_drainTicks_69 1 p 1000 x_FU 1 (va_up σ 1 τ)) = some (r, va_up σ 1 τ')) ∧ (∀ σ : xS, (∀ j, j < 6464 → σ 5 32 0 0 j = v j) → BX6_drainTicks_16 (nI p) x_FU 0 (x_row σ 5 31 0 0 v) = some (r, x_row σ 5 31 0 0 v)) ∧ pri τ' := by
  have h6 := hW.1.1.2.2.2.2.2.1
  have hp6 : p < 6 := by omega
  have e6 : τ 13 p 0 6 = v (ip p 5) := hW.1.2.2.1 p 6 5 hp6 rfl
  by_cases hr : v (ip p 5) = 0
  · obtain ⟨k, τ1, v1, k1, k2, k3, k4, k5, k6⟩ := S_send hW hp
    by_cases z : Nn v1 p = 0
    · refine ⟨nI 1, τ1, fun σ => ?_, fun σ hw => ?_, k3.2.2.2⟩
      · rw [e6, if_pos hr]
        show BX5_drainTicks_69 1 p (nI 1) (199999 + 1) (nI 1) (va_up σ 1 τ) = _
        rw [c_dr k3 hp k1 (by omega) (by omega), if_pos z]
      · show BX6_drainTicks_16 (nI p) (199999 + 1) (nI 0) (x_row σ 5 31 0 0 v) = _
        rw [m_dr hW hN k3 hp k2 (by omega), if_pos z]
        show BX6_drainTicks_16 (nI p) (199998 + 1) (nI 1) (x_row σ 5 31 0 0 v1) = _
        rw [m_dr0 k3 z hp (by omega) hw k6]
    · refine ⟨-5, τ1, fun σ => ?_, fun σ hw => ?_, k3.2.2.2⟩
      · rw [e6, if_pos hr]
        show BX5_drainTicks_69 1 p (nI 1) (199999 + 1) (nI 1) (va_up σ 1 τ) = _
        rw [c_dr k3 hp k1 (by omega) (by omega), if_neg z]
        show BX5_drainTicks_69 1 p (nI 1) (199998 + 1) (nI 2) (va_up σ 1 τ1) = _
        rw [BX5_drainTicks_69, if_pos (nI_lt (by omega) (by omega))]
      · show BX6_drainTicks_16 (nI p) (199999 + 1) (nI 0) (x_row σ 5 31 0 0 v) = _
        rw [m_dr hW hN k3 hp k2 (by omega), if_neg z, if_pos (by rw [k4]; exact hr)]
        show BX6_drainTicks_16 (nI p) (199998 + 1) (-1) (x_row σ 5 31 0 0 v1) = _
        rw [m_dr1 k3 z hp hw k6]
  · have w1 := (hW.1.2.2.2.2.2.2.1 p hp6).2.2.2.1
    obtain ⟨c, d1, d2, d3⟩ := rng_nI (lo := 0) (hi := 11) (by omega) (by omega) w1
    have t := Ti_nI (RY_of hW p) hp6
    obtain ⟨k, τ', g1, g2, g3⟩ := drain_loop (u := v) hp 150 0 x_FU x_FU τ v hW hN hr ⟨c, d2, d3, by omega⟩ (by omega) (by unfold x_FU; omega) (by unfold x_FU; omega) (fun _ _ => rfl)
    refine ⟨nI k, τ', fun σ => ?_, fun σ hw => ?_, g3⟩
    · rw [e6, if_neg hr]; exact g1 σ
    · exact g2 σ hw
/-- the trial device: a copy, played upon, and all else as it was -/
theorem Inv_trial {n : Nat} {σ σ' : xS} {τ' : xD} (hI : Inv n σ) (hn : n < 512) (hp : pri τ') (hf : fr (va_up σ 1 τ') σ') : Inv (n + 1) (x_row σ' 5 31 0 0 (vv σ)) := by
  obtain ⟨f1, f2, f3⟩ := hf
  obtain ⟨g1, g2, g3, g4⟩ := hI (by omega)
  have ed : ∀ d, d ≠ 1 → d ≠ 5 → x_row σ' 5 31 0 0 (vv σ) d = σ d := fun d h0 h5 => by rw [row_d _ _ h5, f1 d h5, up_n _ _ h0]
  have eK : ∀ K, K = 33 ∨ K = 34 ∨ K = 35 → x_row σ' 5 31 0 0 (vv σ) 5 K = σ 5 K := fun K hK => by rw [row_K _ _ (by omega), f2 K hK, up_n _ _ (by decide)]
  have e30 : x_row σ' 5 31 0 0 (vv σ) 5 30 0 0 5 = σ 5 30 0 0 5 := by rw [row_K _ _ (by decide), f3 5 (by decide), up_n _ _ (by decide)]
  refine Inv_g (τ' := σ 0) (v' := vv σ) hI hn (ed 0 (by decide) (by decide)) (row_rd _ _) (ed 2 (by decide) (by decide)) (ed 3 (by decide) (by decide)) (fun p r h1 h2 => by rw [row_d _ _ (by decide), f1 1 (by decide), up_s]; exact hp p r h1 h2) (by rw [ed 4 (by decide) (by decide)]) (eK 33 (by omega)) (eK 34 (by omega)) ?_ (RR_mono (by omega) g1) (fun p r h1 h2 => g4 0 p r (by decide) h1 h2)
  unfold tx
  rw [ed 4 (by decide) (by decide), e30, eK 35 (by omega)]
  exact g3
theorem S_copy {n : Nat} {σ : xS} {C P : Nat} (hI : Inv n σ) (hn : n < 512) (hW : RW (σ 0) (vv σ) (1000 * n) C P) : ∃ τ1, fX0_copyFrom 1 0 σ = some ((), va_up σ 1 τ1) ∧ RW τ1 (vv σ) (1000 * n) C P := by
  obtain ⟨τ1, c1, c2, c3⟩ := cp_dev (d0 := 1) (d1 := 0) (by decide) hW (σ 1)
  rw [up_id] at c1
  refine ⟨τ1, c1, RW_eq hW c2 (fun p r h1 h2 => ?_) (fun _ _ => rfl)⟩
  rw [c3]
  exact (hI (by omega)).2.2.2 1 p r (by decide) h1 h2
theorem xp45 : xP45 Inv := by
  intro n σ a1 hI hn
  obtain ⟨C, P, hW⟩ := RW_of hI hn
  obtain ⟨hP5, hP0, h1, h6⟩ := w_P hW
  rcases ix_cases a1 h6 with ⟨p, hp, rfl⟩ | ha
  · by_cases hN : Nn (vv σ) p = 0
    · obtain ⟨w, hw, hk⟩ := m_keeps σ (vv σ)
      rw [show x_row σ 5 31 0 0 (vv σ) = σ from row_id σ] at hk
      have ci := c_idleN (σ := σ) (d := 0) (RY_of hW p) hp
      rw [up_id, if_pos hN] at ci
      refine ⟨0, σ, x_row (x_row σ 5 32 0 0 w) 5 31 0 0 (vv σ), ?_, ?_, ?_⟩
      · rw [fX5_drainTicks, c_portAt_t hP0 h6 hp, b_s]
        show x_g (ok2 (0, p)) (x_b (fX2_isIdle 0 p σ) _) = _
        rw [ok2_t (by decide) (by omega), g_t, ci, b_s, if_neg (by decide)]
      · rw [fX6_drainTicks, m_isPort_t hP5 h6 hp, b_s, if_neg (by decide), hk, b_s]
        exact m_dr0 (n := 199999) (a := 0) hW hN hp (by omega) (fun j hj => by rw [rowK_rd]; exact hw j hj) (fun _ _ => rfl)
      · have := Inv_fr (τ' := σ 0) (v' := vv σ) (σ' := x_row σ 5 32 0 0 w) hI hn (by rw [up_id]; exact fr_32 σ w) (RW_RR (RW_mono (by omega) (by omega) hW)) hW.2.2.2
        exact this
    · obtain ⟨τ1, c1, c2⟩ := S_copy hI hn hW
      obtain ⟨r, τ', k1, k2, k3⟩ := S_drain c2 hp hN
      have ci := c_idleN (σ := σ) (d := 0) (RY_of hW p) hp
      rw [up_id, if_neg hN] at ci
      obtain ⟨w, hw, hk⟩ := m_keeps (va_up σ 1 τ') (vv σ)
      have er : x_row (va_up σ 1 τ') 5 31 0 0 (vv σ) = va_up σ 1 τ' := row_id (va_up σ 1 τ')
      rw [er] at hk
      refine ⟨r, va_up σ 1 τ', x_row (x_row (va_up σ 1 τ') 5 32 0 0 w) 5 31 0 0 (vv σ), ?_, ?_, Inv_trial hI hn k3 (fr_32 _ w)⟩
      · rw [fX5_drainTicks, c_portAt_t hP0 h6 hp, b_s]
        show x_g (ok2 (0, p)) (x_b (fX2_isIdle 0 p σ) _) = _
        rw [ok2_t (by decide) (by omega), g_t, ci, b_s, if_pos rfl, c1, b_s, c_portAt_t (t_P c2.1 σ 1) h6 hp, b_s]
        show x_g (ok2 (1, p)) (if (va_up σ 1 τ1 1 13 p 0 6) = 0 then (BX5_drainTicks_69 1 p 1 x_FU 1 (va_up σ 1 τ1)) else (BX5_drainTicks_69 1 p 1000 x_FU 1 (va_up σ 1 τ1))) = _
        rw [ok2_t (by decide) (by omega), g_t, up_s]
        exact k1 σ
      · have hP5' : (va_up σ 1 τ') 5 31 0 0 1 = nI P := by rw [up_n _ _ (by decide)]; exact hP5
        rw [fX6_drainTicks, m_isPort_t hP5' h6 hp, b_s, if_neg (by decide), hk, b_s]
        exact k2 _ (fun j hj => by rw [rowK_rd]; exact hw j hj)
  · refine ⟨-1, σ, σ, ?_, ?_, Inv_mono n σ hI⟩
    · rw [fX5_drainTicks, c_portAt_f hP0 ha, b_s]
    · rw [fX6_drainTicks, m_isPort_f hP5 h1 h6 ha, b_s, if_pos rfl]
