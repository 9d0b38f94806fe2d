/-! ===== a device copied: save and restore ===== -/
def eqT (τ τ' : xD) : Prop := τ' 1 0 0 0 = τ 1 0 0 0 ∧ (∀ K c, 2 ≤ K → K ≤ 9 → c < 128 → τ' K 0 0 c = τ K 0 0 c) ∧ (∀ p r k, p < 6 → r < 3 → 1 ≤ k → k ≤ 15 → τ' 16 p r k = τ 16 p r k) ∧ (∀ p k, p < 6 → 2 ≤ k → k ≤ 11 → τ' 13 p 0 k = τ 13 p 0 k) ∧ (∀ p c, p < 6 → c < 10 → τ' 15 p 0 c = τ 15 p 0 c) ∧ (∀ k, (2 ≤ k ∧ k ≤ 7) ∨ k = 9 → τ' 0 0 0 k = τ 0 0 0 k) ∧ ∀ k, k < 4 → τ' 11 0 0 k = τ 11 0 0 k
theorem R1_eq {τ τ' : xD} {v v' : xV} {b C P : Nat} (h : R1 τ v b C P) (ht : eqT τ τ') (hv : ∀ i, i < 6464 → v' i = v i) : R1 τ' v' b C P := by
  obtain ⟨hG, hQ, hPp, hLs, hDd, hRf, wP, wQ, wT, wN, hM, hX, hb⟩ := h
  obtain ⟨t1, tM, tQ, tP, tL, tD, tR⟩ := ht
  have h6 := hG.2.2.2.2.2.1
  have h8 := hG.2.2.1
  have nq : ∀ q f, q < 18 → f < 16 → v' (iq q f) = v (iq q f) := fun q f g1 g2 => hv _ (by show 160 + 16 * q + f < 6464; omega)
  have nP : ∀ p f, p < 6 → f < 24 → v' (ip p f) = v (ip p f) := fun p f g1 g2 => hv _ (by show 16 + 24 * p + f < 6464; omega)
  have hN : eqN v v' := ⟨hv 4 (by omega), fun i _ h2 => hv i h2, fun q g => nq q 12 g (by omega)⟩
  have hx : eqXb τ τ' := ⟨tM, fun p r g1 g2 => ⟨tQ p r 13 g1 g2 (by omega) (by omega), tQ p r 14 g1 g2 (by omega) (by omega)⟩⟩
  refine ⟨wfG_c (hv 0 (by omega)) (hv 1 (by omega)) (hv 2 (by omega)) (hv 5 (by omega)) hG, ?_, ?_, ?_, ?_, ?_, wfP_c (fun p f g1 g2 => nP p f g1 (by omega)) wP, wfQ_c (fun q f g1 g2 => nq q f g1 (by omega)) wQ, wfT_c (fun q g => ⟨nq q 12 g (by omega), nq q 5 g (by omega)⟩) (fun p g => ⟨nP p 6 g (by omega), nP p 7 g (by omega)⟩) wT, wfN_c (fun p f _ g1 g2 => nP p f g1 (by omega)) (fun p r f _ g1 g2 g3 g4 => nq _ f (by omega) (by omega)) wN, MW_of (MX_c hN h8 (MX_of hM)) (mwA_c hN (fun q g => by rw [nq q 6 g (by omega), nq q 7 g (by omega), nq q 8 g (by omega)]) (MX_of hM) hM.2.2.2.2.2.2.2.2.2), RX_c hN h8 hx (MX_of hM) hX, ?_⟩
  · intro p r k f g1 g2 g3
    have := qm_lt g3
    rw [tQ p r k g1 g2 (by omega) (by omega), nq _ _ (by omega) (by omega)]
    exact hQ p r k f g1 g2 g3
  · intro p k f g1 g3
    have := pm_lt g3
    rw [tP p k g1 (by omega) (by omega), nP _ _ g1 (by omega)]
    exact hPp p k f g1 g3
  · intro p c g1 g2
    rw [tL p c g1 g2, nP _ _ g1 (by omega)]
    exact hLs p c g1 g2
  · unfold cfD at *
    rw [t1, tD 2 (by omega), tD 3 (by omega), tD 4 (by omega), tD 5 (by omega), tD 9 (by omega), hv 0 (by omega), hv 1 (by omega), hv 2 (by omega), hv 3 (by omega), hv 4 (by omega), hv 5 (by omega)]
    exact hDd
  · intro g5 k hk
    rw [hv 5 (by omega)] at g5
    rw [tR _ (by omega), hv _ (by omega)]
    exact hRf g5 k hk
  · rw [hv 4 (by omega), hv 10 (by omega)]
    exact hb
theorem RW_eq {τ τ' : xD} {v v' : xV} {b C P : Nat} (h : RW τ v b C P) (ht : eqT τ τ') (hp : ∀ p r, p < 6 → r < 3 → τ' 16 p r 0 = nI r) (hv : ∀ i, i < 6464 → v' i = v i) : RW τ' v' b C P := by
  have h6 := h.1.1.2.2.2.2.2.1
  have nq : ∀ q f, q < 18 → f < 16 → v' (iq q f) = v (iq q f) := fun q f g1 g2 => hv _ (by show 160 + 16 * q + f < 6464; omega)
  have nP : ∀ p f, p < 6 → f < 24 → v' (ip p f) = v (ip p f) := fun p f g1 g2 => hv _ (by show 16 + 24 * p + f < 6464; omega)
  exact ⟨R1_eq h.1 ht hv, gr_c h6 (ht.2.2.2.2.2.1 6 (by omega)) (ht.2.2.2.2.2.1 7 (by omega)) (fun p g => ⟨nP p 2 g (by omega), nP p 3 g (by omega)⟩) (hv 10 (by omega)) h.2.1, wfS_c h6 (hv 0 (by omega)) (fun p f g1 g2 => nP p f g1 (by omega)) (fun q f g1 g2 g3 => nq q f g1 (by omega)) h.2.2.1, hp⟩
def drow (τ : xD) (K p r : Nat) (f : Nat → Int32) : xD := va_up τ K (va_up (τ K) p (va_up (τ K p) r f))
theorem row_own (σ : xS) (τ : xD) (d K p r : Nat) (f : Nat → Int32) : x_row (va_up σ d τ) d K p r f = va_up σ d (drow τ K p r f) := by
  unfold x_row drow
  rw [up_s, up_up]
theorem drow_rd (τ : xD) (K p r : Nat) (f : Nat → Int32) (K' p' r' k' : Nat) : drow τ K p r f K' p' r' k' = if K' = K ∧ p' = p ∧ r' = r then f k' else τ K' p' r' k' := by
  unfold drow va_up
  by_cases h2 : K' = K
  · subst h2
    by_cases h3 : p' = p
    · subst h3
      by_cases h4 : r' = r <;> simp [h4]
    · simp [h3]
  · simp [h2]
theorem dr_n {τ : xD} {K p r : Nat} {f : Nat → Int32} {K' p' r' k' : Nat} (h : K' ≠ K ∨ p' ≠ p ∨ r' ≠ r) : drow τ K p r f K' p' r' k' = τ K' p' r' k' := by rw [drow_rd, if_neg (fun q => by omega)]
theorem cpy_lt {f g : Nat → Int32} {n j : Nat} (h : j < n) : va_cpy f g 0 0 n j = f j := by
  rw [pk_cpy_in (by omega) (by omega)]
  congr 1
  omega
theorem cp_queue {σ : xS} {d0 d1 p r : Nat} (hd : d1 ≠ d0) (h7 : x_z (σ d1 16 p r 7) = true) (h8 : x_z (σ d1 16 p r 8) = true) (τ : xD) : ∃ τ', fX3_copyFrom d0 p r d1 p r (va_up σ d0 τ) = some ((), va_up σ d0 τ') ∧ (∀ k, 1 ≤ k → k ≤ 15 → τ' 16 p r k = σ d1 16 p r k) ∧ ∀ K p' r' k', (K ≠ 16 ∨ p' ≠ p ∨ r' ≠ r ∨ k' = 0) → τ' K p' r' k' = τ K p' r' k' := by
  have rdd : ∀ τ' : xD, va_up σ d0 τ' d1 = σ d1 := fun τ' => up_n _ _ hd
  rw [fX3_copyFrom]
  simp only [l_v, set_own, rdd, h7, h8, g_t]
  refine ⟨_, rfl, fun k g1 g2 => ?_, fun K p' r' k' g => ?_⟩
  · have : k = 1 ∨ k = 2 ∨ k = 3 ∨ k = 4 ∨ k = 5 ∨ k = 6 ∨ k = 7 ∨ k = 8 ∨ k = 9 ∨ k = 10 ∨ k = 11 ∨ k = 12 ∨ k = 13 ∨ k = 14 ∨ k = 15 := by omega
    rcases this with rfl | rfl | rfl | rfl | rfl | rfl | rfl | rfl | rfl | rfl | rfl | rfl | rfl | rfl | rfl <;> simp [dset_rd]
  · rw [ds_n (by omega), ds_n (by omega), ds_n (by omega), ds_n (by omega), ds_n (by omega), ds_n (by omega), ds_n (by omega), ds_n (by omega), ds_n (by omega), ds_n (by omega), ds_n (by omega), ds_n (by omega), ds_n (by omega), ds_n (by omega), ds_n (by omega)]
theorem cp_port {σ : xS} {d0 d1 p : Nat} (hd : d1 ≠ d0) (hz : ∀ r, r < 3 → x_z (σ d1 16 p r 7) = true ∧ x_z (σ d1 16 p r 8) = true) (h5 : x_z (σ d1 13 p 0 5) = true) (h9 : x_z (σ d1 13 p 0 9) = true) : ∀ (n i : Nat) (τ : xD), i ≤ 3 → 3 < n + i → (∀ r k, r < i → 1 ≤ k → k ≤ 15 → τ 16 p r k = σ d1 16 p r k) → ∃ τ', BX2_copyFrom_2 d0 p d1 p n (nI i) (va_up σ d0 τ) = some ((), va_up σ d0 τ') ∧ (∀ r k, r < 3 → 1 ≤ k → k ≤ 15 → τ' 16 p r k = σ d1 16 p r k) ∧ (∀ k, 2 ≤ k → k ≤ 11 → τ' 13 p 0 k = σ d1 13 p 0 k) ∧ (∀ c, c < 10 → τ' 15 p 0 c = σ d1 15 p 0 c) ∧ ∀ K p' r' k', ((K ≠ 16 ∧ K ≠ 13 ∧ K ≠ 15) ∨ p' ≠ p ∨ (K = 16 ∧ k' = 0)) → τ' K p' r' k' = τ K p' r' k' := by
  have rdd : ∀ τ' : xD, va_up σ d0 τ' d1 = σ d1 := fun τ' => up_n _ _ hd
  intro n
  induction n with
  | zero => intro i τ g1 g2; omega
  | succ n ih =>
    intro i τ g1 g2 g3
    rw [BX2_copyFrom_2]
    by_cases e : i < 3
    · rw [if_neg (show ¬ (3 : Int32) ≤ nI i from nI_ge (b := 3) e (by omega)), in_nI e (by omega), g_t, g_t, nI_clamp (by omega)]
      obtain ⟨τ1, k1, k2, k3⟩ := cp_queue hd (hz i e).1 (hz i e).2 τ
      rw [k1, b_s, l_v, nI_1]
      obtain ⟨τ', m1, m2, m3, m4, m5⟩ := ih (i + 1) τ1 (by omega) (by omega) (fun r k a1 a2 a3 => by
        by_cases q : r = i
        · subst q; exact k2 k a2 a3
        · rw [k3 _ _ _ _ (by omega)]; exact g3 r k (by omega) a2 a3)
      exact ⟨τ', m1, m2, m3, m4, fun K p' r' k' a => (m5 K p' r' k' a).trans (k3 _ _ _ _ (by omega))⟩
    · have ei : i = 3 := by omega
      subst ei
      rw [if_pos (show (3 : Int32) ≤ nI 3 from nI_le (a := 3) (by omega) (by omega))]
      simp only [l_v, row_own, set_own, rdd, h5, h9, g_t, up_s]
      refine ⟨_, rfl, fun r k a1 a2 a3 => ?_, fun k a1 a2 => ?_, fun c a1 => ?_, fun K p' r' k' a => ?_⟩
      · rw [ds_n (by omega), ds_n (by omega), ds_n (by omega), ds_n (by omega), ds_n (by omega), ds_n (by omega), ds_n (by omega), ds_n (by omega), ds_n (by omega), ds_n (by omega), dr_n (by omega)]
        exact g3 r k a1 a2 a3
      · have : k = 2 ∨ k = 3 ∨ k = 4 ∨ k = 5 ∨ k = 6 ∨ k = 7 ∨ k = 8 ∨ k = 9 ∨ k = 10 ∨ k = 11 := by omega
        rcases this with rfl | rfl | rfl | rfl | rfl | rfl | rfl | rfl | rfl | rfl <;> simp [dset_rd]
      · rw [ds_n (by omega), ds_n (by omega), ds_n (by omega), ds_n (by omega), ds_n (by omega), ds_n (by omega), ds_n (by omega), ds_n (by omega), ds_n (by omega), ds_n (by omega), drow_rd, if_pos ⟨rfl, rfl, rfl⟩, cpy_lt a1]
      · rw [ds_n (by omega), ds_n (by omega), ds_n (by omega), ds_n (by omega), ds_n (by omega), ds_n (by omega), ds_n (by omega), ds_n (by omega), ds_n (by omega), ds_n (by omega), dr_n (by omega)]
theorem cp_mem {σ : xS} {d0 d1 : Nat} (hd : d1 ≠ d0) (hz : ∀ c, c < 128 → x_z (σ d1 2 0 0 c) = true) : ∀ (n i : Nat) (τ : xD), i ≤ 128 → 128 < n + i → (∀ c, c < i → τ 2 0 0 c = σ d1 2 0 0 c) → ∃ τ', BX1_copyFrom_10 d0 d1 n (nI i) (va_up σ d0 τ) = some ((), va_up σ d0 τ') ∧ (∀ K c, 2 ≤ K → K ≤ 9 → c < 128 → τ' K 0 0 c = σ d1 K 0 0 c) ∧ ∀ K p' r' k', (K < 2 ∨ 9 < K) → τ' K p' r' k' = τ K p' r' k' := by
  have rdd : ∀ τ' : xD, va_up σ d0 τ' d1 = σ d1 := fun τ' => up_n _ _ hd
  intro n
  induction n with
  | zero => intro i τ g1 g2; omega
  | succ n ih =>
    intro i τ g1 g2 g3
    rw [BX1_copyFrom_10]
    by_cases e : i < 128
    · rw [if_neg (show ¬ (128 : Int32) ≤ nI i from nI_ge (b := 128) e (by omega)), in_nI e (by omega), g_t, g_t, nI_clamp (by omega), rdd, hz i e, g_t, set_own, l_v, l_v, nI_1]
      obtain ⟨τ', m1, m2, m3⟩ := ih (i + 1) (dset τ 2 0 0 i (σ d1 2 0 0 i)) (by omega) (by omega) (fun c a1 => by
        by_cases q : c = i
        · subst q; exact ds_s
        · rw [ds_n (by omega)]; exact g3 c (by omega))
      exact ⟨τ', m1, m2, fun K p' r' k' a => (m3 K p' r' k' a).trans (ds_n (by omega))⟩
    · have ei : i = 128 := by omega
      subst ei
      rw [if_pos (show (128 : Int32) ≤ nI 128 from nI_le (a := 128) (by omega) (by omega))]
      simp only [l_v, row_own, rdd, up_s]
      refine ⟨_, rfl, fun K c a1 a2 a3 => ?_, fun K p' r' k' a => ?_⟩
      · have : K = 2 ∨ K = 3 ∨ K = 4 ∨ K = 5 ∨ K = 6 ∨ K = 7 ∨ K = 8 ∨ K = 9 := by omega
        rcases this with rfl | rfl | rfl | rfl | rfl | rfl | rfl | rfl
        · simp [drow_rd]; exact g3 c a3
        all_goals simp [drow_rd, cpy_lt a3]
      · rw [dr_n (by omega), dr_n (by omega), dr_n (by omega), dr_n (by omega), dr_n (by omega), dr_n (by omega), dr_n (by omega)]
/-- the whole device -/
theorem cp_dev_loop {σ : xS} {d0 d1 : Nat} (hd : d1 ≠ d0) (hz : ∀ p r, p < 6 → r < 3 → x_z (σ d1 16 p r 7) = true ∧ x_z (σ d1 16 p r 8) = true) (hq : ∀ p, p < 6 → x_z (σ d1 13 p 0 5) = true ∧ x_z (σ d1 13 p 0 9) = true) (h3 : x_z (σ d1 0 0 0 3) = true) (h9 : x_z (σ d1 0 0 0 9) = true) : ∀ (n i : Nat) (τ : xD), i ≤ 6 → 6 < n + i → (∀ p, p < i → (∀ r k, r < 3 → 1 ≤ k → k ≤ 15 → τ 16 p r k = σ d1 16 p r k) ∧ (∀ k, 2 ≤ k → k ≤ 11 → τ 13 p 0 k = σ d1 13 p 0 k) ∧ (∀ c, c < 10 → τ 15 p 0 c = σ d1 15 p 0 c)) → (∀ K c, 1 ≤ K → K ≤ 9 → c < 128 → (K = 1 → c = 0) → τ K 0 0 c = σ d1 K 0 0 c) → ∃ τ', BX0_copyFrom_13 d0 d1 n (nI i) (va_up σ d0 τ) = some ((), va_up σ d0 τ') ∧ eqT (σ d1) τ' ∧ ∀ p r, τ' 16 p r 0 = τ 16 p r 0 := by
  have rdd : ∀ τ' : xD, va_up σ d0 τ' d1 = σ d1 := fun τ' => up_n _ _ hd
  intro n
  induction n with
  | zero => intro i τ g1 g2; omega
  | succ n ih =>
    intro i τ g1 g2 g3 g4
    rw [BX0_copyFrom_13]
    by_cases e : i < 6
    · rw [if_neg (show ¬ (6 : Int32) ≤ nI i from nI_ge (b := 6) e (by omega)), in_nI e (by omega), g_t, g_t, nI_clamp (by omega), fX2_copyFrom]
      obtain ⟨τ1, k1, k2, k3, k4, k5⟩ := cp_port hd (fun r a => hz i r e a) (hq i e).1 (hq i e).2 x_FU 0 τ (by omega) (by unfold x_FU; omega) (fun r k a => by omega)
      rw [show BX2_copyFrom_2 d0 i d1 i x_FU 0 (va_up σ d0 τ) = some ((), va_up σ d0 τ1) from k1, b_s, l_v, nI_1]
      obtain ⟨τ', m1, m2, m3⟩ := ih (i + 1) τ1 (by omega) (by omega) (fun p a1 => by
        by_cases q : p = i
        · subst q; exact ⟨k2, k3, k4⟩
        · obtain ⟨b1, b2, b3⟩ := g3 p (by omega)
          exact ⟨fun r k c1 c2 c3 => (k5 _ _ _ _ (by omega)).trans (b1 r k c1 c2 c3), fun k c1 c2 => (k5 _ _ _ _ (by omega)).trans (b2 k c1 c2), fun c c1 => (k5 _ _ _ _ (by omega)).trans (b3 c c1)⟩) (fun K c c1 c2 c3 c4 => (k5 _ _ _ _ (by omega)).trans (g4 K c c1 c2 c3 c4))
      exact ⟨τ', m1, m2, fun p r => (m3 p r).trans (k5 _ _ _ _ (by omega))⟩
    · have ei : i = 6 := by omega
      subst ei
      rw [if_pos (show (6 : Int32) ≤ nI 6 from nI_le (a := 6) (by omega) (by omega))]
      simp only [l_v, row_own, set_own, rdd, h3, h9, g_t, up_s]
      refine ⟨_, rfl, ⟨?_, fun K c a1 a2 a3 => ?_, fun p r k a1 a2 a3 a4 => ?_, fun p k a1 a2 a3 => ?_, fun p c a1 a2 => ?_, fun k a => ?_, fun k a => ?_⟩, fun p r => ?_⟩
      · rw [ds_n (by omega), dr_n (by omega), ds_n (by omega), ds_n (by omega), ds_n (by omega), ds_n (by omega), ds_n (by omega), ds_n (by omega)]
        exact g4 1 0 (by omega) (by omega) (by omega) (fun _ => rfl)
      · rw [ds_n (by omega), dr_n (by omega), ds_n (by omega), ds_n (by omega), ds_n (by omega), ds_n (by omega), ds_n (by omega), ds_n (by omega)]
        exact g4 K c (by omega) a2 a3 (by omega)
      · rw [ds_n (by omega), dr_n (by omega), ds_n (by omega), ds_n (by omega), ds_n (by omega), ds_n (by omega), ds_n (by omega), ds_n (by omega)]
        exact (g3 p a1).1 r k a2 a3 a4
      · rw [ds_n (by omega), dr_n (by omega), ds_n (by omega), ds_n (by omega), ds_n (by omega), ds_n (by omega), ds_n (by omega), ds_n (by omega)]
        exact (g3 p a1).2.1 k a2 a3
      · rw [ds_n (by omega), dr_n (by omega), ds_n (by omega), ds_n (by omega), ds_n (by omega), ds_n (by omega), ds_n (by omega), ds_n (by omega)]
        exact (g3 p a1).2.2 c a2
      · have : k = 2 ∨ k = 3 ∨ k = 4 ∨ k = 5 ∨ k = 6 ∨ k = 7 ∨ k = 9 := by omega
        rcases this with rfl | rfl | rfl | rfl | rfl | rfl | rfl <;> simp [dset_rd, drow_rd]
      · rw [ds_n (by omega), drow_rd, if_pos ⟨rfl, rfl, rfl⟩, cpy_lt a]
      · rw [ds_n (by omega), dr_n (by omega), ds_n (by omega), ds_n (by omega), ds_n (by omega), ds_n (by omega), ds_n (by omega), ds_n (by omega)]
theorem cp_dev {σ : xS} {d0 d1 b C P : Nat} {v : xV} (hd : d1 ≠ d0) (hW : RW (σ d1) v b C P) (τ : xD) : ∃ τ', fX0_copyFrom d0 d1 (va_up σ d0 τ) = some ((), va_up σ d0 τ') ∧ eqT (σ d1) τ' ∧ ∀ p r, τ' 16 p r 0 = τ 16 p r 0 := by
  have rdd : ∀ τ' : xD, va_up σ d0 τ' d1 = σ d1 := fun τ' => up_n _ _ hd
  obtain ⟨hR, -⟩ := hW
  obtain ⟨hG, hQ, hPp, hLs, hDd, hRf, wP, wQ, wT, wN, hM, hX, hb⟩ := hR
  obtain ⟨τ1, k1, k2, k3⟩ := cp_mem hd hX.2.2.2.2 x_FU 0 (dset τ 1 0 0 0 (σ d1 1 0 0 0)) (by omega) (by unfold x_FU; omega) (fun c a => by omega)
  obtain ⟨τ', m1, m2, m3⟩ := cp_dev_loop (σ := σ) hd (fun p r g1 g2 => ⟨by rw [hQ p r 7 9 g1 g2 rfl]; exact (wQ _ (by omega)).2.2.2.2.2.2.2.2.2.1, by rw [hQ p r 8 10 g1 g2 rfl]; exact (wQ _ (by omega)).2.2.2.2.2.2.2.2.2.2⟩) (fun p g1 => ⟨by rw [hPp p 5 8 g1 rfl]; exact (wP p g1).2.2.2.2.2.2.2, by rw [hPp p 9 7 g1 rfl]; exact (wP p g1).2.2.2.2.2.2.1⟩) (by rw [hDd.2.2.1]; exact hG.2.2.2.2.2.2.1) (by rw [hDd.2.2.2.2.2]; exact hG.2.2.2.2.2.2.2) x_FU 0 τ1 (by omega) (by unfold x_FU; omega) (fun p a => by omega) (fun K c c1 c2 c3 c4 => by
    by_cases q : K = 1
    · subst q
      rw [c4 rfl, k3 _ _ _ _ (by omega), ds_s]
    · exact k2 K c (by omega) c2 c3)
  refine ⟨τ', ?_, m2, fun p r => ?_⟩
  · rw [fX0_copyFrom, fX1_copyFrom, set_own, rdd, l_v, show BX1_copyFrom_10 d0 d1 x_FU 0 (va_up σ d0 (dset τ 1 0 0 0 (σ d1 1 0 0 0))) = some ((), va_up σ d0 τ1) from k1, b_s]
    exact m1
  · rw [m3, k3 _ _ _ _ (by omega), ds_n (by omega)]
