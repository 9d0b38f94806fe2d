/-! ===== a port sends ===== -/
def SR (τ τ' : xD) (v v' : xV) (p m : Nat) : Prop := τ' 13 p 0 7 = v' (ip p 4) ∧ rg (v' (ip p 4)) 0 11 ∧ τ' 13 p 0 11 = τ 13 p 0 11 ∧ v' (ip p 9) = v (ip p 9) + nI m ∧ v' (ip p 5) = v (ip p 5) ∧ (Nn v' p = 0 ∨ v' (ip p 4) + Ti v p = v (ip p 4) + Ti v' p) ∧ Nn v' p ≤ Nn v p ∧ ∀ i, 6464 ≤ i → v' i = v i
theorem SR_step {τ τ1 τ' : xD} {v v1 v' : xV} {p m : Nat} {x : Int32} (h : SR τ1 τ' v1 v' p m) (hN : Nn v1 p + 1 = Nn v p) (h11 : τ1 13 p 0 11 = τ 13 p 0 11) (h9 : v1 (ip p 9) = v (ip p 9) + 1) (h5 : v1 (ip p 5) = v (ip p 5)) (hd : (Nn v1 p = 0 ∧ v1 (ip p 4) = 0) ∨ (Nn v1 p ≠ 0 ∧ v1 (ip p 4) = v (ip p 4) - x ∧ Ti v1 p = Ti v p - x)) (hh : ∀ i, 6464 ≤ i → v1 i = v i) : SR τ τ' v v' p (m + 1) := by
  obtain ⟨a1, a2, a3, a4, a5, a6, a7, a8⟩ := h
  refine ⟨a1, a2, a3.trans h11, ?_, a5.trans h5, ?_, by omega, fun i hi => (a8 i hi).trans (hh i hi)⟩
  · rw [a4, h9, ← nI_1]; grind
  · rcases hd with ⟨d1, d2⟩ | ⟨-, d1, d2⟩
    · exact Or.inl (by omega)
    · rcases a6 with e | e
      · exact Or.inl e
      · right
        rw [d1, d2] at e
        grind
theorem SR_keep {τ τ1 τ' : xD} {v v1 v' : xV} {p m : Nat} (h : SR τ1 τ' v1 v' p m) (hN : Nn v1 p = Nn v p) (h11 : τ1 13 p 0 11 = τ 13 p 0 11) (h9 : v1 (ip p 9) = v (ip p 9)) (h5 : v1 (ip p 5) = v (ip p 5)) (h4 : v1 (ip p 4) = v (ip p 4)) (hT : Ti v1 p = Ti v p) (hh : ∀ i, 6464 ≤ i → v1 i = v i) : SR τ τ' v v' p m := by
  obtain ⟨a1, a2, a3, a4, a5, a6, a7, a8⟩ := h
  refine ⟨a1, a2, a3.trans h11, by rw [a4, h9], a5.trans h5, ?_, by omega, fun i hi => (a8 i hi).trans (hh i hi)⟩
  rcases a6 with e | e
  · exact Or.inl e
  · right; rw [← h4, ← hT]; exact e
theorem SR_end {τ : xD} {v : xV} {p : Nat} (h1 : τ 13 p 0 7 = v (ip p 4)) (h2 : rg (v (ip p 4)) 0 11) : SR τ τ v v p 0 := ⟨h1, h2, rfl, by show _ = v (ip p 9) + 0; grind, rfl, Or.inr rfl, Nat.le_refl _, fun _ _ => rfl⟩
theorem len15 {τ : xD} {v : xV} {b C P p r : Nat} (h : RY τ v b C P p) (hp : p < P) (hr : r < 3) : τ 16 p r 15 = nI (Ln v (3 * p + r)) ∧ v (iq (3 * p + r) 12) = nI (Ln v (3 * p + r)) ∧ Ln v (3 * p + r) ≤ 128 := by
  have h6 := h.1.2.2.2.2.2.1
  have e := (MX_of h.2.2.2.2.2.2.2.2.2.2.1).1 (3 * p + r) (by omega)
  exact ⟨(h.2.1 p r 15 12 (by omega) hr rfl).trans e.1, e.1, e.2⟩
theorem Nn_s3 {τ : xD} {v : xV} {b C P p : Nat} (h : RY τ v b C P p) (hp : p < P) : s3 v p 12 = nI (Nn v p) ∧ Nn v p ≤ 128 ∧ τ 16 p 0 15 + τ 16 p 1 15 + τ 16 p 2 15 = nI (Nn v p) := by
  have h6 := h.1.2.2.2.2.2.1
  have a := (len_sum (MX_of h.2.2.2.2.2.2.2.2.2.2.1) (show p < 6 by omega)).1
  have b := Nn_le h (show p < 6 by omega)
  refine ⟨a, by omega, ?_⟩
  rw [(len15 h hp (r := 0) (by omega)).1, (len15 h hp (r := 1) (by omega)).1, (len15 h hp (r := 2) (by omega)).1, nI_add, nI_add]
  rfl
theorem c_idleN {σ : xS} {τ : xD} {v : xV} {b C P p d : Nat} (h : RY τ v b C P p) (hp : p < P) : fX2_isIdle d p (va_up σ d τ) = some (if Nn v p = 0 then 1 else 0, va_up σ d τ) := by
  rw [c_idle, (Nn_s3 h hp).2.2]
  by_cases z : Nn v p = 0
  · rw [if_pos z, if_pos (by rw [z]; rfl)]
  · have := (Nn_s3 h hp).2.1
    rw [if_neg z, if_neg (nI_ne0 (by omega) (by omega))]
theorem m_hasN {σ : xS} {τ : xD} {v : xV} {b C P p : Nat} (h : RY τ v b C P p) (hp : p < P) : fX6_hasPackets (nI p) (x_row σ 5 31 0 0 v) = some (if Nn v p = 0 then 0 else 1, x_row σ 5 31 0 0 v) := by
  have h6 := h.1.2.2.2.2.2.1
  rw [m_hasP (by omega), (Nn_s3 h hp).1]
  by_cases z : Nn v p = 0
  · rw [if_pos z, if_pos (by rw [z]; decide)]
  · have := (Nn_s3 h hp).2.1
    rw [if_neg z, if_neg (nI_nle (by omega) (by omega))]
def br (v : xV) (p : Nat) : Nat := if 0 < Ln v (3 * p) then 0 else if 0 < Ln v (3 * p + 1) then 1 else 2
theorem br_ok {v : xV} {p : Nat} (h : Nn v p ≠ 0) : br v p < 3 ∧ 0 < Ln v (3 * p + br v p) ∧ ∀ r, r < br v p → Ln v (3 * p + r) = 0 := by
  unfold Nn at h
  unfold br
  by_cases z : 0 < Ln v (3 * p)
  · rw [if_pos z]; exact ⟨by omega, z, fun r hr => by omega⟩
  · rw [if_neg z]
    by_cases y : 0 < Ln v (3 * p + 1)
    · rw [if_pos y]
      exact ⟨by omega, y, fun r hr => by rw [show r = 0 by omega]; show Ln v (3 * p) = 0; omega⟩
    · rw [if_neg y]
      refine ⟨by omega, by omega, fun r hr => ?_⟩
      rcases (show r = 0 ∨ r = 1 by omega) with rfl | rfl
      · show Ln v (3 * p) = 0; omega
      · omega
theorem c_busy {σ : xS} {τ : xD} {v : xV} {b C P p d : Nat} (h : RY τ v b C P p) (hp : p < P) (hN : Nn v p ≠ 0) : fX2_highestBusyQueue d p (va_up σ d τ) = some (some (d, p, br v p), va_up σ d τ) := by
  obtain ⟨b1, b2, b3⟩ := br_ok hN
  have st : ∀ n r, r < br v p → BX2_highestBusyQueue_10 d p 3 (n + 1) (nI r) (va_up σ d τ) = BX2_highestBusyQueue_10 d p 3 n (nI (r + 1)) (va_up σ d τ) := fun n r hr => by
    rw [BX2_highestBusyQueue_10, if_neg (show ¬ (3 : Int32) ≤ nI r from nI_ge (b := 3) (by omega) (by omega)), in_nI (by omega) (by omega), g_t, nI_clamp (by omega), up_s, (len15 h hp (r := r) (by omega)).1, b3 r hr, if_pos (by decide), l_v, nI_1]
  have en : ∀ n, BX2_highestBusyQueue_10 d p 3 (n + 1) (nI (br v p)) (va_up σ d τ) = some (some (d, p, br v p), va_up σ d τ) := fun n => by
    have := len15 h hp (r := br v p) (by omega)
    rw [BX2_highestBusyQueue_10, if_neg (show ¬ (3 : Int32) ≤ nI (br v p) from nI_ge (b := 3) (by omega) (by omega)), in_nI (by omega) (by omega), g_t, nI_clamp (by omega), up_s, this.1, if_neg (nI_nle (by omega) (by omega))]
  show BX2_highestBusyQueue_10 d p 3 (199999 + 1) (nI 0) (va_up σ d τ) = _
  rcases (show br v p = 0 ∨ br v p = 1 ∨ br v p = 2 by omega) with e | e | e
  · have := en 199999
    rw [e] at this ⊢; exact this
  · rw [st 199999 0 (by omega)]
    have := en 199998
    rw [e] at this ⊢; exact this
  · rw [st 199999 0 (by omega)]
    show BX2_highestBusyQueue_10 d p 3 (199998 + 1) (nI 1) (va_up σ d τ) = _
    rw [st 199998 1 (by omega)]
    have := en 199997
    rw [e] at this ⊢; exact this
theorem c_busy0 {σ : xS} {τ : xD} {v : xV} {b C P p d : Nat} (h : RY τ v b C P p) (hp : p < P) (hN : Nn v p = 0) : fX2_highestBusyQueue d p (va_up σ d τ) = some (none, va_up σ d τ) := by
  have z : ∀ r, r < 3 → Ln v (3 * p + r) = 0 := fun r hr => by
    unfold Nn at hN
    rcases (show r = 0 ∨ r = 1 ∨ r = 2 by omega) with rfl | rfl | rfl
    · show Ln v (3 * p) = 0; omega
    · omega
    · omega
  have st : ∀ n r, r < 3 → BX2_highestBusyQueue_10 d p 3 (n + 1) (nI r) (va_up σ d τ) = BX2_highestBusyQueue_10 d p 3 n (nI (r + 1)) (va_up σ d τ) := fun n r hr => by
    rw [BX2_highestBusyQueue_10, if_neg (show ¬ (3 : Int32) ≤ nI r from nI_ge (b := 3) (by omega) (by omega)), in_nI (by omega) (by omega), g_t, nI_clamp (by omega), up_s, (len15 h hp (r := r) (by omega)).1, z r hr, if_pos (by decide), l_v, nI_1]
  show BX2_highestBusyQueue_10 d p 3 (199999 + 1) (nI 0) (va_up σ d τ) = _
  rw [st _ 0 (by omega)]
  show BX2_highestBusyQueue_10 d p 3 (199998 + 1) (nI 1) (va_up σ d τ) = _
  rw [st _ 1 (by omega)]
  show BX2_highestBusyQueue_10 d p 3 (199997 + 1) (nI 2) (va_up σ d τ) = _
  rw [st _ 2 (by omega)]
  show BX2_highestBusyQueue_10 d p 3 (199996 + 1) (nI 3) (va_up σ d τ) = _
  rw [BX2_highestBusyQueue_10, if_pos (by decide)]
theorem m_292 {σ : xS} {τ : xD} {v : xV} {b C P p : Nat} {a2 : Int32} {k : Int32 → Int32 → xS → Option (Int32 × xS)} (h : RY τ v b C P p) (hp : p < P) (hN : Nn v p ≠ 0) : BX6_sends_292 (nI p) a2 k x_FU (nI (3 * p)) (x_row σ 5 31 0 0 v) = if v (ip p 4) < v (ik (Sl v (3 * p + br v p) 0) 1) then BX6_sends_337 (nI p) a2 (nI (3 * p + br v p)) 0 k (x_row σ 5 31 0 0 v) else BX6_sends_337 (nI p) a2 (nI (3 * p + br v p)) 1 k (x_row σ 5 31 0 0 v) := by
  have h6 := h.1.2.2.2.2.2.1
  obtain ⟨b1, b2, b3⟩ := br_ok hN
  have hM := MX_of h.2.2.2.2.2.2.2.2.2.2.1
  have st : ∀ n r, r < br v p → BX6_sends_292 (nI p) a2 k (n + 1) (nI (3 * p + r)) (x_row σ 5 31 0 0 v) = BX6_sends_292 (nI p) a2 k n (nI (3 * p + (r + 1))) (x_row σ 5 31 0 0 v) := fun n r hr => by
    have e : v (160 + 16 * (3 * p + r) + 12) = nI (Ln v (3 * p + r)) := (len15 h hp (r := r) (by omega)).2.1
    rw [BX6_sends_292, m_queue_12, b_s, in_nI (by omega) (by omega), g_t, nI_clamp (by omega), row_rd, e, b3 r hr, if_pos (by decide), l_v, nI_1]
    rfl
  have en : ∀ n, BX6_sends_292 (nI p) a2 k (n + 1) (nI (3 * p + br v p)) (x_row σ 5 31 0 0 v) = if v (ip p 4) < v (ik (Sl v (3 * p + br v p) 0) 1) then BX6_sends_337 (nI p) a2 (nI (3 * p + br v p)) 0 k (x_row σ 5 31 0 0 v) else BX6_sends_337 (nI p) a2 (nI (3 * p + br v p)) 1 k (x_row σ 5 31 0 0 v) := fun n => by
    have l := len15 h hp (r := br v p) (by omega)
    have e : v (160 + 16 * (3 * p + br v p) + 12) = nI (Ln v (3 * p + br v p)) := l.2.1
    rw [BX6_sends_292, m_queue_12, b_s, in_nI (by omega) (by omega), g_t, nI_clamp (by omega), row_rd, e, if_neg (nI_ne0 (by omega) (by omega)), m_first hM (by omega) b2, b_s, m_port_4, b_s, in_nI (by omega) (by omega), g_t, nI_clamp (by omega), row_rd]
  show BX6_sends_292 (nI p) a2 k (199999 + 1) (nI (3 * p + 0)) (x_row σ 5 31 0 0 v) = _
  rcases (show br v p = 0 ∨ br v p = 1 ∨ br v p = 2 by omega) with e | e | e
  · have := en 199999
    rw [e] at this ⊢; exact this
  · rw [st 199999 0 (by omega)]
    have := en 199998
    rw [e] at this ⊢; exact this
  · rw [st 199999 0 (by omega)]
    show BX6_sends_292 (nI p) a2 k (199998 + 1) (nI (3 * p + 1)) (x_row σ 5 31 0 0 v) = _
    rw [st 199998 1 (by omega)]
    have := en 199997
    rw [e] at this ⊢; exact this
theorem size_rg {τ : xD} {v : xV} {b C P p q : Nat} (h : RY τ v b C P p) (hq : q < 18) (hl : 0 < Ln v q) : rg (v (ik (Sl v q 0) 1)) 1 12 := by
  obtain ⟨x1, x2, x3, -⟩ := out_x h hq hl
  rw [x1]
  exact ⟨nI_le (a := 1) x2 (by omega), nI_le (b := 12) x3 (by omega)⟩
theorem prio_loop {b C P p : Nat} (hp : p < P) : ∀ (N i a n1 n2 : Nat) (τ : xD) (v : xV), RY τ v b C P p → Nn v p = N → τ 13 p 0 7 = v (ip p 4) → rg (v (ip p 4)) 0 27 → (N = 0 → rg (v (ip p 4)) 0 11) → ¬ v (ip p 8) = 1 → i + N ≤ 128 → N < n1 → N + 1 < n2 → ∃ m τ' v', (∀ σ d, d < 4 → BX0_sendByPriority_4 d d p n1 (nI a) (nI i) (va_up σ d τ) = some (nI (a + m), va_up σ d τ')) ∧ (∀ σ, BX6_sends_37 (nI p) n2 (nI a) 1 (x_row σ 5 31 0 0 v) = some (nI (a + m), x_row σ 5 31 0 0 v')) ∧ RY τ' v' b C P p ∧ SR τ τ' v v' p m := by
  intro N
  induction N with
  | zero =>
    intro i a n1 n2 τ v hY hN hcr hc hc0 h8 hi h1 h2
    have h6 := hY.1.2.2.2.2.2.1
    obtain ⟨n1, rfl⟩ : ∃ n, n1 = n + 1 := ⟨n1 - 1, by omega⟩
    obtain ⟨n2, rfl⟩ : ∃ n, n2 = n + 1 := ⟨n2 - 1, by omega⟩
    refine ⟨0, τ, v, fun σ d hd => ?_, fun σ => ?_, hY, SR_end hcr (hc0 rfl)⟩
    · rw [BX0_sendByPriority_4]
      by_cases z : (128 : Int32) ≤ nI i
      · rw [if_pos z]; rfl
      · rw [if_neg z, c_busy0 hY hp hN, b_s]; rfl
    · rw [BX6_sends_37, if_neg (by decide), m_hasN hY hp, if_pos hN, b_s, if_pos rfl]; rfl
  | succ N ih =>
    intro i a n1 n2 τ v hY hN hcr hc hc0 h8 hi h1 h2
    have h6 := hY.1.2.2.2.2.2.1
    obtain ⟨n1, rfl⟩ : ∃ n, n1 = n + 1 := ⟨n1 - 1, by omega⟩
    obtain ⟨n2, rfl⟩ : ∃ n, n2 = n + 1 := ⟨n2 - 1, by omega⟩
    have hN0 : Nn v p ≠ 0 := by omega
    obtain ⟨b1, b2, b3⟩ := br_ok hN0
    obtain ⟨f1, f2, f3⟩ := first_c hY hp b1 b2
    have hx := size_rg hY (q := 3 * p + br v p) (by omega) b2
    have hcl : ∀ σ d, d < 4 → BX0_sendByPriority_4 d d p (n1 + 1) (nI a) (nI i) (va_up σ d τ) = if v (ik (Sl v (3 * p + br v p) 0) 1) ≤ v (ip p 4) then (x_b (fX0_takeOut d d p d p (br v p) (nI (Fs v (Sl v (3 * p + br v p) 0) 0)) (va_up σ d (dset τ 13 p 0 7 (τ 13 p 0 7 - v (ik (Sl v (3 * p + br v p) 0) 1))))) fun _ s4 => BX0_sendByPriority_4 d d p n1 (nI (a + 1)) (nI (i + 1)) s4) else some (nI a, va_up σ d τ) := fun σ d hd => by
      rw [BX0_sendByPriority_4, if_neg (show ¬ (128 : Int32) ≤ nI i from nI_ge (b := 128) (by omega) (by omega)), c_busy hY hp hN0, b_s]
      show x_g (ok3 (d, p, br v p)) (x_b (fX1_sizeOf d (va_up σ d τ d 16 p (br v p) 13) (va_up σ d τ)) fun z2 s2 => if z2 ≤ (s2 d 13 p 0 7) then (x_let (x_set s2 d 13 p 0 7 ((s2 d 13 p 0 7) - z2)) fun s3 => x_b (fX0_takeOut d d p d p (br v p) (s3 d 16 p (br v p) 13) s3) fun z4 s4 => x_let (nI a + 1) fun t5 => x_let (nI i + 1) fun t6 => (BX0_sendByPriority_4 d d p n1) t5 t6 s4) else (some (nI a, s2))) = _
      rw [ok3_t hd (by omega) b1, g_t, up_s, f1, c_size f2, b_s, up_s, f3, set_own, l_v, up_s, ds_n (show 16 ≠ 13 ∨ p ≠ p ∨ br v p ≠ 0 ∨ 13 ≠ 7 by omega), f1, nI_1, nI_1]
      simp only [l_v, ← hcr]
    have hrf : ∀ σ, BX6_sends_37 (nI p) (n2 + 1) (nI a) 1 (x_row σ 5 31 0 0 v) = if v (ip p 4) < v (ik (Sl v (3 * p + br v p) 0) 1) then BX6_sends_37 (nI p) n2 (nI a) 0 (x_row σ 5 31 0 0 v) else (x_b (fX6_departs (nI p) (nI (3 * p + br v p)) (x_row σ 5 31 0 0 v)) fun _ s17 => x_b (fX6_settles (nI (3 * p + br v p)) s17) fun _ s18 => BX6_sends_37 (nI p) n2 (nI (a + 1)) 1 s18) := fun σ => by
      rw [BX6_sends_37, if_neg (by decide), m_hasN hY hp, if_neg hN0, b_s, if_neg (by decide), m_port_8, b_s, in_nI (by omega) (by omega), g_t, nI_clamp (by omega), row_rd, if_neg h8, q30, l_v, m_292 hY hp hN0]
      by_cases z : v (ip p 4) < v (ik (Sl v (3 * p + br v p) 0) 1)
      · rw [if_pos z, if_pos z, BX6_sends_337, if_pos rfl]
      · rw [if_neg z, if_neg z, BX6_sends_337, if_neg (by decide)]
        simp only [l_v, nI_1]
    by_cases z : v (ip p 4) < v (ik (Sl v (3 * p + br v p) 0) 1)
    · obtain ⟨n2, rfl⟩ : ∃ n, n2 = n + 1 := ⟨n2 - 1, by omega⟩
      refine ⟨0, τ, v, fun σ d hd => ?_, fun σ => ?_, hY, SR_end hcr (by unfold rg at *; grind)⟩
      · rw [hcl σ d hd, if_neg (by grind)]; rfl
      · rw [hrf, if_pos z, BX6_sends_37, if_pos rfl]; rfl
    · obtain ⟨τ1, v1, w, k1, k2, k3, k4, k5, k6, k7, k8, k9, k10, k11, k12⟩ := S_dep hY hp b1 b2 hcr
      have hc1 : rg (v1 (ip p 4)) 0 27 ∧ (N = 0 → rg (v1 (ip p 4)) 0 11) := by
        rcases k11 with ⟨e0, e⟩ | ⟨e0, e, -⟩
        · rw [e]; exact ⟨⟨by decide, by decide⟩, fun _ => ⟨by decide, by decide⟩⟩
        · rw [e]; unfold rg at *; exact ⟨by grind, fun q => by omega⟩
      obtain ⟨m, τ', v', g1, g2, g3, g4⟩ := ih (i + 1) (a + 1) n1 n2 τ1 v1 k4 (by omega) k6 hc1.1 hc1.2 (by rw [k10]; exact h8) (by omega) (by omega) (by omega)
      refine ⟨m + 1, τ', v', fun σ d hd => ?_, fun σ => ?_, g3, SR_step g4 k5 k7 k8 k9 k11 k12⟩
      · rw [hcl σ d hd, if_pos (by grind), k1, b_s, g1 σ d hd, show a + 1 + m = a + (m + 1) by omega]
      · rw [hrf, if_neg z, k2, b_s, k3, b_s, g2, show a + 1 + m = a + (m + 1) by omega]
