/-! ===== burstCapacity ===== -/
def agC (u v : xV) : Prop := (∀ i, i < 160 → i ≠ 4 → u i = v i) ∧ ∀ q f, q < 18 → f < 12 → u (iq q f) = v (iq q f)
theorem agC_all {u v : xV} {P p q : Nat} {x : Int32} (h : agC u v) (h6 : P ≤ 6) (hp : p < 6) (hq : q < 18) : er u P p q x = er v P p q x ∧ rs u p x = rs v p x ∧ mFree u P = mFree v P ∧ fg u p = fg v p ∧ hc u p q x = hc v p q x ∧ dz u P p q x = dz v P p q x := by
  have a := er_c (u := u) (w := v) (P := P) (p := p) (q := q) (x := x) h6 hp hq (h.1 0 (by omega) (by omega)) (fun p' f a1 a2 => h.1 _ (by simp only [ip]; omega) (by simp only [ip]; omega)) (fun q' f a1 a2 a3 => h.2 q' f a1 (by omega)) (h.2 q 3 hq (by omega)) (h.2 q 0 hq (by omega))
  have e2 : ∀ f, f < 12 → s3 u p f = s3 v p f := fun f hf => by
    simp only [s3]
    rw [h.2 _ f (by omega) hf, h.2 _ f (by omega) hf, h.2 _ f (by omega) hf]
  have e3 : fg u p = fg v p := by
    unfold fg
    rw [h.1 _ (by simp only [ip]; omega) (by simp only [ip]; omega), h.1 _ (by simp only [ip]; omega) (by simp only [ip]; omega), e2 6 (by omega)]
  have e4 : hc u p q x = hc v p q x := by
    unfold hc
    rw [h.2 q 9 hq (by omega), a.2.1, h.1 _ (by simp only [ip]; omega) (by simp only [ip]; omega), e2 8 (by omega)]
  refine ⟨a.1, a.2.1, a.2.2.1, e3, e4, ?_⟩
  unfold dz
  rw [a.1, e4]
theorem chV_ag {u v : xV} {q : Nat} {t g s h pa pz : Int32} (hu : agC u v) (hq : q < 18) : agC (chV u q t g s h pa pz) (chV v q t g s h pa pz) := by
  refine ⟨fun i h1 h2 => ?_, fun q' f h1 h2 => ?_⟩
  · rw [ch_n (by omega) (by omega) (by omega) (by omega) (by omega) (by omega), ch_n (by omega) (by omega) (by omega) (by omega) (by omega) (by omega), hu.1 i h1 h2]
  · by_cases e : q' = q ∧ (f = 3 ∨ f = 6 ∨ f = 7 ∨ f = 8 ∨ f = 10 ∨ f = 11)
    · obtain ⟨rfl, e⟩ := e
      rcases e with rfl | rfl | rfl | rfl | rfl | rfl
      · rw [ch_v.1, ch_v.1]
      · rw [ch_v.2.1, ch_v.2.1]
      · rw [ch_v.2.2.1, ch_v.2.2.1]
      · rw [ch_v.2.2.2.1, ch_v.2.2.2.1]
      · rw [ch_v.2.2.2.2.1, ch_v.2.2.2.2.1]
      · rw [ch_v.2.2.2.2.2, ch_v.2.2.2.2.2]
    · rw [ch_n (by simp only [iq]; omega) (by simp only [iq]; omega) (by simp only [iq]; omega) (by simp only [iq]; omega) (by simp only [iq]; omega) (by simp only [iq]; omega), ch_n (by simp only [iq]; omega) (by simp only [iq]; omega) (by simp only [iq]; omega) (by simp only [iq]; omega) (by simp only [iq]; omega) (by simp only [iq]; omega), hu.2 q' f h1 h2]
theorem cntV_ag {u v : xV} {P p q : Nat} {x st : Int32} (h : agC u v) (h6 : P ≤ 6) (hp : p < 6) (hq : q < 18) : agC (cntV u P p q x st) (cntV v P p q x st) := by
  obtain ⟨-, e1, e2, e3, -, -⟩ := agC_all (x := x) h h6 hp hq
  unfold cntV
  rw [e1, e2, e3, h.2 q 3 hq (by omega), h.2 q 6 hq (by omega), h.2 q 7 hq (by omega), h.2 q 8 hq (by omega), h.2 q 10 hq (by omega), h.2 q 11 hq (by omega), h.2 q 0 hq (by omega)]
  split
  · exact chV_ag h hq
  · exact chV_ag h hq
theorem cntV_n {u : xV} {P p q : Nat} {x st : Int32} {i : Nat} (hq : q < 18) (h : i < 160 ∨ 448 ≤ i) : cntV u P p q x st i = u i := by
  unfold cntV
  split
  · exact ch_n (by omega) (by omega) (by omega) (by omega) (by omega) (by omega)
  · exact ch_n (by omega) (by omega) (by omega) (by omega) (by omega) (by omega)
theorem m_cnt {σ : xS} {v : xV} {P p r : Nat} {x st : Int32} (hv1 : v 1 = nI P) (h6 : P ≤ 6) (hp6 : p < 6) (hr : r < 3) : fX6_counts (nI (3 * p + r)) x st (x_row σ 5 31 0 0 v) = some ((), x_row σ 5 31 0 0 (cntV v P p (3 * p + r) x st)) := by
  have hv : ∀ σ', vv (x_row σ' 5 31 0 0 v) = v := fun σ' => row_rd _ _
  have nqq : ∀ f f', f < 16 → f' < 16 → f ≠ f' → iq (3 * p + r) f ≠ iq (3 * p + r) f' := fun f f' a1 a2 a3 => qq a1 a2 (Or.inr a3)
  have r65 : ∀ (g y : Int32) (u : xV), BX6_counts_65 (nI (3 * p + r)) st g y (x_row σ 5 31 0 0 u) = if st = 3 then some ((), x_row σ 5 31 0 0 (va_up (va_up (va_up (va_up u (iq (3 * p + r) 6) (u (iq (3 * p + r) 6) + g)) (iq (3 * p + r) 8) (u (iq (3 * p + r) 8) + y)) (iq (3 * p + r) 11) (u (iq (3 * p + r) 11) + (1 - u (iq (3 * p + r) 10)))) (iq (3 * p + r) 10) 1)) else some ((), x_row σ 5 31 0 0 (va_up (va_up u (iq (3 * p + r) 6) (u (iq (3 * p + r) 6) + g)) (iq (3 * p + r) 7) (u (iq (3 * p + r) 7) + y))) := fun g y u => by
    rw [BX6_counts_65, m_queue_6, b_s, in_nI (by omega) (by omega), g_t, g_t, nI_clamp (by omega), row_rd, row_set, l_v]
    by_cases z : st = 3
    · rw [if_pos z, if_pos z, m_queue_8, b_s, in_nI (by omega) (by omega), g_t, g_t, nI_clamp (by omega), row_rd, row_set, l_v, m_queue_11, b_s, in_nI (by omega) (by omega), g_t, m_queue_10, b_s, in_nI (by omega) (by omega), g_t, g_t, nI_clamp (by omega), nI_clamp (by omega), row_rd, row_set, l_v, m_queue_10, b_s, in_nI (by omega) (by omega), g_t, nI_clamp (by omega), row_set, l_v, up_n _ _ (show 160 + 16 * (3 * p + r) + 8 ≠ 160 + 16 * (3 * p + r) + 6 by omega), up_n _ _ (show 160 + 16 * (3 * p + r) + 11 ≠ 160 + 16 * (3 * p + r) + 8 by omega), up_n _ _ (show 160 + 16 * (3 * p + r) + 11 ≠ 160 + 16 * (3 * p + r) + 6 by omega), up_n _ _ (show 160 + 16 * (3 * p + r) + 10 ≠ 160 + 16 * (3 * p + r) + 8 by omega), up_n _ _ (show 160 + 16 * (3 * p + r) + 10 ≠ 160 + 16 * (3 * p + r) + 6 by omega)]
    · rw [if_neg z, if_neg z, m_queue_7, b_s, in_nI (by omega) (by omega), g_t, g_t, nI_clamp (by omega), row_rd, row_set, l_v, up_n _ _ (show 160 + 16 * (3 * p + r) + 7 ≠ 160 + 16 * (3 * p + r) + 6 by omega)]
  have hrf : fX6_counts (nI (3 * p + r)) x st (x_row σ 5 31 0 0 v) = BX6_counts_65 (nI (3 * p + r)) st (i_min x (fg v p)) (rs v p x) (x_row σ 5 31 0 0 (if st = 2 then va_up v (iq (3 * p + r) 3) (v (iq (3 * p + r) 3) - i_max 0 (v (iq (3 * p + r) 7) + rs v p x - v (iq (3 * p + r) 0) * mFree v P / 8)) else v)) := by
    rw [fX6_counts, div3 (by omega), show (3 * p + r) / 3 = p by omega, m_freeOf hp6, b_s, hv, m_least, b_s]
    show x_let (x - i_min x (fg v p)) _ = _
    rw [l_v]
    by_cases z : st = 2
    · rw [if_pos z, if_pos z, m_queue_7, b_s, in_nI (by omega) (by omega), g_t, m_limit (q := 3 * p + r) (by rw [row_rd]; exact hv1) h6 (by omega), b_s, hv, nI_clamp (by omega), row_rd, l_v, m_queue_3, b_s, in_nI (by omega) (by omega), g_t, m_most, b_s, g_t, nI_clamp (by omega), row_rd, row_set, l_v]
      rfl
    · rw [if_neg z, if_neg z]
      rfl
  rw [hrf, r65]
  unfold cntV
  by_cases z3 : st = 3
  · rw [if_pos z3, if_pos z3, if_neg (by rw [z3]; decide)]
    congr 3
    exact chV_eq (by rw [up_n _ _ (nqq 3 10 (by omega) (by omega) (by omega)), up_n _ _ (nqq 3 11 (by omega) (by omega) (by omega)), up_n _ _ (nqq 3 8 (by omega) (by omega) (by omega)), up_n _ _ (nqq 3 6 (by omega) (by omega) (by omega))]) (by rw [up_n _ _ (nqq 6 10 (by omega) (by omega) (by omega)), up_n _ _ (nqq 6 11 (by omega) (by omega) (by omega)), up_n _ _ (nqq 6 8 (by omega) (by omega) (by omega)), up_s]) (by rw [up_n _ _ (nqq 7 10 (by omega) (by omega) (by omega)), up_n _ _ (nqq 7 11 (by omega) (by omega) (by omega)), up_n _ _ (nqq 7 8 (by omega) (by omega) (by omega)), up_n _ _ (nqq 7 6 (by omega) (by omega) (by omega))]) (by rw [up_n _ _ (nqq 8 10 (by omega) (by omega) (by omega)), up_n _ _ (nqq 8 11 (by omega) (by omega) (by omega)), up_s]) (up_s _ _ _) (by rw [up_n _ _ (nqq 11 10 (by omega) (by omega) (by omega)), up_s]) (fun i a3 a6 a7 a8 a10 a11 => by rw [up_n _ _ a10, up_n _ _ a11, up_n _ _ a8, up_n _ _ a6])
  · rw [if_neg z3, if_neg z3]
    congr 3
    by_cases z2 : st = 2
    · rw [if_pos z2, if_pos z2]
      exact chV_eq (by rw [up_n _ _ (nqq 3 7 (by omega) (by omega) (by omega)), up_n _ _ (nqq 3 6 (by omega) (by omega) (by omega)), up_s]) (by rw [up_n _ _ (nqq 6 7 (by omega) (by omega) (by omega)), up_s, up_n _ _ (nqq 6 3 (by omega) (by omega) (by omega))]) (by rw [up_s, up_n _ _ (nqq 7 3 (by omega) (by omega) (by omega))]) (by rw [up_n _ _ (nqq 8 7 (by omega) (by omega) (by omega)), up_n _ _ (nqq 8 6 (by omega) (by omega) (by omega)), up_n _ _ (nqq 8 3 (by omega) (by omega) (by omega))]) (by rw [up_n _ _ (nqq 10 7 (by omega) (by omega) (by omega)), up_n _ _ (nqq 10 6 (by omega) (by omega) (by omega)), up_n _ _ (nqq 10 3 (by omega) (by omega) (by omega))]) (by rw [up_n _ _ (nqq 11 7 (by omega) (by omega) (by omega)), up_n _ _ (nqq 11 6 (by omega) (by omega) (by omega)), up_n _ _ (nqq 11 3 (by omega) (by omega) (by omega))]) (fun i a3 a6 a7 a8 a10 a11 => by rw [up_n _ _ a7, up_n _ _ a6, up_n _ _ a3])
    · rw [if_neg z2, if_neg z2]
      exact chV_eq (by rw [up_n _ _ (nqq 3 7 (by omega) (by omega) (by omega)), up_n _ _ (nqq 3 6 (by omega) (by omega) (by omega))]) (by rw [up_n _ _ (nqq 6 7 (by omega) (by omega) (by omega)), up_s]) (up_s _ _ _) (by rw [up_n _ _ (nqq 8 7 (by omega) (by omega) (by omega)), up_n _ _ (nqq 8 6 (by omega) (by omega) (by omega))]) (by rw [up_n _ _ (nqq 10 7 (by omega) (by omega) (by omega)), up_n _ _ (nqq 10 6 (by omega) (by omega) (by omega))]) (by rw [up_n _ _ (nqq 11 7 (by omega) (by omega) (by omega)), up_n _ _ (nqq 11 6 (by omega) (by omega) (by omega))]) (fun i a3 a6 a7 a8 a10 a11 => by rw [up_n _ _ a7, up_n _ _ a6])
/-- what is used grows -/
theorem used_grow {τ τ' : xD} {v v' : xV} {b b' C P p r sz : Nat} {st : Int32} (h : RW τ v b C P) (h' : RW τ' v' b' C P) (hp : p < P) (hr : r < 3) (h1 : 1 ≤ sz) (h12 : sz ≤ 12) (hc : ∀ q f, q < 18 → f < 12 → v' (iq q f) = cntV v P p (3 * p + r) (nI sz) st (iq q f)) : nsum (Uq v') 18 = nsum (Uq v) 18 + sz := by
  have h6 := h.1.1.2.2.2.2.2.1
  obtain ⟨-, -, -, -, -, gx, -⟩ := rs_facts h hp h1 h12
  have key : ∀ q, q < 18 → Uq v' q = Uq v q + if q = 3 * p + r then sz else 0 := fun q hq => by
    have a := Uq_nI h.1.2.2.2.2.2.2.2.2.2.2.1 hq
    have a' := Uq_nI h'.1.2.2.2.2.2.2.2.2.2.2.1 hq
    rw [hc q 6 hq (by omega), hc q 7 hq (by omega), hc q 8 hq (by omega)] at a'
    by_cases e : q = 3 * p + r
    · subst e
      rw [if_pos rfl]
      have e2 : cntV v P p (3 * p + r) (nI sz) st (iq (3 * p + r) 6) + cntV v P p (3 * p + r) (nI sz) st (iq (3 * p + r) 7) + cntV v P p (3 * p + r) (nI sz) st (iq (3 * p + r) 8) = v (iq (3 * p + r) 6) + v (iq (3 * p + r) 7) + v (iq (3 * p + r) 8) + nI sz := by
        unfold cntV
        by_cases z : st = 3
        · rw [if_pos z, ch_v.2.1, ch_v.2.2.1, ch_v.2.2.2.1]; exact ar_C gx
        · rw [if_neg z, ch_v.2.1, ch_v.2.2.1, ch_v.2.2.2.1]; exact ar_B gx
      rw [e2, a.1, nI_add] at a'
      exact (nIeq (by omega) (by omega) a'.1).symm
    · rw [if_neg e]
      have en : ∀ f, f < 12 → cntV v P p (3 * p + r) (nI sz) st (iq q f) = v (iq q f) := fun f hf => by
        unfold cntV
        split
        · exact ch_n (by simp only [iq]; omega) (by simp only [iq]; omega) (by simp only [iq]; omega) (by simp only [iq]; omega) (by simp only [iq]; omega) (by simp only [iq]; omega)
        · exact ch_n (by simp only [iq]; omega) (by simp only [iq]; omega) (by simp only [iq]; omega) (by simp only [iq]; omega) (by simp only [iq]; omega) (by simp only [iq]; omega)
      rw [en 6 (by omega), en 7 (by omega), en 8 (by omega), a.1] at a'
      exact (nIeq (by omega) (by omega) a'.1).symm
  rw [nsum_add1 (u := Uq v) (w := Uq v') (q := 3 * p + r) (x := sz) 18 key, if_pos (by omega)]
theorem used_C {τ : xD} {v : xV} {b C P : Nat} (h : RW τ v b C P) : nsum (Uq v) 18 ≤ C := by
  have a := RY_used (RY_of h 0)
  have e : nsum (Uq v) 18 = nsum (Tp v) 6 := nsum_3 (Uq v) 6
  rw [e]; exact a
theorem dz_n {v : xV} {P p q : Nat} {x : Int32} : dz v P p q x = 0 ∨ ¬ dz v P p q x ≤ 0 := by
  unfold dz
  rcases er_n (v := v) (P := P) (p := p) (q := q) (x := x) with e | e | e
  · rw [e, if_pos rfl]
    split
    · right; decide
    · left; rfl
  · right; rw [e, if_neg (by decide)]; decide
  · right; rw [e, if_neg (by decide)]; decide
theorem burst_loop {C P p r sz : Nat} {w0 : xV} (hp : p < P) (hr : r < 3) (h1 : 1 ≤ sz) (h12 : sz ≤ 12) : ∀ (m k n1 n2 b : Nat) (τ : xD) (v u : xV), m + k = 128 → RW τ v b C P → b + m + 5 < 2 ^ 31 → v 2 = 0 → agC u v → k ≤ nsum (Uq v) 18 → (∀ j, 6464 ≤ j → u j = w0 j) → m < n1 → m < n2 → ∃ c τ', (∀ σ, BX5_burstCapacity_82 (nI sz) 1 p 1 p r n1 (nI k) (va_up σ 1 τ) = some (nI c, va_up σ 1 τ')) ∧ (∀ σ : xS, (∀ j, j < 6464 → σ 5 32 0 0 j = w0 j) → ∃ σ', BX6_burstCapacity_54 (nI sz) (nI (3 * p + r)) n2 (nI k) (dz u P p (3 * p + r) (nI sz)) (x_row σ 5 31 0 0 u) = some (nI c, x_row σ' 5 31 0 0 w0) ∧ fr σ σ') ∧ pri τ' := by
  intro m
  induction m with
  | zero =>
    intro k n1 n2 b τ v u hmk hW hb h2 hag hk hu hn1 hn2
    have h6 := hW.1.1.2.2.2.2.2.1
    have hC := hW.1.1.2.2.1
    obtain ⟨n1, rfl⟩ : ∃ n, n1 = n + 1 := ⟨n1 - 1, by omega⟩
    obtain ⟨n2, rfl⟩ : ∃ n, n2 = n + 1 := ⟨n2 - 1, by omega⟩
    have hk128 : k = 128 := by omega
    subst hk128
    obtain ⟨-, -, -, -, -, edz⟩ := agC_all (x := nI sz) hag h6 (show p < 6 by omega) (show 3 * p + r < 18 by omega)
    have hz : dz u P p (3 * p + r) (nI sz) = 0 := by
      rw [edz]
      obtain ⟨res, st, τ', v', -, -, kW, -, kz, -⟩ := S_arrive hW (by omega) hp hr h1 h12
      obtain ⟨k1, k2⟩ := kz h2
      by_cases y : st = 0
      · rw [← k1]; exact y
      · have a := used_grow hW kW hp hr h1 h12 (k2 y).2
        have c := used_C kW
        omega
    refine ⟨128, τ, fun σ => ?_, fun σ hw => ⟨σ, ?_, fr_refl σ⟩, hW.2.2.2⟩
    · rw [BX5_burstCapacity_82, if_pos (by decide)]; rfl
    · rw [BX6_burstCapacity_54, hz, if_pos (by decide), m_brings hw hu, b_s]
  | succ m ih =>
    intro k n1 n2 b τ v u hmk hW hb h2 hag hk hu hn1 hn2
    have h6 := hW.1.1.2.2.2.2.2.1
    have hC := hW.1.1.2.2.1
    have hp6 : p < 6 := by omega
    have hq : 3 * p + r < 18 := by omega
    obtain ⟨n1, rfl⟩ : ∃ n, n1 = n + 1 := ⟨n1 - 1, by omega⟩
    obtain ⟨n2, rfl⟩ : ∃ n, n2 = n + 1 := ⟨n2 - 1, by omega⟩
    obtain ⟨-, -, -, -, -, edz⟩ := agC_all (x := nI sz) hag h6 hp6 hq
    obtain ⟨res, st, τ1, v1, kc, -, kW, kst, kz, -⟩ := S_arrive hW (by omega) hp hr h1 h12
    obtain ⟨k1, k2⟩ := kz h2
    have hcl : ∀ σ, BX5_burstCapacity_82 (nI sz) 1 p 1 p r (n1 + 1) (nI k) (va_up σ 1 τ) = if st = 0 then some (nI k, va_up σ 1 τ1) else BX5_burstCapacity_82 (nI sz) 1 p 1 p r n1 (nI (k + 1)) (va_up σ 1 τ1) := fun σ => by
      rw [BX5_burstCapacity_82, if_neg (show ¬ (128 : Int32) ≤ nI k from nI_ge (b := 128) (by omega) (by omega)), kc σ 1 (by decide), b_s]
      by_cases y : st = 0
      · rw [if_pos y, if_pos (kst.mp y)]
      · rw [if_neg y, if_neg (fun z => y (kst.mpr z)), l_v, nI_1]
    by_cases y : st = 0
    · have hz : dz u P p (3 * p + r) (nI sz) = 0 := by rw [edz, ← k1]; exact y
      refine ⟨k, τ1, fun σ => by rw [hcl, if_pos y], fun σ hw => ⟨σ, ?_, fr_refl σ⟩, kW.2.2.2⟩
      rw [BX6_burstCapacity_54, hz, if_pos (by decide), m_brings hw hu, b_s]
    · have hv12 : v1 2 = 0 := by
        rw [(k2 y).1 2 (by omega) (by omega), cntV_n hq (by omega)]; exact h2
      have hag1 : agC (cntV u P p (3 * p + r) (nI sz) st) v1 := by
        have a := cntV_ag (x := nI sz) (st := st) hag h6 hp6 hq
        exact ⟨fun i a1 a2 => (a.1 i a1 a2).trans ((k2 y).1 i a1 a2).symm, fun q f a1 a2 => (a.2 q f a1 a2).trans ((k2 y).2 q f a1 a2).symm⟩
      have hus := used_grow hW kW hp hr h1 h12 (k2 y).2
      obtain ⟨c, τ', g1, g2, g3⟩ := ih (k + 1) n1 n2 (b + 1) τ1 v1 (cntV u P p (3 * p + r) (nI sz) st) (by omega) kW (by omega) hv12 hag1 (by omega) (fun j hj => by rw [cntV_n hq (by omega)]; exact hu j hj) (by omega) (by omega)
      have hu1 : u 1 = nI P := by rw [hag.1 1 (by omega) (by omega)]; exact hW.1.1.2.2.2.1
      have hu2 : u 2 = 0 := by rw [hag.1 2 (by omega) (by omega)]; exact h2
      have hdz0 : ¬ dz u P p (3 * p + r) (nI sz) ≤ 0 := by
        rcases dz_n (v := u) (P := P) (p := p) (q := 3 * p + r) (x := nI sz) with e | e
        · exact absurd (by rw [k1, ← edz]; exact e) y
        · exact e
      have est : dz u P p (3 * p + r) (nI sz) = st := by rw [edz, ← k1]
      refine ⟨c, τ', fun σ => by rw [hcl, if_neg y, g1], fun σ hw => ?_, g3⟩
      obtain ⟨σ1, s1, s2, s3⟩ := m_dec0 (x := nI sz) (v := cntV u P p (3 * p + r) (nI sz) st) (by rw [cntV_n hq (by omega)]; exact hu1) h6 hp6 hr (by rw [cntV_n hq (by omega)]; exact hu2) σ
      obtain ⟨σ2, t1, t2⟩ := g2 σ1 (fun j hj => by rw [s3]; exact hw j hj)
      refine ⟨σ2, ?_, fr_trans s2 t2⟩
      rw [BX6_burstCapacity_54, if_neg hdz0, est, m_cnt hu1 h6 hp6 hr, b_s, l_v, nI_1, s1, b_s, t1]
theorem RW_push {τ : xD} {v : xV} {b C P : Nat} {x : Int32} (hx : x_z x = true) (h : RW τ v b C P) : RW (dset τ 0 0 0 3 x) (va_up v 2 x) b C P := by
  obtain ⟨⟨hG, hQ, hPp, hLs, hDd, hRf, wP, wQ, wT, wN, hM, hX, b1, b2, b3, b4⟩, hg, hS, hpr⟩ := h
  have h6 := hG.2.2.2.2.2.1
  have h8 := hG.2.2.1
  have nl : ∀ i, i ≠ 2 → va_up v 2 x i = v i := fun i hi => up_n _ _ hi
  have np : ∀ p f, va_up v 2 x (ip p f) = v (ip p f) := fun p f => nl _ (by simp only [ip]; omega)
  have nq : ∀ q f, va_up v 2 x (iq q f) = v (iq q f) := fun q f => nl _ (by simp only [iq]; omega)
  have ht : ∀ K p r k, (K ≠ 0 ∨ k ≠ 3) → dset τ 0 0 0 3 x K p r k = τ K p r k := fun K p r k hk => ds_n (by omega)
  have hN : eqN v (va_up v 2 x) := ⟨nl 4 (by omega), fun i h1 _ => nl i (by omega), fun q hq => nq q 12⟩
  have hx' : eqXb τ (dset τ 0 0 0 3 x) := ⟨fun K c h1 h2 _ => ht _ _ _ _ (by omega), fun p' r' _ _ => ⟨ht _ _ _ _ (by omega), ht _ _ _ _ (by omega)⟩⟩
  refine ⟨⟨?_, cfQ_c (fun _ _ _ => ht _ _ _ _ (by omega)) (fun q f _ _ => nq q f) hQ, cfP_c (fun _ _ => ht _ _ _ _ (by omega)) (fun p f _ _ _ => np p f) hPp, cfL_c (fun _ _ => ht _ _ _ _ (by omega)) (fun p c' _ _ => np p _) hLs, ?_, cfR_c (fun k' => ht _ _ _ _ (by omega)) (fun i _ hi => nl i (by omega)) hRf, wfP_c (fun p f _ _ => np p f) wP, wfQ_c (fun q f _ _ => nq q f) wQ, wfT_c (fun q _ => ⟨nq q 12, nq q 5⟩) (fun p _ => ⟨np p 6, np p 7⟩) wT, wfN_c (fun p f _ _ _ => np p f) (fun p r f _ _ _ _ _ => nq _ f) wN, MW_of (MX_c hN h8 (MX_of hM)) (mwA_c hN (fun q hq => by rw [nq, nq, nq]) (MX_of hM) hM.2.2.2.2.2.2.2.2.2), RX_c hN h8 hx' (MX_of hM) hX, ?_⟩, gr_c h6 (ht _ _ _ _ (by omega)) (ht _ _ _ _ (by omega)) (fun p _ => ⟨np p 2, np p 3⟩) (nl 10 (by omega)) hg, wfS_c h6 (nl 0 (by omega)) (fun p f _ _ => np p f) (fun q f _ _ _ => nq q f) hS, fun p r h1 h2 => by rw [ht _ _ _ _ (by omega)]; exact hpr p r h1 h2⟩
  · obtain ⟨g0, g1, g2, g3, g4, g5, g6, g7⟩ := hG
    exact ⟨by rw [nl 0 (by omega)]; exact g0, g1, g2, by rw [nl 1 (by omega)]; exact g3, g4, g5, by rw [up_s]; exact hx, by rw [nl 5 (by omega)]; exact g7⟩
  · obtain ⟨d0, d1, d2, d3, d4, d5⟩ := hDd
    exact ⟨by rw [ht _ _ _ _ (by omega), nl 0 (by omega)]; exact d0, by rw [ht _ _ _ _ (by omega), nl 1 (by omega)]; exact d1, by rw [ds_s, up_s], by rw [ht _ _ _ _ (by omega), nl 3 (by omega)]; exact d3, by rw [ht _ _ _ _ (by omega), nl 4 (by omega)]; exact d4, by rw [ht _ _ _ _ (by omega), nl 5 (by omega)]; exact d5⟩
  · rw [nl 4 (by omega), nl 10 (by omega)]
    exact ⟨b1, b2, b3, b4⟩
theorem xp44 : xP44 Inv := by
  intro n σ a1 a2 a3 hI hn
  obtain ⟨C, P, hW⟩ := RW_of hI hn
  obtain ⟨hP5, hP0, h1, h6⟩ := w_P hW
  rcases ix_cases a1 h6 with ⟨p, hp, rfl⟩ | ha
  · rcases ix3 a2 with ⟨r, hr, rfl⟩ | hb
    · by_cases hx : 1 ≤ a3 ∧ a3 ≤ 12
      · obtain ⟨sz, s1, s2, rfl⟩ := rng_nI (lo := 1) (hi := 12) (by omega) (by omega) hx
        have hp6 : p < 6 := by omega
        obtain ⟨τ1, c1, c2⟩ := S_copy hI hn hW
        have hW0 := RW_push (x := 0) rfl c2
        obtain ⟨c, τ', g1, g2, g3⟩ := burst_loop (w0 := vv σ) hp hr s1 s2 128 0 x_FU x_FU (1000 * n) _ _ (va_up (vv σ) 2 0) (by omega) hW0 (by omega) (up_s _ _ _) ⟨fun _ _ _ => rfl, fun _ _ _ _ => rfl⟩ (by omega) (fun j hj => up_n _ _ (by omega)) (by unfold x_FU; omega) (by unfold x_FU; omega)
        have er0 : x_row (va_up σ 1 τ') 5 31 0 0 (vv σ) = va_up σ 1 τ' := row_id (va_up σ 1 τ')
        obtain ⟨w, hw, hk⟩ := m_keeps (va_up σ 1 τ') (vv σ)
        rw [er0] at hk
        obtain ⟨σ1, t1, t2, t3⟩ := m_dec0 (x := nI sz) (v := va_up (vv σ) 2 0) (P := P) (by rw [up_n _ _ (by omega)]; exact hP5) h6 hp6 hr (up_s _ _ _) (x_row (va_up σ 1 τ') 5 32 0 0 w)
        obtain ⟨σ2, u1, u2⟩ := g2 σ1 (fun j hj => by rw [t3, rowK_rd]; exact hw j hj)
        refine ⟨nI c, va_up σ 1 τ', x_row σ2 5 31 0 0 (vv σ), ?_, ?_, Inv_trial hI hn g3 (fr_trans (fr_32 _ w) (fr_trans t2 u2))⟩
        · rw [fX5_burstCapacity, c_queueAt_t hP0 h6 hp hr, b_s]
          show x_g (ok3 (0, p, r)) (x_b (fX5_isOutside (nI sz) 1 12 σ) _) = _
          rw [ok3_t (by decide) (by omega) hr, g_t, c_out, b_s, if_pos hx, if_pos rfl, c1, b_s, set_own, l_v, c_portAt_t (t_P hW0.1 σ 1) h6 hp, b_s]
          show x_g (ok2 (1, p)) (x_b (fX0_queueAt 1 (nI p) (nI r) (va_up σ 1 (dset τ1 0 0 0 3 0))) _) = _
          rw [ok2_t (by decide) (by omega), g_t, c_queueAt_t (t_P hW0.1 σ 1) h6 hp hr, b_s]
          show x_g (ok3 (1, p, r)) (BX5_burstCapacity_82 (nI sz) 1 p 1 p r x_FU 0 (va_up σ 1 (dset τ1 0 0 0 3 0))) = _
          rw [ok3_t (by decide) (by omega) hr, g_t]
          exact g1 σ
        · have hP5' : (va_up σ 1 τ') 5 31 0 0 1 = nI P := by rw [up_n _ _ (by decide)]; exact hP5
          rw [fX6_burstCapacity, m_isQueue_t hP5' h6 hp hr, b_s, if_neg (by decide), m_in, b_s, if_pos hx, if_neg (by decide), q3, l_v, hk, b_s, row_set, l_v, t1, b_s]
          exact u1
      · refine ⟨-2, σ, σ, ?_, ?_, Inv_mono n σ hI⟩
        · rw [fX5_burstCapacity, c_queueAt_t hP0 h6 hp hr, b_s]
          show x_g (ok3 (0, p, r)) (x_b (fX5_isOutside a3 1 12 σ) _) = _
          rw [ok3_t (by decide) (by omega) hr, g_t, c_out, b_s, if_neg hx, if_neg (by decide)]
        · rw [fX6_burstCapacity, m_isQueue_t hP5 h6 hp hr, b_s, if_neg (by decide), m_in, b_s, if_neg hx, if_pos rfl]
    · refine ⟨-1, σ, σ, ?_, ?_, Inv_mono n σ hI⟩
      · rw [fX5_burstCapacity, c_queueAt_r hP0 h6 hp hb, b_s]
      · rw [fX6_burstCapacity, m_isQueue_r hP5 h6 hp hb, b_s, if_pos rfl]
  · refine ⟨-1, σ, σ, ?_, ?_, Inv_mono n σ hI⟩
    · rw [fX5_burstCapacity, c_queueAt_p hP0 ha, b_s]
    · rw [fX6_burstCapacity, m_isQueue_p hP5 h1 h6 ha, b_s, if_pos rfl]
