/-! ===== traffic ===== -/
theorem seed_next {s : Nat} (hs : s < 2 ^ 31) : ∃ s' d, s' < 2 ^ 31 ∧ d < 32768 ∧ (lN s * 1103515245 + 12345) - (lN s * 1103515245 + 12345) / 2147483648 * 2147483648 = lN s' ∧ (lN s' / 65536).toInt32 = nI d := by
  have e1 : lN s * 1103515245 + 12345 = lN (s * 1103515245 + 12345) := by
    show lN s * lN 1103515245 + lN 12345 = _
    rw [lN_mul, lN_add]
  refine ⟨(s * 1103515245 + 12345) % 2147483648, (s * 1103515245 + 12345) % 2147483648 / 65536, by omega, by omega, ?_, ?_⟩
  · rw [e1]
    exact pk_lRem (b := 2147483648) (by omega) (by omega) (by omega)
  · show (lN ((s * 1103515245 + 12345) % 2147483648) / lN 65536).toInt32 = _
    rw [pk_lDiv (by omega) (by omega) (by omega), lN_i]
theorem d_parts {d P : Nat} (hd : d < 32768) (h1 : 1 ≤ P) (h6 : P ≤ 6) : nI d - nI d / nI P * nI P = nI (d % P) ∧ nI d / 8 - nI d / 8 / 3 * 3 = nI (d / 8 % 3) ∧ nI d / 32 - nI d / 32 / 12 * 12 + 1 = nI (d / 32 % 12 + 1) := by
  refine ⟨pk_rem (by omega) (by omega) (by omega), ?_, ?_⟩
  · have e : nI d / 8 = nI (d / 8) := pk_div (d := 8) (by omega) (by omega) (by omega)
    rw [e]; exact mod3 (by omega)
  · have e : nI d / 32 = nI (d / 32) := pk_div (d := 32) (by omega) (by omega) (by omega)
    rw [e]
    have e2 : nI (d / 32) - nI (d / 32) / 12 * 12 = nI (d / 32 % 12) := pk_rem (d := 12) (by omega) (by omega) (by omega)
    rw [e2, nI_1]
theorem tr_in {C P ld : Nat} {a2 tk : Int32} (hld : ld ≤ 3) : ∀ (n a s lo b : Nat) (τ : xD) (v : xV), RW τ v b C P → b + (ld - a) + 10 < 2 ^ 31 → s < 2 ^ 31 → a ≤ ld → ld < n + a → lo + (ld - a) < 1000 → ∃ s' lo' τ' v', s' < 2 ^ 31 ∧ lo' ≤ lo + (ld - a) ∧ (∀ σ k, BX5_traffic_58 a2 (nI ld) (nI P) tk k n (lN s) (nI lo) (nI a) (va_up σ 0 τ) = k (lN s') (nI lo') (tk + 1) (va_up σ 0 τ')) ∧ (∀ σ, ∃ σ', (∀ k, BX6_traffic_45 a2 (nI ld) tk k n (lN s) (nI lo) (nI a) (x_row σ 5 31 0 0 v) = k (lN s') (nI lo') (tk + 1) (x_row σ' 5 31 0 0 v')) ∧ fr σ σ') ∧ RW τ' v' (b + (ld - a)) C P := by
  intro n
  induction n with
  | zero => intro a s lo b τ v h hb hs h1 h2; omega
  | succ n ih =>
    intro a s lo b τ v h hb hs h1 h2 hlo
    have h6 := h.1.1.2.2.2.2.2.1
    have hP1 := h.1.1.2.2.2.2.1
    have hv1 := h.1.1.2.2.2.1
    by_cases e : a < ld
    · obtain ⟨s', d, s1, d1, e1, e2⟩ := seed_next hs
      obtain ⟨p1, p2, p3⟩ := d_parts d1 hP1 h6
      have hp : d % P < P := Nat.mod_lt _ (by omega)
      have hr : d / 8 % 3 < 3 := Nat.mod_lt _ (by omega)
      have hs2 : d / 32 % 12 < 12 := Nat.mod_lt _ (by omega)
      obtain ⟨res, st, τ1, v1, kc, km, kW, -, -⟩ := S_arrive (p := d % P) (r := d / 8 % 3) (sz := d / 32 % 12 + 1) h (by omega) hp hr (by omega) (by omega)
      have hz0 : ¬ nI P = 0 := nI_ne0 (by omega) (by omega)
      obtain ⟨s'', lo'', τ', v', g1, g2, g3, g4, g5⟩ := ih (a + 1) s' (lo + if res = -6 then 1 else 0) (b + 1) τ1 v1 kW (by omega) s1 (by omega) (by omega) (by split <;> omega)
      have hlo' : nI lo + (if res = -6 then 1 else 0 : Int32) = nI (lo + if res = -6 then 1 else 0) := by
        split
        · exact nI_1 lo
        · exact nI_add lo 0
      refine ⟨s'', lo'', τ', v', g1, ?_, fun σ k => ?_, fun σ => ?_, ?_⟩
      · have : (if res = -6 then 1 else 0) ≤ 1 := by split <;> omega
        omega
      · have hla : fX5_lossOfArrivals (some (0, d % P)) (some (0, d % P, d / 8 % 3)) (nI (d / 32 % 12 + 1)) 1 (va_up σ 0 τ) = some (if res = -6 then 1 else 0, va_up σ 0 τ1) := by
          rw [fX5_lossOfArrivals.eq_def]
          show x_g (ok2 (0, d % P)) (x_g (ok3 (0, d % P, d / 8 % 3)) (BX5_lossOfArrivals_16 0 (d % P) 0 (d % P) (d / 8 % 3) (nI (d / 32 % 12 + 1)) 1 (199999 + 1) 0 0 (va_up σ 0 τ))) = _
          rw [ok2_t (by decide) (by omega), g_t, ok3_t (by decide) (by omega) hr, g_t, BX5_lossOfArrivals_16, if_neg (by decide), kc σ 0 (by decide), b_s]
          by_cases y : res = -6
          · rw [if_pos y, if_pos y, l_v, l_v]
            show BX5_lossOfArrivals_16 0 (d % P) 0 (d % P) (d / 8 % 3) (nI (d / 32 % 12 + 1)) 1 (199998 + 1) _ _ _ = _
            rw [BX5_lossOfArrivals_16, if_pos (by decide)]
            rfl
          · rw [if_neg y, if_neg y, l_v]
            show BX5_lossOfArrivals_16 0 (d % P) 0 (d % P) (d / 8 % 3) (nI (d / 32 % 12 + 1)) 1 (199998 + 1) _ _ _ = _
            rw [BX5_lossOfArrivals_16, if_pos (by decide)]
        rw [BX5_traffic_58, if_neg (nI_ge e (by omega)), e1, l_v, e2, l_v, if_neg hz0, p1, c_portAt_t (t_P h.1 σ 0) h6 hp, b_s]
        show x_g (ok2 (0, d % P)) (if nI P = 0 then none else x_b (fX0_queueAt 0 (nI (d % P)) (nI d / 8 - nI d / 8 / 3 * 3) (va_up σ 0 τ)) _) = _
        rw [ok2_t (by decide) (by omega), g_t, if_neg hz0, p2, c_queueAt_t (t_P h.1 σ 0) h6 hp hr, b_s]
        show x_g (ok3 (0, d % P, d / 8 % 3)) (x_b (fX5_lossOfArrivals (some (0, d % P)) (some (0, d % P, d / 8 % 3)) (nI d / 32 - nI d / 32 / 12 * 12 + 1) 1 (va_up σ 0 τ)) fun z24 s24 => x_let (nI lo + z24) fun t25 => x_let (nI a + 1) fun t26 => (BX5_traffic_58 a2 (nI ld) (nI P) tk k n) (lN s') t25 t26 s24) = _
        rw [ok3_t (by decide) (by omega) hr, g_t, p3, hla, b_s, hlo', l_v, l_v, nI_1, g3]
      · obtain ⟨σ1, s1', s2'⟩ := km σ
        obtain ⟨σ2, t1, t2⟩ := g4 σ1
        refine ⟨σ2, fun k => ?_, fr_trans s2' t2⟩
        rw [BX6_traffic_45, if_neg (nI_ge e (by omega)), e1, l_v, e2, l_v, row_rd, hv1, if_neg hz0, p1, p2, p3, q3, l_v, s1', b_s]
        by_cases y : res = -6
        · rw [if_pos y, l_v, l_v, nI_1, nI_1]
          rw [if_pos y] at t1
          exact t1 k
        · rw [if_neg y, l_v, l_v, nI_1, show nI lo + 0 = nI (lo + 0) from nI_add lo 0]
          rw [if_neg y] at t1
          exact t1 k
      · rw [show b + (ld - a) = b + 1 + (ld - (a + 1)) by omega]; exact g5
    · have : a = ld := by omega
      subst this
      obtain ⟨m, τ', v', k1, k2, k3⟩ := S_tick h
      refine ⟨s, lo, τ', v', hs, by omega, fun σ k => ?_, fun σ => ⟨σ, fun k => ?_, fr_refl σ⟩, ?_⟩
      · rw [BX5_traffic_58, if_pos (nI_le (Nat.le_refl _) (by omega)), k1 σ 0 (by decide), b_s, l_v]
      · rw [BX6_traffic_45, if_pos (nI_le (Nat.le_refl _) (by omega)), k2, b_s, l_v]
      · rw [Nat.sub_self, Nat.add_zero]; exact k3
theorem tr_out {C P ld N : Nat} (hld : ld ≤ 3) (hN : N ≤ 16) : ∀ (n t s lo b : Nat) (τ : xD) (v : xV), RW τ v b C P → b + 3 * (N - t) + 20 < 2 ^ 31 → s < 2 ^ 31 → t ≤ N → N < n + t → lo + 3 * (N - t) < 900 → ∃ lo' τ' v', (∀ σ, BX5_traffic_49 (nI N) (nI ld) (nI P) n (lN s) (nI lo) (nI t) (va_up σ 0 τ) = some (nI lo', va_up σ 0 τ')) ∧ (∀ σ, ∃ σ', BX6_traffic_36 (nI N) (nI ld) n (lN s) (nI lo) (nI t) (x_row σ 5 31 0 0 v) = some (nI lo', x_row σ' 5 31 0 0 v') ∧ fr σ σ') ∧ RW τ' v' (b + 3 * (N - t)) C P := by
  intro n
  induction n with
  | zero => intro t s lo b τ v h hb hs h1 h2; omega
  | succ n ih =>
    intro t s lo b τ v h hb hs h1 h2 hlo
    by_cases e : t < N
    · obtain ⟨s', lo', τ1, v1, g1, g2, g3, g4, g5⟩ := tr_in (a2 := nI N) (tk := nI t) hld x_FU 0 s lo b τ v h (by omega) hs (by omega) (by unfold x_FU; omega) (by omega)
      have hW1 := RW_mono (show b + (ld - 0) ≤ b + 3 by omega) (by omega) g5
      obtain ⟨lo'', τ', v', k1, k2, k3⟩ := ih (t + 1) s' lo' (b + 3) τ1 v1 hW1 (by omega) g1 (by omega) (by omega) (by omega)
      refine ⟨lo'', τ', v', fun σ => ?_, fun σ => ?_, ?_⟩
      · rw [BX5_traffic_49, if_neg (nI_ge e (by omega))]
        refine (g3 σ _).trans ?_
        rw [nI_1, k1]
      · obtain ⟨σ1, t1, t2⟩ := g4 σ
        obtain ⟨σ2, u1, u2⟩ := k2 σ1
        refine ⟨σ2, ?_, fr_trans t2 u2⟩
        rw [BX6_traffic_36, if_neg (nI_ge e (by omega))]
        refine (t1 _).trans ?_
        rw [nI_1, u1]
      · rw [show b + 3 * (N - t) = b + 3 + 3 * (N - (t + 1)) by omega]; exact k3
    · have : t = N := by omega
      subst this
      refine ⟨lo, τ, v, fun σ => ?_, fun σ => ⟨σ, ?_, fr_refl σ⟩, ?_⟩
      · rw [BX5_traffic_49, if_pos (nI_le (Nat.le_refl _) (by omega))]
      · rw [BX6_traffic_36, if_pos (nI_le (Nat.le_refl _) (by omega))]
      · rw [Nat.sub_self, Nat.mul_zero, Nat.add_zero]; exact h
theorem xp14 : xP14 Inv := by
  intro n σ a1 a2 a3 hI hn
  obtain ⟨C, P, hW⟩ := RW_of hI hn
  obtain ⟨hP5, hP0, h1, h6⟩ := w_P hW
  by_cases hs : a1 < 0
  · refine ⟨-2, σ, σ, ?_, ?_, Inv_mono n σ hI⟩
    · rw [fX5_traffic, if_pos hs]
    · rw [fX6_traffic, if_pos hs]
  · by_cases hx : 1 ≤ a2 ∧ a2 ≤ 16
    · by_cases hy : 1 ≤ a3 ∧ a3 ≤ 3
      · obtain ⟨s, s1, rfl⟩ := nI_of hs
        obtain ⟨N, N1, N2, rfl⟩ := rng_nI (lo := 1) (hi := 16) (by omega) (by omega) hx
        obtain ⟨ld, l1, l2, rfl⟩ := rng_nI (lo := 1) (hi := 3) (by omega) (by omega) hy
        obtain ⟨lo', τ', v', kc, km, kW⟩ := tr_out (ld := ld) (N := N) l2 N2 x_FU 0 s 0 (1000 * n) (σ 0) (vv σ) hW (by omega) s1 (by omega) (by unfold x_FU; omega) (by omega)
        have kc' := kc σ
        rw [up_id] at kc'
        have hmax : i_max 1 (nI P) = nI P := by
          unfold i_max
          by_cases z : P = 1
          · subst z; rw [if_neg (by decide)]; rfl
          · rw [if_pos (show (1 : Int32) < nI P from nI_lt (a := 1) (by omega) (by omega))]
        refine close3 (τ' := τ') (v' := v') (r := nI lo') (fc := fX5_traffic (nI s) (nI N) (nI ld)) (fm := fX6_traffic (nI s) (nI N) (nI ld)) hI hn ?_ ?_ (RW_RR (RW_mono (by omega) (by omega) kW)) kW.2.2.2
        · rw [up_id, fX5_traffic, if_neg hs, c_out, b_s, if_pos hx, if_pos rfl, c_out, b_s, if_pos hy, if_pos rfl, hP0, hmax, l_v, nI_l s1, l_v]
          exact kc'
        · obtain ⟨σ', t1, t2⟩ := km (va_up σ 0 τ')
          refine ⟨σ', ?_, t2⟩
          rw [fX6_traffic, if_neg hs, m_in, b_s, if_pos hx, if_neg (by decide), m_in, b_s, if_pos hy, if_neg (by decide), nI_l s1, l_v]
          exact t1
      · refine ⟨-2, σ, σ, ?_, ?_, Inv_mono n σ hI⟩
        · rw [fX5_traffic, if_neg hs, c_out, b_s, if_pos hx, if_pos rfl, c_out, b_s, if_neg hy, if_neg (by decide)]
        · rw [fX6_traffic, if_neg hs, m_in, b_s, if_pos hx, if_neg (by decide), m_in, b_s, if_neg hy, if_pos rfl]
    · refine ⟨-2, σ, σ, ?_, ?_, Inv_mono n σ hI⟩
      · rw [fX5_traffic, if_neg hs, c_out, b_s, if_neg hx, if_neg (by decide)]
      · rw [fX6_traffic, if_neg hs, m_in, b_s, if_neg hx, if_pos rfl]
