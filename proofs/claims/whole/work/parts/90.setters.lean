/-! ===== setters ===== -/
theorem m_set_t {p r P f : Nat} {a lo hi y : Int32} {σ : xS} (hP : σ 5 31 0 0 1 = nI P) (h6 : P ≤ 6) (hp : p < P) (hr : r < 3) (hf : f < 16) (hy : y = nI f) (ha : lo ≤ a ∧ a ≤ hi) : fX6_set (nI p) (nI r) y a lo hi σ = some (σ 5 31 0 0 (iq (3 * p + r) f), x_row σ 5 31 0 0 (va_up (σ 5 31 0 0) (iq (3 * p + r) f) a)) := by
  subst hy
  rw [fX6_set, m_isQueue_t hP h6 hp hr, b_s, if_neg (by decide), m_in, b_s, if_pos ha, if_neg (by decide), q3, m_queueN, b_s, in_nI (by omega) (by omega), g_t, l_v, g_t, l_v, nI_clamp (by omega)]
  rfl
theorem m_set_v {p r P : Nat} {a lo hi y : Int32} {σ : xS} (hP : σ 5 31 0 0 1 = nI P) (h6 : P ≤ 6) (hp : p < P) (hr : r < 3) (ha : ¬ (lo ≤ a ∧ a ≤ hi)) : fX6_set (nI p) (nI r) y a lo hi σ = some (-2, σ) := by
  rw [fX6_set, m_isQueue_t hP h6 hp hr, b_s, if_neg (by decide), m_in, b_s, if_neg ha, if_pos rfl]
theorem m_set_p {P : Nat} {x x2 a lo hi y : Int32} {σ : xS} (hP : σ 5 31 0 0 1 = nI P) (h1 : 1 ≤ P) (h6 : P ≤ 6) (hx : x < 0 ∨ nI P ≤ x) : fX6_set x x2 y a lo hi σ = some (-1, σ) := by
  rw [fX6_set, m_isQueue_p hP h1 h6 hx, b_s, if_pos rfl]
theorem m_set_r {p P : Nat} {x2 a lo hi y : Int32} {σ : xS} (hP : σ 5 31 0 0 1 = nI P) (h6 : P ≤ 6) (hp : p < P) (hx : x2 < 0 ∨ 3 ≤ x2) : fX6_set (nI p) x2 y a lo hi σ = some (-1, σ) := by
  rw [fX6_set, m_isQueue_r hP h6 hp hx, b_s, if_pos rfl]
theorem xp3 : xP3 Inv := by
  intro n σ a1 a2 a3 hI hn
  obtain ⟨C, P, hG, hQ, hPp, hLs, hDd, hRf, wP, wQ, wT, wS, wN, hM, hX, hgr, hb⟩ := Inv_RR hI hn
  obtain ⟨hP5, hP0, h1, h6⟩ := b_P hG hDd
  have hRR := RR_mono (show n < 1000 by omega) (Inv_RR hI hn)
  have hpr := Inv_pr hI hn
  rcases ix_cases a1 h6 with ⟨p, hp, rfl⟩ | ha
  · rcases ix3 a2 with ⟨r, hr, rfl⟩ | hb2
    · by_cases hr3 : 0 ≤ a3 ∧ a3 ≤ 64
      · refine ⟨σ 5 31 0 0 (iq (3 * p + r) 0), va_up σ 0 (dset (σ 0) 16 p r 1 a3), st2 σ (dset (σ 0) 16 p r 1 a3) (va_up (vv σ) (iq (3 * p + r) 0) a3), ?_, ?_, Inv_st2 hI hn (RR_setQ (by omega) hr rfl (Or.inl ⟨rfl, hr3⟩) hRR) (pr_set (Or.inr (by decide)) hpr)⟩
        · rw [fX5_setAlpha, c_queueAt_t hP0 h6 hp hr, b_s]
          show x_g (ok3 (0, p, r)) _ = _
          rw [ok3_t (by decide) (by omega) hr, g_t, c_out, b_s, if_pos hr3, if_pos rfl, l_v, l_v]
          show some (σ 0 16 p r 1, x_set σ 0 16 p r 1 a3) = _
          rw [hQ p r 1 0 (by omega) hr rfl, x_set_up]
        · rw [fX6_setAlpha, m_set_t (f := 0) (y := 0) (σ := va_up σ 0 (dset (σ 0) 16 p r 1 a3)) hP5 h6 hp hr (by decide) rfl hr3, b_s]
          rfl
      · refine ⟨-2, σ, σ, ?_, ?_, Inv_mono n σ hI⟩
        · rw [fX5_setAlpha, c_queueAt_t hP0 h6 hp hr, b_s]
          show x_g (ok3 (0, p, r)) _ = _
          rw [ok3_t (by decide) (by omega) hr, g_t, c_out, b_s, if_neg hr3, if_neg (by decide)]
        · rw [fX6_setAlpha, m_set_v hP5 h6 hp hr hr3, b_s]
    · refine ⟨-1, σ, σ, ?_, ?_, Inv_mono n σ hI⟩
      · rw [fX5_setAlpha, c_queueAt_r hP0 h6 hp hb2, b_s]
      · rw [fX6_setAlpha, m_set_r hP5 h6 hp hb2, b_s]
  · refine ⟨-1, σ, σ, ?_, ?_, Inv_mono n σ hI⟩
    · rw [fX5_setAlpha, c_queueAt_p hP0 ha, b_s]
    · rw [fX6_setAlpha, m_set_p hP5 h1 h6 ha, b_s]
theorem xp7 : xP7 Inv := by
  intro n σ a1 a2 a3 hI hn
  obtain ⟨C, P, hG, hQ, hPp, hLs, hDd, hRf, wP, wQ, wT, wS, wN, hM, hX, hgr, hb⟩ := Inv_RR hI hn
  obtain ⟨hP5, hP0, h1, h6⟩ := b_P hG hDd
  have hRR := RR_mono (show n < 1000 by omega) (Inv_RR hI hn)
  have hpr := Inv_pr hI hn
  rcases ix_cases a1 h6 with ⟨p, hp, rfl⟩ | ha
  · rcases ix3 a2 with ⟨r, hr, rfl⟩ | hb2
    · by_cases hr3 : 1 ≤ a3 ∧ a3 ≤ 16
      · refine ⟨σ 5 31 0 0 (iq (3 * p + r) 4), va_up σ 0 (dset (σ 0) 16 p r 5 a3), st2 σ (dset (σ 0) 16 p r 5 a3) (va_up (vv σ) (iq (3 * p + r) 4) a3), ?_, ?_, Inv_st2 hI hn (RR_setQ (by omega) hr rfl (Or.inr (Or.inr (Or.inr (Or.inr (Or.inl ⟨rfl, hr3⟩))))) hRR) (pr_set (Or.inr (by decide)) hpr)⟩
        · rw [fX5_setQuantum, c_queueAt_t hP0 h6 hp hr, b_s]
          show x_g (ok3 (0, p, r)) _ = _
          rw [ok3_t (by decide) (by omega) hr, g_t, c_out, b_s, if_pos hr3, if_pos rfl, l_v, l_v]
          show some (σ 0 16 p r 5, x_set σ 0 16 p r 5 a3) = _
          rw [hQ p r 5 4 (by omega) hr rfl, x_set_up]
        · rw [fX6_setQuantum, m_set_t (f := 4) (y := 4) (σ := va_up σ 0 (dset (σ 0) 16 p r 5 a3)) hP5 h6 hp hr (by decide) rfl hr3, b_s]
          rfl
      · refine ⟨-2, σ, σ, ?_, ?_, Inv_mono n σ hI⟩
        · rw [fX5_setQuantum, c_queueAt_t hP0 h6 hp hr, b_s]
          show x_g (ok3 (0, p, r)) _ = _
          rw [ok3_t (by decide) (by omega) hr, g_t, c_out, b_s, if_neg hr3, if_neg (by decide)]
        · rw [fX6_setQuantum, m_set_v hP5 h6 hp hr hr3, b_s]
    · refine ⟨-1, σ, σ, ?_, ?_, Inv_mono n σ hI⟩
      · rw [fX5_setQuantum, c_queueAt_r hP0 h6 hp hb2, b_s]
      · rw [fX6_setQuantum, m_set_r hP5 h6 hp hb2, b_s]
  · refine ⟨-1, σ, σ, ?_, ?_, Inv_mono n σ hI⟩
    · rw [fX5_setQuantum, c_queueAt_p hP0 ha, b_s]
    · rw [fX6_setQuantum, m_set_p hP5 h1 h6 ha, b_s]
theorem xp4 : xP4 Inv := by
  intro n σ a1 a2 a3 a4 hI hn
  obtain ⟨C, P, hG, hQ, hPp, hLs, hDd, hRf, wP, wQ, wT, wS, wN, hM, hX, hgr, hb⟩ := Inv_RR hI hn
  obtain ⟨hP5, hP0, h1, h6⟩ := b_P hG hDd
  have hRR := RR_mono (show n < 1000 by omega) (Inv_RR hI hn)
  have hpr := Inv_pr hI hn
  rcases ix_cases a1 h6 with ⟨p, hp, rfl⟩ | ha
  · rcases ix3 a2 with ⟨r, hr, rfl⟩ | hb2
    · by_cases hr3 : 0 ≤ a3 ∧ a3 ≤ 32
      · by_cases hr4 : 0 ≤ a4 ∧ a4 ≤ 8
        · have r1 := RR_setQ (k := 2) (f := 1) (p := p) (r := r) (x := a3) (by omega) hr rfl (Or.inr (Or.inl ⟨rfl, hr3⟩)) hRR
          have r2 := RR_setQ (k := 3) (f := 2) (p := p) (r := r) (x := a4) (by omega) hr rfl (Or.inr (Or.inr (Or.inl ⟨rfl, hr4⟩))) r1
          have r3 := RR_setQ (k := 4) (f := 3) (p := p) (r := r) (x := a3) (by omega) hr rfl (Or.inr (Or.inr (Or.inr (Or.inl ⟨rfl, hr3⟩)))) r2
          refine ⟨σ 5 31 0 0 (iq (3 * p + r) 3), va_up σ 0 (dset (dset (dset (σ 0) 16 p r 2 a3) 16 p r 3 a4) 16 p r 4 a3), st2 σ _ _, ?_, ?_, Inv_st2 hI hn r3 (pr_set (Or.inr (by decide)) (pr_set (Or.inr (by decide)) (pr_set (Or.inr (by decide)) hpr)))⟩
          · rw [fX5_setBurst, c_queueAt_t hP0 h6 hp hr, b_s]
            show x_g (ok3 (0, p, r)) _ = _
            rw [ok3_t (by decide) (by omega) hr, g_t, c_out, b_s, if_pos hr3, if_pos rfl, c_out, b_s, if_pos hr4, if_pos rfl, l_v, l_v, l_v, l_v]
            show some (σ 0 16 p r 4, x_set (x_set (x_set σ 0 16 p r 2 a3) 0 16 p r 3 a4) 0 16 p r 4 a3) = _
            rw [hQ p r 4 3 (by omega) hr rfl, x_set_up σ, set_own, set_own]
          · generalize hσ1 : va_up σ 0 (dset (dset (dset (σ 0) 16 p r 2 a3) 16 p r 3 a4) 16 p r 4 a3) = σ1
            have hP51 : σ1 5 31 0 0 1 = nI P := by rw [← hσ1]; exact hP5
            have hv : σ1 5 31 0 0 = σ 5 31 0 0 := by rw [← hσ1]; rfl
            rw [fX6_setBurst, m_isQueue_t hP51 h6 hp hr, b_s, if_neg (by decide), m_in, b_s, if_pos hr3, if_neg (by decide), m_in, b_s, if_pos hr4, if_neg (by decide), q3, l_v, m_queue_3, b_s, in_nI (by omega) (by omega), g_t, l_v, m_queue_1, b_s, in_nI (by omega) (by omega), g_t, l_v, m_queue_2, b_s, in_nI (by omega) (by omega), g_t, l_v, m_queue_3, b_s, in_nI (by omega) (by omega), g_t, l_v, nI_clamp (by omega), nI_clamp (by omega), nI_clamp (by omega), set_row σ1, row_set, row_set, hv, ← hσ1]
            rfl
        · refine ⟨-2, σ, σ, ?_, ?_, Inv_mono n σ hI⟩
          · rw [fX5_setBurst, c_queueAt_t hP0 h6 hp hr, b_s]
            show x_g (ok3 (0, p, r)) _ = _
            rw [ok3_t (by decide) (by omega) hr, g_t, c_out, b_s, if_pos hr3, if_pos rfl, c_out, b_s, if_neg hr4, if_neg (by decide)]
          · rw [fX6_setBurst, m_isQueue_t hP5 h6 hp hr, b_s, if_neg (by decide), m_in, b_s, if_pos hr3, if_neg (by decide), m_in, b_s, if_neg hr4, if_pos rfl]
      · refine ⟨-2, σ, σ, ?_, ?_, Inv_mono n σ hI⟩
        · rw [fX5_setBurst, c_queueAt_t hP0 h6 hp hr, b_s]
          show x_g (ok3 (0, p, r)) _ = _
          rw [ok3_t (by decide) (by omega) hr, g_t, c_out, b_s, if_neg hr3, if_neg (by decide)]
        · rw [fX6_setBurst, m_isQueue_t hP5 h6 hp hr, b_s, if_neg (by decide), m_in, b_s, if_neg hr3, if_pos rfl]
    · refine ⟨-1, σ, σ, ?_, ?_, Inv_mono n σ hI⟩
      · rw [fX5_setBurst, c_queueAt_r hP0 h6 hp hb2, b_s]
      · rw [fX6_setBurst, m_isQueue_r hP5 h6 hp hb2, b_s, if_pos rfl]
  · refine ⟨-1, σ, σ, ?_, ?_, Inv_mono n σ hI⟩
    · rw [fX5_setBurst, c_queueAt_p hP0 ha, b_s]
    · rw [fX6_setBurst, m_isQueue_p hP5 h1 h6 ha, b_s, if_pos rfl]
theorem xp6 : xP6 Inv := by
  intro n σ a1 a2 a3 hI hn hz
  obtain ⟨C, P, hG, hQ, hPp, hLs, hDd, hRf, wP, wQ, wT, wS, wN, hM, hX, hgr, hb⟩ := Inv_RR hI hn
  obtain ⟨hP5, hP0, h1, h6⟩ := b_P hG hDd
  have hRR := RR_mono (show n < 1000 by omega) (Inv_RR hI hn)
  have hpr := Inv_pr hI hn
  rcases ix_cases a1 h6 with ⟨p, hp, rfl⟩ | ha
  · by_cases hr3 : 0 ≤ a3 ∧ a3 ≤ 16
    · have r1 := RR_setP (k := 5) (f := 8) (p := p) (x := a2) (by omega) rfl (Or.inr (Or.inr (Or.inl ⟨rfl, hz⟩))) hRR
      have r2 := RR_setP (k := 6) (f := 5) (p := p) (x := a3) (by omega) rfl (Or.inr (Or.inl ⟨rfl, hr3⟩)) r1
      have esw : va_up (va_up (vv σ) (ip p 8) a2) (ip p 5) a3 = va_up (va_up (vv σ) (ip p 5) a3) (ip p 8) a2 := by
        funext j
        by_cases e1 : j = ip p 5
        · subst e1
          rw [up_s, up_n _ _ (pp (by omega) (by omega) (Or.inr (by omega))), up_s]
        · rw [up_n _ _ e1]
          by_cases e2 : j = ip p 8
          · subst e2; rw [up_s, up_s]
          · rw [up_n _ _ e2, up_n _ _ e2, up_n _ _ e1]
      refine ⟨σ 5 31 0 0 (ip p 5), va_up σ 0 (dset (dset (σ 0) 13 p 0 5 a2) 13 p 0 6 a3), st2 σ _ _, ?_, ?_, Inv_st2 hI hn r2 (pr_set (Or.inl (by decide)) (pr_set (Or.inl (by decide)) hpr))⟩
      · rw [fX5_setScheduler, c_portAt_t hP0 h6 hp, b_s]
        show x_g (ok2 (0, p)) _ = _
        rw [ok2_t (by decide) (by omega), g_t, c_out, b_s, if_pos hr3, if_pos rfl, l_v, hz, g_t, l_v, l_v]
        show some (σ 0 13 p 0 6, x_set (x_set σ 0 13 p 0 5 a2) 0 13 p 0 6 a3) = _
        rw [hPp p 6 5 (by omega) rfl, x_set_up σ, set_own]
      · generalize hσ1 : va_up σ 0 (dset (dset (σ 0) 13 p 0 5 a2) 13 p 0 6 a3) = σ1
        have hP51 : σ1 5 31 0 0 1 = nI P := by rw [← hσ1]; exact hP5
        have hv : σ1 5 31 0 0 = σ 5 31 0 0 := by rw [← hσ1]; rfl
        rw [esw, fX6_setScheduler, m_isPort_t hP51 h6 hp, b_s, if_neg (by decide), m_in, b_s, if_pos hr3, if_neg (by decide), m_port_5, b_s, in_nI (by omega) (by omega), g_t, l_v, m_port_5, b_s, in_nI (by omega) (by omega), g_t, l_v, m_port_8, b_s]
        rcases x_z_or hz with rfl | rfl
        · rw [if_pos rfl, in_nI (by omega) (by omega), g_t, l_v, nI_clamp (by omega), nI_clamp (by omega), set_row σ1, row_set, hv, ← hσ1]
          rfl
        · rw [if_neg (by decide), in_nI (by omega) (by omega), g_t, l_v, nI_clamp (by omega), nI_clamp (by omega), set_row σ1, row_set, hv, ← hσ1]
          rfl
    · refine ⟨-2, σ, σ, ?_, ?_, Inv_mono n σ hI⟩
      · rw [fX5_setScheduler, c_portAt_t hP0 h6 hp, b_s]
        show x_g (ok2 (0, p)) _ = _
        rw [ok2_t (by decide) (by omega), g_t, c_out, b_s, if_neg hr3, if_neg (by decide)]
      · rw [fX6_setScheduler, m_isPort_t hP5 h6 hp, b_s, if_neg (by decide), m_in, b_s, if_neg hr3, if_pos rfl]
  · refine ⟨-1, σ, σ, ?_, ?_, Inv_mono n σ hI⟩
    · rw [fX5_setScheduler, c_portAt_f hP0 ha, b_s]
    · rw [fX6_setScheduler, m_isPort_f hP5 h1 h6 ha, b_s, if_pos rfl]
theorem xp8 : xP8 Inv := by
  intro n σ a1 hI hn hz
  obtain ⟨C, P, hG, hQ, hPp, hLs, hDd, hRf, wP, wQ, wT, wS, wN, hM, hX, hgr, hb⟩ := Inv_RR hI hn
  obtain ⟨hP5, hP0, h1, h6⟩ := b_P hG hDd
  have hRR := RR_mono (show n < 1000 by omega) (Inv_RR hI hn)
  have hpr := Inv_pr hI hn
  have r1 := RR_setPush hz hRR
  refine ⟨σ 5 31 0 0 2, va_up σ 0 (dset (σ 0) 0 0 0 3 a1), st2 σ _ _, ?_, ?_, Inv_st2 hI hn r1 (pr_set (Or.inl (by decide)) hpr)⟩
  · rw [fX5_setPushOut, hDd.2.2.1, c_asNum _ hG.2.2.2.2.2.2.1, b_s, hz, g_t, l_v, x_set_up]
  · rw [fX6_setPushOut, l_v]
    rcases x_z_or hz with rfl | rfl
    · rw [if_pos rfl, l_v, set_row]; rfl
    · rw [if_neg (by decide), l_v, set_row]; rfl
theorem c_lossless {p r : Nat} {a3 : Int32} {σ : xS} (hz : x_z a3 = true) (h7 : x_z (σ 0 16 p r 7) = true) : BX5_setLossless_33 a3 0 p r σ = some (σ 0 16 p r 7, if a3 = 0 then x_set (x_set σ 0 16 p r 7 a3) 0 16 p r 8 0 else x_set σ 0 16 p r 7 a3) := by
  rw [BX5_setLossless_33, c_asNum _ h7, b_s, hz, g_t, l_v]
  by_cases e : a3 = 0
  · rw [if_pos e, if_pos e, l_v]
  · rw [if_neg e, if_neg e]
theorem m_lossless {q : Nat} {a3 : Int32} {σ : xS} (hq : q < 18) (hz : x_z a3 = true) : BX6_setLossless_40 a3 (nI q) σ = some (σ 5 31 0 0 (iq q 9), if a3 = 0 then x_row σ 5 31 0 0 (va_up (va_up (σ 5 31 0 0) (iq q 9) a3) (iq q 10) 0) else x_row σ 5 31 0 0 (va_up (σ 5 31 0 0) (iq q 9) a3)) := by
  rw [BX6_setLossless_40, m_queue_9, b_s, in_nI (by omega) (by omega), g_t, l_v, m_queue_9, b_s]
  rcases x_z_or hz with rfl | rfl
  · rw [if_pos rfl, if_pos rfl, BX6_setLossless_74, in_nI (by omega) (by omega), g_t, l_v, if_pos rfl, m_queue_10, b_s, in_nI (by omega) (by omega), g_t, l_v, nI_clamp (by omega), nI_clamp (by omega), set_row σ, row_set]
  · rw [if_neg (by decide), if_neg (by decide), BX6_setLossless_74, in_nI (by omega) (by omega), g_t, l_v, if_neg (by decide), nI_clamp (by omega), set_row]
theorem xp5 : xP5 Inv := by
  intro n σ a1 a2 a3 hI hn hz
  obtain ⟨C, P, hG, hQ, hPp, hLs, hDd, hRf, wP, wQ, wT, wS, wN, hM, hX, hgr, hb⟩ := Inv_RR hI hn
  obtain ⟨hP5, hP0, h1, h6⟩ := b_P hG hDd
  have hRR := RR_mono (show n < 1000 by omega) (Inv_RR hI hn)
  have hpr := Inv_pr hI hn
  rcases ix_cases a1 h6 with ⟨p, hp, rfl⟩ | ha
  · rcases ix3 a2 with ⟨r, hr, rfl⟩ | hb2
    · have hq18 : 3 * p + r < 18 := by omega
      have z9 : x_z (σ 5 31 0 0 (iq (3 * p + r) 9)) = true := (wQ _ hq18).2.2.2.2.2.2.2.2.2.1
      have e7 : σ 0 16 p r 7 = σ 5 31 0 0 (iq (3 * p + r) 9) := hQ p r 7 9 (by omega) hr rfl
      have e12 : σ 0 16 p r 12 = σ 5 31 0 0 (iq (3 * p + r) 8) := hQ p r 12 8 (by omega) hr rfl
      have r1 := RR_setQ (k := 7) (f := 9) (p := p) (r := r) (x := a3) (by omega) hr rfl (Or.inr (Or.inr (Or.inr (Or.inr (Or.inr (Or.inl ⟨rfl, hz⟩)))))) hRR
      have r2 := RR_setQ (k := 8) (f := 10) (p := p) (r := r) (x := 0) (by omega) hr rfl (Or.inr (Or.inr (Or.inr (Or.inr (Or.inr (Or.inr (Or.inl ⟨rfl, rfl⟩))))))) r1
      by_cases h3 : a3 = 0
      · by_cases h8 : σ 5 31 0 0 (iq (3 * p + r) 8) ≤ 0
        · refine ⟨σ 5 31 0 0 (iq (3 * p + r) 9), va_up σ 0 (dset (dset (σ 0) 16 p r 7 a3) 16 p r 8 0), st2 σ _ _, ?_, ?_, Inv_st2 hI hn r2 (pr_set (Or.inr (by decide)) (pr_set (Or.inr (by decide)) hpr))⟩
          · rw [fX5_setLossless, c_queueAt_t hP0 h6 hp hr, b_s]
            show x_g (ok3 (0, p, r)) (if a3 = 0 then (if σ 0 16 p r 12 ≤ 0 then BX5_setLossless_33 a3 0 p r σ else _) else _) = _
            rw [ok3_t (by decide) (by omega) hr, g_t, if_pos h3, e12, if_pos h8, c_lossless hz (by rw [e7]; exact z9), if_pos h3, e7, x_set_up σ, set_own]
          · generalize hσ1 : va_up σ 0 (dset (dset (σ 0) 16 p r 7 a3) 16 p r 8 0) = σ1
            have hP51 : σ1 5 31 0 0 1 = nI P := by rw [← hσ1]; exact hP5
            have hv : σ1 5 31 0 0 = σ 5 31 0 0 := by rw [← hσ1]; rfl
            rw [fX6_setLossless, m_isQueue_t hP51 h6 hp hr, b_s, if_neg (by decide), q3, l_v, if_pos h3, m_queue_8, b_s, in_nI (by omega) (by omega), g_t, nI_clamp (by omega), hv, if_pos h8, m_lossless hq18 hz, if_pos h3, hv, ← hσ1]
            rfl
        · refine ⟨-4, σ, σ, ?_, ?_, Inv_mono n σ hI⟩
          · rw [fX5_setLossless, c_queueAt_t hP0 h6 hp hr, b_s]
            show x_g (ok3 (0, p, r)) (if a3 = 0 then (if σ 0 16 p r 12 ≤ 0 then BX5_setLossless_33 a3 0 p r σ else _) else _) = _
            rw [ok3_t (by decide) (by omega) hr, g_t, if_pos h3, e12, if_neg h8]
          · rw [fX6_setLossless, m_isQueue_t hP5 h6 hp hr, b_s, if_neg (by decide), q3, l_v, if_pos h3, m_queue_8, b_s, in_nI (by omega) (by omega), g_t, nI_clamp (by omega), if_neg h8]
      · refine ⟨σ 5 31 0 0 (iq (3 * p + r) 9), va_up σ 0 (dset (σ 0) 16 p r 7 a3), st2 σ _ _, ?_, ?_, Inv_st2 hI hn r1 (pr_set (Or.inr (by decide)) hpr)⟩
        · rw [fX5_setLossless, c_queueAt_t hP0 h6 hp hr, b_s]
          show x_g (ok3 (0, p, r)) (if a3 = 0 then _ else BX5_setLossless_33 a3 0 p r σ) = _
          rw [ok3_t (by decide) (by omega) hr, g_t, if_neg h3, c_lossless hz (by rw [e7]; exact z9), if_neg h3, e7, x_set_up σ]
        · generalize hσ1 : va_up σ 0 (dset (σ 0) 16 p r 7 a3) = σ1
          have hP51 : σ1 5 31 0 0 1 = nI P := by rw [← hσ1]; exact hP5
          have hv : σ1 5 31 0 0 = σ 5 31 0 0 := by rw [← hσ1]; rfl
          rw [fX6_setLossless, m_isQueue_t hP51 h6 hp hr, b_s, if_neg (by decide), q3, l_v, if_neg h3, m_lossless hq18 hz, if_neg h3, hv, ← hσ1]
          rfl
    · refine ⟨-1, σ, σ, ?_, ?_, Inv_mono n σ hI⟩
      · rw [fX5_setLossless, c_queueAt_r hP0 h6 hp hb2, b_s]
      · rw [fX6_setLossless, m_isQueue_r hP5 h6 hp hb2, b_s, if_pos rfl]
  · refine ⟨-1, σ, σ, ?_, ?_, Inv_mono n σ hI⟩
    · rw [fX5_setLossless, c_queueAt_p hP0 ha, b_s]
    · rw [fX6_setLossless, m_isQueue_p hP5 h1 h6 ha, b_s, if_pos rfl]
-- texts
theorem Inv_tx {n : Nat} {σ σ2 : xS} (hI : Inv n σ) (hn : n < 512) (h0 : ∀ d, d < 4 → σ2 d = σ d) (h4 : σ2 4 22 = σ 4 22) (h5 : σ2 5 31 = σ 5 31 ∧ σ2 5 33 = σ 5 33 ∧ σ2 5 34 = σ 5 34) (ht : tx σ2) : Inv (n + 1) σ2 := by
  intro _
  obtain ⟨g1, g2, g3, g4⟩ := hI (by omega)
  refine ⟨?_, fun j hj => ?_, ht, fun d p r hd hp hr => ?_⟩
  · have e : vv σ2 = vv σ := by show σ2 5 31 0 0 = σ 5 31 0 0; rw [h5.1]
    rw [h0 0 (by decide), e]
    exact RR_mono (by omega) g1
  · rw [h4, h5.2.1, h5.2.2, h0 (2 + j) (by omega)]
    exact ⟨(g2 j hj).1, (g2 j hj).2.1, fun e => RR_mono (by omega) ((g2 j hj).2.2 e)⟩
  · rw [h0 d hd]
    exact g4 d p r hd hp hr
theorem xp48 : xP48 Inv := by
  intro n σ hI hn
  obtain ⟨g1, g2, ⟨len, hl, e1, e2, e3⟩, g4⟩ := hI (by omega)
  refine ⟨nI len, x_set σ 4 23 0 0 1 0, x_set (x_set σ 4 23 0 0 1 0) 5 30 0 0 5 0, ?_, ?_, ?_⟩
  · rw [fX5_clearText, l_v, l_v, e1]
  · rw [fX6_clearText, l_v, l_v]
    show some (σ 5 30 0 0 5, _) = _
    rw [e2]
  · refine Inv_tx hI hn (fun d hd => ?_) rfl ⟨rfl, rfl, rfl⟩ ⟨0, by omega, rfl, rfl, fun i hi => by omega⟩
    rw [rd_dev _ _ _ _ _ _ (by omega), rd_dev _ _ _ _ _ _ (by omega)]
theorem xp47 : xP47 Inv := by
  intro n σ a1 hI hn
  obtain ⟨g1, g2, ⟨len, hl, e1, e2, e3⟩, g4⟩ := hI (by omega)
  by_cases hr : 0 ≤ a1 ∧ a1 ≤ 127
  · by_cases h120 : len = 120
    · subst h120
      refine ⟨-3, σ, σ, ?_, ?_, Inv_mono n σ hI⟩
      · rw [fX5_append, c_out, b_s, if_pos hr, if_pos rfl, e1, if_neg (by decide)]
      · rw [fX6_append, m_in, b_s, if_pos hr, if_neg (by decide), e2, if_pos (show nI 120 = 120 from rfl)]
    · have hlt : len < 120 := by omega
      refine ⟨nI (len + 1), x_set (x_set σ 4 24 0 0 len a1) 4 23 0 0 1 (nI (len + 1)), x_set (x_set (x_set (x_set σ 4 24 0 0 len a1) 4 23 0 0 1 (nI (len + 1))) 5 35 0 0 len a1) 5 30 0 0 5 (nI (len + 1)), ?_, ?_, ?_⟩
      · rw [fX5_append, c_out, b_s, if_pos hr, if_pos rfl, e1, if_pos (show nI len < 120 from nI_lt (b := 120) hlt (by omega)), l_v, in_nI hlt (by omega), g_t, l_v, l_v, nI_clamp (by omega)]
        have e5 : x_set σ 4 24 0 0 len a1 4 23 0 0 1 + 1 = nI (len + 1) := by
          rw [rd_set, if_neg (fun q => by omega), e1]
          exact nI_1 len
        rw [e5, rd_same]
      · generalize hσ1 : x_set (x_set σ 4 24 0 0 len a1) 4 23 0 0 1 (nI (len + 1)) = σ1
        have e21 : σ1 5 30 0 0 5 = nI len := by rw [← hσ1]; exact e2
        have ne : ¬ nI len = 120 := fun q => by
          have := (nI_eq (a := len) (b := 120) (by omega) (by omega)).mp q
          omega
        rw [fX6_append, m_in, b_s, if_pos hr, if_neg (by decide), e21, if_neg ne, l_v, in_nI hlt (by omega), g_t, l_v, l_v, nI_clamp (by omega)]
        have e5 : x_set σ1 5 35 0 0 len a1 5 30 0 0 5 + 1 = nI (len + 1) := by
          rw [rd_set, if_neg (fun q => by omega), e21]
          exact nI_1 len
        rw [e5, rd_same]
      · refine Inv_tx hI hn (fun d hd => ?_) rfl ⟨rfl, rfl, rfl⟩ ⟨len + 1, by omega, rfl, rfl, fun i hi => ?_⟩
        · rw [rd_dev _ _ _ _ _ _ (by omega), rd_dev _ _ _ _ _ _ (by omega), rd_dev _ _ _ _ _ _ (by omega), rd_dev _ _ _ _ _ _ (by omega)]
        · have q1 : x_set (x_set (x_set (x_set σ 4 24 0 0 len a1) 4 23 0 0 1 (nI (len + 1))) 5 35 0 0 len a1) 5 30 0 0 5 (nI (len + 1)) 4 24 0 0 i = va_up (σ 4 24 0 0) len a1 i := rfl
          have q2 : x_set (x_set (x_set (x_set σ 4 24 0 0 len a1) 4 23 0 0 1 (nI (len + 1))) 5 35 0 0 len a1) 5 30 0 0 5 (nI (len + 1)) 5 35 0 0 i = va_up (σ 5 35 0 0) len a1 i := rfl
          rw [q1, q2]
          by_cases e : i = len
          · subst e
            rw [up_s, up_s]
            exact ⟨rfl, hr⟩
          · rw [up_n _ _ e, up_n _ _ e]
            exact e3 i (by omega)
  · refine ⟨-2, σ, σ, ?_, ?_, Inv_mono n σ hI⟩
    · rw [fX5_append, c_out, b_s, if_neg hr, if_neg (by decide)]
    · rw [fX6_append, m_in, b_s, if_neg hr, if_pos rfl]
