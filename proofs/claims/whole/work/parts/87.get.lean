/-! ===== getters ===== -/
theorem Inv_RR {n : Nat} {σ : xS} (hI : Inv n σ) (hn : n < 512) : RR (σ 0) (vv σ) n := (hI (by omega)).1
theorem b_P {σ : xS} {C P : Nat} (hG : wfG (vv σ) C P) (hD : cfD (σ 0) (vv σ)) : σ 5 31 0 0 1 = nI P ∧ σ 0 0 0 0 2 = nI P ∧ 1 ≤ P ∧ P ≤ 6 := ⟨hG.2.2.2.1, hD.2.1.trans hG.2.2.2.1, hG.2.2.2.2.1, hG.2.2.2.2.2.1⟩

theorem xp20 : xP20 Inv := by
  intro n σ a1 a2 hI hn
  obtain ⟨C, P, hG, hQ, hPp, hLs, hDd, hRf, wP, wQ, wT, wS, wN, hM, hX, hgr, hb⟩ := Inv_RR hI hn
  obtain ⟨hP5, hP0, h1, h6⟩ := b_P hG hDd
  rcases ix_cases a1 h6 with ⟨p, hp, rfl⟩ | ha
  · rcases ix3 a2 with ⟨r, hr, rfl⟩ | hb2
    · refine ⟨σ 5 31 0 0 (iq (3 * p + r) 6), σ, σ, ?_, ?_, Inv_mono n σ hI⟩
      · rw [fX5_guaranteedCells, c_queueAt_t hP0 h6 hp hr, b_s]
        show x_g (ok3 (0, p, r)) _ = _
        rw [ok3_t (by decide) (by omega) hr, g_t]
        show some (σ 0 16 p r 10, σ) = _
        rw [hQ p r 10 6 (by omega) hr rfl]
      · rw [fX6_guaranteedCells, m_ofQueue_t (f := 6) hP5 h6 hp hr (by decide) 6 rfl, b_s]
    · refine ⟨-1, σ, σ, ?_, ?_, Inv_mono n σ hI⟩
      · rw [fX5_guaranteedCells, c_queueAt_r hP0 h6 hp hb2, b_s]
      · rw [fX6_guaranteedCells, m_ofQueue_r hP5 h6 hp hb2, b_s]
  · refine ⟨-1, σ, σ, ?_, ?_, Inv_mono n σ hI⟩
    · rw [fX5_guaranteedCells, c_queueAt_p hP0 ha, b_s]
    · rw [fX6_guaranteedCells, m_ofQueue_p hP5 h1 h6 ha, b_s]
theorem xp21 : xP21 Inv := by
  intro n σ a1 a2 hI hn
  obtain ⟨C, P, hG, hQ, hPp, hLs, hDd, hRf, wP, wQ, wT, wS, wN, hM, hX, hgr, hb⟩ := Inv_RR hI hn
  obtain ⟨hP5, hP0, h1, h6⟩ := b_P hG hDd
  rcases ix_cases a1 h6 with ⟨p, hp, rfl⟩ | ha
  · rcases ix3 a2 with ⟨r, hr, rfl⟩ | hb2
    · refine ⟨σ 5 31 0 0 (iq (3 * p + r) 7), σ, σ, ?_, ?_, Inv_mono n σ hI⟩
      · rw [fX5_sharedCells, c_queueAt_t hP0 h6 hp hr, b_s]
        show x_g (ok3 (0, p, r)) _ = _
        rw [ok3_t (by decide) (by omega) hr, g_t]
        show some (σ 0 16 p r 11, σ) = _
        rw [hQ p r 11 7 (by omega) hr rfl]
      · rw [fX6_sharedCells, m_ofQueue_t (f := 7) hP5 h6 hp hr (by decide) 7 rfl, b_s]
    · refine ⟨-1, σ, σ, ?_, ?_, Inv_mono n σ hI⟩
      · rw [fX5_sharedCells, c_queueAt_r hP0 h6 hp hb2, b_s]
      · rw [fX6_sharedCells, m_ofQueue_r hP5 h6 hp hb2, b_s]
  · refine ⟨-1, σ, σ, ?_, ?_, Inv_mono n σ hI⟩
    · rw [fX5_sharedCells, c_queueAt_p hP0 ha, b_s]
    · rw [fX6_sharedCells, m_ofQueue_p hP5 h1 h6 ha, b_s]
theorem xp22 : xP22 Inv := by
  intro n σ a1 a2 hI hn
  obtain ⟨C, P, hG, hQ, hPp, hLs, hDd, hRf, wP, wQ, wT, wS, wN, hM, hX, hgr, hb⟩ := Inv_RR hI hn
  obtain ⟨hP5, hP0, h1, h6⟩ := b_P hG hDd
  rcases ix_cases a1 h6 with ⟨p, hp, rfl⟩ | ha
  · rcases ix3 a2 with ⟨r, hr, rfl⟩ | hb2
    · refine ⟨σ 5 31 0 0 (iq (3 * p + r) 8), σ, σ, ?_, ?_, Inv_mono n σ hI⟩
      · rw [fX5_headroomCells, c_queueAt_t hP0 h6 hp hr, b_s]
        show x_g (ok3 (0, p, r)) _ = _
        rw [ok3_t (by decide) (by omega) hr, g_t]
        show some (σ 0 16 p r 12, σ) = _
        rw [hQ p r 12 8 (by omega) hr rfl]
      · rw [fX6_headroomCells, m_ofQueue_t (f := 8) hP5 h6 hp hr (by decide) 8 rfl, b_s]
    · refine ⟨-1, σ, σ, ?_, ?_, Inv_mono n σ hI⟩
      · rw [fX5_headroomCells, c_queueAt_r hP0 h6 hp hb2, b_s]
      · rw [fX6_headroomCells, m_ofQueue_r hP5 h6 hp hb2, b_s]
  · refine ⟨-1, σ, σ, ?_, ?_, Inv_mono n σ hI⟩
    · rw [fX5_headroomCells, c_queueAt_p hP0 ha, b_s]
    · rw [fX6_headroomCells, m_ofQueue_p hP5 h1 h6 ha, b_s]
theorem xp23 : xP23 Inv := by
  intro n σ a1 a2 hI hn
  obtain ⟨C, P, hG, hQ, hPp, hLs, hDd, hRf, wP, wQ, wT, wS, wN, hM, hX, hgr, hb⟩ := Inv_RR hI hn
  obtain ⟨hP5, hP0, h1, h6⟩ := b_P hG hDd
  rcases ix_cases a1 h6 with ⟨p, hp, rfl⟩ | ha
  · rcases ix3 a2 with ⟨r, hr, rfl⟩ | hb2
    · refine ⟨σ 5 31 0 0 (iq (3 * p + r) 3), σ, σ, ?_, ?_, Inv_mono n σ hI⟩
      · rw [fX5_burstTank, c_queueAt_t hP0 h6 hp hr, b_s]
        show x_g (ok3 (0, p, r)) _ = _
        rw [ok3_t (by decide) (by omega) hr, g_t]
        show some (σ 0 16 p r 4, σ) = _
        rw [hQ p r 4 3 (by omega) hr rfl]
      · rw [fX6_burstTank, m_ofQueue_t (f := 3) hP5 h6 hp hr (by decide) 3 rfl, b_s]
    · refine ⟨-1, σ, σ, ?_, ?_, Inv_mono n σ hI⟩
      · rw [fX5_burstTank, c_queueAt_r hP0 h6 hp hb2, b_s]
      · rw [fX6_burstTank, m_ofQueue_r hP5 h6 hp hb2, b_s]
  · refine ⟨-1, σ, σ, ?_, ?_, Inv_mono n σ hI⟩
    · rw [fX5_burstTank, c_queueAt_p hP0 ha, b_s]
    · rw [fX6_burstTank, m_ofQueue_p hP5 h1 h6 ha, b_s]
theorem xp24 : xP24 Inv := by
  intro n σ a1 a2 hI hn
  obtain ⟨C, P, hG, hQ, hPp, hLs, hDd, hRf, wP, wQ, wT, wS, wN, hM, hX, hgr, hb⟩ := Inv_RR hI hn
  obtain ⟨hP5, hP0, h1, h6⟩ := b_P hG hDd
  rcases ix_cases a1 h6 with ⟨p, hp, rfl⟩ | ha
  · rcases ix3 a2 with ⟨r, hr, rfl⟩ | hb2
    · refine ⟨σ 5 31 0 0 (iq (3 * p + r) 10), σ, σ, ?_, ?_, Inv_mono n σ hI⟩
      · rw [fX5_isPaused, c_queueAt_t hP0 h6 hp hr, b_s]
        show x_g (ok3 (0, p, r)) _ = _
        rw [ok3_t (by decide) (by omega) hr, g_t]
        show x_b (fX5_asNumber (σ 0 16 p r 8) σ) _ = _
        rw [hQ p r 8 10 (by omega) hr rfl, c_asNum _ (wQ (3 * p + r) (by omega)).2.2.2.2.2.2.2.2.2.2, b_s]
      · rw [fX6_isPaused, m_ofQueue_t (f := 10) hP5 h6 hp hr (by decide) 10 rfl, b_s]
    · refine ⟨-1, σ, σ, ?_, ?_, Inv_mono n σ hI⟩
      · rw [fX5_isPaused, c_queueAt_r hP0 h6 hp hb2, b_s]
      · rw [fX6_isPaused, m_ofQueue_r hP5 h6 hp hb2, b_s]
  · refine ⟨-1, σ, σ, ?_, ?_, Inv_mono n σ hI⟩
    · rw [fX5_isPaused, c_queueAt_p hP0 ha, b_s]
    · rw [fX6_isPaused, m_ofQueue_p hP5 h1 h6 ha, b_s]
theorem xp25 : xP25 Inv := by
  intro n σ a1 a2 hI hn
  obtain ⟨C, P, hG, hQ, hPp, hLs, hDd, hRf, wP, wQ, wT, wS, wN, hM, hX, hgr, hb⟩ := Inv_RR hI hn
  obtain ⟨hP5, hP0, h1, h6⟩ := b_P hG hDd
  rcases ix_cases a1 h6 with ⟨p, hp, rfl⟩ | ha
  · rcases ix3 a2 with ⟨r, hr, rfl⟩ | hb2
    · refine ⟨σ 5 31 0 0 (iq (3 * p + r) 11), σ, σ, ?_, ?_, Inv_mono n σ hI⟩
      · rw [fX5_pauses, c_queueAt_t hP0 h6 hp hr, b_s]
        show x_g (ok3 (0, p, r)) _ = _
        rw [ok3_t (by decide) (by omega) hr, g_t]
        show some (σ 0 16 p r 9, σ) = _
        rw [hQ p r 9 11 (by omega) hr rfl]
      · rw [fX6_pauses, m_ofQueue_t (f := 11) hP5 h6 hp hr (by decide) 11 rfl, b_s]
    · refine ⟨-1, σ, σ, ?_, ?_, Inv_mono n σ hI⟩
      · rw [fX5_pauses, c_queueAt_r hP0 h6 hp hb2, b_s]
      · rw [fX6_pauses, m_ofQueue_r hP5 h6 hp hb2, b_s]
  · refine ⟨-1, σ, σ, ?_, ?_, Inv_mono n σ hI⟩
    · rw [fX5_pauses, c_queueAt_p hP0 ha, b_s]
    · rw [fX6_pauses, m_ofQueue_p hP5 h1 h6 ha, b_s]
theorem xp27 : xP27 Inv := by
  intro n σ a1 a2 hI hn
  obtain ⟨C, P, hG, hQ, hPp, hLs, hDd, hRf, wP, wQ, wT, wS, wN, hM, hX, hgr, hb⟩ := Inv_RR hI hn
  obtain ⟨hP5, hP0, h1, h6⟩ := b_P hG hDd
  rcases ix_cases a1 h6 with ⟨p, hp, rfl⟩ | ha
  · rcases ix3 a2 with ⟨r, hr, rfl⟩ | hb2
    · refine ⟨σ 5 31 0 0 (iq (3 * p + r) 5), σ, σ, ?_, ?_, Inv_mono n σ hI⟩
      · rw [fX5_deficit, c_queueAt_t hP0 h6 hp hr, b_s]
        show x_g (ok3 (0, p, r)) _ = _
        rw [ok3_t (by decide) (by omega) hr, g_t]
        show some (σ 0 16 p r 6, σ) = _
        rw [hQ p r 6 5 (by omega) hr rfl]
      · rw [fX6_deficit, m_ofQueue_t (f := 5) hP5 h6 hp hr (by decide) 5 rfl, b_s]
    · refine ⟨-1, σ, σ, ?_, ?_, Inv_mono n σ hI⟩
      · rw [fX5_deficit, c_queueAt_r hP0 h6 hp hb2, b_s]
      · rw [fX6_deficit, m_ofQueue_r hP5 h6 hp hb2, b_s]
  · refine ⟨-1, σ, σ, ?_, ?_, Inv_mono n σ hI⟩
    · rw [fX5_deficit, c_queueAt_p hP0 ha, b_s]
    · rw [fX6_deficit, m_ofQueue_p hP5 h1 h6 ha, b_s]
theorem xp34 : xP34 Inv := by
  intro n σ a1 a2 hI hn
  obtain ⟨C, P, hG, hQ, hPp, hLs, hDd, hRf, wP, wQ, wT, wS, wN, hM, hX, hgr, hb⟩ := Inv_RR hI hn
  obtain ⟨hP5, hP0, h1, h6⟩ := b_P hG hDd
  rcases ix_cases a1 h6 with ⟨p, hp, rfl⟩ | ha
  · rcases ix3 a2 with ⟨r, hr, rfl⟩ | hb2
    · refine ⟨σ 5 31 0 0 (iq (3 * p + r) 12), σ, σ, ?_, ?_, Inv_mono n σ hI⟩
      · rw [fX5_queueLength, c_queueAt_t hP0 h6 hp hr, b_s]
        show x_g (ok3 (0, p, r)) _ = _
        rw [ok3_t (by decide) (by omega) hr, g_t]
        show some (σ 0 16 p r 15, σ) = _
        rw [hQ p r 15 12 (by omega) hr rfl]
      · rw [fX6_queueLength, m_ofQueue_t (f := 12) hP5 h6 hp hr (by decide) 12 rfl, b_s]
    · refine ⟨-1, σ, σ, ?_, ?_, Inv_mono n σ hI⟩
      · rw [fX5_queueLength, c_queueAt_r hP0 h6 hp hb2, b_s]
      · rw [fX6_queueLength, m_ofQueue_r hP5 h6 hp hb2, b_s]
  · refine ⟨-1, σ, σ, ?_, ?_, Inv_mono n σ hI⟩
    · rw [fX5_queueLength, c_queueAt_p hP0 ha, b_s]
    · rw [fX6_queueLength, m_ofQueue_p hP5 h1 h6 ha, b_s]
theorem xp18 : xP18 Inv := by
  intro n σ a1 hI hn
  obtain ⟨C, P, hG, hQ, hPp, hLs, hDd, hRf, wP, wQ, wT, wS, wN, hM, hX, hgr, hb⟩ := Inv_RR hI hn
  obtain ⟨hP5, hP0, h1, h6⟩ := b_P hG hDd
  rcases ix_cases a1 h6 with ⟨p, hp, rfl⟩ | ha
  · refine ⟨σ 5 31 0 0 (ip p 2), σ, σ, ?_, ?_, Inv_mono n σ hI⟩
    · rw [fX5_grantOf, c_portAt_t hP0 h6 hp, b_s]
      show x_g (ok2 (0, p)) _ = _
      rw [ok2_t (by decide) (by omega), g_t]
      show some (σ 0 13 p 0 4, σ) = _
      rw [hPp p 4 2 (by omega) rfl]
    · rw [fX6_grantOf, m_ofPort_t (f := 2) hP5 h6 hp (by decide) 2 rfl, b_s]
  · refine ⟨-1, σ, σ, ?_, ?_, Inv_mono n σ hI⟩
    · rw [fX5_grantOf, c_portAt_f hP0 ha, b_s]
    · rw [fX6_grantOf, m_ofPort_f hP5 h1 h6 ha, b_s]
theorem xp26 : xP26 Inv := by
  intro n σ a1 hI hn
  obtain ⟨C, P, hG, hQ, hPp, hLs, hDd, hRf, wP, wQ, wT, wS, wN, hM, hX, hgr, hb⟩ := Inv_RR hI hn
  obtain ⟨hP5, hP0, h1, h6⟩ := b_P hG hDd
  rcases ix_cases a1 h6 with ⟨p, hp, rfl⟩ | ha
  · refine ⟨σ 5 31 0 0 (ip p 4), σ, σ, ?_, ?_, Inv_mono n σ hI⟩
    · rw [fX5_credit, c_portAt_t hP0 h6 hp, b_s]
      show x_g (ok2 (0, p)) _ = _
      rw [ok2_t (by decide) (by omega), g_t]
      show some (σ 0 13 p 0 7, σ) = _
      rw [hPp p 7 4 (by omega) rfl]
    · rw [fX6_credit, m_ofPort_t (f := 4) hP5 h6 hp (by decide) 4 rfl, b_s]
  · refine ⟨-1, σ, σ, ?_, ?_, Inv_mono n σ hI⟩
    · rw [fX5_credit, c_portAt_f hP0 ha, b_s]
    · rw [fX6_credit, m_ofPort_f hP5 h1 h6 ha, b_s]
theorem xp29 : xP29 Inv := by
  intro n σ a1 hI hn
  obtain ⟨C, P, hG, hQ, hPp, hLs, hDd, hRf, wP, wQ, wT, wS, wN, hM, hX, hgr, hb⟩ := Inv_RR hI hn
  obtain ⟨hP5, hP0, h1, h6⟩ := b_P hG hDd
  rcases ix_cases a1 h6 with ⟨p, hp, rfl⟩ | ha
  · refine ⟨σ 5 31 0 0 (ip p 10), σ, σ, ?_, ?_, Inv_mono n σ hI⟩
    · rw [fX5_lostCells, c_portAt_t hP0 h6 hp, b_s]
      show x_g (ok2 (0, p)) _ = _
      rw [ok2_t (by decide) (by omega), g_t]
      show some (σ 0 13 p 0 10, σ) = _
      rw [hPp p 10 10 (by omega) rfl]
    · rw [fX6_lostCells, m_ofPort_t (f := 10) hP5 h6 hp (by decide) 10 rfl, b_s]
  · refine ⟨-1, σ, σ, ?_, ?_, Inv_mono n σ hI⟩
    · rw [fX5_lostCells, c_portAt_f hP0 ha, b_s]
    · rw [fX6_lostCells, m_ofPort_f hP5 h1 h6 ha, b_s]
theorem xp31 : xP31 Inv := by
  intro n σ a1 hI hn
  obtain ⟨C, P, hG, hQ, hPp, hLs, hDd, hRf, wP, wQ, wT, wS, wN, hM, hX, hgr, hb⟩ := Inv_RR hI hn
  obtain ⟨hP5, hP0, h1, h6⟩ := b_P hG hDd
  rcases ix_cases a1 h6 with ⟨p, hp, rfl⟩ | ha
  · refine ⟨σ 5 31 0 0 (ip p 9), σ, σ, ?_, ?_, Inv_mono n σ hI⟩
    · rw [fX5_departed, c_portAt_t hP0 h6 hp, b_s]
      show x_g (ok2 (0, p)) _ = _
      rw [ok2_t (by decide) (by omega), g_t]
      show some (σ 0 13 p 0 11, σ) = _
      rw [hPp p 11 9 (by omega) rfl]
    · rw [fX6_departed, m_ofPort_t (f := 9) hP5 h6 hp (by decide) 9 rfl, b_s]
  · refine ⟨-1, σ, σ, ?_, ?_, Inv_mono n σ hI⟩
    · rw [fX5_departed, c_portAt_f hP0 ha, b_s]
    · rw [fX6_departed, m_ofPort_f hP5 h1 h6 ha, b_s]
theorem xp15 : xP15 Inv := by
  intro n σ hI hn
  obtain ⟨C, P, hG, hQ, hPp, hLs, hDd, hRf, wP, wQ, wT, wS, wN, hM, hX, hgr, hb⟩ := Inv_RR hI hn
  obtain ⟨hP5, hP0, h1, h6⟩ := b_P hG hDd
  refine ⟨mFree (vv σ) P, σ, σ, ?_, ?_, Inv_mono n σ hI⟩
  · rw [fX5_freeShared, c_free hP0 h6, b_s, cFree_eq hDd.1 hPp hQ h6]
  · rw [fX6_freeShared, m_free hP5 h6, b_s]
theorem xp16 : xP16 Inv := by
  intro n σ hI hn
  obtain ⟨C, P, hG, hQ, hPp, hLs, hDd, hRf, wP, wQ, wT, wS, wN, hM, hX, hgr, hb⟩ := Inv_RR hI hn
  obtain ⟨hP5, hP0, h1, h6⟩ := b_P hG hDd
  refine ⟨mPool (vv σ) P, σ, σ, ?_, ?_, Inv_mono n σ hI⟩
  · rw [fX5_sharedPool, c_pool hP0 h6, b_s, cPool_eq hDd.1 hPp h6]
  · rw [fX6_sharedPool, m_pool hP5 h6, b_s]
theorem c_guar {τ : xD} {v : xV} {p : Nat} (hP : cfP τ v) (hQ : cfQ τ v) (hp : p < 6) : τ 13 p 0 2 + τ 13 p 0 4 - (τ 16 p 0 10 + τ 16 p 1 10 + τ 16 p 2 10) = v (ip p 0) + v (ip p 2) - s3 v p 6 := by
  rw [hP p 2 0 hp rfl, hP p 4 2 hp rfl, hQ p 0 10 6 hp (by omega) rfl, hQ p 1 10 6 hp (by omega) rfl, hQ p 2 10 6 hp (by omega) rfl]
  rfl
theorem xp17 : xP17 Inv := by
  intro n σ a1 hI hn
  obtain ⟨C, P, hG, hQ, hPp, hLs, hDd, hRf, wP, wQ, wT, wS, wN, hM, hX, hgr, hb⟩ := Inv_RR hI hn
  obtain ⟨hP5, hP0, h1, h6⟩ := b_P hG hDd
  rcases ix_cases a1 h6 with ⟨p, hp, rfl⟩ | ha
  · refine ⟨vv σ (ip p 0) + vv σ (ip p 2) - s3 (vv σ) p 6, σ, σ, ?_, ?_, Inv_mono n σ hI⟩
    rotate_left
    · rw [fX6_freeGuarantee, m_isPort_t hP5 h6 hp, b_s, if_neg (by decide), m_freeOf (by omega), b_s]
    · rw [fX5_freeGuarantee, c_portAt_t hP0 h6 hp, b_s]
      show x_g (ok2 (0, p)) _ = _
      rw [ok2_t (by decide) (by omega), g_t]
      show x_b (fX2_guaranteeLeft 0 p σ) _ = _
      rw [fX2_guaranteeLeft, fX2_guaranteedInUse, b_s, b_s, c_guar hPp hQ (by omega)]
  · refine ⟨-1, σ, σ, ?_, ?_, Inv_mono n σ hI⟩
    · rw [fX5_freeGuarantee, c_portAt_f hP0 ha, b_s]
    · rw [fX6_freeGuarantee, m_isPort_f hP5 h1 h6 ha, b_s, if_pos rfl]
theorem xp19 : xP19 Inv := by
  intro n σ a1 a2 hI hn
  obtain ⟨C, P, hG, hQ, hPp, hLs, hDd, hRf, wP, wQ, wT, wS, wN, hM, hX, hgr, hb⟩ := Inv_RR hI hn
  obtain ⟨hP5, hP0, h1, h6⟩ := b_P hG hDd
  rcases ix_cases a1 h6 with ⟨p, hp, rfl⟩ | ha
  · rcases ix3 a2 with ⟨r, hr, rfl⟩ | hb2
    · refine ⟨vv σ (iq (3 * p + r) 0) * mFree (vv σ) P / 8, σ, σ, ?_, ?_, Inv_mono n σ hI⟩
      · rw [fX5_threshold, c_queueAt_t hP0 h6 hp hr, b_s]
        show x_g (ok3 (0, p, r)) _ = _
        rw [ok3_t (by decide) (by omega) hr, g_t, c_free hP0 h6, b_s]
        show x_b (fX3_limitWith 0 p r _ σ) _ = _
        rw [fX3_limitWith, b_s, cFree_eq hDd.1 hPp hQ h6, hQ p r 1 0 (by omega) hr rfl]
      · rw [fX6_threshold, m_isQueue_t hP5 h6 hp hr, b_s, if_neg (by decide), q3, m_limit hP5 h6 (by omega), b_s]
    · refine ⟨-1, σ, σ, ?_, ?_, Inv_mono n σ hI⟩
      · rw [fX5_threshold, c_queueAt_r hP0 h6 hp hb2, b_s]
      · rw [fX6_threshold, m_isQueue_r hP5 h6 hp hb2, b_s, if_pos rfl]
  · refine ⟨-1, σ, σ, ?_, ?_, Inv_mono n σ hI⟩
    · rw [fX5_threshold, c_queueAt_p hP0 ha, b_s]
    · rw [fX6_threshold, m_isQueue_p hP5 h1 h6 ha, b_s, if_pos rfl]
theorem xp32 : xP32 Inv := by
  intro n σ hI hn
  obtain ⟨C, P, hG, hQ, hPp, hLs, hDd, hRf, wP, wQ, wT, wS, wN, hM, hX, hgr, hb⟩ := Inv_RR hI hn
  obtain ⟨hP5, hP0, h1, h6⟩ := b_P hG hDd
  exact ⟨σ 5 31 0 0 4, σ, σ, by rw [fX5_admitted, hDd.2.2.2.2.1], rfl, Inv_mono n σ hI⟩
theorem xp33 : xP33 Inv := by
  intro n σ hI hn
  obtain ⟨C, P, hG, hQ, hPp, hLs, hDd, hRf, wP, wQ, wT, wS, wN, hM, hX, hgr, hb⟩ := Inv_RR hI hn
  obtain ⟨hP5, hP0, h1, h6⟩ := b_P hG hDd
  exact ⟨σ 5 31 0 0 3, σ, σ, by rw [fX5_time, hDd.2.2.2.1], rfl, Inv_mono n σ hI⟩
theorem xp30 : xP30 Inv := by
  intro n σ a1 hI hn
  obtain ⟨C, P, hG, hQ, hPp, hLs, hDd, hRf, wP, wQ, wT, wS, wN, hM, hX, hgr, hb⟩ := Inv_RR hI hn
  obtain ⟨hP5, hP0, h1, h6⟩ := b_P hG hDd
  by_cases hr : 0 ≤ a1 ∧ a1 ≤ 3
  · obtain ⟨j, hj, rfl⟩ : ∃ j, j < 4 ∧ a1 = nI j := by
      rcases pk_ix a1 (n := 4) (by omega) with h | h | ⟨j, h1, h2⟩
      · grind
      · have : (4 : Int32) ≤ a1 := h
        grind
      · exact ⟨j, h1, h2⟩
    rcases x_z_or hG.2.2.2.2.2.2.2 with h0 | h0
    · have h00 : σ 5 31 0 0 5 = 0 := h0
      refine ⟨-5, σ, σ, ?_, ?_, Inv_mono n σ hI⟩
      · rw [fX5_lossCause, c_out, b_s, if_pos hr, if_pos rfl, hDd.2.2.2.2.2, if_pos h0]
      · rw [fX6_lossCause, m_in, b_s, if_pos hr, if_neg (by decide), h00, if_neg (by decide)]
    · have h00 : σ 5 31 0 0 5 = 1 := h0
      refine ⟨σ 5 31 0 0 (6 + j), σ, σ, ?_, ?_, Inv_mono n σ hI⟩
      · have e : (3 : Int32) - nI j = nI (3 - j) := pk_sub (a := 3) (by omega)
        rw [fX5_lossCause, c_out, b_s, if_pos hr, if_pos rfl, hDd.2.2.2.2.2, h0, if_neg (by decide), l_v, e, in_nI (by omega) (by omega), g_t, nI_clamp (by omega), hRf h0 j hj]
      · have e : (6 : Int32) + nI j = nI (6 + j) := nI_add 6 j
        rw [fX6_lossCause, m_in, b_s, if_pos hr, if_neg (by decide), h00, if_pos rfl, l_v, e, in_nI (by omega) (by omega), g_t, nI_clamp (by omega)]
  · refine ⟨-1, σ, σ, ?_, ?_, Inv_mono n σ hI⟩
    · rw [fX5_lossCause, c_out, b_s, if_neg hr, if_neg (by decide)]
    · rw [fX6_lossCause, m_in, b_s, if_neg hr, if_pos rfl]
theorem xp28 : xP28 Inv := by
  intro n σ a1 a2 hI hn
  obtain ⟨C, P, hG, hQ, hPp, hLs, hDd, hRf, wP, wQ, wT, wS, wN, hM, hX, hgr, hb⟩ := Inv_RR hI hn
  obtain ⟨hP5, hP0, h1, h6⟩ := b_P hG hDd
  rcases ix_cases a1 h6 with ⟨p, hp, rfl⟩ | ha
  · by_cases hc2 : a2 = 2
    · subst hc2
      refine ⟨σ 5 31 0 0 (ip p (11 + 2)), σ, σ, ?_, ?_, Inv_mono n σ hI⟩
      · rw [fX5_losses, c_portAt_t hP0 h6 hp, b_s]
        show x_g (ok2 (0, p)) (if (2 : Int32) = 2 then _ else _) = _
        rw [ok2_t (by decide) (by omega), g_t, show σ 5 31 0 0 (ip p (11 + 2)) = σ 0 15 p 0 2 from (hLs p 2 (by omega) (by decide)).symm]
        rfl
      · have e : (11 : Int32) + 2 = nI (11 + 2) := rfl
        have h9 : BX6_losses_42 (nI p) 2 1 σ = some (σ 5 31 0 0 (ip p (11 + 2)), σ) := by
          rw [BX6_losses_42, if_neg (by decide), e, m_portN, b_s, in_nI (by omega) (by omega), g_t, nI_clamp (by omega)]
        rw [fX6_losses, m_isPort_t hP5 h6 hp, b_s, if_neg (by decide), h9]
        rfl
    by_cases hc3 : a2 = 3
    · subst hc3
      refine ⟨σ 5 31 0 0 (ip p (11 + 3)), σ, σ, ?_, ?_, Inv_mono n σ hI⟩
      · rw [fX5_losses, c_portAt_t hP0 h6 hp, b_s]
        show x_g (ok2 (0, p)) (if (3 : Int32) = 2 then _ else _) = _
        rw [ok2_t (by decide) (by omega), g_t, show σ 5 31 0 0 (ip p (11 + 3)) = σ 0 15 p 0 3 from (hLs p 3 (by omega) (by decide)).symm]
        rfl
      · have e : (11 : Int32) + 3 = nI (11 + 3) := rfl
        have h9 : BX6_losses_42 (nI p) 3 1 σ = some (σ 5 31 0 0 (ip p (11 + 3)), σ) := by
          rw [BX6_losses_42, if_neg (by decide), e, m_portN, b_s, in_nI (by omega) (by omega), g_t, nI_clamp (by omega)]
        rw [fX6_losses, m_isPort_t hP5 h6 hp, b_s, if_neg (by decide), h9]
        rfl
    by_cases hc5 : a2 = 5
    · subst hc5
      refine ⟨σ 5 31 0 0 (ip p (11 + 5)), σ, σ, ?_, ?_, Inv_mono n σ hI⟩
      · rw [fX5_losses, c_portAt_t hP0 h6 hp, b_s]
        show x_g (ok2 (0, p)) (if (5 : Int32) = 2 then _ else _) = _
        rw [ok2_t (by decide) (by omega), g_t, show σ 5 31 0 0 (ip p (11 + 5)) = σ 0 15 p 0 5 from (hLs p 5 (by omega) (by decide)).symm]
        rfl
      · have e : (11 : Int32) + 5 = nI (11 + 5) := rfl
        have h9 : BX6_losses_42 (nI p) 5 1 σ = some (σ 5 31 0 0 (ip p (11 + 5)), σ) := by
          rw [BX6_losses_42, if_neg (by decide), e, m_portN, b_s, in_nI (by omega) (by omega), g_t, nI_clamp (by omega)]
        rw [fX6_losses, m_isPort_t hP5 h6 hp, b_s, if_neg (by decide), h9]
        rfl
    by_cases hc8 : a2 = 8
    · subst hc8
      refine ⟨σ 5 31 0 0 (ip p (11 + 8)), σ, σ, ?_, ?_, Inv_mono n σ hI⟩
      · rw [fX5_losses, c_portAt_t hP0 h6 hp, b_s]
        show x_g (ok2 (0, p)) (if (8 : Int32) = 2 then _ else _) = _
        rw [ok2_t (by decide) (by omega), g_t, show σ 5 31 0 0 (ip p (11 + 8)) = σ 0 15 p 0 8 from (hLs p 8 (by omega) (by decide)).symm]
        rfl
      · have e : (11 : Int32) + 8 = nI (11 + 8) := rfl
        have h9 : BX6_losses_42 (nI p) 8 1 σ = some (σ 5 31 0 0 (ip p (11 + 8)), σ) := by
          rw [BX6_losses_42, if_neg (by decide), e, m_portN, b_s, in_nI (by omega) (by omega), g_t, nI_clamp (by omega)]
        rw [fX6_losses, m_isPort_t hP5 h6 hp, b_s, if_neg (by decide), h9]
        rfl
    by_cases hc9 : a2 = 9
    · subst hc9
      refine ⟨σ 5 31 0 0 (ip p (11 + 9)), σ, σ, ?_, ?_, Inv_mono n σ hI⟩
      · rw [fX5_losses, c_portAt_t hP0 h6 hp, b_s]
        show x_g (ok2 (0, p)) (if (9 : Int32) = 2 then _ else _) = _
        rw [ok2_t (by decide) (by omega), g_t, show σ 5 31 0 0 (ip p (11 + 9)) = σ 0 15 p 0 9 from (hLs p 9 (by omega) (by decide)).symm]
        rfl
      · have e : (11 : Int32) + 9 = nI (11 + 9) := rfl
        have h9 : BX6_losses_42 (nI p) 9 1 σ = some (σ 5 31 0 0 (ip p (11 + 9)), σ) := by
          rw [BX6_losses_42, if_neg (by decide), e, m_portN, b_s, in_nI (by omega) (by omega), g_t, nI_clamp (by omega)]
        rw [fX6_losses, m_isPort_t hP5 h6 hp, b_s, if_neg (by decide), h9]
        rfl
    refine ⟨-2, σ, σ, ?_, ?_, Inv_mono n σ hI⟩
    · rw [fX5_losses, c_portAt_t hP0 h6 hp, b_s]
      show x_g (ok2 (0, p)) _ = _
      rw [ok2_t (by decide) (by omega), g_t, if_neg hc2, if_neg hc3]
      by_cases h4 : a2 = 4
      · rw [if_pos h4]
      · rw [if_neg h4, if_neg hc5]
        by_cases h7 : a2 = 6
        · rw [if_pos h7]
        · rw [if_neg h7]
          by_cases h8 : a2 = 7
          · rw [if_pos h8]
          · rw [if_neg h8, if_neg hc8, if_neg hc9]
    · rw [fX6_losses, m_isPort_t hP5 h6 hp, b_s, if_neg (by decide), if_neg hc2, if_neg hc3, if_neg hc5, if_neg hc8, if_neg hc9, BX6_losses_42, if_pos rfl]
  · refine ⟨-1, σ, σ, ?_, ?_, Inv_mono n σ hI⟩
    · rw [fX5_losses, c_portAt_f hP0 ha, b_s]
    · rw [fX6_losses, m_isPort_f hP5 h1 h6 ha, b_s, if_pos rfl]
