/-! ===== stageFor, largestAdmissible ===== -/
theorem xp42 : xP42 Inv := by
  intro n σ a1 a2 a3 hI hn
  obtain ⟨C, P, hW⟩ := RW_of hI hn
  obtain ⟨hP5, hP0, h1, h6⟩ := w_P hW
  rcases ix_cases a1 h6 with ⟨p, hp, rfl⟩ | ha
  · rcases ix3 a2 with ⟨r, hr, rfl⟩ | hb
    · by_cases hx : 1 ≤ a3 ∧ a3 ≤ 12
      · obtain ⟨st, k, τ', kc, kj, k10, k12, km, kf⟩ := S_judge (x := a3) hW hp hr
        have kW := RW_J hW kj
        have kc' := kc σ 0
        rw [up_id] at kc'
        refine close3 (τ' := τ') (v' := vv σ) (r := if st = 0 then -6 else st) (fc := fX5_stageFor (nI p) (nI r) a3) (fm := fX6_stageFor (nI p) (nI r) a3) hI hn ?_ ?_ (RW_RR (RW_mono (by omega) (by omega) kW)) kW.2.2.2
        · rw [up_id, fX5_stageFor, c_portAt_t hP0 h6 hp, b_s]
          show x_g (ok2 (0, p)) (x_b (fX0_queueAt 0 (nI p) (nI r) σ) _) = _
          rw [ok2_t (by decide) (by omega), g_t, c_queueAt_t hP0 h6 hp hr, b_s]
          show x_g (ok3 (0, p, r)) (x_b (fX5_isOutside a3 1 12 σ) fun z4 s4 => if z4 = 0 then (x_b (fX0_judge 0 0 p 0 p r a3 s4) fun z5 s5 => if (s5 0 0 0 0 10) = 0 then (some ((-6), s5)) else (some ((s5 0 0 0 0 10), s5))) else (some ((-2), s4))) = _
          rw [ok3_t (by decide) (by omega) hr, g_t, c_out, b_s, if_pos hx, if_pos rfl, kc', b_s, up_s, k10]
          split <;> rfl
        · obtain ⟨σ', s1, s2, -⟩ := km (va_up σ 0 τ')
          refine ⟨σ', ?_, s2⟩
          rw [fX6_stageFor, m_isQueue_t (v_P hW.1 _) h6 hp hr, b_s, if_neg (by decide), m_in, b_s, if_pos hx, if_neg (by decide), q3, s1, b_s]
          split <;> rfl
      · refine ⟨-2, σ, σ, ?_, ?_, Inv_mono n σ hI⟩
        · rw [fX5_stageFor, c_portAt_t hP0 h6 hp, b_s]
          show x_g (ok2 (0, p)) (x_b (fX0_queueAt 0 (nI p) (nI r) σ) _) = _
          rw [ok2_t (by decide) (by omega), g_t, c_queueAt_t hP0 h6 hp hr, b_s]
          show x_g (ok3 (0, p, r)) (x_b (fX5_isOutside a3 1 12 σ) _) = _
          rw [ok3_t (by decide) (by omega) hr, g_t, c_out, b_s, if_neg hx, if_neg (by decide)]
        · rw [fX6_stageFor, m_isQueue_t hP5 h6 hp hr, b_s, if_neg (by decide), m_in, b_s, if_neg hx, if_pos rfl]
    · refine ⟨-1, σ, σ, ?_, ?_, Inv_mono n σ hI⟩
      · rw [fX5_stageFor, c_portAt_t hP0 h6 hp, b_s]
        show x_g (ok2 (0, p)) (x_b (fX0_queueAt 0 (nI p) a2 σ) _) = _
        rw [ok2_t (by decide) (by omega), g_t, c_queueAt_r hP0 h6 hp hb, b_s]
      · rw [fX6_stageFor, m_isQueue_r hP5 h6 hp hb, b_s, if_pos rfl]
  · refine ⟨-1, σ, σ, ?_, ?_, Inv_mono n σ hI⟩
    · rw [fX5_stageFor, c_portAt_f hP0 ha, b_s]
      show x_b (fX0_queueAt 0 a1 a2 σ) _ = _
      rw [c_queueAt_p hP0 ha, b_s]
    · rw [fX6_stageFor, m_isQueue_p hP5 h1 h6 ha, b_s, if_pos rfl]
theorem larg_loop {v : xV} {b C P p r : Nat} (hp : p < P) (hr : r < 3) : ∀ (s n1 n2 : Nat) (τ : xD), RW τ v b C P → s ≤ 12 → s < n1 → s < n2 → ∃ k τ', (∀ σ, BX5_largestAdmissible_35 0 p 0 p r n1 (nI s) (va_up σ 0 τ) = some (nI k, va_up σ 0 τ')) ∧ (∀ σ, ∃ σ', BX6_largestAdmissible_14 (nI p) (nI r) n2 (nI s) (x_row σ 5 31 0 0 v) = some (nI k, x_row σ' 5 31 0 0 v) ∧ fr σ σ') ∧ RW τ' v b C P := by
  intro s
  induction s with
  | zero =>
    intro n1 n2 τ hW hs h1 h2
    obtain ⟨n1, rfl⟩ : ∃ n, n1 = n + 1 := ⟨n1 - 1, by omega⟩
    obtain ⟨n2, rfl⟩ : ∃ n, n2 = n + 1 := ⟨n2 - 1, by omega⟩
    refine ⟨0, τ, fun σ => ?_, fun σ => ⟨σ, ?_, fr_refl σ⟩, hW⟩
    · rw [BX5_largestAdmissible_35, if_pos (by decide)]; rfl
    · rw [BX6_largestAdmissible_14, if_pos (by decide)]
  | succ s ih =>
    intro n1 n2 τ hW hs h1 h2
    obtain ⟨n1, rfl⟩ : ∃ n, n1 = n + 1 := ⟨n1 - 1, by omega⟩
    obtain ⟨n2, rfl⟩ : ∃ n, n2 = n + 1 := ⟨n2 - 1, by omega⟩
    obtain ⟨st, k, τ1, kc, kj, k10, k12, km, kf⟩ := S_judge (x := nI (s + 1)) hW hp hr
    have kW := RW_J hW kj
    by_cases z : st = 0
    · obtain ⟨k', τ', g1, g2, g3⟩ := ih n1 n2 τ1 kW (by omega) (by omega) (by omega)
      refine ⟨k', τ', fun σ => ?_, fun σ => ?_, g3⟩
      · rw [BX5_largestAdmissible_35, if_neg (show ¬ nI (s + 1) < 1 from nI_nlt (b := 1) (by omega) (by omega)), kc, b_s, up_s, k10, if_pos z, l_v, pk_m1, g1]
      · obtain ⟨σ1, s1, s2, -⟩ := km σ
        obtain ⟨σ2, t1, t2⟩ := g2 σ1
        refine ⟨σ2, ?_, fr_trans s2 t2⟩
        rw [BX6_largestAdmissible_14, if_neg (nI_nle (by omega) (by omega)), q3, s1, b_s, if_pos z, l_v, pk_m1, t1]
    · refine ⟨s + 1, τ1, fun σ => ?_, fun σ => ?_, kW⟩
      · rw [BX5_largestAdmissible_35, if_neg (show ¬ nI (s + 1) < 1 from nI_nlt (b := 1) (by omega) (by omega)), kc, b_s, up_s, k10, if_neg z]
      · obtain ⟨σ1, s1, s2, -⟩ := km σ
        refine ⟨σ1, ?_, s2⟩
        rw [BX6_largestAdmissible_14, if_neg (nI_nle (by omega) (by omega)), q3, s1, b_s, if_neg z]
theorem xp43 : xP43 Inv := by
  intro n σ a1 a2 hI hn
  obtain ⟨C, P, hW⟩ := RW_of hI hn
  obtain ⟨hP5, hP0, h1, h6⟩ := w_P hW
  rcases ix_cases a1 h6 with ⟨p, hp, rfl⟩ | ha
  · rcases ix3 a2 with ⟨r, hr, rfl⟩ | hb
    · obtain ⟨k, τ', kc, km, kW⟩ := larg_loop hp hr 12 x_FU x_FU (σ 0) hW (by omega) (by unfold x_FU; omega) (by unfold x_FU; omega)
      have kc' := kc σ
      rw [up_id] at kc'
      refine close3 (τ' := τ') (v' := vv σ) (r := nI k) (fc := fX5_largestAdmissible (nI p) (nI r)) (fm := fX6_largestAdmissible (nI p) (nI r)) hI hn ?_ ?_ (RW_RR (RW_mono (by omega) (by omega) kW)) kW.2.2.2
      · rw [up_id, fX5_largestAdmissible, c_portAt_t hP0 h6 hp, b_s]
        show x_g (ok2 (0, p)) (x_b (fX0_queueAt 0 (nI p) (nI r) σ) _) = _
        rw [ok2_t (by decide) (by omega), g_t, c_queueAt_t hP0 h6 hp hr, b_s]
        show x_g (ok3 (0, p, r)) (BX5_largestAdmissible_35 0 p 0 p r x_FU 12 σ) = _
        rw [ok3_t (by decide) (by omega) hr, g_t]
        exact kc'
      · obtain ⟨σ', s1, s2⟩ := km (va_up σ 0 τ')
        refine ⟨σ', ?_, s2⟩
        rw [fX6_largestAdmissible, m_isQueue_t (v_P hW.1 _) h6 hp hr, b_s, if_neg (by decide)]
        exact s1
    · refine ⟨-1, σ, σ, ?_, ?_, Inv_mono n σ hI⟩
      · rw [fX5_largestAdmissible, c_portAt_t hP0 h6 hp, b_s]
        show x_g (ok2 (0, p)) (x_b (fX0_queueAt 0 (nI p) a2 σ) _) = _
        rw [ok2_t (by decide) (by omega), g_t, c_queueAt_r hP0 h6 hp hb, b_s]
      · rw [fX6_largestAdmissible, m_isQueue_r hP5 h6 hp hb, b_s, if_pos rfl]
  · refine ⟨-1, σ, σ, ?_, ?_, Inv_mono n σ hI⟩
    · rw [fX5_largestAdmissible, c_portAt_f hP0 ha, b_s]
      show x_b (fX0_queueAt 0 a1 a2 σ) _ = _
      rw [c_queueAt_p hP0 ha, b_s]
    · rw [fX6_largestAdmissible, m_isQueue_p hP5 h1 h6 ha, b_s, if_pos rfl]
