theorem rowK_d (σ : xS) (K : Nat) (f : Nat → Int32) {d : Nat} (h : d ≠ 5) : x_row σ 5 K 0 0 f d = σ d := by
  unfold x_row
  rw [up_n _ _ h]
theorem rowK_K (σ : xS) (K : Nat) (f : Nat → Int32) {K' : Nat} (h : K' ≠ K) : x_row σ 5 K 0 0 f 5 K' = σ 5 K' := by
  unfold x_row
  rw [up_s, up_n _ _ h]
theorem set_K (σ : xS) (d K k : Nat) (x : Int32) {K' : Nat} (h : K' ≠ K) : x_set σ d K 0 0 k x d K' = σ d K' := by
  unfold x_set x_row
  rw [up_s, up_n _ _ h]
theorem m_save_loop {σ : xS} {v : xV} {j : Nat} (hj : j < 2) : ∀ (n i : Nat) (w : xV), i ≤ 6464 → 6464 < n + i → (∀ k, k < i → w (6464 * j + k) = v k) → ∃ w', (∀ k, k < 6464 → w' (6464 * j + k) = v k) ∧ (∀ m, (m < 6464 * j ∨ 6464 * j + 6464 ≤ m) → w' m = w m) ∧ BX6_save_13 (nI j) n (nI i) (x_row (x_row σ 5 33 0 0 w) 5 31 0 0 v) = some (v 3, x_set (x_row (x_row σ 5 33 0 0 w') 5 31 0 0 v) 5 34 0 0 j 1) := by
  intro n
  induction n with
  | zero => intro i w h1 h2; omega
  | succ n ih =>
    intro i w h1 h2 h3
    have e5 : (6464 : Int32) * nI j + nI i = nI (6464 * j + i) := by
      show nI 6464 * nI j + nI i = _
      rw [pk_mul, nI_add]
    rw [BX6_save_13]
    by_cases e : i < 6464
    · rw [if_neg (show ¬ (6464 : Int32) ≤ nI i from nI_ge (b := 6464) e (by omega)), in_nI e (by omega), g_t, l_v, e5, in_nI (by omega) (by omega), g_t, nI_clamp (by omega), nI_clamp (by omega), row_rd, ← row_row _ _ _ _ (by decide), rowK_set, row_row _ _ _ _ (by decide), l_v, l_v, nI_1]
      obtain ⟨w', g1, g2, g3⟩ := ih (i + 1) (va_up w (6464 * j + i) (v i)) (by omega) (by omega) (fun k hk => by
        by_cases q : k = i
        · subst q; rw [up_s]
        · rw [up_n _ _ (by omega)]; exact h3 k (by omega))
      exact ⟨w', g1, fun m hm => (g2 m hm).trans (up_n _ _ (by omega)), g3⟩
    · rw [if_pos (show (6464 : Int32) ≤ nI i from nI_le (a := 6464) (by omega) (by omega)), in_nI hj (by omega), g_t, nI_clamp (by omega), l_v]
      refine ⟨w, fun k hk => h3 k (by omega), fun _ _ => rfl, ?_⟩
      rw [set_K _ _ _ _ _ (by decide), row_rd]
theorem m_rest_loop {σ : xS} {w : xV} {j : Nat} (hj : j < 2) (hw : σ 5 33 0 0 = w) : ∀ (n i : Nat) (u : xV), i ≤ 6464 → 6464 < n + i → (∀ k, k < i → u k = w (6464 * j + k)) → ∃ u', (∀ k, k < 6464 → u' k = w (6464 * j + k)) ∧ BX6_restore_25 (nI j) n (nI i) (x_row σ 5 31 0 0 u) = some (u' 3, x_row σ 5 31 0 0 u') := by
  intro n
  induction n with
  | zero => intro i w h1 h2; omega
  | succ n ih =>
    intro i u h1 h2 h3
    have e5 : (6464 : Int32) * nI j + nI i = nI (6464 * j + i) := by
      show nI 6464 * nI j + nI i = _
      rw [pk_mul, nI_add]
    rw [BX6_restore_25]
    by_cases e : i < 6464
    · rw [if_neg (show ¬ (6464 : Int32) ≤ nI i from nI_ge (b := 6464) e (by omega)), l_v, e5, in_nI (by omega) (by omega), g_t, in_nI e (by omega), g_t, nI_clamp (by omega), nI_clamp (by omega), rowK_31 _ _ _ (by decide), row_set, hw, l_v, l_v, nI_1]
      exact ih (i + 1) (va_up u i (w (6464 * j + i))) (by omega) (by omega) (fun k hk => by
        by_cases q : k = i
        · subst q; rw [up_s]
        · rw [up_n _ _ q]; exact h3 k (by omega))
    · rw [if_pos (show (6464 : Int32) ≤ nI i from nI_le (a := 6464) (by omega) (by omega)), row_rd]
      exact ⟨u, fun k hk => h3 k (by omega), rfl⟩
theorem ix2 (x : Int32) : (∃ j, j < 2 ∧ x = nI j ∧ (0 ≤ x ∧ x ≤ 1)) ∨ ¬ (0 ≤ x ∧ x ≤ 1) := by
  rcases pk_ix x (n := 2) (by omega) with h | h | ⟨j, h1, h2⟩
  · exact Or.inr (by grind)
  · refine Or.inr (fun q => ?_)
    have : (2 : Int32) ≤ x := h
    grind
  · refine Or.inl ⟨j, h1, h2, ?_⟩
    rw [h2]
    exact ⟨nI_pos' (by omega), nI_le (b := 1) (by omega) (by omega)⟩
theorem xp51 : xP51 Inv := by
  intro n σ a1 hI hn
  obtain ⟨C, P, hW⟩ := RW_of hI hn
  obtain ⟨g1, g2, g3, g4⟩ := hI (by omega)
  rcases ix2 a1 with ⟨j, hj, rfl, hr⟩ | hr
  · obtain ⟨τ', k1, k2, k3⟩ := cp_dev (d0 := j + 2) (d1 := 0) (by omega) hW (σ (j + 2))
    rw [up_id] at k1
    have kp : ∀ p r, p < 6 → r < 3 → τ' 16 p r 0 = nI r := fun p r h1 h2 => (k3 p r).trans (g4 (j + 2) p r (by omega) h1 h2)
    obtain ⟨σ1, hσ1⟩ : ∃ s, s = x_set (va_up σ (j + 2) τ') 4 22 0 0 j 1 := ⟨_, rfl⟩
    have s0 : ∀ d, d ≠ j + 2 → d ≠ 4 → σ1 d = σ d := fun d h1 h2 => by rw [hσ1, rd_dev _ _ _ _ _ _ h2, up_n _ _ h1]
    have sj : σ1 (j + 2) = τ' := by rw [hσ1, rd_dev _ _ _ _ _ _ (by omega), up_s]
    have s4 : ∀ K, K ≠ 22 → σ1 4 K = σ 4 K := fun K h => by rw [hσ1, set_K _ _ _ _ _ h, up_n _ _ (by omega)]
    have s22 : ∀ k, σ1 4 22 0 0 k = if k = j then 1 else σ 4 22 0 0 k := fun k => by
      rw [hσ1, rd_set, up_n _ _ (by omega)]
      by_cases e : k = j
      · rw [if_pos ⟨rfl, rfl, rfl, rfl, e⟩, if_pos e]
      · rw [if_neg (fun q => e q.2.2.2.2), if_neg e]
    obtain ⟨w', w1, w2, w3⟩ := m_save_loop (σ := σ1) (v := vv σ) hj x_FU 0 (σ 5 33 0 0) (by omega) (by unfold x_FU; omega) (fun k hk => by omega)
    have e33 : x_row (x_row σ1 5 33 0 0 (σ 5 33 0 0)) 5 31 0 0 (vv σ) = σ1 := by
      have e5 : σ1 5 = σ 5 := s0 5 (by omega) (by omega)
      have a1 : σ 5 33 0 0 = σ1 5 33 0 0 := by rw [e5]
      have a2 : vv σ = σ1 5 31 0 0 := by rw [e5]
      rw [a1, rowK_id, a2, row_id]
    rw [e33] at w3
    refine ⟨vv σ 3, σ1, x_set (x_row (x_row σ1 5 33 0 0 w') 5 31 0 0 (vv σ)) 5 34 0 0 j 1, ?_, ?_, ?_⟩
    · rw [fX5_save, c_out, b_s, if_pos hr, if_pos rfl, in_nI hj (by omega), g_t, nI_clamp (by omega), k1, b_s, g_t, l_v, ← hσ1, s0 0 (by omega) (by omega), hW.1.2.2.2.2.1.2.2.2.1]
    · rw [fX6_save, m_in, b_s, if_pos hr, if_neg (by decide)]
      exact w3
    · obtain ⟨σ2, hσ2⟩ : ∃ s, s = x_set (x_row (x_row σ1 5 33 0 0 w') 5 31 0 0 (vv σ)) 5 34 0 0 j 1 := ⟨_, rfl⟩
      rw [← hσ2]
      have z0 : ∀ d, d ≠ 5 → σ2 d = σ1 d := fun d h => by rw [hσ2, rd_dev _ _ _ _ _ _ h, row_d _ _ h, rowK_d _ _ _ h]
      have z31 : vv σ2 = vv σ := by
        show σ2 5 31 0 0 = _
        rw [hσ2, set_K _ _ _ _ _ (by decide), row_rd]
      have z33 : σ2 5 33 0 0 = w' := by rw [hσ2, set_K _ _ _ _ _ (by decide), row_K _ _ (by decide), rowK_rd]
      have z34 : ∀ k, σ2 5 34 0 0 k = if k = j then 1 else σ 5 34 0 0 k := fun k => by
        rw [hσ2, rd_set, row_K _ _ (by decide), rowK_K _ _ _ (by decide), s0 5 (by omega) (by omega)]
        by_cases e : k = j
        · rw [if_pos ⟨rfl, rfl, rfl, rfl, e⟩, if_pos e]
        · rw [if_neg (fun q => e q.2.2.2.2), if_neg e]
      have zK : ∀ K, K ≠ 31 → K ≠ 33 → K ≠ 34 → σ2 5 K = σ 5 K := fun K a b c => by rw [hσ2, set_K _ _ _ _ _ c, row_K _ _ a, rowK_K _ _ _ b, s0 5 (by omega) (by omega)]
      intro _
      refine ⟨by rw [z0 0 (by decide), s0 0 (by omega) (by decide), z31]; exact RR_mono (by omega) g1, fun j' hj' => ?_, ?_, fun d p r hd hp hr => ?_⟩
      · rw [z0 4 (by decide), s22, z34, z0 (2 + j') (by omega), z33]
        by_cases e : j' = j
        · subst e
          rw [if_pos rfl, if_pos rfl]
          refine ⟨rfl, rfl, fun _ => ?_⟩
          rw [show 2 + j' = j' + 2 by omega, sj]
          exact RW_RR (RW_mono (show 1000 * n ≤ 1000 * (n + 1) by omega) (by omega) (RW_eq hW k2 kp w1))
        · rw [if_neg e, if_neg e, s0 (2 + j') (by omega) (by omega)]
          refine ⟨(g2 j' hj').1, (g2 j' hj').2.1, fun h => ?_⟩
          have hr2 := RR_mono (show n < 1000 by omega) ((g2 j' hj').2.2 h)
          obtain ⟨C2, P2, q1, q2, q3⟩ := RR_un hr2
          have hW2 : RW (σ (2 + j')) (fun k => σ 5 33 0 0 (6464 * j' + k)) (1000 * (n + 1)) C2 P2 := ⟨q1, q2, q3, fun p r h1 h2 => g4 (2 + j') p r (by omega) h1 h2⟩
          refine RW_RR (RW_eq hW2 ⟨rfl, fun _ _ _ _ _ => rfl, fun _ _ _ _ _ _ _ => rfl, fun _ _ _ _ _ => rfl, fun _ _ _ _ => rfl, fun _ _ => rfl, fun _ _ => rfl⟩ (fun p r h1 h2 => g4 (2 + j') p r (by omega) h1 h2) (fun i hi => ?_))
          exact w2 (6464 * j' + i) (by omega)
      · unfold tx
        rw [z0 4 (by decide), s4 23 (by decide), s4 24 (by decide), zK 30 (by decide) (by decide) (by decide), zK 35 (by decide) (by decide) (by decide)]
        exact g3
      · rw [z0 d (by omega)]
        by_cases e : d = j + 2
        · subst e; rw [sj]; exact kp p r hp hr
        · rw [s0 d e (by omega)]; exact g4 d p r hd hp hr
  · refine ⟨-1, σ, σ, ?_, ?_, Inv_mono n σ hI⟩
    · rw [fX5_save, c_out, b_s, if_neg hr, if_neg (by decide)]
    · rw [fX6_save, m_in, b_s, if_neg hr, if_pos rfl]
theorem xp52 : xP52 Inv := by
  intro n σ a1 hI hn
  obtain ⟨g1, g2, g3, g4⟩ := hI (by omega)
  rcases ix2 a1 with ⟨j, hj, rfl, hr⟩ | hr
  · obtain ⟨h1, h2, h3⟩ := g2 j hj
    by_cases h0 : σ 4 22 0 0 j = 0
    · refine ⟨-5, σ, σ, ?_, ?_, Inv_mono n σ hI⟩
      · rw [fX5_restore, c_out, b_s, if_pos hr, if_pos rfl, in_nI hj (by omega), g_t, nI_clamp (by omega), if_pos h0]
      · rw [fX6_restore, m_in, b_s, if_pos hr, if_neg (by decide), in_nI hj (by omega), g_t, nI_clamp (by omega), ← h1, if_pos h0]
    · have e1 : σ 4 22 0 0 j = 1 := (x_z_or h2).resolve_left h0
      obtain ⟨C, P, q1, q2, q3⟩ := RR_un (h3 e1)
      have hW : RW (σ (2 + j)) (fun k => σ 5 33 0 0 (6464 * j + k)) (1000 * n) C P := ⟨q1, q2, q3, fun p r h1 h2 => g4 (2 + j) p r (by omega) h1 h2⟩
      obtain ⟨τ', k1, k2, k3⟩ := cp_dev (d0 := 0) (d1 := 2 + j) (by omega) hW (σ 0)
      rw [up_id] at k1
      have kp : ∀ p r, p < 6 → r < 3 → τ' 16 p r 0 = nI r := fun p r h1 h2 => (k3 p r).trans (g4 0 p r (by omega) h1 h2)
      obtain ⟨u', w1, w3⟩ := m_rest_loop (σ := va_up σ 0 τ') (j := j) hj rfl x_FU 0 (vv σ) (by omega) (by unfold x_FU; omega) (fun k hk => by omega)
      have eid : x_row (va_up σ 0 τ') 5 31 0 0 (vv σ) = va_up σ 0 τ' := row_id (va_up σ 0 τ')
      rw [eid] at w3
      have w1' : ∀ k, k < 6464 → u' k = σ 5 33 0 0 (6464 * j + k) := w1
      have hW' := RW_mono (show 1000 * n ≤ 1000 * (n + 1) by omega) (by omega) (RW_eq hW k2 kp w1')
      refine ⟨u' 3, va_up σ 0 τ', st2 σ τ' u', ?_, ?_, Inv_st2 hI hn (RW_RR hW') kp⟩
      · rw [fX5_restore, c_out, b_s, if_pos hr, if_pos rfl, in_nI hj (by omega), g_t, nI_clamp (by omega), if_neg h0, g_t, show j + 2 = 2 + j by omega, k1, b_s, up_s]
        have := hW'.1.2.2.2.2.1.2.2.2.1
        rw [this]
      · rw [fX6_restore, m_in, b_s, if_pos hr, if_neg (by decide), in_nI hj (by omega), g_t, nI_clamp (by omega)]
        show (if σ 5 34 0 0 j = 0 then _ else _) = _
        rw [← h1, if_neg h0]
        exact w3
  · refine ⟨-1, σ, σ, ?_, ?_, Inv_mono n σ hI⟩
    · rw [fX5_restore, c_out, b_s, if_neg hr, if_neg (by decide)]
    · rw [fX6_restore, m_in, b_s, if_neg hr, if_pos rfl]
