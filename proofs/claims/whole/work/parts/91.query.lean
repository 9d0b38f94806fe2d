/-! ===== packets in their queues: queries ===== -/
theorem c_cell_t {d c : Nat} {σ : xS} (hc : c < 128) : fX1_isCell d (nI c) σ = some (1, σ) := by
  rw [fX1_isCell, if_neg (nI_nn (by omega)), if_neg (show ¬ (128 : Int32) ≤ nI c from nI_ge (b := 128) hc (by omega))]
theorem c_cell_f {d : Nat} {σ : xS} : fX1_isCell d (-1) σ = some (0, σ) := by
  rw [fX1_isCell, if_pos (by decide)]
theorem c_num {d c : Nat} {σ : xS} (hc : c < 128) : fX1_numberOf d (nI c) σ = some (σ d 5 0 0 c, σ) := by
  rw [fX1_numberOf, c_cell_t hc, b_s, if_neg (by decide), in_nI hc (by omega), g_t, nI_clamp (by omega)]
theorem c_size {d c : Nat} {σ : xS} (hc : c < 128) : fX1_sizeOf d (nI c) σ = some (σ d 6 0 0 c, σ) := by
  rw [fX1_sizeOf, c_cell_t hc, b_s, if_neg (by decide), in_nI hc (by omega), g_t, nI_clamp (by omega)]
theorem c_parts {d c : Nat} {σ : xS} (hc : c < 128) : fX1_partsOf d (nI c) σ = some (σ d 7 0 0 c, σ) := by
  rw [fX1_partsOf, c_cell_t hc, b_s, if_neg (by decide), in_nI hc (by omega), g_t, nI_clamp (by omega)]
theorem c_parts_f {d : Nat} {σ : xS} : fX1_partsOf d (-1) σ = some (0, σ) := by
  rw [fX1_partsOf, c_cell_f, b_s, if_pos rfl]
theorem c_ahead {d c : Nat} {σ : xS} (hc : c < 128) : fX1_packetAhead d (nI c) σ = some (σ d 8 0 0 c, σ) := by
  rw [fX1_packetAhead, c_cell_t hc, b_s, if_neg (by decide), in_nI hc (by omega), g_t, nI_clamp (by omega)]
theorem c_behind {d c : Nat} {σ : xS} (hc : c < 128) : fX1_packetBehind d (nI c) σ = some (σ d 9 0 0 c, σ) := by
  rw [fX1_packetBehind, c_cell_t hc, b_s, if_neg (by decide), in_nI hc (by omega), g_t, nI_clamp (by omega)]
theorem c_next {d c : Nat} {σ : xS} (hc : c < 128) : fX1_partBehind d (nI c) σ = some (σ d 4 0 0 c, σ) := by
  rw [fX1_partBehind, c_cell_t hc, b_s, if_neg (by decide), in_nI hc (by omega), g_t, nI_clamp (by omega)]
theorem Fs_lt {v : xV} {C k f : Nat} (h : mwK v C) (hk : k < 128) (hu : Us v k) (hf : f < Pn v k) : Fs v k f < C := by
  have := ((h k hk hu).2.2.2.2.2.2.1 f hf).2.2
  omega
theorem Sl_ok {v : xV} {C q i : Nat} (hM : MW v C) (hq : q < 18) (hi : i < Ln v q) : Sl v q i < 128 ∧ Us v (Sl v q i) := ⟨(hM.2.1 q i hq hi).2.1, (hM.2.1 q i hq hi).2.2⟩
theorem cell_lt {v : xV} {C q i : Nat} (hM : MW v C) (hq : q < 18) (hi : i < Ln v q) : Fs v (Sl v q i) 0 < C := by
  obtain ⟨h1, h2⟩ := Sl_ok hM hq hi
  exact Fs_lt hM.2.2.2.2.1 h1 h2 (by have := (hM.2.2.2.2.1 _ h1 h2).2.2.2.2.1; omega)
theorem cellAt_in {v : xV} {q i : Nat} (hi : i < Ln v q) : cellAt v q i = nI (Fs v (Sl v q i) 0) := by rw [cellAt, if_pos hi]
theorem cellAt_out {v : xV} {q i : Nat} (hi : ¬ i < Ln v q) : cellAt v q i = -1 := by rw [cellAt, if_neg hi]
theorem c_walk {σ : xS} {v : xV} {C p r j : Nat} (hM : MW v C) (hX : RX (σ 0) v C) (hC : C ≤ 128) (hp : p < 6) (hr : r < 3) (hj : j < Ln v (3 * p + r)) : ∀ (n i : Nat), i ≤ j → j < n + i → BX5_packetAt_43 (nI j) n (cellAt v (3 * p + r) i) (nI i) σ = some (v (ik (Sl v (3 * p + r) j) 0), σ) := by
  intro n
  have hq : 3 * p + r < 18 := by omega
  induction n with
  | zero => intro i h1 h2; omega
  | succ n ih =>
    intro i h1 h2
    have hi : i < Ln v (3 * p + r) := by omega
    have hc := cell_lt hM hq hi
    have hL : Ln v (3 * p + r) ≤ 128 := (hM.1 _ hq).2
    rw [BX5_packetAt_43, cellAt_in hi]
    by_cases e : i = j
    · subst e
      obtain ⟨s1, s2⟩ := Sl_ok hM hq hi
      rw [if_pos (nI_le (Nat.le_refl _) (by omega)), c_num (by omega), b_s, (hX.2.1 _ s1 s2).1]
    · rw [if_neg (nI_ge (by omega) (by omega)), c_behind (by omega), b_s, l_v, nI_1, ((hX.1 p r hp hr).2.2 i hi).1]
      exact ih (i + 1) (by omega) (by omega)
theorem Ln_nI {v : xV} {C q : Nat} (hM : MW v C) (hq : q < 18) : v (iq q 12) = nI (Ln v q) := (hM.1 q hq).1
theorem len_cases {L : Nat} (hL : L ≤ 128) (x : Int32) : (∃ j, j < L ∧ x = nI j ∧ (0 ≤ x ∧ x ≤ nI L - 1)) ∨ ¬ (0 ≤ x ∧ x ≤ nI L - 1) := by
  by_cases h : 0 ≤ x ∧ x ≤ nI L - 1
  · left
    rcases pk_ix x (n := L) (by omega) with a | a | ⟨j, h1, h2⟩
    · grind
    · exfalso
      by_cases h0 : L = 0
      · subst h0
        have : nI 0 = 0 := rfl
        grind
      · obtain ⟨M, rfl⟩ : ∃ M, L = M + 1 := ⟨L - 1, by omega⟩
        rw [nI_pred] at h
        have : nI M < nI (M + 1) := nI_lt (by omega) (by omega)
        grind
    · exact ⟨j, h1, h2, h⟩
  · exact Or.inr h
theorem xp35 : xP35 Inv := by
  intro n σ a1 a2 a3 hI hn
  obtain ⟨C, P, hG, hQ, hPp, hLs, hDd, hRf, wP, wQ, wT, wS, wN, hM, hX, hgr, hb⟩ := Inv_RR hI hn
  obtain ⟨hP5, hP0, h1, h6⟩ := b_P hG hDd
  rcases ix_cases a1 h6 with ⟨p, hp, rfl⟩ | ha
  · rcases ix3 a2 with ⟨r, hr, rfl⟩ | hb2
    · have hq : 3 * p + r < 18 := by omega
      have hL : Ln (vv σ) (3 * p + r) ≤ 128 := (hM.1 _ hq).2
      have e15 : σ 0 16 p r 15 = nI (Ln (vv σ) (3 * p + r)) := (hQ p r 15 12 (by omega) hr rfl).trans (Ln_nI hM hq)
      have e13 := (hX.1 p r (by omega) hr).1
      have e5 : σ 5 31 0 0 (iq (3 * p + r) 12) = nI (Ln (vv σ) (3 * p + r)) := Ln_nI hM hq
      rcases len_cases hL a3 with ⟨j, hj, rfl, hr3⟩ | hr3
      · obtain ⟨s1, s2⟩ := Sl_ok hM hq hj
        refine ⟨σ 5 31 0 0 (ik (Sl (vv σ) (3 * p + r) j) 0), σ, σ, ?_, ?_, Inv_mono n σ hI⟩
        · rw [fX5_packetAt, c_queueAt_t hP0 h6 hp hr, b_s]
          show x_g (ok3 (0, p, r)) (x_b (fX5_isOutside (nI j) 0 (σ 0 16 p r 15 - 1) σ) _) = _
          rw [ok3_t (by decide) (by omega) hr, g_t, c_out, e15, b_s, if_pos hr3, if_pos rfl, l_v]
          show BX5_packetAt_43 (nI j) x_FU (σ 0 16 p r 13) (nI 0) σ = _
          rw [e13]
          exact c_walk hM hX hG.2.2.1 (by omega) hr hj x_FU 0 (by omega) (by unfold x_FU; omega)
        · have e6 : σ 5 31 0 0 (448 + 128 * (3 * p + r) + j) = nI (Sl (vv σ) (3 * p + r) j) := (hM.2.1 _ _ hq hj).1
          rw [fX6_packetAt, m_isQueue_t hP5 h6 hp hr, b_s, if_neg (by decide), q3, m_queue_12, b_s, in_nI (by omega) (by omega), g_t, nI_clamp (by omega), m_in, e5, b_s, if_pos hr3, if_neg (by decide), m_entry, b_s, in_nI (by omega) (by omega), g_t, nI_clamp (by omega), e6, m_packet_0, b_s, in_nI (by omega) (by omega), g_t, nI_clamp (by omega)]
      · refine ⟨-1, σ, σ, ?_, ?_, Inv_mono n σ hI⟩
        · rw [fX5_packetAt, c_queueAt_t hP0 h6 hp hr, b_s]
          show x_g (ok3 (0, p, r)) (x_b (fX5_isOutside a3 0 (σ 0 16 p r 15 - 1) σ) _) = _
          rw [ok3_t (by decide) (by omega) hr, g_t, c_out, e15, b_s, if_neg hr3, if_neg (by decide)]
        · rw [fX6_packetAt, m_isQueue_t hP5 h6 hp hr, b_s, if_neg (by decide), q3, m_queue_12, b_s, in_nI (by omega) (by omega), g_t, nI_clamp (by omega), m_in, e5, b_s, if_neg hr3, if_pos rfl]
    · refine ⟨-1, σ, σ, ?_, ?_, Inv_mono n σ hI⟩
      · rw [fX5_packetAt, c_queueAt_r hP0 h6 hp hb2, b_s]
      · rw [fX6_packetAt, m_isQueue_r hP5 h6 hp hb2, b_s, if_pos rfl]
  · refine ⟨-1, σ, σ, ?_, ?_, Inv_mono n σ hI⟩
    · rw [fX5_packetAt, c_queueAt_p hP0 ha, b_s]
    · rw [fX6_packetAt, m_isQueue_p hP5 h1 h6 ha, b_s, if_pos rfl]
-- fragments
theorem c_find_t {σ : xS} {d C c0 : Nat} {a : Int32} (hC : σ d 1 0 0 0 = nI C) (hC8 : C ≤ 128) (h0 : c0 < C) (he : σ d 5 0 0 c0 = a) (hlt : ∀ c, c < c0 → σ d 5 0 0 c ≠ a) : ∀ (n i : Nat), i ≤ c0 → c0 < n + i → BX1_find_8 d a n (nI i) σ = some (nI c0, σ) := by
  intro n
  induction n with
  | zero => intro i h1 h2; omega
  | succ n ih =>
    intro i h1 h2
    rw [BX1_find_8, hC, if_neg (nI_ge (by omega) (by omega)), in_nI (by omega) (by omega), g_t, nI_clamp (by omega)]
    by_cases e : i = c0
    · subst e
      rw [if_pos he]
    · rw [if_neg (hlt i (by omega)), l_v, nI_1]
      exact ih (i + 1) (by omega) (by omega)
theorem c_find_f {σ : xS} {d C : Nat} {a : Int32} (hC : σ d 1 0 0 0 = nI C) (hC8 : C ≤ 128) (hlt : ∀ c, c < C → σ d 5 0 0 c ≠ a) : ∀ (n i : Nat), i ≤ C → C < n + i → BX1_find_8 d a n (nI i) σ = some (-1, σ) := by
  intro n
  induction n with
  | zero => intro i h1 h2; omega
  | succ n ih =>
    intro i h1 h2
    rw [BX1_find_8, hC]
    by_cases e : i < C
    · rw [if_neg (nI_ge e (by omega)), in_nI (by omega) (by omega), g_t, nI_clamp (by omega), if_neg (hlt i e), l_v, nI_1]
      exact ih (i + 1) (by omega) (by omega)
    · rw [if_pos (nI_le (by omega) (by omega))]
theorem m_slot_t {σ : xS} {k0 : Nat} {a : Int32} (h0 : k0 < 128) (hu : Us (vv σ) k0) (he : vv σ (ik k0 0) = a) (hlt : ∀ k, k < k0 → Us (vv σ) k → vv σ (ik k 0) ≠ a) : ∀ (n i : Nat), i ≤ k0 → k0 < n + i → BX6_slotOf_2 a n (nI i) σ = some (nI k0, σ) := by
  intro n
  induction n with
  | zero => intro i h1 h2; omega
  | succ n ih =>
    intro i h1 h2
    rw [BX6_slotOf_2, if_neg (show ¬ (128 : Int32) ≤ nI i from nI_ge (b := 128) (by omega) (by omega)), m_packet_3, b_s, in_nI (by omega) (by omega), g_t, nI_clamp (by omega)]
    by_cases e : i = k0
    · subst e
      have hu' : σ 5 31 0 0 (2752 + 28 * i + 3) = 1 := hu
      have he' : σ 5 31 0 0 (2752 + 28 * i + 0) = a := he
      rw [if_pos hu', m_packet_0, b_s, in_nI (by omega) (by omega), g_t, nI_clamp (by omega), if_pos he']
    · by_cases hu' : σ 5 31 0 0 (2752 + 28 * i + 3) = 1
      · have hne : ¬ σ 5 31 0 0 (2752 + 28 * i + 0) = a := hlt i (by omega) hu'
        rw [if_pos hu', m_packet_0, b_s, in_nI (by omega) (by omega), g_t, nI_clamp (by omega), if_neg hne, l_v, nI_1]
        exact ih (i + 1) (by omega) (by omega)
      · rw [if_neg hu', l_v, nI_1]
        exact ih (i + 1) (by omega) (by omega)
theorem m_slot_f {σ : xS} {a : Int32} (hlt : ∀ k, k < 128 → Us (vv σ) k → vv σ (ik k 0) ≠ a) : ∀ (n i : Nat), i ≤ 128 → 128 < n + i → BX6_slotOf_2 a n (nI i) σ = some (-1, σ) := by
  intro n
  induction n with
  | zero => intro i h1 h2; omega
  | succ n ih =>
    intro i h1 h2
    rw [BX6_slotOf_2]
    by_cases e : i < 128
    · rw [if_neg (show ¬ (128 : Int32) ≤ nI i from nI_ge (b := 128) e (by omega)), m_packet_3, b_s, in_nI (by omega) (by omega), g_t, nI_clamp (by omega)]
      by_cases hu' : σ 5 31 0 0 (2752 + 28 * i + 3) = 1
      · have hne : ¬ σ 5 31 0 0 (2752 + 28 * i + 0) = a := hlt i (by omega) hu'
        rw [if_pos hu', m_packet_0, b_s, in_nI (by omega) (by omega), g_t, nI_clamp (by omega), if_neg hne, l_v, nI_1]
        exact ih (i + 1) (by omega) (by omega)
      · rw [if_neg hu', l_v, nI_1]
        exact ih (i + 1) (by omega) (by omega)
    · rw [if_pos (show (128 : Int32) ≤ nI i from nI_le (a := 128) (by omega) (by omega))]
/-- a packet by its number, on both sides -/
theorem pk_find {σ : xS} {C : Nat} (hC : σ 0 1 0 0 0 = nI C) (hC8 : C ≤ 128) (hM : MW (vv σ) C) (hX : RX (σ 0) (vv σ) C) (a : Int32) : (∃ k, k < 128 ∧ Us (vv σ) k ∧ vv σ (ik k 0) = a ∧ fX1_find 0 a σ = some (nI (Fs (vv σ) k 0), σ) ∧ fX6_slotOf a σ = some (nI k, σ)) ∨ (fX1_find 0 a σ = some (-1, σ) ∧ fX6_slotOf a σ = some (-1, σ)) := by
  obtain ⟨m1, m2, m3, m4, m5, m6, m7, m8, m9, m10⟩ := hM
  obtain ⟨x1, x2, x3, x4⟩ := hX
  by_cases h : ∃ k, k < 128 ∧ Us (vv σ) k ∧ vv σ (ik k 0) = a
  · obtain ⟨k, hk, hu, he⟩ := h
    left
    have hp := m5 k hk hu
    have hc : Fs (vv σ) k 0 < C := Fs_lt m5 hk hu (by omega)
    have ha : 0 ≤ a := by rw [← he]; exact hp.2.2.2.2.2.2.2.2.1
    refine ⟨k, hk, hu, he, ?_, ?_⟩
    · rw [fX1_find, if_pos ha]
      refine c_find_t hC hC8 hc ((x2 k hk hu).1.trans he) (fun c hcl hce => ?_) x_FU 0 (by omega) (by unfold x_FU; omega)
      rcases x3 c (by omega) with e1 | ⟨k', hk', hu', e1⟩
      · rw [hce] at e1
        rw [e1] at ha
        exact absurd ha (by decide)
      · have e2 := (x2 k' hk' hu').1
        rw [e1, hce] at e2
        have := m6 k' k hk' hu' hk hu (e2.symm.trans he.symm)
        subst this
        omega
    · exact m_slot_t hk hu he (fun k' hk' hu' e => by have := m6 k' k (by omega) hu' hk hu (e.trans he.symm); omega) x_FU 0 (by omega) (by unfold x_FU; omega)
  · right
    refine ⟨?_, m_slot_f (fun k hk hu he => h ⟨k, hk, hu, he⟩) x_FU 0 (by omega) (by unfold x_FU; omega)⟩
    rw [fX1_find]
    by_cases ha : 0 ≤ a
    · rw [if_pos ha]
      refine c_find_f hC hC8 (fun c hcl hce => ?_) x_FU 0 (by omega) (by unfold x_FU; omega)
      rcases x3 c (by omega) with e1 | ⟨k', hk', hu', e1⟩
      · rw [hce] at e1
        rw [e1] at ha
        exact absurd ha (by decide)
      · have e2 := (x2 k' hk' hu').1
        rw [e1, hce] at e2
        exact h ⟨k', hk', hu', e2.symm⟩
    · rw [if_neg ha]
theorem xp36 : xP36 Inv := by
  intro n σ a1 hI hn
  obtain ⟨C, P, hG, hQ, hPp, hLs, hDd, hRf, wP, wQ, wT, wS, wN, hM, hX, hgr, hb⟩ := Inv_RR hI hn
  have hC : σ 0 1 0 0 0 = nI C := hDd.1.trans hG.1
  rcases pk_find hC hG.2.2.1 hM hX a1 with ⟨k, hk, hu, he, h1, h2⟩ | ⟨h1, h2⟩
  · have hp := hM.2.2.2.2.1 k hk hu
    have hc : Fs (vv σ) k 0 < C := Fs_lt hM.2.2.2.2.1 hk hu (by omega)
    have hC8 := hG.2.2.1
    have ne : ¬ nI (Fs (vv σ) k 0) = -1 := fun q => by
      have : 0 ≤ nI (Fs (vv σ) k 0) := nI_pos' (by omega)
      rw [q] at this
      exact absurd this (by decide)
    refine ⟨σ 5 31 0 0 (ik k 2), σ, σ, ?_, ?_, Inv_mono n σ hI⟩
    · rw [fX5_fragments, h1, b_s, if_neg ne, c_parts (by omega), b_s, (hX.2.1 k hk hu).2.2.1]
    · rw [fX6_fragments, h2, b_s, if_pos (nI_pos' (by omega)), m_packet_2, b_s, in_nI (by omega) (by omega), g_t, nI_clamp (by omega)]
  · refine ⟨-1, σ, σ, ?_, ?_, Inv_mono n σ hI⟩
    · rw [fX5_fragments, h1, b_s, if_pos rfl]
    · rw [fX6_fragments, h2, b_s, if_neg (by decide)]
theorem c_chain {σ : xS} {v : xV} {C k j : Nat} (hM : MW v C) (hX : RX (σ 0) v C) (hC : C ≤ 128) (hk : k < 128) (hu : Us v k) (hj : j < Pn v k) : ∀ (n i : Nat), i ≤ j → j < n + i → BX1_partStart_20 0 (nI j) n (nI (Fs v k i)) (nI i) σ = some (nI (Fs v k j), σ) := by
  intro n
  have hP := hM.2.2.2.2.1 k hk hu
  induction n with
  | zero => intro i h1 h2; omega
  | succ n ih =>
    intro i h1 h2
    have hc : Fs v k i < C := Fs_lt hM.2.2.2.2.1 hk hu (by omega)
    rw [BX1_partStart_20]
    by_cases e : i = j
    · subst e
      rw [if_pos (nI_le (Nat.le_refl _) (by omega)), c_cell_t (by omega), b_s, if_neg (by decide)]
    · rw [if_neg (nI_ge (by omega) (by omega)), c_next (by omega), b_s, l_v, nI_1, ((hX.2.1 k hk hu).2.2.2 i (by omega)).2, if_pos (by omega)]
      exact ih (i + 1) (by omega) (by omega)
theorem c_partStart {σ : xS} {C : Nat} (hM : MW (vv σ) C) (hX : RX (σ 0) (vv σ) C) (hC : C ≤ 128) {k : Nat} (hk : k < 128) (hu : Us (vv σ) k) (a : Int32) : (∃ f, f < Pn (vv σ) k ∧ a = nI f ∧ (0 ≤ a ∧ a ≤ vv σ (ik k 2) - 1) ∧ fX1_partStart 0 (nI (Fs (vv σ) k 0)) a σ = some (nI (Fs (vv σ) k f), σ)) ∨ (¬ (0 ≤ a ∧ a ≤ vv σ (ik k 2) - 1) ∧ fX1_partStart 0 (nI (Fs (vv σ) k 0)) a σ = some (-1, σ)) := by
  have hp := hM.2.2.2.2.1 k hk hu
  have hc : Fs (vv σ) k 0 < C := Fs_lt hM.2.2.2.2.1 hk hu (by omega)
  have e2 : σ 0 7 0 0 (Fs (vv σ) k 0) = nI (Pn (vv σ) k) := (hX.2.1 k hk hu).2.2.1.trans hp.2.2.2.1
  rw [hp.2.2.2.1]
  rcases len_cases (L := Pn (vv σ) k) (by omega) a with ⟨f, hf, rfl, hr⟩ | hr
  · refine Or.inl ⟨f, hf, rfl, hr, ?_⟩
    rw [fX1_partStart, if_neg (nI_nn (by omega)), c_parts (by omega), b_s, e2, if_pos (nI_lt hf (by omega))]
    exact c_chain hM hX hC hk hu hf x_FU 0 (by omega) (by unfold x_FU; omega)
  · refine Or.inr ⟨hr, ?_⟩
    rw [fX1_partStart]
    by_cases h0 : a < 0
    · rw [if_pos h0]
    · rw [if_neg h0, c_parts (by omega), b_s, e2, if_neg]
      intro hlt
      obtain ⟨M, hM2⟩ : ∃ M, Pn (vv σ) k = M + 1 := ⟨Pn (vv σ) k - 1, by omega⟩
      rw [hM2, nI_pred] at hr
      rw [hM2] at hlt
      have h9 : nI M + 1 = nI (M + 1) := nI_1 M
      have h10 : nI M ≤ 12 := nI_le (b := 12) (by omega) (by omega)
      rw [← h9] at hlt
      grind
theorem c_partStart_f {σ : xS} (a : Int32) : fX1_partStart 0 (-1) a σ = some (-1, σ) := by
  rw [fX1_partStart]
  by_cases h0 : a < 0
  · rw [if_pos h0]
  · rw [if_neg h0, c_parts_f, b_s, if_neg h0]
theorem nI_nm1 {j : Nat} (hj : j < 2 ^ 31) : ¬ nI j = -1 := fun q => by
  have : 0 ≤ nI j := nI_pos' hj
  rw [q] at this
  exact absurd this (by decide)
theorem m_ofFrag {σ : xS} {a a2 y : Int32} {k f g : Nat} (h : fX6_slotOf a σ = some (nI k, σ)) (hk : k < 128) (hr : 0 ≤ a2 ∧ a2 ≤ vv σ (ik k 2) - 1) (ha : a2 = nI f) (hf : f < 12) (hy : y = nI g) (hg : g ≤ 16) : fX6_ofFragment a a2 y σ = some (σ 5 31 0 0 (ik k (g + f)), σ) := by
  have hr' : 0 ≤ a2 ∧ a2 ≤ σ 5 31 0 0 (2752 + 28 * k + 2) - 1 := hr
  have e : y + a2 = nI (g + f) := by rw [hy, ha, nI_add]
  rw [fX6_ofFragment, h, b_s, if_neg (nI_nn (by omega)), m_packet_2, b_s, in_nI (by omega) (by omega), g_t, nI_clamp (by omega), m_in, b_s, if_pos hr', if_neg (by decide), e, m_packetN, b_s, in_nI (by omega) (by omega), g_t, nI_clamp (by omega)]
theorem m_ofFrag_r {σ : xS} {a a2 y : Int32} {k : Nat} (h : fX6_slotOf a σ = some (nI k, σ)) (hk : k < 128) (hr : ¬ (0 ≤ a2 ∧ a2 ≤ vv σ (ik k 2) - 1)) : fX6_ofFragment a a2 y σ = some (-1, σ) := by
  have hr' : ¬ (0 ≤ a2 ∧ a2 ≤ σ 5 31 0 0 (2752 + 28 * k + 2) - 1) := hr
  rw [fX6_ofFragment, h, b_s, if_neg (nI_nn (by omega)), m_packet_2, b_s, in_nI (by omega) (by omega), g_t, nI_clamp (by omega), m_in, b_s, if_neg hr', if_pos rfl]
theorem m_ofFrag_f {σ : xS} {a a2 y : Int32} (h : fX6_slotOf a σ = some (-1, σ)) : fX6_ofFragment a a2 y σ = some (-1, σ) := by
  rw [fX6_ofFragment, h, b_s, if_pos (by decide)]
theorem xp37 : xP37 Inv := by
  intro n σ a1 a2 hI hn
  obtain ⟨C, P, hG, hQ, hPp, hLs, hDd, hRf, wP, wQ, wT, wS, wN, hM, hX, hgr, hb⟩ := Inv_RR hI hn
  have hC : σ 0 1 0 0 0 = nI C := hDd.1.trans hG.1
  have hC8 := hG.2.2.1
  rcases pk_find hC hC8 hM hX a1 with ⟨k, hk, hu, he, h1, h2⟩ | ⟨h1, h2⟩
  · have hp := hM.2.2.2.2.1 k hk hu
    rcases c_partStart hM hX hC8 hk hu a2 with ⟨f, hf, ha, hr, h3⟩ | ⟨hr, h3⟩
    · have hc : Fs (vv σ) k f < C := Fs_lt hM.2.2.2.2.1 hk hu hf
      refine ⟨nI (Fs (vv σ) k f), σ, σ, ?_, ?_, Inv_mono n σ hI⟩
      · rw [fX5_fragmentStart, h1, b_s, h3, b_s, if_neg (nI_nm1 (by omega))]
      · rw [fX6_fragmentStart, m_ofFrag (g := 4) (y := 4) h2 hk hr ha (by omega) rfl (by decide), b_s]
        exact congrArg (fun x => some (x, σ)) (hp.2.2.2.2.2.2.1 f hf).1
    · refine ⟨-1, σ, σ, ?_, ?_, Inv_mono n σ hI⟩
      · rw [fX5_fragmentStart, h1, b_s, h3, b_s, if_pos rfl]
      · rw [fX6_fragmentStart, m_ofFrag_r h2 hk hr, b_s]
  · refine ⟨-1, σ, σ, ?_, ?_, Inv_mono n σ hI⟩
    · rw [fX5_fragmentStart, h1, b_s, c_partStart_f, b_s, if_pos rfl]
    · rw [fX6_fragmentStart, m_ofFrag_f h2, b_s]
theorem xp38 : xP38 Inv := by
  intro n σ a1 a2 hI hn
  obtain ⟨C, P, hG, hQ, hPp, hLs, hDd, hRf, wP, wQ, wT, wS, wN, hM, hX, hgr, hb⟩ := Inv_RR hI hn
  have hC : σ 0 1 0 0 0 = nI C := hDd.1.trans hG.1
  have hC8 := hG.2.2.1
  rcases pk_find hC hC8 hM hX a1 with ⟨k, hk, hu, he, h1, h2⟩ | ⟨h1, h2⟩
  · have hp := hM.2.2.2.2.1 k hk hu
    rcases c_partStart hM hX hC8 hk hu a2 with ⟨f, hf, ha, hr, h3⟩ | ⟨hr, h3⟩
    · have hc : Fs (vv σ) k f < C := Fs_lt hM.2.2.2.2.1 hk hu hf
      refine ⟨σ 5 31 0 0 (ik k (16 + f)), σ, σ, ?_, ?_, Inv_mono n σ hI⟩
      · rw [fX5_fragmentLength, h1, b_s, h3, b_s, if_neg (nI_nm1 (by omega)), in_nI (by omega) (by omega), g_t, nI_clamp (by omega)]
        exact congrArg (fun x => some (x, σ)) ((hX.2.1 k hk hu).2.2.2 f hf).1
      · rw [fX6_fragmentLength, m_ofFrag (g := 16) (y := 16) h2 hk hr ha (by omega) rfl (by decide), b_s]
    · refine ⟨-1, σ, σ, ?_, ?_, Inv_mono n σ hI⟩
      · rw [fX5_fragmentLength, h1, b_s, h3, b_s, if_pos rfl]
      · rw [fX6_fragmentLength, m_ofFrag_r h2 hk hr, b_s]
  · refine ⟨-1, σ, σ, ?_, ?_, Inv_mono n σ hI⟩
    · rw [fX5_fragmentLength, h1, b_s, c_partStart_f, b_s, if_pos rfl]
    · rw [fX6_fragmentLength, m_ofFrag_f h2, b_s]
