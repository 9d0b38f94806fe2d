/-! ===== checksum ===== -/
theorem ck_parts {σ : xS} {C p r q i k : Nat} {kc : Int64 → Int32 → Int32 → xS → Option (Int64 × xS)} {km : Int64 → Int32 → xS → Option (Int64 × xS)} (hC : C ≤ 128) (hM : MW (vv σ) C) (hX : RX (σ 0) (vv σ) C) (hq : q = 3 * p + r) (hp : p < 6) (hr : r < 3) (hi : i < Ln (vv σ) q) (hk : k = Sl (vv σ) q i) : ∀ (n f : Nat) (g : Int64), f ≤ Pn (vv σ) k → Pn (vv σ) k < n + f → ∃ g', BX5_mixPackets_54 0 p r 0 (nI (Fs (vv σ) k 0)) (nI i) kc n g (if f < Pn (vv σ) k then nI (Fs (vv σ) k f) else -1) (nI f) σ = kc g' (cellAt (vv σ) q (i + 1)) (nI (i + 1)) σ ∧ BX6_sumOfQueue_155 (nI q) (nI i) (nI k) km n g (nI f) σ = km g' (nI (i + 1)) σ := by
  have hq18 : q < 18 := by omega
  obtain ⟨s1, s2⟩ := Sl_ok hM hq18 hi
  rw [← hk] at s1 s2
  have hp0 := hM.2.2.2.2.1 k s1 s2
  have hc0 : Fs (vv σ) k 0 < C := Fs_lt hM.2.2.2.2.1 s1 s2 (by omega)
  have e2 : σ 0 7 0 0 (Fs (vv σ) k 0) = nI (Pn (vv σ) k) := (hX.2.1 k s1 s2).2.2.1.trans hp0.2.2.2.1
  have e2m : σ 5 31 0 0 (2752 + 28 * k + 2) = nI (Pn (vv σ) k) := hp0.2.2.2.1
  have eb : σ 0 9 0 0 (Fs (vv σ) k 0) = cellAt (vv σ) q (i + 1) := by
    have := ((hX.1 p r hp hr).2.2 i (by rw [← hq]; exact hi)).1
    rw [← hq, ← hk] at this
    exact this
  intro n
  induction n with
  | zero => intro f g h1 h2; omega
  | succ n ih =>
    intro f g h1 h2
    rw [BX5_mixPackets_54, BX6_sumOfQueue_155, c_parts (by omega), b_s, e2, m_packet_2, b_s, in_nI (by omega) (by omega), g_t, nI_clamp (by omega), e2m]
    by_cases e : f < Pn (vv σ) k
    · have hcf : Fs (vv σ) k f < C := Fs_lt hM.2.2.2.2.1 s1 s2 e
      have e4 : (4 : Int32) + nI f = nI (4 + f) := nI_add 4 f
      have e4m : σ 5 31 0 0 (2752 + 28 * k + (4 + f)) = nI (Fs (vv σ) k f) := (hp0.2.2.2.2.2.2.1 f e).1
      rw [if_neg (nI_ge e (by omega)), if_neg (nI_ge e (by omega)), if_pos e, l_v, c_next (by omega), b_s, l_v, nI_1, ((hX.2.1 k s1 s2).2.2.2 f e).2, e4, m_packetN, b_s, in_nI (by omega) (by omega), g_t, nI_clamp (by omega), e4m, fX6_sumOf, b_s, l_v]
      exact ih (f + 1) _ (by omega) (by omega)
    · rw [if_pos (nI_le (by omega) (by omega)), if_pos (nI_le (by omega) (by omega)), c_behind (by omega), b_s, l_v, l_v, nI_1, eb]
      exact ⟨g, rfl, rfl⟩
theorem ck_packets {σ : xS} {C p r q : Nat} (hC : C ≤ 128) (hQ : cfQ (σ 0) (vv σ)) (hM : MW (vv σ) C) (hX : RX (σ 0) (vv σ) C) (hq : q = 3 * p + r) (hp : p < 6) (hr : r < 3) : ∀ (n i : Nat) (g : Int64), i ≤ Ln (vv σ) q → Ln (vv σ) q < n + i → ∃ g', BX5_mixPackets_21 0 p r 0 n g (cellAt (vv σ) q i) (nI i) σ = some (g', σ) ∧ BX6_sumOfQueue_104 (nI q) n g (nI i) σ = some (g', σ) := by
  have hq18 : q < 18 := by omega
  have hL : Ln (vv σ) q ≤ 128 := (hM.1 q hq18).2
  have e15 : σ 0 16 p r 15 = nI (Ln (vv σ) q) := by
    rw [hQ p r 15 12 hp hr rfl, ← hq]
    exact Ln_nI hM hq18
  have e12 : σ 5 31 0 0 (160 + 16 * q + 12) = nI (Ln (vv σ) q) := Ln_nI hM hq18
  intro n
  induction n with
  | zero => intro i g h1 h2; omega
  | succ n ih =>
    intro i g h1 h2
    rw [BX5_mixPackets_21, BX6_sumOfQueue_104, e15, m_queue_12, b_s, in_nI (by omega) (by omega), g_t, nI_clamp (by omega), e12]
    by_cases e : i < Ln (vv σ) q
    · obtain ⟨s1, s2⟩ := Sl_ok hM hq18 e
      have hp0 := hM.2.2.2.2.1 _ s1 s2
      have hc0 := cell_lt hM hq18 e
      have e6 : σ 5 31 0 0 (448 + 128 * q + i) = nI (Sl (vv σ) q i) := (hM.2.1 _ _ hq18 e).1
      rw [if_neg (nI_ge e (by omega)), if_neg (nI_ge e (by omega)), cellAt_in e, c_num (by omega), b_s, l_v, (hX.2.1 _ s1 s2).1, m_entry, b_s, in_nI (by omega) (by omega), g_t, nI_clamp (by omega), e6, l_v, m_packet_0, b_s, in_nI (by omega) (by omega), g_t, nI_clamp (by omega), fX6_sumOf, b_s]
      obtain ⟨g', k1, k2⟩ := ck_parts (kc := BX5_mixPackets_21 0 p r 0 n) (km := BX6_sumOfQueue_104 (nI q) n) hC hM hX hq hp hr e rfl x_FU 0 (31 * g + (σ 5 31 0 0 (2752 + 28 * Sl (vv σ) q i + 0)).toInt64) (by omega) (by unfold x_FU; omega)
      rw [if_pos (by omega), nI_0] at k1
      rw [nI_0] at k2
      have e0 : vv σ (ik (Sl (vv σ) q i) 0) = σ 5 31 0 0 (2752 + 28 * Sl (vv σ) q i + 0) := rfl
      rw [e0, k1, k2]
      exact ih (i + 1) g' (by omega) (by omega)
    · rw [if_pos (nI_le (by omega) (by omega)), if_pos (nI_le (by omega) (by omega))]
      exact ⟨g, rfl, rfl⟩
theorem ck_queue {σ : xS} {b C P p r : Nat} (hW : RW (σ 0) (vv σ) b C P) (hp : p < 6) (hr : r < 3) (g : Int64) : ∃ g', x_let ((31 * g) + ((σ 0 16 p r 10).toInt64)) (fun t8 => x_let ((31 * t8) + ((σ 0 16 p r 11).toInt64)) fun t9 => x_let ((31 * t9) + ((σ 0 16 p r 12).toInt64)) fun t10 => x_let ((31 * t10) + ((σ 0 16 p r 4).toInt64)) fun t11 => x_b (fX5_asNumber (σ 0 16 p r 8) σ) fun z12 s12 => x_let ((31 * t11) + z12.toInt64) fun t13 => x_let ((31 * t13) + ((s12 0 16 p r 6).toInt64)) fun t14 => x_let ((31 * t14) + ((s12 0 16 p r 15).toInt64)) fun t15 => fX5_mixPackets t15 0 p r s12) = some (g', σ) ∧ fX6_sumOfQueue g (nI (3 * p + r)) σ = some (g', σ) := by
  obtain ⟨hG, hQ, hPp, hLs, hDd, hRf, wP, wQ, wT, wN, hM, hX, hb⟩ := hW.1
  have hq18 : 3 * p + r < 18 := by omega
  have z8 : x_z (σ 0 16 p r 8) = true := by rw [hQ p r 8 10 hp hr rfl]; exact (wQ _ hq18).2.2.2.2.2.2.2.2.2.2
  simp only [l_v]
  rw [c_asNum _ z8, b_s]
  have hL : Ln (vv σ) (3 * p + r) ≤ 128 := (hM.1 _ hq18).2
  obtain ⟨g', k1, k2⟩ := ck_packets hG.2.2.1 hQ hM hX rfl hp hr x_FU 0 (31 * (31 * (31 * (31 * (31 * (31 * (31 * g + (σ 0 16 p r 10).toInt64) + (σ 0 16 p r 11).toInt64) + (σ 0 16 p r 12).toInt64) + (σ 0 16 p r 4).toInt64) + (σ 0 16 p r 8).toInt64) + (σ 0 16 p r 6).toInt64) + (σ 0 16 p r 15).toInt64) (by omega) (by unfold x_FU; omega)
  refine ⟨g', ?_, ?_⟩
  · rw [nI_0] at k1
    rw [fX5_mixPackets, l_v, (hX.1 p r hp hr).1]
    exact k1
  · have st : ∀ (n f : Nat) (h : Int64), f < 16 → f ≤ 8 → BX6_sumOfQueue_7 (nI (3 * p + r)) (n + 1) h (nI f) σ = BX6_sumOfQueue_7 (nI (3 * p + r)) n (31 * h + (σ 5 31 0 0 (iq (3 * p + r) f)).toInt64) (nI (f + 1)) σ := fun n f h h1 h2 => by
      rw [BX6_sumOfQueue_7, if_neg (show ¬ (8 : Int32) < nI f from nI_nlt (a := 8) h2 (by omega)), m_queueN, b_s, in_nI (by omega) (by omega), g_t, nI_clamp (by omega), fX6_sumOf, b_s, l_v, nI_1]
    obtain ⟨m, hm⟩ : ∃ m, x_FU = m + 1 + 1 + 1 + 1 := ⟨199996, rfl⟩
    rw [fX6_sumOfQueue, hm, show (6 : Int32) = nI 6 from rfl, st _ 6 _ (by omega) (by omega), st _ 7 _ (by omega) (by omega), st _ 8 _ (by omega) (by omega), BX6_sumOfQueue_7, if_pos (show (8 : Int32) < nI 9 from nI_lt (a := 8) (by omega) (by omega)), m_queue_3, b_s, in_nI (by omega) (by omega), g_t, nI_clamp (by omega), fX6_sumOf, b_s, m_queue_10, b_s, in_nI (by omega) (by omega), g_t, nI_clamp (by omega), fX6_sumOf, b_s, m_queue_5, b_s, in_nI (by omega) (by omega), g_t, nI_clamp (by omega), fX6_sumOf, b_s, m_queue_12, b_s, in_nI (by omega) (by omega), g_t, nI_clamp (by omega), fX6_sumOf, b_s]
    rw [hQ p r 10 6 hp hr rfl, hQ p r 11 7 hp hr rfl, hQ p r 12 8 hp hr rfl, hQ p r 4 3 hp hr rfl, hQ p r 8 10 hp hr rfl, hQ p r 6 5 hp hr rfl, hQ p r 15 12 hp hr rfl, nI_0] at k2
    rw [hm] at k2
    have i6 : σ 5 31 0 0 (iq (3 * p + r) 6) = vv σ (iq (3 * p + r) 6) := rfl
    have i7 : σ 5 31 0 0 (iq (3 * p + r) 7) = vv σ (iq (3 * p + r) 7) := rfl
    have i8 : σ 5 31 0 0 (iq (3 * p + r) 8) = vv σ (iq (3 * p + r) 8) := rfl
    have i3 : σ 5 31 0 0 (160 + 16 * (3 * p + r) + 3) = vv σ (iq (3 * p + r) 3) := rfl
    have i10 : σ 5 31 0 0 (160 + 16 * (3 * p + r) + 10) = vv σ (iq (3 * p + r) 10) := rfl
    have i5 : σ 5 31 0 0 (160 + 16 * (3 * p + r) + 5) = vv σ (iq (3 * p + r) 5) := rfl
    have i12 : σ 5 31 0 0 (160 + 16 * (3 * p + r) + 12) = vv σ (iq (3 * p + r) 12) := rfl
    rw [i6, i7, i8, i3, i10, i5, i12, hm]
    exact k2
theorem ck_port {σ : xS} {b C P p : Nat} {km : Int64 → Int32 → xS → Option (Int64 × xS)} (hW : RW (σ 0) (vv σ) b C P) (hp : p < 6) : ∀ (n i : Nat) (g : Int64), i ≤ 3 → 3 < n + i → ∃ g', BX5_mixPort_87 0 p 3 n g (nI i) σ = some (g', σ) ∧ BX6_checksum_130 (nI p) km n g (nI (3 * p + i)) σ = km g' (nI (p + 1)) σ := by
  intro n
  induction n with
  | zero => intro i g h1 h2; omega
  | succ n ih =>
    intro i g h1 h2
    have e3 : (3 : Int32) * nI p + 3 = nI (3 * p + 3) := q3 p 3
    rw [BX5_mixPort_87, BX6_checksum_130, e3]
    by_cases e : i < 3
    · rw [if_neg (show ¬ (3 : Int32) ≤ nI i from nI_ge (b := 3) e (by omega)), in_nI e (by omega), g_t, nI_clamp (by omega), if_neg (nI_ge (by omega) (by omega))]
      obtain ⟨g1, k1, k2⟩ := ck_queue hW hp e g
      have z8 : x_z (σ 0 16 p i 8) = true := by rw [hW.1.2.1 p i 8 10 hp e rfl]; exact (hW.1.2.2.2.2.2.2.2.1 _ (by omega)).2.2.2.2.2.2.2.2.2.2
      simp only [l_v] at k1 ⊢
      rw [c_asNum _ z8, b_s] at k1 ⊢
      rw [k1, b_s, k2, b_s, nI_1, nI_1]
      exact ih (i + 1) g1 (by omega) (by omega)
    · rw [if_pos (show (3 : Int32) ≤ nI i from nI_le (a := 3) (by omega) (by omega)), if_pos (nI_le (by omega) (by omega)), l_v, nI_1]
      exact ⟨g, rfl, rfl⟩
theorem ck_runs {σ : xS} {C : Nat} {g : Nat → Bool} (hc : gC (σ 0) g C) (hm : gM (σ 5 31 0 0) g C) : ∀ (n i : Nat) (a : Int64), i ≤ C → C < n + i → ∃ r, BX5_checksum_109 0 n a (nI i) σ = some (r, σ) ∧ BX6_checksum_162 n a (nI i) σ = some (r, σ) := by
  have h8 := hm.2.1
  intro n
  induction n with
  | zero => intro i a h1 h2; omega
  | succ n ih =>
    intro i a h1 h2
    rw [BX5_checksum_109, BX6_checksum_162, hc.1, hm.1]
    by_cases e : i < C
    · rw [if_neg (nI_ge e (by omega)), if_neg (nI_ge e (by omega)), c_starts hc e, b_s, m_runAt hm e, b_s]
      by_cases q : rst g i = true
      · have hp := rn_pos e q
        have hl := rn_le g (C - i) i
        rw [if_pos q, if_neg (by decide), l_v, c_flen hc (by omega), b_s, l_v, l_v, if_pos q, if_neg (nI_nle (by omega) (by omega)), fX6_sumOf, b_s, fX6_sumOf, b_s, l_v, nI_1]
        exact ih (i + 1) _ (by omega) (by omega)
      · rw [if_neg q, if_pos rfl, l_v, if_neg q, if_pos (show nI 0 ≤ 0 from nI_le (a := 0) (b := 0) (by omega) (by omega)), l_v, nI_1]
        exact ih (i + 1) a (by omega) (by omega)
    · rw [if_pos (nI_le (by omega) (by omega)), if_pos (nI_le (by omega) (by omega))]
      exact ⟨a, rfl, rfl⟩
theorem ck_ports {σ : xS} {b C P : Nat} (hW : RW (σ 0) (vv σ) b C P) : ∀ (n i : Nat) (g : Int64), i ≤ P → P < n + i → ∃ r, BX5_checksum_66 n g (nI i) σ = some (r, σ) ∧ BX6_checksum_44 n g (nI i) σ = some (r, σ) := by
  obtain ⟨hP5, hP0, h1, h6⟩ := w_P hW
  obtain ⟨hG, hQ, hPp, hLs, hDd, hRf, wP, wQ, wT, wN, hM, hX, hb⟩ := hW.1
  intro n
  induction n with
  | zero => intro i a h1 h2; omega
  | succ n ih =>
    intro i g g1 g2
    rw [BX5_checksum_66, BX6_checksum_44, hP0, hP5]
    by_cases e : i < P
    · have hi6 : i < 6 := by omega
      have ef : σ 0 13 i 0 2 + σ 0 13 i 0 4 - (σ 0 16 i 0 10 + σ 0 16 i 1 10 + σ 0 16 i 2 10) = vv σ (ip i 0) + vv σ (ip i 2) - s3 (vv σ) i 6 := by
        rw [hPp i 2 0 hi6 rfl, hPp i 4 2 hi6 rfl, hQ i 0 10 6 hi6 (by omega) rfl, hQ i 1 10 6 hi6 (by omega) rfl, hQ i 2 10 6 hi6 (by omega) rfl]
        rfl
      rw [if_neg (nI_ge e (by omega)), if_neg (nI_ge e (by omega)), in_nI hi6 (by omega), g_t, nI_clamp (by omega), fX5_mixPort, fX2_guaranteeLeft, fX2_guaranteedInUse, b_s, b_s, ef, m_freeOf hi6, b_s, fX6_sumOf, b_s, m_port_2, b_s, in_nI (by omega) (by omega), g_t, nI_clamp (by omega), fX6_sumOf, b_s, m_port_4, b_s, in_nI (by omega) (by omega), g_t, nI_clamp (by omega), fX6_sumOf, b_s, m_port_9, b_s, in_nI (by omega) (by omega), g_t, nI_clamp (by omega), fX6_sumOf, b_s, m_port_10, b_s, in_nI (by omega) (by omega), g_t, nI_clamp (by omega), fX6_sumOf, b_s]
      rw [l_v, l_v, l_v, l_v, l_v, l_v]
      rw [hPp i 4 2 hi6 rfl, hPp i 7 4 hi6 rfl, hPp i 11 9 hi6 rfl, hPp i 10 10 hi6 rfl, q30]
      obtain ⟨g', k1, k2⟩ := ck_port (km := BX6_checksum_44 n) hW hi6 x_FU 0 (31 * (31 * (31 * (31 * (31 * g + (vv σ (ip i 0) + vv σ (ip i 2) - s3 (vv σ) i 6).toInt64) + (vv σ (ip i 2)).toInt64) + (vv σ (ip i 4)).toInt64) + (vv σ (ip i 9)).toInt64) + (vv σ (ip i 10)).toInt64) (by omega) (by unfold x_FU; omega)
      obtain ⟨r, m1, m2⟩ := ih (i + 1) g' (by omega) (by omega)
      rw [nI_0] at k1
      rw [Nat.add_zero] at k2
      have i2 : σ 5 31 0 0 (16 + 24 * i + 2) = vv σ (ip i 2) := rfl
      have i4 : σ 5 31 0 0 (16 + 24 * i + 4) = vv σ (ip i 4) := rfl
      have i9 : σ 5 31 0 0 (16 + 24 * i + 9) = vv σ (ip i 9) := rfl
      have i10 : σ 5 31 0 0 (16 + 24 * i + 10) = vv σ (ip i 10) := rfl
      rw [i2, i4, i9, i10, k1, k2, b_s, l_v, nI_1]
      exact ⟨r, m1, m2⟩
    · rw [if_pos (nI_le (by omega) (by omega)), if_pos (nI_le (by omega) (by omega))]
      have := ck_runs (gC_V hG hDd hX) (gM_V hG) x_FU 0 g (by omega) (by have := hG.2.2.1; unfold x_FU; omega)
      rw [nI_0] at this
      exact this
theorem xp53 : xP53 Inv := by
  intro n σ hI hn
  obtain ⟨C, P, hW⟩ := RW_of hI hn
  obtain ⟨hP5, hP0, h1, h6⟩ := w_P hW
  have hDd := hW.1.2.2.2.2.1
  obtain ⟨r, k1, k2⟩ := ck_ports hW x_FU 0 (31 * (31 * (31 * (31 * 7 + (vv σ 3).toInt64) + (vv σ 4).toInt64) + (mFree (vv σ) P).toInt64) + (mPool (vv σ) P).toInt64) (by omega) (by unfold x_FU; omega)
  refine ⟨r, σ, σ, ?_, ?_, Inv_mono n σ hI⟩
  · rw [nI_0] at k1
    rw [fX5_checksum, l_v, l_v, c_free hP0 h6, b_s, l_v, c_pool hP0 h6, b_s, l_v]
    rw [hDd.2.2.2.1, hDd.2.2.2.2.1, cFree_eq hDd.1 hW.1.2.2.1 hW.1.2.1 h6, cPool_eq hDd.1 hW.1.2.2.1 h6]
    exact k1
  · rw [fX6_checksum, fX6_sumOf, b_s, fX6_sumOf, b_s, m_free hP5 h6, b_s, fX6_sumOf, b_s, m_pool hP5 h6, b_s, fX6_sumOf, b_s]
    rw [nI_0] at k2
    exact k2
