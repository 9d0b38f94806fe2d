/-! ===== reserve, headroom, grants ===== -/
/-- all that holds of a device and a row -/
def RW (τ : xD) (v : xV) (b C P : Nat) : Prop := R1 τ v b C P ∧ gr τ v P ∧ wfS v P ∧ ∀ p r, p < 6 → r < 3 → τ 16 p r 0 = nI r
theorem RW_of {n : Nat} {σ : xS} (hI : Inv n σ) (hn : n < 512) : ∃ C P, RW (σ 0) (vv σ) (1000 * n) C P := by
  obtain ⟨C, P, h1, h2, h3⟩ := RR_un (Inv_RR hI hn)
  exact ⟨C, P, h1, h2, h3, Inv_pr hI hn⟩
theorem R1_mono {τ : xD} {v : xV} {b b' C P : Nat} (h : b ≤ b') (hb' : b' < 2 ^ 31) (hR : R1 τ v b C P) : R1 τ v b' C P := by
  obtain ⟨hG, hQ, hPp, hLs, hDd, hRf, wP, wQ, wT, wN, hM, hX, b1, b2, b3, b4⟩ := hR
  have hl : nI b ≤ nI b' := nI_le h hb'
  exact ⟨hG, hQ, hPp, hLs, hDd, hRf, wP, wQ, wT, wN, hM, hX, b1, by grind, b3, by grind⟩
theorem RW_mono {τ : xD} {v : xV} {b b' C P : Nat} (h : b ≤ b') (hb' : b' < 2 ^ 31) (hR : RW τ v b C P) : RW τ v b' C P := ⟨R1_mono h hb' hR.1, hR.2⟩
theorem RW_RR {τ : xD} {v : xV} {n C P : Nat} (h : RW τ v (1000 * n) C P) : RR τ v n := RR_of h.1 h.2.1 h.2.2.1
theorem R1_port {τ τ' : xD} {v v' : xV} {b b' C P p : Nat} (h : R1 τ v b C P) (hp : p < P) (ht : ∀ K p' r k, (K ≠ 13 ∨ p' ≠ p ∨ (k ≠ 2 ∧ k ≠ 3 ∧ k ≠ 4)) → (K ≠ 0 ∨ (k ≠ 6 ∧ k ≠ 7)) → τ' K p' r k = τ K p' r k) (hv : ∀ i, i ≠ 10 → (i < 16 + 24 * p ∨ 16 + 24 * p + 4 ≤ i) → v' i = v i) (cf : cfP τ' v') (wp : wfP v') (hbb : b ≤ b') (hb' : b' < 2 ^ 31) (b10 : 0 ≤ v' 10 ∧ v' 10 ≤ nI b') : R1 τ' v' b' C P := by
  obtain ⟨hG, hQ, hPp, hLs, hDd, hRf, wP, wQ, wT, wN, hM, hX, hb⟩ := h
  have h6 := hG.2.2.2.2.2.1
  have h8 := hG.2.2.1
  have nl : ∀ i, i < 16 → i ≠ 10 → v' i = v i := fun i hi hj => hv i hj (by omega)
  have nh : ∀ i, 160 ≤ i → v' i = v i := fun i hi => hv i (by omega) (by omega)
  have nP : ∀ p' f, p' < 6 → f < 24 → (p' ≠ p ∨ 4 ≤ f) → v' (ip p' f) = v (ip p' f) := fun p' f h1 h2 h3 => hv _ (by show 16 + 24 * p' + f ≠ 10; omega) (by show 16 + 24 * p' + f < _ ∨ _ ≤ 16 + 24 * p' + f; omega)
  have nq : ∀ q f, v' (iq q f) = v (iq q f) := fun q f => nh _ (by show 160 ≤ 160 + 16 * q + f; omega)
  have hN : eqN v v' := ⟨nl 4 (by omega) (by omega), fun i h1 _ => nh i (by omega), fun q _ => nq q 12⟩
  have hx : eqX τ τ' := ⟨fun K c h1 h2 => ht _ _ _ _ (by omega) (by omega), fun p' r' => ⟨ht _ _ _ _ (by omega) (by omega), ht _ _ _ _ (by omega) (by omega)⟩⟩
  have hl : nI b ≤ nI b' := nI_le hbb hb'
  refine ⟨wfG_c (nl 0 (by omega) (by omega)) (nl 1 (by omega) (by omega)) (nl 2 (by omega) (by omega)) (nl 5 (by omega) (by omega)) hG, cfQ_c (fun _ _ _ => ht _ _ _ _ (by omega) (by omega)) (fun q f _ _ => nq q f) hQ, cf, cfL_c (fun _ _ => ht _ _ _ _ (by omega) (by omega)) (fun p' c h1 h2 => nP p' _ h1 (by omega) (by omega)) hLs, cfD_c (ht _ _ _ _ (by omega) (by omega)) (fun k' _ _ _ _ => ht _ _ _ _ (by omega) (by omega)) (fun i hi => nl i (by omega) (by omega)) hDd, cfR_c (fun k' => ht _ _ _ _ (by omega) (by omega)) (fun i _ hi => nl i (by omega) (by omega)) hRf, wp, wfQ_c (fun q f _ _ => nq q f) wQ, wfT_c (fun q _ => ⟨nq q 12, nq q 5⟩) (fun p' h1 => ⟨nP p' 6 h1 (by omega) (by omega), nP p' 7 h1 (by omega) (by omega)⟩) wT, wfN_c (fun p' f _ h1 h2 => nP p' f h1 (by omega) (by omega)) (fun p' r' f _ _ _ _ _ => nq _ f) wN, MW_of (MX_c hN h8 (MX_of hM)) (mwA_c hN (fun q hq => by rw [nq, nq, nq]) (MX_of hM) hM.2.2.2.2.2.2.2.2.2), RX_c hN h8 (eqX_b hx) (MX_of hM) hX, ?_⟩
  rw [nl 4 (by omega) (by omega)]
  exact ⟨hb.1, by grind, b10⟩
theorem wfP_up {v : xV} {p f : Nat} {x : Int32} (hf : f < 24) (h : wfP v) (hx : (f = 0 ∧ rg x 0 64) ∨ (f = 1 ∧ rg x 0 64) ∨ (f = 2 ∧ rg x 0 32) ∨ f = 3) : wfP (va_up v (ip p f) x) := by
  intro p' hp'
  have w := h p' hp'
  have ne : ∀ g, g < 24 → (p' ≠ p ∨ g ≠ f) → va_up v (ip p f) x (ip p' g) = v (ip p' g) := fun g h1 h2 => up_n _ _ (pp h1 hf h2)
  by_cases e : p' = p
  · subst e
    obtain ⟨w0, w1, w2, w4, w5, w6, w7, w8⟩ := w
    rw [ne 4 (by omega) (by omega), ne 5 (by omega) (by omega), ne 6 (by omega) (by omega), ne 7 (by omega) (by omega), ne 8 (by omega) (by omega)]
    refine ⟨?_, ?_, ?_, w4, w5, w6, w7, w8⟩
    · by_cases g : f = 0
      · subst g; rw [up_s]; rcases hx with h | h | h | h <;> first | exact h.2 | omega
      · rw [ne 0 (by omega) (by omega)]; exact w0
    · by_cases g : f = 1
      · subst g; rw [up_s]; rcases hx with h | h | h | h <;> first | exact h.2 | omega
      · rw [ne 1 (by omega) (by omega)]; exact w1
    · by_cases g : f = 2
      · subst g; rw [up_s]; rcases hx with h | h | h | h <;> first | exact h.2 | omega
      · rw [ne 2 (by omega) (by omega)]; exact w2
  · rw [ne 0 (by omega) (Or.inl e), ne 1 (by omega) (Or.inl e), ne 2 (by omega) (Or.inl e), ne 4 (by omega) (Or.inl e), ne 5 (by omega) (Or.inl e), ne 6 (by omega) (Or.inl e), ne 7 (by omega) (Or.inl e), ne 8 (by omega) (Or.inl e)]
    exact w
theorem ds_n {τ : xD} {K p r k : Nat} {x : Int32} {K' p' r' k' : Nat} (h : K' ≠ K ∨ p' ≠ p ∨ r' ≠ r ∨ k' ≠ k) : dset τ K p r k x K' p' r' k' = τ K' p' r' k' := by
  rw [dset_rd, if_neg (fun q => by omega)]
theorem ds_s {τ : xD} {K p r k : Nat} {x : Int32} : dset τ K p r k x K p r k = x := by rw [dset_rd, if_pos ⟨rfl, rfl, rfl, rfl⟩]
theorem w_P {σ : xS} {b C P : Nat} (h : RW (σ 0) (vv σ) b C P) : σ 5 31 0 0 1 = nI P ∧ σ 0 0 0 0 2 = nI P ∧ 1 ≤ P ∧ P ≤ 6 := b_P h.1.1 h.1.2.2.2.2.1
theorem v_P {τ : xD} {v : xV} {b C P : Nat} (h : R1 τ v b C P) (σ : xS) : (x_row σ 5 31 0 0 v) 5 31 0 0 1 = nI P := by rw [row_rd]; exact h.1.2.2.2.1
theorem t_P {τ : xD} {v : xV} {b C P : Nat} (h : R1 τ v b C P) (σ : xS) (d : Nat) : va_up σ d τ d 0 0 0 2 = nI P := by rw [up_s]; exact h.2.2.2.2.1.2.1.trans h.1.2.2.2.1
theorem t_free {τ : xD} {v : xV} {b C P : Nat} (h : R1 τ v b C P) (σ : xS) (d : Nat) : fX0_sharedLeft d (va_up σ d τ) = some (mFree v P, va_up σ d τ) := by
  rw [c_free (t_P h σ d) h.1.2.2.2.2.2.1, up_s, cFree_eq h.2.2.2.2.1.1 h.2.2.1 h.2.1 h.1.2.2.2.2.2.1]
theorem v_free {τ : xD} {v : xV} {b C P : Nat} (h : R1 τ v b C P) (σ : xS) : fX6_free (x_row σ 5 31 0 0 v) = some (mFree v P, x_row σ 5 31 0 0 v) := by
  rw [m_free (v_P h σ) h.1.2.2.2.2.2.1, show vv (x_row σ 5 31 0 0 v) = v from row_rd σ v]
theorem xp2 : xP2 Inv := by
  intro n σ a1 a2 hI hn
  obtain ⟨C, P, hW⟩ := RW_of hI hn
  obtain ⟨hP5, hP0, h1, h6⟩ := w_P hW
  obtain ⟨hR, hgr, hS, hpr⟩ := hW
  have hRb := R1_mono (show 1000 * n ≤ 1000 * (n + 1) by omega) (by omega) hR
  rcases ix_cases a1 h6 with ⟨p, hp, rfl⟩ | ha
  · by_cases hr3 : 0 ≤ a2 ∧ a2 ≤ 64
    · have hp6 : p < 6 := by omega
      have e8 : σ 0 16 p 0 12 + σ 0 16 p 1 12 + σ 0 16 p 2 12 = s3 (vv σ) p 8 := by
        rw [hR.2.1 p 0 12 8 hp6 (by omega) rfl, hR.2.1 p 1 12 8 hp6 (by omega) rfl, hR.2.1 p 2 12 8 hp6 (by omega) rfl]
        rfl
      have e3 : σ 0 13 p 0 3 = vv σ (ip p 1) := hR.2.2.1 p 3 1 hp6 rfl
      have hc := t_free hR σ 0
      rw [up_id] at hc
      have hm := v_free hR σ
      rw [show x_row σ 5 31 0 0 (vv σ) = σ from row_id σ] at hm
      have hfr := hS.2
      have hw := hR.2.2.2.2.2.2.1 p hp6
      by_cases h8 : s3 (vv σ) p 8 ≤ a2
      · by_cases hfit : a2 - vv σ (ip p 1) ≤ mFree (vv σ) P
        · have cf := cfP_set (p := p) (x := a2) (show pm 3 = some 1 from rfl) hR.2.2.1
          have wp := wfP_up (p := p) (f := 1) (x := a2) (by omega) hR.2.2.2.2.2.2.1 (Or.inr (Or.inl ⟨rfl, hr3⟩))
          have nv : ∀ i, i ≠ 16 + 24 * p + 1 → va_up (vv σ) (ip p 1) a2 i = vv σ i := fun i h => up_n _ _ h
          have hR' : R1 (dset (σ 0) 13 p 0 3 a2) (va_up (vv σ) (ip p 1) a2) (1000 * (n + 1)) C P := R1_port hRb hp (fun K p' r k g1 g2 => ds_n (by omega)) (fun i g1 g2 => nv i (by omega)) cf wp (Nat.le_refl _) (by omega) (by rw [nv 10 (by omega)]; exact hRb.2.2.2.2.2.2.2.2.2.2.2.2.2.2)
          have hgr' : gr (dset (σ 0) 13 p 0 3 a2) (va_up (vv σ) (ip p 1) a2) P := gr_c h6 (ds_n (by omega)) (ds_n (by omega)) (fun p' _ => ⟨nv _ (by show 16 + 24 * p' + 2 ≠ _; omega), nv _ (by show 16 + 24 * p' + 3 ≠ _; omega)⟩) (nv 10 (by omega)) hgr
          have emf := mFree_up (v := vv σ) (v' := va_up (vv σ) (ip p 1) a2) hp (nv 0 (by omega)) (fun p' f g1 g2 g3 => nv _ (by show 16 + 24 * p' + f ≠ _; omega)) (fun p' r g1 g2 g3 => nv _ (by show 160 + 16 * (3 * p' + r) + 7 ≠ _; omega))
          rw [nv (ip p 0) (by show 16 + 24 * p + 0 ≠ _; omega), nv (ip p 2) (by show 16 + 24 * p + 2 ≠ _; omega), up_s] at emf
          have es3 : ∀ p' f, s3 (va_up (vv σ) (ip p 1) a2) p' f = s3 (vv σ) p' f := fun p' f => by
            simp only [s3]
            rw [nv (iq (3 * p') f) (by show 160 + 16 * (3 * p') + f ≠ _; omega), nv (iq (3 * p' + 1) f) (by show 160 + 16 * (3 * p' + 1) + f ≠ _; omega), nv (iq (3 * p' + 2) f) (by show 160 + 16 * (3 * p' + 2) + f ≠ _; omega)]
          have hS' : wfS (va_up (vv σ) (ip p 1) a2) P := by
            refine ⟨fun p' g1 => ?_, ?_, mFree_le hR'.1 hR'.2.2.2.2.2.2.1 hR'.2.2.2.2.2.2.2.1⟩
            · rw [es3, es3, nv (ip p' 0) (by show 16 + 24 * p' + 0 ≠ _; omega), nv (ip p' 2) (by show 16 + 24 * p' + 2 ≠ _; omega)]
              refine ⟨(hS.1 p' g1).1, ?_⟩
              by_cases e : p' = p
              · subst e; rw [up_s]; exact h8
              · rw [nv (ip p' 1) (by show 16 + 24 * p' + 1 ≠ _; omega)]; exact (hS.1 p' g1).2
            · rw [emf, es3]
              obtain ⟨w0, w1, w2, -⟩ := hw
              unfold rg at *
              grind
          refine close2 (τ' := dset (σ 0) 13 p 0 3 a2) (v' := va_up (vv σ) (ip p 1) a2) (r := vv σ (ip p 1)) hI hn ?_ ?_ (RR_of hR' hgr' hS') (pr_set (Or.inl (by decide)) hpr)
          · rw [up_id, fX5_setHeadroom, c_portAt_t hP0 h6 hp, b_s]
            show x_g (ok2 (0, p)) (x_b _ _) = _
            rw [ok2_t (by decide) (by omega), g_t, c_out, b_s, if_pos hr3, if_pos rfl]
            show x_b (fX2_headroomInUse 0 p σ) _ = _
            rw [fX2_headroomInUse, e8, b_s, if_pos h8]
            show x_let (σ 0 13 p 0 3) _ = _
            rw [l_v, hc, b_s, e3, if_pos hfit, l_v, x_set_up]
          · have hk := hRb
            rw [fX6_setHeadroom, m_isPort_t (v_P hR _) h6 hp, b_s, if_neg (by decide), m_in, b_s, if_pos hr3, if_neg (by decide), m_port_1, b_s, in_nI (by omega) (by omega), g_t, nI_clamp (by omega), row_rd, l_v, m_sum (p := p) hp6 8 (by omega) 8 rfl, b_s, show vv (x_row (va_up σ 0 (dset (σ 0) 13 p 0 3 a2)) 5 31 0 0 (vv σ)) = vv σ from row_rd _ _, if_pos h8]
            by_cases hle : a2 ≤ vv σ (16 + 24 * p + 1)
            · rw [if_pos hle, m_port_1, b_s, in_nI (by omega) (by omega), g_t, nI_clamp (by omega), row_set, l_v]
            · rw [if_neg hle, v_free hR, b_s, if_pos hfit, m_port_1, b_s, in_nI (by omega) (by omega), g_t, nI_clamp (by omega), row_set, l_v]
        · have hnle : ¬ a2 ≤ vv σ (16 + 24 * p + 1) := by
            have : ¬ a2 ≤ vv σ (ip p 1) := by
              obtain ⟨w0, w1, w2, -⟩ := hw
              unfold rg at *
              grind
            exact this
          refine ⟨-3, σ, σ, ?_, ?_, Inv_mono n σ hI⟩
          · rw [fX5_setHeadroom, c_portAt_t hP0 h6 hp, b_s]
            show x_g (ok2 (0, p)) (x_b _ _) = _
            rw [ok2_t (by decide) (by omega), g_t, c_out, b_s, if_pos hr3, if_pos rfl]
            show x_b (fX2_headroomInUse 0 p σ) _ = _
            rw [fX2_headroomInUse, e8, b_s, if_pos h8]
            show x_let (σ 0 13 p 0 3) _ = _
            rw [l_v, hc, b_s, e3, if_neg hfit]
          · rw [fX6_setHeadroom, m_isPort_t hP5 h6 hp, b_s, if_neg (by decide), m_in, b_s, if_pos hr3, if_neg (by decide), m_port_1, b_s, in_nI (by omega) (by omega), g_t, nI_clamp (by omega), l_v, m_sum (p := p) hp6 8 (by omega) 8 rfl, b_s, if_pos h8, if_neg hnle, hm, b_s, if_neg hfit]
      · refine ⟨-4, σ, σ, ?_, ?_, Inv_mono n σ hI⟩
        · rw [fX5_setHeadroom, c_portAt_t hP0 h6 hp, b_s]
          show x_g (ok2 (0, p)) (x_b _ _) = _
          rw [ok2_t (by decide) (by omega), g_t, c_out, b_s, if_pos hr3, if_pos rfl]
          show x_b (fX2_headroomInUse 0 p σ) _ = _
          rw [fX2_headroomInUse, e8, b_s, if_neg h8]
        · rw [fX6_setHeadroom, m_isPort_t hP5 h6 hp, b_s, if_neg (by decide), m_in, b_s, if_pos hr3, if_neg (by decide), m_port_1, b_s, in_nI (by omega) (by omega), g_t, l_v, m_sum (p := p) hp6 8 (by omega) 8 rfl, b_s, if_neg h8]
    · refine ⟨-2, σ, σ, ?_, ?_, Inv_mono n σ hI⟩
      · rw [fX5_setHeadroom, c_portAt_t hP0 h6 hp, b_s]
        show x_g (ok2 (0, p)) (x_b _ _) = _
        rw [ok2_t (by decide) (by omega), g_t, c_out, b_s, if_neg hr3, if_neg (by decide)]
      · rw [fX6_setHeadroom, m_isPort_t hP5 h6 hp, b_s, if_neg (by decide), m_in, b_s, if_neg hr3, if_pos rfl]
  · refine ⟨-1, σ, σ, ?_, ?_, Inv_mono n σ hI⟩
    · rw [fX5_setHeadroom, c_portAt_f hP0 ha, b_s]
    · rw [fX6_setHeadroom, m_isPort_f hP5 h1 h6 ha, b_s, if_pos rfl]
theorem xp1 : xP1 Inv := by
  intro n σ a1 a2 hI hn
  obtain ⟨C, P, hW⟩ := RW_of hI hn
  obtain ⟨hP5, hP0, h1, h6⟩ := w_P hW
  obtain ⟨hR, hgr, hS, hpr⟩ := hW
  have hRb := R1_mono (show 1000 * n ≤ 1000 * (n + 1) by omega) (by omega) hR
  rcases ix_cases a1 h6 with ⟨p, hp, rfl⟩ | ha
  · by_cases hr3 : 0 ≤ a2 ∧ a2 ≤ 64
    · have hp6 : p < 6 := by omega
      have e3 : σ 0 13 p 0 2 = vv σ (ip p 0) := hR.2.2.1 p 2 0 hp6 rfl
      have hc := t_free hR σ 0
      rw [up_id] at hc
      have hm := v_free hR σ
      rw [show x_row σ 5 31 0 0 (vv σ) = σ from row_id σ] at hm
      have hfr := hS.2
      have hw := hR.2.2.2.2.2.2.1 p hp6
      by_cases hfit : a2 - vv σ (ip p 0) ≤ mFree (vv σ) P
      · have cf := cfP_set (p := p) (x := a2) (show pm 2 = some 0 from rfl) hR.2.2.1
        have wp := wfP_up (p := p) (f := 0) (x := a2) (by omega) hR.2.2.2.2.2.2.1 (Or.inl ⟨rfl, hr3⟩)
        have nv : ∀ i, i ≠ 16 + 24 * p + 0 → va_up (vv σ) (ip p 0) a2 i = vv σ i := fun i h => up_n _ _ h
        have hR' : R1 (dset (σ 0) 13 p 0 2 a2) (va_up (vv σ) (ip p 0) a2) (1000 * (n + 1)) C P := R1_port hRb hp (fun K p' r k g1 g2 => ds_n (by omega)) (fun i g1 g2 => nv i (by omega)) cf wp (Nat.le_refl _) (by omega) (by rw [nv 10 (by omega)]; exact hRb.2.2.2.2.2.2.2.2.2.2.2.2.2.2)
        have emf := mFree_up (v := vv σ) (v' := va_up (vv σ) (ip p 0) a2) hp (nv 0 (by omega)) (fun p' f g1 g2 g3 => nv _ (by show 16 + 24 * p' + f ≠ _; omega)) (fun p' r g1 g2 g3 => nv _ (by show 160 + 16 * (3 * p' + r) + 7 ≠ _; omega))
        rw [nv (ip p 1) (by show 16 + 24 * p + 1 ≠ _; omega), nv (ip p 2) (by show 16 + 24 * p + 2 ≠ _; omega), up_s] at emf
        have es3 : ∀ p' f, s3 (va_up (vv σ) (ip p 0) a2) p' f = s3 (vv σ) p' f := fun p' f => by
          simp only [s3]
          rw [nv (iq (3 * p') f) (by show 160 + 16 * (3 * p') + f ≠ _; omega), nv (iq (3 * p' + 1) f) (by show 160 + 16 * (3 * p' + 1) + f ≠ _; omega), nv (iq (3 * p' + 2) f) (by show 160 + 16 * (3 * p' + 2) + f ≠ _; omega)]
        have hO : wfO (va_up (vv σ) (ip p 0) a2) P p := by
          have hs := (hS.1 p hp6).1
          have x0 := (hR.2.2.2.2.2.2.2.1 (3 * p) (by omega)).2.2.2.2.2.2.1
          have x1 := (hR.2.2.2.2.2.2.2.1 (3 * p + 1) (by omega)).2.2.2.2.2.2.1
          have x2 := (hR.2.2.2.2.2.2.2.1 (3 * p + 2) (by omega)).2.2.2.2.2.2.1
          refine ⟨fun p' g1 => ?_, ?_, ?_, mFree_le hR'.1 hR'.2.2.2.2.2.2.1 hR'.2.2.2.2.2.2.2.1⟩
          · rw [es3, es3, nv (ip p' 1) (by show 16 + 24 * p' + 1 ≠ _; omega), nv (ip p' 2) (by show 16 + 24 * p' + 2 ≠ _; omega)]
            refine ⟨fun e => ?_, (hS.1 p' g1).2⟩
            rw [nv (ip p' 0) (by show 16 + 24 * p' + 0 ≠ _; omega)]; exact (hS.1 p' g1).1
          · rw [emf, es3]
            obtain ⟨w0, w1, w2, -⟩ := hw
            unfold rg at *
            grind
          · rw [emf, ov, es3, es3, up_s, nv (ip p 2) (by show 16 + 24 * p + 2 ≠ _; omega)]
            obtain ⟨w0, w1, w2, -⟩ := hw
            unfold rg at *
            have : mFree (vv σ) P + (vv σ (ip p 0) + vv σ (ip p 2) + vv σ (ip p 1) + s3 (vv σ) p 7) - (a2 + vv σ (ip p 2) + vv σ (ip p 1) + s3 (vv σ) p 7) - (s3 (vv σ) p 6 - (a2 + vv σ (ip p 2))) = mFree (vv σ) P + (vv σ (ip p 0) + vv σ (ip p 2) - s3 (vv σ) p 6) := by grind
            rw [this]
            simp only [s3] at hs ⊢
            grind
        obtain ⟨τ', v', kc, km, kR, kS, ⟨kF1, kF2⟩, -⟩ := S_conv hp hR' hO
        have kg : gr τ' v' P := gr_c h6 ((kF1 _ _ _ _ (by omega)).trans (ds_n (by omega))) ((kF1 _ _ _ _ (by omega)).trans (ds_n (by omega))) (fun p' hp' => ⟨(kF2 _ (Or.inl (by show 16 + 24 * p' + 2 < 160; omega))).trans (nv _ (by show 16 + 24 * p' + 2 ≠ _; omega)), (kF2 _ (Or.inl (by show 16 + 24 * p' + 3 < 160; omega))).trans (nv _ (by show 16 + 24 * p' + 3 ≠ _; omega))⟩) ((kF2 10 (by omega)).trans (nv 10 (by omega))) hgr
        refine close2 (τ' := τ') (v' := v') (r := vv σ (ip p 0)) hI hn ?_ ?_ (RR_of kR kg kS) (fun p' r' g1 g2 => by rw [kF1 _ _ _ _ (by omega), ds_n (by omega)]; exact hpr p' r' g1 g2)
        · rw [up_id, fX5_setReserve, c_portAt_t hP0 h6 hp, b_s]
          show x_g (ok2 (0, p)) (x_b _ _) = _
          rw [ok2_t (by decide) (by omega), g_t, c_out, b_s, if_pos hr3, if_pos rfl]
          show x_let (σ 0 13 p 0 2) _ = _
          rw [l_v, hc, b_s, e3, if_pos hfit, l_v, x_set_up]
          show x_b (fX2_shareBeyondGuarantee 0 p _) _ = _
          rw [kc, b_s]
        · rw [fX6_setReserve, m_isPort_t (v_P hR _) h6 hp, b_s, if_neg (by decide), m_in, b_s, if_pos hr3, if_neg (by decide), m_port_0, b_s, in_nI (by omega) (by omega), g_t, nI_clamp (by omega), row_rd, l_v, v_free hR, b_s, if_pos hfit, m_port_0, b_s, in_nI (by omega) (by omega), g_t, nI_clamp (by omega), row_set, l_v, km, b_s]
      · have hnle : ¬ a2 ≤ vv σ (16 + 24 * p + 0) := by
          have : ¬ a2 ≤ vv σ (ip p 0) := by
            obtain ⟨w0, w1, w2, -⟩ := hw
            unfold rg at *
            grind
          exact this
        refine ⟨-3, σ, σ, ?_, ?_, Inv_mono n σ hI⟩
        · rw [fX5_setReserve, c_portAt_t hP0 h6 hp, b_s]
          show x_g (ok2 (0, p)) (x_b _ _) = _
          rw [ok2_t (by decide) (by omega), g_t, c_out, b_s, if_pos hr3, if_pos rfl]
          show x_let (σ 0 13 p 0 2) _ = _
          rw [l_v, hc, b_s, e3, if_neg hfit]
        · rw [fX6_setReserve, m_isPort_t hP5 h6 hp, b_s, if_neg (by decide), m_in, b_s, if_pos hr3, if_neg (by decide), m_port_0, b_s, in_nI (by omega) (by omega), g_t, nI_clamp (by omega), l_v, hm, b_s, if_neg hfit, if_neg hnle]
    · refine ⟨-2, σ, σ, ?_, ?_, Inv_mono n σ hI⟩
      · rw [fX5_setReserve, c_portAt_t hP0 h6 hp, b_s]
        show x_g (ok2 (0, p)) (x_b _ _) = _
        rw [ok2_t (by decide) (by omega), g_t, c_out, b_s, if_neg hr3, if_neg (by decide)]
      · rw [fX6_setReserve, m_isPort_t hP5 h6 hp, b_s, if_neg (by decide), m_in, b_s, if_neg hr3, if_pos rfl]
  · refine ⟨-1, σ, σ, ?_, ?_, Inv_mono n σ hI⟩
    · rw [fX5_setReserve, c_portAt_f hP0 ha, b_s]
    · rw [fX6_setReserve, m_isPort_f hP5 h1 h6 ha, b_s, if_pos rfl]
