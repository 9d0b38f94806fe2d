/-! ===== a port sends in turns ===== -/
def dq (v : xV) (p r : Nat) : Nat := 12 - (v (iq (3 * p + r) 5)).toNatClampNeg
def dst (v : xV) (p t : Nat) : Nat := if 0 < Ln v (3 * p + t) then 0 else if 0 < Ln v (3 * p + (t + 1) % 3) then 1 else 2
def mu (v : xV) (p : Nat) : Nat := 200 * Nn v p + 4 * (dq v p 0 + dq v p 1 + dq v p 2) + dst v p (v (ip p 6)).toNatClampNeg + (if v (ip p 7) = 0 then 4 else 0)
theorem dst_le (v : xV) (p t : Nat) : dst v p t ≤ 2 := by unfold dst; split; omega; split <;> omega
theorem mu_bd (v : xV) (p : Nat) : 200 * Nn v p ≤ mu v p ∧ mu v p ≤ 200 * Nn v p + 150 := by
  have := dst_le v p (v (ip p 6)).toNatClampNeg
  unfold mu dq
  split <;> omega
/-- far from lengths and counts -/
theorem far_Nn {v v' : xV} {p : Nat} (h : ∀ q, v' (iq q 12) = v (iq q 12)) : Nn v' p = Nn v p := by
  unfold Nn Ln; rw [h, h, h]
theorem far_Ti {v v' : xV} {p : Nat} (h : ∀ q f, 6 ≤ f → f ≤ 8 → v' (iq q f) = v (iq q f)) : Ti v' p = Ti v p := by
  simp only [Ti, s3]
  rw [h _ 6 (by omega) (by omega), h _ 6 (by omega) (by omega), h _ 6 (by omega) (by omega), h _ 7 (by omega) (by omega), h _ 7 (by omega) (by omega), h _ 7 (by omega) (by omega), h _ 8 (by omega) (by omega), h _ 8 (by omega) (by omega), h _ 8 (by omega) (by omega)]
def psT (τ : xD) (p t : Nat) : xD := dset (dset τ 13 p 0 8 (nI ((t + 1) % 3))) 13 p 0 9 1
def psV (v : xV) (p t : Nat) : xV := va_up (va_up v (ip p 6) (nI ((t + 1) % 3))) (ip p 7) 1
theorem c_pass {σ : xS} {τ : xD} {d p t : Nat} (ht : t < 3) (h : τ 13 p 0 8 = nI t) : fX2_passTurn d p (va_up σ d τ) = some ((), va_up σ d (psT τ p t)) := by
  rw [fX2_passTurn, up_s, h]
  rcases (show t = 0 ∨ t = 1 ∨ t = 2 by omega) with rfl | rfl | rfl
  · rw [if_neg (by decide)]
    simp only [l_v, set_own]
    rfl
  · rw [if_neg (by decide)]
    simp only [l_v, set_own]
    rfl
  · rw [if_pos (by decide)]
    simp only [l_v, set_own]
    rfl
theorem m_183 {σ : xS} {v : xV} {p t : Nat} {a2 a3 : Int32} {k : Int32 → Int32 → xS → Option (Int32 × xS)} (hp : p < 6) (ht : t < 3) (h : v (ip p 6) = nI t) : BX6_sends_183 (nI p) a2 a3 k (x_row σ 5 31 0 0 v) = k a2 a3 (x_row σ 5 31 0 0 (psV v p t)) := by
  have h' : v (16 + 24 * p + 6) = nI t := h
  rw [BX6_sends_183, m_port_6, b_s, m_port_6, b_s, in_nI (by omega) (by omega), g_t, g_t, nI_clamp (by omega), row_rd, h', nI_1, mod3 (by omega), row_set, l_v, m_port_7, b_s, in_nI (by omega) (by omega), g_t, nI_clamp (by omega), row_set, l_v]
  rfl
theorem ps_n {v : xV} {p t m : Nat} (h1 : m ≠ 16 + 24 * p + 6) (h2 : m ≠ 16 + 24 * p + 7) : psV v p t m = v m := by rw [psV, up_n _ _ h2, up_n _ _ h1]
theorem S_pass {τ : xD} {v : xV} {b C P p t : Nat} (h : RY τ v b C P p) (hp : p < P) (ht : t < 3) (h6 : v (ip p 6) = nI t) (hd : v (iq (3 * p + t) 5) ≤ 11) (hm : (Ln v (3 * p + t) = 0 ∧ Nn v p ≠ 0) ∨ v (ip p 7) = 0) : RY (psT τ p t) (psV v p t) b C P p ∧ mu (psV v p t) p < mu v p := by
  have hP := h.1.2.2.2.2.2.1
  have hp6 : p < 6 := by omega
  have wT := h.2.2.2.2.2.2.2.2.1
  have wQ := h.2.2.2.2.2.2.2.1
  have nq : ∀ q f, psV v p t (iq q f) = v (iq q f) := fun q f => ps_n (by simp only [iq]; omega) (by simp only [iq]; omega)
  have e6 : psV v p t (ip p 6) = nI ((t + 1) % 3) := by rw [psV, up_n _ _ (pp (by omega) (by omega) (by omega)), up_s]
  have e7 : psV v p t (ip p 7) = 1 := by rw [psV, up_s]
  constructor
  · refine RY_snd (t := 0) h hp (by omega) (fun K p' r' k a1 a2 => by unfold psT; rw [ds_n (by omega), ds_n (by omega)]) (fun i a1 a2 a3 a4 a5 => ps_n a3 a4) ?_ ?_ ?_ ?_ ?_ ?_ (fun r' hr' => ?_)
    · rw [nq]; unfold psT; rw [ds_n (by omega), ds_n (by omega)]; exact h.2.1 p 0 6 5 hp6 (by omega) rfl
    · rw [e6]; unfold psT; rw [ds_n (by omega), ds_s]
    · rw [e7]; unfold psT; rw [ds_s]
    · rw [nq]; exact (wQ _ (by omega)).2.2.2.2.2.1
    · rw [e6]; exact ⟨nI_pos' (by omega), nI_le (b := 2) (by omega) (by omega)⟩
    · rw [e7]; rfl
    · rw [nq, nq]
      refine ⟨(wT p r' hp6 hr').1, fun _ => ?_⟩
      by_cases e : r' = t
      · rw [e]; exact hd
      · exact (wT p r' hp6 hr').2 (fun z => by
          rw [h6] at z
          have := nIeq (by omega) (by omega) z.1
          omega)
  · have eN : Nn (psV v p t) p = Nn v p := far_Nn (fun q => nq q 12)
    have eL : ∀ q, Ln (psV v p t) q = Ln v q := fun q => by unfold Ln; rw [nq]
    have ed : ∀ r, dq (psV v p t) p r = dq v p r := fun r => by unfold dq; rw [nq]
    unfold mu
    rw [eN, ed, ed, ed, e6, e7, h6, nI_clamp (by omega), nI_clamp (by omega), if_neg (show ¬ (1 : Int32) = 0 by decide)]
    have hds : dst (psV v p t) p ((t + 1) % 3) = dst v p ((t + 1) % 3) := by unfold dst; rw [eL, eL]
    rw [hds]
    rcases hm with ⟨m1, m2⟩ | m1
    · have : dst v p ((t + 1) % 3) < dst v p t := by
        unfold Nn at m2
        unfold dst
        rw [if_neg (show ¬ 0 < Ln v (3 * p + t) by omega)]
        by_cases z : 0 < Ln v (3 * p + (t + 1) % 3)
        · rw [if_pos z, if_pos z]; omega
        · rw [if_neg z, if_neg z]
          have : 0 < Ln v (3 * p + ((t + 1) % 3 + 1) % 3) := by
            rcases (show t = 0 ∨ t = 1 ∨ t = 2 by omega) with rfl | rfl | rfl
            · have a : Ln v (3 * p) = 0 := m1
              have b : ¬ 0 < Ln v (3 * p + 1) := z
              show 0 < Ln v (3 * p + 2); omega
            · have b : ¬ 0 < Ln v (3 * p + 2) := z
              show 0 < Ln v (3 * p); omega
            · have b : ¬ 0 < Ln v (3 * p) := z
              show 0 < Ln v (3 * p + 1); omega
          rw [if_pos this]; omega
      split <;> omega
    · rw [if_pos m1]
      have := dst_le v p ((t + 1) % 3)
      omega
theorem m_148 {σ : xS} {τ : xD} {v : xV} {b C P p t : Nat} {a2 : Int32} {k : Int32 → Int32 → xS → Option (Int32 × xS)} (h : RY τ v b C P p) (hp : p < P) (ht : t < 3) (h6 : v (ip p 6) = nI t) : BX6_sends_148 (nI p) a2 1 (nI (3 * p + t)) k (x_row σ 5 31 0 0 v) = if Ln v (3 * p + t) = 0 then k a2 1 (x_row σ 5 31 0 0 (psV v p t)) else if v (ik (Sl v (3 * p + t) 0) 1) ≤ v (iq (3 * p + t) 5) then (if v (ik (Sl v (3 * p + t) 0) 1) ≤ v (ip p 4) then (x_b (fX6_departs (nI p) (nI (3 * p + t)) (x_row σ 5 31 0 0 (va_up v (iq (3 * p + t) 5) (v (iq (3 * p + t) 5) - v (ik (Sl v (3 * p + t) 0) 1))))) fun _ s47 => x_b (fX6_settles (nI (3 * p + t)) s47) fun _ s48 => k (a2 + 1) 1 s48) else k a2 0 (x_row σ 5 31 0 0 v)) else k a2 1 (x_row σ 5 31 0 0 (psV v p t)) := by
  have hP := h.1.2.2.2.2.2.1
  have hp6 : p < 6 := by omega
  have hM := MX_of h.2.2.2.2.2.2.2.2.2.2.1
  have l := len15 h hp ht
  have e12 : v (160 + 16 * (3 * p + t) + 12) = nI (Ln v (3 * p + t)) := l.2.1
  rw [BX6_sends_148, m_queue_12, b_s, in_nI (by omega) (by omega), g_t, nI_clamp (by omega), row_rd, e12]
  by_cases z : Ln v (3 * p + t) = 0
  · rw [if_pos z, z, if_pos (by decide), m_183 hp6 ht h6]
  · rw [if_neg z, if_neg (nI_ne0 (by omega) (by omega)), m_first hM (by omega) (by omega), b_s, m_queue_5, b_s, in_nI (by omega) (by omega), g_t, nI_clamp (by omega), row_rd]
    by_cases y : v (ik (Sl v (3 * p + t) 0) 1) ≤ v (iq (3 * p + t) 5)
    · rw [if_pos y, if_pos y, m_first hM (by omega) (by omega), b_s, m_port_4, b_s, in_nI (by omega) (by omega), g_t, nI_clamp (by omega), row_rd]
      by_cases w : v (ik (Sl v (3 * p + t) 0) 1) ≤ v (ip p 4)
      · rw [if_pos w, if_pos w, m_queue_5, b_s, in_nI (by omega) (by omega), g_t, m_first hM (by omega) (by omega), b_s, g_t, nI_clamp (by omega), row_rd, row_set, l_v]
        rfl
      · rw [if_neg w, if_neg w]
    · rw [if_neg y, if_neg y, m_183 hp6 ht h6]
theorem c_71 {σ : xS} {τ : xD} {v : xV} {b C P p t d : Nat} {a2 a3 : Int32} {k : Int32 → Int32 → xS → Option (Int32 × xS)} (h : RY τ v b C P p) (hp : p < P) (ht : t < 3) (h6 : v (ip p 6) = nI t) (hl : 0 < Ln v (3 * p + t)) (hcr : τ 13 p 0 7 = v (ip p 4)) : BX0_sendInTurns_71 d d p a2 a3 d p t k (va_up σ d τ) = if v (ik (Sl v (3 * p + t) 0) 1) ≤ v (iq (3 * p + t) 5) then (if v (ik (Sl v (3 * p + t) 0) 1) ≤ v (ip p 4) then (x_b (fX0_takeOut d d p d p t (nI (Fs v (Sl v (3 * p + t) 0) 0)) (va_up σ d (dset (dset τ 16 p t 6 (v (iq (3 * p + t) 5) - v (ik (Sl v (3 * p + t) 0) 1))) 13 p 0 7 (v (ip p 4) - v (ik (Sl v (3 * p + t) 0) 1))))) fun _ s8 => k (a2 + 1) (a3 + 1) s8) else some (a2, va_up σ d τ)) else k a2 (a3 + 1) (va_up σ d (psT τ p t)) := by
  have hP := h.1.2.2.2.2.2.1
  have hp6 : p < 6 := by omega
  obtain ⟨f1, f2, f3⟩ := first_c h hp ht hl
  have e6 : τ 16 p t 6 = v (iq (3 * p + t) 5) := h.2.1 p t 6 5 hp6 ht rfl
  have e8 : τ 13 p 0 8 = nI t := (h.2.2.1 p 8 6 hp6 rfl (by omega)).trans h6
  rw [BX0_sendInTurns_71, up_s, f1, c_size f2, b_s, up_s, f3, e6, hcr]
  by_cases y : v (ik (Sl v (3 * p + t) 0) 1) ≤ v (iq (3 * p + t) 5)
  · rw [if_pos y, if_pos y]
    by_cases w : v (ik (Sl v (3 * p + t) 0) 1) ≤ v (ip p 4)
    · rw [if_pos w, if_pos w, set_own, l_v, up_s, set_own, l_v, up_s, ds_n (show 13 ≠ 16 ∨ p ≠ p ∨ 0 ≠ t ∨ 7 ≠ 6 by omega), hcr, ds_n (show 16 ≠ 13 ∨ p ≠ p ∨ t ≠ 0 ∨ 13 ≠ 7 by omega), ds_n (show 16 ≠ 16 ∨ p ≠ p ∨ t ≠ t ∨ 13 ≠ 6 by omega), f1]
      rfl
    · rw [if_neg w, if_neg w]
  · rw [if_neg y, if_neg y, c_pass ht e8, b_s, l_v]
def RRL (b C P p m n1 n2 : Nat) : Prop := ∀ (i a : Nat) (τ : xD) (v : xV), RY τ v b C P p → τ 13 p 0 7 = v (ip p 4) → rg (v (ip p 4)) 0 27 → (Nn v p = 0 → rg (v (ip p 4)) 0 11) → v (ip p 8) = 1 → mu v p ≤ m → i + m < 100000 → ∃ k τ' v', (∀ σ d, d < 4 → BX0_sendInTurns_4 d d p n1 (nI a) (nI i) (va_up σ d τ) = some (nI (a + k), va_up σ d τ')) ∧ (∀ σ, BX6_sends_37 (nI p) n2 (nI a) 1 (x_row σ 5 31 0 0 v) = some (nI (a + k), x_row σ 5 31 0 0 v')) ∧ RY τ' v' b C P p ∧ SR τ τ' v v' p k
theorem ps_keep {τ τ' : xD} {v v' : xV} {p t m : Nat} (hp : p < 6) (h : SR (psT τ p t) τ' (psV v p t) v' p m) : SR τ τ' v v' p m := by
  refine SR_keep h (far_Nn (fun q => ps_n (by simp only [iq]; omega) (by simp only [iq]; omega))) ?_ (ps_n (by simp only [ip]; omega) (by simp only [ip]; omega)) (ps_n (by simp only [ip]; omega) (by simp only [ip]; omega)) (ps_n (by simp only [ip]; omega) (by simp only [ip]; omega)) (far_Ti (fun q f _ _ => ps_n (by simp only [iq]; omega) (by simp only [iq]; omega))) (fun i hi => ?_)
  · unfold psT; rw [ds_n (by omega), ds_n (by omega)]
  · exact ps_n (by omega) (by omega)
theorem rr_inner {b C P p m n1 n2 : Nat} (hp : p < P) (IH : RRL b C P p m n1 (n2 + 1)) {i a t : Nat} {τ : xD} {v : xV} (hY : RY τ v b C P p) (ht : t < 3) (h6 : v (ip p 6) = nI t) (h7 : v (ip p 7) = 0) (hl : 0 < Ln v (3 * p + t)) (hcr : τ 13 p 0 7 = v (ip p 4)) (hc : rg (v (ip p 4)) 0 27) (h8 : v (ip p 8) = 1) (hmu : mu v p ≤ m + 1) (hi : i + m + 1 < 100000) : ∃ k τ' v', (∀ σ d, d < 4 → BX0_sendInTurns_71 d d p (nI a) (nI i) d p t (BX0_sendInTurns_4 d d p n1) (va_up σ d τ) = some (nI (a + k), va_up σ d τ')) ∧ (∀ σ, BX6_sends_148 (nI p) (nI a) 1 (nI (3 * p + t)) (BX6_sends_37 (nI p) (n2 + 1)) (x_row σ 5 31 0 0 v) = some (nI (a + k), x_row σ 5 31 0 0 v')) ∧ RY τ' v' b C P p ∧ SR τ τ' v v' p k := by
  have hP := hY.1.2.2.2.2.2.1
  have hp6 : p < 6 := by omega
  have hx := size_rg hY (q := 3 * p + t) (by omega) hl
  have hN1 : 1 ≤ Nn v p := by
    unfold Nn
    rcases (show t = 0 ∨ t = 1 ∨ t = 2 by omega) with rfl | rfl | rfl
    · have : 0 < Ln v (3 * p) := hl
      omega
    · omega
    · omega
  by_cases y : v (ik (Sl v (3 * p + t) 0) 1) ≤ v (iq (3 * p + t) 5)
  · by_cases w : v (ik (Sl v (3 * p + t) 0) 1) ≤ v (ip p 4)
    · -- it departs
      have w5 := (hY.2.2.2.2.2.2.2.1 (3 * p + t) (by omega)).2.2.2.2.2.1
      have wT := hY.2.2.2.2.2.2.2.2.1
      have wP := hY.2.2.2.2.2.2.1
      generalize exx : v (ik (Sl v (3 * p + t) 0) 1) = x at *
      have nv : ∀ j, j ≠ 160 + 16 * (3 * p + t) + 5 → va_up v (iq (3 * p + t) 5) (v (iq (3 * p + t) 5) - x) j = v j := fun j hj => up_n _ _ hj
      have hYa : RY (dset τ 16 p t 6 (v (iq (3 * p + t) 5) - x)) (va_up v (iq (3 * p + t) 5) (v (iq (3 * p + t) 5) - x)) b C P p := by
        refine RY_snd (t := t) hY hp ht (fun K p' r' k a1 a2 => ds_n (by omega)) (fun j a1 a2 a3 a4 a5 => nv j a1) ?_ ?_ ?_ ?_ ?_ ?_ (fun r' hr' => ?_)
        · rw [ds_s, up_s]
        · rw [ds_n (by omega), nv _ (by simp only [ip]; omega)]; exact hY.2.2.1 p 8 6 hp6 rfl (by omega)
        · rw [ds_n (by omega), nv _ (by simp only [ip]; omega)]; exact hY.2.2.1 p 9 7 hp6 rfl (by omega)
        · rw [up_s]; unfold rg at *; grind
        · rw [nv _ (by simp only [ip]; omega)]; exact (wP p hp6).2.2.2.2.2.1
        · rw [nv _ (by simp only [ip]; omega)]; exact (wP p hp6).2.2.2.2.2.2.1
        · rw [nv _ (by simp only [iq]; omega), nv (ip p 6) (by simp only [ip]; omega), nv (ip p 7) (by simp only [ip]; omega)]
          by_cases e : r' = t
          · subst e
            refine ⟨fun z => ?_, fun z => absurd ⟨h6, h7⟩ z⟩
            rw [(len15 hY hp hr').2.1] at z
            have := nIeq (b := 0) (by have := (len15 hY hp hr').2.2; omega) (by omega) z
            omega
          · rw [nv _ (by simp only [iq]; omega)]
            exact wT p r' hp6 hr'
      have eL : ∀ q, Ln (va_up v (iq (3 * p + t) 5) (v (iq (3 * p + t) 5) - x)) q = Ln v q := fun q => by unfold Ln; rw [nv _ (by simp only [iq]; omega)]
      have eS : Sl (va_up v (iq (3 * p + t) 5) (v (iq (3 * p + t) 5) - x)) (3 * p + t) 0 = Sl v (3 * p + t) 0 := by unfold Sl; rw [nv _ (by simp only [ie]; omega)]
      have eF : Fs (va_up v (iq (3 * p + t) 5) (v (iq (3 * p + t) 5) - x)) (Sl v (3 * p + t) 0) 0 = Fs v (Sl v (3 * p + t) 0) 0 := by unfold Fs; rw [nv _ (by simp only [ik]; omega)]
      have e4 : va_up v (iq (3 * p + t) 5) (v (iq (3 * p + t) 5) - x) (ip p 4) = v (ip p 4) := nv _ (by simp only [ip]; omega)
      obtain ⟨τ1, v1, ww, k1, k2, k3, k4, k5, k6, k7, k8, k9, k10, k11, k12⟩ := S_dep hYa hp ht (by rw [eL]; exact hl) (by rw [ds_n (by omega), e4, hcr])
      have eN : Nn (va_up v (iq (3 * p + t) 5) (v (iq (3 * p + t) 5) - x)) p = Nn v p := by unfold Nn; rw [eL, eL, eL]
      have eT : Ti (va_up v (iq (3 * p + t) 5) (v (iq (3 * p + t) 5) - x)) p = Ti v p := far_Ti (fun q f _ _ => nv _ (by simp only [iq]; omega))
      rw [eS, nv (ik (Sl v (3 * p + t) 0) 1) (by simp only [ik]; omega), exx] at k1 k11
      rw [eF, ds_n (show 13 ≠ 16 ∨ p ≠ p ∨ 0 ≠ t ∨ 7 ≠ 6 by omega), hcr] at k1
      rw [eN] at k5
      rw [e4, eT] at k11
      have hc1 : rg (v1 (ip p 4)) 0 27 ∧ (Nn v1 p = 0 → rg (v1 (ip p 4)) 0 11) := by
        rcases k11 with ⟨e0, e⟩ | ⟨e0, e, -⟩
        · rw [e]; exact ⟨⟨by decide, by decide⟩, fun _ => ⟨by decide, by decide⟩⟩
        · rw [e]; unfold rg at *; exact ⟨by grind, fun q => absurd q e0⟩
      have hmu1 : mu v1 p ≤ m := by
        have a := mu_bd v1 p
        have b := mu_bd v p
        omega
      obtain ⟨k, τ', v', g1, g2, g3, g4⟩ := IH (i + 1) (a + 1) τ1 v1 k4 k6 hc1.1 hc1.2 (by rw [k10, nv _ (by simp only [ip]; omega)]; exact h8) hmu1 (by omega)
      refine ⟨k + 1, τ', v', fun σ d hd => ?_, fun σ => ?_, g3, ?_⟩
      · rw [c_71 hY hp ht h6 hl hcr, exx, if_pos y, if_pos w, k1, b_s, nI_1, nI_1, g1 σ d hd, show a + 1 + k = a + (k + 1) by omega]
      · rw [m_148 hY hp ht h6, exx, if_neg (by omega), if_pos y, if_pos w, k2, b_s, k3, b_s, nI_1, g2, show a + 1 + k = a + (k + 1) by omega]
      · refine SR_step g4 k5 (k7.trans (ds_n (by omega))) (k8.trans ?_) (k9.trans (nv _ (by simp only [ip]; omega))) k11 (fun j hj => (k12 j hj).trans (nv j (by omega)))
        rw [nv _ (by simp only [ip]; omega)]
    · refine ⟨0, τ, v, fun σ d hd => ?_, fun σ => ?_, hY, SR_end hcr (by unfold rg at *; grind)⟩
      · rw [c_71 hY hp ht h6 hl hcr, if_pos y, if_neg w]; rfl
      · rw [m_148 hY hp ht h6, if_neg (by omega), if_pos y, if_neg w, BX6_sends_37, if_pos rfl]; rfl
  · obtain ⟨s1, s2⟩ := S_pass hY hp ht h6 (by unfold rg at *; grind) (Or.inr h7)
    have e4 : psV v p t (ip p 4) = v (ip p 4) := ps_n (by simp only [ip]; omega) (by simp only [ip]; omega)
    have eN : Nn (psV v p t) p = Nn v p := far_Nn (fun q => ps_n (by simp only [iq]; omega) (by simp only [iq]; omega))
    obtain ⟨k, τ', v', g1, g2, g3, g4⟩ := IH (i + 1) a _ _ s1 (by rw [e4]; unfold psT; rw [ds_n (by omega), ds_n (by omega)]; exact hcr) (by rw [e4]; exact hc) (fun z => by rw [eN] at z; omega) (by rw [ps_n (by simp only [ip]; omega) (by simp only [ip]; omega)]; exact h8) (by omega) (by omega)
    refine ⟨k, τ', v', fun σ d hd => ?_, fun σ => ?_, g3, ps_keep hp6 g4⟩
    · rw [c_71 hY hp ht h6 hl hcr, if_neg y, nI_1, g1 σ d hd]
    · rw [m_148 hY hp ht h6, if_neg (by omega), if_neg y, g2]
theorem robin_loop {b C P p : Nat} (hp : p < P) : ∀ m n1 n2, m < n1 → m + 2 < n2 → RRL b C P p m n1 n2 := by
  intro m
  induction m with
  | zero =>
    intro n1 n2 h1 h2 i a τ v hY hcr hc hc0 h8 hmu hi
    have h6 := hY.1.2.2.2.2.2.1
    obtain ⟨n1, rfl⟩ : ∃ n, n1 = n + 1 := ⟨n1 - 1, by omega⟩
    obtain ⟨n2, rfl⟩ : ∃ n, n2 = n + 1 := ⟨n2 - 1, by omega⟩
    have hN : Nn v p = 0 := by have := mu_bd v p; omega
    refine ⟨0, τ, v, fun σ d hd => ?_, fun σ => ?_, hY, SR_end hcr (hc0 hN)⟩
    · rw [BX0_sendInTurns_4, if_neg (show ¬ (100000 : Int32) ≤ nI i from nI_ge (b := 100000) (by omega) (by omega)), c_idleN hY hp, if_pos hN, b_s, if_neg (by decide)]; rfl
    · rw [BX6_sends_37, if_neg (by decide), m_hasN hY hp, if_pos hN, b_s, if_pos rfl]; rfl
  | succ m ih =>
    intro n1 n2 h1 h2 i a τ v hY hcr hc hc0 h8 hmu hi
    have h6 := hY.1.2.2.2.2.2.1
    have hp6 : p < 6 := by omega
    obtain ⟨n1, rfl⟩ : ∃ n, n1 = n + 1 := ⟨n1 - 1, by omega⟩
    obtain ⟨n2, rfl⟩ : ∃ n, n2 = n + 1 := ⟨n2 - 1, by omega⟩
    by_cases hN : Nn v p = 0
    · refine ⟨0, τ, v, fun σ d hd => ?_, fun σ => ?_, hY, SR_end hcr (hc0 hN)⟩
      · rw [BX0_sendInTurns_4, if_neg (show ¬ (100000 : Int32) ≤ nI i from nI_ge (b := 100000) (by omega) (by omega)), c_idleN hY hp, if_pos hN, b_s, if_neg (by decide)]; rfl
      · rw [BX6_sends_37, if_neg (by decide), m_hasN hY hp, if_pos hN, b_s, if_pos rfl]; rfl
    · have wP := hY.2.2.2.2.2.2.1 p hp6
      obtain ⟨t, t1, t2, h6t⟩ := rng_nI (lo := 0) (hi := 2) (by omega) (by omega) wP.2.2.2.2.2.1
      have ht : t < 3 := by omega
      have e8 : τ 13 p 0 8 = nI t := (hY.2.2.1 p 8 6 hp6 rfl (by omega)).trans h6t
      have e9 : τ 13 p 0 9 = v (ip p 7) := hY.2.2.1 p 9 7 hp6 rfl (by omega)
      have l := len15 hY hp ht
      have hz7 := x_z_or wP.2.2.2.2.2.2.1
      have e5 : τ 16 p t 5 = v (iq (3 * p + t) 4) := hY.2.1 p t 5 4 hp6 ht rfl
      have e6 : τ 16 p t 6 = v (iq (3 * p + t) 5) := hY.2.1 p t 6 5 hp6 ht rfl
      have hcl : ∀ σ d, d < 4 → BX0_sendInTurns_4 d d p (n1 + 1) (nI a) (nI i) (va_up σ d τ) = if Ln v (3 * p + t) = 0 then BX0_sendInTurns_4 d d p n1 (nI a) (nI (i + 1)) (va_up σ d (psT τ p t)) else if v (ip p 7) = 0 then BX0_sendInTurns_71 d d p (nI a) (nI i) d p t (BX0_sendInTurns_4 d d p n1) (va_up σ d τ) else BX0_sendInTurns_71 d d p (nI a) (nI i) d p t (BX0_sendInTurns_4 d d p n1) (va_up σ d (dset (dset τ 16 p t 6 (v (iq (3 * p + t) 5) + v (iq (3 * p + t) 4))) 13 p 0 9 0)) := fun σ d hd => by
        rw [BX0_sendInTurns_4, if_neg (show ¬ (100000 : Int32) ≤ nI i from nI_ge (b := 100000) (by omega) (by omega)), c_idleN hY hp, if_neg hN, b_s, if_pos rfl, fX2_queueAtTurn, up_s, e8, if_neg (nI_nn (by omega)), if_neg (show ¬ (3 : Int32) ≤ nI t from nI_ge (b := 3) ht (by omega)), l_v, in_nI ht (by omega), g_t, nI_clamp (by omega), b_s]
        show x_g (ok3 (d, p, t)) (if (va_up σ d τ d 16 p t 15) = 0 then (x_b (fX2_passTurn d p (va_up σ d τ)) fun z15 s15 => x_let (nI i + 1) fun t16 => (BX0_sendInTurns_4 d d p n1) (nI a) t16 s15) else (if (va_up σ d τ d 13 p 0 9) = 0 then (BX0_sendInTurns_71 d d p (nI a) (nI i) d p t (BX0_sendInTurns_4 d d p n1) (va_up σ d τ)) else (x_let (x_set (va_up σ d τ) d 16 p t 6 ((va_up σ d τ d 16 p t 6) + (va_up σ d τ d 16 p t 5))) fun s13 => x_let (x_set s13 d 13 p 0 9 0) fun s14 => BX0_sendInTurns_71 d d p (nI a) (nI i) d p t (BX0_sendInTurns_4 d d p n1) s14))) = _
        rw [ok3_t hd hp6 ht, g_t, up_s, l.1, e9, e5, e6]
        by_cases z : Ln v (3 * p + t) = 0
        · rw [if_pos z, if_pos (by rw [z]; rfl), c_pass ht e8, b_s, l_v, nI_1]
        · rw [if_neg z, if_neg (nI_ne0 (by omega) (by omega))]
          by_cases y : v (ip p 7) = 0
          · rw [if_pos y, if_pos y]
          · rw [if_neg y, if_neg y, set_own, l_v, set_own, l_v]
      have hrf : ∀ σ, BX6_sends_37 (nI p) (n2 + 1) (nI a) 1 (x_row σ 5 31 0 0 v) = if Ln v (3 * p + t) = 0 then BX6_sends_37 (nI p) n2 (nI a) 1 (x_row σ 5 31 0 0 (psV v p t)) else if v (ip p 7) = 0 then BX6_sends_148 (nI p) (nI a) 1 (nI (3 * p + t)) (BX6_sends_37 (nI p) n2) (x_row σ 5 31 0 0 v) else BX6_sends_148 (nI p) (nI a) 1 (nI (3 * p + t)) (BX6_sends_37 (nI p) n2) (x_row σ 5 31 0 0 (va_up (va_up v (iq (3 * p + t) 5) (v (iq (3 * p + t) 5) + v (iq (3 * p + t) 4))) (ip p 7) 0)) := fun σ => by
        have e12 : v (160 + 16 * (3 * p + t) + 12) = nI (Ln v (3 * p + t)) := l.2.1
        have e6' : v (16 + 24 * p + 6) = nI t := h6t
        rw [BX6_sends_37, if_neg (by decide), m_hasN hY hp, if_neg hN, b_s, if_neg (by decide), m_port_8, b_s, in_nI (by omega) (by omega), g_t, nI_clamp (by omega), row_rd, if_pos h8, m_port_6, b_s, in_nI (by omega) (by omega), g_t, nI_clamp (by omega), row_rd, e6', q3, l_v, m_queue_12, b_s, in_nI (by omega) (by omega), g_t, nI_clamp (by omega), row_rd, e12]
        by_cases z : Ln v (3 * p + t) = 0
        · rw [if_pos z, if_pos (by rw [z]; decide), m_148 hY hp ht h6t, if_pos z]
        · rw [if_neg z, if_neg (nI_nle (by omega) (by omega)), m_port_7, b_s, in_nI (by omega) (by omega), g_t, nI_clamp (by omega), row_rd]
          rcases hz7 with y | y
          · have y' : v (16 + 24 * p + 7) = 0 := y
            rw [if_pos y, y', if_neg (by decide)]
          · have y' : v (16 + 24 * p + 7) = 1 := y
            rw [if_neg (show ¬ v (ip p 7) = 0 by rw [y]; decide), y', if_pos rfl, m_queue_5, b_s, in_nI (by omega) (by omega), g_t, m_queue_4, b_s, in_nI (by omega) (by omega), g_t, g_t, nI_clamp (by omega), nI_clamp (by omega), row_rd, row_set, l_v, m_port_7, b_s, in_nI (by omega) (by omega), g_t, nI_clamp (by omega), row_set, l_v]
      by_cases z : Ln v (3 * p + t) = 0
      · have wT := (hY.2.2.2.2.2.2.2.2.1 p t hp6 ht).1 (by rw [l.2.1, z]; rfl)
        obtain ⟨s1, s2⟩ := S_pass hY hp ht h6t (by rw [wT]; decide) (Or.inl ⟨z, hN⟩)
        have e4 : psV v p t (ip p 4) = v (ip p 4) := ps_n (by simp only [ip]; omega) (by simp only [ip]; omega)
        have eN : Nn (psV v p t) p = Nn v p := far_Nn (fun q => ps_n (by simp only [iq]; omega) (by simp only [iq]; omega))
        obtain ⟨k, τ', v', g1, g2, g3, g4⟩ := ih n1 n2 (by omega) (by omega) (i + 1) a _ _ s1 (by rw [e4]; unfold psT; rw [ds_n (by omega), ds_n (by omega)]; exact hcr) (by rw [e4]; exact hc) (fun z => by rw [eN] at z; omega) (by rw [ps_n (by simp only [ip]; omega) (by simp only [ip]; omega)]; exact h8) (by omega) (by omega)
        refine ⟨k, τ', v', fun σ d hd => ?_, fun σ => ?_, g3, ps_keep hp6 g4⟩
        · rw [hcl σ d hd, if_pos z, g1 σ d hd]
        · rw [hrf, if_pos z, g2]
      · obtain ⟨n2, rfl⟩ : ∃ n, n2 = n + 1 := ⟨n2 - 1, by omega⟩
        have IH := ih n1 (n2 + 1) (by omega) (by omega)
        by_cases y : v (ip p 7) = 0
        · obtain ⟨k, τ', v', g1, g2, g3, g4⟩ := rr_inner hp IH (i := i) (a := a) hY ht h6t y (by omega) hcr hc h8 hmu (by omega)
          refine ⟨k, τ', v', fun σ d hd => ?_, fun σ => ?_, g3, g4⟩
          · rw [hcl σ d hd, if_neg z, if_pos y, g1 σ d hd]
          · rw [hrf, if_neg z, if_pos y, g2]
        · -- the quantum is due
          have y1 : v (ip p 7) = 1 := hz7.resolve_left y
          have wT := hY.2.2.2.2.2.2.2.2.1
          have hd11 : v (iq (3 * p + t) 5) ≤ 11 := (wT p t hp6 ht).2 (fun w => y w.2)
          have wq := hY.2.2.2.2.2.2.2.1 (3 * p + t) (by omega)
          have w4 := wq.2.2.2.2.1
          have w5 := wq.2.2.2.2.2.1
          generalize edv : v (iq (3 * p + t) 5) + v (iq (3 * p + t) 4) = dv at *
          have nv : ∀ j, j ≠ 160 + 16 * (3 * p + t) + 5 → j ≠ 16 + 24 * p + 7 → va_up (va_up v (iq (3 * p + t) 5) dv) (ip p 7) 0 j = v j := fun j h1 h2 => by rw [up_n _ _ h2, up_n _ _ h1]
          have v5 : va_up (va_up v (iq (3 * p + t) 5) dv) (ip p 7) 0 (iq (3 * p + t) 5) = dv := by rw [up_n _ _ (by simp only [iq, ip]; omega), up_s]
          have v7 : va_up (va_up v (iq (3 * p + t) 5) dv) (ip p 7) 0 (ip p 7) = 0 := up_s _ _ _
          have v6 : va_up (va_up v (iq (3 * p + t) 5) dv) (ip p 7) 0 (ip p 6) = nI t := by rw [nv _ (by simp only [ip]; omega) (by simp only [ip]; omega)]; exact h6t
          have rdv : rg dv 0 27 := by unfold rg at *; grind
          have hYb : RY (dset (dset τ 16 p t 6 dv) 13 p 0 9 0) (va_up (va_up v (iq (3 * p + t) 5) dv) (ip p 7) 0) b C P p := by
            refine RY_snd (t := t) hY hp ht (fun K p' r' k a1 a2 => by rw [ds_n (by omega), ds_n (by omega)]) (fun j a1 a2 a3 a4 a5 => nv j a1 a4) ?_ ?_ ?_ ?_ ?_ ?_ (fun r' hr' => ?_)
            · rw [ds_n (by omega), ds_s, v5]
            · rw [ds_n (by omega), ds_n (by omega), v6, e8]
            · rw [ds_s, v7]
            · rw [v5]; exact rdv
            · rw [v6]; exact ⟨nI_pos' (by omega), nI_le (b := 2) (by omega) (by omega)⟩
            · rw [v7]; rfl
            · rw [v6, v7]
              by_cases e : r' = t
              · subst e
                refine ⟨fun w => ?_, fun w => absurd ⟨rfl, rfl⟩ w⟩
                rw [nv _ (by simp only [iq]; omega) (by simp only [iq]; omega), l.2.1] at w
                exact absurd (nIeq (b := 0) (by omega) (by omega) w) z
              · rw [nv _ (by simp only [iq]; omega) (by simp only [iq]; omega), nv _ (by simp only [iq]; omega) (by simp only [iq]; omega)]
                refine ⟨(wT p r' hp6 hr').1, fun _ => (wT p r' hp6 hr').2 (fun w => ?_)⟩
                rw [h6t] at w
                have := nIeq (by omega) (by omega) w.1
                omega
          have eL : ∀ q, Ln (va_up (va_up v (iq (3 * p + t) 5) dv) (ip p 7) 0) q = Ln v q := fun q => by unfold Ln; rw [nv _ (by simp only [iq]; omega) (by simp only [iq]; omega)]
          have eN : Nn (va_up (va_up v (iq (3 * p + t) 5) dv) (ip p 7) 0) p = Nn v p := by unfold Nn; rw [eL, eL, eL]
          have e4 : va_up (va_up v (iq (3 * p + t) 5) dv) (ip p 7) 0 (ip p 4) = v (ip p 4) := nv _ (by simp only [ip]; omega) (by simp only [ip]; omega)
          obtain ⟨dn, d1, d2, d3⟩ := rng_nI (lo := 0) (hi := 27) (by omega) (by omega) rdv
          obtain ⟨dm, c1, c2, c3⟩ := rng_nI (lo := 0) (hi := 11) (by omega) (by omega) ⟨w5.1, hd11⟩
          have hdd : dm < dn := by
            have : nI dm < nI dn := by
              rw [← d3, ← c3, ← edv]; unfold rg at *; grind
            exact (nI_ltI (by omega) (by omega)).mp this
          have hmb : mu (va_up (va_up v (iq (3 * p + t) 5) dv) (ip p 7) 0) p ≤ mu v p := by
            have ed : ∀ r, r < 3 → dq (va_up (va_up v (iq (3 * p + t) 5) dv) (ip p 7) 0) p r = if r = t then 12 - dn else dq v p r := fun r hr => by
              unfold dq
              by_cases e : r = t
              · rw [if_pos e, e, v5, d3, nI_clamp (by omega)]
              · rw [if_neg e, nv _ (by simp only [iq]; omega) (by simp only [iq]; omega)]
            have edm : dq v p t = 12 - dm := by unfold dq; rw [c3, nI_clamp (by omega)]
            have eds : dst (va_up (va_up v (iq (3 * p + t) 5) dv) (ip p 7) 0) p t = dst v p t := by unfold dst; rw [eL, eL]
            unfold mu
            rw [eN, ed 0 (by omega), ed 1 (by omega), ed 2 (by omega), v6, v7, h6t, y1, nI_clamp (by omega), eds, if_pos (show (0 : Int32) = 0 from rfl), if_neg (show ¬ (1 : Int32) = 0 by decide)]
            rcases (show t = 0 ∨ t = 1 ∨ t = 2 by omega) with rfl | rfl | rfl
            · rw [if_pos rfl, if_neg (by decide), if_neg (by decide), edm]; omega
            · rw [if_neg (by decide), if_pos rfl, if_neg (by decide), edm]; omega
            · rw [if_neg (by decide), if_neg (by decide), if_pos rfl, edm]; omega
          obtain ⟨k, τ', v', g1, g2, g3, g4⟩ := rr_inner hp IH (i := i) (a := a) hYb ht v6 v7 (by rw [eL]; omega) (by rw [ds_n (by omega), ds_n (by omega), e4, hcr]) (by rw [e4]; exact hc) (by rw [nv _ (by simp only [ip]; omega) (by simp only [ip]; omega)]; exact h8) (by omega) (by omega)
          refine ⟨k, τ', v', fun σ d hd => ?_, fun σ => ?_, g3, ?_⟩
          · rw [hcl σ d hd, if_neg z, if_neg y, g1 σ d hd]
          · rw [hrf, if_neg z, if_neg y, g2]
          · exact SR_keep g4 eN (by rw [ds_n (by omega), ds_n (by omega)]) (nv _ (by simp only [ip]; omega) (by simp only [ip]; omega)) (nv _ (by simp only [ip]; omega) (by simp only [ip]; omega)) e4 (far_Ti (fun q f _ _ => nv _ (by simp only [iq]; omega) (by simp only [iq]; omega))) (fun j hj => nv j (by omega) (by omega))
