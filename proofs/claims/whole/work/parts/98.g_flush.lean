/-! ===== a packet is lost; flush ===== -/
def lsT (τ : xD) (p c : Nat) (x : Int32) : xD := dset (dset τ 15 p 0 c (τ 15 p 0 c + 1)) 13 p 0 10 (τ 13 p 0 10 + x)
def loV (v : xV) (p c : Nat) (x : Int32) : xV := va_up (va_up v (ip p (11 + c)) (v (ip p (11 + c)) + 1)) (ip p 10) (v (ip p 10) + x)
theorem c_loss {σ : xS} {d p c : Nat} {x : Int32} (τ : xD) (hc : c < 10) : fX2_countLoss d p (nI c) x (va_up σ d τ) = some ((), va_up σ d (lsT τ p c x)) := by
  rw [fX2_countLoss, if_neg (nI_nn (by omega)), if_neg (show ¬ (10 : Int32) ≤ nI c from nI_ge (b := 10) hc (by omega)), in_nI hc (by omega), g_t, g_t, nI_clamp (by omega), l_v, up_s, set_own, l_v, up_s, set_own, ds_n (by omega)]
  rfl
theorem m_loses {σ : xS} {p c : Nat} {x : Int32} (v : xV) (hp : p < 6) (hc : c < 10) : fX6_loses (nI p) (nI c) x (x_row σ 5 31 0 0 v) = some ((), x_row σ 5 31 0 0 (loV v p c x)) := by
  rw [fX6_loses, show (11 : Int32) + nI c = nI (11 + c) from nI_add 11 c, m_portN, b_s, in_nI (by omega) (by omega), g_t, g_t, nI_clamp (by omega), row_rd, row_set, l_v, m_port_10, b_s, in_nI (by omega) (by omega), g_t, g_t, nI_clamp (by omega), row_rd, row_set, l_v, up_n _ _ (by omega)]
  rfl
theorem lo_n {v : xV} {p c : Nat} {x : Int32} {m : Nat} (h1 : m ≠ 16 + 24 * p + 10) (h2 : m ≠ 16 + 24 * p + (11 + c)) : loV v p c x m = v m := by
  rw [loV, up_n _ _ h1, up_n _ _ h2]
theorem lsT_n {τ : xD} {p c : Nat} {x : Int32} {K p' r' k : Nat} (h1 : K ≠ 15 ∨ p' ≠ p ∨ r' ≠ 0 ∨ k ≠ c) (h2 : K ≠ 13 ∨ p' ≠ p ∨ r' ≠ 0 ∨ k ≠ 10) : lsT τ p c x K p' r' k = τ K p' r' k := by
  rw [lsT, ds_n h2, ds_n h1]
theorem RY_loss {τ : xD} {v : xV} {b C P p p0 c : Nat} {x : Int32} (h : RY τ v b C P p0) (hp : p < P) (hc : c < 10) : RY (lsT τ p c x) (loV v p c x) b C P p0 := by
  obtain ⟨hG, hQ, hPp, hLs, hDd, hRf, wP, wQ, wT, wN, hM, hX, hg, hS, hpr, b1, b2, b3, b4⟩ := h
  have h6 := hG.2.2.2.2.2.1
  have h8 := hG.2.2.1
  have nl : ∀ i, i < 16 → loV v p c x i = v i := fun i a => lo_n (by omega) (by omega)
  have nq : ∀ q f, loV v p c x (iq q f) = v (iq q f) := fun q f => lo_n (by simp only [iq]; omega) (by simp only [iq]; omega)
  have np : ∀ p' f, f < 24 → (p' ≠ p ∨ (f ≠ 10 ∧ f ≠ 11 + c)) → loV v p c x (ip p' f) = v (ip p' f) := fun p' f a a2 => lo_n (by simp only [ip]; omega) (by simp only [ip]; omega)
  have hN : eqN v (loV v p c x) := ⟨nl 4 (by omega), fun i h1 _ => lo_n (by omega) (by omega), fun q hq => nq q 12⟩
  have hx : eqXb τ (lsT τ p c x) := ⟨fun K c' h1 h2 _ => lsT_n (by omega) (by omega), fun p' r' _ _ => ⟨lsT_n (by omega) (by omega), lsT_n (by omega) (by omega)⟩⟩
  refine ⟨wfG_c (nl 0 (by omega)) (nl 1 (by omega)) (nl 2 (by omega)) (nl 5 (by omega)) hG, cfQ_c (fun _ _ _ => lsT_n (by omega) (by omega)) (fun q f _ _ => nq q f) hQ, fun p' k f h1 hk hn => ?_, fun p' c' h1 h2 => ?_, cfD_c (lsT_n (by omega) (by omega)) (fun k' _ _ _ _ => lsT_n (by omega) (by omega)) (fun i hi => nl i (by omega)) hDd, cfR_c (fun k' => lsT_n (by omega) (by omega)) (fun i _ hi => nl i (by omega)) hRf, fun p' h1 => ?_, wfQ_c (fun q f _ _ => nq q f) wQ, wfT_c (fun q _ => ⟨nq q 12, nq q 5⟩) (fun p' h1 => ⟨np p' 6 (by omega) (by omega), np p' 7 (by omega) (by omega)⟩) wT, wfN_c (fun p' f h0 h1 h2 => np p' f (by omega) (by omega)) (fun p' r' f h0 h1 h2 h3 h4 => nq _ f) wN, MW_of (MX_c hN h8 (MX_of hM)) (mwA_c hN (fun q hq => by rw [nq, nq, nq]) (MX_of hM) hM.2.2.2.2.2.2.2.2.2), RX_c hN h8 hx (MX_of hM) hX, gr_c h6 (lsT_n (by omega) (by omega)) (lsT_n (by omega) (by omega)) (fun p' h1 => ⟨np p' 2 (by omega) (by omega), np p' 3 (by omega) (by omega)⟩) (nl 10 (by omega)) hg, wfS_c h6 (nl 0 (by omega)) (fun p' f h1 h2 => np p' f (by omega) (by omega)) (fun q f h1 h2 h3 => nq q f) hS, fun p' r' h1 h2 => by rw [lsT_n (by omega) (by omega)]; exact hpr p' r' h1 h2, ?_⟩
  · have hkl := pm_lt hk
    by_cases e : p' = p ∧ k = 10
    · obtain ⟨rfl, rfl⟩ := e
      have : f = 10 := by simp only [pm, Option.some.injEq] at hk; exact hk.symm
      subst this
      rw [lsT, ds_s, loV, up_s, hPp p' 10 10 h1 rfl (by omega)]
    · rw [lsT_n (by omega) (by omega), np p' f (by omega) (by
        by_cases y : p' = p
        · refine Or.inr ⟨fun z => ?_, by omega⟩
          have : k = 10 := pm_inj hk (show pm 10 = some f from by rw [z]; rfl)
          omega
        · exact Or.inl y)]
      exact hPp p' k f h1 hk hn
  · by_cases e : p' = p ∧ c' = c
    · obtain ⟨rfl, rfl⟩ := e
      rw [lsT, ds_n (by omega), ds_s, loV, up_n _ _ (by simp only [ip]; omega), up_s, hLs p' c' h1 h2]
    · rw [lsT_n (by omega) (by omega), np p' _ (by omega) (by omega)]
      exact hLs p' c' h1 h2
  · obtain ⟨a1, a2, a3, a4, a5, a6, a7, a8⟩ := wP p' h1
    rw [np p' 0 (by omega) (by omega), np p' 1 (by omega) (by omega), np p' 2 (by omega) (by omega), np p' 4 (by omega) (by omega), np p' 5 (by omega) (by omega), np p' 6 (by omega) (by omega), np p' 7 (by omega) (by omega), np p' 8 (by omega) (by omega)]
    exact ⟨a1, a2, a3, a4, a5, a6, a7, a8⟩
  · rw [nl 4 (by omega), nl 10 (by omega)]
    exact ⟨b1, b2, b3, b4⟩
-- what is far from the packets goes along
def ag (u v : xV) : Prop := ∀ m, 160 ≤ m → u m = v m
theorem ag_up {u v : xV} (h : ag u v) (i : Nat) (x : Int32) : ag (va_up u i x) (va_up v i x) := fun m hm => by
  by_cases e : m = i
  · rw [e, up_s, up_s]
  · rw [up_n _ _ e, up_n _ _ e, h m hm]
theorem ag_shf {u v : xV} (h : ag u v) (q i L : Nat) : ag (shf u q i L) (shf v q i L) := fun m hm => by
  unfold shf
  rw [h m hm, h (m + 1) (by omega)]
theorem ag_clr {u v : xV} (h : ag u v) (k C i : Nat) : ag (clr u k C i) (clr v k C i) := fun m hm => by
  unfold clr
  rw [h m hm]
theorem ag_ls {u v : xV} (h : ag u v) (q : Nat) (x : Int32) : ag (lsV u q x) (lsV v q x) := by
  have e6 := h (iq q 6) (by simp only [iq]; omega)
  have e7 := h (iq q 7) (by simp only [iq]; omega)
  have e8 := h (iq q 8) (by simp only [iq]; omega)
  unfold lsV
  simp only [le6, le7, le8, e6, e7, e8]
  exact ag_up (ag_up (ag_up h _ _) _ _) _ _
theorem ag_lv {u v : xV} (h : ag u v) (q j C : Nat) : ag (lvV u q j C) (lvV v q j C) := by
  have e1 : Ln u q = Ln v q := by unfold Ln; rw [h _ (by simp only [iq]; omega)]
  have e2 : Sl u q j = Sl v q j := by unfold Sl; rw [h _ (by simp only [ie]; omega)]
  unfold lvV
  rw [e1, e2, h (ik (Sl v q j) 1) (by simp only [ik]; omega)]
  exact ag_ls (ag_clr (ag_up (ag_up (ag_shf h _ _ _) _ _) _ _) _ _ _) _ _
theorem ag_far {v : xV} {i : Nat} {y : Int32} (hi : i < 160) : ag (va_up v i y) v := fun m hm => up_n _ _ (by omega)
theorem eqN_far {v : xV} {i : Nat} {y : Int32} (hi : i < 160) (h4 : i ≠ 4) : eqN v (va_up v i y) := ⟨up_n _ _ (by omega), fun m h1 _ => up_n _ _ (by omega), fun q _ => up_n _ _ (by simp only [iq]; omega)⟩
theorem LO_far {v : xV} {i q j C : Nat} {y : Int32} (h : LO v q j C) (hi : i < 160) (h4 : i ≠ 4) : LO (va_up v i y) q j C := ⟨MX_c (eqN_far hi h4) h.2.2.2 h.1, h.2.1, by rw [eqN_L (eqN_far hi h4) h.2.1]; exact h.2.2.1, h.2.2.2⟩
theorem lv_up {v : xV} {i q j C : Nat} {y : Int32} (h : LO v q j C) (hi : i < 160) (h4 : i ≠ 4) : lvV (va_up v i y) q j C = va_up (lvV v q j C) i y := by
  funext m
  by_cases e : m < 160
  · rw [lv_lo (LO_far h hi h4) e]
    by_cases z : m = i
    · rw [z, up_s, up_s]
    · rw [up_n _ _ z, up_n _ _ z, lv_lo h e]
  · rw [ag_lv (ag_far hi) q j C m (by omega), up_n _ _ (by omega)]
theorem lv_lo2 {v : xV} {q j C p c : Nat} {x : Int32} (h : LO v q j C) (hp : p < 6) (hc : c < 10) : lvV (loV v p c x) q j C = loV (lvV v q j C) p c x := by
  rw [loV, lv_up (LO_far h (by simp only [ip]; omega) (by simp only [ip]; omega)) (by simp only [ip]; omega) (by simp only [ip]; omega), lv_up h (by simp only [ip]; omega) (by simp only [ip]; omega), loV, lv_lo h (m := ip p (11 + c)) (by simp only [ip]; omega), lv_lo h (m := ip p 10) (by simp only [ip]; omega)]
theorem st_up {w : xV} {q p i : Nat} {y : Int32} (hi : i < 160) (h4 : i ≠ 16 + 24 * p + 4) (h6 : i ≠ 16 + 24 * p + 6) (h7 : i ≠ 16 + 24 * p + 7) : idV (zdV (va_up w i y) q) p = va_up (idV (zdV w q) p) i y := by
  have e1 : zdV (va_up w i y) q = va_up (zdV w q) i y := by
    unfold zdV
    rw [up_n _ _ (by simp only [iq]; omega)]
    split
    · rw [up_comm _ _ _ (show i ≠ iq q 5 by simp only [iq]; omega)]
    · rfl
  rw [e1]
  generalize zdV w q = u
  have e2 : s3 (va_up u i y) p 12 = s3 u p 12 := by
    simp only [s3]
    rw [up_n _ _ (by simp only [iq]; omega), up_n _ _ (by simp only [iq]; omega), up_n _ _ (by simp only [iq]; omega)]
  unfold idV
  rw [e2]
  split
  · rw [up_comm _ _ _ (show i ≠ ip p 4 from h4), up_comm _ _ _ (show i ≠ ip p 6 from h6), up_comm _ _ _ (show i ≠ ip p 7 from h7)]
  · rfl
theorem st_lo {w : xV} {q p c : Nat} {x : Int32} (hp : p < 6) (hc : c < 10) : idV (zdV (loV w p c x) q) p = loV (idV (zdV w q) p) p c x := by
  rw [loV, st_up (by simp only [ip]; omega) (by simp only [ip]; omega) (by simp only [ip]; omega) (by simp only [ip]; omega), st_up (by simp only [ip]; omega) (by simp only [ip]; omega) (by simp only [ip]; omega) (by simp only [ip]; omega), loV, idV_n (m := ip p (11 + c)) ⟨by simp only [ip]; omega, by simp only [ip]; omega, by simp only [ip]; omega⟩, zdV_n (m := ip p (11 + c)) (by simp only [ip]; omega), idV_n (m := ip p 10) ⟨by simp only [ip]; omega, by simp only [ip]; omega, by simp only [ip]; omega⟩, zdV_n (m := ip p 10) (by simp only [ip]; omega)]
theorem RW_out {τ τ' : xD} {v v' : xV} {b C P p r j : Nat} (h : RY τ' v' b C P p) (hp : p < 6) (hF : OutF τ τ' v v' p r j) (h1 : τ 13 p 0 7 = v (ip p 4)) (h2 : rg (v (ip p 4)) 0 11) (h3 : τ 13 p 0 11 = v (ip p 9)) : RW τ' v' b C P := by
  obtain ⟨o1, -, -, -, -, -, -, ⟨o8, o8'⟩, o9, -⟩ := hF
  have e11 : τ' 13 p 0 11 = v' (ip p 9) := by rw [o9 _ _ _ _ (by omega) (by omega), o1 (ip p 9) (by simp only [ip]; omega) (by simp only [ip]; omega) (by simp only [ip]; omega) (by simp only [ip]; omega), h3]
  by_cases z : Nn v p = 1
  · obtain ⟨a1, a2, a3, a4⟩ := o8 z
    exact RW_ofY h (by rw [a4, a1]) (by rw [a1]; exact ⟨by decide, by decide⟩) e11
  · obtain ⟨a1, a2, a3, a4⟩ := o8' z
    exact RW_ofY h (by rw [a4, a1, h1]) (by rw [a1]; exact h2) e11
theorem S_drop {τ : xD} {v : xV} {b C P p r j c : Nat} (h : RW τ v b C P) (hp : p < P) (hr : r < 3) (hj : j < Ln v (3 * p + r)) (hc : c < 10) : ∃ τ' v' w w2, (∀ σ d, fX2_countLoss d p (nI c) (v (ik (Sl v (3 * p + r) j) 1)) (va_up σ d τ) = some ((), va_up σ d (lsT τ p c (v (ik (Sl v (3 * p + r) j) 1))))) ∧ (∀ σ d, fX0_takeOut d d p d p r (nI (Fs v (Sl v (3 * p + r) j) 0)) (va_up σ d (lsT τ p c (v (ik (Sl v (3 * p + r) j) 1)))) = some ((), va_up σ d τ')) ∧ (∀ σ, fX6_leaves (nI (3 * p + r)) (nI j) (x_row σ 5 31 0 0 v) = some (v (ik (Sl v (3 * p + r) j) 1), x_row σ 5 31 0 0 (lvV v (3 * p + r) j C))) ∧ (∀ σ, fX6_loses (nI p) (nI c) (v (ik (Sl v (3 * p + r) j) 1)) (x_row σ 5 31 0 0 (lvV v (3 * p + r) j C)) = some ((), x_row σ 5 31 0 0 w)) ∧ (∀ σ, fX6_settles (nI (3 * p + r)) (x_row σ 5 31 0 0 w) = some ((), x_row σ 5 31 0 0 v')) ∧ (∀ σ, fX6_settles (nI (3 * p + r)) (x_row σ 5 31 0 0 (lvV v (3 * p + r) j C)) = some ((), x_row σ 5 31 0 0 w2)) ∧ (∀ σ, fX6_loses (nI p) (nI c) (v (ik (Sl v (3 * p + r) j) 1)) (x_row σ 5 31 0 0 w2) = some ((), x_row σ 5 31 0 0 v')) ∧ RW τ' v' b C P ∧ OutF (lsT τ p c (v (ik (Sl v (3 * p + r) j) 1))) τ' (loV v p c (v (ik (Sl v (3 * p + r) j) 1))) v' p r j := by
  have h6 := h.1.1.2.2.2.2.2.1
  have hp6 : p < 6 := by omega
  have hq : 3 * p + r < 18 := by omega
  have hL := LO_of (RY_of h p) hq hj
  have hk := LO_k hL
  have hLn := LO_L hL
  generalize ex : v (ik (Sl v (3 * p + r) j) 1) = x
  have nlo : ∀ m, 160 ≤ m → loV v p c x m = v m := fun m hm => lo_n (by omega) (by omega)
  have eL : Ln (loV v p c x) (3 * p + r) = Ln v (3 * p + r) := by unfold Ln; rw [nlo _ (by simp only [iq]; omega)]
  have eS : Sl (loV v p c x) (3 * p + r) j = Sl v (3 * p + r) j := by unfold Sl; rw [nlo _ (by simp only [ie]; omega)]
  have eF : Fs (loV v p c x) (Sl v (3 * p + r) j) 0 = Fs v (Sl v (3 * p + r) j) 0 := by unfold Fs; rw [nlo _ (by simp only [ik]; omega)]
  obtain ⟨τ', v', k1, k2, k3, k4, k5⟩ := S_out (r := r) (j := j) (RY_loss (x := x) (RY_of h p) hp hc) hp hr (by rw [eL]; exact hj)
  rw [eS, eF] at k1
  have hlv := lv_lo2 (p := p) (c := c) (x := x) hL hp6 hc
  rw [hlv] at k3
  refine ⟨τ', v', loV (lvV v (3 * p + r) j C) p c x, idV (zdV (lvV v (3 * p + r) j C) (3 * p + r)) p, fun σ d => c_loss τ hc, k1, fun σ => ?_, fun σ => m_loses _ hp6 hc, fun σ => ?_, fun σ => m_settles hp6 hr, fun σ => ?_, ?_, k5⟩
  · rw [m_leaves h.1.1.1 hL.2.2.2 hL.1 hq hj, ex]
  · rw [m_settles hp6 hr, k3]
  · rw [m_loses _ hp6 hc, k3, st_lo hp6 hc]
  · refine RW_out k4 hp6 k5 ?_ ?_ ?_
    · rw [lsT_n (by omega) (by omega), lo_n (by simp only [ip]; omega) (by simp only [ip]; omega)]
      exact h.1.2.2.1 p 7 4 hp6 rfl
    · rw [lo_n (by simp only [ip]; omega) (by simp only [ip]; omega)]
      exact (h.1.2.2.2.2.2.2.1 p hp6).2.2.2.1
    · rw [lsT_n (by omega) (by omega), lo_n (by simp only [ip]; omega) (by simp only [ip]; omega)]
      exact h.1.2.2.1 p 11 9 hp6 rfl
theorem flush_q {b C P p r : Nat} (hp : p < P) (hr : r < 3) {a5 : Int32} : ∀ (L i a n1 n2 : Nat) (τ : xD) (v : xV), RW τ v b C P → Ln v (3 * p + r) = L → i + L ≤ 128 → L < n1 → L < n2 → ∃ τ' v', (∀ σ d k, BX0_discardAll_30 d d p d p 3 a5 d p r k n1 (nI a) (nI i) (va_up σ d τ) = k (nI (a + L)) (a5 + 1) (va_up σ d τ')) ∧ (∀ σ k, BX6_flushes_15 (nI p) (nI (3 * p + r)) k n2 (nI a) (x_row σ 5 31 0 0 v) = k (nI (a + L)) (nI (3 * p + r + 1)) (x_row σ 5 31 0 0 v')) ∧ RW τ' v' b C P := by
  intro L
  induction L with
  | zero =>
    intro i a n1 n2 τ v hW hL hi h1 h2
    have h6 := hW.1.1.2.2.2.2.2.1
    obtain ⟨n1, rfl⟩ : ∃ n, n1 = n + 1 := ⟨n1 - 1, by omega⟩
    obtain ⟨n2, rfl⟩ : ∃ n, n2 = n + 1 := ⟨n2 - 1, by omega⟩
    have e12 : v (iq (3 * p + r) 12) = 0 := by
      rw [(hW.1.2.2.2.2.2.2.2.2.2.2.1.1 _ (by omega)).1, hL]; rfl
    have e15 : τ 16 p r 15 = 0 := (hW.1.2.1 p r 15 12 (by omega) hr rfl).trans e12
    refine ⟨τ, v, fun σ d k => ?_, fun σ k => ?_, hW⟩
    · rw [BX0_discardAll_30, up_s, e15]
      by_cases z : (128 : Int32) ≤ nI i
      · rw [if_pos z, l_v]; rfl
      · rw [if_neg z, if_pos (by decide), l_v]; rfl
    · rw [BX6_flushes_15, m_queue_12, b_s, in_nI (by omega) (by omega), g_t, nI_clamp (by omega), row_rd, show v (160 + 16 * (3 * p + r) + 12) = 0 from e12, if_pos (by decide), l_v, nI_1]
      rfl
  | succ L ih =>
    intro i a n1 n2 τ v hW hL hi h1 h2
    have h6 := hW.1.1.2.2.2.2.2.1
    have hp6 : p < 6 := by omega
    obtain ⟨n1, rfl⟩ : ∃ n, n1 = n + 1 := ⟨n1 - 1, by omega⟩
    obtain ⟨n2, rfl⟩ : ∃ n, n2 = n + 1 := ⟨n2 - 1, by omega⟩
    have hMX := MX_of hW.1.2.2.2.2.2.2.2.2.2.2.1
    have hX := hW.1.2.2.2.2.2.2.2.2.2.2.2.1
    have e12 : v (iq (3 * p + r) 12) = nI (L + 1) := by rw [(hMX.1 _ (by omega)).1, hL]
    have e15 : τ 16 p r 15 = nI (L + 1) := (hW.1.2.1 p r 15 12 hp6 hr rfl).trans e12
    have hsl := hMX.2.1 (3 * p + r) 0 (by omega) (by omega)
    have hkk := hMX.2.2.2.2.1 _ hsl.2.1 hsl.2.2
    have hs0 : Fs v (Sl v (3 * p + r) 0) 0 < 128 := by
      have := hkk.2.2.2.2.2.2.1 0 (by omega)
      have := hW.1.1.2.2.1
      omega
    have e13 : τ 16 p r 13 = nI (Fs v (Sl v (3 * p + r) 0) 0) := by rw [(hX.1 p r hp6 hr).1, cellAt_in (by omega)]
    have e6 : τ 6 0 0 (Fs v (Sl v (3 * p + r) 0) 0) = v (ik (Sl v (3 * p + r) 0) 1) := (hX.2.1 _ hsl.2.1 hsl.2.2).2.1
    obtain ⟨τ1, v1, w, w2, k1, k2, k3, k4, k5, -, -, k6, k7⟩ := S_drop (c := 9) hW hp hr (j := 0) (by omega) (by omega)
    have eL1 : Ln v1 (3 * p + r) = L := by
      rw [k7.2.2.2.1.1]
      have : Ln (loV v p 9 (v (ik (Sl v (3 * p + r) 0) 1))) (3 * p + r) = Ln v (3 * p + r) := by
        unfold Ln; rw [lo_n (by simp only [iq]; omega) (by simp only [iq]; omega)]
      rw [this, hL]; omega
    obtain ⟨τ', v', g1, g2, g3⟩ := ih (i + 1) (a + 1) n1 n2 τ1 v1 k6 eL1 (by omega) (by omega) (by omega)
    refine ⟨τ', v', fun σ d k => ?_, fun σ k => ?_, g3⟩
    · have e13' : lsT τ p 9 (v (ik (Sl v (3 * p + r) 0) 1)) 16 p r 13 = nI (Fs v (Sl v (3 * p + r) 0) 0) := by rw [lsT_n (by omega) (by omega), e13]
      have k1' := k1 σ d
      rw [BX0_discardAll_30, up_s, e15, if_neg (show ¬ (128 : Int32) ≤ nI i from nI_ge (b := 128) (by omega) (by omega)), if_neg (nI_nle (by omega) (by omega)), e13, c_size hs0, b_s, up_s, e6, show (9 : Int32) = nI 9 from rfl, k1', b_s, up_s, e13', k2, b_s, l_v, l_v, nI_1, nI_1, g1, show a + 1 + L = a + (L + 1) by omega]
    · rw [BX6_flushes_15, m_queue_12, b_s, in_nI (by omega) (by omega), g_t, nI_clamp (by omega), row_rd, show v (160 + 16 * (3 * p + r) + 12) = nI (L + 1) from e12, if_neg (nI_nle (by omega) (by omega)), show (0 : Int32) = nI 0 from rfl, k3, b_s, show (9 : Int32) = nI 9 from rfl, k4, b_s, k5, b_s, l_v, nI_1, g2, show a + 1 + L = a + (L + 1) by omega]
theorem S_flush {τ : xD} {v : xV} {b C P p : Nat} (h : RW τ v b C P) (hp : p < P) : ∃ r τ' v', (∀ σ d, fX0_discardAll d d p (va_up σ d τ) = some (r, va_up σ d τ')) ∧ (∀ σ, fX6_flushes (nI p) (x_row σ 5 31 0 0 v) = some (r, x_row σ 5 31 0 0 v')) ∧ RW τ' v' b C P := by
  have h6 := h.1.1.2.2.2.2.2.1
  have hb : ∀ {τ v} {q : Nat}, RW τ v b C P → q < 18 → Ln v q ≤ 128 := fun h hq => ((MX_of h.1.2.2.2.2.2.2.2.2.2.2.1).1 _ hq).2
  have l0 := hb (q := 3 * p + 0) h (by omega)
  obtain ⟨t1, v1, a1, a2, a3⟩ := flush_q (r := 0) (a5 := 0) hp (by omega) _ 0 0 x_FU x_FU τ v h rfl (by omega) (by unfold x_FU; omega) (by unfold x_FU; omega)
  have l1 := hb (q := 3 * p + 1) a3 (by omega)
  obtain ⟨t2, v2, b1, b2, b3⟩ := flush_q (r := 1) (a5 := 1) hp (by omega) _ 0 (0 + Ln v (3 * p + 0)) x_FU x_FU t1 v1 a3 rfl (by omega) (by unfold x_FU; omega) (by unfold x_FU; omega)
  have l2 := hb (q := 3 * p + 2) b3 (by omega)
  obtain ⟨t3, v3, c1, c2, c3⟩ := flush_q (r := 2) (a5 := 2) hp (by omega) _ 0 (0 + Ln v (3 * p + 0) + Ln v1 (3 * p + 1)) x_FU x_FU t2 v2 b3 rfl (by omega) (by unfold x_FU; omega) (by unfold x_FU; omega)
  refine ⟨nI (0 + Ln v (3 * p + 0) + Ln v1 (3 * p + 1) + Ln v2 (3 * p + 2)), t3, v3, fun σ d => ?_, fun σ => ?_, c3⟩
  · show BX0_discardAll_14 d d p d p 3 (199999 + 1) 0 0 (va_up σ d τ) = _
    rw [BX0_discardAll_14, if_neg (by decide), show x_in 0 3 = true from rfl, g_t]
    show BX0_discardAll_30 d d p d p 3 0 d p 0 _ x_FU (nI 0) (nI 0) (va_up σ d τ) = _
    rw [a1]
    show BX0_discardAll_14 d d p d p 3 (199998 + 1) _ 1 (va_up σ d t1) = _
    rw [BX0_discardAll_14, if_neg (by decide), show x_in 1 3 = true from rfl, g_t]
    show BX0_discardAll_30 d d p d p 3 1 d p 1 _ x_FU _ (nI 0) (va_up σ d t1) = _
    rw [b1]
    show BX0_discardAll_14 d d p d p 3 (199997 + 1) _ 2 (va_up σ d t2) = _
    rw [BX0_discardAll_14, if_neg (by decide), show x_in 2 3 = true from rfl, g_t]
    show BX0_discardAll_30 d d p d p 3 2 d p 2 _ x_FU _ (nI 0) (va_up σ d t2) = _
    rw [c1]
    show BX0_discardAll_14 d d p d p 3 (199996 + 1) _ 3 (va_up σ d t3) = _
    rw [BX0_discardAll_14, if_pos (by decide)]
  · have e3 : (3 : Int32) * nI p + 3 = nI (3 * p + 3) := q3 p 3
    have st : ∀ i, i < 3 → ¬ nI (3 * p + 3) ≤ nI (3 * p + i) := fun i hi => nI_ge (by omega) (by omega)
    rw [fX6_flushes, q30, l_v]
    show BX6_flushes_6 (nI p) (199999 + 1) 0 (nI (3 * p + 0)) _ = _
    rw [BX6_flushes_6, e3, if_neg (st 0 (by omega))]
    show BX6_flushes_15 (nI p) (nI (3 * p + 0)) _ x_FU (nI 0) _ = _
    rw [a2]
    show BX6_flushes_6 (nI p) (199998 + 1) _ (nI (3 * p + 1)) _ = _
    rw [BX6_flushes_6, e3, if_neg (st 1 (by omega)), b2]
    show BX6_flushes_6 (nI p) (199997 + 1) _ (nI (3 * p + 2)) _ = _
    rw [BX6_flushes_6, e3, if_neg (st 2 (by omega)), c2]
    show BX6_flushes_6 (nI p) (199996 + 1) _ (nI (3 * p + 3)) _ = _
    rw [BX6_flushes_6, e3, if_pos (nI_le (Nat.le_refl _) (by omega))]
theorem xp13 : xP13 Inv := by
  intro n σ a1 hI hn
  obtain ⟨C, P, hW⟩ := RW_of hI hn
  obtain ⟨hP5, hP0, h1, h6⟩ := w_P hW
  rcases ix_cases a1 h6 with ⟨p, hp, rfl⟩ | ha
  · obtain ⟨r, τ', v', kc, km, kW⟩ := S_flush hW hp
    refine close2 (τ' := τ') (v' := v') (r := r) (fc := fX5_flush (nI p)) (fm := fX6_flush (nI p)) hI hn ?_ ?_ (RW_RR (RW_mono (by omega) (by omega) kW)) kW.2.2.2
    · have kc' := kc σ 0
      rw [up_id] at kc' ⊢
      rw [fX5_flush, c_portAt_t hP0 h6 hp, b_s]
      show x_g (ok2 (0, p)) (x_b (fX0_discardAll 0 0 p σ) _) = _
      rw [ok2_t (by decide) (by omega), g_t, kc', b_s]
    · rw [fX6_flush, m_isPort_t (v_P hW.1 _) h6 hp, b_s, if_neg (by decide), km, b_s]
  · refine ⟨-1, σ, σ, ?_, ?_, Inv_mono n σ hI⟩
    · rw [fX5_flush, c_portAt_f hP0 ha, b_s]
    · rw [fX6_flush, m_isPort_f hP5 h1 h6 ha, b_s, if_pos rfl]
