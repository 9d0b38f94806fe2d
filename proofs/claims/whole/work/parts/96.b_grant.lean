theorem xp10 : xP10 Inv := by
  intro n σ a1 hI hn
  obtain ⟨C, P, hW⟩ := RW_of hI hn
  obtain ⟨hP5, hP0, h1, h6⟩ := w_P hW
  rcases ix_cases a1 h6 with ⟨p, hp, rfl⟩ | ha
  · have e4 : σ 0 13 p 0 4 = vv σ (ip p 2) := hW.1.2.2.1 p 4 2 (by omega) rfl
    have gz := gr_zero hW.2.1 (show p < 6 by omega)
    by_cases h3 : vv σ (ip p 3) = 0
    · refine ⟨-5, σ, σ, ?_, ?_, Inv_mono n σ hI⟩
      · rw [fX5_withdraw, c_portAt_t hP0 h6 hp, b_s]
        show x_g (ok2 (0, p)) (if σ 0 13 p 0 4 = 0 then _ else _) = _
        rw [ok2_t (by decide) (by omega), g_t, e4, if_pos (gz.mp h3)]
      · rw [fX6_withdraw, m_isPort_t hP5 h6 hp, b_s, if_neg (by decide), m_port_3, b_s, in_nI (by omega) (by omega), g_t, nI_clamp (by omega), if_pos h3]
    · obtain ⟨τ', v', kc, km, kW, -⟩ := S_end hW (by omega) hp h3
      refine close2 (τ' := τ') (v' := v') (r := vv σ (ip p 2)) hI hn ?_ ?_ (RW_RR (RW_mono (by omega) (by omega) kW)) kW.2.2.2
      · have kc' := kc σ 0
        rw [up_id] at kc' ⊢
        rw [fX5_withdraw, c_portAt_t hP0 h6 hp, b_s]
        show x_g (ok2 (0, p)) (if σ 0 13 p 0 4 = 0 then _ else x_let (σ 0 13 p 0 4) fun t2 => x_b (fX0_endGrant 0 0 p (nI p) σ) fun z3 s3 => some (t2, s3)) = _
        rw [ok2_t (by decide) (by omega), g_t, e4, if_neg (fun q => h3 (gz.mpr q)), l_v, kc', b_s]
      · rw [fX6_withdraw, m_isPort_t (v_P hW.1 _) h6 hp, b_s, if_neg (by decide), m_port_3, b_s, in_nI (by omega) (by omega), g_t, nI_clamp (by omega), row_rd, if_neg h3, m_port_2, b_s, in_nI (by omega) (by omega), g_t, nI_clamp (by omega), row_rd, l_v, km, b_s]
  · refine ⟨-1, σ, σ, ?_, ?_, Inv_mono n σ hI⟩
    · rw [fX5_withdraw, c_portAt_f hP0 ha, b_s]
    · rw [fX6_withdraw, m_isPort_f hP5 h1 h6 ha, b_s, if_pos rfl]
theorem rowK_id (σ : xS) (K : Nat) : x_row σ 5 K 0 0 (σ 5 K 0 0) = σ := by
  unfold x_row
  simp only [up_id]
theorem rowK_rd (σ : xS) (K : Nat) (f : Nat → Int32) : x_row σ 5 K 0 0 f 5 K 0 0 = f := x_row_same σ 5 K 0 0 f
theorem m_keeps_loop {σ : xS} {v : xV} : ∀ (n i : Nat) (w : xV), i ≤ 6464 → 6464 < n + i → (∀ j, j < i → w j = v j) → ∃ w', (∀ j, j < 6464 → w' j = v j) ∧ BX6_keeps_2 n (nI i) (x_row (x_row σ 5 32 0 0 w) 5 31 0 0 v) = some ((), x_row (x_row σ 5 32 0 0 w') 5 31 0 0 v) := by
  intro n
  induction n with
  | zero => intro i w h1 h2; omega
  | succ n ih =>
    intro i w h1 h2 h3
    rw [BX6_keeps_2]
    by_cases e : i < 6464
    · rw [if_neg (show ¬ (6464 : Int32) ≤ nI i from nI_ge (b := 6464) e (by omega)), in_nI e (by omega), g_t, g_t, nI_clamp (by omega), row_rd, ← row_row _ _ _ _ (by decide), rowK_set, row_row _ _ _ _ (by decide), l_v, l_v, nI_1]
      refine ih (i + 1) _ (by omega) (by omega) (fun j hj => ?_)
      by_cases q : j = i
      · subst q; rw [up_s]
      · rw [up_n _ _ q]; exact h3 j (by omega)
    · rw [if_pos (show (6464 : Int32) ≤ nI i from nI_le (a := 6464) (by omega) (by omega))]
      exact ⟨w, fun j hj => h3 j (by omega), rfl⟩
theorem m_keeps (σ : xS) (v : xV) : ∃ w, (∀ j, j < 6464 → w j = v j) ∧ fX6_keeps (x_row σ 5 31 0 0 v) = some ((), x_row (x_row σ 5 32 0 0 w) 5 31 0 0 v) := by
  have h := m_keeps_loop (σ := σ) (v := v) x_FU 0 (σ 5 32 0 0) (by omega) (by unfold x_FU; omega) (fun j hj => by omega)
  rw [rowK_id] at h
  exact h
theorem m_brings_loop {σ : xS} {w : xV} (hw : σ 5 32 0 0 = w) : ∀ (n i : Nat) (u : xV), i ≤ 6464 → 6464 < n + i → BX6_brings_2 n (nI i) (x_row σ 5 31 0 0 u) = some ((), x_row σ 5 31 0 0 (fun j => if i ≤ j ∧ j < 6464 then w j else u j)) := by
  intro n
  induction n with
  | zero => intro i u h1 h2; omega
  | succ n ih =>
    intro i u h1 h2
    rw [BX6_brings_2]
    by_cases e : i < 6464
    · rw [if_neg (show ¬ (6464 : Int32) ≤ nI i from nI_ge (b := 6464) e (by omega)), in_nI e (by omega), g_t, g_t, nI_clamp (by omega), rowK_31 _ _ _ (by decide), row_set, hw, l_v, l_v, nI_1, ih (i + 1) _ (by omega) (by omega)]
      have : (fun j => if i + 1 ≤ j ∧ j < 6464 then w j else va_up u i (w i) j) = (fun j => if i ≤ j ∧ j < 6464 then w j else u j) := by
        funext j
        by_cases q : j = i
        · subst q
          rw [if_neg (by omega), up_s, if_pos (by omega)]
        · rw [up_n _ _ q]
          by_cases q2 : i + 1 ≤ j ∧ j < 6464
          · rw [if_pos q2, if_pos (by omega)]
          · rw [if_neg q2, if_neg (by omega)]
      rw [this]
    · have ei : i = 6464 := by omega
      subst ei
      rw [if_pos (show (6464 : Int32) ≤ nI 6464 from nI_le (a := 6464) (by omega) (by omega))]
      have : (fun j => if 6464 ≤ j ∧ j < 6464 then w j else u j) = u := by
        funext j
        rw [if_neg (by omega)]
      rw [this]
theorem m_brings {σ : xS} {u v : xV} (hw : ∀ j, j < 6464 → σ 5 32 0 0 j = v j) (hu : ∀ j, 6464 ≤ j → u j = v j) : fX6_brings (x_row σ 5 31 0 0 u) = some ((), x_row σ 5 31 0 0 v) := by
  have h := m_brings_loop (σ := σ) rfl x_FU 0 u (by omega) (by unfold x_FU; omega)
  rw [fX6_brings]
  have e : (fun j => if 0 ≤ j ∧ j < 6464 then σ 5 32 0 0 j else u j) = v := by
    funext j
    by_cases q : j < 6464
    · rw [if_pos (by omega)]; exact hw j q
    · rw [if_neg (by omega)]; exact hu j (by omega)
  rw [e] at h
  exact h
theorem ds_id {τ : xD} {K p r k : Nat} {x : Int32} (h : x = τ K p r k) : dset τ K p r k x = τ := by
  funext K' p' r' k'
  rw [dset_rd]
  by_cases q : K' = K ∧ p' = p ∧ r' = r ∧ k' = k
  · obtain ⟨rfl, rfl, rfl, rfl⟩ := q
    rw [if_pos ⟨rfl, rfl, rfl, rfl⟩, h]
  · rw [if_neg q]
theorem S_give0 {τ : xD} {v : xV} {b C P p : Nat} {x t10 t3 y6 y7 : Int32} (hW : RW τ v b C P) (hb : b + 1 < 2 ^ 31) (hp : p < P) (hx : 1 ≤ x ∧ x ≤ 32) (h10 : 0 ≤ t10 ∧ t10 ≤ nI (b + 1)) (hfit : x - v (ip p 2) ≤ mFree v P) (hg : ∀ τ' v', τ' 0 0 0 6 = y6 → τ' 0 0 0 7 = y7 → (∀ p' f, p' < 6 → f < 24 → v' (ip p' f) = va_up (va_up (va_up v 10 t10) (ip p 3) t3) (ip p 2) x (ip p' f)) → v' 10 = t10 → gr τ' v' P) : ∃ τ' v', (∀ σ d, fX2_shareBeyondGuarantee d p (va_up σ d (dset (dset (dset τ 0 0 0 6 y6) 0 0 0 7 y7) 13 p 0 4 x)) = some ((), va_up σ d τ')) ∧ (∀ σ, fX6_converts (nI p) (x_row σ 5 31 0 0 (va_up (va_up (va_up v 10 t10) (ip p 3) t3) (ip p 2) x)) = some ((), x_row σ 5 31 0 0 v')) ∧ RW τ' v' (b + 1) C P ∧ ∀ i, 6464 ≤ i → v' i = v i := by
  obtain ⟨hR, hgr, hS, hpr⟩ := hW
  have h6 := hR.1.2.2.2.2.2.1
  have hp6 : p < 6 := by omega
  obtain ⟨w0, w1, w2, -⟩ := hR.2.2.2.2.2.2.1 p hp6
  have x0 := (hR.2.2.2.2.2.2.2.1 (3 * p) (by omega)).2.2.2.2.2.2.1
  have x1 := (hR.2.2.2.2.2.2.2.1 (3 * p + 1) (by omega)).2.2.2.2.2.2.1
  have x2 := (hR.2.2.2.2.2.2.2.1 (3 * p + 2) (by omega)).2.2.2.2.2.2.1
  obtain ⟨v1, hv1⟩ : ∃ v1, v1 = va_up (va_up (va_up v 10 t10) (ip p 3) t3) (ip p 2) x := ⟨_, rfl⟩
  rw [← hv1] at hg ⊢
  have nv : ∀ i, i ≠ 10 → i ≠ 16 + 24 * p + 2 → i ≠ 16 + 24 * p + 3 → v1 i = v i := fun i g0 g1 g2 => by rw [hv1, up_n _ _ g1, up_n _ _ g2, up_n _ _ g0]
  have n2 : v1 (ip p 2) = x := by rw [hv1, up_s]
  have n10 : v1 10 = t10 := by rw [hv1, up_n _ _ (by show 10 ≠ 16 + 24 * p + 2; omega), up_n _ _ (by show 10 ≠ 16 + 24 * p + 3; omega), up_s]
  have nP : ∀ p' f, f < 24 → (p' ≠ p ∨ (f ≠ 2 ∧ f ≠ 3)) → v1 (ip p' f) = v (ip p' f) := fun p' f g1 g2 => nv _ (by show 16 + 24 * p' + f ≠ 10; omega) (by show 16 + 24 * p' + f ≠ _; omega) (by show 16 + 24 * p' + f ≠ _; omega)
  have cf0 := cfP_set (p := p) (x := x) (show pm 4 = some 2 from rfl) hR.2.2.1
  have cf : cfP (dset (dset (dset τ 0 0 0 6 y6) 0 0 0 7 y7) 13 p 0 4 x) v1 := cfP_c (τ := dset τ 13 p 0 4 x) (fun p' k => by
      by_cases e : p' = p ∧ k = 4
      · obtain ⟨rfl, rfl⟩ := e
        rw [ds_s, ds_s]
      · rw [ds_n (by omega), ds_n (by omega), ds_n (by omega), ds_n (by omega)]) (fun p' f g1 g2 g3 => by
      by_cases e : p' = p ∧ f = 2
      · obtain ⟨rfl, rfl⟩ := e
        rw [n2, up_s]
      · rw [nP p' f (by omega) (by omega), up_n _ _ (by show 16 + 24 * p' + f ≠ 16 + 24 * p + 2; omega)]) cf0
  have wp : wfP v1 := by
    intro p' g1
    have w := hR.2.2.2.2.2.2.1 p' g1
    rw [nP p' 0 (by omega) (by omega), nP p' 1 (by omega) (by omega), nP p' 4 (by omega) (by omega), nP p' 5 (by omega) (by omega), nP p' 6 (by omega) (by omega), nP p' 7 (by omega) (by omega), nP p' 8 (by omega) (by omega)]
    refine ⟨w.1, w.2.1, ?_, w.2.2.2⟩
    by_cases e : p' = p
    · subst e; rw [n2]; exact ⟨by grind, hx.2⟩
    · rw [nP p' 2 (by omega) (by omega)]; exact w.2.2.1
  have hR1 : R1 (dset (dset (dset τ 0 0 0 6 y6) 0 0 0 7 y7) 13 p 0 4 x) v1 (b + 1) C P := R1_port hR hp (fun K p' r k g1 g2 => (ds_n (by omega)).trans ((ds_n (by omega)).trans (ds_n (by omega)))) (fun i g1 g2 => nv i g1 (by omega) (by omega)) cf wp (by omega) hb (by rw [n10]; exact h10)
  have es3 : ∀ p' f, s3 v1 p' f = s3 v p' f := fun p' f => by
    simp only [s3]
    rw [nv (iq (3 * p') f) (by show 160 + 16 * (3 * p') + f ≠ _; omega) (by show 160 + 16 * (3 * p') + f ≠ _; omega) (by show 160 + 16 * (3 * p') + f ≠ _; omega), nv (iq (3 * p' + 1) f) (by show 160 + 16 * (3 * p' + 1) + f ≠ _; omega) (by show 160 + 16 * (3 * p' + 1) + f ≠ _; omega) (by show 160 + 16 * (3 * p' + 1) + f ≠ _; omega), nv (iq (3 * p' + 2) f) (by show 160 + 16 * (3 * p' + 2) + f ≠ _; omega) (by show 160 + 16 * (3 * p' + 2) + f ≠ _; omega) (by show 160 + 16 * (3 * p' + 2) + f ≠ _; omega)]
  have emf := mFree_up (v := v) (v' := v1) hp (nv 0 (by omega) (by omega) (by omega)) (fun p' f g1 g2 g3 => nP p' f (by omega) (by omega)) (fun p' r g1 g2 g3 => nv _ (by show 160 + 16 * (3 * p' + r) + 7 ≠ _; omega) (by show 160 + 16 * (3 * p' + r) + 7 ≠ _; omega) (by show 160 + 16 * (3 * p' + r) + 7 ≠ _; omega))
  rw [nP p 0 (by omega) (by omega), nP p 1 (by omega) (by omega), n2, es3] at emf
  have emf1 : mFree v1 P = mFree v P + v (ip p 2) - x := by rw [emf]; grind
  have hs := (hS.1 p hp6).1
  have hfr := hS.2
  have hO : wfO v1 P p := by
    refine ⟨fun p' g1 => ?_, ?_, ?_, mFree_le hR1.1 wp hR1.2.2.2.2.2.2.2.1⟩
    · rw [es3, es3, nP p' 1 (by omega) (by omega), nP p' 0 (by omega) (by omega)]
      refine ⟨fun e => ?_, (hS.1 p' g1).2⟩
      rw [nP p' 2 (by omega) (by omega)]
      exact (hS.1 p' g1).1
    · rw [emf1]
      unfold rg at *
      grind
    · rw [emf1, ov, es3, n2, nP p 0 (by omega) (by omega)]
      have : mFree v P + v (ip p 2) - x - (s3 v p 6 - (v (ip p 0) + x)) = mFree v P + (v (ip p 0) + v (ip p 2) - s3 v p 6) := by grind
      rw [this]
      unfold rg at *
      simp only [s3] at hs ⊢
      grind
  obtain ⟨τ', v', kc, km, kR, kS, ⟨kF1, kF2⟩, kmf⟩ := S_conv hp hR1 hO
  refine ⟨τ', v', kc, km, ⟨kR, hg τ' v' ?_ ?_ (fun p' f g1 g2 => kF2 _ (Or.inl (by show 16 + 24 * p' + f < 160; omega))) ((kF2 10 (by omega)).trans n10), kS, fun p' r' g1 g2 => ?_⟩, fun i hi => (kF2 i (by omega)).trans (nv i (by omega) (by omega) (by omega))⟩
  · rw [kF1 _ _ _ _ (by omega), ds_n (by omega), ds_n (by omega), ds_s]
  · rw [kF1 _ _ _ _ (by omega), ds_n (by omega), ds_s]
  · rw [kF1 _ _ _ _ (by omega), ds_n (by omega), ds_n (by omega), ds_n (by omega)]
    exact hpr p' r' g1 g2
/-- a grant is given -/
theorem S_give {τ : xD} {v : xV} {b C P p : Nat} {x : Int32} (hW : RW τ v b C P) (hb : b + 1 < 2 ^ 31) (hp : p < P) (hx : 1 ≤ x ∧ x ≤ 32) (hfit : x - v (ip p 2) ≤ mFree v P) (h7 : v (ip p 3) = 0 → τ 0 0 0 7 = -1) : ∃ τ' v', (∀ σ d a4, BX0_giveGrant_97 d d p (nI p) x a4 none (va_up σ d τ) = some (-5, va_up σ d τ')) ∧ (∀ σ d a4 a, d < 4 → a < 6 → BX0_giveGrant_97 d d p (nI p) x a4 (some (d, a)) (va_up σ d τ) = some (a4, va_up σ d τ')) ∧ (∀ σ a3, BX6_grant_179 (nI p) x a3 (x_row σ 5 31 0 0 v) = some (a3, x_row σ 5 31 0 0 v')) ∧ RW τ' v' (b + 1) C P ∧ ∀ i, 6464 ≤ i → v' i = v i := by
  have hR := hW.1
  have hgr := hW.2.1
  have h6 := hR.1.2.2.2.2.2.1
  have hp6 : p < 6 := by omega
  have gz := gr_zero hgr hp6
  have e4 : τ 13 p 0 4 = v (ip p 2) := hR.2.2.1 p 4 2 hp6 rfl
  have hb10 := hR.2.2.2.2.2.2.2.2.2.2.2.2.2.2
  have hl : nI b + 1 = nI (b + 1) := nI_1 b
  have hl2 : nI b ≤ nI (b + 1) := nI_le (by omega) hb
  by_cases h3 : v (ip p 3) = 0
  · -- a new one
    have t7 := h7 h3
    have hlt : v 10 < v 10 + 1 := by
      have : nI b < nI (b + 1) := nI_lt (by omega) hb
      grind
    have hpos : 0 ≤ v 10 + 1 ∧ v 10 + 1 ≤ nI (b + 1) := by
      have : nI b < nI (b + 1) := nI_lt (by omega) hb
      grind
    obtain ⟨v1, hv1⟩ : ∃ v1, v1 = va_up (va_up (va_up v 10 (v 10 + 1)) (ip p 3) (v 10 + 1)) (ip p 2) x := ⟨_, rfl⟩
    have n2 : v1 (ip p 2) = x := by rw [hv1, up_s]
    have n3 : v1 (ip p 3) = v 10 + 1 := by rw [hv1, up_n _ _ (by show 16 + 24 * p + 3 ≠ 16 + 24 * p + 2; omega), up_s]
    have nP : ∀ p' f, f < 24 → (p' ≠ p ∨ (f ≠ 2 ∧ f ≠ 3)) → v1 (ip p' f) = v (ip p' f) := fun p' f g1 g2 => by rw [hv1, up_n _ _ (by show 16 + 24 * p' + f ≠ 16 + 24 * p + 2; omega), up_n _ _ (by show 16 + 24 * p' + f ≠ 16 + 24 * p + 3; omega), up_n _ _ (by show 16 + 24 * p' + f ≠ 10; omega)]
    have gfst : ∀ v' : xV, (∀ p' f, p' < 6 → f < 24 → v' (ip p' f) = v1 (ip p' f)) → v' 10 = v 10 + 1 → ∀ q, q < 6 → 0 ≤ v' (ip q 3) ∧ v' (ip q 3) ≤ v' 10 ∧ (v' (ip q 3) = 0 ↔ v' (ip q 2) = 0) := by
      intro v' g1 g2 q hq
      rw [g1 q 3 hq (by omega), g1 q 2 hq (by omega), g2]
      by_cases e : q = p
      · subst e
        rw [n3, n2]
        refine ⟨hpos.1, by grind, ?_⟩
        constructor
        · intro e; grind
        · intro e; grind
      · rw [nP q 3 (by omega) (Or.inl e), nP q 2 (by omega) (Or.inl e)]
        have := hgr.1 q hq
        exact ⟨this.1, by grind, this.2.2⟩
    have hmodel : ∀ v' : xV, (∀ σ, fX6_converts (nI p) (x_row σ 5 31 0 0 v1) = some ((), x_row σ 5 31 0 0 v')) → ∀ σ a3, BX6_grant_179 (nI p) x a3 (x_row σ 5 31 0 0 v) = some (a3, x_row σ 5 31 0 0 v') := by
      intro v' km σ a3
      rw [BX6_grant_179, m_port_3, b_s, in_nI (by omega) (by omega), g_t, nI_clamp (by omega), row_rd, if_pos h3, row_set, l_v, m_port_3, b_s, in_nI (by omega) (by omega), g_t, nI_clamp (by omega), row_rd, up_s, row_set, l_v, m_port_2, b_s, in_nI (by omega) (by omega), g_t, nI_clamp (by omega), row_set, l_v]
      have := km σ
      rw [hv1] at this
      rw [this, b_s]
    rcases hgr.2 with ⟨a1, a2, a3⟩ | ⟨a, a0, a1, a2, a3, a4⟩ | ⟨a, b', a0, b0, ab, a1, a2, a3, a4, a5⟩
    · obtain ⟨τ', v', kc, km, kW, kb⟩ := S_give0 (t10 := v 10 + 1) (t3 := v 10 + 1) (y6 := nI p) (y7 := -1) hW hb hp hx hpos hfit (fun τ' v' g6 g7 gP g10 => by
        rw [← hv1] at gP
        refine ⟨gfst v' gP g10, Or.inr (Or.inl ⟨p, hp, g6, g7, ?_, fun q hq e => ?_⟩)⟩
        · rw [gP p 3 hp6 (by omega), n3]; grind
        · rw [gP q 3 hq (by omega), nP q 3 (by omega) (Or.inl e)]; exact a3 q hq)
      rw [← hv1] at km
      have ed : dset (dset τ 0 0 0 6 (nI p)) 0 0 0 7 (-1) = dset τ 0 0 0 6 (nI p) := ds_id (by rw [ds_n (by omega), t7])
      rw [ed] at kc
      have hcl : ∀ σ d, x_b (fX0_rememberGrant d (nI p) (va_up σ d τ)) (fun (_ : Unit) s5 => x_let (x_set s5 d 13 p 0 4 x) fun s6 => x_b (fX2_shareBeyondGuarantee d p s6) fun _ s7 => some ((), s7)) = some ((), va_up σ d τ') := fun σ d => by
        rw [fX0_rememberGrant, up_s, if_pos a1, set_own, l_v, b_s, set_own, l_v, kc, b_s]
      refine ⟨τ', v', fun σ d a4 => ?_, fun σ d a4 a hd ha => ?_, hmodel v' km, kW, kb⟩
      · rw [BX0_giveGrant_97.eq_def]
        show (if va_up σ d τ d 13 p 0 4 = 0 then _ else _) = _
        rw [up_s, e4, if_pos (gz.mp h3), fX0_rememberGrant, up_s, if_pos a1, set_own, l_v, b_s, set_own, l_v, kc, b_s]
      · rw [BX0_giveGrant_97.eq_def]
        show x_g (ok2 (d, a)) (if va_up σ d τ d 13 p 0 4 = 0 then _ else _) = _
        rw [ok2_t hd ha, g_t, up_s, e4, if_pos (gz.mp h3), fX0_rememberGrant, up_s, if_pos a1, set_own, l_v, b_s, set_own, l_v, kc, b_s]
    · have hap : a ≠ p := fun e => by rw [e, h3] at a3; exact absurd a3 (by decide)
      have hne : ¬ τ 0 0 0 6 = -1 := by rw [a1]; exact nI_nm1 (by omega)
      obtain ⟨τ', v', kc, km, kW, kb⟩ := S_give0 (t10 := v 10 + 1) (t3 := v 10 + 1) (y6 := nI a) (y7 := nI p) hW hb hp hx hpos hfit (fun τ' v' g6 g7 gP g10 => by
        rw [← hv1] at gP
        refine ⟨gfst v' gP g10, Or.inr (Or.inr ⟨a, p, a0, hp, hap, g6, g7, ?_, ?_, fun q hq e1 e2 => ?_⟩)⟩
        · rw [gP a 3 (by omega) (by omega), nP a 3 (by omega) (Or.inl hap)]; exact a3
        · rw [gP a 3 (by omega) (by omega), nP a 3 (by omega) (Or.inl hap), gP p 3 hp6 (by omega), n3]
          have := (hgr.1 a (by omega)).2.1
          grind
        · rw [gP q 3 hq (by omega), nP q 3 (by omega) (Or.inl e2)]; exact a4 q hq e1)
      rw [← hv1] at km
      have ed : dset τ 0 0 0 6 (nI a) = τ := ds_id a1.symm
      rw [ed] at kc
      refine ⟨τ', v', fun σ d a4 => ?_, fun σ d a4 a hd ha => ?_, hmodel v' km, kW, kb⟩
      · rw [BX0_giveGrant_97.eq_def]
        show (if va_up σ d τ d 13 p 0 4 = 0 then _ else _) = _
        rw [up_s, e4, if_pos (gz.mp h3), fX0_rememberGrant, up_s, if_neg hne, set_own, l_v, b_s, set_own, l_v, kc, b_s]
      · rw [BX0_giveGrant_97.eq_def]
        show x_g (ok2 (d, a)) (if va_up σ d τ d 13 p 0 4 = 0 then _ else _) = _
        rw [ok2_t hd ha, g_t, up_s, e4, if_pos (gz.mp h3), fX0_rememberGrant, up_s, if_neg hne, set_own, l_v, b_s, set_own, l_v, kc, b_s]
    · rw [a2] at t7
      exact absurd t7 (nI_nm1 (by omega))
  · -- one that stands
    have e10 : va_up v 10 (v 10) = v := up_id _ _
    have e3 : va_up v (ip p 3) (v (ip p 3)) = v := up_id _ _
    have nP : ∀ p' f, f < 24 → (p' ≠ p ∨ f ≠ 2) → va_up v (ip p 2) x (ip p' f) = v (ip p' f) := fun p' f g1 g2 => up_n _ _ (by show 16 + 24 * p' + f ≠ 16 + 24 * p + 2; omega)
    obtain ⟨τ', v', kc, km, kW, kb⟩ := S_give0 (t10 := v 10) (t3 := v (ip p 3)) (y6 := τ 0 0 0 6) (y7 := τ 0 0 0 7) hW hb hp hx ⟨hb10.1, by grind⟩ hfit (fun τ' v' g6 g7 gP g10 => by
      rw [e10, e3] at gP
      have s3' : ∀ q, q < 6 → v' (ip q 3) = v (ip q 3) := fun q hq => (gP q 3 hq (by omega)).trans (nP q 3 (by omega) (by omega))
      refine ⟨fun q hq => ?_, ?_⟩
      · rw [s3' q hq, g10]
        refine ⟨(hgr.1 q hq).1, (hgr.1 q hq).2.1, ?_⟩
        rw [gP q 2 hq (by omega)]
        by_cases e : q = p
        · subst e
          rw [up_s]
          constructor
          · intro e; exact absurd e h3
          · intro e; grind
        · rw [nP q 2 (by omega) (Or.inl e)]
          exact (hgr.1 q hq).2.2
      · rw [g6, g7]
        rcases hgr.2 with ⟨a1, a2, a3⟩ | ⟨a, a0, a1, a2, a3, a4⟩ | ⟨a, b', a0, b0, ab, a1, a2, a3, a4, a5⟩
        · exact Or.inl ⟨a1, a2, fun q hq => by rw [s3' q hq]; exact a3 q hq⟩
        · exact Or.inr (Or.inl ⟨a, a0, a1, a2, by rw [s3' a (by omega)]; exact a3, fun q hq e => by rw [s3' q hq]; exact a4 q hq e⟩)
        · exact Or.inr (Or.inr ⟨a, b', a0, b0, ab, a1, a2, by rw [s3' a (by omega)]; exact a3, by rw [s3' a (by omega), s3' b' (by omega)]; exact a4, fun q hq e e2 => by rw [s3' q hq]; exact a5 q hq e e2⟩))
    rw [e10, e3] at km
    have ed : dset τ 0 0 0 6 (τ 0 0 0 6) = τ := ds_id rfl
    have ed7 : dset τ 0 0 0 7 (τ 0 0 0 7) = τ := ds_id rfl
    rw [ed, ed7] at kc
    have hn4 : ¬ v (ip p 2) = 0 := fun q => h3 (gz.mpr q)
    refine ⟨τ', v', fun σ d a4 => ?_, fun σ d a4 a hd ha => ?_, fun σ a3 => ?_, kW, kb⟩
    · rw [BX0_giveGrant_97.eq_def]
      show (if va_up σ d τ d 13 p 0 4 = 0 then _ else _) = _
      rw [up_s, e4, if_neg hn4, set_own, l_v, kc, b_s]
    · rw [BX0_giveGrant_97.eq_def]
      show x_g (ok2 (d, a)) (if va_up σ d τ d 13 p 0 4 = 0 then _ else _) = _
      rw [ok2_t hd ha, g_t, up_s, e4, if_neg hn4, set_own, l_v, kc, b_s]
    · rw [BX6_grant_179, m_port_3, b_s, in_nI (by omega) (by omega), g_t, nI_clamp (by omega), row_rd, if_neg h3, m_port_2, b_s, in_nI (by omega) (by omega), g_t, nI_clamp (by omega), row_set, l_v, km, b_s]
