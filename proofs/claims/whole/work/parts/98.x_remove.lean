/-! ===== victims are removed ===== -/
theorem le_c {w w1 : xV} {q : Nat} (hw : ∀ f, f = 6 ∨ f = 7 ∨ f = 8 → w1 (iq q f) = w (iq q f)) (x : Int32) : le6 w1 q x = le6 w q x ∧ le7 w1 q x = le7 w q x ∧ le8 w1 q x = le8 w q x := by
  unfold le6 le7 le8
  rw [hw 6 (by omega), hw 7 (by omega), hw 8 (by omega)]
  exact ⟨rfl, rfl, rfl⟩
theorem ls_c {w w1 : xV} {q : Nat} (hw : ∀ f, f = 6 ∨ f = 7 ∨ f = 8 → w1 (iq q f) = w (iq q f)) (x : Int32) : ∀ f, f = 6 ∨ f = 7 ∨ f = 8 → lsV w1 q x (iq q f) = lsV w q x (iq q f) := by
  obtain ⟨a, b, c⟩ := le_c hw x
  rintro f (rfl | rfl | rfl)
  · rw [ls_6, ls_6, a, hw 6 (by omega)]
  · rw [ls_7, ls_7, b, hw 7 (by omega)]
  · rw [ls_8, ls_8, c, hw 8 (by omega)]
theorem lch_c {v v1 w w1 : xV} {q m : Nat} (hw : ∀ f, f = 6 ∨ f = 7 ∨ f = 8 → w1 (iq q f) = w (iq q f)) (hs : ∀ i, i < m → v1 (ik (Sl v1 q i) 1) = v (ik (Sl v q i) 1)) : ∀ j, j ≤ m → ∀ f, f = 6 ∨ f = 7 ∨ f = 8 → lch v1 q m w1 j (iq q f) = lch v q m w j (iq q f)
  | 0, _ => hw
  | j + 1, hj => by
    have ih := lch_c hw hs j (by omega)
    intro f hf
    rw [lch, lch, hs (m - 1 - j) (by omega)]
    exact ls_c ih _ f hf
theorem lch_sh (v w : xV) (q m : Nat) : ∀ j, lch v q m (lsV w q (v (ik (Sl v q m) 1))) j = lch v q (m + 1) w (j + 1)
  | 0 => by rw [lch, lch, lch, Nat.add_sub_cancel, Nat.sub_zero]
  | j + 1 => by
    rw [lch, lch_sh v w q m j, show lch v q (m + 1) w (j + 1 + 1) = lsV (lch v q (m + 1) w (j + 1)) q (v (ik (Sl v q (m + 1 - 1 - (j + 1))) 1)) from rfl, show m + 1 - 1 - (j + 1) = m - 1 - j by omega]
/-- what is so behind j removals at queue r' of port p -/
def RmF (τ τ' : xD) (v v' : xV) (p r' j : Nat) : Prop :=
  (∀ i, i < 160 → i ≠ ip p 4 → i ≠ ip p 6 → i ≠ ip p 7 → i ≠ ip p 10 → i ≠ ip p 19 → v' i = v i) ∧
  (∀ q f, q < 18 → f < 16 → (q ≠ 3 * p + r' ∨ (f ≠ 5 ∧ f ≠ 6 ∧ f ≠ 7 ∧ f ≠ 8 ∧ f ≠ 12)) → v' (iq q f) = v (iq q f)) ∧
  (∀ f, f = 6 ∨ f = 7 ∨ f = 8 → v' (iq (3 * p + r') f) = lch v (3 * p + r') (Ln v (3 * p + r')) v j (iq (3 * p + r') f)) ∧
  (Ln v' (3 * p + r') = Ln v (3 * p + r') - j ∧ ∀ q, q < 18 → q ≠ 3 * p + r' → Ln v' q = Ln v q) ∧
  (∀ q i, q < 18 → i < Ln v' q → Sl v' q i = Sl v q i) ∧
  (∀ k f, k < 128 → f < 28 → f ≠ 3 → v' (ik k f) = v (ik k f)) ∧
  (∀ k, τ' 0 0 0 k = τ 0 0 0 k) ∧ (∀ i, 6464 ≤ i → v' i = v i)
theorem rem_q {b C P p r r' : Nat} {a2 a3 a4 : Int32} (hp : p < P) (hr : r < 3) (hr' : r' < 3) : ∀ (j i left n1 n2 : Nat) (τ : xD) (v : xV), RW τ v b C P → j ≤ Ln v (3 * p + r') → j ≤ left → (left = j ∨ Ln v (3 * p + r') = j) → i + j < 1000 → left < 1000 → j < n1 → j < n2 → ∃ τ' v', (∀ σ d k8, BX0_removeVictims_37 d d p a2 a3 a4 d p r' (nI (i + j)) k8 n1 (nI i) (va_up σ d τ) = k8 (a3 - nI (i + j)) (a4 + (-1)) (va_up σ d τ')) ∧ (∀ σ k13, BX6_removesVictims_17 (nI (3 * p + r)) (nI (3 * p + r')) k13 n2 (nI left) (x_row σ 5 31 0 0 v) = k13 (nI (left - j)) (nI (3 * p + r') + (-1)) (x_row σ 5 31 0 0 v')) ∧ RW τ' v' b C P ∧ RmF τ τ' v v' p r' j := by
  intro j
  induction j with
  | zero =>
    intro i left n1 n2 τ v h hj hjl hor hi hl h1 h2
    have h6 := h.1.1.2.2.2.2.2.1
    obtain ⟨n1, rfl⟩ : ∃ n, n1 = n + 1 := ⟨n1 - 1, by omega⟩
    obtain ⟨n2, rfl⟩ : ∃ n, n2 = n + 1 := ⟨n2 - 1, by omega⟩
    have l := len15 (RY_of h p) hp hr'
    refine ⟨τ, v, fun σ d k8 => ?_, fun σ k13 => ?_, h, fun _ _ _ _ _ _ _ => rfl, fun _ _ _ _ _ => rfl, fun _ _ => rfl, ⟨rfl, fun _ _ _ => rfl⟩, fun _ _ _ _ => rfl, fun _ _ _ _ _ => rfl, fun _ => rfl, fun _ _ => rfl⟩
    · rw [BX0_removeVictims_37, Nat.add_zero, if_pos (nI_le (Nat.le_refl _) (by omega)), l_v, l_v]
    · rw [BX6_removesVictims_17]
      by_cases z : nI left ≤ 0
      · rw [if_pos z, l_v]; rfl
      · have hl0 : left ≠ 0 := fun e => by rw [e] at z; exact z (by decide)
        have e12 : v (160 + 16 * (3 * p + r') + 12) = nI (Ln v (3 * p + r')) := l.2.1
        rw [if_neg z, m_queue_12, b_s, in_nI (by omega) (by omega), g_t, nI_clamp (by omega), row_rd, e12, show Ln v (3 * p + r') = 0 by omega, if_pos (by decide), l_v]
        rfl
  | succ j ih =>
    intro i left n1 n2 τ v h hj hjl hor hi hl h1 h2
    have h6 := h.1.1.2.2.2.2.2.1
    have hp6 : p < 6 := by omega
    obtain ⟨n1, rfl⟩ : ∃ n, n1 = n + 1 := ⟨n1 - 1, by omega⟩
    obtain ⟨n2, rfl⟩ : ∃ n, n2 = n + 1 := ⟨n2 - 1, by omega⟩
    have l := len15 (RY_of h p) hp hr'
    have hMX := MX_of h.1.2.2.2.2.2.2.2.2.2.2.1
    have hX := h.1.2.2.2.2.2.2.2.2.2.2.2.1
    have hC := h.1.1.2.2.1
    obtain ⟨L, hL⟩ : ∃ L, Ln v (3 * p + r') = L + 1 := ⟨Ln v (3 * p + r') - 1, by omega⟩
    have hsl := hMX.2.1 (3 * p + r') L (by omega) (by omega)
    have hkk := hMX.2.2.2.2.1 _ hsl.2.1 hsl.2.2
    have hF : Fs v (Sl v (3 * p + r') L) 0 < 128 := by
      have := hkk.2.2.2.2.2.2.1 0 (by omega)
      omega
    have e14 : τ 16 p r' 14 = nI (Fs v (Sl v (3 * p + r') L) 0) := by
      rw [(hX.1 p r' hp6 hr').2.1, if_neg (by omega), hL, Nat.add_sub_cancel, cellAt_in (by omega)]
    have e6 : τ 6 0 0 (Fs v (Sl v (3 * p + r') L) 0) = v (ik (Sl v (3 * p + r') L) 1) := (hX.2.1 _ hsl.2.1 hsl.2.2).2.1
    obtain ⟨τ1, v1, w, w2, k1, k2, k3, -, -, k4, k5, k6, k7⟩ := S_drop (c := 8) h hp hr' (j := L) (by omega) (by omega)
    generalize ex : v (ik (Sl v (3 * p + r') L) 1) = x at *
    obtain ⟨o1, o2, o3, o4, o5, o6, o7, o8, o9, o10⟩ := k7
    have nlo : ∀ m, 160 ≤ m → loV v p 8 x m = v m := fun m hm => lo_n (by omega) (by omega)
    have eL : ∀ q, Ln (loV v p 8 x) q = Ln v q := fun q => by unfold Ln; rw [nlo _ (by simp only [iq]; omega)]
    have eS : ∀ q i, Sl (loV v p 8 x) q i = Sl v q i := fun q i => by unfold Sl; rw [nlo _ (by simp only [ie]; omega)]
    have hL1 : Ln v1 (3 * p + r') = L := by rw [o4.1, eL, hL]; omega
    have hL1' : ∀ q, q < 18 → q ≠ 3 * p + r' → Ln v1 q = Ln v q := fun q a1 a2 => by rw [o4.2 q a1 a2, eL]
    have hSl : ∀ q i, q < 18 → i < Ln v1 q → Sl v1 q i = Sl v q i := fun q i a1 a2 => by
      by_cases e : q = 3 * p + r'
      · subst e
        rw [hL1] at a2
        rw [o5.1 i (by rw [eL, hL]; omega), eS, skp, if_pos a2]
      · rw [hL1' q a1 e] at a2
        have := (hMX.1 q a1).2
        rw [o5.2 q i a1 (by omega) e, eS]
    have hv6 : ∀ k f, k < 128 → f < 28 → f ≠ 3 → v1 (ik k f) = v (ik k f) := fun k f a1 a2 a3 => by rw [o6 k f a1 a2 a3, nlo _ (by simp only [ik]; omega)]
    obtain ⟨τ', v', g1, g2, g3, G1, G2, G3, G4, G5, G6, G7, G8⟩ := ih (i + 1) (left - 1) n1 n2 τ1 v1 k6 (by rw [hL1]; omega) (by omega) (by rw [hL1]; omega) (by omega) (by omega) (by omega) (by omega)
    refine ⟨τ', v', fun σ d k8 => ?_, fun σ k13 => ?_, g3, fun m a0 a1 a2 a3 a4 a5 => ?_, fun q f a1 a2 a3 => ?_, fun f hf => ?_, ⟨?_, fun q a1 a2 => ?_⟩, fun q m a1 a2 => ?_, fun k f a1 a2 a3 => ?_, fun k => ?_, fun m hm => ?_⟩
    · have e14' : lsT τ p 8 x 16 p r' 14 = nI (Fs v (Sl v (3 * p + r') L) 0) := by rw [lsT_n (by omega) (by omega), e14]
      have := g1 σ d k8
      rw [show i + 1 + j = i + (j + 1) by omega] at this
      rw [BX0_removeVictims_37, if_neg (nI_ge (by omega) (by omega)), up_s, e14, c_size hF, b_s, up_s, e6, show (8 : Int32) = nI 8 from rfl, k1, b_s, up_s, e14', k2, b_s, l_v, nI_1, this]
    · have e12 : v (160 + 16 * (3 * p + r') + 12) = nI (L + 1) := by rw [← hL]; exact l.2.1
      obtain ⟨left', rfl⟩ : ∃ x, left = x + 1 := ⟨left - 1, by omega⟩
      have := g2 σ k13
      rw [Nat.add_sub_cancel] at this
      rw [BX6_removesVictims_17, if_neg (nI_nle (by omega) (by omega)), m_queue_12, b_s, in_nI (by omega) (by omega), g_t, nI_clamp (by omega), row_rd, e12, if_neg (nI_nle (by omega) (by omega)), m_queue_12, b_s, in_nI (by omega) (by omega), g_t, nI_clamp (by omega), row_rd, e12, nI_pred, k3, b_s, k4, b_s, div3 (by omega), show (3 * p + r) / 3 = p by omega, show (8 : Int32) = nI 8 from rfl, k5, b_s, l_v, pk_m1, this, show left' + 1 - (j + 1) = left' - j by omega]
    · rw [G1 m a0 a1 a2 a3 a4 a5, o1 m a0 a1 a2 a3, lo_n a4 a5]
    · rw [G2 q f a1 a2 a3, o2 q f a1 a2 a3, nlo _ (by simp only [iq]; omega)]
    · rw [G3 f hf, hL1, hL, ← lch_sh]
      refine lch_c (fun f' hf' => ?_) (fun m hm => ?_) j (by omega) f hf
      · rw [ex]
        have hle := le_c (w := v) (w1 := loV v p 8 x) (q := 3 * p + r') (fun f'' _ => nlo _ (by simp only [iq]; omega)) x
        obtain ⟨p6, p7, p8⟩ := o3
        rw [eS, nlo (ik _ 1) (by simp only [ik]; omega), ex] at p6 p7 p8
        rcases hf' with rfl | rfl | rfl
        · rw [p6, ls_6, hle.1, nlo _ (by simp only [iq]; omega)]
        · rw [p7, ls_7, hle.2.1, nlo _ (by simp only [iq]; omega)]
        · rw [p8, ls_8, hle.2.2, nlo _ (by simp only [iq]; omega)]
      · have hs := hMX.2.1 (3 * p + r') m (by omega) (by omega)
        rw [hSl _ m (by omega) (by rw [hL1]; exact hm), hv6 _ 1 hs.2.1 (by omega) (by omega)]
    · rw [G4.1, hL1, hL]; omega
    · rw [G4.2 q a1 a2, hL1' q a1 a2]
    · have : m < Ln v1 q := by
        by_cases e : q = 3 * p + r'
        · subst e; rw [G4.1] at a2; omega
        · rw [G4.2 q a1 e] at a2; exact a2
      rw [G5 q m a1 a2, hSl q m a1 this]
    · rw [G6 k f a1 a2 a3, hv6 k f a1 a2 a3]
    · rw [G7, o9 _ _ _ _ (by omega) (by omega), lsT_n (by omega) (by omega)]
    · rw [G8 m hm, o10 m hm, nlo m (by omega)]
theorem er_c {u w : xV} {P p q : Nat} {x : Int32} (h6 : P ≤ 6) (hp : p < 6) (hq : q < 18) (h0 : u 0 = w 0) (hpf : ∀ p' f, p' < 6 → f < 3 → u (ip p' f) = w (ip p' f)) (hcn : ∀ q' f, q' < 18 → 6 ≤ f → f ≤ 7 → u (iq q' f) = w (iq q' f)) (h3 : u (iq q 3) = w (iq q 3)) (h00 : u (iq q 0) = w (iq q 0)) : er u P p q x = er w P p q x ∧ rs u p x = rs w p x ∧ mFree u P = mFree w P ∧ pc u q (rs u p x) (mFree u P) = pc w q (rs w p x) (mFree w P) := by
  have e1 : mFree u P = mFree w P := mFree_c h6 h0 hpf (fun q' a => hcn q' 7 a (by omega) (by omega))
  have e2 : s3 u p 6 = s3 w p 6 := by
    simp only [s3]
    rw [hcn _ 6 (by omega) (by omega) (by omega), hcn _ 6 (by omega) (by omega) (by omega), hcn _ 6 (by omega) (by omega) (by omega)]
  have e3 : rs u p x = rs w p x := by
    unfold rs fg
    rw [hpf p 0 hp (by omega), hpf p 2 hp (by omega), e2]
  have e4 : pc u q (rs u p x) (mFree u P) = pc w q (rs w p x) (mFree w P) := by
    unfold pc
    rw [e1, e3, h3, h00, hcn q 7 hq (by omega) (by omega)]
  refine ⟨?_, e3, e1, e4⟩
  unfold er
  rw [e4, e3]
theorem c_rem0 {σ : xS} {τ : xD} {v : xV} {b C P p r d : Nat} (h : RW τ v b C P) (hp : p < P) (hr : r < 3) (hd : d < 4) (h12 : τ 0 0 0 12 = nI 0) : fX0_removeVictims d d p (nI r) (va_up σ d τ) = some ((), va_up σ d τ) := by
  have h6 := h.1.1.2.2.2.2.2.1
  have st : ∀ n r', r' < 3 → r < r' → BX0_removeVictims_8 d d p (nI r) (n + 1) 0 (nI r') (va_up σ d τ) = BX0_removeVictims_8 d d p (nI r) n 0 (nI r' + (-1)) (va_up σ d τ) := fun n r' a1 a2 => by
    have l := len15 (RY_of h p) hp a1
    have e : i_min 0 (nI (Ln v (3 * p + r'))) = nI 0 := by
      unfold i_min
      rw [if_neg (nI_nn (by omega))]; rfl
    rw [BX0_removeVictims_8, if_neg (nI_ge a2 (by omega)), in_nI a1 (by omega), g_t, nI_clamp (by omega), up_s, l.1, e, l_v]
    show BX0_removeVictims_37 d d p (nI r) 0 (nI r') d p r' (nI 0) _ (199999 + 1) (nI 0) (va_up σ d τ) = _
    rw [BX0_removeVictims_37, if_pos (nI_le (Nat.le_refl _) (by omega)), l_v, l_v]
    rfl
  have en : ∀ n r', r' ≤ r → BX0_removeVictims_8 d d p (nI r) (n + 1) 0 (nI r') (va_up σ d τ) = some ((), va_up σ d τ) := fun n r' a => by
    rw [BX0_removeVictims_8, if_pos (nI_le a (by omega))]
  rw [fX0_removeVictims, up_s, h12, l_v]
  show BX0_removeVictims_8 d d p (nI r) (199999 + 1) 0 (nI 2) (va_up σ d τ) = _
  by_cases r2 : r = 2
  · exact en _ 2 (by omega)
  · rw [st _ 2 (by omega) (by omega), show nI 2 + (-1) = nI 1 from pk_m1 1]
    show BX0_removeVictims_8 d d p (nI r) (199998 + 1) 0 (nI 1) (va_up σ d τ) = _
    by_cases r1 : r = 1
    · exact en _ 1 (by omega)
    · rw [st _ 1 (by omega) (by omega), show nI 1 + (-1) = nI 0 from pk_m1 0]
      exact en 199997 0 (by omega)
theorem S_rem {τ : xD} {v : xV} {b C P p r n : Nat} (h : RW τ v b C P) (hp : p < P) (hr : r < 3) (hn : 1 ≤ n) (hn2 : n ≤ VT v p r) (h12 : τ 0 0 0 12 = nI n) : ∃ τ' v', (∀ σ d, d < 4 → fX0_removeVictims d d p (nI r) (va_up σ d τ) = some ((), va_up σ d τ')) ∧ (∀ σ : xS, σ 5 30 0 0 7 = nI n → fX6_removesVictims (nI (3 * p + r)) (x_row σ 5 31 0 0 v) = some ((), x_row σ 5 31 0 0 v')) ∧ RW τ' v' b C P ∧ (∀ x, er v' P p (3 * p + r) x = er (wvn v p n) P p (3 * p + r) x) ∧ (∀ k, τ' 0 0 0 k = τ 0 0 0 k) ∧ v' 4 = v 4 ∧ (∀ i, 6464 ≤ i → v' i = v i) := by
  have h6 := h.1.1.2.2.2.2.2.1
  have hp6 : p < 6 := by omega
  have l2 := len15 (RY_of h p) hp (r := 2) (by omega)
  have l1 := len15 (RY_of h p) hp (r := 1) (by omega)
  have hr2 : r < 2 := by
    unfold VT at hn2
    by_cases a : r = 0
    · omega
    · rw [if_neg a] at hn2
      by_cases b : r = 1
      · omega
      · rw [if_neg b] at hn2; omega
  have hVT : n ≤ Ln v (3 * p + 2) + Ln v (3 * p + 1) := by
    unfold VT at hn2
    by_cases a : r = 0
    · rw [if_pos a] at hn2; exact hn2
    · rw [if_neg a, if_pos (by omega)] at hn2; omega
  have hVT1 : r = 1 → n ≤ Ln v (3 * p + 2) := fun e => by
    unfold VT at hn2
    rw [if_neg (by omega), if_pos e] at hn2; exact hn2
  have imin : ∀ a b : Nat, a < 1000 → b < 1000 → i_min (nI a) (nI b) = nI (min a b) := fun a b ha hb => by
    unfold i_min
    by_cases z : b < a
    · rw [if_pos (nI_lt z (by omega)), show min a b = b by omega]
    · rw [if_neg (nI_nlt (by omega) (by omega)), show min a b = a by omega]
  obtain ⟨τ1, v1, k1, k2, k3, K1, K2, K3, K4, K5, K6, K7, K8⟩ := rem_q (a2 := nI r) (a3 := nI n) (a4 := nI 2) hp hr (show 2 < 3 by omega) (min n (Ln v (3 * p + 2))) 0 n x_FU x_FU τ v h (by omega) (by omega) (by omega) (by omega) (by omega) (by unfold x_FU; omega) (by unfold x_FU; omega)
  rw [Nat.zero_add, nI_subN (show min n (Ln v (3 * p + 2)) ≤ n by omega)] at k1
  have st1 : ∀ σ d, d < 4 → fX0_removeVictims d d p (nI r) (va_up σ d τ) = BX0_removeVictims_8 d d p (nI r) 199999 (nI (n - min n (Ln v (3 * p + 2)))) (nI 1) (va_up σ d τ1) := fun σ d hd => by
    rw [fX0_removeVictims, up_s, h12, l_v]
    show BX0_removeVictims_8 d d p (nI r) (199999 + 1) (nI n) (nI 2) (va_up σ d τ) = _
    rw [BX0_removeVictims_8, if_neg (nI_ge hr2 (by omega)), in_nI (by omega) (by omega), g_t, nI_clamp (by omega), up_s, l2.1, imin _ _ (by omega) (by omega), l_v]
    show BX0_removeVictims_37 d d p (nI r) (nI n) (nI 2) d p 2 (nI (min n (Ln v (3 * p + 2)))) _ x_FU (nI 0) (va_up σ d τ) = _
    rw [k1, show nI 2 + (-1) = nI 1 from pk_m1 1]
  have st2 : ∀ σ : xS, σ 5 30 0 0 7 = nI n → fX6_removesVictims (nI (3 * p + r)) (x_row σ 5 31 0 0 v) = BX6_removesVictims_13 (nI (3 * p + r)) 199999 (nI (n - min n (Ln v (3 * p + 2)))) (nI (3 * p + 1)) (x_row σ 5 31 0 0 v1) := fun σ hσ => by
    have e2 : (3 : Int32) * nI p + 2 = nI (3 * p + 2) := q3 p 2
    rw [fX6_removesVictims, row_K _ _ (by decide), hσ, l_v, div3 (by omega), show (3 * p + r) / 3 = p by omega, e2, l_v]
    show BX6_removesVictims_13 (nI (3 * p + r)) (199999 + 1) (nI n) (nI (3 * p + 2)) (x_row σ 5 31 0 0 v) = _
    rw [BX6_removesVictims_13, if_neg (nI_nle hn (by omega)), k2, show nI (3 * p + 2) + (-1) = nI (3 * p + 1) from pk_m1 _]
  have lsn : ∀ m i, (i ≠ iq (3 * p + 2) 6 ∧ i ≠ iq (3 * p + 2) 7 ∧ i ≠ iq (3 * p + 2) 8) → lch v (3 * p + 2) (Ln v (3 * p + 2)) v m i = v i := fun m i hi => lch_n hi m
  by_cases hle : n ≤ Ln v (3 * p + 2)
  · -- the last queue has enough
    have hmin : min n (Ln v (3 * p + 2)) = n := by omega
    rw [hmin, Nat.sub_self] at st1 st2
    rw [hmin] at K3
    have hew : ∀ x, er v1 P p (3 * p + r) x = er (wvn v p n) P p (3 * p + r) x := fun x => by
      rw [wvn, if_pos hle]
      refine (er_c h6 hp6 (by omega) ?_ (fun p' f a1 a2 => ?_) (fun q f a1 a2 a3 => ?_) ?_ ?_).1
      · rw [K1 0 (by omega) (by simp only [ip]; omega) (by simp only [ip]; omega) (by simp only [ip]; omega) (by simp only [ip]; omega) (by simp only [ip]; omega), lsn _ _ ⟨by simp only [iq]; omega, by simp only [iq]; omega, by simp only [iq]; omega⟩]
      · rw [K1 _ (by simp only [ip]; omega) (by simp only [ip]; omega) (by simp only [ip]; omega) (by simp only [ip]; omega) (by simp only [ip]; omega) (by simp only [ip]; omega), lsn _ _ ⟨by simp only [ip, iq]; omega, by simp only [ip, iq]; omega, by simp only [ip, iq]; omega⟩]
      · by_cases e : q = 3 * p + 2
        · subst e; exact K3 f (by omega)
        · rw [K2 q f a1 (by omega) (Or.inl e), lsn _ _ ⟨by simp only [iq]; omega, by simp only [iq]; omega, by simp only [iq]; omega⟩]
      · rw [K2 _ 3 (by omega) (by omega) (by omega), lsn _ _ ⟨by simp only [iq]; omega, by simp only [iq]; omega, by simp only [iq]; omega⟩]
      · rw [K2 _ 0 (by omega) (by omega) (by omega), lsn _ _ ⟨by simp only [iq]; omega, by simp only [iq]; omega, by simp only [iq]; omega⟩]
    refine ⟨τ1, v1, fun σ d hd => ?_, fun σ hσ => ?_, k3, hew, K7, ?_, K8⟩
    · rw [st1 σ d hd]
      show BX0_removeVictims_8 d d p (nI r) (199998 + 1) (nI 0) (nI 1) (va_up σ d τ1) = _
      by_cases r1 : r = 1
      · rw [BX0_removeVictims_8, if_pos (nI_le (by omega) (by omega))]
      · have l1' := len15 (RY_of k3 p) hp (r := 1) (by omega)
        rw [BX0_removeVictims_8, if_neg (nI_ge (by omega) (by omega)), in_nI (by omega) (by omega), g_t, nI_clamp (by omega), up_s, l1'.1, imin _ _ (by omega) (by omega), show min 0 (Ln v1 (3 * p + 1)) = 0 by omega, l_v]
        show BX0_removeVictims_37 d d p (nI r) (nI 0) (nI 1) d p 1 (nI 0) _ (199999 + 1) (nI 0) (va_up σ d τ1) = _
        rw [BX0_removeVictims_37, if_pos (nI_le (Nat.le_refl _) (by omega)), l_v, l_v, show nI 1 + (-1) = nI 0 from pk_m1 0]
        show BX0_removeVictims_8 d d p (nI r) (199997 + 1) _ (nI 0) (va_up σ d τ1) = _
        rw [BX0_removeVictims_8, if_pos (nI_le (by omega) (by omega))]
    · rw [st2 σ hσ]
      show BX6_removesVictims_13 (nI (3 * p + r)) (199998 + 1) (nI 0) (nI (3 * p + 1)) (x_row σ 5 31 0 0 v1) = _
      rw [BX6_removesVictims_13, if_pos (by decide)]
    · exact K1 4 (by omega) (by simp only [ip]; omega) (by simp only [ip]; omega) (by simp only [ip]; omega) (by simp only [ip]; omega) (by simp only [ip]; omega)
  · -- the next queue too
    have hmin : min n (Ln v (3 * p + 2)) = Ln v (3 * p + 2) := by omega
    have r0 : r = 0 := by
      by_cases e : r = 1
      · have := hVT1 e; omega
      · omega
    subst r0
    rw [hmin] at st1 st2 K3 K4
    have hL1 : Ln v1 (3 * p + 1) = Ln v (3 * p + 1) := K4.2 _ (by omega) (by omega)
    obtain ⟨τ2, v2, m1, m2, m3, M1, M2, M3, M4, M5, M6, M7, M8⟩ := rem_q (a2 := nI 0) (a3 := nI (n - Ln v (3 * p + 2))) (a4 := nI 1) hp (show 0 < 3 by omega) (show 1 < 3 by omega) (n - Ln v (3 * p + 2)) 0 (n - Ln v (3 * p + 2)) x_FU x_FU τ1 v1 k3 (by omega) (by omega) (by omega) (by omega) (by omega) (by unfold x_FU; omega) (by unfold x_FU; omega)
    rw [Nat.zero_add] at m1
    rw [Nat.sub_self] at m2
    have hew : ∀ x, er v2 P p (3 * p + 0) x = er (wvn v p n) P p (3 * p + 0) x := fun x => by
      have lsn1 : ∀ m i, (i ≠ iq (3 * p + 1) 6 ∧ i ≠ iq (3 * p + 1) 7 ∧ i ≠ iq (3 * p + 1) 8) → lch v (3 * p + 1) (Ln v (3 * p + 1)) (lch v (3 * p + 2) (Ln v (3 * p + 2)) v (Ln v (3 * p + 2))) m i = lch v (3 * p + 2) (Ln v (3 * p + 2)) v (Ln v (3 * p + 2)) i := fun m i hi => lch_n hi m
      rw [wvn, if_neg hle]
      refine (er_c h6 hp6 (by omega) ?_ (fun p' f a1 a2 => ?_) (fun q f a1 a2 a3 => ?_) ?_ ?_).1
      · rw [M1 0 (by omega) (by simp only [ip]; omega) (by simp only [ip]; omega) (by simp only [ip]; omega) (by simp only [ip]; omega) (by simp only [ip]; omega), K1 0 (by omega) (by simp only [ip]; omega) (by simp only [ip]; omega) (by simp only [ip]; omega) (by simp only [ip]; omega) (by simp only [ip]; omega), lsn1 _ _ ⟨by simp only [iq]; omega, by simp only [iq]; omega, by simp only [iq]; omega⟩, lsn _ _ ⟨by simp only [iq]; omega, by simp only [iq]; omega, by simp only [iq]; omega⟩]
      · rw [M1 _ (by simp only [ip]; omega) (by simp only [ip]; omega) (by simp only [ip]; omega) (by simp only [ip]; omega) (by simp only [ip]; omega) (by simp only [ip]; omega), K1 _ (by simp only [ip]; omega) (by simp only [ip]; omega) (by simp only [ip]; omega) (by simp only [ip]; omega) (by simp only [ip]; omega) (by simp only [ip]; omega), lsn1 _ _ ⟨by simp only [ip, iq]; omega, by simp only [ip, iq]; omega, by simp only [ip, iq]; omega⟩, lsn _ _ ⟨by simp only [ip, iq]; omega, by simp only [ip, iq]; omega, by simp only [ip, iq]; omega⟩]
      · by_cases e : q = 3 * p + 1
        · subst e
          rw [M3 f (by omega), hL1]
          refine lch_c (fun f' hf' => ?_) (fun i hi => ?_) _ (by omega) f (by omega)
          · rw [K2 _ f' (by omega) (by omega) (Or.inl (by omega)), lsn _ _ ⟨by simp only [iq]; omega, by simp only [iq]; omega, by simp only [iq]; omega⟩]
          · have hs := (MX_of h.1.2.2.2.2.2.2.2.2.2.2.1).2.1 (3 * p + 1) i (by omega) hi
            rw [K5 _ i (by omega) (by rw [hL1]; exact hi), K6 _ 1 hs.2.1 (by omega) (by omega)]
        · rw [M2 q f a1 (by omega) (Or.inl e), lsn1 _ _ ⟨by simp only [iq]; omega, by simp only [iq]; omega, by simp only [iq]; omega⟩]
          by_cases e2 : q = 3 * p + 2
          · subst e2; exact K3 f (by omega)
          · rw [K2 q f a1 (by omega) (Or.inl e2), lsn _ _ ⟨by simp only [iq]; omega, by simp only [iq]; omega, by simp only [iq]; omega⟩]
      · rw [M2 _ 3 (by omega) (by omega) (by omega), K2 _ 3 (by omega) (by omega) (by omega), lsn1 _ _ ⟨by simp only [iq]; omega, by simp only [iq]; omega, by simp only [iq]; omega⟩, lsn _ _ ⟨by simp only [iq]; omega, by simp only [iq]; omega, by simp only [iq]; omega⟩]
      · rw [M2 _ 0 (by omega) (by omega) (by omega), K2 _ 0 (by omega) (by omega) (by omega), lsn1 _ _ ⟨by simp only [iq]; omega, by simp only [iq]; omega, by simp only [iq]; omega⟩, lsn _ _ ⟨by simp only [iq]; omega, by simp only [iq]; omega, by simp only [iq]; omega⟩]
    refine ⟨τ2, v2, fun σ d hd => ?_, fun σ hσ => ?_, m3, hew, fun k => (M7 k).trans (K7 k), ?_, fun i hi => (M8 i hi).trans (K8 i hi)⟩
    · have l1' := len15 (RY_of k3 p) hp (r := 1) (by omega)
      rw [st1 σ d hd]
      show BX0_removeVictims_8 d d p (nI 0) (199998 + 1) _ (nI 1) (va_up σ d τ1) = _
      rw [BX0_removeVictims_8, if_neg (nI_ge (by omega) (by omega)), in_nI (by omega) (by omega), g_t, nI_clamp (by omega), up_s, l1'.1, imin _ _ (by omega) (by omega), hL1, show min (n - Ln v (3 * p + 2)) (Ln v (3 * p + 1)) = n - Ln v (3 * p + 2) by omega, l_v]
      show BX0_removeVictims_37 d d p (nI 0) (nI (n - Ln v (3 * p + 2))) (nI 1) d p 1 (nI (n - Ln v (3 * p + 2))) _ x_FU (nI 0) (va_up σ d τ1) = _
      rw [m1, show nI 1 + (-1) = nI 0 from pk_m1 0]
      show BX0_removeVictims_8 d d p (nI 0) (199997 + 1) _ (nI 0) (va_up σ d τ2) = _
      rw [BX0_removeVictims_8, if_pos (nI_le (by omega) (by omega))]
    · rw [st2 σ hσ]
      show BX6_removesVictims_13 (nI (3 * p + 0)) (199998 + 1) (nI (n - Ln v (3 * p + 2))) (nI (3 * p + 1)) (x_row σ 5 31 0 0 v1) = _
      rw [BX6_removesVictims_13, if_neg (nI_nle (by omega) (by omega)), m2]
      show BX6_removesVictims_13 (nI (3 * p + 0)) (199997 + 1) (nI 0) _ (x_row σ 5 31 0 0 v2) = _
      rw [BX6_removesVictims_13, if_pos (by decide)]
    · rw [M1 4 (by omega) (by simp only [ip]; omega) (by simp only [ip]; omega) (by simp only [ip]; omega) (by simp only [ip]; omega) (by simp only [ip]; omega)]
      exact K1 4 (by omega) (by simp only [ip]; omega) (by simp only [ip]; omega) (by simp only [ip]; omega) (by simp only [ip]; omega) (by simp only [ip]; omega)
