/-! ===== behind a packet that left ===== -/
theorem m_hasP {σ : xS} {v : xV} {p : Nat} (hp : p < 6) : fX6_hasPackets (nI p) (x_row σ 5 31 0 0 v) = some (if s3 v p 12 ≤ 0 then 0 else 1, x_row σ 5 31 0 0 v) := by
  rw [fX6_hasPackets, m_sum (p := p) hp 12 (by omega) 12 rfl, b_s, show vv (x_row σ 5 31 0 0 v) = v from row_rd σ v]
  split <;> rfl
def zdV (v : xV) (q : Nat) : xV := if v (iq q 12) = 0 then va_up v (iq q 5) 0 else v
def idV (v : xV) (p : Nat) : xV := if s3 v p 12 ≤ 0 then va_up (va_up (va_up v (ip p 4) 0) (ip p 6) 0) (ip p 7) 1 else v
theorem m_settles {σ : xS} {v : xV} {p r : Nat} (hp : p < 6) (hr : r < 3) : fX6_settles (nI (3 * p + r)) (x_row σ 5 31 0 0 v) = some ((), x_row σ 5 31 0 0 (idV (zdV v (3 * p + r)) p)) := by
  have h29 : ∀ w, BX6_settles_29 (nI p) (x_row σ 5 31 0 0 w) = some ((), x_row σ 5 31 0 0 (idV w p)) := fun w => by
    rw [BX6_settles_29, m_hasP hp, b_s, idV]
    by_cases z : s3 w p 12 ≤ 0
    · rw [if_pos z, if_pos z, if_pos rfl, m_port_4, b_s, in_nI (by omega) (by omega), g_t, nI_clamp (by omega), row_set, l_v, m_port_6, b_s, in_nI (by omega) (by omega), g_t, nI_clamp (by omega), row_set, l_v, m_port_7, b_s, in_nI (by omega) (by omega), g_t, nI_clamp (by omega), row_set, l_v]
    · rw [if_neg z, if_neg z, if_neg (by decide)]
  rw [fX6_settles, div3 (by omega), show (3 * p + r) / 3 = p by omega, l_v, m_queue_12, b_s, in_nI (by omega) (by omega), g_t, nI_clamp (by omega), row_rd, zdV]
  by_cases z : v (iq (3 * p + r) 12) = 0
  · rw [if_pos z, if_pos z, m_queue_5, b_s, in_nI (by omega) (by omega), g_t, nI_clamp (by omega), row_set, l_v]
    exact h29 _
  · rw [if_neg z, if_neg z]
    exact h29 _
def cfPx (τ : xD) (v : xV) (p : Nat) : Prop := ∀ p' k f, p' < 6 → pm k = some f → (p' ≠ p ∨ (k ≠ 7 ∧ k ≠ 11)) → τ 13 p' 0 k = v (ip p' f)
def wfPx (v : xV) (p : Nat) : Prop := ∀ p', p' < 6 → rg (v (ip p' 0)) 0 64 ∧ rg (v (ip p' 1)) 0 64 ∧ rg (v (ip p' 2)) 0 32 ∧ (p' ≠ p → rg (v (ip p' 4)) 0 11) ∧ rg (v (ip p' 5)) 0 16 ∧ rg (v (ip p' 6)) 0 2 ∧ x_z (v (ip p' 7)) = true ∧ x_z (v (ip p' 8)) = true
def wfTx (v : xV) (p r : Nat) : Prop := ∀ p' r', p' < 6 → r' < 3 → ((p' ≠ p ∨ r' ≠ r) → v (iq (3 * p' + r') 12) = 0 → v (iq (3 * p' + r') 5) = 0) ∧ (¬ (v (ip p' 6) = nI r' ∧ v (ip p' 7) = 0) → v (iq (3 * p' + r') 5) ≤ 11)
def pri (τ : xD) : Prop := ∀ p r, p < 6 → r < 3 → τ 16 p r 0 = nI r
/-- as RW, but for what port p has of credit and of departed packets -/
def RY (τ : xD) (v : xV) (b C P p : Nat) : Prop := wfG v C P ∧ cfQ τ v ∧ cfPx τ v p ∧ cfL τ v ∧ cfD τ v ∧ cfR τ v ∧ wfPx v p ∧ wfQ v ∧ wfT v ∧ wfN v P ∧ MW v C ∧ RX τ v C ∧ gr τ v P ∧ wfS v P ∧ pri τ ∧ 0 ≤ v 4 ∧ v 4 ≤ nI b ∧ 0 ≤ v 10 ∧ v 10 ≤ nI b
/-- before it is settled -/
def RZ (τ : xD) (v : xV) (b C P p r : Nat) : Prop := wfG v C P ∧ cfQ τ v ∧ cfPx τ v p ∧ cfL τ v ∧ cfD τ v ∧ cfR τ v ∧ wfPx v p ∧ wfQ v ∧ wfTx v p r ∧ wfN v P ∧ MW v C ∧ RX τ v C ∧ gr τ v P ∧ wfS v P ∧ pri τ ∧ 0 ≤ v 4 ∧ v 4 ≤ nI b ∧ 0 ≤ v 10 ∧ v 10 ≤ nI b
theorem RY_of {τ : xD} {v : xV} {b C P : Nat} (h : RW τ v b C P) (p : Nat) : RY τ v b C P p := by
  obtain ⟨⟨hG, hQ, hPp, hLs, hDd, hRf, wP, wQ, wT, wN, hM, hX, b1, b2, b3, b4⟩, hg, hS, hp⟩ := h
  exact ⟨hG, hQ, fun p' k f h1 h2 _ => hPp p' k f h1 h2, hLs, hDd, hRf, fun p' h1 => ⟨(wP p' h1).1, (wP p' h1).2.1, (wP p' h1).2.2.1, fun _ => (wP p' h1).2.2.2.1, (wP p' h1).2.2.2.2⟩, wQ, wT, wN, hM, hX, hg, hS, hp, b1, b2, b3, b4⟩
theorem RW_ofY {τ : xD} {v : xV} {b C P p : Nat} (h : RY τ v b C P p) (h1 : τ 13 p 0 7 = v (ip p 4)) (h2 : rg (v (ip p 4)) 0 11) (h3 : τ 13 p 0 11 = v (ip p 9)) : RW τ v b C P := by
  obtain ⟨hG, hQ, hPp, hLs, hDd, hRf, wP, wQ, wT, wN, hM, hX, hg, hS, hp, b1, b2, b3, b4⟩ := h
  refine ⟨⟨hG, hQ, fun p' k f g1 g2 => ?_, hLs, hDd, hRf, fun p' g1 => ?_, wQ, wT, wN, hM, hX, b1, b2, b3, b4⟩, hg, hS, hp⟩
  · by_cases e : p' = p ∧ (k = 7 ∨ k = 11)
    · obtain ⟨rfl, rfl | rfl⟩ := e
      · have : f = 4 := by simp only [pm, Option.some.injEq] at g2; exact g2.symm
        subst this; exact h1
      · have : f = 9 := by simp only [pm, Option.some.injEq] at g2; exact g2.symm
        subst this; exact h3
    · exact hPp p' k f g1 g2 (by omega)
  · obtain ⟨a1, a2, a3, a4, a5⟩ := wP p' g1
    refine ⟨a1, a2, a3, ?_, a5⟩
    by_cases e : p' = p
    · rw [e]; exact h2
    · exact a4 e
theorem wfPx_free {v : xV} {C P p : Nat} (hG : wfG v C P) (wP : wfPx v p) (wQ : wfQ v) (hp : p < 6) : mFree v P ≤ 128 := by
  have h6 := hG.2.2.2.2.2.1
  have nv : ∀ i, i ≠ 16 + 24 * p + 4 → va_up v (ip p 4) 0 i = v i := fun i h => up_n _ _ h
  have e := mFree_c (v := v) (v' := va_up v (ip p 4) 0) h6 (nv 0 (by omega)) (fun p' f h1 h2 => nv _ (by simp only [ip]; omega)) (fun q h1 => nv _ (by simp only [iq]; omega))
  rw [← e]
  refine mFree_le (wfG_c (nv 0 (by omega)) (nv 1 (by omega)) (nv 2 (by omega)) (nv 5 (by omega)) hG) (fun p' h1 => ?_) (wfQ_c (fun q f _ _ => nv _ (by simp only [iq]; omega)) wQ)
  obtain ⟨a1, a2, a3, a4, a5, a6, a7, a8⟩ := wP p' h1
  rw [nv (ip p' 0) (by simp only [ip]; omega), nv (ip p' 1) (by simp only [ip]; omega), nv (ip p' 2) (by simp only [ip]; omega), nv (ip p' 5) (by simp only [ip]; omega), nv (ip p' 6) (by simp only [ip]; omega), nv (ip p' 7) (by simp only [ip]; omega), nv (ip p' 8) (by simp only [ip]; omega)]
  refine ⟨a1, a2, a3, ?_, a5, a6, a7, a8⟩
  by_cases e : p' = p
  · rw [e, up_s]; exact ⟨by decide, by decide⟩
  · rw [nv _ (by simp only [ip]; omega)]; exact a4 e
theorem zdT_n {τ : xD} {p r K p' r' k : Nat} (h : K ≠ 16 ∨ p' ≠ p ∨ r' ≠ r ∨ k ≠ 6) : zdT τ p r K p' r' k = τ K p' r' k := by
  unfold zdT; split
  · exact ds_n (by omega)
  · rfl
theorem idT_n {τ : xD} {p K p' r' k : Nat} (h : K ≠ 13 ∨ p' ≠ p ∨ (k ≠ 7 ∧ k ≠ 8 ∧ k ≠ 9)) : idT τ p K p' r' k = τ K p' r' k := by
  unfold idT; split
  · unfold rsT; rw [ds_n (by omega), ds_n (by omega), ds_n (by omega)]
  · rfl
theorem zdV_n {v : xV} {q m : Nat} (h : m ≠ 160 + 16 * q + 5) : zdV v q m = v m := by
  unfold zdV; split
  · exact up_n _ _ h
  · rfl
theorem idV_n {v : xV} {p m : Nat} (h : m ≠ 16 + 24 * p + 4 ∧ m ≠ 16 + 24 * p + 6 ∧ m ≠ 16 + 24 * p + 7) : idV v p m = v m := by
  unfold idV; split
  · rw [up_n _ _ h.2.2, up_n _ _ h.2.1, up_n _ _ h.1]
  · rfl
theorem len_sum {v : xV} {C p : Nat} (hM : MX v C) (hp : p < 6) : s3 v p 12 = nI (Ln v (3 * p) + Ln v (3 * p + 1) + Ln v (3 * p + 2)) ∧ Ln v (3 * p) + Ln v (3 * p + 1) + Ln v (3 * p + 2) ≤ 384 := by
  have a := hM.1 (3 * p) (by omega)
  have b := hM.1 (3 * p + 1) (by omega)
  have c := hM.1 (3 * p + 2) (by omega)
  refine ⟨?_, by omega⟩
  simp only [s3]
  rw [a.1, b.1, c.1, nI_add, nI_add]
theorem settled {τ : xD} {v : xV} {b C P p r : Nat} (h : RZ τ v b C P p r) (hp : p < P) (hr : r < 3) : RY (idT (zdT τ p r) p) (idV (zdV v (3 * p + r)) p) b C P p := by
  obtain ⟨hG, hQ, hPp, hLs, hDd, hRf, wP, wQ, wT, wN, hM, hX, hg, hS, hpr, b1, b2, b3, b4⟩ := h
  have h6 := hG.2.2.2.2.2.1
  have h8 := hG.2.2.1
  have hp6 : p < 6 := by omega
  have nv : ∀ i, i ≠ 160 + 16 * (3 * p + r) + 5 → i ≠ 16 + 24 * p + 4 → i ≠ 16 + 24 * p + 6 → i ≠ 16 + 24 * p + 7 → idV (zdV v (3 * p + r)) p i = v i := fun i a1 a2 a3 a4 => by rw [idV_n ⟨a2, a3, a4⟩, zdV_n a1]
  have nt : ∀ K p' r' k, (K ≠ 16 ∨ p' ≠ p ∨ r' ≠ r ∨ k ≠ 6) → (K ≠ 13 ∨ p' ≠ p ∨ (k ≠ 7 ∧ k ≠ 8 ∧ k ≠ 9)) → idT (zdT τ p r) p K p' r' k = τ K p' r' k := fun K p' r' k a1 a2 => by rw [idT_n a2, zdT_n a1]
  have nq : ∀ q f, q < 18 → f < 16 → (q ≠ 3 * p + r ∨ f ≠ 5) → idV (zdV v (3 * p + r)) p (iq q f) = v (iq q f) := fun q f a1 a2 a3 => nv _ (by simp only [iq]; omega) (by simp only [iq]; omega) (by simp only [iq]; omega) (by simp only [iq]; omega)
  have np : ∀ p' f, p' < 6 → f < 24 → (p' ≠ p ∨ (f ≠ 4 ∧ f ≠ 6 ∧ f ≠ 7)) → idV (zdV v (3 * p + r)) p (ip p' f) = v (ip p' f) := fun p' f a1 a2 a3 => nv _ (by simp only [ip]; omega) (by simp only [ip]; omega) (by simp only [ip]; omega) (by simp only [ip]; omega)
  have nl : ∀ i, i < 16 → idV (zdV v (3 * p + r)) p i = v i := fun i a => nv i (by omega) (by omega) (by omega) (by omega)
  have e5 : idV (zdV v (3 * p + r)) p (iq (3 * p + r) 5) = if v (iq (3 * p + r) 12) = 0 then 0 else v (iq (3 * p + r) 5) := by
    rw [idV_n ⟨by simp only [iq]; omega, by simp only [iq]; omega, by simp only [iq]; omega⟩, zdV]
    split
    · rw [up_s]
    · rfl
  have e15 : ∀ r', r' < 3 → τ 16 p r' 15 = v (iq (3 * p + r') 12) := fun r' h => hQ p r' 15 12 hp6 h rfl
  have cs : (zdT τ p r 16 p 0 15 + zdT τ p r 16 p 1 15 + zdT τ p r 16 p 2 15 = 0) ↔ s3 (zdV v (3 * p + r)) p 12 ≤ 0 := by
    rw [zdT_n (by omega), zdT_n (by omega), zdT_n (by omega), e15 0 (by omega), e15 1 (by omega), e15 2 (by omega)]
    have : s3 (zdV v (3 * p + r)) p 12 = s3 v p 12 := by
      simp only [s3]
      rw [zdV_n (by simp only [iq]; omega), zdV_n (by simp only [iq]; omega), zdV_n (by simp only [iq]; omega)]
    rw [this]
    obtain ⟨q1, q2⟩ := len_sum (MX_of hM) hp6
    show s3 v p 12 = 0 ↔ _
    rw [q1]
    exact ⟨fun z => by rw [z]; decide, fun z => by
      by_cases y : Ln v (3 * p) + Ln v (3 * p + 1) + Ln v (3 * p + 2) = 0
      · rw [y]; rfl
      · exact absurd z (nI_nle (by omega) (by omega))⟩
  have hN : eqN v (idV (zdV v (3 * p + r)) p) := ⟨nl 4 (by omega), fun i h1 _ => nv i (by omega) (by omega) (by omega) (by omega), fun q hq => nq q 12 hq (by omega) (by omega)⟩
  have hx : eqXb τ (idT (zdT τ p r) p) := ⟨fun K c h1 h2 _ => nt _ _ _ _ (by omega) (by omega), fun p' r' _ _ => ⟨nt _ _ _ _ (by omega) (by omega), nt _ _ _ _ (by omega) (by omega)⟩⟩
  have ep : (s3 (zdV v (3 * p + r)) p 12 ≤ 0 → idV (zdV v (3 * p + r)) p (ip p 6) = 0 ∧ idV (zdV v (3 * p + r)) p (ip p 7) = 1) ∧ (¬ s3 (zdV v (3 * p + r)) p 12 ≤ 0 → idV (zdV v (3 * p + r)) p (ip p 6) = v (ip p 6) ∧ idV (zdV v (3 * p + r)) p (ip p 7) = v (ip p 7)) := by
    refine ⟨fun z => ?_, fun z => ?_⟩
    · unfold idV
      rw [if_pos z, up_n _ _ (pp (by omega) (by omega) (by omega)), up_s, up_s]
      exact ⟨rfl, rfl⟩
    · unfold idV
      rw [if_neg z, zdV_n (by simp only [ip]; omega), zdV_n (by simp only [ip]; omega)]
      exact ⟨rfl, rfl⟩
  have et : (s3 (zdV v (3 * p + r)) p 12 ≤ 0 → idT (zdT τ p r) p 13 p 0 8 = 0 ∧ idT (zdT τ p r) p 13 p 0 9 = 1) ∧ (¬ s3 (zdV v (3 * p + r)) p 12 ≤ 0 → idT (zdT τ p r) p 13 p 0 8 = τ 13 p 0 8 ∧ idT (zdT τ p r) p 13 p 0 9 = τ 13 p 0 9) := by
    refine ⟨fun z => ?_, fun z => ?_⟩
    · unfold idT
      rw [if_pos (cs.mpr z), rsT, ds_n (by omega), ds_s, ds_s]
      exact ⟨rfl, rfl⟩
    · unfold idT
      rw [if_neg (fun y => z (cs.mp y)), zdT_n (by omega), zdT_n (by omega)]
      exact ⟨rfl, rfl⟩
  have hid : s3 (zdV v (3 * p + r)) p 12 ≤ 0 → ∀ r', r' < 3 → v (iq (3 * p + r') 12) = 0 := by
    intro z r' hr'
    have := cs.mpr z
    rw [zdT_n (by omega), zdT_n (by omega), zdT_n (by omega), e15 0 (by omega), e15 1 (by omega), e15 2 (by omega)] at this
    have q := len_sum (MX_of hM) hp6
    have y : Ln v (3 * p) + Ln v (3 * p + 1) + Ln v (3 * p + 2) = 0 := by
      have y2 : s3 v p 12 = 0 := this
      rw [q.1] at y2
      exact nIeq (by omega) (by omega) y2
    rw [((MX_of hM).1 (3 * p + r') (by omega)).1]
    have : Ln v (3 * p + r') = 0 := by
      rcases (show r' = 0 ∨ r' = 1 ∨ r' = 2 by omega) with rfl | rfl | rfl
      · show Ln v (3 * p) = 0; omega
      · omega
      · omega
    rw [this]; rfl
  refine ⟨wfG_c (nl 0 (by omega)) (nl 1 (by omega)) (nl 2 (by omega)) (nl 5 (by omega)) hG, fun p' r' k f h1 h2 hk => ?_, fun p' k f h1 hk hn => ?_, cfL_c (fun _ _ => nt _ _ _ _ (by omega) (by omega)) (fun p' c h1 h2 => np p' _ h1 (by omega) (by omega)) hLs, cfD_c (nt _ _ _ _ (by omega) (by omega)) (fun k' _ _ _ _ => nt _ _ _ _ (by omega) (by omega)) (fun i hi => nl i (by omega)) hDd, cfR_c (fun k' => nt _ _ _ _ (by omega) (by omega)) (fun i _ hi => nl i (by omega)) hRf, fun p' h1 => ?_, fun q hq => ?_, fun p' r' h1 h2 => ?_, wfN_c (fun p' f h0 h1 h2 => np p' f h1 (by omega) (by omega)) (fun p' r' f h0 h1 h2 h3 h4 => nq _ f (by omega) (by omega) (by omega)) wN, MW_of (MX_c hN h8 (MX_of hM)) (mwA_c hN (fun q hq => by rw [nq q 6 hq (by omega) (by omega), nq q 7 hq (by omega) (by omega), nq q 8 hq (by omega) (by omega)]) (MX_of hM) hM.2.2.2.2.2.2.2.2.2), RX_c hN h8 hx (MX_of hM) hX, gr_c h6 (nt _ _ _ _ (by omega) (by omega)) (nt _ _ _ _ (by omega) (by omega)) (fun p' h1 => ⟨np p' 2 h1 (by omega) (by omega), np p' 3 h1 (by omega) (by omega)⟩) (nl 10 (by omega)) hg, wfS_c h6 (nl 0 (by omega)) (fun p' f h1 h2 => np p' f h1 (by omega) (by omega)) (fun q f h1 h2 h3 => nq q f h1 (by omega) (by omega)) hS, fun p' r' h1 h2 => by rw [nt _ _ _ _ (by omega) (by omega)]; exact hpr p' r' h1 h2, ?_⟩
  · have hk' := qm_lt hk
    by_cases e : p' = p ∧ r' = r ∧ k = 6
    · obtain ⟨rfl, rfl, rfl⟩ := e
      have : f = 5 := by simp only [qm, Option.some.injEq] at hk; exact hk.symm
      subst this
      rw [e5, idT_n (by omega), zdT, e15 r' h2]
      by_cases z : v (iq (3 * p' + r') 12) = 0
      · rw [if_pos z, if_pos z, ds_s]
      · rw [if_neg z, if_neg z]; exact hQ p' r' 6 5 h1 h2 rfl
    · rw [nt _ _ _ _ (by omega) (by omega), nq _ f (by omega) (by omega) (by
        by_cases y : f = 5
        · subst y
          have : k = 6 := qm_inj hk (show qm 6 = some 5 from rfl)
          omega
        · exact Or.inr y)]
      exact hQ p' r' k f h1 h2 hk
  · have hk' := pm_lt hk
    by_cases e : p' = p ∧ (k = 8 ∨ k = 9)
    · obtain ⟨rfl, rfl | rfl⟩ := e
      · have : f = 6 := by simp only [pm, Option.some.injEq] at hk; exact hk.symm
        subst this
        by_cases z : s3 (zdV v (3 * p' + r)) p' 12 ≤ 0
        · rw [(et.1 z).1, (ep.1 z).1]
        · rw [(et.2 z).1, (ep.2 z).1]; exact hPp p' 8 6 h1 rfl hn
      · have : f = 7 := by simp only [pm, Option.some.injEq] at hk; exact hk.symm
        subst this
        by_cases z : s3 (zdV v (3 * p' + r)) p' 12 ≤ 0
        · rw [(et.1 z).2, (ep.1 z).2]
        · rw [(et.2 z).2, (ep.2 z).2]; exact hPp p' 9 7 h1 rfl hn
    · rw [nt _ _ _ _ (by omega) (by omega), np p' f h1 (by omega) (by
        by_cases y : p' = p
        · refine Or.inr ⟨fun z => ?_, fun z => ?_, fun z => ?_⟩
          · have : k = 7 := pm_inj hk (show pm 7 = some f from by rw [z]; rfl)
            omega
          · have : k = 8 := pm_inj hk (show pm 8 = some f from by rw [z]; rfl)
            omega
          · have : k = 9 := pm_inj hk (show pm 9 = some f from by rw [z]; rfl)
            omega
        · exact Or.inl y)]
      exact hPp p' k f h1 hk hn
  · obtain ⟨a1, a2, a3, a4, a5, a6, a7, a8⟩ := wP p' h1
    rw [np p' 0 h1 (by omega) (by omega), np p' 1 h1 (by omega) (by omega), np p' 2 h1 (by omega) (by omega), np p' 5 h1 (by omega) (by omega), np p' 8 h1 (by omega) (by omega)]
    refine ⟨a1, a2, a3, fun e => by rw [np p' 4 h1 (by omega) (Or.inl e)]; exact a4 e, a5, ?_, ?_, a8⟩
    · by_cases e : p' = p
      · subst e
        by_cases z : s3 (zdV v (3 * p' + r)) p' 12 ≤ 0
        · rw [(ep.1 z).1]; exact ⟨by decide, by decide⟩
        · rw [(ep.2 z).1]; exact a6
      · rw [np p' 6 h1 (by omega) (Or.inl e)]; exact a6
    · by_cases e : p' = p
      · subst e
        by_cases z : s3 (zdV v (3 * p' + r)) p' 12 ≤ 0
        · rw [(ep.1 z).2]; rfl
        · rw [(ep.2 z).2]; exact a7
      · rw [np p' 7 h1 (by omega) (Or.inl e)]; exact a7
  · obtain ⟨a0, a1, a2, a3, a4, a5, a6, a7, a8, a9, a10⟩ := wQ q hq
    rw [nq q 0 hq (by omega) (by omega), nq q 1 hq (by omega) (by omega), nq q 2 hq (by omega) (by omega), nq q 3 hq (by omega) (by omega), nq q 4 hq (by omega) (by omega), nq q 6 hq (by omega) (by omega), nq q 7 hq (by omega) (by omega), nq q 8 hq (by omega) (by omega), nq q 9 hq (by omega) (by omega), nq q 10 hq (by omega) (by omega)]
    refine ⟨a0, a1, a2, a3, a4, ?_, a6, a7, a8, a9, a10⟩
    by_cases e : q = 3 * p + r
    · subst e
      rw [e5]
      split
      · exact ⟨by decide, by decide⟩
      · exact a5
    · rw [nq q 5 hq (by omega) (Or.inl e)]; exact a5
  · obtain ⟨t1, t2⟩ := wT p' r' h1 h2
    rw [nq _ 12 (by omega) (by omega) (by omega)]
    by_cases e : p' = p
    · subst e
      have t1' : v (iq (3 * p' + r') 12) = 0 → idV (zdV v (3 * p' + r)) p' (iq (3 * p' + r') 5) = 0 := fun z => by
        by_cases er : r' = r
        · subst er; rw [e5, if_pos z]
        · rw [nq _ 5 (by omega) (by omega) (by omega)]; exact t1 (Or.inr er) z
      refine ⟨t1', fun y => ?_⟩
      by_cases z : s3 (zdV v (3 * p' + r)) p' 12 ≤ 0
      · rw [t1' (hid z r' h2)]; decide
      · rw [(ep.2 z).1, (ep.2 z).2] at y
        by_cases er : r' = r
        · subst er; rw [e5]; split
          · decide
          · exact t2 y
        · rw [nq _ 5 (by omega) (by omega) (by omega)]; exact t2 y
    · rw [nq _ 5 (by omega) (by omega) (by omega), np p' 6 h1 (by omega) (Or.inl e), np p' 7 h1 (by omega) (Or.inl e)]
      exact ⟨t1 (Or.inl e), t2⟩
  · rw [nl 4 (by omega), nl 10 (by omega)]
    exact ⟨b1, b2, b3, b4⟩
