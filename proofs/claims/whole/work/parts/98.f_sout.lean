/-! ===== a packet leaves: the invariant is kept ===== -/
def Nn (v : xV) (p : Nat) : Nat := Ln v (3 * p) + Ln v (3 * p + 1) + Ln v (3 * p + 2)
theorem LO_of {τ : xD} {v : xV} {b C P p q j : Nat} (h : RY τ v b C P p) (hq : q < 18) (hj : j < Ln v q) : LO v q j C := ⟨MX_of h.2.2.2.2.2.2.2.2.2.2.1, hq, hj, h.1.2.2.1⟩
theorem out_x {τ : xD} {v : xV} {b C P p q j : Nat} (h : RY τ v b C P p) (hq : q < 18) (hj : j < Ln v q) : v (ik (Sl v q j) 1) = nI (Sz v (Sl v q j)) ∧ 1 ≤ Sz v (Sl v q j) ∧ Sz v (Sl v q j) ≤ 12 ∧ v (iq q 6) + v (iq q 7) + v (iq q 8) = nI (nsum (fun i => Sz v (Sl v q (skp j i))) (Ln v q - 1) + Sz v (Sl v q j)) ∧ nsum (fun i => Sz v (Sl v q (skp j i))) (Ln v q - 1) + Sz v (Sl v q j) ≤ 128 ∧ rg (le6 v q (v (ik (Sl v q j) 1))) 0 (v (iq q 6)) ∧ rg (le7 v q (v (ik (Sl v q j) 1))) 0 (v (iq q 7)) ∧ rg (le8 v q (v (ik (Sl v q j) 1))) 0 (v (iq q 8)) ∧ le6 v q (v (ik (Sl v q j) 1)) = v (ik (Sl v q j) 1) - le8 v q (v (ik (Sl v q j) 1)) - le7 v q (v (ik (Sl v q j) 1)) := by
  have hL := LO_of h hq hj
  have hk := LO_k hL
  obtain ⟨hG, hQ, hPp, hLs, hDd, hRf, wP, wQ, wT, wN, hM, hX, hg, hS, hpr, b1, b2, b3, b4⟩ := h
  obtain ⟨a1, a2, a3, -⟩ := hM.2.2.2.2.1 _ hk.1 hk.2
  obtain ⟨s1, s2⟩ := hM.2.2.2.2.2.2.2.2.2 q hq
  rw [nsum_skip (fun i => Sz v (Sl v q i)) hj] at s1 s2
  obtain ⟨-, -, -, -, -, -, w6, w7, w8, -⟩ := wQ q hq
  have hle := le_sum (v := v) (q := q) (x := v (ik (Sl v q j) 1)) w6 w7 w8 (by rw [a1]; exact nI_pos' (by omega)) (by rw [a1, s1]; exact nI_le (by omega) (by omega)) (by rw [s1]; exact nI_le (b := 128) s2 (by omega))
  exact ⟨a1, a2, a3, s1, s2, hle⟩
theorem core_out {τ : xD} {v : xV} {b C P p r j : Nat} (h : RY τ v b C P p) (hp : p < P) (hr : r < 3) (hj : j < Ln v (3 * p + r)) : RZ (ot0 τ p r (Fs v (Sl v (3 * p + r) j)) (Fl v (Sl v (3 * p + r) j)) (Pn v (Sl v (3 * p + r) j))) (lvV v (3 * p + r) j C) b C P p r := by
  have h6 := h.1.2.2.2.2.2.1
  have hp6 : p < 6 := by omega
  have hq : 3 * p + r < 18 := by omega
  have hL := LO_of h hq hj
  have hk := LO_k hL
  have hLn := LO_L hL
  obtain ⟨x1, x2, x3, x4, x5, l6, l7, l8, le⟩ := out_x h hq hj
  obtain ⟨hG, hQ, hPp, hLs, hDd, hRf, wP, wQ, wT, wN, hM, hX, hg, hS, hpr, b1, b2, b3, b4⟩ := h
  have h8 := hG.2.2.1
  have ev := lv_6 hL
  have e6 : τ 6 0 0 (Fs v (Sl v (3 * p + r) j) 0) = v (ik (Sl v (3 * p + r) j) 1) := (hX.2.1 _ hk.1 hk.2).2.1
  have c12 : τ 16 p r 12 = v (iq (3 * p + r) 8) := hQ p r 12 8 hp6 hr rfl
  have c11 : τ 16 p r 11 = v (iq (3 * p + r) 7) := hQ p r 11 7 hp6 hr rfl
  have c10 : τ 16 p r 10 = v (iq (3 * p + r) 6) := hQ p r 10 6 hp6 hr rfl
  have c15 : τ 16 p r 15 = v (iq (3 * p + r) 12) := hQ p r 15 12 hp6 hr rfl
  have nq : ∀ q f, q < 18 → f < 16 → (q ≠ 3 * p + r ∨ (f ≠ 6 ∧ f ≠ 7 ∧ f ≠ 8 ∧ f ≠ 12)) → lvV v (3 * p + r) j C (iq q f) = v (iq q f) := fun q f a1 a2 a3 => lv_q hL a1 a2 a3
  have nl : ∀ i, i < 160 → lvV v (3 * p + r) j C i = v i := fun i a => lv_lo hL a
  have np : ∀ p' f, p' < 6 → f < 24 → lvV v (3 * p + r) j C (ip p' f) = v (ip p' f) := fun p' f a1 a2 => nl _ (by simp only [ip]; omega)
  have nt : ∀ K p' r' k, (K ≠ 16 ∨ p' ≠ p ∨ r' ≠ r ∨ (k ≠ 10 ∧ k ≠ 11 ∧ k ≠ 12 ∧ k ≠ 13 ∧ k ≠ 14 ∧ k ≠ 15)) → (K ≠ 2 ∧ K ≠ 8 ∧ K ≠ 9 ∧ K ≠ 5) → ot0 τ p r (Fs v (Sl v (3 * p + r) j)) (Fl v (Sl v (3 * p + r) j)) (Pn v (Sl v (3 * p + r) j)) K p' r' k = τ K p' r' k := fun K p' r' k a1 a2 => ot0_n a1 (by omega) (by omega)
  have wG' : wfG (lvV v (3 * p + r) j C) C P := wfG_c (nl 0 (by omega)) (nl 1 (by omega)) (nl 2 (by omega)) (nl 5 (by omega)) hG
  have wP' : wfPx (lvV v (3 * p + r) j C) p := fun p' h1 => by
    obtain ⟨a1, a2, a3, a4, a5, a6, a7, a8⟩ := wP p' h1
    rw [np p' 0 h1 (by omega), np p' 1 h1 (by omega), np p' 2 h1 (by omega), np p' 4 h1 (by omega), np p' 5 h1 (by omega), np p' 6 h1 (by omega), np p' 7 h1 (by omega), np p' 8 h1 (by omega)]
    exact ⟨a1, a2, a3, a4, a5, a6, a7, a8⟩
  have wQ' : wfQ (lvV v (3 * p + r) j C) := fun q h1 => by
    have w := wQ q h1
    by_cases e : q = 3 * p + r
    · subst e
      obtain ⟨a0, a1, a2, a3, a4, a5, a6, a7, a8, a9, a10⟩ := w
      rw [nq _ 0 h1 (by omega) (by omega), nq _ 1 h1 (by omega) (by omega), nq _ 2 h1 (by omega) (by omega), nq _ 3 h1 (by omega) (by omega), nq _ 4 h1 (by omega) (by omega), nq _ 5 h1 (by omega) (by omega), nq _ 9 h1 (by omega) (by omega), nq _ 10 h1 (by omega) (by omega), ev.1, ev.2.1, ev.2.2]
      unfold rg at *
      refine ⟨a0, a1, a2, a3, a4, a5, ?_, ?_, ?_, a9, a10⟩
      · grind
      · grind
      · grind
    · rw [nq _ 0 h1 (by omega) (Or.inl e), nq _ 1 h1 (by omega) (Or.inl e), nq _ 2 h1 (by omega) (Or.inl e), nq _ 3 h1 (by omega) (Or.inl e), nq _ 4 h1 (by omega) (Or.inl e), nq _ 5 h1 (by omega) (Or.inl e), nq _ 6 h1 (by omega) (Or.inl e), nq _ 7 h1 (by omega) (Or.inl e), nq _ 8 h1 (by omega) (Or.inl e), nq _ 9 h1 (by omega) (Or.inl e), nq _ 10 h1 (by omega) (Or.inl e)]
      exact w
  have s3e : ∀ p' f, p' < 6 → f < 16 → (p' ≠ p ∨ (f ≠ 6 ∧ f ≠ 7 ∧ f ≠ 8 ∧ f ≠ 12)) → s3 (lvV v (3 * p + r) j C) p' f = s3 v p' f := fun p' f a1 a2 a3 => by
    simp only [s3]
    rw [nq (3 * p') f (by omega) a2 (by omega), nq (3 * p' + 1) f (by omega) a2 (by omega), nq (3 * p' + 2) f (by omega) a2 (by omega)]
  have s3p : ∀ f y, f < 16 → lvV v (3 * p + r) j C (iq (3 * p + r) f) = v (iq (3 * p + r) f) - y → s3 (lvV v (3 * p + r) j C) p f = s3 v p f - y := fun f y a2 a3 => by
    simp only [s3]
    rcases (show r = 0 ∨ r = 1 ∨ r = 2 by omega) with rfl | rfl | rfl
    · rw [nq (3 * p + 1) f (by omega) a2 (by omega), nq (3 * p + 2) f (by omega) a2 (by omega)]
      have a3' : lvV v (3 * p + 0) j C (iq (3 * p) f) = v (iq (3 * p) f) - y := a3
      rw [a3']; grind
    · rw [nq (3 * p) f (by omega) a2 (by omega), nq (3 * p + 2) f (by omega) a2 (by omega), a3]; grind
    · rw [nq (3 * p) f (by omega) a2 (by omega), nq (3 * p + 1) f (by omega) a2 (by omega), a3]; grind
  have emf := mFree_up (v := v) (v' := lvV v (3 * p + r) j C) hp (nl 0 (by omega)) (fun p' f a1 a2 a3 => np p' f (by omega) (by omega)) (fun p' r' a1 a2 a3 => nq _ 7 (by omega) (by omega) (by omega))
  rw [np p 0 hp6 (by omega), np p 1 hp6 (by omega), np p 2 hp6 (by omega), s3p 7 _ (by omega) ev.2.1] at emf
  have wS' : wfS (lvV v (3 * p + r) j C) P := by
    refine ⟨fun p' h1 => ?_, ?_, wfPx_free wG' wP' wQ' hp6⟩
    · have hs := hS.1 p' h1
      rw [np p' 0 h1 (by omega), np p' 1 h1 (by omega), np p' 2 h1 (by omega)]
      by_cases e : p' = p
      · subst e
        rw [s3p 6 _ (by omega) ev.1, s3p 8 _ (by omega) ev.2.2]
        have a0 := wQ (3 * p') (by omega)
        have a1 := wQ (3 * p' + 1) (by omega)
        have a2 := wQ (3 * p' + 2) (by omega)
        have a6 := a0.2.2.2.2.2.2.1
        have b6 := a1.2.2.2.2.2.2.1
        have d6 := a2.2.2.2.2.2.2.1
        have a8 := a0.2.2.2.2.2.2.2.2.1
        have b8 := a1.2.2.2.2.2.2.2.2.1
        have d8 := a2.2.2.2.2.2.2.2.2.1
        have w6 := (wQ (3 * p' + r) hq).2.2.2.2.2.2.1
        have w8 := (wQ (3 * p' + r) hq).2.2.2.2.2.2.2.2.1
        simp only [s3] at hs ⊢
        unfold rg at *
        constructor
        · have := hs.1
          grind
        · have := hs.2
          grind
      · rw [s3e p' 6 h1 (by omega) (Or.inl e), s3e p' 8 h1 (by omega) (Or.inl e)]
        exact hs
    · rw [emf]
      have w7 := (wQ (3 * p + r) hq).2.2.2.2.2.2.2.1
      have := hS.2
      unfold rg at *
      have e : mFree v P + (v (ip p 0) + v (ip p 2) + v (ip p 1) + s3 v p 7) - (v (ip p 0) + v (ip p 2) + v (ip p 1) + (s3 v p 7 - le7 v (3 * p + r) (v (ik (Sl v (3 * p + r) j) 1)))) = mFree v P + le7 v (3 * p + r) (v (ik (Sl v (3 * p + r) j) 1)) := by grind
      rw [e]
      grind
  refine ⟨wG', fun p' r' k f h1 h2 hk' => ?_, fun p' k f h1 hk' hn => ?_, cfL_c (fun _ _ => nt _ _ _ _ (by omega) (by omega)) (fun p' c h1 h2 => np p' _ h1 (by omega)) hLs, cfD_c (nt _ _ _ _ (by omega) (by omega)) (fun k' _ _ _ _ => nt _ _ _ _ (by omega) (by omega)) (fun i hi => nl i (by omega)) hDd, cfR_c (fun k' => nt _ _ _ _ (by omega) (by omega)) (fun i _ hi => nl i (by omega)) hRf, wP', wQ', fun p' r' h1 h2 => ?_, wfN_c (fun p' f h0 h1 h2 => np p' f h1 (by omega)) (fun p' r' f h0 h1 h2 h3 h4 => nq _ f (by omega) (by omega) (by omega)) wN, MW_of (MX_lv hL) (fun q h1 => ?_), RX_out hL hX hp6 hr, gr_c h6 (nt _ _ _ _ (by omega) (by omega)) (nt _ _ _ _ (by omega) (by omega)) (fun p' h1 => ⟨np p' 2 h1 (by omega), np p' 3 h1 (by omega)⟩) (nl 10 (by omega)) hg, wS', fun p' r' h1 h2 => by rw [nt _ _ _ _ (by omega) (by omega)]; exact hpr p' r' h1 h2, ?_⟩
  · have hkl := qm_lt hk'
    by_cases e : p' = p ∧ r' = r
    · obtain ⟨rfl, rfl⟩ := e
      by_cases z : k = 10 ∨ k = 11 ∨ k = 12 ∨ k = 15
      · rcases z with rfl | rfl | rfl | rfl
        · have : f = 6 := by simp only [qm, Option.some.injEq] at hk'; exact hk'.symm
          subst this
          rw [ot0_10 (by omega), ev.1, gbT, ds_s, e6, c12, c11, c10, le]
          rfl
        · have : f = 7 := by simp only [qm, Option.some.injEq] at hk'; exact hk'.symm
          subst this
          rw [ot0_10 (by omega), ev.2.1, gbT, ds_n (by omega), ds_s, e6, c12, c11]
          rfl
        · have : f = 8 := by simp only [qm, Option.some.injEq] at hk'; exact hk'.symm
          subst this
          rw [ot0_10 (by omega), ev.2.2, gbT, ds_n (by omega), ds_n (by omega), ds_s, e6, c12]
          rfl
        · have : f = 12 := by simp only [qm, Option.some.injEq] at hk'; exact hk'.symm
          subst this
          rw [ot0_15, lv_12 hL, c15, hLn.1]
          obtain ⟨M, e⟩ : ∃ M, Ln v (3 * p' + r') = M + 1 := ⟨Ln v (3 * p' + r') - 1, by omega⟩
          rw [e, nI_pred, Nat.add_sub_cancel]
      · rw [nt _ _ _ _ (by omega) (by omega), nq _ f (by omega) (by omega) (Or.inr ⟨fun y => ?_, fun y => ?_, fun y => ?_, fun y => ?_⟩)]
        · exact hQ p' r' k f h1 h2 hk'
        · have : k = 10 := qm_inj hk' (show qm 10 = some f from by rw [y]; rfl)
          omega
        · have : k = 11 := qm_inj hk' (show qm 11 = some f from by rw [y]; rfl)
          omega
        · have : k = 12 := qm_inj hk' (show qm 12 = some f from by rw [y]; rfl)
          omega
        · have : k = 15 := qm_inj hk' (show qm 15 = some f from by rw [y]; rfl)
          omega
    · rw [nt _ _ _ _ (by omega) (by omega), nq _ f (by omega) (by omega) (by omega)]
      exact hQ p' r' k f h1 h2 hk'
  · have hkl := pm_lt hk'
    rw [nt _ _ _ _ (by omega) (by omega), np p' f h1 (by omega)]
    exact hPp p' k f h1 hk' hn
  · have t := wT p' r' h1 h2
    rw [nq _ 5 (by omega) (by omega) (by omega), np p' 6 h1 (by omega), np p' 7 h1 (by omega)]
    refine ⟨fun e z => ?_, t.2⟩
    rw [nq _ 12 (by omega) (by omega) (Or.inl (by omega))] at z
    exact t.1 z
  · have hMX := hL.1
    by_cases e : q = 3 * p + r
    · subst e
      rw [lv_Ln hL, ev.1, ev.2.1, ev.2.2]
      have en : nsum (fun i => Sz (lvV v (3 * p + r) j C) (Sl (lvV v (3 * p + r) j C) (3 * p + r) i)) (Ln v (3 * p + r) - 1) = nsum (fun i => Sz v (Sl v (3 * p + r) (skp j i))) (Ln v (3 * p + r) - 1) := nsum_c (fun i hi => by
        have := hMX.2.1 _ _ hq (skp_lt (j := j) hi)
        rw [lv_Sl hL hi, lv_Sz hL this.2.1])
      rw [en]
      refine ⟨?_, by omega⟩
      have e2 : v (iq (3 * p + r) 6) - le6 v (3 * p + r) (v (ik (Sl v (3 * p + r) j) 1)) + (v (iq (3 * p + r) 7) - le7 v (3 * p + r) (v (ik (Sl v (3 * p + r) j) 1))) + (v (iq (3 * p + r) 8) - le8 v (3 * p + r) (v (ik (Sl v (3 * p + r) j) 1))) = v (iq (3 * p + r) 6) + v (iq (3 * p + r) 7) + v (iq (3 * p + r) 8) - v (ik (Sl v (3 * p + r) j) 1) := by
        rw [le]; grind
      rw [e2, x4, x1, nI_subN (by omega), Nat.add_sub_cancel]
    · have hLq := hMX.1 q h1
      rw [lv_Ln' hL h1 e, nq _ 6 h1 (by omega) (Or.inl e), nq _ 7 h1 (by omega) (Or.inl e), nq _ 8 h1 (by omega) (Or.inl e)]
      have en : nsum (fun i => Sz (lvV v (3 * p + r) j C) (Sl (lvV v (3 * p + r) j C) q i)) (Ln v q) = nsum (fun i => Sz v (Sl v q i)) (Ln v q) := nsum_c (fun i hi => by
        have := hMX.2.1 _ _ h1 hi
        rw [lv_Sl' hL h1 (by omega) e, lv_Sz hL this.2.1])
      rw [en]
      exact hM.2.2.2.2.2.2.2.2.2 q h1
  · rw [nl 4 (by omega), nl 10 (by omega)]
    exact ⟨b1, b2, b3, b4⟩
/-- what is so behind a packet's leaving -/
def OutF (τ τ' : xD) (v v' : xV) (p r j : Nat) : Prop :=
  (∀ i, i < 160 → i ≠ ip p 4 → i ≠ ip p 6 → i ≠ ip p 7 → v' i = v i) ∧
  (∀ q f, q < 18 → f < 16 → (q ≠ 3 * p + r ∨ (f ≠ 5 ∧ f ≠ 6 ∧ f ≠ 7 ∧ f ≠ 8 ∧ f ≠ 12)) → v' (iq q f) = v (iq q f)) ∧
  (v' (iq (3 * p + r) 6) = v (iq (3 * p + r) 6) - le6 v (3 * p + r) (v (ik (Sl v (3 * p + r) j) 1)) ∧ v' (iq (3 * p + r) 7) = v (iq (3 * p + r) 7) - le7 v (3 * p + r) (v (ik (Sl v (3 * p + r) j) 1)) ∧ v' (iq (3 * p + r) 8) = v (iq (3 * p + r) 8) - le8 v (3 * p + r) (v (ik (Sl v (3 * p + r) j) 1))) ∧
  (Ln v' (3 * p + r) = Ln v (3 * p + r) - 1 ∧ ∀ q, q < 18 → q ≠ 3 * p + r → Ln v' q = Ln v q) ∧
  ((∀ i, i < Ln v (3 * p + r) - 1 → Sl v' (3 * p + r) i = Sl v (3 * p + r) (skp j i)) ∧ ∀ q i, q < 18 → i < 128 → q ≠ 3 * p + r → Sl v' q i = Sl v q i) ∧
  (∀ k f, k < 128 → f < 28 → f ≠ 3 → v' (ik k f) = v (ik k f)) ∧
  (v' (iq (3 * p + r) 5) = if Ln v (3 * p + r) = 1 then 0 else v (iq (3 * p + r) 5)) ∧
  ((Nn v p = 1 → v' (ip p 4) = 0 ∧ v' (ip p 6) = 0 ∧ v' (ip p 7) = 1 ∧ τ' 13 p 0 7 = 0) ∧ (Nn v p ≠ 1 → v' (ip p 4) = v (ip p 4) ∧ v' (ip p 6) = v (ip p 6) ∧ v' (ip p 7) = v (ip p 7) ∧ τ' 13 p 0 7 = τ 13 p 0 7)) ∧
  (∀ K p' r' k, (K ≠ 2 ∧ K ≠ 5 ∧ K ≠ 8 ∧ K ≠ 9 ∧ K ≠ 16) → (K ≠ 13 ∨ p' ≠ p ∨ (k ≠ 7 ∧ k ≠ 8 ∧ k ≠ 9)) → τ' K p' r' k = τ K p' r' k) ∧
  (∀ i, 6464 ≤ i → v' i = v i)
theorem S_out {τ : xD} {v : xV} {b C P p r j : Nat} (h : RY τ v b C P p) (hp : p < P) (hr : r < 3) (hj : j < Ln v (3 * p + r)) : ∃ τ' v', (∀ σ d, fX0_takeOut d d p d p r (nI (Fs v (Sl v (3 * p + r) j) 0)) (va_up σ d τ) = some ((), va_up σ d τ')) ∧ (∀ σ, fX6_leaves (nI (3 * p + r)) (nI j) (x_row σ 5 31 0 0 v) = some (v (ik (Sl v (3 * p + r) j) 1), x_row σ 5 31 0 0 (lvV v (3 * p + r) j C))) ∧ v' = idV (zdV (lvV v (3 * p + r) j C) (3 * p + r)) p ∧ RY τ' v' b C P p ∧ OutF τ τ' v v' p r j := by
  have h6 := h.1.2.2.2.2.2.1
  have hp6 : p < 6 := by omega
  have hq : 3 * p + r < 18 := by omega
  have hL := LO_of h hq hj
  have hk := LO_k hL
  have hLn := LO_L hL
  have hX := h.2.2.2.2.2.2.2.2.2.2.2.1
  have hM := hL.1
  have hc := hL.2.2.2
  have hZ := core_out h hp hr hj
  have ev := lv_6 hL
  have kK := hM.2.2.2.2.1 _ hk.1 hk.2
  have cl : ∀ i, i < Ln v (3 * p + r) → Fs v (Sl v (3 * p + r) i) 0 < 128 := fun i h2 => by
    have e := hM.2.1 _ i hq h2
    have y := hM.2.2.2.2.1 _ e.2.1 e.2.2
    have := y.2.2.2.2.2.2.1 0 (by omega)
    omega
  have hce : ∀ i, ce (cellAt v (3 * p + r) i) := fun i => by
    by_cases z : i < Ln v (3 * p + r)
    · rw [cellAt_in z]; exact Or.inr ⟨_, cl i z, rfl⟩
    · rw [cellAt_out z]; exact Or.inl rfl
  obtain ⟨w9, w8⟩ := (hX.1 p r hp6 hr).2.2 j hj
  have xk := hX.2.1 _ hk.1 hk.2
  have hpc : pcs τ (Fs v (Sl v (3 * p + r) j)) (Fl v (Sl v (3 * p + r) j)) (Pn v (Sl v (3 * p + r) j)) := ⟨kK.2.2.2.2.1, kK.2.2.2.2.2.1, fun f hf => by
    have := kK.2.2.2.2.2.2.1 f hf
    have y := xk.2.2.2 f hf
    exact ⟨by omega, this.2.2.1, by rw [y.1, this.2.1], y.2⟩⟩
  refine ⟨_, _, fun σ d => c_takeOut τ hpc (by rw [w8]; split; exact Or.inl rfl; exact hce _) (by rw [w9]; exact hce _), fun σ => m_leaves h.1.1 hc hM hq hj, rfl, settled hZ hp hr, ?_⟩
  have nv : ∀ i, i ≠ 160 + 16 * (3 * p + r) + 5 → i ≠ 16 + 24 * p + 4 → i ≠ 16 + 24 * p + 6 → i ≠ 16 + 24 * p + 7 → idV (zdV (lvV v (3 * p + r) j C) (3 * p + r)) p i = lvV v (3 * p + r) j C i := fun i a1 a2 a3 a4 => by rw [idV_n ⟨a2, a3, a4⟩, zdV_n a1]
  have nt : ∀ K p' r' k, (K ≠ 16 ∨ p' ≠ p ∨ r' ≠ r ∨ k ≠ 6) → (K ≠ 13 ∨ p' ≠ p ∨ (k ≠ 7 ∧ k ≠ 8 ∧ k ≠ 9)) → ∀ t, idT (zdT t p r) p K p' r' k = t K p' r' k := fun K p' r' k a1 a2 t => by rw [idT_n a2, zdT_n a1]
  have nq : ∀ q f, q < 18 → f < 16 → (q ≠ 3 * p + r ∨ f ≠ 5) → idV (zdV (lvV v (3 * p + r) j C) (3 * p + r)) p (iq q f) = lvV v (3 * p + r) j C (iq q f) := fun q f a1 a2 a3 => nv _ (by simp only [iq]; omega) (by simp only [iq]; omega) (by simp only [iq]; omega) (by simp only [iq]; omega)
  have hMl := MX_lv hL
  have hN1 : Nn (lvV v (3 * p + r) j C) p = Nn v p - 1 ∧ 1 ≤ Nn v p := by
    unfold Nn
    rcases (show r = 0 ∨ r = 1 ∨ r = 2 by omega) with rfl | rfl | rfl
    · have e := lv_Ln hL
      rw [lv_Ln' hL (q' := 3 * p + 1) (by omega) (by omega), lv_Ln' hL (q' := 3 * p + 2) (by omega) (by omega)]
      have e' : Ln (lvV v (3 * p + 0) j C) (3 * p) = Ln v (3 * p) - 1 := e
      have j' : j < Ln v (3 * p) := hj
      rw [e']; omega
    · have e := lv_Ln hL
      rw [lv_Ln' hL (q' := 3 * p) (by omega) (by omega), lv_Ln' hL (q' := 3 * p + 2) (by omega) (by omega), e]; omega
    · have e := lv_Ln hL
      rw [lv_Ln' hL (q' := 3 * p) (by omega) (by omega), lv_Ln' hL (q' := 3 * p + 1) (by omega) (by omega), e]; omega
  have hs : (s3 (zdV (lvV v (3 * p + r) j C) (3 * p + r)) p 12 ≤ 0) ↔ Nn v p = 1 := by
    have e : s3 (zdV (lvV v (3 * p + r) j C) (3 * p + r)) p 12 = s3 (lvV v (3 * p + r) j C) p 12 := by
      simp only [s3]
      rw [zdV_n (by simp only [iq]; omega), zdV_n (by simp only [iq]; omega), zdV_n (by simp only [iq]; omega)]
    have q := len_sum hMl hp6
    have q1 : s3 (lvV v (3 * p + r) j C) p 12 = nI (Nn (lvV v (3 * p + r) j C) p) := q.1
    have q2 : Nn (lvV v (3 * p + r) j C) p ≤ 384 := q.2
    rw [e, q1, hN1.1]
    constructor
    · intro z
      by_cases y : Nn v p = 1
      · exact y
      · exact absurd z (nI_nle (by omega) (by omega))
    · intro z; rw [z]; decide
  have hcs : (zdT (ot0 τ p r (Fs v (Sl v (3 * p + r) j)) (Fl v (Sl v (3 * p + r) j)) (Pn v (Sl v (3 * p + r) j))) p r 16 p 0 15 + zdT (ot0 τ p r (Fs v (Sl v (3 * p + r) j)) (Fl v (Sl v (3 * p + r) j)) (Pn v (Sl v (3 * p + r) j))) p r 16 p 1 15 + zdT (ot0 τ p r (Fs v (Sl v (3 * p + r) j)) (Fl v (Sl v (3 * p + r) j)) (Pn v (Sl v (3 * p + r) j))) p r 16 p 2 15 = 0) ↔ Nn v p = 1 := by
    rw [zdT_n (by omega), zdT_n (by omega), zdT_n (by omega), hZ.2.1 p 0 15 12 hp6 (by omega) rfl, hZ.2.1 p 1 15 12 hp6 (by omega) rfl, hZ.2.1 p 2 15 12 hp6 (by omega) rfl]
    have q := len_sum hMl hp6
    have q1 : s3 (lvV v (3 * p + r) j C) p 12 = nI (Nn (lvV v (3 * p + r) j C) p) := q.1
    have q2 : Nn (lvV v (3 * p + r) j C) p ≤ 384 := q.2
    show s3 (lvV v (3 * p + r) j C) p 12 = 0 ↔ _
    rw [q1, hN1.1]
    constructor
    · intro z
      have := nIeq (b := 0) (by omega) (by omega) z
      omega
    · intro z; rw [z]; rfl
  refine ⟨fun i a1 a2 a3 a4 => ?_, fun q f a1 a2 a3 => ?_, ⟨?_, ?_, ?_⟩, ⟨?_, fun q a1 a2 => ?_⟩, ⟨fun i a1 => ?_, fun q i a1 a2 a3 => ?_⟩, fun k f a1 a2 a3 => ?_, ?_, ⟨fun a => ?_, fun a => ?_⟩, fun K p' r' k a1 a2 => ?_, fun i a1 => ?_⟩
  · rw [nv i (by omega) a2 a3 a4, lv_lo hL a1]
  · rw [nq q f a1 a2 (by omega), lv_q hL a1 a2 (by omega)]
  · rw [nq _ 6 hq (by omega) (by omega), ev.1]
  · rw [nq _ 7 hq (by omega) (by omega), ev.2.1]
  · rw [nq _ 8 hq (by omega) (by omega), ev.2.2]
  · rw [Ln, nq _ 12 hq (by omega) (by omega)]; exact lv_Ln hL
  · rw [Ln, nq _ 12 a1 (by omega) (by omega)]; exact lv_Ln' hL a1 a2
  · rw [Sl, nv _ (by simp only [ie]; omega) (by simp only [ie]; omega) (by simp only [ie]; omega) (by simp only [ie]; omega)]
    exact lv_Sl hL a1
  · rw [Sl, nv _ (by simp only [ie]; omega) (by simp only [ie]; omega) (by simp only [ie]; omega) (by simp only [ie]; omega)]
    exact lv_Sl' hL a1 a2 a3
  · rw [nv _ (by simp only [ik]; omega) (by simp only [ik]; omega) (by simp only [ik]; omega) (by simp only [ik]; omega)]
    exact lv_k hL a1 a2 (Or.inr a3)
  · rw [idV_n ⟨by simp only [iq]; omega, by simp only [iq]; omega, by simp only [iq]; omega⟩, zdV, lv_12 hL]
    by_cases z : Ln v (3 * p + r) = 1
    · rw [if_pos z, if_pos (by rw [z]; rfl), up_s]
    · rw [if_neg z, if_neg (nI_ne0 (by omega) (by omega)), lv_q hL hq (by omega) (Or.inr (by omega))]
  · refine ⟨?_, ?_, ?_, ?_⟩
    · rw [idV, if_pos (hs.mpr a), up_n _ _ (pp (by omega) (by omega) (by omega)), up_n _ _ (pp (by omega) (by omega) (by omega)), up_s]
    · rw [idV, if_pos (hs.mpr a), up_n _ _ (pp (by omega) (by omega) (by omega)), up_s]
    · rw [idV, if_pos (hs.mpr a), up_s]
    · show idT (zdT (ot0 τ p r (Fs v (Sl v (3 * p + r) j)) (Fl v (Sl v (3 * p + r) j)) (Pn v (Sl v (3 * p + r) j))) p r) p 13 p 0 7 = 0
      rw [idT, if_pos (hcs.mpr a), rsT, ds_n (by omega), ds_n (by omega), ds_s]
  · refine ⟨?_, ?_, ?_, ?_⟩
    · rw [idV, if_neg (fun z => a (hs.mp z)), zdV_n (by simp only [ip]; omega), lv_lo hL (by simp only [ip]; omega)]
    · rw [idV, if_neg (fun z => a (hs.mp z)), zdV_n (by simp only [ip]; omega), lv_lo hL (by simp only [ip]; omega)]
    · rw [idV, if_neg (fun z => a (hs.mp z)), zdV_n (by simp only [ip]; omega), lv_lo hL (by simp only [ip]; omega)]
    · show idT (zdT (ot0 τ p r (Fs v (Sl v (3 * p + r) j)) (Fl v (Sl v (3 * p + r) j)) (Pn v (Sl v (3 * p + r) j))) p r) p 13 p 0 7 = _
      rw [idT, if_neg (fun z => a (hcs.mp z)), zdT_n (by omega), ot0_n (by omega) (by omega) (by omega)]
  · show idT (zdT (ot0 τ p r (Fs v (Sl v (3 * p + r) j)) (Fl v (Sl v (3 * p + r) j)) (Pn v (Sl v (3 * p + r) j))) p r) p K p' r' k = _
    rw [nt _ _ _ _ (by omega) a2, ot0_n (by omega) (by omega) (by omega)]
  · rw [nv i (by omega) (by omega) (by omega) (by omega), lv_hi hL a1]
