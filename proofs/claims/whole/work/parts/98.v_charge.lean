/-! ===== cells are counted ===== -/
theorem used_gen2 {v : xV} {C P : Nat} {u : Nat → Nat} (hG : wfG v C P) (wP : wfP v) (wQ : ∀ q, q < 18 → rg (v (iq q 6)) 0 140 ∧ rg (v (iq q 7)) 0 140 ∧ rg (v (iq q 8)) 0 140) (hS : wfS v P) (hu : ∀ q, q < 18 → v (iq q 6) + v (iq q 7) + v (iq q 8) = nI (u q) ∧ u q ≤ 200) (hz : ∀ p r, P ≤ p → p < 6 → r < 3 → u (3 * p + r) = 0) : nsum u 18 ≤ C := by
  obtain ⟨h0, -, h8, -, -, h6, -⟩ := hG
  have eT : ∀ p, p < 6 → s3 v p 6 + s3 v p 8 + s3 v p 7 = nI (u (3 * p) + u (3 * p + 1) + u (3 * p + 2)) := fun p hp => by
    have a := (hu (3 * p) (by omega)).1
    have b := (hu (3 * p + 1) (by omega)).1
    have c := (hu (3 * p + 2) (by omega)).1
    rw [← nI_add, ← nI_add, ← a, ← b, ← c]
    simp only [s3]
    grind
  have hle := sm32_le (f := fun p => s3 v p 6 + s3 v p 8 + s3 v p 7) (g := fun p => (v (ip p 0) + v (ip p 2) + v (ip p 1)) + s3 v p 7) P h6 (fun p hp => by
    obtain ⟨w0, w1, w2, -⟩ := wP p (by omega)
    have hs := hS.1 p (by omega)
    have x0 := wQ (3 * p) (by omega)
    have x1 := wQ (3 * p + 1) (by omega)
    have x2 := wQ (3 * p + 2) (by omega)
    have a6 := x0.1
    have b6 := x1.1
    have c6 := x2.1
    have a7 := x0.2.1
    have b7 := x1.2.1
    have c7 := x2.2.1
    have a8 := x0.2.2
    have b8 := x1.2.2
    have c8 := x2.2.2
    have k6 : 0 ≤ s3 v p 6 ∧ s3 v p 6 ≤ 420 := by simp only [s3]; unfold rg at *; grind
    have k7 : 0 ≤ s3 v p 7 ∧ s3 v p 7 ≤ 420 := by simp only [s3]; unfold rg at *; grind
    have k8 : 0 ≤ s3 v p 8 ∧ s3 v p 8 ≤ 420 := by simp only [s3]; unfold rg at *; grind
    have hs1 := hs.1
    have hs2 := hs.2
    show 0 ≤ s3 v p 6 + s3 v p 8 + s3 v p 7 ∧ s3 v p 6 + s3 v p 8 + s3 v p 7 ≤ (v (ip p 0) + v (ip p 2) + v (ip p 1)) + s3 v p 7 ∧ (v (ip p 0) + v (ip p 2) + v (ip p 1)) + s3 v p 7 ≤ 600
    unfold rg at *
    generalize s3 v p 6 = s6 at *
    generalize s3 v p 7 = s7 at *
    generalize s3 v p 8 = s8 at *
    grind)
  have e1 : sm32 (fun p => s3 v p 6 + s3 v p 8 + s3 v p 7) P = nI (nsum (fun p => u (3 * p) + u (3 * p + 1) + u (3 * p + 2)) P) := by
    rw [← sm32_nI]
    exact sm32_congr (fun k hk => eT k (by omega))
  have e2 := sm32_add (fun p => v (ip p 0) + v (ip p 2) + v (ip p 1)) (fun p => s3 v p 7) P
  have hf := hS.2
  rw [mFree, mPool, h0] at hf
  have hc : nI C ≤ 128 := nI_le (b := 128) (by omega) (by omega)
  have hc0 : 0 ≤ nI C := nI_pos' (by omega)
  have h3600 : nI (600 * P) ≤ 3600 := nI_le (b := 3600) (by omega) (by omega)
  rw [e1] at hle
  have hfin : nI (nsum (fun p => u (3 * p) + u (3 * p + 1) + u (3 * p + 2)) P) ≤ nI C := by
    rw [e2] at hle
    generalize sm32 (fun p => v (ip p 0) + v (ip p 2) + v (ip p 1)) P = A at *
    generalize sm32 (fun p => s3 v p 7) P = B at *
    generalize nI (nsum (fun p => u (3 * p) + u (3 * p + 1) + u (3 * p + 2)) P) = T at *
    grind
  have hb : nsum (fun p => u (3 * p) + u (3 * p + 1) + u (3 * p + 2)) P ≤ 600 * P := nsum_le P (fun p hp => by
    have a := (hu (3 * p) (by omega)).2
    have b := (hu (3 * p + 1) (by omega)).2
    have c := (hu (3 * p + 2) (by omega)).2
    show u (3 * p) + u (3 * p + 1) + u (3 * p + 2) ≤ 600
    omega)
  have e18 : nsum u 18 = nsum (fun p => u (3 * p) + u (3 * p + 1) + u (3 * p + 2)) 6 := nsum_3 u 6
  rw [e18, nsum_ext 6 h6 (fun p h1 h2 => ?_)]
  · exact (nI_leI (by omega) (by omega)).mp hfin
  · have z0 : u (3 * p) = 0 := hz p 0 h1 h2 (by omega)
    show u (3 * p) + u (3 * p + 1) + u (3 * p + 2) = 0
    rw [z0, hz p 1 h1 h2 (by omega), hz p 2 h1 h2 (by omega)]
theorem S_enter {τ : xD} {v : xV} {b C P p r sz : Nat} (h : RC τ v b C P p r sz) (hp : p < P) (hr : r < 3) (h1 : 1 ≤ sz) (h12 : sz ≤ 12) (hb : b + 1 < 2 ^ 31) : ∃ c τa τb v', (∀ σ d, fX1_place d (τ 0 0 0 5) (nI sz) (va_up σ d τ) = some (nI c, va_up σ d τa)) ∧ (∀ σ d, fX1_joinQueue d d p r (nI c) (va_up σ d τa) = some ((), va_up σ d τb)) ∧ τb 0 0 0 5 = τ 0 0 0 5 ∧ (∀ σ, fX6_enters (nI (3 * p + r)) (nI sz) (x_row σ 5 31 0 0 v) = some ((), x_row σ 5 31 0 0 v')) ∧ v' 4 = v 4 + 1 ∧ (∀ i, i < 160 → i ≠ 4 → v' i = v i) ∧ (∀ q f, q < 18 → f < 12 → v' (iq q f) = v (iq q f)) ∧ (∀ i, 6464 ≤ i → v' i = v i) ∧ RW (dset τb 0 0 0 5 (τ 0 0 0 5 + 1)) v' (b + 1) C P := by
  obtain ⟨k, m, s, l, τa, τb, v', k1, k2, n1, m1, m12, F1, F2, c1, c2, c3, c4, hE⟩ := S_ent h hp hr h1 h12
  have hEH : EH τ (dset τb 0 0 0 5 (τ 0 0 0 5 + 1)) v v' b C P p r k sz m s l := ⟨h, hp, hr, h1, h12, k1, k2, n1, m1, m12, F1, F2, hE⟩
  have hMX := MX_ent hb hEH
  have hRX := RX_ent hEH
  obtain ⟨⟨fa1, fa2, fa3, fa4⟩, fb, ⟨fc1, fc2⟩, ⟨fd1, fd2⟩, hnu, hL, hne⟩ := EH_fun hEH
  obtain ⟨E1, E2, E3, ⟨E4, E4'⟩, ⟨E5, E5'⟩, ⟨E6, E6'⟩, E7, E8, E9, E10, E11, E12, E13, E14, E15, E16, E17, E18⟩ := hE
  obtain ⟨hG, hQ, hPp, hLs, hDd, hRf, wP, wQ, wT, wN, hM, hA, hX, hg, hS, hpr, b1, b2, b3, b4⟩ := h
  have h6 := hG.2.2.2.2.2.1
  have hp6 : p < 6 := by omega
  have np : ∀ p' f, p' < 6 → f < 24 → v' (ip p' f) = v (ip p' f) := fun p' f x y => E6' _ (by simp only [ip]; omega) (by simp only [ip]; omega)
  have nq : ∀ q f, q < 18 → f < 12 → v' (iq q f) = v (iq q f) := fun q f x y => E5' q f x (by omega) (by omega)
  have nt : ∀ K p' r' k', (K < 2 ∨ 9 < K) → (K ≠ 16 ∨ p' ≠ p ∨ r' ≠ r ∨ (k' ≠ 13 ∧ k' ≠ 14 ∧ k' ≠ 15)) → (K ≠ 0 ∨ k' ≠ 5) → dset τb 0 0 0 5 (τ 0 0 0 5 + 1) K p' r' k' = τ K p' r' k' := E17
  refine ⟨s 0, τa, τb, v', c1, c2, c3, c4, E6, E6', nq, E18, ⟨wfG_c (E6' 0 (by omega) (by omega)) (E6' 1 (by omega) (by omega)) (E6' 2 (by omega) (by omega)) (E6' 5 (by omega) (by omega)) hG, fun p' r' k' f x1 x2 hk => ?_, cfP_c (fun _ _ => nt _ _ _ _ (by omega) (by omega) (by omega)) (fun p' f x1 x2 _ => np p' f x1 (by omega)) hPp, cfL_c (fun _ _ => nt _ _ _ _ (by omega) (by omega) (by omega)) (fun p' c x1 x2 => np p' _ x1 (by omega)) hLs, ?_, cfR_c (fun k' => nt _ _ _ _ (by omega) (by omega) (by omega)) (fun i x1 hi => E6' i (by omega) (by omega)) hRf, wfP_c (fun p' f x1 x2 => np p' f x1 (by omega)) wP, wfQ_c (fun q f x1 x2 => nq q f x1 (by omega)) wQ, fun p' r' x1 x2 => ?_, wfN_c (fun p' f x0 x1 x2 => np p' f x1 (by omega)) (fun p' r' f x0 x1 x2 x3 x4 => E5' _ f (by omega) (by omega) (by omega)) wN, MW_of hMX (fun q hq => ?_), hRX, ?_⟩, gr_c h6 (nt _ _ _ _ (by omega) (by omega) (by omega)) (nt _ _ _ _ (by omega) (by omega) (by omega)) (fun p' x1 => ⟨np p' 2 x1 (by omega), np p' 3 x1 (by omega)⟩) (E6' 10 (by omega) (by omega)) hg, wfS_c h6 (E6' 0 (by omega) (by omega)) (fun p' f x1 x2 => np p' f x1 (by omega)) (fun q f x1 x2 x3 => nq q f x1 (by omega)) hS, fun p' r' x1 x2 => by rw [nt _ _ _ _ (by omega) (by omega) (by omega)]; exact hpr p' r' x1 x2⟩
  · have hkl := qm_lt hk
    by_cases e : p' = p ∧ r' = r ∧ k' = 15
    · obtain ⟨rfl, rfl, rfl⟩ := e
      have : f = 12 := by simp only [qm, Option.some.injEq] at hk; exact hk.symm
      subst this
      rw [E13.2.2, E5, hQ p' r' 15 12 x1 x2 rfl, (hM.1 _ (by omega)).1, nI_1]
    · rw [nt _ _ _ _ (by omega) (by omega) (by omega), E5' _ f (by omega) (by omega) (by
        by_cases y : f = 12
        · subst y
          have : k' = 15 := qm_inj hk (show qm 15 = some 12 from rfl)
          omega
        · exact Or.inr y)]
      exact hQ p' r' k' f x1 x2 hk
  · obtain ⟨d0, d1, d2, d3, d4, d5⟩ := hDd
    refine ⟨?_, ?_, ?_, ?_, ?_, ?_⟩
    · rw [nt _ _ _ _ (by omega) (by omega) (by omega), E6' 0 (by omega) (by omega)]; exact d0
    · rw [nt _ _ _ _ (by omega) (by omega) (by omega), E6' 1 (by omega) (by omega)]; exact d1
    · rw [nt _ _ _ _ (by omega) (by omega) (by omega), E6' 2 (by omega) (by omega)]; exact d2
    · rw [nt _ _ _ _ (by omega) (by omega) (by omega), E6' 3 (by omega) (by omega)]; exact d3
    · rw [E16, E6, d4]
    · rw [nt _ _ _ _ (by omega) (by omega) (by omega), E6' 5 (by omega) (by omega)]; exact d5
  · have t := wT p' r' x1 x2
    rw [nq _ 5 (by omega) (by omega), np p' 6 x1 (by omega), np p' 7 x1 (by omega)]
    refine ⟨fun z => ?_, t.2⟩
    by_cases e : 3 * p' + r' = 3 * p + r
    · rw [e, E5] at z
      exact absurd z (nI_ne0 (by omega) (by omega))
    · rw [E5' _ 12 (by omega) (by omega) (Or.inl e)] at z
      exact t.1 z
  · have a := hA q hq
    rw [nq q 6 hq (by omega), nq q 7 hq (by omega), nq q 8 hq (by omega)]
    by_cases e : q = 3 * p + r
    · subst e
      rw [if_pos rfl] at a
      have en : nsum (fun i => Sz v' (Sl v' (3 * p + r) i)) (Ln v' (3 * p + r)) = Uq v (3 * p + r) + sz := by
        rw [fc1, nsum, fd1, fa1, Uq]
        congr 1
        exact nsum_c (fun i hi => by
          have := hM.2.1 _ i hq hi
          rw [fd2 _ i hq hi, (fb _ this.2.1 (hne _ i hq hi)).1])
      rw [en]
      exact a
    · rw [if_neg e] at a
      have en : nsum (fun i => Sz v' (Sl v' q i)) (Ln v' q) = Uq v q := by
        rw [fc2 q hq e, Uq]
        exact nsum_c (fun i hi => by
          have := hM.2.1 _ i hq hi
          rw [fd2 _ i hq hi, (fb _ this.2.1 (hne _ i hq hi)).1])
      rw [en]
      exact a
  · have hl : nI b + 1 = nI (b + 1) := nI_1 b
    have hl2 : nI b < 2147483647 := nI_lt (b := 2147483647) (by omega) (by omega)
    rw [E6, E6' 10 (by omega) (by omega), ← hl]
    refine ⟨by grind, by grind, b3, by grind⟩
/-- the counts of a queue with one more packet's cells -/
theorem RC_of {τ τ' : xD} {v v' : xV} {b C P p r sz : Nat} (h : RW τ v b C P) (hp : p < P) (hr : r < 3) (h12 : sz ≤ 12) (ht : ∀ K p' r' k, (K ≠ 16 ∨ p' ≠ p ∨ r' ≠ r ∨ (k ≠ 4 ∧ k ≠ 8 ∧ k ≠ 9 ∧ k ≠ 10 ∧ k ≠ 11 ∧ k ≠ 12)) → τ' K p' r' k = τ K p' r' k) (hv : ∀ i, i ≠ 160 + 16 * (3 * p + r) + 3 → i ≠ 160 + 16 * (3 * p + r) + 6 → i ≠ 160 + 16 * (3 * p + r) + 7 → i ≠ 160 + 16 * (3 * p + r) + 8 → i ≠ 160 + 16 * (3 * p + r) + 10 → i ≠ 160 + 16 * (3 * p + r) + 11 → v' i = v i) (e4 : τ' 16 p r 4 = v' (iq (3 * p + r) 3)) (e8 : τ' 16 p r 8 = v' (iq (3 * p + r) 10)) (e9 : τ' 16 p r 9 = v' (iq (3 * p + r) 11)) (e10 : τ' 16 p r 10 = v' (iq (3 * p + r) 6)) (e11 : τ' 16 p r 11 = v' (iq (3 * p + r) 7)) (e12 : τ' 16 p r 12 = v' (iq (3 * p + r) 8)) (r3 : rg (v' (iq (3 * p + r) 3)) 0 32) (r10 : x_z (v' (iq (3 * p + r) 10)) = true) (r6 : rg (v' (iq (3 * p + r) 6)) 0 140) (r7 : rg (v' (iq (3 * p + r) 7)) 0 140) (r8 : rg (v' (iq (3 * p + r) 8)) 0 140) (hsum : v' (iq (3 * p + r) 6) + v' (iq (3 * p + r) 7) + v' (iq (3 * p + r) 8) = v (iq (3 * p + r) 6) + v (iq (3 * p + r) 7) + v (iq (3 * p + r) 8) + nI sz) (s6 : s3 v' p 6 ≤ v (ip p 0) + v (ip p 2)) (s8 : s3 v' p 8 ≤ v (ip p 1)) (sf : 0 ≤ mFree v' P) (sf2 : mFree v' P ≤ 128) : RC τ' v' b C P p r sz := by
  obtain ⟨⟨hG, hQ, hPp, hLs, hDd, hRf, wP, wQ, wT, wN, hM, hX, b1, b2, b3, b4⟩, hg, hS, hpr⟩ := h
  have h6 := hG.2.2.2.2.2.1
  have h8 := hG.2.2.1
  have hp6 : p < 6 := by omega
  have nl : ∀ i, i < 160 → v' i = v i := fun i a => hv i (by omega) (by omega) (by omega) (by omega) (by omega) (by omega)
  have np : ∀ p' f, p' < 6 → f < 24 → v' (ip p' f) = v (ip p' f) := fun p' f x y => nl _ (by simp only [ip]; omega)
  have nq : ∀ q f, q < 18 → f < 16 → (q ≠ 3 * p + r ∨ (f ≠ 3 ∧ f ≠ 6 ∧ f ≠ 7 ∧ f ≠ 8 ∧ f ≠ 10 ∧ f ≠ 11)) → v' (iq q f) = v (iq q f) := fun q f x y z => hv _ (by simp only [iq]; omega) (by simp only [iq]; omega) (by simp only [iq]; omega) (by simp only [iq]; omega) (by simp only [iq]; omega) (by simp only [iq]; omega)
  have hN : eqN v v' := ⟨nl 4 (by omega), fun i x1 _ => hv i (by omega) (by omega) (by omega) (by omega) (by omega) (by omega), fun q hq => nq q 12 hq (by omega) (by omega)⟩
  have hx : eqXb τ τ' := ⟨fun K c x1 x2 _ => ht _ _ _ _ (by omega), fun p' r' _ _ => ⟨ht _ _ _ _ (by omega), ht _ _ _ _ (by omega)⟩⟩
  have hMX := MX_of hM
  have eU : ∀ q, q < 18 → Uq v' q = Uq v q := fun q hq => by
    have hL := hMX.1 q hq
    rw [Uq, Uq, eqN_L hN hq]
    exact nsum_c (fun i hi => by
      have := hMX.2.1 q i hq hi
      rw [eqN_Sl hN hq (by omega), eqN_Sz hN this.2.1])
  have hA := hM.2.2.2.2.2.2.2.2.2
  have hA' : ∀ q, q < 18 → v' (iq q 6) + v' (iq q 7) + v' (iq q 8) = nI (Uq v q + if q = 3 * p + r then sz else 0) ∧ Uq v q + (if q = 3 * p + r then sz else 0) ≤ 200 := fun q hq => by
    have a : v (iq q 6) + v (iq q 7) + v (iq q 8) = nI (Uq v q) ∧ Uq v q ≤ 128 := hA q hq
    by_cases e : q = 3 * p + r
    · subst e
      rw [if_pos rfl, hsum, a.1, nI_add]
      exact ⟨rfl, by omega⟩
    · rw [if_neg e, nq q 6 hq (by omega) (Or.inl e), nq q 7 hq (by omega) (Or.inl e), nq q 8 hq (by omega) (Or.inl e)]
      exact ⟨a.1, by omega⟩
  have wG' : wfG v' C P := wfG_c (nl 0 (by omega)) (nl 1 (by omega)) (nl 2 (by omega)) (nl 5 (by omega)) hG
  have wP' : wfP v' := wfP_c (fun p' f x1 x2 => np p' f x1 (by omega)) wP
  have s3o : ∀ p' f, p' < 6 → f < 16 → p' ≠ p → s3 v' p' f = s3 v p' f := fun p' f x1 x2 x3 => by
    simp only [s3]
    rw [nq (3 * p') f (by omega) x2 (by omega), nq (3 * p' + 1) f (by omega) x2 (by omega), nq (3 * p' + 2) f (by omega) x2 (by omega)]
  have wS' : wfS v' P := by
    refine ⟨fun p' x1 => ?_, sf, sf2⟩
    rw [np p' 0 x1 (by omega), np p' 1 x1 (by omega), np p' 2 x1 (by omega)]
    by_cases e : p' = p
    · subst e; exact ⟨s6, s8⟩
    · rw [s3o p' 6 x1 (by omega) e, s3o p' 8 x1 (by omega) e]; exact hS.1 p' x1
  have hz : ∀ p' r', P ≤ p' → p' < 6 → r' < 3 → Uq v (3 * p' + r') + (if 3 * p' + r' = 3 * p + r then sz else 0) = 0 := fun p' r' x1 x2 x3 => by
    have z := ((wN p' x1 x2).2.2.2 r' x3).2.2.2
    have e : Ln v (3 * p' + r') = 0 := by unfold Ln; rw [z]; rfl
    rw [if_neg (by omega), Uq, e]; rfl
  have w140 : ∀ q, q < 18 → rg (v' (iq q 6)) 0 140 ∧ rg (v' (iq q 7)) 0 140 ∧ rg (v' (iq q 8)) 0 140 := fun q hq => by
    by_cases e : q = 3 * p + r
    · subst e; exact ⟨r6, r7, r8⟩
    · rw [nq q 6 hq (by omega) (Or.inl e), nq q 7 hq (by omega) (Or.inl e), nq q 8 hq (by omega) (Or.inl e)]
      obtain ⟨-, -, -, -, -, -, a6, a7, a8, -⟩ := wQ q hq
      unfold rg at *
      exact ⟨by grind, by grind, by grind⟩
  have htot := used_gen2 (u := fun q => Uq v q + if q = 3 * p + r then sz else 0) wG' wP' w140 wS' hA' hz
  have hq128 : ∀ q, q < 18 → Uq v q + (if q = 3 * p + r then sz else 0) ≤ 128 := fun q hq => by
    have := nsum_mem (f := fun q => Uq v q + if q = 3 * p + r then sz else 0) 18 hq
    exact Nat.le_trans this (Nat.le_trans htot h8)
  have hsm : v' (iq (3 * p + r) 6) + v' (iq (3 * p + r) 7) + v' (iq (3 * p + r) 8) ≤ 128 := by
    have a := hA' (3 * p + r) (by omega)
    have b := hq128 (3 * p + r) (by omega)
    rw [a.1]
    exact nI_le (b := 128) b (by omega)
  have wQ' : wfQ v' := fun q hq => by
    obtain ⟨a0, a1, a2, a3, a4, a5, a6, a7, a8, a9, a10⟩ := wQ q hq
    by_cases e : q = 3 * p + r
    · subst e
      rw [nq _ 0 hq (by omega) (by omega), nq _ 1 hq (by omega) (by omega), nq _ 2 hq (by omega) (by omega), nq _ 4 hq (by omega) (by omega), nq _ 5 hq (by omega) (by omega), nq _ 9 hq (by omega) (by omega)]
      unfold rg at r6 r7 r8
      refine ⟨a0, a1, a2, r3, a4, a5, ⟨r6.1, by grind⟩, ⟨r7.1, by grind⟩, ⟨r8.1, by grind⟩, a9, r10⟩
    · rw [nq q 0 hq (by omega) (Or.inl e), nq q 1 hq (by omega) (Or.inl e), nq q 2 hq (by omega) (Or.inl e), nq q 3 hq (by omega) (Or.inl e), nq q 4 hq (by omega) (Or.inl e), nq q 5 hq (by omega) (Or.inl e), nq q 6 hq (by omega) (Or.inl e), nq q 7 hq (by omega) (Or.inl e), nq q 8 hq (by omega) (Or.inl e), nq q 9 hq (by omega) (Or.inl e), nq q 10 hq (by omega) (Or.inl e)]
      exact ⟨a0, a1, a2, a3, a4, a5, a6, a7, a8, a9, a10⟩
  refine ⟨wG', fun p' r' k f x1 x2 hk => ?_, cfP_c (fun _ _ => ht _ _ _ _ (by omega)) (fun p' f x1 x2 _ => np p' f x1 (by omega)) hPp, cfL_c (fun _ _ => ht _ _ _ _ (by omega)) (fun p' c x1 x2 => np p' _ x1 (by omega)) hLs, cfD_c (ht _ _ _ _ (by omega)) (fun k' _ _ _ _ => ht _ _ _ _ (by omega)) (fun i hi => nl i (by omega)) hDd, cfR_c (fun k' => ht _ _ _ _ (by omega)) (fun i _ hi => nl i (by omega)) hRf, wP', wQ', wfT_c (fun q hq => ⟨nq q 12 hq (by omega) (by omega), nq q 5 hq (by omega) (by omega)⟩) (fun p' x1 => ⟨np p' 6 x1 (by omega), np p' 7 x1 (by omega)⟩) wT, wfN_c (fun p' f x0 x1 x2 => np p' f x1 (by omega)) (fun p' r' f x0 x1 x2 x3 x4 => nq _ f (by omega) (by omega) (by omega)) wN, MX_c hN h8 hMX, fun q hq => ?_, RX_c hN h8 hx hMX hX, gr_c h6 (ht _ _ _ _ (by omega)) (ht _ _ _ _ (by omega)) (fun p' x1 => ⟨np p' 2 x1 (by omega), np p' 3 x1 (by omega)⟩) (nl 10 (by omega)) hg, wS', fun p' r' x1 x2 => by rw [ht _ _ _ _ (by omega)]; exact hpr p' r' x1 x2, ?_⟩
  · have hkl := qm_lt hk
    by_cases e : p' = p ∧ r' = r
    · obtain ⟨rfl, rfl⟩ := e
      by_cases z : k = 4 ∨ k = 8 ∨ k = 9 ∨ k = 10 ∨ k = 11 ∨ k = 12
      · rcases z with rfl | rfl | rfl | rfl | rfl | rfl
        · have : f = 3 := by simp only [qm, Option.some.injEq] at hk; exact hk.symm
          subst this; exact e4
        · have : f = 10 := by simp only [qm, Option.some.injEq] at hk; exact hk.symm
          subst this; exact e8
        · have : f = 11 := by simp only [qm, Option.some.injEq] at hk; exact hk.symm
          subst this; exact e9
        · have : f = 6 := by simp only [qm, Option.some.injEq] at hk; exact hk.symm
          subst this; exact e10
        · have : f = 7 := by simp only [qm, Option.some.injEq] at hk; exact hk.symm
          subst this; exact e11
        · have : f = 8 := by simp only [qm, Option.some.injEq] at hk; exact hk.symm
          subst this; exact e12
      · rw [ht _ _ _ _ (by omega), nq _ f (by omega) (by omega) (Or.inr ⟨fun y => ?_, fun y => ?_, fun y => ?_, fun y => ?_, fun y => ?_, fun y => ?_⟩)]
        · exact hQ p' r' k f x1 x2 hk
        · have : k = 4 := qm_inj hk (show qm 4 = some f from by rw [y]; rfl)
          omega
        · have : k = 10 := qm_inj hk (show qm 10 = some f from by rw [y]; rfl)
          omega
        · have : k = 11 := qm_inj hk (show qm 11 = some f from by rw [y]; rfl)
          omega
        · have : k = 12 := qm_inj hk (show qm 12 = some f from by rw [y]; rfl)
          omega
        · have : k = 8 := qm_inj hk (show qm 8 = some f from by rw [y]; rfl)
          omega
        · have : k = 9 := qm_inj hk (show qm 9 = some f from by rw [y]; rfl)
          omega
    · rw [ht _ _ _ _ (by omega), nq _ f (by omega) (by omega) (by omega)]
      exact hQ p' r' k f x1 x2 hk
  · rw [eU q hq]
    exact ⟨(hA' q hq).1, hq128 q hq⟩
  · rw [nl 4 (by omega), nl 10 (by omega)]
    exact ⟨b1, b2, b3, b4⟩
