/-! ===== cells in use; a packet departs ===== -/
def Uq (v : xV) (q : Nat) : Nat := nsum (fun i => Sz v (Sl v q i)) (Ln v q)
def Tp (v : xV) (p : Nat) : Nat := Uq v (3 * p) + Uq v (3 * p + 1) + Uq v (3 * p + 2)
theorem sm32_le {f g : Nat → Int32} : ∀ n, n ≤ 6 → (∀ k, k < n → 0 ≤ f k ∧ f k ≤ g k ∧ g k ≤ 600) → 0 ≤ sm32 f n ∧ sm32 f n ≤ sm32 g n ∧ sm32 g n ≤ nI (600 * n)
  | 0, _, _ => ⟨by rw [sm32]; decide, by rw [sm32, sm32]; decide, by rw [sm32]; decide⟩
  | n + 1, h, hf => by
    have ih := sm32_le n (by omega) (fun k hk => hf k (by omega))
    have h1 := hf n (by omega)
    have e : nI (600 * (n + 1)) = nI (600 * n) + 600 := (nI_add (600 * n) 600).symm
    have h2 : nI (600 * n) ≤ 3600 := nI_le (b := 3600) (by omega) (by omega)
    rw [sm32, sm32, e]
    grind
theorem sm32_add (f g : Nat → Int32) : ∀ n, sm32 (fun k => f k + g k) n = sm32 f n + sm32 g n
  | 0 => by rw [sm32, sm32, sm32]; decide
  | n + 1 => by
    rw [sm32, sm32, sm32, sm32_add f g n]
    grind
theorem sm32_nI (h : Nat → Nat) : ∀ n, sm32 (fun k => nI (h k)) n = nI (nsum h n)
  | 0 => rfl
  | n + 1 => by rw [sm32, sm32_nI h n, nI_add, nsum]
theorem nsum_le {f : Nat → Nat} {B : Nat} : ∀ n, (∀ k, k < n → f k ≤ B) → nsum f n ≤ B * n
  | 0, _ => by rw [nsum]; omega
  | n + 1, h => by
    have ih := nsum_le n (fun k hk => h k (by omega))
    have := h n (by omega)
    rw [nsum, Nat.mul_add]; omega
theorem nsum_ext {f : Nat → Nat} {P : Nat} : ∀ n, P ≤ n → (∀ k, P ≤ k → k < n → f k = 0) → nsum f n = nsum f P
  | 0, h, _ => by rw [show P = 0 by omega]
  | n + 1, h, hf => by
    by_cases e : P = n + 1
    · rw [e]
    · rw [nsum, nsum_ext n (by omega) (fun k h1 h2 => hf k h1 (by omega)), hf n (by omega) (by omega)]
      omega
theorem nsum_ge {f : Nat → Nat} : ∀ n, (∀ k, k < n → 1 ≤ f k) → n ≤ nsum f n
  | 0, _ => by omega
  | n + 1, h => by
    have ih := nsum_ge n (fun k hk => h k (by omega))
    have := h n (by omega)
    rw [nsum]; omega
theorem nsum_mem {f : Nat → Nat} {k : Nat} : ∀ n, k < n → f k ≤ nsum f n
  | 0, h => by omega
  | n + 1, h => by
    rw [nsum]
    by_cases e : k = n
    · rw [e]; omega
    · have := nsum_mem (f := f) n (show k < n by omega); omega
theorem Uq_nI {v : xV} {C q : Nat} (hM : MW v C) (hq : q < 18) : v (iq q 6) + v (iq q 7) + v (iq q 8) = nI (Uq v q) ∧ Uq v q ≤ 128 := hM.2.2.2.2.2.2.2.2.2 q hq
theorem Ln_Uq {v : xV} {C q : Nat} (hM : MW v C) (hq : q < 18) : Ln v q ≤ Uq v q := nsum_ge _ (fun i hi => by
  have e := hM.2.1 q i hq hi
  exact (hM.2.2.2.2.1 _ e.2.1 e.2.2).2.1)
theorem used_le {v : xV} {C P p0 : Nat} (hG : wfG v C P) (wP : wfPx v p0) (wQ : wfQ v) (hS : wfS v P) (wN : wfN v P) (hM : MW v C) : nsum (Tp v) 6 ≤ C := by
  obtain ⟨h0, -, h8, -, -, h6, -⟩ := hG
  have eT : ∀ p, p < 6 → s3 v p 6 + s3 v p 8 + s3 v p 7 = nI (Tp v p) := fun p hp => by
    have a := (Uq_nI hM (q := 3 * p) (by omega)).1
    have b := (Uq_nI hM (q := 3 * p + 1) (by omega)).1
    have c := (Uq_nI hM (q := 3 * p + 2) (by omega)).1
    rw [Tp, ← nI_add, ← nI_add, ← a, ← b, ← c]
    simp only [s3]
    grind
  have hle := sm32_le (f := fun p => s3 v p 6 + s3 v p 8 + s3 v p 7) (g := fun p => (v (ip p 0) + v (ip p 2) + v (ip p 1)) + s3 v p 7) P h6 (fun p hp => by
    obtain ⟨w0, w1, w2, -⟩ := wP p (by omega)
    have hs := hS.1 p (by omega)
    have x0 := wQ (3 * p) (by omega)
    have x1 := wQ (3 * p + 1) (by omega)
    have x2 := wQ (3 * p + 2) (by omega)
    have a6 := x0.2.2.2.2.2.2.1
    have b6 := x1.2.2.2.2.2.2.1
    have c6 := x2.2.2.2.2.2.2.1
    have a7 := x0.2.2.2.2.2.2.2.1
    have b7 := x1.2.2.2.2.2.2.2.1
    have c7 := x2.2.2.2.2.2.2.2.1
    have a8 := x0.2.2.2.2.2.2.2.2.1
    have b8 := x1.2.2.2.2.2.2.2.2.1
    have c8 := x2.2.2.2.2.2.2.2.2.1
    have k6 : 0 ≤ s3 v p 6 ∧ s3 v p 6 ≤ 384 := by simp only [s3]; unfold rg at *; grind
    have k7 : 0 ≤ s3 v p 7 ∧ s3 v p 7 ≤ 384 := by simp only [s3]; unfold rg at *; grind
    have k8 : 0 ≤ s3 v p 8 ∧ s3 v p 8 ≤ 384 := by simp only [s3]; unfold rg at *; grind
    have hs1 := hs.1
    have hs2 := hs.2
    show 0 ≤ s3 v p 6 + s3 v p 8 + s3 v p 7 ∧ s3 v p 6 + s3 v p 8 + s3 v p 7 ≤ (v (ip p 0) + v (ip p 2) + v (ip p 1)) + s3 v p 7 ∧ (v (ip p 0) + v (ip p 2) + v (ip p 1)) + s3 v p 7 ≤ 600
    unfold rg at *
    generalize s3 v p 6 = s6 at *
    generalize s3 v p 7 = s7 at *
    generalize s3 v p 8 = s8 at *
    grind)
  have e1 : sm32 (fun p => s3 v p 6 + s3 v p 8 + s3 v p 7) P = nI (nsum (Tp v) P) := by
    rw [← sm32_nI]
    exact sm32_congr (fun k hk => eT k (by omega))
  have e2 := sm32_add (fun p => v (ip p 0) + v (ip p 2) + v (ip p 1)) (fun p => s3 v p 7) P
  have hf := hS.2
  rw [mFree, mPool, h0] at hf
  have hc : nI C ≤ 128 := nI_le (b := 128) (by omega) (by omega)
  have hc0 : 0 ≤ nI C := nI_pos' (by omega)
  have h3600 : nI (600 * P) ≤ 3600 := nI_le (b := 3600) (by omega) (by omega)
  rw [e1] at hle
  have hfin : nI (nsum (Tp v) P) ≤ nI C := by
    rw [e2] at hle
    generalize sm32 (fun p => v (ip p 0) + v (ip p 2) + v (ip p 1)) P = A at *
    generalize sm32 (fun p => s3 v p 7) P = B at *
    generalize nI (nsum (Tp v) P) = T at *
    grind
  have hb : nsum (Tp v) P ≤ 384 * P := nsum_le P (fun p hp => by
    have a := (Uq_nI hM (q := 3 * p) (by omega)).2
    have b := (Uq_nI hM (q := 3 * p + 1) (by omega)).2
    have c := (Uq_nI hM (q := 3 * p + 2) (by omega)).2
    unfold Tp; omega)
  rw [nsum_ext 6 h6 (fun p h1 h2 => ?_)]
  · exact (nI_leI (by omega) (by omega)).mp hfin
  · have z : ∀ r, r < 3 → Uq v (3 * p + r) = 0 := fun r hr => by
      have := ((wN p h1 h2).2.2.2 r hr).2.2.2
      have e : Ln v (3 * p + r) = 0 := by unfold Ln; rw [this]; rfl
      rw [Uq, e]; rfl
    have z0 : Uq v (3 * p) = 0 := z 0 (by omega)
    rw [Tp, z0, z 1 (by omega), z 2 (by omega)]
theorem RY_used {τ : xD} {v : xV} {b C P p : Nat} (h : RY τ v b C P p) : nsum (Tp v) 6 ≤ C := used_le h.1 h.2.2.2.2.2.2.1 h.2.2.2.2.2.2.2.1 h.2.2.2.2.2.2.2.2.2.2.2.2.2.1 h.2.2.2.2.2.2.2.2.2.1 h.2.2.2.2.2.2.2.2.2.2.1
theorem Nn_le {τ : xD} {v : xV} {b C P p p' : Nat} (h : RY τ v b C P p) (hp : p' < 6) : Nn v p' ≤ Tp v p' ∧ Tp v p' ≤ C ∧ C ≤ 128 := by
  have hM := h.2.2.2.2.2.2.2.2.2.2.1
  have a := Ln_Uq hM (q := 3 * p') (by omega)
  have b := Ln_Uq hM (q := 3 * p' + 1) (by omega)
  have c := Ln_Uq hM (q := 3 * p' + 2) (by omega)
  have u := RY_used h
  have m := nsum_mem (f := Tp v) 6 hp
  exact ⟨by unfold Nn Tp; omega, by omega, h.1.2.2.1⟩
/-- turns, credit, deficit and the departed may change -/
theorem RY_snd {τ τ' : xD} {v v' : xV} {b C P p t : Nat} (h : RY τ v b C P p) (hp : p < P) (ht3 : t < 3) (ht : ∀ K p' r' k, (K ≠ 16 ∨ p' ≠ p ∨ r' ≠ t ∨ k ≠ 6) → (K ≠ 13 ∨ p' ≠ p ∨ r' ≠ 0 ∨ (k ≠ 7 ∧ k ≠ 8 ∧ k ≠ 9 ∧ k ≠ 11)) → τ' K p' r' k = τ K p' r' k) (hv : ∀ i, i ≠ 160 + 16 * (3 * p + t) + 5 → i ≠ 16 + 24 * p + 4 → i ≠ 16 + 24 * p + 6 → i ≠ 16 + 24 * p + 7 → i ≠ 16 + 24 * p + 9 → v' i = v i) (e5 : τ' 16 p t 6 = v' (iq (3 * p + t) 5)) (e6 : τ' 13 p 0 8 = v' (ip p 6)) (e7 : τ' 13 p 0 9 = v' (ip p 7)) (r5 : rg (v' (iq (3 * p + t) 5)) 0 27) (r6 : rg (v' (ip p 6)) 0 2) (r7 : x_z (v' (ip p 7)) = true) (wT' : ∀ r', r' < 3 → (v' (iq (3 * p + r') 12) = 0 → v' (iq (3 * p + r') 5) = 0) ∧ (¬ (v' (ip p 6) = nI r' ∧ v' (ip p 7) = 0) → v' (iq (3 * p + r') 5) ≤ 11)) : RY τ' v' b C P p := by
  obtain ⟨hG, hQ, hPp, hLs, hDd, hRf, wP, wQ, wT, wN, hM, hX, hg, hS, hpr, b1, b2, b3, b4⟩ := h
  have h6 := hG.2.2.2.2.2.1
  have h8 := hG.2.2.1
  have nl : ∀ i, i < 16 → v' i = v i := fun i a => hv i (by omega) (by omega) (by omega) (by omega) (by omega)
  have nq : ∀ q f, f < 16 → (q ≠ 3 * p + t ∨ f ≠ 5) → v' (iq q f) = v (iq q f) := fun q f a1 a2 => hv _ (by simp only [iq]; omega) (by simp only [iq]; omega) (by simp only [iq]; omega) (by simp only [iq]; omega) (by simp only [iq]; omega)
  have np : ∀ p' f, p' < 6 → f < 24 → (p' ≠ p ∨ (f ≠ 4 ∧ f ≠ 6 ∧ f ≠ 7 ∧ f ≠ 9)) → v' (ip p' f) = v (ip p' f) := fun p' f a0 a a2 => hv _ (by simp only [ip]; omega) (by simp only [ip]; omega) (by simp only [ip]; omega) (by simp only [ip]; omega) (by simp only [ip]; omega)
  have hN : eqN v v' := ⟨nl 4 (by omega), fun i h1 _ => hv i (by omega) (by omega) (by omega) (by omega) (by omega), fun q hq => nq q 12 (by omega) (by omega)⟩
  have hx : eqXb τ τ' := ⟨fun K c' h1 h2 _ => ht _ _ _ _ (by omega) (by omega), fun p' r' _ _ => ⟨ht _ _ _ _ (by omega) (by omega), ht _ _ _ _ (by omega) (by omega)⟩⟩
  refine ⟨wfG_c (nl 0 (by omega)) (nl 1 (by omega)) (nl 2 (by omega)) (nl 5 (by omega)) hG, fun p' r' k f h1 h2 hk => ?_, fun p' k f h1 hk hn => ?_, cfL_c (fun _ _ => ht _ _ _ _ (by omega) (by omega)) (fun p' c h1 h2 => np p' _ h1 (by omega) (by omega)) hLs, cfD_c (ht _ _ _ _ (by omega) (by omega)) (fun k' _ _ _ _ => ht _ _ _ _ (by omega) (by omega)) (fun i hi => nl i (by omega)) hDd, cfR_c (fun k' => ht _ _ _ _ (by omega) (by omega)) (fun i _ hi => nl i (by omega)) hRf, fun p' h1 => ?_, fun q hq => ?_, fun p' r' h1 h2 => ?_, wfN_c (fun p' f h0 h1 h2 => np p' f h1 (by omega) (by omega)) (fun p' r' f h0 h1 h2 h3 h4 => nq _ f (by omega) (by omega)) wN, MW_of (MX_c hN h8 (MX_of hM)) (mwA_c hN (fun q hq => by rw [nq q 6 (by omega) (by omega), nq q 7 (by omega) (by omega), nq q 8 (by omega) (by omega)]) (MX_of hM) hM.2.2.2.2.2.2.2.2.2), RX_c hN h8 hx (MX_of hM) hX, gr_c h6 (ht _ _ _ _ (by omega) (by omega)) (ht _ _ _ _ (by omega) (by omega)) (fun p' h1 => ⟨np p' 2 h1 (by omega) (by omega), np p' 3 h1 (by omega) (by omega)⟩) (nl 10 (by omega)) hg, wfS_c h6 (nl 0 (by omega)) (fun p' f h1 h2 => np p' f h1 (by omega) (by omega)) (fun q f h1 h2 h3 => nq q f (by omega) (by omega)) hS, fun p' r' h1 h2 => by rw [ht _ _ _ _ (by omega) (by omega)]; exact hpr p' r' h1 h2, ?_⟩
  · have hkl := qm_lt hk
    by_cases e : p' = p ∧ r' = t ∧ k = 6
    · obtain ⟨rfl, rfl, rfl⟩ := e
      have : f = 5 := by simp only [qm, Option.some.injEq] at hk; exact hk.symm
      subst this
      exact e5
    · rw [ht _ _ _ _ (by omega) (by omega), nq _ f (by omega) (by
        by_cases y : f = 5
        · subst y
          have : k = 6 := qm_inj hk (show qm 6 = some 5 from rfl)
          omega
        · exact Or.inr y)]
      exact hQ p' r' k f h1 h2 hk
  · have hkl := pm_lt hk
    by_cases e : p' = p ∧ (k = 8 ∨ k = 9)
    · obtain ⟨rfl, rfl | rfl⟩ := e
      · have : f = 6 := by simp only [pm, Option.some.injEq] at hk; exact hk.symm
        subst this; exact e6
      · have : f = 7 := by simp only [pm, Option.some.injEq] at hk; exact hk.symm
        subst this; exact e7
    · rw [ht _ _ _ _ (by omega) (by omega), np p' f h1 (by omega) (by
        by_cases y : p' = p
        · refine Or.inr ⟨fun z => ?_, fun z => ?_, fun z => ?_, fun z => ?_⟩
          · have : k = 7 := pm_inj hk (show pm 7 = some f from by rw [z]; rfl)
            omega
          · have : k = 8 := pm_inj hk (show pm 8 = some f from by rw [z]; rfl)
            omega
          · have : k = 9 := pm_inj hk (show pm 9 = some f from by rw [z]; rfl)
            omega
          · have : k = 11 := pm_inj hk (show pm 11 = some f from by rw [z]; rfl)
            omega
        · exact Or.inl y)]
      exact hPp p' k f h1 hk hn
  · obtain ⟨a1, a2, a3, a4, a5, a6, a7, a8⟩ := wP p' h1
    rw [np p' 0 h1 (by omega) (by omega), np p' 1 h1 (by omega) (by omega), np p' 2 h1 (by omega) (by omega), np p' 5 h1 (by omega) (by omega), np p' 8 h1 (by omega) (by omega)]
    refine ⟨a1, a2, a3, fun e => by rw [np p' 4 h1 (by omega) (Or.inl e)]; exact a4 e, a5, ?_, ?_, a8⟩
    · by_cases e : p' = p
      · rw [e]; exact r6
      · rw [np p' 6 h1 (by omega) (Or.inl e)]; exact a6
    · by_cases e : p' = p
      · rw [e]; exact r7
      · rw [np p' 7 h1 (by omega) (Or.inl e)]; exact a7
  · obtain ⟨a0, a1, a2, a3, a4, a5, a6, a7, a8, a9, a10⟩ := wQ q hq
    rw [nq q 0 (by omega) (by omega), nq q 1 (by omega) (by omega), nq q 2 (by omega) (by omega), nq q 3 (by omega) (by omega), nq q 4 (by omega) (by omega), nq q 6 (by omega) (by omega), nq q 7 (by omega) (by omega), nq q 8 (by omega) (by omega), nq q 9 (by omega) (by omega), nq q 10 (by omega) (by omega)]
    refine ⟨a0, a1, a2, a3, a4, ?_, a6, a7, a8, a9, a10⟩
    by_cases e : q = 3 * p + t
    · rw [e]; exact r5
    · rw [nq q 5 (by omega) (Or.inl e)]; exact a5
  · by_cases e : p' = p
    · subst e; exact wT' r' h2
    · rw [nq _ 12 (by omega) (by omega), nq _ 5 (by omega) (Or.inl (by omega)), np p' 6 h1 (by omega) (Or.inl e), np p' 7 h1 (by omega) (Or.inl e)]
      exact wT p' r' h1 h2
  · rw [nl 4 (by omega), nl 10 (by omega)]
    exact ⟨b1, b2, b3, b4⟩
def Ti (v : xV) (p : Nat) : Int32 := s3 v p 6 + s3 v p 7 + s3 v p 8
theorem m_first {σ : xS} {v : xV} {C q : Nat} (hM : MX v C) (hq : q < 18) (hl : 0 < Ln v q) : fX6_firstSize (nI q) (x_row σ 5 31 0 0 v) = some (v (ik (Sl v q 0) 1), x_row σ 5 31 0 0 v) := by
  have e := hM.2.1 q 0 hq hl
  have e1 : v (448 + 128 * q + 0) = nI (Sl v q 0) := e.1
  rw [fX6_firstSize, m_entry_0, b_s, in_nI (by omega) (by omega), g_t, nI_clamp (by omega), row_rd, e1, m_packet_1, b_s, in_nI (by omega) (by omega), g_t, nI_clamp (by omega), row_rd]
theorem first_c {τ : xD} {v : xV} {b C P p r : Nat} (h : RY τ v b C P p) (hp : p < P) (hr : r < 3) (hl : 0 < Ln v (3 * p + r)) : τ 16 p r 13 = nI (Fs v (Sl v (3 * p + r) 0) 0) ∧ Fs v (Sl v (3 * p + r) 0) 0 < 128 ∧ τ 6 0 0 (Fs v (Sl v (3 * p + r) 0) 0) = v (ik (Sl v (3 * p + r) 0) 1) := by
  have h6 := h.1.2.2.2.2.2.1
  have hMX := MX_of h.2.2.2.2.2.2.2.2.2.2.1
  have hX := h.2.2.2.2.2.2.2.2.2.2.2.1
  have hsl := hMX.2.1 (3 * p + r) 0 (by omega) hl
  have hkk := hMX.2.2.2.2.1 _ hsl.2.1 hsl.2.2
  refine ⟨by rw [(hX.1 p r (by omega) hr).1, cellAt_in hl], ?_, (hX.2.1 _ hsl.2.1 hsl.2.2).2.1⟩
  have := hkk.2.2.2.2.2.2.1 0 (by omega)
  have := h.1.2.2.1
  omega
/-- one packet departs -/
theorem S_dep {τ : xD} {v : xV} {b C P p r : Nat} (h : RY τ v b C P p) (hp : p < P) (hr : r < 3) (hl : 0 < Ln v (3 * p + r)) (hcr : τ 13 p 0 7 = v (ip p 4)) : ∃ τ' v' w, (∀ σ d, fX0_takeOut d d p d p r (nI (Fs v (Sl v (3 * p + r) 0) 0)) (va_up σ d (dset τ 13 p 0 7 (τ 13 p 0 7 - v (ik (Sl v (3 * p + r) 0) 1)))) = some ((), va_up σ d τ')) ∧ (∀ σ, fX6_departs (nI p) (nI (3 * p + r)) (x_row σ 5 31 0 0 v) = some ((), x_row σ 5 31 0 0 w)) ∧ (∀ σ, fX6_settles (nI (3 * p + r)) (x_row σ 5 31 0 0 w) = some ((), x_row σ 5 31 0 0 v')) ∧ RY τ' v' b C P p ∧ Nn v' p + 1 = Nn v p ∧ τ' 13 p 0 7 = v' (ip p 4) ∧ τ' 13 p 0 11 = τ 13 p 0 11 ∧ v' (ip p 9) = v (ip p 9) + 1 ∧ v' (ip p 5) = v (ip p 5) ∧ v' (ip p 8) = v (ip p 8) ∧ ((Nn v' p = 0 ∧ v' (ip p 4) = 0) ∨ (Nn v' p ≠ 0 ∧ v' (ip p 4) = v (ip p 4) - v (ik (Sl v (3 * p + r) 0) 1) ∧ Ti v' p = Ti v p - v (ik (Sl v (3 * p + r) 0) 1))) ∧ (∀ i, 6464 ≤ i → v' i = v i) := by
  have h6 := h.1.2.2.2.2.2.1
  have hp6 : p < 6 := by omega
  have hq : 3 * p + r < 18 := by omega
  have hL := LO_of h hq hl
  generalize ex : v (ik (Sl v (3 * p + r) 0) 1) = x
  have wT := h.2.2.2.2.2.2.2.2.1
  have wQ := h.2.2.2.2.2.2.2.1
  have wP := h.2.2.2.2.2.2.1
  have n2 : ∀ i, i ≠ 16 + 24 * p + 4 → i ≠ 16 + 24 * p + 9 → va_up (va_up v (ip p 4) (v (ip p 4) - x)) (ip p 9) (v (ip p 9) + 1) i = v i := fun i a1 a2 => by rw [up_n _ _ a2, up_n _ _ a1]
  have hY2 : RY (dset τ 13 p 0 7 (τ 13 p 0 7 - x)) (va_up (va_up v (ip p 4) (v (ip p 4) - x)) (ip p 9) (v (ip p 9) + 1)) b C P p := by
    refine RY_snd (t := 0) h hp (by omega) (fun K p' r' k a1 a2 => ds_n (by omega)) (fun i a1 a2 a3 a4 a5 => n2 i a2 a5) ?_ ?_ ?_ ?_ ?_ ?_ (fun r' hr' => ?_)
    · rw [ds_n (by omega), n2 _ (by simp only [iq]; omega) (by simp only [iq]; omega)]; exact h.2.1 p 0 6 5 hp6 (by omega) rfl
    · rw [ds_n (by omega), n2 _ (by simp only [ip]; omega) (by simp only [ip]; omega)]; exact h.2.2.1 p 8 6 hp6 rfl (by omega)
    · rw [ds_n (by omega), n2 _ (by simp only [ip]; omega) (by simp only [ip]; omega)]; exact h.2.2.1 p 9 7 hp6 rfl (by omega)
    · rw [n2 _ (by simp only [iq]; omega) (by simp only [iq]; omega)]; exact (wQ (3 * p + 0) (by omega)).2.2.2.2.2.1
    · rw [n2 _ (by simp only [ip]; omega) (by simp only [ip]; omega)]; exact (wP p hp6).2.2.2.2.2.1
    · rw [n2 _ (by simp only [ip]; omega) (by simp only [ip]; omega)]; exact (wP p hp6).2.2.2.2.2.2.1
    · rw [n2 _ (by simp only [iq]; omega) (by simp only [iq]; omega), n2 _ (by simp only [iq]; omega) (by simp only [iq]; omega), n2 _ (by simp only [ip]; omega) (by simp only [ip]; omega), n2 _ (by simp only [ip]; omega) (by simp only [ip]; omega)]
      exact wT p r' hp6 hr'
  have eL : ∀ q, Ln (va_up (va_up v (ip p 4) (v (ip p 4) - x)) (ip p 9) (v (ip p 9) + 1)) q = Ln v q := fun q => by unfold Ln; rw [n2 _ (by simp only [iq]; omega) (by simp only [iq]; omega)]
  have eS : Sl (va_up (va_up v (ip p 4) (v (ip p 4) - x)) (ip p 9) (v (ip p 9) + 1)) (3 * p + r) 0 = Sl v (3 * p + r) 0 := by unfold Sl; rw [n2 _ (by simp only [ie]; omega) (by simp only [ie]; omega)]
  have eF : Fs (va_up (va_up v (ip p 4) (v (ip p 4) - x)) (ip p 9) (v (ip p 9) + 1)) (Sl v (3 * p + r) 0) 0 = Fs v (Sl v (3 * p + r) 0) 0 := by unfold Fs; rw [n2 _ (by simp only [ik]; omega) (by simp only [ik]; omega)]
  obtain ⟨τ', v', k1, k2, k3, k4, k5⟩ := S_out (r := r) (j := 0) hY2 hp hr (by rw [eL]; exact hl)
  have ox := out_x hY2 hq (j := 0) (by rw [eL]; exact hl)
  rw [eS, eF] at k1
  have hlv : lvV (va_up (va_up v (ip p 4) (v (ip p 4) - x)) (ip p 9) (v (ip p 9) + 1)) (3 * p + r) 0 C = va_up (va_up (lvV v (3 * p + r) 0 C) (ip p 4) (v (ip p 4) - x)) (ip p 9) (v (ip p 9) + 1) := by
    rw [lv_up (LO_far hL (by simp only [ip]; omega) (by simp only [ip]; omega)) (by simp only [ip]; omega) (by simp only [ip]; omega), lv_up hL (by simp only [ip]; omega) (by simp only [ip]; omega)]
  rw [hlv] at k3
  obtain ⟨o1, o2, o3, o4, o5, o6, o7, ⟨o8, o8'⟩, o9, o10⟩ := k5
  rw [eS, n2 (ik (Sl v (3 * p + r) 0) 1) (by simp only [ik]; omega) (by simp only [ik]; omega), ex] at o3 ox
  have hNn : Nn v' p + 1 = Nn v p := by
    have hl2 := eL (3 * p + r)
    unfold Nn
    rcases (show r = 0 ∨ r = 1 ∨ r = 2 by omega) with rfl | rfl | rfl
    · have a0 : Ln v' (3 * p) = _ := o4.1
      have hl' : 0 < Ln v (3 * p) := hl
      rw [a0, o4.2 (3 * p + 1) (by omega) (by omega), o4.2 (3 * p + 2) (by omega) (by omega), eL, eL, eL]
      show Ln v (3 * p) - 1 + _ + _ + 1 = _
      omega
    · rw [o4.1, o4.2 (3 * p) (by omega) (by omega), o4.2 (3 * p + 2) (by omega) (by omega), eL, eL, eL]; omega
    · rw [o4.1, o4.2 (3 * p) (by omega) (by omega), o4.2 (3 * p + 1) (by omega) (by omega), eL, eL, eL]; omega
  have eN : Nn (va_up (va_up v (ip p 4) (v (ip p 4) - x)) (ip p 9) (v (ip p 9) + 1)) p = Nn v p := by unfold Nn; rw [eL, eL, eL]
  rw [eN] at o8 o8'
  have ov4 : va_up (va_up v (ip p 4) (v (ip p 4) - x)) (ip p 9) (v (ip p 9) + 1) (ip p 4) = v (ip p 4) - x := by rw [up_n _ _ (pp (by omega) (by omega) (by omega)), up_s]
  have hq6 : ∀ q f, q < 18 → f < 16 → (q ≠ 3 * p + r ∨ (f ≠ 5 ∧ f ≠ 6 ∧ f ≠ 7 ∧ f ≠ 8 ∧ f ≠ 12)) → v' (iq q f) = v (iq q f) := fun q f a1 a2 a3 => by rw [o2 q f a1 a2 a3, n2 _ (by simp only [iq]; omega) (by simp only [iq]; omega)]
  have eTi : Ti v' p = Ti v p - x := by
    obtain ⟨-, -, -, -, -, -, -, -, le⟩ := ox
    obtain ⟨o36, o37, o38⟩ := o3
    rw [n2 (iq (3 * p + r) 6) (by simp only [iq]; omega) (by simp only [iq]; omega)] at o36
    rw [n2 (iq (3 * p + r) 7) (by simp only [iq]; omega) (by simp only [iq]; omega)] at o37
    rw [n2 (iq (3 * p + r) 8) (by simp only [iq]; omega) (by simp only [iq]; omega)] at o38
    generalize le6 (va_up (va_up v (ip p 4) (v (ip p 4) - x)) (ip p 9) (v (ip p 9) + 1)) (3 * p + r) x = L6 at *
    generalize le7 (va_up (va_up v (ip p 4) (v (ip p 4) - x)) (ip p 9) (v (ip p 9) + 1)) (3 * p + r) x = L7 at *
    generalize le8 (va_up (va_up v (ip p 4) (v (ip p 4) - x)) (ip p 9) (v (ip p 9) + 1)) (3 * p + r) x = L8 at *
    simp only [Ti, s3]
    rcases (show r = 0 ∨ r = 1 ∨ r = 2 by omega) with rfl | rfl | rfl
    · have a6 : v' (iq (3 * p) 6) = v (iq (3 * p) 6) - L6 := o36
      have a7 : v' (iq (3 * p) 7) = v (iq (3 * p) 7) - L7 := o37
      have a8 : v' (iq (3 * p) 8) = v (iq (3 * p) 8) - L8 := o38
      rw [a6, a7, a8, hq6 (3 * p + 1) 6 (by omega) (by omega) (by omega), hq6 (3 * p + 1) 7 (by omega) (by omega) (by omega), hq6 (3 * p + 1) 8 (by omega) (by omega) (by omega), hq6 (3 * p + 2) 6 (by omega) (by omega) (by omega), hq6 (3 * p + 2) 7 (by omega) (by omega) (by omega), hq6 (3 * p + 2) 8 (by omega) (by omega) (by omega), le]
      grind
    · rw [o36, o37, o38, hq6 (3 * p) 6 (by omega) (by omega) (by omega), hq6 (3 * p) 7 (by omega) (by omega) (by omega), hq6 (3 * p) 8 (by omega) (by omega) (by omega), hq6 (3 * p + 2) 6 (by omega) (by omega) (by omega), hq6 (3 * p + 2) 7 (by omega) (by omega) (by omega), hq6 (3 * p + 2) 8 (by omega) (by omega) (by omega), le]
      grind
    · rw [o36, o37, o38, hq6 (3 * p) 6 (by omega) (by omega) (by omega), hq6 (3 * p) 7 (by omega) (by omega) (by omega), hq6 (3 * p) 8 (by omega) (by omega) (by omega), hq6 (3 * p + 1) 6 (by omega) (by omega) (by omega), hq6 (3 * p + 1) 7 (by omega) (by omega) (by omega), hq6 (3 * p + 1) 8 (by omega) (by omega) (by omega), le]
      grind
  refine ⟨τ', v', va_up (va_up (lvV v (3 * p + r) 0 C) (ip p 4) (v (ip p 4) - x)) (ip p 9) (v (ip p 9) + 1), k1, fun σ => ?_, fun σ => ?_, k4, hNn, ?_, ?_, ?_, ?_, ?_, ?_, fun i hi => ?_⟩
  · rw [fX6_departs, show (0 : Int32) = nI 0 from rfl, m_leaves h.1.1 hL.2.2.2 hL.1 hq hl, b_s, ex, m_port_4, b_s, in_nI (by omega) (by omega), g_t, g_t, nI_clamp (by omega), row_rd, row_set, l_v, lv_lo hL (by omega), m_port_9, b_s, in_nI (by omega) (by omega), g_t, g_t, nI_clamp (by omega), row_rd, row_set, l_v, up_n _ _ (show 16 + 24 * p + 9 ≠ 16 + 24 * p + 4 by omega), lv_lo hL (by omega)]
  · rw [m_settles hp6 hr, k3]
  · by_cases z : Nn v p = 1
    · rw [(o8 z).2.2.2, (o8 z).1]
    · rw [(o8' z).2.2.2, (o8' z).1, ds_s, ov4, hcr]
  · rw [o9 _ _ _ _ (by omega) (by omega), ds_n (by omega)]
  · rw [o1 _ (by simp only [ip]; omega) (by simp only [ip]; omega) (by simp only [ip]; omega) (by simp only [ip]; omega), up_s]
  · rw [o1 _ (by simp only [ip]; omega) (by simp only [ip]; omega) (by simp only [ip]; omega) (by simp only [ip]; omega), n2 _ (by simp only [ip]; omega) (by simp only [ip]; omega)]
  · rw [o1 _ (by simp only [ip]; omega) (by simp only [ip]; omega) (by simp only [ip]; omega) (by simp only [ip]; omega), n2 _ (by simp only [ip]; omega) (by simp only [ip]; omega)]
  · by_cases z : Nn v p = 1
    · exact Or.inl ⟨by omega, (o8 z).1⟩
    · exact Or.inr ⟨by omega, by rw [(o8' z).1, ov4], eTi⟩
  · rw [o10 i hi, n2 i (by omega) (by omega)]
