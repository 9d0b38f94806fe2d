/-! ===== the store behind a call: the device's part and the reference's row ===== -/
def st2 (σ : xS) (τ : xD) (v : xV) : xS := x_row (va_up σ 0 τ) 5 31 0 0 v
theorem row_set (σ : xS) (v : xV) (j : Nat) (x : Int32) : x_set (x_row σ 5 31 0 0 v) 5 31 0 0 j x = x_row σ 5 31 0 0 (va_up v j x) := by
  unfold x_set
  rw [x_row_same]
  unfold x_row
  simp only [up_s, up_up]
theorem set_row (σ : xS) (j : Nat) (x : Int32) : x_set σ 5 31 0 0 j x = x_row σ 5 31 0 0 (va_up (σ 5 31 0 0) j x) := rfl
theorem row_id (σ : xS) : x_row σ 5 31 0 0 (σ 5 31 0 0) = σ := by
  unfold x_row
  have h : ∀ {α : Type} (f : Nat → α) (k : Nat), va_up f k (f k) = f := fun f k => by
    funext j
    unfold va_up
    by_cases e : j = k
    · subst e; simp
    · simp [e]
  simp only [h]
theorem up_id {α : Type} (f : Nat → α) (k : Nat) : va_up f k (f k) = f := by
  funext j
  unfold va_up
  by_cases e : j = k
  · subst e; simp
  · simp [e]
theorem set_own (σ : xS) (τ : xD) (d K p r k : Nat) (x : Int32) : x_set (va_up σ d τ) d K p r k x = va_up σ d (dset τ K p r k x) := by
  rw [x_set_up, up_s, up_up]
theorem row_rd (σ : xS) (v : xV) : x_row σ 5 31 0 0 v 5 31 0 0 = v := x_row_same σ 5 31 0 0 v
theorem row_K (σ : xS) (v : xV) {K : Nat} (h : K ≠ 31) : x_row σ 5 31 0 0 v 5 K = σ 5 K := by
  unfold x_row
  rw [up_s, up_n _ _ h]
theorem row_d (σ : xS) (v : xV) {d : Nat} (h : d ≠ 5) : x_row σ 5 31 0 0 v d = σ d := by
  unfold x_row
  rw [up_n _ _ h]
theorem Inv_st2 {n : Nat} {σ : xS} {τ : xD} {v : xV} (hI : Inv n σ) (hn : n < 512) (hR : RR τ v (n + 1)) (hp : ∀ p r, p < 6 → r < 3 → τ 16 p r 0 = nI r) : Inv (n + 1) (st2 σ τ v) := by
  intro _
  obtain ⟨h1, h2, h3, h4⟩ := hI (by omega)
  have e0 : st2 σ τ v 0 = τ := by rw [st2, row_d _ _ (by decide), up_s]
  have ed : ∀ d, d ≠ 0 → d ≠ 5 → st2 σ τ v d = σ d := fun d a b => by rw [st2, row_d _ _ b, up_n _ _ a]
  have eK : ∀ K, K ≠ 31 → st2 σ τ v 5 K = σ 5 K := fun K a => by rw [st2, row_K _ _ a, up_n _ _ (by decide)]
  refine ⟨?_, fun j hj => ?_, ?_, fun d p r hd hp' hr => ?_⟩
  · rw [e0]
    have : vv (st2 σ τ v) = v := row_rd _ _
    rw [this]
    exact hR
  · rw [ed 4 (by decide) (by decide), eK 34 (by decide), eK 33 (by decide), ed (2 + j) (by omega) (by omega)]
    exact ⟨(h2 j hj).1, (h2 j hj).2.1, fun e => RR_mono (by omega) ((h2 j hj).2.2 e)⟩
  · unfold tx
    rw [ed 4 (by decide) (by decide), eK 30 (by decide), eK 35 (by decide)]
    exact h3
  · by_cases e : d = 0
    · subst e
      rw [e0]
      exact hp p r hp' hr
    · rw [ed d e (by omega)]
      exact h4 d p r hd hp' hr
theorem Inv_pr {n : Nat} {σ : xS} (hI : Inv n σ) (hn : n < 512) : ∀ p r, p < 6 → r < 3 → σ 0 16 p r 0 = nI r := fun p r hp hr => (hI (by omega)).2.2.2 0 p r (by decide) hp hr
theorem pr_set {τ : xD} {K p r k : Nat} {x : Int32} (hk : K ≠ 16 ∨ k ≠ 0) (h : ∀ p r, p < 6 → r < 3 → τ 16 p r 0 = nI r) : ∀ p' r', p' < 6 → r' < 3 → dset τ K p r k x 16 p' r' 0 = nI r' := fun p' r' hp hr => by
  rw [dset_rd, if_neg (fun q => by omega)]
  exact h p' r' hp hr
/-- the range of a port's field that is set freely -/
def okp (f : Nat) (x : Int32) : Prop := (f = 4 ∧ rg x 0 11) ∨ (f = 5 ∧ rg x 0 16) ∨ (f = 8 ∧ x_z x = true) ∨ f = 9 ∨ f = 10
theorem cfP_set {τ : xD} {v : xV} {p k f : Nat} {x : Int32} (hk : pm k = some f) (h : cfP τ v) : cfP (dset τ 13 p 0 k x) (va_up v (ip p f) x) := by
  intro p' k' f' hp' hk'
  have l1 := pm_lt hk
  have l2 := pm_lt hk'
  rw [dset_rd]
  by_cases e : p' = p ∧ k' = k
  · obtain ⟨rfl, rfl⟩ := e
    rw [hk] at hk'
    cases hk'
    rw [if_pos ⟨rfl, rfl, rfl, rfl⟩, up_s]
  · rw [if_neg (fun q => e ⟨q.2.1, q.2.2.2⟩), up_n _ _ (pp (by omega) (by omega) ?_)]
    · exact h p' k' f' hp' hk'
    · by_cases e2 : p' = p
      · refine Or.inr (fun ef => e ⟨e2, ?_⟩)
        subst ef
        exact pm_inj hk' hk
      · exact Or.inl e2
theorem RR_setP {τ : xD} {v : xV} {n p k f : Nat} {x : Int32} (hp : p < 6) (hk : pm k = some f) (hf : okp f x) (h : RR τ v n) : RR (dset τ 13 p 0 k x) (va_up v (ip p f) x) n := by
  obtain ⟨C, P, hG, hQ, hPp, hLs, hDd, hRf, wP, wQ, wT, wS, wN, hM, hX, hgr, hb⟩ := h
  have lf : 4 ≤ f ∧ f ≤ 10 ∧ f ≠ 6 ∧ f ≠ 7 := by
    rcases hf with h | h | h | h | h <;> omega
  have lk := pm_lt hk
  have nq : ∀ q g, va_up v (ip p f) x (iq q g) = v (iq q g) := fun q g => up_n _ _ (fun e => pq hp (by omega) e.symm)
  have np : ∀ p' g, g < 24 → g ≠ f → va_up v (ip p f) x (ip p' g) = v (ip p' g) := fun p' g h1 h2 => up_n _ _ (pp h1 (by omega) (Or.inr h2))
  have nl : ∀ i, i < 16 → va_up v (ip p f) x i = v i := fun i h1 => up_n _ _ (by show i ≠ 16 + 24 * p + f; omega)
  have nh : ∀ i, 448 ≤ i → va_up v (ip p f) x i = v i := fun i h1 => up_n _ _ (by show i ≠ 16 + 24 * p + f; omega)
  have tK : ∀ K p' r' k', K ≠ 13 → dset τ 13 p 0 k x K p' r' k' = τ K p' r' k' := fun K p' r' k' h => by rw [dset_rd, if_neg (fun q => h q.1)]
  have s3e : ∀ p' g, s3 (va_up v (ip p f) x) p' g = s3 v p' g := fun p' g => by simp only [s3, nq]
  have eM : eqM v (va_up v (ip p f) x) := ⟨nl 0 (by omega), nl 4 (by omega), nh, fun q _ => ⟨nq q 6, nq q 7, nq q 8, nq q 12⟩⟩
  have eX : eqX τ (dset τ 13 p 0 k x) := ⟨fun K c h1 h2 => tK K 0 0 c (by omega), fun p' r' => ⟨tK 16 _ _ _ (by decide), tK 16 _ _ _ (by decide)⟩⟩
  have efree : mFree (va_up v (ip p f) x) P = mFree v P := by
    rw [mFree, mFree, mPool, mPool, nl 0 (by omega)]
    congr 1
    · congr 1
      exact sm32_congr (fun p' hp' => by rw [np p' 0 (by omega) (by omega), np p' 1 (by omega) (by omega), np p' 2 (by omega) (by omega)])
    · exact sm32_congr (fun p' hp' => s3e p' 7)
  refine ⟨C, P, ?_, ?_, cfP_set hk hPp, ?_, ?_, ?_, ?_, ?_, ?_, ?_, ?_, MW_congr eM hM, RX_congr eM eX hX, ?_, ?_⟩
  · simp only [wfG, nl 0 (by omega), nl 1 (by omega), nl 2 (by omega), nl 5 (by omega)]
    exact hG
  · intro p' r' k' f' h1 h2 h3
    rw [tK 16 _ _ _ (by decide), nq]
    exact hQ p' r' k' f' h1 h2 h3
  · intro p' c h1 h2
    rw [tK 15 _ _ _ (by decide), np p' _ (by omega) (by omega)]
    exact hLs p' c h1 h2
  · simp only [cfD, tK 1 _ _ _ (by decide), tK 0 _ _ _ (by decide), nl 0 (by omega), nl 1 (by omega), nl 2 (by omega), nl 3 (by omega), nl 4 (by omega), nl 5 (by omega)]
    exact hDd
  · intro h5 k' hk'
    rw [nl 5 (by omega)] at h5
    rw [tK 11 _ _ _ (by decide), nl _ (by omega)]
    exact hRf h5 k' hk'
  · intro p' hp'
    have w := wP p' hp'
    by_cases ep : p' = p
    · subst ep
      have e0 : va_up v (ip p' f) x (ip p' f) = x := up_s _ _ _
      obtain ⟨w0, w1, w2, w4, w5, w6, w7, w8⟩ := w
      refine ⟨by rw [np _ _ (by omega) (by omega)]; exact w0, by rw [np _ _ (by omega) (by omega)]; exact w1, by rw [np _ _ (by omega) (by omega)]; exact w2, ?_, ?_, by rw [np _ _ (by omega) (by omega)]; exact w6, by rw [np _ _ (by omega) (by omega)]; exact w7, ?_⟩
      · by_cases g : f = 4
        · subst g; rw [e0]; rcases hf with h | h | h | h | h <;> first | exact h.2 | omega
        · rw [np _ _ (by omega) (by omega)]; exact w4
      · by_cases g : f = 5
        · subst g; rw [e0]; rcases hf with h | h | h | h | h <;> first | exact h.2 | omega
        · rw [np _ _ (by omega) (by omega)]; exact w5
      · by_cases g : f = 8
        · subst g; rw [e0]; rcases hf with h | h | h | h | h <;> first | exact h.2 | omega
        · rw [np _ _ (by omega) (by omega)]; exact w8
    · have ne : ∀ g, g < 24 → va_up v (ip p f) x (ip p' g) = v (ip p' g) := fun g h1 => up_n _ _ (pp h1 (by omega) (Or.inl ep))
      simp only [ne 0 (by omega), ne 1 (by omega), ne 2 (by omega), ne 4 (by omega), ne 5 (by omega), ne 6 (by omega), ne 7 (by omega), ne 8 (by omega)]
      exact w
  · intro q hq
    simp only [nq]
    exact wQ q hq
  · intro p' r' h1 h2
    rw [nq, nq, np p' 6 (by omega) (by omega), np p' 7 (by omega) (by omega)]
    exact wT p' r' h1 h2
  · refine ⟨fun p' h1 => ?_, by rw [efree]; exact wS.2⟩
    rw [s3e p' 6, s3e p' 8, np p' 0 (by omega) (by omega), np p' 1 (by omega) (by omega), np p' 2 (by omega) (by omega)]
    exact wS.1 p' h1
  · intro p' h1 h2
    obtain ⟨b1, b2, b3, b4⟩ := wN p' h1 h2
    refine ⟨by rw [np p' 0 (by omega) (by omega)]; exact b1, by rw [np p' 1 (by omega) (by omega)]; exact b2, by rw [np p' 2 (by omega) (by omega)]; exact b3, fun r' hr' => ?_⟩
    rw [nq, nq, nq, nq]
    exact b4 r' hr'
  · have e6 : ∀ k', dset τ 13 p 0 k x 0 0 0 k' = τ 0 0 0 k' := fun k' => tK 0 _ _ _ (by decide)
    have e3 : ∀ p', va_up v (ip p f) x (ip p' 3) = v (ip p' 3) := fun p' => np p' 3 (by omega) (by omega)
    have e2 : ∀ p', va_up v (ip p f) x (ip p' 2) = v (ip p' 2) := fun p' => np p' 2 (by omega) (by omega)
    simp only [gr, e6, e3, e2, nl 10 (by omega)]
    exact hgr
  · rw [nl 4 (by omega), nl 10 (by omega)]
    exact hb
theorem RR_setPush {τ : xD} {v : xV} {n : Nat} {x : Int32} (hx : x_z x = true) (h : RR τ v n) : RR (dset τ 0 0 0 3 x) (va_up v 2 x) n := by
  obtain ⟨C, P, hG, hQ, hPp, hLs, hDd, hRf, wP, wQ, wT, wS, wN, hM, hX, hgr, hb⟩ := h
  have nq : ∀ q g, va_up v 2 x (iq q g) = v (iq q g) := fun q g => up_n _ _ (by show 160 + 16 * q + g ≠ 2; omega)
  have np : ∀ p' g, va_up v 2 x (ip p' g) = v (ip p' g) := fun p' g => up_n _ _ (by show 16 + 24 * p' + g ≠ 2; omega)
  have nl : ∀ i, i ≠ 2 → va_up v 2 x i = v i := fun i h1 => up_n _ _ h1
  have tK : ∀ K p' r' k', (K ≠ 0 ∨ k' ≠ 3) → dset τ 0 0 0 3 x K p' r' k' = τ K p' r' k' := fun K p' r' k' h => by rw [dset_rd, if_neg (fun q => by omega)]
  have s3e : ∀ p' g, s3 (va_up v 2 x) p' g = s3 v p' g := fun p' g => by simp only [s3, nq]
  have eM : eqM v (va_up v 2 x) := ⟨nl 0 (by omega), nl 4 (by omega), fun i h => nl i (by omega), fun q _ => ⟨nq q 6, nq q 7, nq q 8, nq q 12⟩⟩
  have eX : eqX τ (dset τ 0 0 0 3 x) := ⟨fun K c h1 h2 => tK K 0 0 c (by omega), fun p' r' => ⟨tK 16 _ _ _ (by omega), tK 16 _ _ _ (by omega)⟩⟩
  have efree : mFree (va_up v 2 x) P = mFree v P := by simp only [mFree, mPool, nl 0 (by omega), np, s3e]
  refine ⟨C, P, ?_, ?_, ?_, ?_, ?_, ?_, ?_, ?_, ?_, ?_, ?_, MW_congr eM hM, RX_congr eM eX hX, ?_, ?_⟩
  · obtain ⟨a1, a2, a3, a4, a5, a6, a7, a8⟩ := hG
    refine ⟨by rw [nl 0 (by omega)]; exact a1, a2, a3, by rw [nl 1 (by omega)]; exact a4, a5, a6, by rw [up_s]; exact hx, by rw [nl 5 (by omega)]; exact a8⟩
  · intro p' r' k' f' h1 h2 h3
    rw [tK 16 _ _ _ (by omega), nq]
    exact hQ p' r' k' f' h1 h2 h3
  · intro p' k' f' h1 h2
    rw [tK 13 _ _ _ (by omega), np]
    exact hPp p' k' f' h1 h2
  · intro p' c h1 h2
    rw [tK 15 _ _ _ (by omega), np]
    exact hLs p' c h1 h2
  · obtain ⟨d1, d2, d3, d4, d5, d6⟩ := hDd
    refine ⟨by rw [tK 1 _ _ _ (by omega), nl 0 (by omega)]; exact d1, by rw [tK 0 _ _ _ (by omega), nl 1 (by omega)]; exact d2, ?_, by rw [tK 0 _ _ _ (by omega), nl 3 (by omega)]; exact d4, by rw [tK 0 _ _ _ (by omega), nl 4 (by omega)]; exact d5, by rw [tK 0 _ _ _ (by omega), nl 5 (by omega)]; exact d6⟩
    rw [dset_rd, if_pos ⟨rfl, rfl, rfl, rfl⟩, up_s]
  · intro h5 k' hk'
    rw [nl 5 (by omega)] at h5
    rw [tK 11 _ _ _ (by omega), nl _ (by omega)]
    exact hRf h5 k' hk'
  · intro p' hp'; simp only [np]; exact wP p' hp'
  · intro q hq; simp only [nq]; exact wQ q hq
  · intro p' r' h1 h2; rw [nq, nq, np, np]; exact wT p' r' h1 h2
  · refine ⟨fun p' h1 => ?_, by rw [efree]; exact wS.2⟩
    rw [s3e, s3e, np, np, np]; exact wS.1 p' h1
  · intro p' h1 h2; simp only [np, nq]; exact wN p' h1 h2
  · simp only [gr, tK 0 _ _ 6 (by omega), tK 0 _ _ 7 (by omega), np, nl 10 (by omega)]; exact hgr
  · rw [nl 4 (by omega), nl 10 (by omega)]; exact hb
