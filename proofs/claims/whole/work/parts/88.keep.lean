/-! ===== what an update leaves as it was ===== -/
theorem pq {p f q g : Nat} (hp : p < 6) (hf : f < 24) : ip p f ≠ iq q g := by
  show 16 + 24 * p + f ≠ 160 + 16 * q + g
  omega
theorem qq {q q' f g : Nat} (hf : f < 16) (hg : g < 16) (h : q ≠ q' ∨ f ≠ g) : iq q f ≠ iq q' g := by
  show 160 + 16 * q + f ≠ 160 + 16 * q' + g
  omega
theorem pp {p p' f g : Nat} (hf : f < 24) (hg : g < 24) (h : p ≠ p' ∨ f ≠ g) : ip p f ≠ ip p' g := by
  show 16 + 24 * p + f ≠ 16 + 24 * p' + g
  omega
theorem qm_lt {k f : Nat} (h : qm k = some f) : f ≤ 12 ∧ 1 ≤ k ∧ k ≤ 15 ∧ k ≠ 13 ∧ k ≠ 14 := by
  unfold qm at h
  split at h <;> first | (cases h; omega) | cases h
theorem qm_inj {k k' f : Nat} (h : qm k = some f) (h' : qm k' = some f) : k = k' := by
  unfold qm at h h'
  split at h <;> first | (cases h; split at h' <;> first | rfl | cases h') | cases h
theorem pm_lt {k f : Nat} (h : pm k = some f) : f ≤ 10 ∧ 2 ≤ k ∧ k ≤ 11 ∧ f ≠ 3 := by
  unfold pm at h
  split at h <;> first | (cases h; omega) | cases h
theorem pm_inj {k k' f : Nat} (h : pm k = some f) (h' : pm k' = some f) : k = k' := by
  unfold pm at h h'
  split at h <;> first | (cases h; split at h' <;> first | rfl | cases h') | cases h
/-- what the packets' part reads of the reference's row -/
def eqM (v v' : xV) : Prop := v' 0 = v 0 ∧ v' 4 = v 4 ∧ (∀ i, 448 ≤ i → v' i = v i) ∧ ∀ q, q < 18 → v' (iq q 6) = v (iq q 6) ∧ v' (iq q 7) = v (iq q 7) ∧ v' (iq q 8) = v (iq q 8) ∧ v' (iq q 12) = v (iq q 12)
theorem eqM_fun {v v' : xV} (h : eqM v v') : Sl v' = Sl v ∧ Sz v' = Sz v ∧ Pn v' = Pn v ∧ Fs v' = Fs v ∧ Fl v' = Fl v ∧ Us v' = Us v ∧ (∀ q, q < 18 → Ln v' q = Ln v q) ∧ (∀ k f, v' (ik k f) = v (ik k f)) ∧ (∀ q i, v' (ie q i) = v (ie q i)) ∧ (∀ c, v' (6336 + c) = v (6336 + c)) := by
  obtain ⟨-, -, h3, h4⟩ := h
  have e1 : ∀ k f, v' (ik k f) = v (ik k f) := fun k f => h3 _ (by show 448 ≤ 2752 + 28 * k + f; omega)
  have e2 : ∀ q i, v' (ie q i) = v (ie q i) := fun q i => h3 _ (by show 448 ≤ 448 + 128 * q + i; omega)
  refine ⟨?_, ?_, ?_, ?_, ?_, ?_, ?_, e1, e2, fun c => h3 _ (by omega)⟩
  · funext q i; simp only [Sl, e2]
  · funext k; simp only [Sz, e1]
  · funext k; simp only [Pn, e1]
  · funext k f; simp only [Fs, e1]
  · funext k f; simp only [Fl, e1]
  · funext k; simp only [Us, e1]
  · intro q hq; simp only [Ln, (h4 q hq).2.2.2]
theorem MW_congr {v v' : xV} {C : Nat} (h : eqM v v') (hM : MW v C) : MW v' C := by
  obtain ⟨g1, g2, g3, g4, g5, g6, g7, g8, g9, g10⟩ := eqM_fun h
  obtain ⟨m1, m2, m3, m4, m5, m6, m7, m8, m9, m10⟩ := hM
  refine ⟨?_, ?_, ?_, ?_, ?_, ?_, ?_, ?_, ?_, ?_⟩
  · intro q hq
    rw [g7 q hq, (h.2.2.2 q hq).2.2.2]
    exact m1 q hq
  · intro q i hq hi
    rw [g7 q hq] at hi
    rw [g9, g1, g6]
    exact m2 q i hq hi
  · intro q i q' i' hq hi hq' hi' e
    rw [g7 q hq] at hi
    rw [g7 q' hq'] at hi'
    rw [g1] at e
    exact m3 q i q' i' hq hi hq' hi' e
  · intro k hk
    rw [g8, g6]
    rcases m4 k hk with h1 | ⟨h1, q, i, h2, h3, h4⟩
    · exact Or.inl h1
    · exact Or.inr ⟨h1, q, i, h2, by rw [g7 q h2]; exact h3, by rw [g1]; exact h4⟩
  · intro k hk hu
    rw [g6] at hu
    simp only [g2, g3, g4, g5, g8, h.2.1]
    exact m5 k hk hu
  · intro k k' hk hu hk' hu' e
    rw [g6] at hu hu'
    rw [g8, g8] at e
    exact m6 k k' hk hu hk' hu' e
  · intro c hc
    simp only [g10, g6, g3, g4, g5]
    exact m7 c hc
  · intro k f c hk hu hf h1 h2
    simp only [g6, g3, g4, g5] at hu hf h1 h2
    rw [g10]
    exact m8 k f c hk hu hf h1 h2
  · intro k f f' c hk hu hf hf' h1 h2 h3 h4
    simp only [g6, g3, g4, g5] at hu hf hf' h1 h2 h3 h4
    exact m9 k f f' c hk hu hf hf' h1 h2 h3 h4
  · intro q hq
    rw [g7 q hq, (h.2.2.2 q hq).1, (h.2.2.2 q hq).2.1, (h.2.2.2 q hq).2.2.1, g1, g2]
    exact m10 q hq
/-- what the packets' part reads of the class -/
def eqX (τ τ' : xD) : Prop := (∀ K c, 2 ≤ K → K ≤ 9 → τ' K 0 0 c = τ K 0 0 c) ∧ ∀ p r, τ' 16 p r 13 = τ 16 p r 13 ∧ τ' 16 p r 14 = τ 16 p r 14
theorem RX_congr {τ τ' : xD} {v v' : xV} {C : Nat} (h : eqM v v') (hx : eqX τ τ') (hX : RX τ v C) : RX τ' v' C := by
  obtain ⟨g1, g2, g3, g4, g5, g6, g7, g8, g9, g10⟩ := eqM_fun h
  obtain ⟨x1, x2, x3, x4⟩ := hX
  obtain ⟨a1, a2⟩ := hx
  have gc : ∀ q i, q < 18 → cellAt v' q i = cellAt v q i := fun q i hq => by simp only [cellAt, g7 q hq, g1, g4]
  refine ⟨?_, ?_, ?_, ?_⟩
  · intro p r hp hr
    have hq : 3 * p + r < 18 := by omega
    obtain ⟨b1, b2, b3⟩ := x1 p r hp hr
    rw [(a2 p r).1, (a2 p r).2, gc _ _ hq, gc _ _ hq, g7 _ hq]
    refine ⟨b1, b2, fun i hi => ?_⟩
    rw [g1, g4, a1 9 _ (by omega) (by omega), a1 8 _ (by omega) (by omega), gc _ _ hq, gc _ _ hq]
    exact b3 i hi
  · intro k hk hu
    rw [g6] at hu
    obtain ⟨b1, b2, b3, b4⟩ := x2 k hk hu
    rw [g4, a1 5 _ (by omega) (by omega), a1 6 _ (by omega) (by omega), a1 7 _ (by omega) (by omega), g8, g8, g8, g3]
    refine ⟨b1, b2, b3, fun f hf => ?_⟩
    rw [a1 3 _ (by omega) (by omega), a1 4 _ (by omega) (by omega), g8]
    exact b4 f hf
  · intro c hc
    rw [a1 5 _ (by omega) (by omega), g6, g4]
    exact x3 c hc
  · refine ⟨fun c hc => ?_, fun c hc => ?_⟩
    · rw [a1 2 _ (by omega) (by omega), g10]
      exact x4.1 c hc
    · rw [a1 2 _ (by omega) (by omega)]
      exact x4.2 c hc
/-- the range of a queue's field that a caller sets -/
def okf (f : Nat) (x : Int32) : Prop := (f = 0 ∧ rg x 0 64) ∨ (f = 1 ∧ rg x 0 32) ∨ (f = 2 ∧ rg x 0 8) ∨ (f = 3 ∧ rg x 0 32) ∨ (f = 4 ∧ rg x 1 16) ∨ (f = 9 ∧ x_z x = true) ∨ (f = 10 ∧ x_z x = true) ∨ f = 11
theorem cfQ_set {τ : xD} {v : xV} {p r k f : Nat} {x : Int32} (hr : r < 3) (hk : qm k = some f) (h : cfQ τ v) : cfQ (dset τ 16 p r k x) (va_up v (iq (3 * p + r) f) x) := by
  intro p' r' k' f' hp' hr' hk'
  have l1 := qm_lt hk
  have l2 := qm_lt hk'
  rw [dset_rd]
  by_cases e : p' = p ∧ r' = r ∧ k' = k
  · obtain ⟨rfl, rfl, rfl⟩ := e
    rw [hk] at hk'
    cases hk'
    rw [if_pos ⟨rfl, rfl, rfl, rfl⟩, up_s]
  · rw [if_neg (fun q => e q.2), up_n _ _ (qq (by omega) (by omega) ?_)]
    · exact h p' r' k' f' hp' hr' hk'
    · by_cases e2 : 3 * p' + r' = 3 * p + r
      · refine Or.inr (fun ef => e ⟨by omega, by omega, ?_⟩)
        subst ef
        exact qm_inj hk' hk
      · exact Or.inl e2
theorem RR_setQ {τ : xD} {v : xV} {n p r k f : Nat} {x : Int32} (hp : p < 6) (hr : r < 3) (hk : qm k = some f) (hf : okf f x) (h : RR τ v n) : RR (dset τ 16 p r k x) (va_up v (iq (3 * p + r) f) x) n := by
  obtain ⟨C, P, hG, hQ, hPp, hLs, hDd, hRf, wP, wQ, wT, wS, wN, hM, hX, hgr, hb⟩ := h
  have lf : f < 12 ∧ f ≠ 5 ∧ f ≠ 6 ∧ f ≠ 7 ∧ f ≠ 8 := by
    rcases hf with h | h | h | h | h | h | h | h <;> omega
  have lk := qm_lt hk
  have nq : ∀ q g, g < 16 → g ≠ f → va_up v (iq (3 * p + r) f) x (iq q g) = v (iq q g) := fun q g h1 h2 => up_n _ _ (qq h1 (by omega) (Or.inr h2))
  have np : ∀ p' g, p' < 6 → g < 24 → va_up v (iq (3 * p + r) f) x (ip p' g) = v (ip p' g) := fun p' g h1 h2 => up_n _ _ (pq h1 h2)
  have nl : ∀ i, i < 16 → va_up v (iq (3 * p + r) f) x i = v i := fun i h1 => up_n _ _ (by show i ≠ 160 + 16 * (3 * p + r) + f; omega)
  have nh : ∀ i, 448 ≤ i → va_up v (iq (3 * p + r) f) x i = v i := fun i h1 => up_n _ _ (by show i ≠ 160 + 16 * (3 * p + r) + f; omega)
  have tK : ∀ K p' r' k', K ≠ 16 → dset τ 16 p r k x K p' r' k' = τ K p' r' k' := fun K p' r' k' h => by rw [dset_rd, if_neg (fun q => h q.1)]
  have s3e : ∀ p' g, g < 16 → g ≠ f → s3 (va_up v (iq (3 * p + r) f) x) p' g = s3 v p' g := fun p' g h1 h2 => by simp only [s3, nq _ _ h1 h2]
  have eM : eqM v (va_up v (iq (3 * p + r) f) x) := ⟨nl 0 (by omega), nl 4 (by omega), nh, fun q _ => ⟨nq q 6 (by omega) (by omega), nq q 7 (by omega) (by omega), nq q 8 (by omega) (by omega), nq q 12 (by omega) (by omega)⟩⟩
  have eX : eqX τ (dset τ 16 p r k x) := ⟨fun K c h1 h2 => tK K 0 0 c (by omega), fun p' r' => ⟨by rw [dset_rd, if_neg (fun q => by omega)], by rw [dset_rd, if_neg (fun q => by omega)]⟩⟩
  have efree : mFree (va_up v (iq (3 * p + r) f) x) P = mFree v P := by
    rw [mFree, mFree, mPool, mPool, nl 0 (by omega)]
    congr 1
    · congr 1
      exact sm32_congr (fun p' hp' => by have := hG.2.2.2.2.2.1; rw [np p' 0 (by omega) (by omega), np p' 1 (by omega) (by omega), np p' 2 (by omega) (by omega)])
    · exact sm32_congr (fun p' hp' => s3e p' 7 (by omega) (by omega))
  refine ⟨C, P, ?_, cfQ_set hr hk hQ, ?_, ?_, ?_, ?_, ?_, ?_, ?_, ?_, ?_, MW_congr eM hM, RX_congr eM eX hX, ?_, ?_⟩
  · simp only [wfG, nl 0 (by omega), nl 1 (by omega), nl 2 (by omega), nl 5 (by omega)]
    exact hG
  · intro p' k' f' h1 h2
    have := pm_lt h2
    rw [tK 13 _ _ _ (by decide), np p' f' h1 (by omega)]
    exact hPp p' k' f' h1 h2
  · intro p' c h1 h2
    rw [tK 15 _ _ _ (by decide), np p' _ h1 (by omega)]
    exact hLs p' c h1 h2
  · simp only [cfD, tK 1 _ _ _ (by decide), tK 0 _ _ _ (by decide), nl 0 (by omega), nl 1 (by omega), nl 2 (by omega), nl 3 (by omega), nl 4 (by omega), nl 5 (by omega)]
    exact hDd
  · intro h5 k' hk'
    rw [nl 5 (by omega)] at h5
    rw [tK 11 _ _ _ (by decide), nl _ (by omega)]
    exact hRf h5 k' hk'
  · intro p' hp'
    simp only [np p' _ hp' (show 0 < 24 by omega), np p' _ hp' (show 1 < 24 by omega), np p' _ hp' (show 2 < 24 by omega), np p' _ hp' (show 4 < 24 by omega), np p' _ hp' (show 5 < 24 by omega), np p' _ hp' (show 6 < 24 by omega), np p' _ hp' (show 7 < 24 by omega), np p' _ hp' (show 8 < 24 by omega)]
    exact wP p' hp'
  · intro q hq
    have w := wQ q hq
    by_cases eq : q = 3 * p + r
    · subst eq
      have e0 : va_up v (iq (3 * p + r) f) x (iq (3 * p + r) f) = x := up_s _ _ _
      obtain ⟨w0, w1, w2, w3, w4, w5, w6, w7, w8, w9, w10⟩ := w
      refine ⟨?_, ?_, ?_, ?_, ?_, ?_, ?_, ?_, ?_, ?_, ?_⟩
      · by_cases g : f = 0
        · subst g; rw [e0]; rcases hf with h | h | h | h | h | h | h | h <;> first | exact h.2 | omega
        · rw [nq _ _ (by omega) (by omega)]; exact w0
      · by_cases g : f = 1
        · subst g; rw [e0]; rcases hf with h | h | h | h | h | h | h | h <;> first | exact h.2 | omega
        · rw [nq _ _ (by omega) (by omega)]; exact w1
      · by_cases g : f = 2
        · subst g; rw [e0]; rcases hf with h | h | h | h | h | h | h | h <;> first | exact h.2 | omega
        · rw [nq _ _ (by omega) (by omega)]; exact w2
      · by_cases g : f = 3
        · subst g; rw [e0]; rcases hf with h | h | h | h | h | h | h | h <;> first | exact h.2 | omega
        · rw [nq _ _ (by omega) (by omega)]; exact w3
      · by_cases g : f = 4
        · subst g; rw [e0]; rcases hf with h | h | h | h | h | h | h | h <;> first | exact h.2 | omega
        · rw [nq _ _ (by omega) (by omega)]; exact w4
      · rw [nq _ _ (by omega) (by omega)]; exact w5
      · rw [nq _ _ (by omega) (by omega)]; exact w6
      · rw [nq _ _ (by omega) (by omega)]; exact w7
      · rw [nq _ _ (by omega) (by omega)]; exact w8
      · by_cases g : f = 9
        · subst g; rw [e0]; rcases hf with h | h | h | h | h | h | h | h <;> first | exact h.2 | omega
        · rw [nq _ _ (by omega) (by omega)]; exact w9
      · by_cases g : f = 10
        · subst g; rw [e0]; rcases hf with h | h | h | h | h | h | h | h <;> first | exact h.2 | omega
        · rw [nq _ _ (by omega) (by omega)]; exact w10
    · have ne : ∀ g, g < 16 → va_up v (iq (3 * p + r) f) x (iq q g) = v (iq q g) := fun g h1 => up_n _ _ (qq h1 (by omega) (Or.inl eq))
      simp only [ne 0 (by omega), ne 1 (by omega), ne 2 (by omega), ne 3 (by omega), ne 4 (by omega), ne 5 (by omega), ne 6 (by omega), ne 7 (by omega), ne 8 (by omega), ne 9 (by omega), ne 10 (by omega)]
      exact w
  · intro p' r' h1 h2
    rw [nq _ 12 (by omega) (by omega), nq _ 5 (by omega) (by omega), np p' 6 h1 (by omega), np p' 7 h1 (by omega)]
    exact wT p' r' h1 h2
  · refine ⟨fun p' h1 => ?_, by rw [efree]; exact wS.2⟩
    rw [s3e p' 6 (by omega) (by omega), s3e p' 8 (by omega) (by omega), np p' 0 h1 (by omega), np p' 1 h1 (by omega), np p' 2 h1 (by omega)]
    exact wS.1 p' h1
  · intro p' h1 h2
    obtain ⟨b1, b2, b3, b4⟩ := wN p' h1 h2
    refine ⟨by rw [np p' 0 h2 (by omega)]; exact b1, by rw [np p' 1 h2 (by omega)]; exact b2, by rw [np p' 2 h2 (by omega)]; exact b3, fun r' hr' => ?_⟩
    rw [nq _ 6 (by omega) (by omega), nq _ 7 (by omega) (by omega), nq _ 8 (by omega) (by omega), nq _ 12 (by omega) (by omega)]
    exact b4 r' hr'
  · have e6 : ∀ k', dset τ 16 p r k x 0 0 0 k' = τ 0 0 0 k' := fun k' => tK 0 _ _ _ (by decide)
    have e3 : ∀ p', p' < 6 → va_up v (iq (3 * p + r) f) x (ip p' 3) = v (ip p' 3) := fun p' h => np p' 3 h (by omega)
    obtain ⟨g1, g2⟩ := hgr
    refine ⟨fun p' h1 => by rw [e3 p' h1, np p' 2 h1 (by omega), nl 10 (by omega)]; exact g1 p' h1, ?_⟩
    have h6 := hG.2.2.2.2.2.1
    rcases g2 with ⟨a1, a2, a3⟩ | ⟨a, a0, a1, a2, a3, a4⟩ | ⟨a, b, a0, b0, ab, a1, a2, a3, a4, a5⟩
    · exact Or.inl ⟨by rw [e6]; exact a1, by rw [e6]; exact a2, fun p' h => by rw [e3 p' h]; exact a3 p' h⟩
    · exact Or.inr (Or.inl ⟨a, a0, by rw [e6]; exact a1, by rw [e6]; exact a2, by rw [e3 a (by omega)]; exact a3, fun p' h h2 => by rw [e3 p' h]; exact a4 p' h h2⟩)
    · exact Or.inr (Or.inr ⟨a, b, a0, b0, ab, by rw [e6]; exact a1, by rw [e6]; exact a2, by rw [e3 a (by omega)]; exact a3, by rw [e3 a (by omega), e3 b (by omega)]; exact a4, fun p' h h2 h3 => by rw [e3 p' h]; exact a5 p' h h2 h3⟩)
  · rw [nl 4 (by omega), nl 10 (by omega)]
    exact hb
