/-! ===== each part of the invariant under a change elsewhere ===== -/
theorem wfG_c {v v' : xV} {C P : Nat} (h0 : v' 0 = v 0) (h1 : v' 1 = v 1) (h2 : v' 2 = v 2) (h5 : v' 5 = v 5) (h : wfG v C P) : wfG v' C P := by
  unfold wfG at *; rw [h0, h1, h2, h5]; exact h
theorem cfQ_c {τ τ' : xD} {v v' : xV} (ht : ∀ p r k, τ' 16 p r k = τ 16 p r k) (hv : ∀ q f, q < 18 → f < 13 → v' (iq q f) = v (iq q f)) (h : cfQ τ v) : cfQ τ' v' := by
  intro p r k f hp hr hk
  have := qm_lt hk
  rw [ht, hv _ _ (by omega) (by omega)]
  exact h p r k f hp hr hk
theorem cfP_c {τ τ' : xD} {v v' : xV} (ht : ∀ p k, τ' 13 p 0 k = τ 13 p 0 k) (hv : ∀ p f, p < 6 → f < 11 → f ≠ 3 → v' (ip p f) = v (ip p f)) (h : cfP τ v) : cfP τ' v' := by
  intro p k f hp hk
  have := pm_lt hk
  rw [ht, hv _ _ hp (by omega) (by omega)]
  exact h p k f hp hk
theorem cfL_c {τ τ' : xD} {v v' : xV} (ht : ∀ p c, τ' 15 p 0 c = τ 15 p 0 c) (hv : ∀ p c, p < 6 → c < 10 → v' (ip p (11 + c)) = v (ip p (11 + c))) (h : cfL τ v) : cfL τ' v' := by
  intro p c hp hc
  rw [ht, hv p c hp hc]
  exact h p c hp hc
theorem cfD_c {τ τ' : xD} {v v' : xV} (t1 : τ' 1 0 0 0 = τ 1 0 0 0) (ht : ∀ k, 2 ≤ k → k ≤ 9 → k ≠ 6 → k ≠ 7 → τ' 0 0 0 k = τ 0 0 0 k) (hv : ∀ i, i < 6 → v' i = v i) (h : cfD τ v) : cfD τ' v' := by
  unfold cfD at *
  rw [t1, ht 2 (by omega) (by omega) (by omega) (by omega), ht 3 (by omega) (by omega) (by omega) (by omega), ht 4 (by omega) (by omega) (by omega) (by omega), ht 5 (by omega) (by omega) (by omega) (by omega), ht 9 (by omega) (by omega) (by omega) (by omega), hv 0 (by omega), hv 1 (by omega), hv 2 (by omega), hv 3 (by omega), hv 4 (by omega), hv 5 (by omega)]
  exact h
theorem cfR_c {τ τ' : xD} {v v' : xV} (ht : ∀ k, τ' 11 0 0 k = τ 11 0 0 k) (hv : ∀ i, 5 ≤ i → i < 10 → v' i = v i) (h : cfR τ v) : cfR τ' v' := by
  intro h5 k hk
  rw [hv 5 (by omega) (by omega)] at h5
  rw [ht, hv _ (by omega) (by omega)]
  exact h h5 k hk
theorem wfP_c {v v' : xV} (hv : ∀ p f, p < 6 → f < 9 → v' (ip p f) = v (ip p f)) (h : wfP v) : wfP v' := by
  intro p hp
  rw [hv p 0 hp (by omega), hv p 1 hp (by omega), hv p 2 hp (by omega), hv p 4 hp (by omega), hv p 5 hp (by omega), hv p 6 hp (by omega), hv p 7 hp (by omega), hv p 8 hp (by omega)]
  exact h p hp
theorem wfQ_c {v v' : xV} (hv : ∀ q f, q < 18 → f < 11 → v' (iq q f) = v (iq q f)) (h : wfQ v) : wfQ v' := by
  intro q hq
  rw [hv q 0 hq (by omega), hv q 1 hq (by omega), hv q 2 hq (by omega), hv q 3 hq (by omega), hv q 4 hq (by omega), hv q 5 hq (by omega), hv q 6 hq (by omega), hv q 7 hq (by omega), hv q 8 hq (by omega), hv q 9 hq (by omega), hv q 10 hq (by omega)]
  exact h q hq
theorem wfT_c {v v' : xV} (hq : ∀ q, q < 18 → v' (iq q 12) = v (iq q 12) ∧ v' (iq q 5) = v (iq q 5)) (hp : ∀ p, p < 6 → v' (ip p 6) = v (ip p 6) ∧ v' (ip p 7) = v (ip p 7)) (h : wfT v) : wfT v' := by
  intro p r h1 h2
  rw [(hq _ (by omega)).1, (hq _ (by omega)).2, (hp p h1).1, (hp p h1).2]
  exact h p r h1 h2
theorem mFree_c {v v' : xV} {P : Nat} (h6 : P ≤ 6) (h0 : v' 0 = v 0) (hp : ∀ p f, p < 6 → f < 3 → v' (ip p f) = v (ip p f)) (hq : ∀ q, q < 18 → v' (iq q 7) = v (iq q 7)) : mFree v' P = mFree v P := by
  rw [mFree, mFree, mPool, mPool, h0]
  congr 1
  · congr 1
    exact sm32_congr (fun p' hp' => by rw [hp p' 0 (by omega) (by omega), hp p' 1 (by omega) (by omega), hp p' 2 (by omega) (by omega)])
  · exact sm32_congr (fun p' hp' => by simp only [s3]; rw [hq _ (by omega), hq _ (by omega), hq _ (by omega)])
theorem wfS_c {v v' : xV} {P : Nat} (h6 : P ≤ 6) (h0 : v' 0 = v 0) (hp : ∀ p f, p < 6 → f < 3 → v' (ip p f) = v (ip p f)) (hq : ∀ q f, q < 18 → 6 ≤ f → f ≤ 8 → v' (iq q f) = v (iq q f)) (h : wfS v P) : wfS v' P := by
  refine ⟨fun p h1 => ?_, by rw [mFree_c h6 h0 hp (fun q hq' => hq q 7 hq' (by omega) (by omega))]; exact h.2⟩
  simp only [s3]
  rw [hq _ 6 (by omega) (by omega) (by omega), hq _ 6 (by omega) (by omega) (by omega), hq _ 6 (by omega) (by omega) (by omega), hq _ 8 (by omega) (by omega) (by omega), hq _ 8 (by omega) (by omega) (by omega), hq _ 8 (by omega) (by omega) (by omega), hp p 0 h1 (by omega), hp p 1 h1 (by omega), hp p 2 h1 (by omega)]
  exact h.1 p h1
theorem wfN_c {v v' : xV} {P : Nat} (hp : ∀ p f, P ≤ p → p < 6 → f < 3 → v' (ip p f) = v (ip p f)) (hq : ∀ p r f, P ≤ p → p < 6 → r < 3 → 6 ≤ f → f ≤ 12 → v' (iq (3 * p + r) f) = v (iq (3 * p + r) f)) (h : wfN v P) : wfN v' P := by
  intro p h1 h2
  obtain ⟨b1, b2, b3, b4⟩ := h p h1 h2
  refine ⟨by rw [hp p 0 h1 h2 (by omega)]; exact b1, by rw [hp p 1 h1 h2 (by omega)]; exact b2, by rw [hp p 2 h1 h2 (by omega)]; exact b3, fun r hr => ?_⟩
  rw [hq p r 6 h1 h2 hr (by omega) (by omega), hq p r 7 h1 h2 hr (by omega) (by omega), hq p r 8 h1 h2 hr (by omega) (by omega), hq p r 12 h1 h2 hr (by omega) (by omega)]
  exact b4 r hr
theorem gr_c {τ τ' : xD} {v v' : xV} {P : Nat} (h6 : P ≤ 6) (t6 : τ' 0 0 0 6 = τ 0 0 0 6) (t7 : τ' 0 0 0 7 = τ 0 0 0 7) (hp : ∀ p, p < 6 → v' (ip p 2) = v (ip p 2) ∧ v' (ip p 3) = v (ip p 3)) (h10 : v' 10 = v 10) (h : gr τ v P) : gr τ' v' P := by
  obtain ⟨g1, g2⟩ := h
  refine ⟨fun p h1 => by rw [(hp p h1).1, (hp p h1).2, h10]; exact g1 p h1, ?_⟩
  rw [t6, t7]
  rcases g2 with ⟨a1, a2, a3⟩ | ⟨a, a0, a1, a2, a3, a4⟩ | ⟨a, b, a0, b0, ab, a1, a2, a3, a4, a5⟩
  · exact Or.inl ⟨a1, a2, fun p' h => by rw [(hp p' h).2]; exact a3 p' h⟩
  · exact Or.inr (Or.inl ⟨a, a0, a1, a2, by rw [(hp a (by omega)).2]; exact a3, fun p' h h2 => by rw [(hp p' h).2]; exact a4 p' h h2⟩)
  · exact Or.inr (Or.inr ⟨a, b, a0, b0, ab, a1, a2, by rw [(hp a (by omega)).2]; exact a3, by rw [(hp a (by omega)).2, (hp b (by omega)).2]; exact a4, fun p' h h2 h3 => by rw [(hp p' h).2]; exact a5 p' h h2 h3⟩)
/-- what the packets' part reads of the reference's row, but for the sums -/
def eqN (v v' : xV) : Prop := v' 4 = v 4 ∧ (∀ i, 448 ≤ i → i < 6464 → v' i = v i) ∧ ∀ q, q < 18 → v' (iq q 12) = v (iq q 12)
theorem eqN_k {v v' : xV} (h : eqN v v') {k f : Nat} (hk : k < 128) (hf : f < 28) : v' (ik k f) = v (ik k f) := h.2.1 _ (by show 448 ≤ 2752 + 28 * k + f; omega) (by show 2752 + 28 * k + f < 6464; omega)
theorem eqN_e {v v' : xV} (h : eqN v v') {q i : Nat} (hq : q < 18) (hi : i < 128) : v' (ie q i) = v (ie q i) := h.2.1 _ (by show 448 ≤ 448 + 128 * q + i; omega) (by show 448 + 128 * q + i < 6464; omega)
theorem eqN_L {v v' : xV} (h : eqN v v') {q : Nat} (hq : q < 18) : Ln v' q = Ln v q := by simp only [Ln, h.2.2 q hq]
theorem eqN_Sl {v v' : xV} (h : eqN v v') {q i : Nat} (hq : q < 18) (hi : i < 128) : Sl v' q i = Sl v q i := by simp only [Sl, eqN_e h hq hi]
theorem eqN_Sz {v v' : xV} (h : eqN v v') {k : Nat} (hk : k < 128) : Sz v' k = Sz v k := by simp only [Sz, eqN_k h hk (f := 1) (by omega)]
theorem eqN_Pn {v v' : xV} (h : eqN v v') {k : Nat} (hk : k < 128) : Pn v' k = Pn v k := by simp only [Pn, eqN_k h hk (f := 2) (by omega)]
theorem eqN_Fs {v v' : xV} (h : eqN v v') {k f : Nat} (hk : k < 128) (hf : f < 12) : Fs v' k f = Fs v k f := by simp only [Fs, eqN_k h hk (f := 4 + f) (by omega)]
theorem eqN_Fl {v v' : xV} (h : eqN v v') {k f : Nat} (hk : k < 128) (hf : f < 12) : Fl v' k f = Fl v k f := by simp only [Fl, eqN_k h hk (f := 16 + f) (by omega)]
theorem eqN_Us {v v' : xV} (h : eqN v v') {k : Nat} (hk : k < 128) : Us v' k = Us v k := by simp only [Us, eqN_k h hk (f := 3) (by omega)]
theorem nsum_c {f g : Nat → Nat} : ∀ {n : Nat}, (∀ i, i < n → f i = g i) → nsum f n = nsum g n
  | 0, _ => rfl
  | n + 1, h => by rw [nsum, nsum, nsum_c (fun i hi => h i (by omega)), h n (by omega)]
/-- the packets' part, the sums left out -/
def MX (v : xV) (C : Nat) : Prop := mwL v ∧ mwE v ∧ mwI v ∧ mwU v ∧ mwK v C ∧ mwJ v ∧ mwM v C ∧ mwF v ∧ mwD v
theorem MX_of {v : xV} {C : Nat} (h : MW v C) : MX v C := ⟨h.1, h.2.1, h.2.2.1, h.2.2.2.1, h.2.2.2.2.1, h.2.2.2.2.2.1, h.2.2.2.2.2.2.1, h.2.2.2.2.2.2.2.1, h.2.2.2.2.2.2.2.2.1⟩
theorem MW_of {v : xV} {C : Nat} (h : MX v C) (ha : mwA v) : MW v C := ⟨h.1, h.2.1, h.2.2.1, h.2.2.2.1, h.2.2.2.2.1, h.2.2.2.2.2.1, h.2.2.2.2.2.2.1, h.2.2.2.2.2.2.2.1, h.2.2.2.2.2.2.2.2, ha⟩
theorem MX_c {v v' : xV} {C : Nat} (h : eqN v v') (hC : C ≤ 128) (hM : MX v C) : MX v' C := by
  obtain ⟨m1, m2, m3, m4, m5, m6, m7, m8, m9⟩ := hM
  have hl : ∀ q, q < 18 → Ln v' q = Ln v q := fun q hq => eqN_L h hq
  have h128 : ∀ q, q < 18 → Ln v q ≤ 128 := fun q hq => (m1 q hq).2
  have hP : ∀ k, k < 128 → Us v k → Pn v k ≤ 12 := fun k hk hu => (m5 k hk hu).2.2.2.2.2.1
  refine ⟨?_, ?_, ?_, ?_, ?_, ?_, ?_, ?_, ?_⟩
  · intro q hq
    rw [hl q hq, h.2.2 q hq]
    exact m1 q hq
  · intro q i hq hi
    rw [hl q hq] at hi
    have := h128 q hq
    obtain ⟨a1, a2, a3⟩ := m2 q i hq hi
    rw [eqN_e h hq (by omega), eqN_Sl h hq (by omega), eqN_Us h a2]
    exact ⟨a1, a2, a3⟩
  · intro q i q' i' hq hi hq' hi' e
    rw [hl q hq] at hi
    rw [hl q' hq'] at hi'
    have := h128 q hq
    have := h128 q' hq'
    rw [eqN_Sl h hq (by omega), eqN_Sl h hq' (by omega)] at e
    exact m3 q i q' i' hq hi hq' hi' e
  · intro k hk
    rw [eqN_k h hk (by omega), eqN_Us h hk]
    rcases m4 k hk with h1 | ⟨h1, q, i, h2, h3, h4⟩
    · exact Or.inl h1
    · have := h128 q h2
      exact Or.inr ⟨h1, q, i, h2, by rw [hl q h2]; exact h3, by rw [eqN_Sl h h2 (by omega)]; exact h4⟩
  · intro k hk hu
    rw [eqN_Us h hk] at hu
    obtain ⟨a1, a2, a3, a4, a5, a6, a7, a8, a9, a10⟩ := m5 k hk hu
    rw [eqN_k h hk (by omega), eqN_k h hk (by omega), eqN_k h hk (by omega), eqN_Sz h hk, eqN_Pn h hk, h.1]
    refine ⟨a1, a2, a3, a4, a5, a6, fun f hf => ?_, ?_, a9, a10⟩
    · rw [eqN_k h hk (by omega), eqN_k h hk (by omega), eqN_Fs h hk (by omega), eqN_Fl h hk (by omega)]
      exact a7 f hf
    · rw [← a8]
      exact nsum_c (fun i hi => eqN_Fl h hk (by omega))
  · intro k k' hk hu hk' hu' e
    rw [eqN_Us h hk] at hu
    rw [eqN_Us h hk'] at hu'
    rw [eqN_k h hk (by omega), eqN_k h hk' (by omega)] at e
    exact m6 k k' hk hu hk' hu' e
  · intro c hc
    rw [h.2.1 (6336 + c) (by omega) (by omega)]
    rcases m7 c hc with h1 | ⟨k, hk, hu, e, f, hf, e1, e2⟩
    · exact Or.inl h1
    · have := hP k hk hu
      exact Or.inr ⟨k, hk, by rw [eqN_Us h hk]; exact hu, e, f, by rw [eqN_Pn h hk]; exact hf, by rw [eqN_Fs h hk (by omega)]; exact e1, by rw [eqN_Fs h hk (by omega), eqN_Fl h hk (by omega)]; exact e2⟩
  · intro k f c hk hu hf h1 h2
    rw [eqN_Us h hk] at hu
    rw [eqN_Pn h hk] at hf
    have := hP k hk hu
    rw [eqN_Fs h hk (by omega)] at h1 h2
    rw [eqN_Fl h hk (by omega)] at h2
    have hc := ((m5 k hk hu).2.2.2.2.2.2.1 f hf).2.2.2
    rw [h.2.1 (6336 + c) (by omega) (by omega)]
    exact m8 k f c hk hu hf h1 h2
  · intro k f f' c hk hu hf hf' h1 h2 h3 h4
    rw [eqN_Us h hk] at hu
    rw [eqN_Pn h hk] at hf hf'
    have := hP k hk hu
    rw [eqN_Fs h hk (by omega)] at h1 h2 h3 h4
    rw [eqN_Fl h hk (by omega)] at h2 h4
    exact m9 k f f' c hk hu hf hf' h1 h2 h3 h4
theorem mwA_c {v v' : xV} {C : Nat} (h : eqN v v') (hs : ∀ q, q < 18 → v' (iq q 6) + v' (iq q 7) + v' (iq q 8) = v (iq q 6) + v (iq q 7) + v (iq q 8)) (hM : MX v C) (ha : mwA v) : mwA v' := by
  intro q hq
  have h128 := (hM.1 q hq).2
  have e : nsum (fun i => Sz v' (Sl v' q i)) (Ln v q) = nsum (fun i => Sz v (Sl v q i)) (Ln v q) := nsum_c (fun i hi => by rw [eqN_Sl h hq (by omega), eqN_Sz h (hM.2.1 q i hq hi).2.1])
  rw [eqN_L h hq, e, hs q hq]
  exact ha q hq
/-- what the packets' part reads of the class, within its arrays -/
def eqXb (τ τ' : xD) : Prop := (∀ K c, 2 ≤ K → K ≤ 9 → c < 128 → τ' K 0 0 c = τ K 0 0 c) ∧ ∀ p r, p < 6 → r < 3 → τ' 16 p r 13 = τ 16 p r 13 ∧ τ' 16 p r 14 = τ 16 p r 14
theorem eqX_b {τ τ' : xD} (h : eqX τ τ') : eqXb τ τ' := ⟨fun K c h1 h2 _ => h.1 K c h1 h2, fun p r _ _ => h.2 p r⟩
theorem RX_c {τ τ' : xD} {v v' : xV} {C : Nat} (h : eqN v v') (hC : C ≤ 128) (hx : eqXb τ τ') (hM : MX v C) (hX : RX τ v C) : RX τ' v' C := by
  obtain ⟨m1, m2, m3, m4, m5, m6, m7, m8, m9⟩ := hM
  obtain ⟨x1, x2, x3, x4⟩ := hX
  obtain ⟨a1, a2⟩ := hx
  have hl : ∀ q, q < 18 → Ln v' q = Ln v q := fun q hq => eqN_L h hq
  have h128 : ∀ q, q < 18 → Ln v q ≤ 128 := fun q hq => (m1 q hq).2
  have hP : ∀ k, k < 128 → Us v k → Pn v k ≤ 12 ∧ 1 ≤ Pn v k := fun k hk hu => ⟨(m5 k hk hu).2.2.2.2.2.1, (m5 k hk hu).2.2.2.2.1⟩
  have hF : ∀ k f, k < 128 → Us v k → f < Pn v k → Fs v k f < 128 := fun k f hk hu hf => by
    have := ((m5 k hk hu).2.2.2.2.2.2.1 f hf).2.2
    omega
  have gc : ∀ q i, q < 18 → cellAt v' q i = cellAt v q i := fun q i hq => by
    have := h128 q hq
    rw [cellAt, cellAt, hl q hq]
    by_cases e : i < Ln v q
    · rw [if_pos e, if_pos e, eqN_Sl h hq (by omega), eqN_Fs h (m2 q i hq e).2.1 (by omega)]
    · rw [if_neg e, if_neg e]
  refine ⟨?_, ?_, ?_, ?_⟩
  · intro p r hp hr
    have hq : 3 * p + r < 18 := by omega
    have := h128 _ hq
    obtain ⟨b1, b2, b3⟩ := x1 p r hp hr
    rw [(a2 p r hp hr).1, (a2 p r hp hr).2, gc _ _ hq, gc _ _ hq, hl _ hq]
    refine ⟨b1, b2, fun i hi => ?_⟩
    have hs := m2 _ i hq hi
    have hf := hF _ 0 hs.2.1 hs.2.2 (by have := hP _ hs.2.1 hs.2.2; omega)
    rw [eqN_Sl h hq (by omega), eqN_Fs h hs.2.1 (by omega), a1 9 _ (by omega) (by omega) hf, a1 8 _ (by omega) (by omega) hf, gc _ _ hq, gc _ _ hq]
    exact b3 i hi
  · intro k hk hu
    rw [eqN_Us h hk] at hu
    obtain ⟨b1, b2, b3, b4⟩ := x2 k hk hu
    have := hP k hk hu
    have hf := hF _ 0 hk hu (by omega)
    rw [eqN_Fs h hk (by omega), a1 5 _ (by omega) (by omega) hf, a1 6 _ (by omega) (by omega) hf, a1 7 _ (by omega) (by omega) hf, eqN_k h hk (by omega), eqN_k h hk (by omega), eqN_k h hk (by omega), eqN_Pn h hk]
    refine ⟨b1, b2, b3, fun f hf => ?_⟩
    have hf2 := hF _ f hk hu hf
    rw [eqN_Fs h hk (by omega), a1 3 _ (by omega) (by omega) hf2, a1 4 _ (by omega) (by omega) hf2, eqN_k h hk (by omega)]
    obtain ⟨c1, c2⟩ := b4 f hf
    refine ⟨c1, ?_⟩
    rw [c2]
    by_cases e : f + 1 < Pn v k
    · rw [if_pos e, if_pos e, eqN_Fs h hk (by omega)]
    · rw [if_neg e, if_neg e]
  · intro c hc
    rw [a1 5 _ (by omega) (by omega) hc]
    rcases x3 c hc with e | ⟨k, hk, hu, e⟩
    · exact Or.inl e
    · exact Or.inr ⟨k, hk, by rw [eqN_Us h hk]; exact hu, by rw [eqN_Fs h hk (by omega)]; exact e⟩
  · refine ⟨fun c hc => ?_, fun c hc => ?_⟩
    · rw [a1 2 _ (by omega) (by omega) (by omega), h.2.1 (6336 + c) (by omega) (by omega)]
      exact x4.1 c hc
    · rw [a1 2 _ (by omega) (by omega) hc]
      exact x4.2 c hc
/-- the invariant of a device and a row, the sums left out -/
def R0 (τ : xD) (v : xV) (n C P : Nat) : Prop := wfG v C P ∧ cfQ τ v ∧ cfP τ v ∧ cfL τ v ∧ cfD τ v ∧ cfR τ v ∧ wfP v ∧ wfQ v ∧ wfT v ∧ wfN v P ∧ MW v C ∧ RX τ v C ∧ gr τ v P ∧ 0 ≤ v 4 ∧ v 4 ≤ nI n ∧ 0 ≤ v 10 ∧ v 10 ≤ nI n
theorem RR_iff {τ : xD} {v : xV} {n : Nat} : RR τ v n ↔ ∃ C P, R0 τ v (1000 * n) C P ∧ wfS v P := by
  constructor
  · rintro ⟨C, P, hG, hQ, hPp, hLs, hDd, hRf, wP, wQ, wT, wS, wN, hM, hX, hgr, hb⟩
    exact ⟨C, P, ⟨hG, hQ, hPp, hLs, hDd, hRf, wP, wQ, wT, wN, hM, hX, hgr, hb⟩, wS⟩
  · rintro ⟨C, P, ⟨hG, hQ, hPp, hLs, hDd, hRf, wP, wQ, wT, wN, hM, hX, hgr, hb⟩, wS⟩
    exact ⟨C, P, hG, hQ, hPp, hLs, hDd, hRf, wP, wQ, wT, wS, wN, hM, hX, hgr, hb⟩
/-- a call's two halves put together -/
theorem close2 {n : Nat} {σ : xS} {τ' : xD} {v' : xV} {r : Int32} {fc fm : xS → Option (Int32 × xS)} (hI : Inv n σ) (hn : n < 512) (hc : fc (va_up σ 0 (σ 0)) = some (r, va_up σ 0 τ')) (hm : fm (x_row (va_up σ 0 τ') 5 31 0 0 (vv σ)) = some (r, x_row (va_up σ 0 τ') 5 31 0 0 v')) (hR : RR τ' v' (n + 1)) (hp : ∀ p r, p < 6 → r < 3 → τ' 16 p r 0 = nI r) : ∃ (r : Int32) (σ1 σ2 : xS), fc σ = some (r, σ1) ∧ fm σ1 = some (r, σ2) ∧ Inv (n + 1) σ2 := by
  refine ⟨r, va_up σ 0 τ', st2 σ τ' v', ?_, ?_, Inv_st2 hI hn hR hp⟩
  · rw [up_id] at hc
    exact hc
  · have e : x_row (va_up σ 0 τ') 5 31 0 0 (vv σ) = va_up σ 0 τ' := row_id (va_up σ 0 τ')
    rw [e] at hm
    exact hm
/-- what a call of the reference may change beside its row -/
def fr (σ σ' : xS) : Prop := (∀ d, d ≠ 5 → σ' d = σ d) ∧ (∀ K, K = 33 ∨ K = 34 ∨ K = 35 → σ' 5 K = σ 5 K) ∧ ∀ k, k ≠ 7 → σ' 5 30 0 0 k = σ 5 30 0 0 k
theorem fr_refl (σ : xS) : fr σ σ := ⟨fun _ _ => rfl, fun _ _ => rfl, fun _ _ => rfl⟩
theorem fr_trans {σ σ' σ'' : xS} (h : fr σ σ') (h' : fr σ' σ'') : fr σ σ'' := ⟨fun d hd => (h'.1 d hd).trans (h.1 d hd), fun K hK => (h'.2.1 K hK).trans (h.2.1 K hK), fun k hk => (h'.2.2 k hk).trans (h.2.2 k hk)⟩
theorem fr_row (σ : xS) (K : Nat) (f : Nat → Int32) (hK : K = 32 ∨ K = 36 ∨ K = 37) : fr σ (x_row σ 5 K 0 0 f) := by
  refine ⟨fun d hd => ?_, fun K' hK' => ?_, fun k hk => ?_⟩
  · unfold x_row; rw [up_n _ _ hd]
  · unfold x_row; rw [up_s, up_n _ _ (by omega)]
  · unfold x_row; rw [up_s, up_n _ _ (by omega)]
theorem fr_7 (σ : xS) (x : Int32) : fr σ (x_set σ 5 30 0 0 7 x) := by
  refine ⟨fun d hd => rd_dev _ _ _ _ _ _ hd, fun K' hK' => ?_, fun k hk => ?_⟩
  · unfold x_set x_row; rw [up_s, up_n _ _ (by omega)]
  · rw [rd_set, if_neg (fun q => by omega)]
theorem Inv_g {n : Nat} {σ σ2 : xS} {τ' : xD} {v' : xV} (hI : Inv n σ) (hn : n < 512) (h0 : σ2 0 = τ') (h5 : vv σ2 = v') (h2 : σ2 2 = σ 2) (h3 : σ2 3 = σ 3) (h1 : ∀ p r, p < 6 → r < 3 → σ2 1 16 p r 0 = nI r) (h4 : σ2 4 22 = σ 4 22) (h33 : σ2 5 33 = σ 5 33) (h34 : σ2 5 34 = σ 5 34) (ht : tx σ2) (hR : RR τ' v' (n + 1)) (hp : ∀ p r, p < 6 → r < 3 → τ' 16 p r 0 = nI r) : Inv (n + 1) σ2 := by
  intro _
  obtain ⟨g1, g2, g3, g4⟩ := hI (by omega)
  refine ⟨by rw [h0, h5]; exact hR, fun j hj => ?_, ht, fun d p r hd hp' hr => ?_⟩
  · have e : σ2 (2 + j) = σ (2 + j) := by
      rcases (show j = 0 ∨ j = 1 by omega) with rfl | rfl
      · exact h2
      · exact h3
    rw [h4, h34, h33, e]
    exact ⟨(g2 j hj).1, (g2 j hj).2.1, fun e => RR_mono (by omega) ((g2 j hj).2.2 e)⟩
  · rcases (show d = 0 ∨ d = 1 ∨ d = 2 ∨ d = 3 by omega) with rfl | rfl | rfl | rfl
    · rw [h0]; exact hp p r hp' hr
    · exact h1 p r hp' hr
    · rw [h2]; exact g4 2 p r hd hp' hr
    · rw [h3]; exact g4 3 p r hd hp' hr
theorem Inv_fr {n : Nat} {σ σ' : xS} {τ' : xD} {v' : xV} (hI : Inv n σ) (hn : n < 512) (hf : fr (va_up σ 0 τ') σ') (hR : RR τ' v' (n + 1)) (hp : ∀ p r, p < 6 → r < 3 → τ' 16 p r 0 = nI r) : Inv (n + 1) (x_row σ' 5 31 0 0 v') := by
  obtain ⟨f1, f2, f3⟩ := hf
  obtain ⟨g1, g2, g3, g4⟩ := hI (by omega)
  have ed : ∀ d, d ≠ 0 → d ≠ 5 → x_row σ' 5 31 0 0 v' d = σ d := fun d h0 h5 => by rw [row_d _ _ h5, f1 d h5, up_n _ _ h0]
  have eK : ∀ K, K = 33 ∨ K = 34 ∨ K = 35 → x_row σ' 5 31 0 0 v' 5 K = σ 5 K := fun K hK => by rw [row_K _ _ (by omega), f2 K hK, up_n _ _ (by decide)]
  have e30 : x_row σ' 5 31 0 0 v' 5 30 0 0 5 = σ 5 30 0 0 5 := by rw [row_K _ _ (by decide), f3 5 (by decide), up_n _ _ (by decide)]
  refine Inv_g hI hn (by rw [row_d _ _ (by decide), f1 0 (by decide), up_s]) (row_rd _ _) (ed 2 (by decide) (by decide)) (ed 3 (by decide) (by decide)) (fun p r h1 h2 => by rw [ed 1 (by decide) (by decide)]; exact g4 1 p r (by decide) h1 h2) (by rw [ed 4 (by decide) (by decide)]) (eK 33 (by omega)) (eK 34 (by omega)) ?_ hR hp
  unfold tx
  rw [ed 4 (by decide) (by decide), e30, eK 35 (by omega)]
  exact g3
theorem close3 {n : Nat} {σ : xS} {τ' : xD} {v' : xV} {r : Int32} {fc fm : xS → Option (Int32 × xS)} (hI : Inv n σ) (hn : n < 512) (hc : fc (va_up σ 0 (σ 0)) = some (r, va_up σ 0 τ')) (hm : ∃ σ', fm (x_row (va_up σ 0 τ') 5 31 0 0 (vv σ)) = some (r, x_row σ' 5 31 0 0 v') ∧ fr (va_up σ 0 τ') σ') (hR : RR τ' v' (n + 1)) (hp : ∀ p r, p < 6 → r < 3 → τ' 16 p r 0 = nI r) : ∃ (r : Int32) (σ1 σ2 : xS), fc σ = some (r, σ1) ∧ fm σ1 = some (r, σ2) ∧ Inv (n + 1) σ2 := by
  obtain ⟨σ', hm, hf⟩ := hm
  refine ⟨r, va_up σ 0 τ', x_row σ' 5 31 0 0 v', ?_, ?_, Inv_fr hI hn hf hR hp⟩
  · rw [up_id] at hc
    exact hc
  · have e : x_row (va_up σ 0 τ') 5 31 0 0 (vv σ) = va_up σ 0 τ' := row_id (va_up σ 0 τ')
    rw [e] at hm
    exact hm
-- rows of other kinds
theorem rowK_set (σ : xS) (K : Nat) (f : Nat → Int32) (j : Nat) (x : Int32) : x_set (x_row σ 5 K 0 0 f) 5 K 0 0 j x = x_row σ 5 K 0 0 (va_up f j x) := by
  unfold x_set
  rw [x_row_same]
  unfold x_row
  simp only [up_s, up_up]
theorem up_comm {α : Type} (f : Nat → α) {j k : Nat} (a b : α) (h : j ≠ k) : va_up (va_up f j a) k b = va_up (va_up f k b) j a := by
  funext i
  unfold va_up
  by_cases h1 : i = j
  · subst h1; simp [h]
  · by_cases h2 : i = k
    · subst h2; simp [h1]
    · simp [h1, h2]
theorem row_row (σ : xS) (K : Nat) (f v : Nat → Int32) (h : K ≠ 31) : x_row (x_row σ 5 31 0 0 v) 5 K 0 0 f = x_row (x_row σ 5 K 0 0 f) 5 31 0 0 v := by
  unfold x_row
  simp only [up_s, up_up, up_n _ _ h, up_n _ _ h.symm]
  rw [up_comm (σ 5) _ _ h.symm]
theorem rowK_31 (σ : xS) (K : Nat) (v : Nat → Int32) (h : K ≠ 31) : x_row σ 5 31 0 0 v 5 K = σ 5 K := row_K σ v h
