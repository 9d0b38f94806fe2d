/-! ===== cells beyond the guarantee become shared ===== -/
/-- the invariant, sums and grants left out -/
def R1 (τ : xD) (v : xV) (n C P : Nat) : Prop := wfG v C P ∧ cfQ τ v ∧ cfP τ v ∧ cfL τ v ∧ cfD τ v ∧ cfR τ v ∧ wfP v ∧ wfQ v ∧ wfT v ∧ wfN v P ∧ MW v C ∧ RX τ v C ∧ 0 ≤ v 4 ∧ v 4 ≤ nI n ∧ 0 ≤ v 10 ∧ v 10 ≤ nI n
theorem R0_of {τ : xD} {v : xV} {n C P : Nat} (h : R1 τ v n C P) (hg : gr τ v P) : R0 τ v n C P := by
  obtain ⟨hG, hQ, hPp, hLs, hDd, hRf, wP, wQ, wT, wN, hM, hX, hb⟩ := h
  exact ⟨hG, hQ, hPp, hLs, hDd, hRf, wP, wQ, wT, wN, hM, hX, hg, hb⟩
theorem R1_of {τ : xD} {v : xV} {n C P : Nat} (h : R0 τ v n C P) : R1 τ v n C P ∧ gr τ v P := by
  obtain ⟨hG, hQ, hPp, hLs, hDd, hRf, wP, wQ, wT, wN, hM, hX, hg, hb⟩ := h
  exact ⟨⟨hG, hQ, hPp, hLs, hDd, hRf, wP, wQ, wT, wN, hM, hX, hb⟩, hg⟩
theorem RR_of {τ : xD} {v : xV} {n C P : Nat} (h : R1 τ v (1000 * n) C P) (hg : gr τ v P) (hS : wfS v P) : RR τ v n := RR_iff.mpr ⟨C, P, R0_of h hg, hS⟩
theorem RR_un {τ : xD} {v : xV} {n : Nat} (h : RR τ v n) : ∃ C P, R1 τ v (1000 * n) C P ∧ gr τ v P ∧ wfS v P := by
  obtain ⟨C, P, h0, hS⟩ := RR_iff.mp h
  exact ⟨C, P, (R1_of h0).1, (R1_of h0).2, hS⟩
theorem sm32_up {f g : Nat → Int32} {p : Nat} : ∀ n, (∀ k, k < n → k ≠ p → g k = f k) → sm32 g n = if p < n then sm32 f n - f p + g p else sm32 f n
  | 0, _ => by rw [if_neg (by omega)]; rfl
  | n + 1, h => by
    rw [sm32, sm32, sm32_up n (fun k hk e => h k (by omega) e)]
    by_cases e : p < n
    · rw [if_pos e, if_pos (by omega), h n (by omega) (by omega)]
      grind
    · rw [if_neg e]
      by_cases e2 : p = n
      · subst e2
        rw [if_pos (by omega)]
        grind
      · rw [if_neg (by omega), h n (by omega) (by omega)]
theorem sm32_bd {f : Nat → Int32} : ∀ n, n ≤ 6 → (∀ k, k < n → 0 ≤ f k ∧ f k ≤ 600) → 0 ≤ sm32 f n ∧ sm32 f n ≤ nI (600 * n)
  | 0, _, _ => ⟨by rw [sm32]; decide, by rw [sm32]; decide⟩
  | n + 1, h, hf => by
    have ih := sm32_bd n (by omega) (fun k hk => hf k (by omega))
    have h1 := hf n (by omega)
    have e : nI (600 * (n + 1)) = nI (600 * n) + 600 := (nI_add (600 * n) 600).symm
    have h2 : nI (600 * n) ≤ 3600 := nI_le (b := 3600) (by omega) (by omega)
    rw [sm32, e]
    grind
theorem mFree_le {v : xV} {C P : Nat} (hG : wfG v C P) (wP : wfP v) (wQ : wfQ v) : mFree v P ≤ 128 := by
  obtain ⟨h0, -, h8, -, -, h6, -⟩ := hG
  have a := sm32_bd (f := fun p => v (ip p 0) + v (ip p 2) + v (ip p 1)) P h6 (fun p hp => by
    obtain ⟨w0, w1, w2, -⟩ := wP p (by omega)
    unfold rg at *
    show 0 ≤ v (ip p 0) + v (ip p 2) + v (ip p 1) ∧ v (ip p 0) + v (ip p 2) + v (ip p 1) ≤ 600
    grind)
  have b := sm32_bd (f := fun p => s3 v p 7) P h6 (fun p hp => by
    have x0 := (wQ (3 * p) (by omega)).2.2.2.2.2.2.2.1
    have x1 := (wQ (3 * p + 1) (by omega)).2.2.2.2.2.2.2.1
    have x2 := (wQ (3 * p + 2) (by omega)).2.2.2.2.2.2.2.1
    unfold rg at *
    show 0 ≤ v (iq (3 * p) 7) + v (iq (3 * p + 1) 7) + v (iq (3 * p + 2) 7) ∧ v (iq (3 * p) 7) + v (iq (3 * p + 1) 7) + v (iq (3 * p + 2) 7) ≤ 600
    grind)
  have c : nI (600 * P) ≤ 3600 := nI_le (b := 3600) (by omega) (by omega)
  have e : nI C ≤ 128 := nI_le (b := 128) (by omega) (by omega)
  have e2 : 0 ≤ nI C := nI_pos' (by omega)
  rw [mFree, mPool, h0]
  grind
theorem mFree_up {v v' : xV} {p P : Nat} (hp : p < P) (h0 : v' 0 = v 0) (h1 : ∀ p' f, p' < P → p' ≠ p → f < 3 → v' (ip p' f) = v (ip p' f)) (h2 : ∀ p' r, p' < P → p' ≠ p → r < 3 → v' (iq (3 * p' + r) 7) = v (iq (3 * p' + r) 7)) : mFree v' P = mFree v P + (v (ip p 0) + v (ip p 2) + v (ip p 1) + s3 v p 7) - (v' (ip p 0) + v' (ip p 2) + v' (ip p 1) + s3 v' p 7) := by
  have a := sm32_up (f := fun p => v (ip p 0) + v (ip p 2) + v (ip p 1)) (g := fun p => v' (ip p 0) + v' (ip p 2) + v' (ip p 1)) (p := p) P (fun k hk e => by
    show v' (ip k 0) + v' (ip k 2) + v' (ip k 1) = v (ip k 0) + v (ip k 2) + v (ip k 1)
    rw [h1 k 0 hk e (by omega), h1 k 1 hk e (by omega), h1 k 2 hk e (by omega)])
  have b := sm32_up (f := fun p => s3 v p 7) (g := fun p => s3 v' p 7) (p := p) P (fun k hk e => by
    have y0 := h2 k 0 hk e (by omega)
    have y1 := h2 k 1 hk e (by omega)
    have y2 := h2 k 2 hk e (by omega)
    show v' (iq (3 * k) 7) + v' (iq (3 * k + 1) 7) + v' (iq (3 * k + 2) 7) = v (iq (3 * k) 7) + v (iq (3 * k + 1) 7) + v (iq (3 * k + 2) 7)
    rw [y1, y2]
    rw [show v' (iq (3 * k) 7) = v (iq (3 * k) 7) from y0])
  rw [if_pos hp] at a b
  rw [mFree, mFree, mPool, mPool, h0, a, b]
  grind
def cut (o g : Int32) : Int32 := if o ≤ 0 then 0 else i_min o g
def mv (v : xV) (p r : Nat) (k : Int32) : xV := va_up (va_up v (iq (3 * p + r) 6) (v (iq (3 * p + r) 6) - k)) (iq (3 * p + r) 7) (v (iq (3 * p + r) 7) + k)
def cmv (τ : xD) (p r : Nat) (k : Int32) : xD := dset (dset τ 16 p r 10 (τ 16 p r 10 - k)) 16 p r 11 (τ 16 p r 11 + k)
theorem mv_6 (v : xV) (p r : Nat) (k : Int32) : mv v p r k (iq (3 * p + r) 6) = v (iq (3 * p + r) 6) - k := by
  rw [mv, up_n _ _ (by show 160 + 16 * (3 * p + r) + 6 ≠ 160 + 16 * (3 * p + r) + 7; omega), up_s]
theorem mv_7 (v : xV) (p r : Nat) (k : Int32) : mv v p r k (iq (3 * p + r) 7) = v (iq (3 * p + r) 7) + k := by rw [mv, up_s]
theorem mv_n (v : xV) (p r : Nat) (k : Int32) {j : Nat} (h1 : j ≠ iq (3 * p + r) 6) (h2 : j ≠ iq (3 * p + r) 7) : mv v p r k j = v j := by rw [mv, up_n _ _ h2, up_n _ _ h1]
theorem mv_0 (v : xV) (p r : Nat) : mv v p r 0 = v := by
  funext j
  by_cases h1 : j = iq (3 * p + r) 6
  · subst h1; rw [mv_6]; grind
  · by_cases h2 : j = iq (3 * p + r) 7
    · subst h2; rw [mv_7]; grind
    · exact mv_n v p r 0 h1 h2
theorem cmv_n (τ : xD) (p r : Nat) (k : Int32) {K p' r' k' : Nat} (h : K ≠ 16 ∨ (k' ≠ 10 ∧ k' ≠ 11)) : cmv τ p r k K p' r' k' = τ K p' r' k' := by
  rw [cmv, dset_rd, if_neg (fun q => by omega), dset_rd, if_neg (fun q => by omega)]
theorem cmv_0 (τ : xD) (p r : Nat) : cmv τ p r 0 = τ := by
  funext K p' r' k'
  rw [cmv, dset_rd, dset_rd]
  by_cases h1 : K = 16 ∧ p' = p ∧ r' = r ∧ k' = 11
  · obtain ⟨rfl, rfl, rfl, rfl⟩ := h1
    rw [if_pos ⟨rfl, rfl, rfl, rfl⟩]; grind
  · rw [if_neg h1]
    by_cases h2 : K = 16 ∧ p' = p ∧ r' = r ∧ k' = 10
    · obtain ⟨rfl, rfl, rfl, rfl⟩ := h2
      rw [if_pos ⟨rfl, rfl, rfl, rfl⟩]; grind
    · rw [if_neg h2]
theorem mwA_le {v : xV} {q : Nat} (hq : q < 18) (wQ : wfQ v) (ha : mwA v) : v (iq q 6) + v (iq q 7) + v (iq q 8) ≤ 128 := by
  obtain ⟨a1, a2⟩ := ha q hq
  rw [a1]
  exact nI_le (b := 128) a2 (by omega)
theorem R1_mv {τ : xD} {v : xV} {n C P p r : Nat} {k : Int32} (h : R1 τ v n C P) (hp : p < P) (hr : r < 3) (h0 : 0 ≤ k) (hk : k ≤ v (iq (3 * p + r) 6)) : R1 (cmv τ p r k) (mv v p r k) n C P := by
  obtain ⟨hG, hQ, hPp, hLs, hDd, hRf, wP, wQ, wT, wN, hM, hX, hb⟩ := h
  have h6 := hG.2.2.2.2.2.1
  have h8 := hG.2.2.1
  have nl : ∀ i, i < 160 → mv v p r k i = v i := fun i hi => mv_n v p r k (by show i ≠ 160 + 16 * (3 * p + r) + 6; omega) (by show i ≠ 160 + 16 * (3 * p + r) + 7; omega)
  have nh : ∀ i, 448 ≤ i → mv v p r k i = v i := fun i hi => mv_n v p r k (by show i ≠ 160 + 16 * (3 * p + r) + 6; omega) (by show i ≠ 160 + 16 * (3 * p + r) + 7; omega)
  have nP : ∀ p' f, p' < 6 → f < 24 → mv v p r k (ip p' f) = v (ip p' f) := fun p' f h1 h2 => nl _ (by show 16 + 24 * p' + f < 160; omega)
  have nq : ∀ q f, f < 16 → (q ≠ 3 * p + r ∨ (f ≠ 6 ∧ f ≠ 7)) → mv v p r k (iq q f) = v (iq q f) := fun q f h1 h2 => mv_n v p r k (by show 160 + 16 * q + f ≠ 160 + 16 * (3 * p + r) + 6; omega) (by show 160 + 16 * q + f ≠ 160 + 16 * (3 * p + r) + 7; omega)
  have hN : eqN v (mv v p r k) := ⟨nl 4 (by omega), fun i h1 _ => nh i h1, fun q _ => nq q 12 (by omega) (Or.inr (by omega))⟩
  have hx : eqX τ (cmv τ p r k) := ⟨fun K c h1 h2 => by by_cases e : K = 16 <;> exact cmv_n τ p r k (Or.inl (by omega)), fun p' r' => ⟨cmv_n τ p r k (Or.inr (by omega)), cmv_n τ p r k (Or.inr (by omega))⟩⟩
  refine ⟨wfG_c (nl 0 (by omega)) (nl 1 (by omega)) (nl 2 (by omega)) (nl 5 (by omega)) hG, ?_, cfP_c (fun p' k' => cmv_n τ p r k (Or.inl (by omega))) (fun p' f h1 h2 _ => nP p' f h1 (by omega)) hPp, cfL_c (fun p' k' => cmv_n τ p r k (Or.inl (by omega))) (fun p' c h1 h2 => nP p' _ h1 (by omega)) hLs, cfD_c (cmv_n τ p r k (Or.inl (by omega))) (fun k' _ _ _ _ => cmv_n τ p r k (Or.inl (by omega))) (fun i hi => nl i (by omega)) hDd, cfR_c (fun k' => cmv_n τ p r k (Or.inl (by omega))) (fun i _ hi => nl i (by omega)) hRf, wfP_c (fun p' f h1 h2 => nP p' f h1 (by omega)) wP, ?_, wfT_c (fun q _ => ⟨nq q 12 (by omega) (Or.inr (by omega)), nq q 5 (by omega) (Or.inr (by omega))⟩) (fun p' h1 => ⟨nP p' 6 h1 (by omega), nP p' 7 h1 (by omega)⟩) wT, wfN_c (fun p' f _ h1 h2 => nP p' f h1 (by omega)) (fun p' r' f h1 h2 h3 h4 h5 => nq _ f (by omega) (Or.inl (by omega))) wN, MW_of (MX_c hN h8 (MX_of hM)) (mwA_c hN (fun q hq => ?_) (MX_of hM) hM.2.2.2.2.2.2.2.2.2), RX_c hN h8 (eqX_b hx) (MX_of hM) hX, ?_⟩
  · have q1 := cfQ_set (p := p) (x := v (iq (3 * p + r) 6) - k) hr (show qm 10 = some 6 from rfl) hQ
    have q2 := cfQ_set (p := p) (x := v (iq (3 * p + r) 7) + k) hr (show qm 11 = some 7 from rfl) q1
    have e10 : τ 16 p r 10 = v (iq (3 * p + r) 6) := hQ p r 10 6 (by omega) hr rfl
    have e11 : τ 16 p r 11 = v (iq (3 * p + r) 7) := hQ p r 11 7 (by omega) hr rfl
    rw [cmv, e10, e11]
    exact q2
  · intro q hq
    have w := wQ q hq
    by_cases e : q = 3 * p + r
    · subst e
      have hl := mwA_le hq wQ hM.2.2.2.2.2.2.2.2.2
      rw [nq _ 0 (by omega) (Or.inr (by omega)), nq _ 1 (by omega) (Or.inr (by omega)), nq _ 2 (by omega) (Or.inr (by omega)), nq _ 3 (by omega) (Or.inr (by omega)), nq _ 4 (by omega) (Or.inr (by omega)), nq _ 5 (by omega) (Or.inr (by omega)), mv_6, mv_7, nq _ 8 (by omega) (Or.inr (by omega)), nq _ 9 (by omega) (Or.inr (by omega)), nq _ 10 (by omega) (Or.inr (by omega))]
      obtain ⟨w0, w1, w2, w3, w4, w5, w6, w7, w8, w9, w10⟩ := w
      refine ⟨w0, w1, w2, w3, w4, w5, ?_, ?_, w8, w9, w10⟩
      · unfold rg at *; grind
      · unfold rg at *; grind
    · rw [nq _ 0 (by omega) (Or.inl e), nq _ 1 (by omega) (Or.inl e), nq _ 2 (by omega) (Or.inl e), nq _ 3 (by omega) (Or.inl e), nq _ 4 (by omega) (Or.inl e), nq _ 5 (by omega) (Or.inl e), nq _ 6 (by omega) (Or.inl e), nq _ 7 (by omega) (Or.inl e), nq _ 8 (by omega) (Or.inl e), nq _ 9 (by omega) (Or.inl e), nq _ 10 (by omega) (Or.inl e)]
      exact w
  · by_cases e : q = 3 * p + r
    · subst e
      rw [mv_6, mv_7, nq _ 8 (by omega) (Or.inr (by omega))]
      grind
    · rw [nq _ 6 (by omega) (Or.inl e), nq _ 7 (by omega) (Or.inl e), nq _ 8 (by omega) (Or.inl e)]
  · rw [nl 4 (by omega), nl 10 (by omega)]
    exact hb
/-- how far a port's guaranteed cells go beyond its guarantee -/
def ov (v : xV) (p : Nat) : Int32 := s3 v p 6 - (v (ip p 0) + v (ip p 2))
theorem c_share_le {d p n : Nat} {o a : Int32} {σ : xS} (h : o ≤ 0) : BX2_shareBeyondGuarantee_8 d p (n + 1) o a σ = some ((), σ) := by
  rw [BX2_shareBeyondGuarantee_8]
  by_cases e : a < 0
  · rw [if_pos e]
  · rw [if_neg e, if_pos h]
theorem s3_mv {v : xV} {p r p' f : Nat} {k : Int32} (hf : f < 16) (h : p' ≠ p ∨ (f ≠ 6 ∧ f ≠ 7)) (hr : r < 3) : s3 (mv v p r k) p' f = s3 v p' f := by
  have nq : ∀ q f, f < 16 → (q ≠ 3 * p + r ∨ (f ≠ 6 ∧ f ≠ 7)) → mv v p r k (iq q f) = v (iq q f) := fun q f h1 h2 => mv_n v p r k (by show 160 + 16 * q + f ≠ 160 + 16 * (3 * p + r) + 6; omega) (by show 160 + 16 * q + f ≠ 160 + 16 * (3 * p + r) + 7; omega)
  simp only [s3]
  rw [nq _ f hf (by omega), nq _ f hf (by omega), nq _ f hf (by omega)]
theorem s3_mv6 {v : xV} {p r : Nat} {k : Int32} (hr : r < 3) : s3 (mv v p r k) p 6 = s3 v p 6 - k := by
  have nq : ∀ q f, f < 16 → (q ≠ 3 * p + r ∨ (f ≠ 6 ∧ f ≠ 7)) → mv v p r k (iq q f) = v (iq q f) := fun q f h1 h2 => mv_n v p r k (by show 160 + 16 * q + f ≠ 160 + 16 * (3 * p + r) + 6; omega) (by show 160 + 16 * q + f ≠ 160 + 16 * (3 * p + r) + 7; omega)
  have e6 := mv_6 v p r k
  simp only [s3]
  rcases (show r = 0 ∨ r = 1 ∨ r = 2 by omega) with rfl | rfl | rfl
  · rw [nq (3 * p + 1) 6 (by omega) (by omega), nq (3 * p + 2) 6 (by omega) (by omega)]
    rw [show mv v p 0 k (iq (3 * p) 6) = v (iq (3 * p) 6) - k from e6]
    grind
  · rw [nq (3 * p) 6 (by omega) (by omega), nq (3 * p + 2) 6 (by omega) (by omega), e6]
    grind
  · rw [nq (3 * p) 6 (by omega) (by omega), nq (3 * p + 1) 6 (by omega) (by omega), e6]
    grind
theorem s3_mv7 {v : xV} {p r : Nat} {k : Int32} (hr : r < 3) : s3 (mv v p r k) p 7 = s3 v p 7 + k := by
  have nq : ∀ q f, f < 16 → (q ≠ 3 * p + r ∨ (f ≠ 6 ∧ f ≠ 7)) → mv v p r k (iq q f) = v (iq q f) := fun q f h1 h2 => mv_n v p r k (by show 160 + 16 * q + f ≠ 160 + 16 * (3 * p + r) + 6; omega) (by show 160 + 16 * q + f ≠ 160 + 16 * (3 * p + r) + 7; omega)
  have e6 := mv_7 v p r k
  simp only [s3]
  rcases (show r = 0 ∨ r = 1 ∨ r = 2 by omega) with rfl | rfl | rfl
  · rw [nq (3 * p + 1) 7 (by omega) (by omega), nq (3 * p + 2) 7 (by omega) (by omega)]
    rw [show mv v p 0 k (iq (3 * p) 7) = v (iq (3 * p) 7) + k from e6]
    grind
  · rw [nq (3 * p) 7 (by omega) (by omega), nq (3 * p + 2) 7 (by omega) (by omega), e6]
    grind
  · rw [nq (3 * p) 7 (by omega) (by omega), nq (3 * p + 1) 7 (by omega) (by omega), e6]
    grind
theorem mFree_mv {v : xV} {p r P : Nat} {k : Int32} (hp : p < P) (h6 : P ≤ 6) (hr : r < 3) : mFree (mv v p r k) P = mFree v P - k := by
  have nl : ∀ i, i < 160 → mv v p r k i = v i := fun i hi => mv_n v p r k (by show i ≠ 160 + 16 * (3 * p + r) + 6; omega) (by show i ≠ 160 + 16 * (3 * p + r) + 7; omega)
  have nP : ∀ p' f, p' < 6 → f < 24 → mv v p r k (ip p' f) = v (ip p' f) := fun p' f h1 h2 => nl _ (by show 16 + 24 * p' + f < 160; omega)
  have nq : ∀ q f, f < 16 → (q ≠ 3 * p + r ∨ (f ≠ 6 ∧ f ≠ 7)) → mv v p r k (iq q f) = v (iq q f) := fun q f h1 h2 => mv_n v p r k (by show 160 + 16 * q + f ≠ 160 + 16 * (3 * p + r) + 6; omega) (by show 160 + 16 * q + f ≠ 160 + 16 * (3 * p + r) + 7; omega)
  have e := mFree_up (v := v) (v' := mv v p r k) hp (nl 0 (by omega)) (fun p' f h1 h2 h3 => nP p' f (by omega) (by omega)) (fun p' r' h1 h2 h3 => nq _ 7 (by omega) (Or.inl (by omega)))
  rw [e, nP p 0 (by omega) (by omega), nP p 1 (by omega) (by omega), nP p 2 (by omega) (by omega), s3_mv7 hr]
  grind
/-- the sums, one port's guaranteed cells aside -/
def wfO (v : xV) (P p : Nat) : Prop := (∀ p', p' < 6 → (p' ≠ p → s3 v p' 6 ≤ v (ip p' 0) + v (ip p' 2)) ∧ s3 v p' 8 ≤ v (ip p' 1)) ∧ 0 ≤ mFree v P ∧ 0 ≤ mFree v P - ov v p ∧ mFree v P ≤ 128
/-- what a conversion leaves -/
def cvF (τ τ' : xD) (v v' : xV) : Prop := (∀ K p r k, (K ≠ 16 ∨ (k ≠ 10 ∧ k ≠ 11)) → τ' K p r k = τ K p r k) ∧ ∀ i, (i < 160 ∨ 448 ≤ i) → v' i = v i
theorem conv_loop {n C P p : Nat} (hp : p < P) : ∀ j, j ≤ 3 → ∀ (τ : xD) (v : xV), R1 τ v n C P → wfO v P p → ov v p ≤ sm32 (fun r => v (iq (3 * p + r) 6)) j → ∃ τ' v', (∀ σ d m, j < m → BX2_shareBeyondGuarantee_8 d p m (ov v p) (nI j + (-1)) (va_up σ d τ) = some ((), va_up σ d τ')) ∧ (∀ σ m, j < m → BX6_converts_2 (nI p) m (nI j + (-1)) (x_row σ 5 31 0 0 v) = some ((), x_row σ 5 31 0 0 v')) ∧ R1 τ' v' n C P ∧ wfS v' P ∧ cvF τ τ' v v' ∧ mFree v' P = mFree v P - (if ov v p ≤ 0 then 0 else ov v p) := by
  intro j
  induction j with
  | zero =>
    intro _ τ v hR hO hs
    have h0 : ov v p ≤ 0 := hs
    refine ⟨τ, v, fun σ d m hm => ?_, fun σ m hm => ?_, hR, ⟨fun p' h1 => ⟨?_, (hO.1 p' h1).2⟩, hO.2.1, hO.2.2.2⟩, ⟨fun K p r k _ => rfl, fun i _ => rfl⟩, by rw [if_pos h0]; grind⟩
    · obtain ⟨m, rfl⟩ : ∃ q, m = q + 1 := ⟨m - 1, by omega⟩
      exact c_share_le h0
    · obtain ⟨m, rfl⟩ : ∃ q, m = q + 1 := ⟨m - 1, by omega⟩
      rw [BX6_converts_2, if_pos (by decide)]
    · by_cases e : p' = p
      · subst e
        have w := (hR.2.2.2.2.2.2.1 p' h1)
        have x0 := (hR.2.2.2.2.2.2.2.1 (3 * p') (by omega)).2.2.2.2.2.2.1
        have x1 := (hR.2.2.2.2.2.2.2.1 (3 * p' + 1) (by omega)).2.2.2.2.2.2.1
        have x2 := (hR.2.2.2.2.2.2.2.1 (3 * p' + 2) (by omega)).2.2.2.2.2.2.1
        obtain ⟨w0, w1, w2, -⟩ := w
        unfold ov s3 at h0
        unfold rg at *
        simp only [s3]
        grind
      · exact (hO.1 p' h1).1 e
  | succ j ih =>
    intro hj τ v hR hO hs
    have hG := hR.1
    have h6 := hG.2.2.2.2.2.1
    have wP := hR.2.2.2.2.2.2.1
    have wQ := hR.2.2.2.2.2.2.2.1
    have e10 : τ 16 p j 10 = v (iq (3 * p + j) 6) := hR.2.1 p j 10 6 (by omega) (by omega) rfl
    have g0 := (wQ (3 * p + j) (by omega)).2.2.2.2.2.2.1
    have x0 := (wQ (3 * p) (by omega)).2.2.2.2.2.2.1
    have x1 := (wQ (3 * p + 1) (by omega)).2.2.2.2.2.2.1
    have x2 := (wQ (3 * p + 2) (by omega)).2.2.2.2.2.2.1
    have wp := wP p (by omega)
    obtain ⟨k, hk⟩ : ∃ k, k = cut (ov v p) (v (iq (3 * p + j) 6)) := ⟨_, rfl⟩
    have bov : -200 ≤ ov v p ∧ ov v p ≤ 400 := by
      obtain ⟨w0, w1, w2, -⟩ := wp
      unfold ov rg at *
      simp only [s3]
      grind
    have hk0 : 0 ≤ k ∧ k ≤ v (iq (3 * p + j) 6) := by
      unfold cut i_min at hk
      unfold rg at g0
      by_cases e : ov v p ≤ 0
      · rw [if_pos e] at hk; grind
      · rw [if_neg e] at hk
        by_cases e2 : v (iq (3 * p + j) 6) < ov v p
        · rw [if_pos e2] at hk; grind
        · rw [if_neg e2] at hk; grind
    have hR1 := R1_mv hR hp (show j < 3 by omega) hk0.1 hk0.2
    have nl : ∀ i, i < 160 → mv v p j k i = v i := fun i hi => mv_n v p j k (by show i ≠ 160 + 16 * (3 * p + j) + 6; omega) (by show i ≠ 160 + 16 * (3 * p + j) + 7; omega)
    have nP : ∀ p' f, p' < 6 → f < 24 → mv v p j k (ip p' f) = v (ip p' f) := fun p' f h1 h2 => nl _ (by show 16 + 24 * p' + f < 160; omega)
    have nq : ∀ q f, f < 16 → (q ≠ 3 * p + j ∨ (f ≠ 6 ∧ f ≠ 7)) → mv v p j k (iq q f) = v (iq q f) := fun q f h1 h2 => mv_n v p j k (by show 160 + 16 * q + f ≠ 160 + 16 * (3 * p + j) + 6; omega) (by show 160 + 16 * q + f ≠ 160 + 16 * (3 * p + j) + 7; omega)
    have eov : ov (mv v p j k) p = ov v p - k := by
      rw [ov, ov, s3_mv6 (by omega), nP p 0 (by omega) (by omega), nP p 2 (by omega) (by omega)]
      grind
    have efr : mFree (mv v p j k) P = mFree v P - k := mFree_mv hp h6 (by omega)
    have hO1 : wfO (mv v p j k) P p := by
      refine ⟨fun p' h1 => ?_, ?_, ?_, ?_⟩
      · rw [s3_mv (f := 8) (by omega) (Or.inr (by omega)) (by omega), nP p' 0 h1 (by omega), nP p' 1 h1 (by omega), nP p' 2 h1 (by omega)]
        refine ⟨fun e => ?_, (hO.1 p' h1).2⟩
        rw [s3_mv (f := 6) (by omega) (Or.inl e) (by omega)]
        exact (hO.1 p' h1).1 e
      · obtain ⟨-, a1, a2, a3⟩ := hO
        rw [efr]
        unfold cut i_min at hk
        unfold rg at g0
        by_cases e : ov v p ≤ 0
        · rw [if_pos e] at hk; grind
        · rw [if_neg e] at hk
          by_cases e2 : v (iq (3 * p + j) 6) < ov v p
          · rw [if_pos e2] at hk; grind
          · rw [if_neg e2] at hk; grind
      · rw [efr, eov]
        have := hO.2.2.1
        rw [show mFree v P - k - (ov v p - k) = mFree v P - ov v p by grind]
        exact this
      · obtain ⟨-, a1, a2, a3⟩ := hO
        unfold rg at g0
        rw [efr]; grind
    have hs1 : ov (mv v p j k) p ≤ sm32 (fun r => mv v p j k (iq (3 * p + r) 6)) j := by
      rw [eov, sm32_congr (g := fun r => v (iq (3 * p + r) 6)) (fun r hr => nq _ 6 (by omega) (Or.inl (by omega)))]
      have hb := sm32_bd (f := fun r => v (iq (3 * p + r) 6)) j (by omega) (fun r hr => by
        have := (wQ (3 * p + r) (by omega)).2.2.2.2.2.2.1
        unfold rg at this
        show 0 ≤ v (iq (3 * p + r) 6) ∧ v (iq (3 * p + r) 6) ≤ 600
        grind)
      have hc : nI (600 * j) ≤ 1800 := nI_le (b := 1800) (by omega) (by omega)
      rw [sm32] at hs
      unfold cut i_min at hk
      unfold rg at g0
      by_cases e : ov v p ≤ 0
      · rw [if_pos e] at hk; grind
      · rw [if_neg e] at hk
        by_cases e2 : v (iq (3 * p + j) 6) < ov v p
        · rw [if_pos e2] at hk; grind
        · rw [if_neg e2] at hk; grind
    obtain ⟨τ', v', hc, hm, hR', hS', ⟨hF1, hF2⟩, hmf⟩ := ih (by omega) _ _ hR1 hO1 hs1
    refine ⟨τ', v', fun σ d m hm' => ?_, fun σ m hm' => ?_, hR', hS', ⟨fun K p' r' k' h => (hF1 K p' r' k' h).trans (cmv_n τ p j k h), fun i hi => (hF2 i hi).trans (mv_n v p j k (by show i ≠ 160 + 16 * (3 * p + j) + 6; omega) (by show i ≠ 160 + 16 * (3 * p + j) + 7; omega))⟩, ?_⟩
    · obtain ⟨m, rfl⟩ : ∃ q, m = q + 1 := ⟨m - 1, by omega⟩
      have hc' := hc σ d m (by omega)
      rw [eov] at hc'
      by_cases e : ov v p ≤ 0
      · have k0 : k = 0 := by rw [hk, cut, if_pos e]
        rw [k0, cmv_0] at hc'
        rw [c_share_le e]
        obtain ⟨m, rfl⟩ : ∃ q, m = q + 1 := ⟨m - 1, by omega⟩
        rw [c_share_le (by grind)] at hc'
        exact hc'
      · have ek : i_min (ov v p) (τ 16 p j 10) = k := by rw [hk, cut, if_neg e, e10]
        rw [BX2_shareBeyondGuarantee_8, pk_m1, if_neg (nI_nn (by omega)), if_neg e, in_nI (by omega) (by omega), g_t, nI_clamp (by omega), up_s, ek, l_v, set_own, l_v, up_s, dset_rd, if_neg (fun q => by omega), set_own, l_v, l_v, l_v]
        exact hc'
    · obtain ⟨m, rfl⟩ : ∃ q, m = q + 1 := ⟨m - 1, by omega⟩
      have hm'' := hm σ m (by omega)
      have ef := m_freeOf (σ := x_row σ 5 31 0 0 v) (p := p) (by omega)
      have eo : - (vv (x_row σ 5 31 0 0 v) (ip p 0) + vv (x_row σ 5 31 0 0 v) (ip p 2) - s3 (vv (x_row σ 5 31 0 0 v)) p 6) = ov v p := by
        rw [show vv (x_row σ 5 31 0 0 v) = v from row_rd σ v, ov]
        grind
      rw [BX6_converts_2, pk_m1, if_neg (nI_nn (by omega)), ef, b_s, l_v, eo, l_v, q3, m_queue_6, b_s, in_nI (by omega) (by omega), g_t, nI_clamp (by omega), row_rd, fX6_least]
      have kk : k = if ov v p ≤ 0 then 0 else i_min (ov v p) (v (iq (3 * p + j) 6)) := hk
      unfold i_min at kk
      unfold rg at g0
      by_cases e1 : v (160 + 16 * (3 * p + j) + 6) ≤ ov v p
      · have e1' : v (iq (3 * p + j) 6) ≤ ov v p := e1
        rw [if_pos e1, b_s]
        by_cases e2 : v (160 + 16 * (3 * p + j) + 6) ≤ 0
        · have e2' : v (iq (3 * p + j) 6) ≤ 0 := e2
          have k0 : k = 0 := by grind
          rw [if_pos e2, l_v]
          rw [k0, mv_0] at hm''
          exact hm''
        · have e2' : ¬ v (iq (3 * p + j) 6) ≤ 0 := e2
          have k0 : k = v (160 + 16 * (3 * p + j) + 6) := by
            show k = v (iq (3 * p + j) 6)
            grind
          rw [if_neg e2, m_queue_6, b_s, in_nI (by omega) (by omega), g_t, g_t, nI_clamp (by omega), row_rd, row_set, l_v, m_queue_7, b_s, in_nI (by omega) (by omega), g_t, g_t, nI_clamp (by omega), row_rd, row_set, l_v, l_v, up_n _ _ (by omega)]
          rw [mv] at hm''
          rw [k0] at hm''
          exact hm''
      · have e1' : ¬ v (iq (3 * p + j) 6) ≤ ov v p := e1
        rw [if_neg e1, b_s]
        by_cases e2 : ov v p ≤ 0
        · have k0 : k = 0 := by grind
          rw [if_pos e2, l_v]
          rw [k0, mv_0] at hm''
          exact hm''
        · have k0 : k = ov v p := by grind
          rw [if_neg e2, m_queue_6, b_s, in_nI (by omega) (by omega), g_t, g_t, nI_clamp (by omega), row_rd, row_set, l_v, m_queue_7, b_s, in_nI (by omega) (by omega), g_t, g_t, nI_clamp (by omega), row_rd, row_set, l_v, l_v, up_n _ _ (by omega)]
          rw [mv, k0] at hm''
          exact hm''
    · rw [hmf, efr, eov]
      unfold cut i_min at hk
      unfold rg at g0
      by_cases e : ov v p ≤ 0
      · rw [if_pos e] at hk
        rw [hk, if_pos e, if_pos (by grind)]
        grind
      · rw [if_neg e] at hk
        rw [if_neg e]
        by_cases e2 : v (iq (3 * p + j) 6) < ov v p
        · rw [if_pos e2] at hk
          rw [if_neg (by grind)]
          grind
        · rw [if_neg e2] at hk
          rw [hk, if_pos (by grind)]
          grind
theorem S_conv {n C P p : Nat} {τ : xD} {v : xV} (hp : p < P) (hR : R1 τ v n C P) (hO : wfO v P p) : ∃ τ' v', (∀ σ d, fX2_shareBeyondGuarantee d p (va_up σ d τ) = some ((), va_up σ d τ')) ∧ (∀ σ, fX6_converts (nI p) (x_row σ 5 31 0 0 v) = some ((), x_row σ 5 31 0 0 v')) ∧ R1 τ' v' n C P ∧ wfS v' P ∧ cvF τ τ' v v' ∧ mFree v' P = mFree v P - (if ov v p ≤ 0 then 0 else ov v p) := by
  have h6 := hR.1.2.2.2.2.2.1
  have wQ := hR.2.2.2.2.2.2.2.1
  have x0 := (wQ (3 * p) (by omega)).2.2.2.2.2.2.1
  have x1 := (wQ (3 * p + 1) (by omega)).2.2.2.2.2.2.1
  have x2 := (wQ (3 * p + 2) (by omega)).2.2.2.2.2.2.1
  obtain ⟨w0, w1, w2, -⟩ := hR.2.2.2.2.2.2.1 p (by omega)
  obtain ⟨τ', v', hc, hm, h⟩ := conv_loop hp 3 (by omega) τ v hR hO (by
    show ov v p ≤ 0 + v (iq (3 * p) 6) + v (iq (3 * p + 1) 6) + v (iq (3 * p + 2) 6)
    unfold ov rg at *
    simp only [s3]
    grind)
  refine ⟨τ', v', fun σ d => ?_, fun σ => ?_, h⟩
  · have e : -(τ 13 p 0 2 + τ 13 p 0 4 - (τ 16 p 0 10 + τ 16 p 1 10 + τ 16 p 2 10)) = ov v p := by
      have hQ := hR.2.1
      have hPp := hR.2.2.1
      rw [hPp p 2 0 (by omega) rfl, hPp p 4 2 (by omega) rfl, hQ p 0 10 6 (by omega) (by omega) rfl, hQ p 1 10 6 (by omega) (by omega) rfl, hQ p 2 10 6 (by omega) (by omega) rfl, ov]
      show -(v (ip p 0) + v (ip p 2) - (v (iq (3 * p) 6) + v (iq (3 * p + 1) 6) + v (iq (3 * p + 2) 6))) = _
      simp only [s3]
      grind
    rw [fX2_shareBeyondGuarantee, fX2_guaranteeLeft, fX2_guaranteedInUse, b_s, b_s, l_v, up_s, e]
    exact hc σ d x_FU (by unfold x_FU; omega)
  · rw [fX6_converts]
    exact hm σ x_FU (by unfold x_FU; omega)
