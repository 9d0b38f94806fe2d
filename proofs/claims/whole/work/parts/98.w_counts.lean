/-! ===== cells are counted by a stage ===== -/
theorem rs_facts {τ : xD} {v : xV} {b C P p sz : Nat} (h : RW τ v b C P) (hp : p < P) (h1 : 1 ≤ sz) (h12 : sz ≤ 12) : 0 ≤ i_min (nI sz) (fg v p) ∧ i_min (nI sz) (fg v p) ≤ 12 ∧ i_min (nI sz) (fg v p) ≤ fg v p ∧ 0 ≤ rs v p (nI sz) ∧ rs v p (nI sz) ≤ 12 ∧ i_min (nI sz) (fg v p) + rs v p (nI sz) = nI sz ∧ 0 ≤ fg v p ∧ fg v p ≤ 96 ∧ 0 ≤ s3 v p 6 ∧ s3 v p 6 ≤ 384 := by
  have h6 := h.1.1.2.2.2.2.2.1
  have hp6 : p < 6 := by omega
  have hs := (h.2.2.1.1 p hp6).1
  obtain ⟨w0, w1, w2, -⟩ := h.1.2.2.2.2.2.2.1 p hp6
  have x0 := (h.1.2.2.2.2.2.2.2.1 (3 * p) (by omega)).2.2.2.2.2.2.1
  have x1 := (h.1.2.2.2.2.2.2.2.1 (3 * p + 1) (by omega)).2.2.2.2.2.2.1
  have x2 := (h.1.2.2.2.2.2.2.2.1 (3 * p + 2) (by omega)).2.2.2.2.2.2.1
  have k6 : 0 ≤ s3 v p 6 ∧ s3 v p 6 ≤ 384 := by simp only [s3]; unfold rg at *; grind
  have hx1 : 1 ≤ nI sz := nI_le (a := 1) h1 (by omega)
  have hx2 : nI sz ≤ 12 := nI_le (b := 12) h12 (by omega)
  have hfg : fg v p = v (ip p 0) + v (ip p 2) - s3 v p 6 := rfl
  have f0 : 0 ≤ fg v p := by rw [hfg]; unfold rg at *; generalize s3 v p 6 = S at *; grind
  have f1 : fg v p ≤ 96 := by rw [hfg]; unfold rg at *; generalize s3 v p 6 = S at *; grind
  have a := imin_l (nI sz) (fg v p)
  have b := imin_r (nI sz) (fg v p)
  have c : 0 ≤ i_min (nI sz) (fg v p) := imin_0 (by grind) f0
  have hr : rs v p (nI sz) = nI sz - i_min (nI sz) (fg v p) := rfl
  generalize i_min (nI sz) (fg v p) = G at *
  rw [hr]
  generalize s3 v p 6 = S at *
  generalize fg v p = F at *
  refine ⟨c, by grind, b, by grind, by grind, by grind, f0, f1, k6.1, k6.2⟩
theorem s3_add {v v' : xV} {p r f : Nat} {y : Int32} (hr : r < 3) (hf : f < 16) (hv : ∀ r', r' < 3 → r' ≠ r → v' (iq (3 * p + r') f) = v (iq (3 * p + r') f)) (he : v' (iq (3 * p + r) f) = v (iq (3 * p + r) f) + y) : s3 v' p f = s3 v p f + y := by
  simp only [s3]
  rcases (show r = 0 ∨ r = 1 ∨ r = 2 by omega) with rfl | rfl | rfl
  · have he' : v' (iq (3 * p) f) = v (iq (3 * p) f) + y := he
    rw [he', hv 1 (by omega) (by omega), hv 2 (by omega) (by omega)]; grind
  · have h0 : v' (iq (3 * p) f) = v (iq (3 * p) f) := hv 0 (by omega) (by omega)
    rw [h0, he, hv 2 (by omega) (by omega)]; grind
  · have h0 : v' (iq (3 * p) f) = v (iq (3 * p) f) := hv 0 (by omega) (by omega)
    rw [h0, he, hv 1 (by omega) (by omega)]; grind
def chV (v : xV) (q : Nat) (t g s h pa pz : Int32) : xV := va_up (va_up (va_up (va_up (va_up (va_up v (iq q 3) t) (iq q 6) g) (iq q 7) s) (iq q 8) h) (iq q 11) pz) (iq q 10) pa
def chT (τ : xD) (p r : Nat) (t g s h pa pz : Int32) : xD := dset (dset (dset (dset (dset (dset τ 16 p r 4 t) 16 p r 10 g) 16 p r 11 s) 16 p r 12 h) 16 p r 9 pz) 16 p r 8 pa
theorem ch_n {v : xV} {q : Nat} {t g s h pa pz : Int32} {i : Nat} (h3 : i ≠ 160 + 16 * q + 3) (h6 : i ≠ 160 + 16 * q + 6) (h7 : i ≠ 160 + 16 * q + 7) (h8 : i ≠ 160 + 16 * q + 8) (h10 : i ≠ 160 + 16 * q + 10) (h11 : i ≠ 160 + 16 * q + 11) : chV v q t g s h pa pz i = v i := by
  rw [chV, up_n _ _ h10, up_n _ _ h11, up_n _ _ h8, up_n _ _ h7, up_n _ _ h6, up_n _ _ h3]
theorem ch_v {v : xV} {q : Nat} {t g s h pa pz : Int32} : chV v q t g s h pa pz (iq q 3) = t ∧ chV v q t g s h pa pz (iq q 6) = g ∧ chV v q t g s h pa pz (iq q 7) = s ∧ chV v q t g s h pa pz (iq q 8) = h ∧ chV v q t g s h pa pz (iq q 10) = pa ∧ chV v q t g s h pa pz (iq q 11) = pz := by
  unfold chV
  refine ⟨?_, ?_, ?_, ?_, ?_, ?_⟩
  · rw [up_n _ _ (qq (by omega) (by omega) (by omega)), up_n _ _ (qq (by omega) (by omega) (by omega)), up_n _ _ (qq (by omega) (by omega) (by omega)), up_n _ _ (qq (by omega) (by omega) (by omega)), up_n _ _ (qq (by omega) (by omega) (by omega)), up_s]
  · rw [up_n _ _ (qq (by omega) (by omega) (by omega)), up_n _ _ (qq (by omega) (by omega) (by omega)), up_n _ _ (qq (by omega) (by omega) (by omega)), up_n _ _ (qq (by omega) (by omega) (by omega)), up_s]
  · rw [up_n _ _ (qq (by omega) (by omega) (by omega)), up_n _ _ (qq (by omega) (by omega) (by omega)), up_n _ _ (qq (by omega) (by omega) (by omega)), up_s]
  · rw [up_n _ _ (qq (by omega) (by omega) (by omega)), up_n _ _ (qq (by omega) (by omega) (by omega)), up_s]
  · rw [up_s]
  · rw [up_n _ _ (qq (by omega) (by omega) (by omega)), up_s]
theorem ct_n {τ : xD} {p r : Nat} {t g s h pa pz : Int32} {K p' r' k : Nat} (hn : K ≠ 16 ∨ p' ≠ p ∨ r' ≠ r ∨ (k ≠ 4 ∧ k ≠ 8 ∧ k ≠ 9 ∧ k ≠ 10 ∧ k ≠ 11 ∧ k ≠ 12)) : chT τ p r t g s h pa pz K p' r' k = τ K p' r' k := by
  unfold chT
  rw [ds_n (by omega), ds_n (by omega), ds_n (by omega), ds_n (by omega), ds_n (by omega), ds_n (by omega)]
theorem ct_v {τ : xD} {p r : Nat} {t g s h pa pz : Int32} : chT τ p r t g s h pa pz 16 p r 4 = t ∧ chT τ p r t g s h pa pz 16 p r 10 = g ∧ chT τ p r t g s h pa pz 16 p r 11 = s ∧ chT τ p r t g s h pa pz 16 p r 12 = h ∧ chT τ p r t g s h pa pz 16 p r 8 = pa ∧ chT τ p r t g s h pa pz 16 p r 9 = pz := by
  unfold chT
  refine ⟨?_, ?_, ?_, ?_, ?_, ?_⟩
  · rw [ds_n (by omega), ds_n (by omega), ds_n (by omega), ds_n (by omega), ds_n (by omega), ds_s]
  · rw [ds_n (by omega), ds_n (by omega), ds_n (by omega), ds_n (by omega), ds_s]
  · rw [ds_n (by omega), ds_n (by omega), ds_n (by omega), ds_s]
  · rw [ds_n (by omega), ds_n (by omega), ds_s]
  · rw [ds_s]
  · rw [ds_n (by omega), ds_s]
theorem ds_comm {τ : xD} {K p r k K' p' r' k' : Nat} {x y : Int32} (h : K ≠ K' ∨ p ≠ p' ∨ r ≠ r' ∨ k ≠ k') : dset (dset τ K p r k x) K' p' r' k' y = dset (dset τ K' p' r' k' y) K p r k x := by
  funext a b c d
  rw [dset_rd, dset_rd, dset_rd, dset_rd]
  by_cases z1 : a = K' ∧ b = p' ∧ c = r' ∧ d = k'
  · rw [if_pos z1, if_neg (by omega), if_pos z1]
  · rw [if_neg z1, if_neg z1]
theorem dsx {τ τ' : xD} (h : ∀ K p r k, τ K p r k = τ' K p r k) : τ = τ' := by
  funext a b c d; exact h a b c d
theorem ar_add {a b : Int32} (ha : 0 ≤ a ∧ a ≤ 128) (h0 : 0 ≤ b) (hb : b ≤ 12) : 0 ≤ a + b ∧ a + b ≤ 140 := by grind
theorem ar_w {a : Int32} (ha : 0 ≤ a ∧ a ≤ 128) : 0 ≤ a ∧ a ≤ 140 := by grind
theorem ar_B {a s h g x z : Int32} (hz : g + x = z) : a + g + (s + x) + h = a + s + h + z := by grind
theorem ar_C {a s h g x z : Int32} (hz : g + x = z) : a + g + s + (h + x) = a + s + h + z := by grind
theorem ar_sub {M x : Int32} (h0 : 0 ≤ x) (h1 : x ≤ M) (h2 : M ≤ 128) (h3 : 0 ≤ M) : 0 ≤ M - x ∧ M - x ≤ 128 := by grind
theorem ar_pos {x : Int32} (h0 : 0 ≤ x) (hn : ¬ x = 0) : ¬ x ≤ 0 := by grind
theorem ar_S {S g A B F : Int32} (hF : F = A + B - S) (hg : g ≤ F) (g0 : 0 ≤ g) (g1 : g ≤ 12) (hS : 0 ≤ S ∧ S ≤ 384) (hA : 0 ≤ A ∧ A ≤ 64) (hB : 0 ≤ B ∧ B ≤ 32) : S + g ≤ A + B := by grind
theorem ar_H {S x H : Int32} (hx : x ≤ H - S) (x0 : 0 ≤ x) (x1 : x ≤ 12) (hS : 0 ≤ S ∧ S ≤ 64) (hH : 0 ≤ H ∧ H ≤ 64) : S + x ≤ H := by grind
theorem ar_t {t m : Int32} (ht : 0 ≤ t ∧ t ≤ 32) (h0 : 0 ≤ m) (h1 : m ≤ t) : 0 ≤ t - m ∧ t - m ≤ 32 := by grind
theorem ar_mx {t y : Int32} (ht : 0 ≤ t ∧ t ≤ 32) (h : ¬ t < y) : 0 ≤ i_max 0 y ∧ i_max 0 y ≤ t := by
  unfold i_max
  split <;> grind
theorem ar_p0 (a : Int32) : a + 1 = a + (1 - 0) := by grind
theorem ar_p1 (a : Int32) : a = a + (1 - 1) := by grind
theorem ar_z (y : Int32) : y + 0 = y := by grind
theorem ar_64 {S H : Int32} (hS : 0 ≤ S ∧ S ≤ 384) (h : S ≤ H) (hH : 0 ≤ H ∧ H ≤ 64) : 0 ≤ S ∧ S ≤ 64 := by grind
theorem ar_s3 {a b c : Int32} (ha : 0 ≤ a ∧ a ≤ 128) (hb : 0 ≤ b ∧ b ≤ 128) (hc : 0 ≤ c ∧ c ≤ 128) : 0 ≤ a + b + c ∧ a + b + c ≤ 384 := by grind
theorem ar_m (M a b c y s : Int32) : M + (a + b + c + s) - (a + b + c + (s + y)) = M - y := by grind
theorem chV_eq {u v : xV} {q : Nat} {t g s h pa pz : Int32} (h3 : u (iq q 3) = t) (h6 : u (iq q 6) = g) (h7 : u (iq q 7) = s) (h8 : u (iq q 8) = h) (h10 : u (iq q 10) = pa) (h11 : u (iq q 11) = pz) (hn : ∀ i, i ≠ 160 + 16 * q + 3 → i ≠ 160 + 16 * q + 6 → i ≠ 160 + 16 * q + 7 → i ≠ 160 + 16 * q + 8 → i ≠ 160 + 16 * q + 10 → i ≠ 160 + 16 * q + 11 → u i = v i) : u = chV v q t g s h pa pz := by
  funext i
  by_cases z3 : i = iq q 3
  · rw [z3, h3, ch_v.1]
  · by_cases z6 : i = iq q 6
    · rw [z6, h6, ch_v.2.1]
    · by_cases z7 : i = iq q 7
      · rw [z7, h7, ch_v.2.2.1]
      · by_cases z8 : i = iq q 8
        · rw [z8, h8, ch_v.2.2.2.1]
        · by_cases z10 : i = iq q 10
          · rw [z10, h10, ch_v.2.2.2.2.1]
          · by_cases z11 : i = iq q 11
            · rw [z11, h11, ch_v.2.2.2.2.2]
            · rw [ch_n z3 z6 z7 z8 z10 z11, hn i z3 z6 z7 z8 z10 z11]
theorem chT_eq {u τ : xD} {p r : Nat} {t g s h pa pz : Int32} (h4 : u 16 p r 4 = t) (h10 : u 16 p r 10 = g) (h11 : u 16 p r 11 = s) (h12 : u 16 p r 12 = h) (h8 : u 16 p r 8 = pa) (h9 : u 16 p r 9 = pz) (hn : ∀ K p' r' k, (K ≠ 16 ∨ p' ≠ p ∨ r' ≠ r ∨ (k ≠ 4 ∧ k ≠ 8 ∧ k ≠ 9 ∧ k ≠ 10 ∧ k ≠ 11 ∧ k ≠ 12)) → u K p' r' k = τ K p' r' k) : u = chT τ p r t g s h pa pz := by
  apply dsx
  intro K p' r' k
  by_cases e : K = 16 ∧ p' = p ∧ r' = r ∧ (k = 4 ∨ k = 8 ∨ k = 9 ∨ k = 10 ∨ k = 11 ∨ k = 12)
  · obtain ⟨rfl, rfl, rfl, e⟩ := e
    rcases e with rfl | rfl | rfl | rfl | rfl | rfl
    · rw [h4, ct_v.1]
    · rw [h8, ct_v.2.2.2.2.1]
    · rw [h9, ct_v.2.2.2.2.2]
    · rw [h10, ct_v.2.1]
    · rw [h11, ct_v.2.2.1]
    · rw [h12, ct_v.2.2.2.1]
  · rw [ct_n (by omega), hn _ _ _ _ (by omega)]
/-- the counting, on both sides -/
theorem S_chg {τ : xD} {v : xV} {b C P p r sz : Nat} (h : RW τ v b C P) (hp : p < P) (hr : r < 3) (h1 : 1 ≤ sz) (h12 : sz ≤ 12) (st st' : Int32) (hst : τ 0 0 0 10 = st) (hc : (¬ st = 3 ∧ st' = 1 ∧ rs v p (nI sz) = 0) ∨ (¬ st = 3 ∧ st' = 2 ∧ ¬ rs v p (nI sz) = 0 ∧ pc v (3 * p + r) (rs v p (nI sz)) (mFree v P) = 0) ∨ (st = 3 ∧ st' = 3 ∧ rs v p (nI sz) ≤ v (ip p 1) - s3 v p 8)) : ∃ τ' v', (∀ σ d, fX0_chargeCells d d p d p r (nI sz) (va_up σ d τ) = some ((), va_up σ d τ')) ∧ (∀ σ, fX6_counts (nI (3 * p + r)) (nI sz) st' (x_row σ 5 31 0 0 v) = some ((), x_row σ 5 31 0 0 v')) ∧ RC τ' v' b C P p r sz ∧ τ' 0 0 0 5 = τ 0 0 0 5 ∧ (∀ i, (i < 160 ∨ 448 ≤ i) → v' i = v i) ∧ v' = (let g := i_min (nI sz) (fg v p); let x := rs v p (nI sz); if st' = 3 then chV v (3 * p + r) (v (iq (3 * p + r) 3)) (v (iq (3 * p + r) 6) + g) (v (iq (3 * p + r) 7)) (v (iq (3 * p + r) 8) + x) 1 (v (iq (3 * p + r) 11) + (1 - v (iq (3 * p + r) 10))) else chV v (3 * p + r) (if st' = 2 then v (iq (3 * p + r) 3) - i_max 0 (v (iq (3 * p + r) 7) + x - v (iq (3 * p + r) 0) * mFree v P / 8) else v (iq (3 * p + r) 3)) (v (iq (3 * p + r) 6) + g) (v (iq (3 * p + r) 7) + x) (v (iq (3 * p + r) 8)) (v (iq (3 * p + r) 10)) (v (iq (3 * p + r) 11))) := by
  have h6 := h.1.1.2.2.2.2.2.1
  have hp6 : p < 6 := by omega
  have hq : 3 * p + r < 18 := by omega
  have hv1 := h.1.1.2.2.2.1
  obtain ⟨g0, g1, g2, x0, x1, gx, f0, f1, s60, s61⟩ := rs_facts h hp h1 h12
  have hQ := h.1.2.1
  have c4 : τ 16 p r 4 = v (iq (3 * p + r) 3) := hQ p r 4 3 hp6 hr rfl
  have c8 : τ 16 p r 8 = v (iq (3 * p + r) 10) := hQ p r 8 10 hp6 hr rfl
  have c9 : τ 16 p r 9 = v (iq (3 * p + r) 11) := hQ p r 9 11 hp6 hr rfl
  have c10 : τ 16 p r 10 = v (iq (3 * p + r) 6) := hQ p r 10 6 hp6 hr rfl
  have c11 : τ 16 p r 11 = v (iq (3 * p + r) 7) := hQ p r 11 7 hp6 hr rfl
  have c12 : τ 16 p r 12 = v (iq (3 * p + r) 8) := hQ p r 12 8 hp6 hr rfl
  have c1 : τ 16 p r 1 = v (iq (3 * p + r) 0) := hQ p r 1 0 hp6 hr rfl
  obtain ⟨w0, w1, w2, w3, w4, w5, w6, w7, w8, w9, w10⟩ := h.1.2.2.2.2.2.2.2.1 (3 * p + r) hq
  have hgl := fun σ d => c_gl (σ := σ) (d := d) h.1.2.2.1 hQ hp6
  have hS := h.2.2.1
  have hs := hS.1 p hp6
  generalize eg : i_min (nI sz) (fg v p) = g at *
  have hrs : rs v p (nI sz) = nI sz - g := by rw [← eg]; rfl
  generalize ex : rs v p (nI sz) = x at *
  -- the class up to the stage
  have hcl : ∀ σ d, fX0_chargeCells d d p d p r (nI sz) (va_up σ d τ) = if st = 3 then (x_let (x_set (va_up σ d τ) d 16 p r 12 (v (iq (3 * p + r) 8) + x)) fun s8 => x_b (fX3_pause d p r s8) fun z9 s9 => x_let (x_set s9 d 16 p r 10 ((s9 d 16 p r 10) + g)) fun s10 => some ((), s10)) else (if x ≤ 0 then (x_let (x_set (va_up σ d τ) d 16 p r 10 (v (iq (3 * p + r) 6) + g)) fun s4 => some ((), s4)) else (x_b (fX0_sharedLeft d (va_up σ d τ)) fun z5 s5 => x_b (fX3_addShared d p r x z5 s5) fun z6 s6 => x_let (x_set s6 d 16 p r 10 ((s6 d 16 p r 10) + g)) fun s7 => some ((), s7))) := fun σ d => by
    rw [fX0_chargeCells, hgl, b_s, eg, l_v, l_v, up_s, hst, c12, c10, ← hrs]
  -- the reference
  have hv : ∀ σ', vv (x_row σ' 5 31 0 0 v) = v := fun σ' => row_rd _ _
  have hrf : ∀ σ, fX6_counts (nI (3 * p + r)) (nI sz) st' (x_row σ 5 31 0 0 v) = BX6_counts_65 (nI (3 * p + r)) st' g x (x_row σ 5 31 0 0 (if st' = 2 then va_up v (iq (3 * p + r) 3) (v (iq (3 * p + r) 3) - i_max 0 (v (iq (3 * p + r) 7) + x - v (iq (3 * p + r) 0) * mFree v P / 8)) else v)) := fun σ => by
    rw [fX6_counts, div3 (by omega), show (3 * p + r) / 3 = p by omega, m_freeOf hp6, b_s, hv, m_least, b_s]
    show x_let (nI sz - i_min (nI sz) (fg v p)) _ = _
    rw [eg, ← hrs, l_v]
    by_cases z : st' = 2
    · rw [if_pos z, if_pos z, m_queue_7, b_s, in_nI (by omega) (by omega), g_t, m_limit (q := 3 * p + r) (by rw [row_rd]; exact hv1) h6 hq, b_s, hv, nI_clamp (by omega), row_rd, l_v, m_queue_3, b_s, in_nI (by omega) (by omega), g_t, m_most, b_s, g_t, nI_clamp (by omega), row_rd, row_set, l_v]
      show BX6_counts_65 (nI (3 * p + r)) st' (i_min (nI sz) (fg v p)) x _ = _
      rw [eg]
    · rw [if_neg z, if_neg z]
      show BX6_counts_65 (nI (3 * p + r)) st' (i_min (nI sz) (fg v p)) x _ = _
      rw [eg]
  have r65 : ∀ σ (u : xV), BX6_counts_65 (nI (3 * p + r)) st' g x (x_row σ 5 31 0 0 u) = if st' = 3 then some ((), x_row σ 5 31 0 0 (va_up (va_up (va_up (va_up u (iq (3 * p + r) 6) (u (iq (3 * p + r) 6) + g)) (iq (3 * p + r) 8) (u (iq (3 * p + r) 8) + x)) (iq (3 * p + r) 11) (u (iq (3 * p + r) 11) + (1 - u (iq (3 * p + r) 10)))) (iq (3 * p + r) 10) 1)) else some ((), x_row σ 5 31 0 0 (va_up (va_up u (iq (3 * p + r) 6) (u (iq (3 * p + r) 6) + g)) (iq (3 * p + r) 7) (u (iq (3 * p + r) 7) + x))) := fun σ u => by
    rw [BX6_counts_65, m_queue_6, b_s, in_nI (by omega) (by omega), g_t, g_t, nI_clamp (by omega), row_rd, row_set, l_v]
    by_cases z : st' = 3
    · rw [if_pos z, if_pos z, m_queue_8, b_s, in_nI (by omega) (by omega), g_t, g_t, nI_clamp (by omega), row_rd, row_set, l_v, m_queue_11, b_s, in_nI (by omega) (by omega), g_t, m_queue_10, b_s, in_nI (by omega) (by omega), g_t, g_t, nI_clamp (by omega), nI_clamp (by omega), row_rd, row_set, l_v, m_queue_10, b_s, in_nI (by omega) (by omega), g_t, nI_clamp (by omega), row_set, l_v, up_n _ _ (show 160 + 16 * (3 * p + r) + 8 ≠ 160 + 16 * (3 * p + r) + 6 by omega), up_n _ _ (show 160 + 16 * (3 * p + r) + 11 ≠ 160 + 16 * (3 * p + r) + 8 by omega), up_n _ _ (show 160 + 16 * (3 * p + r) + 11 ≠ 160 + 16 * (3 * p + r) + 6 by omega), up_n _ _ (show 160 + 16 * (3 * p + r) + 10 ≠ 160 + 16 * (3 * p + r) + 8 by omega), up_n _ _ (show 160 + 16 * (3 * p + r) + 10 ≠ 160 + 16 * (3 * p + r) + 6 by omega)]
    · rw [if_neg z, if_neg z, m_queue_7, b_s, in_nI (by omega) (by omega), g_t, g_t, nI_clamp (by omega), row_rd, row_set, l_v, up_n _ _ (show 160 + 16 * (3 * p + r) + 7 ≠ 160 + 16 * (3 * p + r) + 6 by omega)]
  have n67 : iq (3 * p + r) 6 ≠ iq (3 * p + r) 7 := qq (by omega) (by omega) (by omega)
  have so : ∀ t g' s' h' pa pz, ∀ r', r' < 3 → r' ≠ r → ∀ f, f < 16 → chV v (3 * p + r) t g' s' h' pa pz (iq (3 * p + r') f) = v (iq (3 * p + r') f) := fun t g' s' h' pa pz r' a1 a2 f a3 => ch_n (by simp only [iq]; omega) (by simp only [iq]; omega) (by simp only [iq]; omega) (by simp only [iq]; omega) (by simp only [iq]; omega) (by simp only [iq]; omega)
  have clo : ∀ t g' s' h' pa pz i, (i < 160 ∨ 448 ≤ i) → chV v (3 * p + r) t g' s' h' pa pz i = v i := fun t g' s' h' pa pz i hi => ch_n (by omega) (by omega) (by omega) (by omega) (by omega) (by omega)
  have mfr : ∀ t g' s' h' pa pz y, s' = v (iq (3 * p + r) 7) + y → mFree (chV v (3 * p + r) t g' s' h' pa pz) P = mFree v P - y := fun t g' s' h' pa pz y hy => by
    rw [mFree_up (v := v) (v' := chV v (3 * p + r) t g' s' h' pa pz) hp (clo _ _ _ _ _ _ _ (by omega)) (fun p' f a1 a2 a3 => clo _ _ _ _ _ _ _ (by simp only [ip]; omega)) (fun p' r' a1 a2 a3 => ch_n (by simp only [iq]; omega) (by simp only [iq]; omega) (by simp only [iq]; omega) (by simp only [iq]; omega) (by simp only [iq]; omega) (by simp only [iq]; omega)), clo _ _ _ _ _ _ _ (by simp only [ip]; omega), clo _ _ _ _ _ _ _ (by simp only [ip]; omega), clo _ _ _ _ _ _ _ (by simp only [ip]; omega), s3_add (v := v) (y := y) (f := 7) hr (by omega) (fun r' a1 a2 => so _ _ _ _ _ _ r' a1 a2 7 (by omega)) (by rw [ch_v.2.2.1, hy])]
    exact ar_m _ _ _ _ _ _
  have hwq : wfQ v := h.1.2.2.2.2.2.2.2.1
  have hs60 : ∀ t s' h' pa pz, s3 (chV v (3 * p + r) t (v (iq (3 * p + r) 6) + g) s' h' pa pz) p 6 ≤ v (ip p 0) + v (ip p 2) := fun t s' h' pa pz => by
    rw [s3_add (v := v) (y := g) (f := 6) hr (by omega) (fun r' a1 a2 => so _ _ _ _ _ _ r' a1 a2 6 (by omega)) ch_v.2.1]
    obtain ⟨p0, p1, p2, -⟩ := h.1.2.2.2.2.2.2.1 p hp6
    exact ar_S (F := fg v p) rfl g2 g0 g1 ⟨s60, s61⟩ p0 p2
  have hmf := hS.2
  have hm7 := w7
  have s8e : ∀ t g' s' h' pa pz y, h' = v (iq (3 * p + r) 8) + y → s3 (chV v (3 * p + r) t g' s' h' pa pz) p 8 = s3 v p 8 + y := fun t g' s' h' pa pz y hy => s3_add (v := v) (y := y) (f := 8) hr (by omega) (fun r' a1 a2 => so _ _ _ _ _ _ r' a1 a2 8 (by omega)) (by rw [ch_v.2.2.2.1, hy])
  have nqq : ∀ f f', f < 16 → f' < 16 → f ≠ f' → iq (3 * p + r) f ≠ iq (3 * p + r) f' := fun f f' a1 a2 a3 => qq a1 a2 (Or.inr a3)
  have z0 := ar_z
  rcases hc with ⟨st3, rfl, hx0⟩ | ⟨st3, rfl, hx0, hpc⟩ | ⟨rfl, rfl, hh⟩
  · -- by the guarantee alone
    subst hx0
    refine ⟨chT τ p r (τ 16 p r 4) (v (iq (3 * p + r) 6) + g) (τ 16 p r 11) (τ 16 p r 12) (τ 16 p r 8) (τ 16 p r 9), chV v (3 * p + r) (v (iq (3 * p + r) 3)) (v (iq (3 * p + r) 6) + g) (v (iq (3 * p + r) 7) + 0) (v (iq (3 * p + r) 8)) (v (iq (3 * p + r) 10)) (v (iq (3 * p + r) 11)), fun σ d => ?_, fun σ => ?_, ?_, ct_n (by omega), fun i hi => clo _ _ _ _ _ _ i hi, ?_⟩
    · rw [hcl, if_neg st3, if_pos (by decide), set_own, l_v]
      congr 3
      exact chT_eq (ds_n (by omega)) ds_s (ds_n (by omega)) (ds_n (by omega)) (ds_n (by omega)) (ds_n (by omega)) (fun K p' r' k hk => ds_n (by omega))
    · rw [hrf, if_neg (by decide), r65, if_neg (by decide)]
      congr 3
      exact chV_eq (by rw [up_n _ _ (nqq 3 7 (by omega) (by omega) (by omega)), up_n _ _ (nqq 3 6 (by omega) (by omega) (by omega))]) (by rw [up_n _ _ (nqq 6 7 (by omega) (by omega) (by omega)), up_s]) (up_s _ _ _) (by rw [up_n _ _ (nqq 8 7 (by omega) (by omega) (by omega)), up_n _ _ (nqq 8 6 (by omega) (by omega) (by omega))]) (by rw [up_n _ _ (nqq 10 7 (by omega) (by omega) (by omega)), up_n _ _ (nqq 10 6 (by omega) (by omega) (by omega))]) (by rw [up_n _ _ (nqq 11 7 (by omega) (by omega) (by omega)), up_n _ _ (nqq 11 6 (by omega) (by omega) (by omega))]) (fun i a3 a6 a7 a8 a10 a11 => by rw [up_n _ _ a7, up_n _ _ a6])
    · have em := mfr (v (iq (3 * p + r) 3)) (v (iq (3 * p + r) 6) + g) (v (iq (3 * p + r) 7) + 0) (v (iq (3 * p + r) 8)) (v (iq (3 * p + r) 10)) (v (iq (3 * p + r) 11)) 0 rfl
      refine RC_of h hp hr h12 (fun K p' r' k hk => ct_n hk) (fun i a3 a6 a7 a8 a10 a11 => ch_n a3 a6 a7 a8 a10 a11) (by rw [ct_v.1, ch_v.1, c4]) (by rw [ct_v.2.2.2.2.1, ch_v.2.2.2.2.1, c8]) (by rw [ct_v.2.2.2.2.2, ch_v.2.2.2.2.2, c9]) (by rw [ct_v.2.1, ch_v.2.1]) (by rw [ct_v.2.2.1, ch_v.2.2.1, c11, z0]) (by rw [ct_v.2.2.2.1, ch_v.2.2.2.1, c12]) (by rw [ch_v.1]; exact w3) (by rw [ch_v.2.2.2.2.1]; exact w10) (by rw [ch_v.2.1]; exact ar_add w6 g0 g1) (by rw [ch_v.2.2.1, z0]; exact ar_w w7) (by rw [ch_v.2.2.2.1]; exact ar_w w8) (by rw [ch_v.2.1, ch_v.2.2.1, ch_v.2.2.2.1]; exact ar_B gx) (hs60 _ _ _ _ _) (by rw [s8e _ _ _ _ _ _ 0 (z0 _).symm, z0]; exact hs.2) (by rw [em]; exact (ar_sub (by decide) hmf.1 hmf.2 hmf.1).1) (by rw [em]; exact (ar_sub (by decide) hmf.1 hmf.2 hmf.1).2)
    · rw [if_neg (by decide), if_neg (by decide)]
  · -- by the pool
    have hxp : ¬ x ≤ 0 := ar_pos x0 hx0
    have hfit : x ≤ mFree v P := by
      unfold pc at hpc
      by_cases z : x ≤ mFree v P
      · exact z
      · rw [if_neg z] at hpc; exact absurd hpc (by decide)
    have htk : ¬ v (iq (3 * p + r) 3) < v (iq (3 * p + r) 7) + x - v (iq (3 * p + r) 0) * mFree v P / 8 := by
      unfold pc at hpc
      rw [if_pos hfit] at hpc
      intro y
      rw [if_pos y] at hpc; exact absurd hpc (by decide)
    have hmx := ar_mx w3 htk
    generalize emx : i_max 0 (v (iq (3 * p + r) 7) + x - v (iq (3 * p + r) 0) * mFree v P / 8) = mx at *
    refine ⟨chT τ p r (v (iq (3 * p + r) 3) - mx) (v (iq (3 * p + r) 6) + g) (v (iq (3 * p + r) 7) + x) (τ 16 p r 12) (τ 16 p r 8) (τ 16 p r 9), chV v (3 * p + r) (v (iq (3 * p + r) 3) - mx) (v (iq (3 * p + r) 6) + g) (v (iq (3 * p + r) 7) + x) (v (iq (3 * p + r) 8)) (v (iq (3 * p + r) 10)) (v (iq (3 * p + r) 11)), fun σ d => ?_, fun σ => ?_, ?_, ct_n (by omega), fun i hi => clo _ _ _ _ _ _ i hi, ?_⟩
    · rw [hcl, if_neg st3, if_neg hxp, t_free h.1, b_s, fX3_addShared, fX3_limitWith, b_s, up_s, c11, c1, c4, emx, set_own, l_v, up_s, ds_n (show 16 ≠ 16 ∨ p ≠ p ∨ r ≠ r ∨ 11 ≠ 4 by omega), c11, set_own, l_v, b_s, up_s, ds_n (show 16 ≠ 16 ∨ p ≠ p ∨ r ≠ r ∨ 10 ≠ 11 by omega), ds_n (show 16 ≠ 16 ∨ p ≠ p ∨ r ≠ r ∨ 10 ≠ 4 by omega), c10, set_own, l_v]
      congr 3
      exact chT_eq (by rw [ds_n (by omega), ds_n (by omega), ds_s]) ds_s (by rw [ds_n (by omega), ds_s]) (by rw [ds_n (by omega), ds_n (by omega), ds_n (by omega)]) (by rw [ds_n (by omega), ds_n (by omega), ds_n (by omega)]) (by rw [ds_n (by omega), ds_n (by omega), ds_n (by omega)]) (fun K p' r' k hk => by rw [ds_n (by omega), ds_n (by omega), ds_n (by omega)])
    · rw [hrf, if_pos rfl, r65, if_neg (by decide)]
      congr 3
      exact chV_eq (by rw [up_n _ _ (nqq 3 7 (by omega) (by omega) (by omega)), up_n _ _ (nqq 3 6 (by omega) (by omega) (by omega)), up_s]) (by rw [up_n _ _ (nqq 6 7 (by omega) (by omega) (by omega)), up_s, up_n _ _ (nqq 6 3 (by omega) (by omega) (by omega))]) (by rw [up_s, up_n _ _ (nqq 7 3 (by omega) (by omega) (by omega))]) (by rw [up_n _ _ (nqq 8 7 (by omega) (by omega) (by omega)), up_n _ _ (nqq 8 6 (by omega) (by omega) (by omega)), up_n _ _ (nqq 8 3 (by omega) (by omega) (by omega))]) (by rw [up_n _ _ (nqq 10 7 (by omega) (by omega) (by omega)), up_n _ _ (nqq 10 6 (by omega) (by omega) (by omega)), up_n _ _ (nqq 10 3 (by omega) (by omega) (by omega))]) (by rw [up_n _ _ (nqq 11 7 (by omega) (by omega) (by omega)), up_n _ _ (nqq 11 6 (by omega) (by omega) (by omega)), up_n _ _ (nqq 11 3 (by omega) (by omega) (by omega))]) (fun i a3 a6 a7 a8 a10 a11 => by rw [up_n _ _ a7, up_n _ _ a6, up_n _ _ a3])
    · have em := mfr (v (iq (3 * p + r) 3) - mx) (v (iq (3 * p + r) 6) + g) (v (iq (3 * p + r) 7) + x) (v (iq (3 * p + r) 8)) (v (iq (3 * p + r) 10)) (v (iq (3 * p + r) 11)) x rfl
      refine RC_of h hp hr h12 (fun K p' r' k hk => ct_n hk) (fun i a3 a6 a7 a8 a10 a11 => ch_n a3 a6 a7 a8 a10 a11) (by rw [ct_v.1, ch_v.1]) (by rw [ct_v.2.2.2.2.1, ch_v.2.2.2.2.1, c8]) (by rw [ct_v.2.2.2.2.2, ch_v.2.2.2.2.2, c9]) (by rw [ct_v.2.1, ch_v.2.1]) (by rw [ct_v.2.2.1, ch_v.2.2.1]) (by rw [ct_v.2.2.2.1, ch_v.2.2.2.1, c12]) (by rw [ch_v.1]; exact ar_t w3 hmx.1 hmx.2) (by rw [ch_v.2.2.2.2.1]; exact w10) (by rw [ch_v.2.1]; exact ar_add w6 g0 g1) (by rw [ch_v.2.2.1]; exact ar_add w7 x0 x1) (by rw [ch_v.2.2.2.1]; exact ar_w w8) (by rw [ch_v.2.1, ch_v.2.2.1, ch_v.2.2.2.1]; exact ar_B gx) (hs60 _ _ _ _ _) (by rw [s8e _ _ _ _ _ _ 0 (z0 _).symm, z0]; exact hs.2) (by rw [em]; exact (ar_sub x0 hfit hmf.2 hmf.1).1) (by rw [em]; exact (ar_sub x0 hfit hmf.2 hmf.1).2)
    · rw [if_neg (by decide), if_pos rfl, emx]
  · -- by the headroom
    have hs8 : 0 ≤ s3 v p 8 ∧ s3 v p 8 ≤ 64 := ar_64 (ar_s3 (hwq (3 * p) (by omega)).2.2.2.2.2.2.2.2.1 (hwq (3 * p + 1) (by omega)).2.2.2.2.2.2.2.2.1 (hwq (3 * p + 2) (by omega)).2.2.2.2.2.2.2.2.1) hs.2 (h.1.2.2.2.2.2.2.1 p hp6).2.1
    refine ⟨chT τ p r (τ 16 p r 4) (v (iq (3 * p + r) 6) + g) (τ 16 p r 11) (v (iq (3 * p + r) 8) + x) 1 (v (iq (3 * p + r) 11) + (1 - v (iq (3 * p + r) 10))), chV v (3 * p + r) (v (iq (3 * p + r) 3)) (v (iq (3 * p + r) 6) + g) (v (iq (3 * p + r) 7)) (v (iq (3 * p + r) 8) + x) 1 (v (iq (3 * p + r) 11) + (1 - v (iq (3 * p + r) 10))), fun σ d => ?_, fun σ => ?_, ?_, ct_n (by omega), fun i hi => clo _ _ _ _ _ _ i hi, ?_⟩
    · rw [hcl, if_pos rfl, set_own, l_v, fX3_pause, up_s, ds_n (show 16 ≠ 16 ∨ p ≠ p ∨ r ≠ r ∨ 8 ≠ 12 by omega), c8]
      rcases x_z_or w10 with y | y
      · rw [y, if_pos rfl, set_own, l_v, up_s, ds_n (show 16 ≠ 16 ∨ p ≠ p ∨ r ≠ r ∨ 9 ≠ 8 by omega), ds_n (show 16 ≠ 16 ∨ p ≠ p ∨ r ≠ r ∨ 9 ≠ 12 by omega), c9, set_own, l_v, b_s, up_s, ds_n (show 16 ≠ 16 ∨ p ≠ p ∨ r ≠ r ∨ 10 ≠ 9 by omega), ds_n (show 16 ≠ 16 ∨ p ≠ p ∨ r ≠ r ∨ 10 ≠ 8 by omega), ds_n (show 16 ≠ 16 ∨ p ≠ p ∨ r ≠ r ∨ 10 ≠ 12 by omega), c10, set_own, l_v]
        congr 3
        exact chT_eq (by rw [ds_n (by omega), ds_n (by omega), ds_n (by omega), ds_n (by omega)]) ds_s (by rw [ds_n (by omega), ds_n (by omega), ds_n (by omega), ds_n (by omega)]) (by rw [ds_n (by omega), ds_n (by omega), ds_n (by omega), ds_s]) (by rw [ds_n (by omega), ds_n (by omega), ds_s]) (by rw [ds_n (by omega), ds_s]; exact ar_p0 _) (fun K p' r' k hk => by rw [ds_n (by omega), ds_n (by omega), ds_n (by omega), ds_n (by omega)])
      · rw [y, if_neg (by decide), b_s, up_s, ds_n (show 16 ≠ 16 ∨ p ≠ p ∨ r ≠ r ∨ 10 ≠ 12 by omega), c10, set_own, l_v]
        congr 3
        exact chT_eq (by rw [ds_n (by omega), ds_n (by omega)]) ds_s (by rw [ds_n (by omega), ds_n (by omega)]) (by rw [ds_n (by omega), ds_s]) (by rw [ds_n (by omega), ds_n (by omega), c8, y]) (by rw [ds_n (by omega), ds_n (by omega), c9]; exact ar_p1 _) (fun K p' r' k hk => by rw [ds_n (by omega), ds_n (by omega)])
    · rw [hrf, if_neg (by decide), r65, if_pos rfl]
      congr 3
      exact chV_eq (by rw [up_n _ _ (nqq 3 10 (by omega) (by omega) (by omega)), up_n _ _ (nqq 3 11 (by omega) (by omega) (by omega)), up_n _ _ (nqq 3 8 (by omega) (by omega) (by omega)), up_n _ _ (nqq 3 6 (by omega) (by omega) (by omega))]) (by rw [up_n _ _ (nqq 6 10 (by omega) (by omega) (by omega)), up_n _ _ (nqq 6 11 (by omega) (by omega) (by omega)), up_n _ _ (nqq 6 8 (by omega) (by omega) (by omega)), up_s]) (by rw [up_n _ _ (nqq 7 10 (by omega) (by omega) (by omega)), up_n _ _ (nqq 7 11 (by omega) (by omega) (by omega)), up_n _ _ (nqq 7 8 (by omega) (by omega) (by omega)), up_n _ _ (nqq 7 6 (by omega) (by omega) (by omega))]) (by rw [up_n _ _ (nqq 8 10 (by omega) (by omega) (by omega)), up_n _ _ (nqq 8 11 (by omega) (by omega) (by omega)), up_s]) (up_s _ _ _) (by rw [up_n _ _ (nqq 11 10 (by omega) (by omega) (by omega)), up_s]) (fun i a3 a6 a7 a8 a10 a11 => by rw [up_n _ _ a10, up_n _ _ a11, up_n _ _ a8, up_n _ _ a6])
    · have em := mfr (v (iq (3 * p + r) 3)) (v (iq (3 * p + r) 6) + g) (v (iq (3 * p + r) 7)) (v (iq (3 * p + r) 8) + x) 1 (v (iq (3 * p + r) 11) + (1 - v (iq (3 * p + r) 10))) 0 (z0 _).symm
      refine RC_of h hp hr h12 (fun K p' r' k hk => ct_n hk) (fun i a3 a6 a7 a8 a10 a11 => ch_n a3 a6 a7 a8 a10 a11) (by rw [ct_v.1, ch_v.1, c4]) (by rw [ct_v.2.2.2.2.1, ch_v.2.2.2.2.1]) (by rw [ct_v.2.2.2.2.2, ch_v.2.2.2.2.2]) (by rw [ct_v.2.1, ch_v.2.1]) (by rw [ct_v.2.2.1, ch_v.2.2.1, c11]) (by rw [ct_v.2.2.2.1, ch_v.2.2.2.1]) (by rw [ch_v.1]; exact w3) (by rw [ch_v.2.2.2.2.1]; rfl) (by rw [ch_v.2.1]; exact ar_add w6 g0 g1) (by rw [ch_v.2.2.1]; exact ar_w w7) (by rw [ch_v.2.2.2.1]; exact ar_add w8 x0 x1) (by rw [ch_v.2.1, ch_v.2.2.1, ch_v.2.2.2.1]; exact ar_C gx) (hs60 _ _ _ _ _) (by
        rw [s8e _ _ _ _ _ _ x rfl]
        exact ar_H hh x0 x1 hs8 (h.1.2.2.2.2.2.2.1 p hp6).2.1) (by rw [em]; exact (ar_sub (by decide) hmf.1 hmf.2 hmf.1).1) (by rw [em]; exact (ar_sub (by decide) hmf.1 hmf.2 hmf.1).2)
    · rw [if_pos rfl]
