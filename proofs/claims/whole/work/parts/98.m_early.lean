/-! ===== the stages ===== -/
def fg (v : xV) (p : Nat) : Int32 := v (ip p 0) + v (ip p 2) - s3 v p 6
def rs (v : xV) (p : Nat) (x : Int32) : Int32 := x - i_min x (fg v p)
def pc (v : xV) (q : Nat) (a F : Int32) : Int32 := if a ≤ F then (if v (iq q 3) < v (iq q 7) + a - v (iq q 0) * F / 8 then 3 else 0) else 2
/-- stage 1 or 2, or 0 -/
def er (v : xV) (P p q : Nat) (x : Int32) : Int32 := if rs v p x = 0 then 1 else if pc v q (rs v p x) (mFree v P) = 0 then 2 else 0
def ec (v : xV) (P p q : Nat) (x : Int32) (c : Nat → Int32) : Nat → Int32 := if rs v p x = 0 then c else if pc v q (rs v p x) (mFree v P) = 0 then va_up c 1 1 else va_up (va_up c 1 1) 2 (pc v q (rs v p x) (mFree v P))
theorem setK (σ : xS) (v : xV) (K j : Nat) (y : Int32) (h : K ≠ 31) : x_set (x_row σ 5 31 0 0 v) 5 K 0 0 j y = x_row (x_row σ 5 K 0 0 (va_up (σ 5 K 0 0) j y)) 5 31 0 0 v := by
  rw [← row_row _ _ _ _ h]
  unfold x_set
  rw [row_K _ _ h]
theorem rowK_rowK (σ : xS) (K : Nat) (f g : Nat → Int32) : x_row (x_row σ 5 K 0 0 f) 5 K 0 0 g = x_row σ 5 K 0 0 g := by
  unfold x_row
  simp only [up_s, up_up]
theorem imin_sub {x g : Int32} : (i_min x g = x) ↔ x - i_min x g = 0 := by
  generalize i_min x g = m
  constructor
  · intro h; rw [h]; grind
  · intro h; grind
theorem m_early {σ : xS} {v : xV} {P p r : Nat} {x : Int32} (hP : v 1 = nI P) (h6 : P ≤ 6) (hp : p < 6) (hr : r < 3) : fX6_early (nI (3 * p + r)) x (x_row σ 5 31 0 0 v) = some (er v P p (3 * p + r) x, x_row (x_row σ 5 36 0 0 (ec v P p (3 * p + r) x (σ 5 36 0 0))) 5 31 0 0 v) := by
  have hPr : ∀ σ', (x_row σ' 5 31 0 0 v) 5 31 0 0 1 = nI P := fun σ' => by rw [row_rd]; exact hP
  have hv : ∀ σ', vv (x_row σ' 5 31 0 0 v) = v := fun σ' => row_rd _ _
  rw [fX6_early, div3 (by omega), show (3 * p + r) / 3 = p by omega, m_freeOf hp, b_s, hv, m_least, b_s]
  show (if i_min x (fg v p) = x then _ else _) = _
  rw [er, ec]
  by_cases z : i_min x (fg v p) = x
  · have z' : rs v p x = 0 := imin_sub.mp z
    rw [if_pos z, if_pos z', if_pos z', rowK_id]
  · have z' : ¬ rs v p x = 0 := fun y => z (imin_sub.mpr y)
    rw [if_neg z, if_neg z', if_neg z', setK _ _ _ _ _ (by decide), l_v, l_v, m_free (hPr _) h6, b_s, hv]
    show (if rs v p x ≤ mFree v P then _ else _) = _
    by_cases y : rs v p x ≤ mFree v P
    · rw [if_pos y, m_queue_7, b_s, in_nI (by omega) (by omega), g_t, m_limit (q := 3 * p + r) (hPr _) h6 (by omega), b_s, hv, nI_clamp (by omega), row_rd, l_v, m_queue_3, b_s, in_nI (by omega) (by omega), g_t, nI_clamp (by omega), row_rd]
      show (if v (iq (3 * p + r) 3) < v (iq (3 * p + r) 7) + rs v p x - v (iq (3 * p + r) 0) * mFree v P / 8 then _ else _) = _
      by_cases w : v (iq (3 * p + r) 3) < v (iq (3 * p + r) 7) + rs v p x - v (iq (3 * p + r) 0) * mFree v P / 8
      · have hpc : pc v (3 * p + r) (rs v p x) (mFree v P) = 3 := by rw [pc, if_pos y, if_pos w]
        rw [if_pos w, hpc, if_neg (by decide), if_neg (by decide), setK _ _ _ _ _ (by decide), l_v, rowK_rd, rowK_rowK]
      · have hpc : pc v (3 * p + r) (rs v p x) (mFree v P) = 0 := by rw [pc, if_pos y, if_neg w]
        rw [if_neg w, hpc, if_pos rfl, if_pos rfl]
    · have hpc : pc v (3 * p + r) (rs v p x) (mFree v P) = 2 := by rw [pc, if_neg y]
      rw [if_neg y, hpc, if_neg (by decide), if_neg (by decide), setK _ _ _ _ _ (by decide), l_v, rowK_rd, rowK_rowK]
theorem c_pref {σ : xS} {τ : xD} {v : xV} {d p r : Nat} {a F : Int32} (hQ : cfQ τ v) (hp : p < 6) (hr : r < 3) : fX3_poolRefusal d p r a F (va_up σ d τ) = some (pc v (3 * p + r) a F, va_up σ d τ) := by
  rw [fX3_poolRefusal, pc]
  by_cases z : a ≤ F
  · rw [if_pos z, if_pos z, fX3_limitWith, b_s, up_s, hQ p r 1 0 hp hr rfl, hQ p r 11 7 hp hr rfl, hQ p r 4 3 hp hr rfl]
    split <;> rfl
  · rw [if_neg z, if_neg z]
-- lessened counts
theorem ls_s3 {v : xV} {p r f : Nat} {x : Int32} (hr : r < 3) (hf : f = 6 ∨ f = 7 ∨ f = 8) : s3 (lsV v (3 * p + r) x) p f = s3 v p f - (v (iq (3 * p + r) f) - lsV v (3 * p + r) x (iq (3 * p + r) f)) := by
  have n : ∀ r', r' < 3 → r' ≠ r → lsV v (3 * p + r) x (iq (3 * p + r') f) = v (iq (3 * p + r') f) := fun r' h1 h2 => ls_n ⟨by simp only [iq]; omega, by simp only [iq]; omega, by simp only [iq]; omega⟩
  simp only [s3]
  rcases (show r = 0 ∨ r = 1 ∨ r = 2 by omega) with rfl | rfl | rfl
  · rw [n 1 (by omega) (by omega), n 2 (by omega) (by omega)]
    show lsV v (3 * p + 0) x (iq (3 * p + 0) f) + _ + _ = v (iq (3 * p + 0) f) + _ + _ - _
    grind
  · have n0 : lsV v (3 * p + 1) x (iq (3 * p) f) = v (iq (3 * p) f) := n 0 (by omega) (by omega)
    rw [n0, n 2 (by omega) (by omega)]
    grind
  · have n0 : lsV v (3 * p + 2) x (iq (3 * p) f) = v (iq (3 * p) f) := n 0 (by omega) (by omega)
    rw [n0, n 1 (by omega) (by omega)]
    grind
theorem ls_lo {v : xV} {q : Nat} {x : Int32} {m : Nat} (h : m < 160) : lsV v q x m = v m := ls_n ⟨by simp only [iq]; omega, by simp only [iq]; omega, by simp only [iq]; omega⟩
theorem ls_fg {v : xV} {p r : Nat} {x : Int32} (hp : p < 6) (hr : r < 3) : fg (lsV v (3 * p + r) x) p = fg v p + le6 v (3 * p + r) x := by
  unfold fg
  rw [ls_lo (by simp only [ip]; omega), ls_lo (by simp only [ip]; omega), ls_s3 hr (by omega), ls_6]
  grind
theorem ls_free {v : xV} {p r P : Nat} {x : Int32} (hp : p < P) (h6 : P ≤ 6) (hr : r < 3) : mFree (lsV v (3 * p + r) x) P = mFree v P + le7 v (3 * p + r) x := by
  rw [mFree_up (v := v) (v' := lsV v (3 * p + r) x) hp (ls_lo (by omega)) (fun p' f h1 h2 h3 => ls_lo (by simp only [ip]; omega)) (fun p' r' h1 h2 h3 => ls_n ⟨by simp only [iq]; omega, by simp only [iq]; omega, by simp only [iq]; omega⟩), ls_lo (by simp only [ip]; omega), ls_lo (by simp only [ip]; omega), ls_lo (by simp only [ip]; omega), ls_s3 hr (by omega), ls_7]
  grind
/-- j packets less at queue q's end, m packets were there -/
def lch (v : xV) (q m : Nat) (w : xV) : Nat → xV
  | 0 => w
  | j + 1 => lsV (lch v q m w j) q (v (ik (Sl v q (m - 1 - j)) 1))
theorem lch_n {v w : xV} {q m i : Nat} (h : i ≠ 160 + 16 * q + 6 ∧ i ≠ 160 + 16 * q + 7 ∧ i ≠ 160 + 16 * q + 8) : ∀ j, lch v q m w j i = w i
  | 0 => rfl
  | j + 1 => by rw [lch, ls_n h, lch_n h j]
/-- a queue's counts are those of its first m packets -/
def cnt (v w : xV) (q m : Nat) : Prop := rg (w (iq q 6)) 0 128 ∧ rg (w (iq q 7)) 0 128 ∧ rg (w (iq q 8)) 0 128 ∧ w (iq q 6) + w (iq q 7) + w (iq q 8) = nI (nsum (fun i => Sz v (Sl v q i)) m) ∧ nsum (fun i => Sz v (Sl v q i)) m ≤ 128
theorem cnt_of {τ : xD} {v : xV} {b C P p q : Nat} (h : RY τ v b C P p) (hq : q < 18) : cnt v v q (Ln v q) := by
  obtain ⟨-, -, -, -, -, -, w6, w7, w8, -⟩ := h.2.2.2.2.2.2.2.1 q hq
  exact ⟨w6, w7, w8, h.2.2.2.2.2.2.2.2.2.2.1.2.2.2.2.2.2.2.2.2 q hq⟩
theorem cnt_step {v w : xV} {C q m : Nat} (hM : MX v C) (hq : q < 18) (hm : m + 1 ≤ Ln v q) (h : cnt v w q (m + 1)) : (rg (le6 w q (v (ik (Sl v q m) 1))) 0 (w (iq q 6)) ∧ rg (le7 w q (v (ik (Sl v q m) 1))) 0 (w (iq q 7)) ∧ rg (le8 w q (v (ik (Sl v q m) 1))) 0 (w (iq q 8)) ∧ le6 w q (v (ik (Sl v q m) 1)) = v (ik (Sl v q m) 1) - le8 w q (v (ik (Sl v q m) 1)) - le7 w q (v (ik (Sl v q m) 1))) ∧ cnt v (lsV w q (v (ik (Sl v q m) 1))) q m := by
  obtain ⟨w6, w7, w8, s1, s2⟩ := h
  have e := hM.2.1 q m hq (by omega)
  obtain ⟨a1, a2, a3, -⟩ := hM.2.2.2.2.1 _ e.2.1 e.2.2
  rw [nsum] at s1 s2
  have hle := le_sum (v := w) (q := q) (x := v (ik (Sl v q m) 1)) w6 w7 w8 (by rw [a1]; exact nI_pos' (by omega)) (by rw [a1, s1]; exact nI_le (by omega) (by omega)) (by rw [s1]; exact nI_le (b := 128) s2 (by omega))
  refine ⟨hle, ?_⟩
  obtain ⟨l6, l7, l8, le⟩ := hle
  refine ⟨?_, ?_, ?_, ?_, by omega⟩
  · rw [ls_6]; unfold rg at *; grind
  · rw [ls_7]; unfold rg at *; grind
  · rw [ls_8]; unfold rg at *; grind
  · rw [ls_6, ls_7, ls_8]
    have : w (iq q 6) - le6 w q (v (ik (Sl v q m) 1)) + (w (iq q 7) - le7 w q (v (ik (Sl v q m) 1))) + (w (iq q 8) - le8 w q (v (ik (Sl v q m) 1))) = w (iq q 6) + w (iq q 7) + w (iq q 8) - v (ik (Sl v q m) 1) := by rw [le]; grind
    rw [this, s1, a1, nI_subN (by omega), Nat.add_sub_cancel]
theorem cnt_lch {v w : xV} {C q m : Nat} (hM : MX v C) (hq : q < 18) (hm : m ≤ Ln v q) (h : cnt v w q m) : ∀ j, j ≤ m → cnt v (lch v q m w j) q (m - j)
  | 0, _ => h
  | j + 1, hj => by
    have ih := cnt_lch hM hq hm h j (by omega)
    obtain ⟨M, e⟩ : ∃ M, m - j = M + 1 := ⟨m - j - 1, by omega⟩
    rw [e] at ih
    have := (cnt_step hM hq (by omega) ih).2
    rw [lch, show m - 1 - j = M by omega, show m - (j + 1) = M by omega]
    exact this
/-- one queue's packets are tried from its end -/
theorem vic_q {τ : xD} {v : xV} {b C P p r r' : Nat} {x a4 a5 : Int32} (h : RW τ v b C P) (hp : p < P) (hr : r < 3) (hr' : r' < 3) (hrr : r < r') : ∀ (m i t n1 n2 : Nat) (w : xV), i + m = Ln v (3 * p + r') → cnt v w (3 * p + r') m → (∀ f, f < 160 → w f = v f) → (∀ f, f < 16 → w (iq (3 * p + r) f) = v (iq (3 * p + r) f)) → (∀ f, 448 ≤ f → w f = v f) → m < n1 → m + 1 < n2 → (∃ j, j < m ∧ ¬ er (lch v (3 * p + r') m w (j + 1)) P p (3 * p + r) x = 0 ∧ (∀ σ d k, BX0_victimsNeeded_56 d d p d p r x (nI r') d p r' k n1 (fg w p) (mFree w P) (nI t) (w (iq (3 * p + r') 8)) (w (iq (3 * p + r') 7)) (if m = 0 then -1 else cellAt v (3 * p + r') (m - 1)) (nI i) (va_up σ d τ) = some (nI (t + j + 1), va_up σ d τ)) ∧ (∀ σ c k, ∃ c', (∀ l, l ≠ 1 → l ≠ 2 → c' l = c l) ∧ BX6_pushes_110 (nI (3 * p + r)) x (nI p) a4 a5 (nI (3 * p + r')) k n2 (nI t) 0 (nI m + (-1)) (x_row (x_row σ 5 36 0 0 c) 5 31 0 0 w) = k (nI (t + j + 1)) 1 (nI (3 * p + r') + (-1)) (x_row (x_row σ 5 36 0 0 c') 5 31 0 0 (lch v (3 * p + r') m w (j + 1))))) ∨ ((∀ σ d k, BX0_victimsNeeded_56 d d p d p r x (nI r') d p r' k n1 (fg w p) (mFree w P) (nI t) (w (iq (3 * p + r') 8)) (w (iq (3 * p + r') 7)) (if m = 0 then -1 else cellAt v (3 * p + r') (m - 1)) (nI i) (va_up σ d τ) = k (fg (lch v (3 * p + r') m w m) p) (mFree (lch v (3 * p + r') m w m) P) (nI (t + m)) (nI r' + (-1)) (va_up σ d τ)) ∧ (∀ σ c k, ∃ c', (∀ l, l ≠ 1 → l ≠ 2 → c' l = c l) ∧ BX6_pushes_110 (nI (3 * p + r)) x (nI p) a4 a5 (nI (3 * p + r')) k n2 (nI t) 0 (nI m + (-1)) (x_row (x_row σ 5 36 0 0 c) 5 31 0 0 w) = k (nI (t + m)) 0 (nI (3 * p + r') + (-1)) (x_row (x_row σ 5 36 0 0 c') 5 31 0 0 (lch v (3 * p + r') m w m)))) := by
  have h6 := h.1.1.2.2.2.2.2.1
  have hp6 : p < 6 := by omega
  have hM := MX_of h.1.2.2.2.2.2.2.2.2.2.2.1
  have hX := h.1.2.2.2.2.2.2.2.2.2.2.2.1
  have hQ := h.1.2.1
  have hC := h.1.1.2.2.1
  have l15 := len15 (RY_of h p) hp hr'
  intro m
  induction m with
  | zero =>
    intro i t n1 n2 w hi hc hw hwq hwh h1 h2
    right
    obtain ⟨n1, rfl⟩ : ∃ n, n1 = n + 1 := ⟨n1 - 1, by omega⟩
    obtain ⟨n2, rfl⟩ : ∃ n, n2 = n + 1 := ⟨n2 - 1, by omega⟩
    refine ⟨fun σ d k => ?_, fun σ c k => ⟨c, fun _ _ _ => rfl, ?_⟩⟩
    · rw [BX0_victimsNeeded_56, up_s, l15.1, if_pos (nI_le (by omega) (by omega)), l_v]
      rfl
    · rw [BX6_pushes_110, if_pos (by decide), l_v]
      rfl
  | succ m ih =>
    intro i t n1 n2 w hi hc hw hwq hwh h1 h2
    obtain ⟨n1, rfl⟩ : ∃ n, n1 = n + 1 := ⟨n1 - 1, by omega⟩
    obtain ⟨n2, rfl⟩ : ∃ n, n2 = n + 1 := ⟨n2 - 1, by omega⟩
    have hq' : 3 * p + r' < 18 := by omega
    have hsl := hM.2.1 (3 * p + r') m hq' (by omega)
    have hkk := hM.2.2.2.2.1 _ hsl.2.1 hsl.2.2
    have hF : Fs v (Sl v (3 * p + r') m) 0 < 128 := by
      have := hkk.2.2.2.2.2.2.1 0 (by omega)
      omega
    have e6 : τ 6 0 0 (Fs v (Sl v (3 * p + r') m) 0) = v (ik (Sl v (3 * p + r') m) 1) := (hX.2.1 _ hsl.2.1 hsl.2.2).2.1
    have e8 : τ 8 0 0 (Fs v (Sl v (3 * p + r') m) 0) = if m = 0 then -1 else cellAt v (3 * p + r') (m - 1) := ((hX.1 p r' hp6 hr').2.2 m (by omega)).2
    obtain ⟨⟨l6, l7, l8, le⟩, hc'⟩ := cnt_step hM hq' (by omega) hc
    have hv1 : w 1 = nI P := by rw [hw 1 (by omega)]; exact h.1.1.2.2.2.1
    -- behind one packet
    have efg := ls_fg (v := w) (p := p) (r := r') (x := v (ik (Sl v (3 * p + r') m) 1)) hp6 hr'
    have efr := ls_free (v := w) (p := p) (r := r') (P := P) (x := v (ik (Sl v (3 * p + r') m) 1)) hp h6 hr'
    have w1q : ∀ f, f < 16 → lsV w (3 * p + r') (v (ik (Sl v (3 * p + r') m) 1)) (iq (3 * p + r) f) = v (iq (3 * p + r) f) := fun f hf => by
      rw [ls_n ⟨by simp only [iq]; omega, by simp only [iq]; omega, by simp only [iq]; omega⟩, hwq f hf]
    have w1l : ∀ f, f < 160 → lsV w (3 * p + r') (v (ik (Sl v (3 * p + r') m) 1)) f = v f := fun f hf => by rw [ls_lo hf, hw f hf]
    have w1h : ∀ f, 448 ≤ f → lsV w (3 * p + r') (v (ik (Sl v (3 * p + r') m) 1)) f = v f := fun f hf => by
      rw [ls_n ⟨by simp only [iq]; omega, by simp only [iq]; omega, by simp only [iq]; omega⟩, hwh f hf]
    have epc : ∀ a F, pc (lsV w (3 * p + r') (v (ik (Sl v (3 * p + r') m) 1))) (3 * p + r) a F = pc v (3 * p + r) a F := fun a F => by
      unfold pc; rw [w1q 3 (by omega), w1q 7 (by omega), w1q 0 (by omega)]
    have hcl : ∀ σ d k, BX0_victimsNeeded_56 d d p d p r x (nI r') d p r' k (n1 + 1) (fg w p) (mFree w P) (nI t) (w (iq (3 * p + r') 8)) (w (iq (3 * p + r') 7)) (if m + 1 = 0 then -1 else cellAt v (3 * p + r') (m + 1 - 1)) (nI i) (va_up σ d τ) = if ¬ er (lsV w (3 * p + r') (v (ik (Sl v (3 * p + r') m) 1))) P p (3 * p + r) x = 0 then some (nI (t + 1), va_up σ d τ) else BX0_victimsNeeded_56 d d p d p r x (nI r') d p r' k n1 (fg (lsV w (3 * p + r') (v (ik (Sl v (3 * p + r') m) 1))) p) (mFree (lsV w (3 * p + r') (v (ik (Sl v (3 * p + r') m) 1))) P) (nI (t + 1)) (lsV w (3 * p + r') (v (ik (Sl v (3 * p + r') m) 1)) (iq (3 * p + r') 8)) (lsV w (3 * p + r') (v (ik (Sl v (3 * p + r') m) 1)) (iq (3 * p + r') 7)) (if m = 0 then -1 else cellAt v (3 * p + r') (m - 1)) (nI (i + 1)) (va_up σ d τ) := fun σ d k => by
      rw [if_neg (by omega), Nat.add_sub_cancel, cellAt_in (by omega), BX0_victimsNeeded_56, up_s, l15.1, if_neg (nI_ge (by omega) (by omega)), c_size hF, b_s, up_s, e6]
      simp only [l_v, nI_1]
      show (if x - i_min x (fg w p + (v (ik (Sl v (3 * p + r') m) 1) - le8 w (3 * p + r') (v (ik (Sl v (3 * p + r') m) 1)) - le7 w (3 * p + r') (v (ik (Sl v (3 * p + r') m) 1)))) = 0 then _ else x_b (fX3_poolRefusal d p r (x - i_min x (fg w p + (v (ik (Sl v (3 * p + r') m) 1) - le8 w (3 * p + r') (v (ik (Sl v (3 * p + r') m) 1)) - le7 w (3 * p + r') (v (ik (Sl v (3 * p + r') m) 1))))) (mFree w P + le7 w (3 * p + r') (v (ik (Sl v (3 * p + r') m) 1))) (va_up σ d τ)) fun z17 s17 => if z17 = 0 then some (nI (t + 1), s17) else x_b (fX1_packetAhead d (nI (Fs v (Sl v (3 * p + r') m) 0)) s17) fun z18 s18 => BX0_victimsNeeded_56 d d p d p r x (nI r') d p r' k n1 (fg w p + (v (ik (Sl v (3 * p + r') m) 1) - le8 w (3 * p + r') (v (ik (Sl v (3 * p + r') m) 1)) - le7 w (3 * p + r') (v (ik (Sl v (3 * p + r') m) 1)))) (mFree w P + le7 w (3 * p + r') (v (ik (Sl v (3 * p + r') m) 1))) (nI (t + 1)) (w (iq (3 * p + r') 8) - le8 w (3 * p + r') (v (ik (Sl v (3 * p + r') m) 1))) (w (iq (3 * p + r') 7) - le7 w (3 * p + r') (v (ik (Sl v (3 * p + r') m) 1))) z18 (nI (i + 1)) s18) = _
      rw [← le, ← efg, ← efr, c_pref hQ hp6 hr, b_s, c_ahead hF, b_s, up_s, e8, ← ls_8, ← ls_7, ← epc]
      show (if rs (lsV w (3 * p + r') (v (ik (Sl v (3 * p + r') m) 1))) p x = 0 then _ else _) = _
      rw [er]
      by_cases z : rs (lsV w (3 * p + r') (v (ik (Sl v (3 * p + r') m) 1))) p x = 0
      · rw [if_pos z, if_pos z, if_pos (by decide)]
      · rw [if_neg z, if_neg z]
        show (if pc (lsV w (3 * p + r') (v (ik (Sl v (3 * p + r') m) 1))) (3 * p + r) (rs (lsV w (3 * p + r') (v (ik (Sl v (3 * p + r') m) 1))) p x) (mFree (lsV w (3 * p + r') (v (ik (Sl v (3 * p + r') m) 1))) P) = 0 then _ else _) = _
        by_cases y : pc (lsV w (3 * p + r') (v (ik (Sl v (3 * p + r') m) 1))) (3 * p + r) (rs (lsV w (3 * p + r') (v (ik (Sl v (3 * p + r') m) 1))) p x) (mFree (lsV w (3 * p + r') (v (ik (Sl v (3 * p + r') m) 1))) P) = 0
        · rw [if_pos y, if_pos y, if_pos (by decide)]
        · rw [if_neg y, if_neg y, if_neg (show ¬ ¬ (0 : Int32) = 0 by decide)]
    have hrf : ∀ σ c k, BX6_pushes_110 (nI (3 * p + r)) x (nI p) a4 a5 (nI (3 * p + r')) k (n2 + 1) (nI t) 0 (nI (m + 1) + (-1)) (x_row (x_row σ 5 36 0 0 c) 5 31 0 0 w) = BX6_pushes_110 (nI (3 * p + r)) x (nI p) a4 a5 (nI (3 * p + r')) k n2 (nI (t + 1)) (if ¬ er (lsV w (3 * p + r') (v (ik (Sl v (3 * p + r') m) 1))) P p (3 * p + r) x = 0 then 1 else 0) (nI m + (-1)) (x_row (x_row σ 5 36 0 0 (ec (lsV w (3 * p + r') (v (ik (Sl v (3 * p + r') m) 1))) P p (3 * p + r) x c)) 5 31 0 0 (lsV w (3 * p + r') (v (ik (Sl v (3 * p + r') m) 1)))) := fun σ c k => by
      have e1 : w (448 + 128 * (3 * p + r') + m) = nI (Sl v (3 * p + r') m) := by rw [hwh _ (by omega)]; exact hsl.1
      have e2 : w (2752 + 28 * Sl v (3 * p + r') m + 1) = v (ik (Sl v (3 * p + r') m) 1) := hwh _ (by omega)
      have hv1' : lsV w (3 * p + r') (v (ik (Sl v (3 * p + r') m) 1)) 1 = nI P := by rw [ls_lo (by omega)]; exact hv1
      rw [BX6_pushes_110, pk_m1, if_neg (nI_nn (by omega)), if_pos rfl, m_entry, b_s, in_nI (by omega) (by omega), g_t, nI_clamp (by omega), row_rd, e1, m_packet_1, b_s, in_nI (by omega) (by omega), g_t, nI_clamp (by omega), row_rd, e2, m_lessens hq', b_s, l_v, nI_1, m_early hv1' h6 hp6 hr, b_s, rowK_rd, rowK_rowK]
      by_cases z : er (lsV w (3 * p + r') (v (ik (Sl v (3 * p + r') m) 1))) P p (3 * p + r) x = 0
      · rw [z, if_pos (by decide), l_v, if_neg (by simp)]
      · rw [if_neg (by
          unfold er at z ⊢
          by_cases a : rs (lsV w (3 * p + r') (v (ik (Sl v (3 * p + r') m) 1))) p x = 0
          · rw [if_pos a]; decide
          · rw [if_neg a] at z ⊢
            by_cases b : pc (lsV w (3 * p + r') (v (ik (Sl v (3 * p + r') m) 1))) (3 * p + r) (rs (lsV w (3 * p + r') (v (ik (Sl v (3 * p + r') m) 1))) p x) (mFree (lsV w (3 * p + r') (v (ik (Sl v (3 * p + r') m) 1))) P) = 0
            · rw [if_pos b]; decide
            · rw [if_neg b] at z; exact absurd rfl z), l_v, if_pos z]
    have hec : ∀ c l, l ≠ 1 → l ≠ 2 → ec (lsV w (3 * p + r') (v (ik (Sl v (3 * p + r') m) 1))) P p (3 * p + r) x c l = c l := fun c l a1 a2 => by
      unfold ec
      split
      · rfl
      · split
        · rw [up_n _ _ a1]
        · rw [up_n _ _ a2, up_n _ _ a1]
    have sh : ∀ j, lch v (3 * p + r') m (lsV w (3 * p + r') (v (ik (Sl v (3 * p + r') m) 1))) j = lch v (3 * p + r') (m + 1) w (j + 1) := fun j => by
      induction j with
      | zero => rw [lch, lch, lch, Nat.add_sub_cancel, Nat.sub_zero]
      | succ j ihj => rw [lch, ihj, show lch v (3 * p + r') (m + 1) w (j + 1 + 1) = lsV (lch v (3 * p + r') (m + 1) w (j + 1)) (3 * p + r') (v (ik (Sl v (3 * p + r') (m + 1 - 1 - (j + 1))) 1)) from rfl, show m + 1 - 1 - (j + 1) = m - 1 - j by omega]
    by_cases z : er (lsV w (3 * p + r') (v (ik (Sl v (3 * p + r') m) 1))) P p (3 * p + r) x = 0
    · rcases ih (i + 1) (t + 1) n1 n2 _ (by omega) hc' w1l w1q w1h (by omega) (by omega) with ⟨j, j1, j2, j3, j4⟩ | ⟨j3, j4⟩
      · left
        refine ⟨j + 1, by omega, ?_, fun σ d k => ?_, fun σ c k => ?_⟩
        · rw [← sh]; exact j2
        · rw [hcl, if_neg (by simpa using z), j3, show t + 1 + j + 1 = t + (j + 1) + 1 by omega]
        · obtain ⟨c', q1, q2⟩ := j4 σ (ec (lsV w (3 * p + r') (v (ik (Sl v (3 * p + r') m) 1))) P p (3 * p + r) x c) k
          refine ⟨c', fun l a1 a2 => (q1 l a1 a2).trans (hec c l a1 a2), ?_⟩
          rw [hrf, if_neg (by simpa using z), q2, sh, show t + 1 + j + 1 = t + (j + 1) + 1 by omega]
      · right
        refine ⟨fun σ d k => ?_, fun σ c k => ?_⟩
        · rw [hcl, if_neg (by simpa using z), j3, sh, show t + 1 + m = t + (m + 1) by omega]
        · obtain ⟨c', q1, q2⟩ := j4 σ (ec (lsV w (3 * p + r') (v (ik (Sl v (3 * p + r') m) 1))) P p (3 * p + r) x c) k
          refine ⟨c', fun l a1 a2 => (q1 l a1 a2).trans (hec c l a1 a2), ?_⟩
          rw [hrf, if_neg (by simpa using z), q2, sh, show t + 1 + m = t + (m + 1) by omega]
    · left
      have e0 : lch v (3 * p + r') (m + 1) w (0 + 1) = lsV w (3 * p + r') (v (ik (Sl v (3 * p + r') m) 1)) := by rw [← sh]; rfl
      refine ⟨0, by omega, ?_, fun σ d k => ?_, fun σ c k => ⟨_, hec c, ?_⟩⟩
      · rw [e0]; exact z
      · rw [hcl, if_pos z]
      · obtain ⟨n2, rfl⟩ : ∃ n, n2 = n + 1 := ⟨n2 - 1, by omega⟩
        rw [hrf, if_pos z, e0, BX6_pushes_110]
        by_cases y : nI m + (-1) < 0
        · rw [if_pos y, l_v]
        · rw [if_neg y, if_neg (by decide), l_v]
