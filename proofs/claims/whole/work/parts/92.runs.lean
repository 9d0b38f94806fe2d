/-! ===== free runs ===== -/
/-- free cells in a row, from c on, of m cells -/
def rn (g : Nat → Bool) : Nat → Nat → Nat
  | 0, _ => 0
  | m + 1, c => if g c = true then rn g m (c + 1) + 1 else 0
/-- a run begins at c -/
def rst (g : Nat → Bool) (c : Nat) : Bool := g c && (decide (c = 0) || !(g (c - 1)))
theorem rn_le (g : Nat → Bool) : ∀ m c, rn g m c ≤ m
  | 0, _ => Nat.le_refl _
  | m + 1, c => by
    rw [rn]
    by_cases h : g c = true
    · rw [if_pos h]; have := rn_le g m (c + 1); omega
    · rw [if_neg h]; omega
theorem rn_pos {g : Nat → Bool} {C c : Nat} (hc : c < C) (h : rst g c = true) : 1 ≤ rn g (C - c) c := by
  obtain ⟨m, hm⟩ : ∃ m, C - c = m + 1 := ⟨C - c - 1, by omega⟩
  have hg : g c = true := by unfold rst at h; simp at h; exact h.1
  rw [hm, rn, if_pos hg]
  omega
theorem rn_free {g : Nat → Bool} : ∀ (m c j : Nat), j < rn g m c → g (c + j) = true
  | 0, c, j, h => by rw [rn] at h; omega
  | m + 1, c, j, h => by
    rw [rn] at h
    by_cases hg : g c = true
    · rw [if_pos hg] at h
      cases j with
      | zero => exact hg
      | succ j =>
        have := rn_free (g := g) m (c + 1) j (by omega)
        rwa [show c + 1 + j = c + (j + 1) by omega] at this
    · rw [if_neg hg] at h; omega
/-- the class's cells -/
def gC (τ : Nat → Nat → Nat → Nat → Int32) (g : Nat → Bool) (C : Nat) : Prop := τ 1 0 0 0 = nI C ∧ C ≤ 128 ∧ ∀ c, c < C → (τ 2 0 0 c = 0 ↔ g c = true)
/-- the reference's -/
def gM (v : Nat → Int32) (g : Nat → Bool) (C : Nat) : Prop := v 0 = nI C ∧ C ≤ 128 ∧ ∀ c, c < C → (v (6336 + c) = 0 ↔ g c = true)
theorem c_flen_loop {σ : xS} {d C : Nat} {g : Nat → Bool} (h : gC (σ d) g C) : ∀ (n m i a : Nat), i + m = C → m < n → BX1_freeLength_8 d n (nI a) (nI i) σ = some (nI (a + rn g m i), σ) := by
  obtain ⟨h0, h8, hg⟩ := h
  intro n
  induction n with
  | zero => intro m i a h1 h2; omega
  | succ n ih =>
    intro m i a h1 h2
    rw [BX1_freeLength_8, h0]
    cases m with
    | zero => rw [if_pos (nI_le (by omega) (by omega)), rn, Nat.add_zero]
    | succ m =>
      rw [if_neg (nI_ge (by omega) (by omega)), in_nI (by omega) (by omega), g_t, nI_clamp (by omega), rn]
      by_cases e : g i = true
      · rw [if_pos ((hg i (by omega)).mpr e), if_pos e, l_v, l_v, nI_1, nI_1, ih m (i + 1) (a + 1) (by omega) (by omega), show a + 1 + rn g m (i + 1) = a + (rn g m (i + 1) + 1) by omega]
      · rw [if_neg (fun q => e ((hg i (by omega)).mp q)), if_neg e, Nat.add_zero]
theorem c_flen {σ : xS} {d C c : Nat} {g : Nat → Bool} (h : gC (σ d) g C) (hc : c ≤ C) : fX1_freeLength d (nI c) σ = some (nI (rn g (C - c) c), σ) := by
  have h8 := h.2.1
  have e : i_max 0 (nI c) = nI c := by
    unfold i_max
    have : 0 ≤ nI c := nI_pos' (by omega)
    by_cases q : (0 : Int32) < nI c
    · rw [if_pos q]
    · rw [if_neg q]; grind
  rw [fX1_freeLength, l_v, e]
  have := c_flen_loop h x_FU (C - c) c 0 (by omega) (by unfold x_FU; omega)
  rw [Nat.zero_add] at this
  exact this
theorem c_starts {σ : xS} {d C c : Nat} {g : Nat → Bool} (h : gC (σ d) g C) (hc : c < C) : fX1_startsRun d (nI c) σ = some (if rst g c = true then 1 else 0, σ) := by
  obtain ⟨h0, h8, hg⟩ := h
  rw [fX1_startsRun, if_neg (nI_nn (by omega)), h0, if_neg (nI_ge hc (by omega)), in_nI (by omega) (by omega), g_t, nI_clamp (by omega)]
  by_cases e : g c = true
  · rw [if_pos ((hg c hc).mpr e)]
    by_cases e0 : c = 0
    · subst e0
      have : rst g 0 = true := by unfold rst; simp [e]
      rw [if_pos (show nI 0 = 0 from rfl), this, if_pos rfl]
    · obtain ⟨b, rfl⟩ : ∃ b, c = b + 1 := ⟨c - 1, by omega⟩
      rw [if_neg (nI_ne0 (by omega) (by omega)), l_v, nI_pred, in_nI (by omega) (by omega), g_t, nI_clamp (by omega)]
      by_cases e1 : g b = true
      · have : ¬ rst g (b + 1) = true := by unfold rst; simp [e1]
        rw [if_pos ((hg b (by omega)).mpr e1), if_neg this]
      · have : rst g (b + 1) = true := by unfold rst; simp [e, e1]
        rw [if_neg (fun q => e1 ((hg b (by omega)).mp q)), if_pos this]
  · have : ¬ rst g c = true := by unfold rst; simp [e]
    rw [if_neg (fun q => e ((hg c hc).mp q)), if_neg this]
theorem m_isFree {σ : xS} {C c : Nat} {g : Nat → Bool} (h : gM (σ 5 31 0 0) g C) (hc : c < C) : fX6_isFree (nI c) σ = some (if g c = true then 1 else 0, σ) := by
  obtain ⟨h0, h8, hg⟩ := h
  have e : (6336 : Int32) + nI c = nI (6336 + c) := nI_add 6336 c
  rw [fX6_isFree, h0, if_neg (nI_ge hc (by omega)), l_v, e, in_nI (by omega) (by omega), g_t, nI_clamp (by omega)]
  by_cases q : g c = true
  · rw [if_pos ((hg c hc).mpr q), if_pos q]
  · rw [if_neg (fun w => q ((hg c hc).mp w)), if_neg q]
theorem m_isFree_C {σ : xS} {C : Nat} {g : Nat → Bool} (h : gM (σ 5 31 0 0) g C) : fX6_isFree (nI C) σ = some (0, σ) := by
  obtain ⟨h0, h8, hg⟩ := h
  rw [fX6_isFree, h0, if_pos (nI_le (Nat.le_refl _) (by omega))]
theorem m_runAt_loop {σ : xS} {C c : Nat} {g : Nat → Bool} (h : gM (σ 5 31 0 0) g C) : ∀ (n m j : Nat), c + j + m = C → m < n → BX6_runAt_26 (nI c) n (nI j) σ = some (nI (j + rn g m (c + j)), σ) := by
  have h8 := h.2.1
  intro n
  induction n with
  | zero => intro m j h1 h2; omega
  | succ n ih =>
    intro m j h1 h2
    rw [BX6_runAt_26, nI_add]
    cases m with
    | zero =>
      rw [show c + j = C by omega, m_isFree_C h, b_s, if_pos rfl, rn, Nat.add_zero]
    | succ m =>
      rw [m_isFree h (by omega), b_s, rn]
      by_cases e : g (c + j) = true
      · rw [if_pos e, if_neg (by decide), if_pos e, l_v, nI_1, ih m (j + 1) (by omega) (by omega)]
        rw [show c + (j + 1) = c + j + 1 by omega, show j + 1 + rn g m (c + j + 1) = j + (rn g m (c + j + 1) + 1) by omega]
      · rw [if_neg e, if_pos rfl, if_neg e, Nat.add_zero]
theorem m_runAt {σ : xS} {C c : Nat} {g : Nat → Bool} (h : gM (σ 5 31 0 0) g C) (hc : c < C) : fX6_runAt (nI c) σ = some (nI (if rst g c = true then rn g (C - c) c else 0), σ) := by
  have h8 := h.2.1
  have hl : BX6_runAt_26 (nI c) x_FU (nI 0) σ = some (nI (rn g (C - c) c), σ) := by
    have := m_runAt_loop (c := c) h x_FU (C - c) 0 (by omega) (by unfold x_FU; omega)
    rw [Nat.zero_add, Nat.add_zero] at this
    exact this
  rw [fX6_runAt, m_isFree h hc, b_s]
  by_cases e : g c = true
  · rw [if_pos e, if_neg (by decide)]
    by_cases e0 : c = 0
    · subst e0
      have : rst g 0 = true := by unfold rst; simp [e]
      rw [if_pos (show nI 0 ≤ 0 from nI_le (a := 0) (b := 0) (by omega) (by omega)), this, if_pos rfl]
      exact hl
    · obtain ⟨b, rfl⟩ : ∃ b, c = b + 1 := ⟨c - 1, by omega⟩
      rw [if_neg (nI_nle (by omega) (by omega)), nI_pred, m_isFree h (by omega), b_s]
      by_cases e1 : g b = true
      · have : ¬ rst g (b + 1) = true := by unfold rst; simp [e1]
        rw [if_pos e1, if_neg (by decide), if_neg this]
        rfl
      · have : rst g (b + 1) = true := by unfold rst; simp [e, e1]
        rw [if_neg e1, if_pos rfl, if_pos this]
        exact hl
  · have : ¬ rst g c = true := by unfold rst; simp [e]
    rw [if_neg e, if_pos rfl, if_neg this]
    rfl
/-- the cells of both sides -/
def gV (v : Nat → Int32) (c : Nat) : Bool := decide (v (6336 + c) = 0)
theorem gM_V {v : xV} {C P : Nat} (h : wfG v C P) : gM v (gV v) C := ⟨h.1, h.2.2.1, fun c _ => by unfold gV; rw [decide_eq_true_iff]⟩
theorem gC_V {τ : xD} {v : xV} {C P : Nat} (h : wfG v C P) (hD : cfD τ v) (hX : RX τ v C) : gC τ (gV v) C := ⟨hD.1.trans h.1, h.2.2.1, fun c hc => by
  unfold gV
  rw [decide_eq_true_iff, hX.2.2.2.1 c hc]
  by_cases e : v (6336 + c) = 0
  · rw [if_pos e]; exact ⟨fun _ => e, fun _ => rfl⟩
  · rw [if_neg e]; exact ⟨fun q => absurd q (by decide), fun q => absurd q e⟩⟩
theorem runs_eq {σ : xS} {C : Nat} {g : Nat → Bool} (hc : gC (σ 0) g C) (hm : gM (σ 5 31 0 0) g C) : ∀ (n i : Nat) (a : Int32), i ≤ C → C < n + i → ∃ r, BX1_countRuns_4 0 n a (nI i) σ = some (r, σ) ∧ BX6_freeRuns_4 n a (nI i) σ = some (r, σ) := by
  have h8 := hm.2.1
  intro n
  induction n with
  | zero => intro i a h1 h2; omega
  | succ n ih =>
    intro i a h1 h2
    rw [BX1_countRuns_4, BX6_freeRuns_4, hc.1, hm.1]
    by_cases e : i < C
    · rw [if_neg (nI_ge e (by omega)), if_neg (nI_ge e (by omega)), c_starts hc e, b_s, m_runAt hm e, b_s]
      by_cases q : rst g i = true
      · have hp := rn_pos e q
        have hl := rn_le g (C - i) i
        rw [if_pos q, if_neg (by decide), l_v, l_v, if_pos q, if_neg (nI_nle (by omega) (by omega)), l_v, nI_1]
        exact ih (i + 1) (a + 1) (by omega) (by omega)
      · rw [if_neg q, if_pos rfl, l_v, if_neg q, if_pos (show nI 0 ≤ 0 from nI_le (a := 0) (b := 0) (by omega) (by omega)), l_v, nI_1, show a + 0 = a by grind]
        exact ih (i + 1) a (by omega) (by omega)
    · rw [if_pos (nI_le (by omega) (by omega)), if_pos (nI_le (by omega) (by omega))]
      exact ⟨a, rfl, rfl⟩
theorem find_eq {σ : xS} {C : Nat} {g : Nat → Bool} {x : Int32} (hx : 0 ≤ x) (hc : gC (σ 0) g C) (hm : gM (σ 5 31 0 0) g C) : ∀ (n i : Nat) (a : Int32), i ≤ C → C < n + i → (BX1_findRun_4 0 x n a (nI i) σ = some (-1, σ) ∧ BX6_beginOf_4 n (x - a) (nI i) σ = some (-1, σ)) ∨ ∃ c, c < C ∧ rst g c = true ∧ BX1_findRun_4 0 x n a (nI i) σ = some (nI c, σ) ∧ BX6_beginOf_4 n (x - a) (nI i) σ = some (nI c, σ) := by
  have h8 := hm.2.1
  intro n
  induction n with
  | zero => intro i a h1 h2; omega
  | succ n ih =>
    intro i a h1 h2
    rw [BX1_findRun_4, BX6_beginOf_4, hc.1, hm.1]
    by_cases e : i < C
    · rw [if_neg (nI_ge e (by omega)), c_starts hc e, b_s, m_runAt hm e, b_s]
      by_cases q : rst g i = true
      · have hp := rn_pos e q
        have hl := rn_le g (C - i) i
        rw [if_pos q, if_neg (by decide), if_pos q, if_neg (nI_nle (by omega) (by omega))]
        by_cases ea : a = x
        · rw [if_pos ea, if_pos (show x - a = 0 by grind), if_neg (nI_ge e (by omega))]
          exact Or.inr ⟨i, e, q, rfl, rfl⟩
        · rw [if_neg ea, if_neg (show ¬ x - a = 0 by grind), l_v, l_v, l_v, l_v, if_neg (nI_ge e (by omega)), nI_1, show x - a + (-1) = x - (a + 1) by grind]
          exact ih (i + 1) (a + 1) (by omega) (by omega)
      · rw [if_neg q, if_pos rfl, l_v, if_neg q, if_pos (show nI 0 ≤ 0 from nI_le (a := 0) (b := 0) (by omega) (by omega)), l_v, nI_1, if_neg (nI_ge e (by omega))]
        exact ih (i + 1) a (by omega) (by omega)
    · rw [if_pos (nI_le (by omega) (by omega)), if_pos (nI_le (by omega) (by omega))]
      exact Or.inl ⟨rfl, rfl⟩
theorem find_neg {σ : xS} {C : Nat} {g : Nat → Bool} {x : Int32} (hx : x < 0) (hc : gC (σ 0) g C) : ∀ (n i a : Nat), i ≤ C → C < n + i → a ≤ i → BX1_findRun_4 0 x n (nI a) (nI i) σ = some (-1, σ) := by
  have h8 := hc.2.1
  intro n
  induction n with
  | zero => intro i a h1 h2; omega
  | succ n ih =>
    intro i a h1 h2 h3
    rw [BX1_findRun_4, hc.1]
    by_cases e : i < C
    · rw [if_neg (nI_ge e (by omega)), c_starts hc e, b_s]
      have hne : ¬ nI a = x := by
        have : 0 ≤ nI a := nI_pos' (by omega)
        grind
      by_cases q : rst g i = true
      · rw [if_pos q, if_neg (by decide), if_neg hne, l_v, l_v, nI_1, nI_1]
        exact ih (i + 1) (a + 1) (by omega) (by omega) (by omega)
      · rw [if_neg q, if_pos rfl, l_v, nI_1]
        exact ih (i + 1) a (by omega) (by omega) (by omega)
    · rw [if_pos (nI_le (by omega) (by omega))]
theorem xp39 : xP39 Inv := by
  intro n σ hI hn
  obtain ⟨C, P, hG, hQ, hPp, hLs, hDd, hRf, wP, wQ, wT, wS, wN, hM, hX, hgr, hb⟩ := Inv_RR hI hn
  obtain ⟨r, h1, h2⟩ := runs_eq (gC_V hG hDd hX) (gM_V hG) x_FU 0 0 (by omega) (by have := hG.2.2.1; unfold x_FU; omega)
  refine ⟨r, σ, σ, ?_, ?_, Inv_mono n σ hI⟩
  · rw [fX5_freeRuns, fX1_countRuns]
    show x_b (BX1_countRuns_4 0 x_FU 0 (nI 0) σ) _ = _
    rw [h1, b_s]
  · rw [fX6_freeRuns]
    exact h2
theorem run_find {n : Nat} {σ : xS} (hI : Inv n σ) (hn : n < 512) (x : Int32) : (x < 0 ∧ fX1_findRun 0 x σ = some (-1, σ)) ∨ (0 ≤ x ∧ ((fX1_findRun 0 x σ = some (-1, σ) ∧ fX6_beginOf x σ = some (-1, σ)) ∨ ∃ C c, C ≤ 128 ∧ c < C ∧ gC (σ 0) (gV (vv σ)) C ∧ gM (vv σ) (gV (vv σ)) C ∧ rst (gV (vv σ)) c = true ∧ fX1_findRun 0 x σ = some (nI c, σ) ∧ fX6_beginOf x σ = some (nI c, σ))) := by
  obtain ⟨C, P, hG, hQ, hPp, hLs, hDd, hRf, wP, wQ, wT, wS, wN, hM, hX, hgr, hb⟩ := Inv_RR hI hn
  have h8 := hG.2.2.1
  have e0 : x - 0 = x := by grind
  by_cases hx : x < 0
  · exact Or.inl ⟨hx, by rw [fX1_findRun]; exact find_neg hx (gC_V hG hDd hX) x_FU 0 0 (by omega) (by unfold x_FU; omega) (by omega)⟩
  · refine Or.inr ⟨by grind, ?_⟩
    rcases find_eq (x := x) (by grind) (gC_V hG hDd hX) (gM_V hG) x_FU 0 0 (by omega) (by unfold x_FU; omega) with ⟨h1, h2⟩ | ⟨c, h3, h4, h1, h2⟩
    · rw [e0] at h2
      exact Or.inl ⟨by rw [fX1_findRun]; exact h1, by rw [fX6_beginOf]; exact h2⟩
    · rw [e0] at h2
      exact Or.inr ⟨C, c, h8, h3, gC_V hG hDd hX, gM_V hG, h4, by rw [fX1_findRun]; exact h1, by rw [fX6_beginOf]; exact h2⟩
theorem xp40 : xP40 Inv := by
  intro n σ a1 hI hn
  rcases run_find hI hn a1 with ⟨hx, h1⟩ | ⟨hx, ⟨h1, h2⟩ | ⟨C, c, h8, hc, hgc, hgm, hs, h1, h2⟩⟩
  · refine ⟨-1, σ, σ, ?_, ?_, Inv_mono n σ hI⟩
    · rw [fX5_runStart, h1, b_s, if_pos rfl]
    · rw [fX6_runStart, if_neg (by grind)]
  · refine ⟨-1, σ, σ, ?_, ?_, Inv_mono n σ hI⟩
    · rw [fX5_runStart, h1, b_s, if_pos rfl]
    · rw [fX6_runStart, if_pos hx, h2, b_s, if_neg (by decide)]
  · refine ⟨nI c, σ, σ, ?_, ?_, Inv_mono n σ hI⟩
    · rw [fX5_runStart, h1, b_s, if_neg (nI_nm1 (by omega))]
    · rw [fX6_runStart, if_pos hx, h2, b_s, if_pos (nI_pos' (by omega)), h2, b_s]
theorem xp41 : xP41 Inv := by
  intro n σ a1 hI hn
  rcases run_find hI hn a1 with ⟨hx, h1⟩ | ⟨hx, ⟨h1, h2⟩ | ⟨C, c, h8, hc, hgc, hgm, hs, h1, h2⟩⟩
  · refine ⟨-1, σ, σ, ?_, ?_, Inv_mono n σ hI⟩
    · rw [fX5_runLength, h1, b_s, if_pos rfl]
    · rw [fX6_runLength, if_neg (by grind)]
  · refine ⟨-1, σ, σ, ?_, ?_, Inv_mono n σ hI⟩
    · rw [fX5_runLength, h1, b_s, if_pos rfl]
    · rw [fX6_runLength, if_pos hx, h2, b_s, if_neg (by decide)]
  · refine ⟨nI (rn (gV (vv σ)) (C - c) c), σ, σ, ?_, ?_, Inv_mono n σ hI⟩
    · rw [fX5_runLength, h1, b_s, if_neg (nI_nm1 (by omega)), c_flen hgc (by omega), b_s]
    · rw [fX6_runLength, if_pos hx, h2, b_s, if_pos (nI_pos' (by omega)), m_runAt hgm hc, b_s, if_pos hs]
