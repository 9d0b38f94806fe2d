/-! ===== a packet is placed ===== -/
def rl (g : Nat → Bool) (C c : Nat) : Nat := if rst g c = true then rn g (C - c) c else 0
def PR (g : Nat → Bool) (C L i : Nat) (cb cl mb ml : Int32) : Prop :=
  (∃ c, c < C ∧ rst g c = true ∧ L ≤ rl g C c ∧ mb = nI c ∧ cb = nI c ∧ cl = nI (rl g C c) ∧ (ml = -1 ∨ ∃ c', c' < C ∧ ml = nI c')) ∨
  (mb = -1 ∧ ml = -1 ∧ cb = -1 ∧ cl = 0 ∧ ∀ c, c < i → rst g c = false) ∨
  (∃ c, c < C ∧ rst g c = true ∧ rl g C c < L ∧ mb = -1 ∧ ml = nI c ∧ cb = nI c ∧ cl = nI (rl g C c))
theorem c_better {a o w : Nat} {σ : xS} (ha : a < 2 ^ 31) (ho : o < 2 ^ 31) (hw : w < 2 ^ 31) : fX1_suitsBetter (nI a) (nI o) (nI w) σ = some (if o < w then (if a ≤ o then 0 else 1) else (if a < w then 0 else if o ≤ a then 0 else 1), σ) := by
  rw [fX1_suitsBetter]
  by_cases z : o < w
  · rw [if_pos z, if_pos (nI_lt z hw)]
    by_cases y : a ≤ o
    · rw [if_pos y, if_pos (nI_le y ho)]
    · rw [if_neg y, if_neg (nI_ge (by omega) ha)]
  · rw [if_neg z, if_neg (nI_nlt (by omega) ho)]
    by_cases y : a < w
    · rw [if_pos y, if_pos (nI_lt y hw)]
    · rw [if_neg y, if_neg (nI_nlt (by omega) ha)]
      by_cases x : o ≤ a
      · rw [if_pos x, if_pos (nI_le x ha)]
      · rw [if_neg x, if_neg (nI_ge (by omega) ho)]
theorem rl_le (g : Nat → Bool) (C c : Nat) (hC : C ≤ 128) : rl g C c ≤ 128 := by
  unfold rl; split
  · have := rn_le g (C - c) c; omega
  · omega
def mlN (g : Nat → Bool) (C : Nat) (ml : Int32) (i : Nat) : Int32 := if ml < 0 then nI i else if nI (rl g C i) ≤ nI (rl g C ml.toNatClampNeg) then ml else nI i
theorem pick {τ : xD} {v : xV} {g : Nat → Bool} {C L k : Nat} (hc : gC τ g C) (hm : gM v g C) (hL : 1 ≤ L) (hL2 : L ≤ 12) (hex : ∃ c, c < C ∧ rst g c = true) : ∀ (n i : Nat) (cb cl mb ml : Int32), PR g C L i cb cl mb ml → i ≤ C → C < n + i → ∃ s, s < C ∧ rst g s = true ∧ (∀ σ d, BX1_chooseRun_7 d (nI L) n cb cl (nI i) (va_up σ d τ) = some (nI s, va_up σ d τ)) ∧ (∀ σ k11, BX6_places_23 (nI k) (nI L) k11 n mb ml (nI i) (x_row σ 5 31 0 0 v) = BX6_places_122 (nI k) (nI L) (nI s) (nI (min L (rl g C s))) k11 (x_row σ 5 31 0 0 v)) := by
  have h8 := hm.2.1
  have hcd : ∀ σ d, gC (va_up σ d τ d) g C := fun σ d => by rw [up_s]; exact hc
  have hmd : ∀ σ : xS, gM ((x_row σ 5 31 0 0 v) 5 31 0 0) g C := fun σ => by rw [row_rd]; exact hm
  have hrun : ∀ (σ : xS) c, c < C → fX6_runAt (nI c) (x_row σ 5 31 0 0 v) = some (nI (rl g C c), x_row σ 5 31 0 0 v) := fun σ c h => m_runAt (hmd σ) h
  have hlen : ∀ σ d c, c < C → rst g c = true → fX1_freeLength d (nI c) (va_up σ d τ) = some (nI (rl g C c), va_up σ d τ) := fun σ d c h h2 => by rw [c_flen (hcd σ d) (by omega), rl, if_pos h2]
  intro n
  induction n with
  | zero => intro i cb cl mb ml hR h1 h2; omega
  | succ n ih =>
    intro i cb cl mb ml hR h1 h2
    by_cases e : i < C
    · have hr128 := rl_le g C i h8
      have c0 : ∀ σ d, BX1_chooseRun_7 d (nI L) (n + 1) cb cl (nI i) (va_up σ d τ) = if rst g i = true then (x_b (fX1_suitsBetter (nI (rl g C i)) cl (nI L) (va_up σ d τ)) fun z4 s4 => if z4 = 0 then BX1_chooseRun_7 d (nI L) n cb cl (nI (i + 1)) s4 else BX1_chooseRun_7 d (nI L) n (nI i) (nI (rl g C i)) (nI (i + 1)) s4) else BX1_chooseRun_7 d (nI L) n cb cl (nI (i + 1)) (va_up σ d τ) := fun σ d => by
        rw [BX1_chooseRun_7, up_s, hc.1, if_neg (nI_ge e (by omega)), c_starts (hcd σ d) e, b_s]
        by_cases z : rst g i = true
        · rw [if_pos z, if_pos z, if_neg (by decide), hlen σ d i e z, b_s, nI_1]
          simp only [l_v]
        · rw [if_neg z, if_neg z, if_pos rfl, l_v, nI_1]
      have m0 : ∀ σ k11, BX6_places_23 (nI k) (nI L) k11 (n + 1) mb ml (nI i) (x_row σ 5 31 0 0 v) = if nI (rl g C i) < nI L then (BX6_places_65 (nI k) (nI L) mb ml (nI i) (nI (rl g C i)) k11 (BX6_places_23 (nI k) (nI L) k11 n) (x_row σ 5 31 0 0 v)) else (if mb < 0 then (BX6_places_65 (nI k) (nI L) (nI i) ml (nI i) (nI (rl g C i)) k11 (BX6_places_23 (nI k) (nI L) k11 n) (x_row σ 5 31 0 0 v)) else (x_b (fX6_runAt mb (x_row σ 5 31 0 0 v)) fun z30 s30 => if z30 ≤ nI (rl g C i) then (BX6_places_65 (nI k) (nI L) mb ml (nI i) (nI (rl g C i)) k11 (BX6_places_23 (nI k) (nI L) k11 n) s30) else (BX6_places_65 (nI k) (nI L) (nI i) ml (nI i) (nI (rl g C i)) k11 (BX6_places_23 (nI k) (nI L) k11 n) s30))) := fun σ k11 => by
        rw [BX6_places_23, row_rd, hm.1, if_neg (nI_ge e (by omega)), hrun σ i e, b_s]
      have m65 : ∀ σ k11 b, (ml = -1 ∨ ∃ c', c' < C ∧ ml = nI c') → 1 ≤ rl g C i → BX6_places_65 (nI k) (nI L) b ml (nI i) (nI (rl g C i)) k11 (BX6_places_23 (nI k) (nI L) k11 n) (x_row σ 5 31 0 0 v) = BX6_places_23 (nI k) (nI L) k11 n b (mlN g C ml i) (nI (i + 1)) (x_row σ 5 31 0 0 v) := fun σ k11 b hml hpos => by
        rw [BX6_places_65, if_neg (nI_nle hpos (by omega)), mlN]
        rcases hml with rfl | ⟨c', hc', rfl⟩
        · rw [if_pos (by decide), if_pos (by decide), l_v, nI_1]
        · rw [if_neg (nI_nn (by omega)), if_neg (nI_nn (by omega)), hrun σ c' hc', b_s, nI_clamp (by omega)]
          by_cases y : nI (rl g C i) ≤ nI (rl g C c')
          · rw [if_pos y, if_pos y, l_v, nI_1]
          · rw [if_neg y, if_neg y, l_v, nI_1]
      have hmlN : (ml = -1 ∨ ∃ c', c' < C ∧ ml = nI c') → (mlN g C ml i = -1 ∨ ∃ c', c' < C ∧ mlN g C ml i = nI c') := fun h => by
        unfold mlN
        split
        · exact Or.inr ⟨i, e, rfl⟩
        · split
          · exact h
          · exact Or.inr ⟨i, e, rfl⟩
      suffices hst : ∃ cb' cl' mb' ml', PR g C L (i + 1) cb' cl' mb' ml' ∧ (∀ σ d, BX1_chooseRun_7 d (nI L) (n + 1) cb cl (nI i) (va_up σ d τ) = BX1_chooseRun_7 d (nI L) n cb' cl' (nI (i + 1)) (va_up σ d τ)) ∧ (∀ σ k11, BX6_places_23 (nI k) (nI L) k11 (n + 1) mb ml (nI i) (x_row σ 5 31 0 0 v) = BX6_places_23 (nI k) (nI L) k11 n mb' ml' (nI (i + 1)) (x_row σ 5 31 0 0 v)) by
        obtain ⟨cb', cl', mb', ml', p1, p2, p3⟩ := hst
        obtain ⟨s, s1, s2, s3, s4⟩ := ih (i + 1) cb' cl' mb' ml' p1 (by omega) (by omega)
        exact ⟨s, s1, s2, fun σ d => (p2 σ d).trans (s3 σ d), fun σ k11 => (p3 σ k11).trans (s4 σ k11)⟩
      by_cases z : rst g i = true
      · have hpos : 1 ≤ rl g C i := by rw [rl, if_pos z]; exact rn_pos e z
        rcases hR with ⟨c, a1, a2, a3, rfl, rfl, rfl, a7⟩ | ⟨rfl, rfl, rfl, rfl, a5⟩ | ⟨c, a1, a2, a3, rfl, rfl, rfl, rfl⟩
        · -- a fitting run stands
          have hr2 := rl_le g C c h8
          by_cases y : L ≤ rl g C i ∧ rl g C i < rl g C c
          · refine ⟨nI i, nI (rl g C i), nI i, mlN g C ml i, Or.inl ⟨i, e, z, y.1, rfl, rfl, rfl, hmlN a7⟩, fun σ d => ?_, fun σ k11 => ?_⟩
            · rw [c0, if_pos z, c_better (by omega) (by omega) (by omega), b_s, if_neg (show ¬ rl g C c < L by omega), if_neg (show ¬ rl g C i < L by omega), if_neg (show ¬ rl g C c ≤ rl g C i by omega), if_neg (by decide)]
            · rw [m0, if_neg (nI_nlt y.1 (by omega)), if_neg (nI_nn (by omega)), hrun σ c a1, b_s, if_neg (nI_ge y.2 (by omega)), m65 σ k11 _ a7 hpos]
          · refine ⟨nI c, nI (rl g C c), nI c, mlN g C ml i, Or.inl ⟨c, a1, a2, a3, rfl, rfl, rfl, hmlN a7⟩, fun σ d => ?_, fun σ k11 => ?_⟩
            · rw [c0, if_pos z, c_better (by omega) (by omega) (by omega), b_s, if_neg (show ¬ rl g C c < L by omega)]
              by_cases x : rl g C i < L
              · rw [if_pos x, if_pos rfl]
              · rw [if_neg x, if_pos (show rl g C c ≤ rl g C i by omega), if_pos rfl]
            · rw [m0]
              by_cases x : rl g C i < L
              · rw [if_pos (nI_lt x (by omega)), m65 σ k11 _ a7 hpos]
              · rw [if_neg (nI_nlt (by omega) (by omega)), if_neg (nI_nn (by omega)), hrun σ c a1, b_s, if_pos (nI_le (by omega) (by omega)), m65 σ k11 _ a7 hpos]
        · -- no run yet
          have c1 : ∀ σ d, BX1_chooseRun_7 d (nI L) (n + 1) (-1) 0 (nI i) (va_up σ d τ) = BX1_chooseRun_7 d (nI L) n (nI i) (nI (rl g C i)) (nI (i + 1)) (va_up σ d τ) := fun σ d => by
            rw [c0, if_pos z, show (0 : Int32) = nI 0 from rfl, c_better (by omega) (by omega) (by omega), b_s, if_pos (show 0 < L by omega), if_neg (show ¬ rl g C i ≤ 0 by omega), if_neg (show ¬ (1 : Int32) = nI 0 by decide)]
          have em : mlN g C (-1) i = nI i := by rw [mlN, if_pos (by decide)]
          by_cases x : rl g C i < L
          · refine ⟨nI i, nI (rl g C i), -1, nI i, Or.inr (Or.inr ⟨i, e, z, x, rfl, rfl, rfl, rfl⟩), c1, fun σ k11 => ?_⟩
            rw [m0, if_pos (nI_lt x (by omega)), m65 σ k11 _ (Or.inl rfl) hpos, em]
          · refine ⟨nI i, nI (rl g C i), nI i, nI i, Or.inl ⟨i, e, z, by omega, rfl, rfl, rfl, Or.inr ⟨i, e, rfl⟩⟩, c1, fun σ k11 => ?_⟩
            rw [m0, if_neg (nI_nlt (by omega) (by omega)), if_pos (by decide), m65 σ k11 _ (Or.inl rfl) hpos, em]
        · -- only shorter ones yet
          have hr2 := rl_le g C c h8
          have em : mlN g C (nI c) i = if rl g C i ≤ rl g C c then nI c else nI i := by
            rw [mlN, if_neg (nI_nn (by omega)), nI_clamp (by omega)]
            by_cases w : rl g C i ≤ rl g C c
            · rw [if_pos w, if_pos (nI_le w (by omega))]
            · rw [if_neg w, if_neg (nI_ge (by omega) (by omega))]
          by_cases x : rl g C i < L
          · by_cases w : rl g C i ≤ rl g C c
            · refine ⟨nI c, nI (rl g C c), -1, nI c, Or.inr (Or.inr ⟨c, a1, a2, a3, rfl, rfl, rfl, rfl⟩), fun σ d => ?_, fun σ k11 => ?_⟩
              · rw [c0, if_pos z, c_better (by omega) (by omega) (by omega), b_s, if_pos a3, if_pos w, if_pos rfl]
              · rw [m0, if_pos (nI_lt x (by omega)), m65 σ k11 _ (Or.inr ⟨c, a1, rfl⟩) hpos, em, if_pos w]
            · refine ⟨nI i, nI (rl g C i), -1, nI i, Or.inr (Or.inr ⟨i, e, z, x, rfl, rfl, rfl, rfl⟩), fun σ d => ?_, fun σ k11 => ?_⟩
              · rw [c0, if_pos z, c_better (by omega) (by omega) (by omega), b_s, if_pos a3, if_neg w, if_neg (by decide)]
              · rw [m0, if_pos (nI_lt x (by omega)), m65 σ k11 _ (Or.inr ⟨c, a1, rfl⟩) hpos, em, if_neg w]
          · have w : ¬ rl g C i ≤ rl g C c := by omega
            refine ⟨nI i, nI (rl g C i), nI i, nI i, Or.inl ⟨i, e, z, by omega, rfl, rfl, rfl, Or.inr ⟨i, e, rfl⟩⟩, fun σ d => ?_, fun σ k11 => ?_⟩
            · rw [c0, if_pos z, c_better (by omega) (by omega) (by omega), b_s, if_pos a3, if_neg w, if_neg (by decide)]
            · rw [m0, if_neg (nI_nlt (by omega) (by omega)), if_pos (by decide), m65 σ k11 _ (Or.inr ⟨c, a1, rfl⟩) hpos, em, if_neg w]
      · have h0 : rl g C i = 0 := by rw [rl, if_neg z]
        have hz : rst g i = false := by simpa using z
        refine ⟨cb, cl, mb, ml, ?_, fun σ d => by rw [c0, if_neg z], fun σ k11 => ?_⟩
        · rcases hR with h | ⟨b1, b2, b3, b4, b5⟩ | h
          · exact Or.inl h
          · refine Or.inr (Or.inl ⟨b1, b2, b3, b4, fun c hc => ?_⟩)
            by_cases q : c = i
            · rw [q]; exact hz
            · exact b5 c (by omega)
          · exact Or.inr (Or.inr h)
        · rw [m0, h0, if_pos (nI_lt (by omega) (by omega)), BX6_places_65, if_pos (by decide), l_v, nI_1]
    · have : i = C := by omega
      subst this
      have ce : ∀ σ d, BX1_chooseRun_7 d (nI L) (n + 1) cb cl (nI i) (va_up σ d τ) = some (cb, va_up σ d τ) := fun σ d => by
        rw [BX1_chooseRun_7, up_s, hc.1, if_pos (nI_le (Nat.le_refl _) (by omega))]
      rcases hR with ⟨c, a1, a2, a3, rfl, rfl, rfl, a7⟩ | ⟨rfl, rfl, rfl, rfl, a5⟩ | ⟨c, a1, a2, a3, rfl, rfl, rfl, rfl⟩
      · refine ⟨c, a1, a2, ce, fun σ k11 => ?_⟩
        rw [BX6_places_23, row_rd, hm.1, if_pos (nI_le (Nat.le_refl _) (by omega)), if_neg (nI_nn (by omega)), if_neg (nI_nn (by omega)), show min L (rl g i c) = L by omega]
      · obtain ⟨c, c1, c2⟩ := hex
        rw [a5 c c1] at c2
        exact absurd c2 (by decide)
      · refine ⟨c, a1, a2, ce, fun σ k11 => ?_⟩
        rw [BX6_places_23, row_rd, hm.1, if_pos (nI_le (Nat.le_refl _) (by omega)), if_pos (by decide), if_pos (by decide), hrun σ c a1, b_s, show min L (rl g i c) = rl g i c by omega]
