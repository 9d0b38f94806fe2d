/-! ===== victims; the judge ===== -/
def wvn (v : xV) (p n : Nat) : xV := if n ≤ Ln v (3 * p + 2) then lch v (3 * p + 2) (Ln v (3 * p + 2)) v n else lch v (3 * p + 1) (Ln v (3 * p + 1)) (lch v (3 * p + 2) (Ln v (3 * p + 2)) v (Ln v (3 * p + 2))) (n - Ln v (3 * p + 2))
def VT (v : xV) (p r : Nat) : Nat := if r = 0 then Ln v (3 * p + 2) + Ln v (3 * p + 1) else if r = 1 then Ln v (3 * p + 2) else 0
/-- as v, but for the counts of port p -/
def offc (v w : xV) (p : Nat) : Prop := ∀ i, (∀ k, k < 9 → i ≠ iq (3 * p + k / 3) (6 + k % 3)) → w i = v i
theorem offc_lch {v w : xV} {p r m j : Nat} (hr : r < 3) (h : offc v w p) : offc v (lch v (3 * p + r) m w j) p := fun i hi => by
  rw [lch_n ⟨fun e => hi (3 * r) (by omega) ?_, fun e => hi (3 * r + 1) (by omega) ?_, fun e => hi (3 * r + 2) (by omega) ?_⟩]
  · exact h i hi
  · simp only [iq]; omega
  · simp only [iq]; omega
  · simp only [iq]; omega
theorem offc_refl (v : xV) (p : Nat) : offc v v p := fun _ _ => rfl
theorem offc_wvn (v : xV) (p n : Nat) : offc v (wvn v p n) p := by
  unfold wvn
  split
  · exact offc_lch (by omega) (offc_refl v p)
  · exact offc_lch (by omega) (offc_lch (by omega) (offc_refl v p))
theorem c_v14 {σ : xS} {τ : xD} {v w : xV} {b C P p r r' d n : Nat} {x a8 : Int32} (h : RW τ v b C P) (hp : p < P) (hr : r < 3) (hr' : r' < 3) (hrr : r < r') (hw : ∀ f, f < 16 → w (iq (3 * p + r') f) = v (iq (3 * p + r') f)) : BX0_victimsNeeded_14 d d p d p r x (n + 1) (fg w p) (mFree w P) a8 (nI r') (va_up σ d τ) = BX0_victimsNeeded_56 d d p d p r x (nI r') d p r' (BX0_victimsNeeded_14 d d p d p r x n) x_FU (fg w p) (mFree w P) a8 (w (iq (3 * p + r') 8)) (w (iq (3 * p + r') 7)) (if Ln v (3 * p + r') = 0 then -1 else cellAt v (3 * p + r') (Ln v (3 * p + r') - 1)) (nI 0) (va_up σ d τ) := by
  have h6 := h.1.1.2.2.2.2.2.1
  have hX := h.1.2.2.2.2.2.2.2.2.2.2.2.1
  rw [BX0_victimsNeeded_14, up_s, h.2.2.2 p r (by omega) hr, if_neg (nI_ge hrr (by omega)), in_nI (by omega) (by omega), g_t, nI_clamp (by omega), l_v, l_v, l_v, h.1.2.1 p r' 12 8 (by omega) hr' rfl, h.1.2.1 p r' 11 7 (by omega) hr' rfl, (hX.1 p r' (by omega) hr').2.1, hw 8 (by omega), hw 7 (by omega)]
  rfl
theorem c_v14e {σ : xS} {τ : xD} {v : xV} {b C P p r r' d n : Nat} {x a6 a7 a8 : Int32} (h : RW τ v b C P) (hp : p < P) (hr : r < 3) (hrr : r' ≤ r) : BX0_victimsNeeded_14 d d p d p r x (n + 1) a6 a7 a8 (nI r') (va_up σ d τ) = some (0, va_up σ d τ) := by
  have h6 := h.1.1.2.2.2.2.2.1
  rw [BX0_victimsNeeded_14, up_s, h.2.2.2 p r (by omega) hr, if_pos (nI_le hrr (by omega))]
theorem m_p83 {σ : xS} {w : xV} {p r r' n L : Nat} {x a4 a5 a7 : Int32} (hp : p < 6) (hr' : r' < 3) (hrr : r < r') (hL : w (iq (3 * p + r') 12) = nI L) : BX6_pushes_83 (nI (3 * p + r)) x (nI p) a4 a5 (n + 1) a7 0 (nI (3 * p + r')) (x_row σ 5 31 0 0 w) = BX6_pushes_110 (nI (3 * p + r)) x (nI p) a4 a5 (nI (3 * p + r')) (BX6_pushes_83 (nI (3 * p + r)) x (nI p) a4 a5 n) x_FU a7 0 (nI L + (-1)) (x_row σ 5 31 0 0 w) := by
  have hL' : w (160 + 16 * (3 * p + r') + 12) = nI L := hL
  rw [BX6_pushes_83, if_neg (nI_ge (by omega) (by omega)), if_pos rfl, m_queue_12, b_s, in_nI (by omega) (by omega), g_t, nI_clamp (by omega), row_rd, hL', l_v, show nI L - 1 = nI L + (-1) by grind]
theorem m_p83e {σ : xS} {p r r' n : Nat} {x a4 a5 a7 : Int32} (hp : p < 6) (hr : r < 3) (hrr : r' ≤ r) (a8 : Int32) : BX6_pushes_83 (nI (3 * p + r)) x (nI p) a4 a5 (n + 1) a7 a8 (nI (3 * p + r')) σ = BX6_pushes_181 (nI p) a4 a5 a7 a8 x_FU 0 σ := by
  rw [BX6_pushes_83, if_pos (nI_le (by omega) (by omega))]
theorem m_p83f {σ : xS} {n : Nat} {q x a3 a4 a5 a7 a9 : Int32} : BX6_pushes_83 q x a3 a4 a5 (n + 1) a7 1 a9 σ = BX6_pushes_181 a3 a4 a5 a7 1 x_FU 0 σ := by
  rw [BX6_pushes_83]
  by_cases z : a9 ≤ q
  · rw [if_pos z]
  · rw [if_neg z, if_neg (by decide)]
theorem S_vic {τ : xD} {v : xV} {b C P p r : Nat} {x a4 a5 : Int32} (h : RW τ v b C P) (hp : p < P) (hr : r < 3) : (∃ n, 1 ≤ n ∧ n ≤ VT v p r ∧ ¬ er (wvn v p n) P p (3 * p + r) x = 0 ∧ (∀ σ d, fX0_victimsNeeded d d p d p r x (fg v p) (mFree v P) (va_up σ d τ) = some (nI n, va_up σ d τ)) ∧ (∀ σ c, ∃ c', (∀ l, l ≠ 1 → l ≠ 2 → c' l = c l) ∧ BX6_pushes_83 (nI (3 * p + r)) x (nI p) a4 a5 x_FU 0 0 (nI (3 * p + 2)) (x_row (x_row σ 5 36 0 0 c) 5 31 0 0 v) = BX6_pushes_181 (nI p) a4 a5 (nI n) 1 x_FU 0 (x_row (x_row σ 5 36 0 0 c') 5 31 0 0 (wvn v p n)))) ∨ ((∀ σ d, fX0_victimsNeeded d d p d p r x (fg v p) (mFree v P) (va_up σ d τ) = some (0, va_up σ d τ)) ∧ ∃ n w, offc v w p ∧ (∀ σ c, ∃ c', (∀ l, l ≠ 1 → l ≠ 2 → c' l = c l) ∧ BX6_pushes_83 (nI (3 * p + r)) x (nI p) a4 a5 x_FU 0 0 (nI (3 * p + 2)) (x_row (x_row σ 5 36 0 0 c) 5 31 0 0 v) = BX6_pushes_181 (nI p) a4 a5 (nI n) 0 x_FU 0 (x_row (x_row σ 5 36 0 0 c') 5 31 0 0 w))) := by
  have h6 := h.1.1.2.2.2.2.2.1
  have hp6 : p < 6 := by omega
  have hY := RY_of h p
  have hM := MX_of h.1.2.2.2.2.2.2.2.2.2.2.1
  have l2 := len15 hY hp (r := 2) (by omega)
  have l1 := len15 hY hp (r := 1) (by omega)
  by_cases r2 : r = 2
  · subst r2
    right
    refine ⟨fun σ d => ?_, 0, v, offc_refl v p, fun σ c => ⟨c, fun _ _ _ => rfl, ?_⟩⟩
    · exact c_v14e (n := 199999) (r' := 2) h hp (by omega) (by omega)
    · exact m_p83e (n := 199999) hp6 (by omega) (by omega) 0
  · have hr2 : r < 2 := by omega
    have st1 : ∀ σ d, fX0_victimsNeeded d d p d p r x (fg v p) (mFree v P) (va_up σ d τ) = _ := fun σ d => c_v14 (σ := σ) (d := d) (n := 199999) (x := x) (a8 := nI 0) (w := v) (r' := 2) h hp hr (by omega) hr2 (fun _ _ => rfl)
    have st2 : ∀ σ, BX6_pushes_83 (nI (3 * p + r)) x (nI p) a4 a5 x_FU 0 0 (nI (3 * p + 2)) (x_row σ 5 31 0 0 v) = _ := fun σ => m_p83 (σ := σ) (n := 199999) (x := x) (a4 := a4) (a5 := a5) (a7 := nI 0) hp6 (show 2 < 3 by omega) hr2 l2.2.1
    rcases vic_q (x := x) (a4 := a4) (a5 := a5) h hp hr (show 2 < 3 by omega) hr2 (Ln v (3 * p + 2)) 0 0 x_FU x_FU v (by omega) (cnt_of hY (by omega)) (fun _ _ => rfl) (fun _ _ => rfl) (fun _ _ => rfl) (by unfold x_FU; omega) (by unfold x_FU; omega) with ⟨j, j1, j2, j3, j4⟩ | ⟨j3, j4⟩
    · left
      have ew : wvn v p (j + 1) = lch v (3 * p + 2) (Ln v (3 * p + 2)) v (j + 1) := by rw [wvn, if_pos (by omega)]
      refine ⟨j + 1, by omega, ?_, by rw [ew]; exact j2, fun σ d => ?_, fun σ c => ?_⟩
      · unfold VT
        split
        · omega
        · rw [if_pos (by omega)]; omega
      · rw [st1, j3, Nat.zero_add]
      · obtain ⟨c', c1, c2⟩ := j4 σ c (BX6_pushes_83 (nI (3 * p + r)) x (nI p) a4 a5 199999)
        refine ⟨c', c1, ?_⟩
        rw [st2, c2, ew, Nat.zero_add]
        exact m_p83f (n := 199998)
    · by_cases r1 : r = 1
      · subst r1
        right
        refine ⟨fun σ d => ?_, Ln v (3 * p + 2), lch v (3 * p + 2) (Ln v (3 * p + 2)) v (Ln v (3 * p + 2)), offc_lch (by omega) (offc_refl v p), fun σ c => ?_⟩
        · rw [st1, j3, show nI 2 + (-1) = nI 1 from pk_m1 1]
          exact c_v14e (n := 199998) h hp (by omega) (by omega)
        · obtain ⟨c', c1, c2⟩ := j4 σ c (BX6_pushes_83 (nI (3 * p + 1)) x (nI p) a4 a5 199999)
          refine ⟨c', c1, ?_⟩
          rw [st2, c2, Nat.zero_add, show nI (3 * p + 2) + (-1) = nI (3 * p + 1) from pk_m1 _]
          exact m_p83e (n := 199998) hp6 (by omega) (by omega) 0
      · have r0 : r = 0 := by omega
        subst r0
        have nw : ∀ i, i ≠ 160 + 16 * (3 * p + 2) + 6 ∧ i ≠ 160 + 16 * (3 * p + 2) + 7 ∧ i ≠ 160 + 16 * (3 * p + 2) + 8 → lch v (3 * p + 2) (Ln v (3 * p + 2)) v (Ln v (3 * p + 2)) i = v i := fun i hi => lch_n hi _
        have nq1 : ∀ f, f < 16 → lch v (3 * p + 2) (Ln v (3 * p + 2)) v (Ln v (3 * p + 2)) (iq (3 * p + 1) f) = v (iq (3 * p + 1) f) := fun f hf => nw _ (by simp only [iq]; omega)
        have hc1 : cnt v (lch v (3 * p + 2) (Ln v (3 * p + 2)) v (Ln v (3 * p + 2))) (3 * p + 1) (Ln v (3 * p + 1)) := by
          have := cnt_of hY (q := 3 * p + 1) (by omega)
          unfold cnt at this ⊢
          rw [nq1 6 (by omega), nq1 7 (by omega), nq1 8 (by omega)]
          exact this
        have st1' : ∀ σ d, BX0_victimsNeeded_14 d d p d p 0 x (199998 + 1) (fg (lch v (3 * p + 2) (Ln v (3 * p + 2)) v (Ln v (3 * p + 2))) p) (mFree (lch v (3 * p + 2) (Ln v (3 * p + 2)) v (Ln v (3 * p + 2))) P) (nI (0 + Ln v (3 * p + 2))) (nI 1) (va_up σ d τ) = _ := fun σ d => c_v14 (σ := σ) (d := d) (n := 199998) (x := x) (w := lch v (3 * p + 2) (Ln v (3 * p + 2)) v (Ln v (3 * p + 2))) (r' := 1) h hp (by omega) (by omega) (by omega) nq1
        have st2' : ∀ σ, BX6_pushes_83 (nI (3 * p + 0)) x (nI p) a4 a5 (199998 + 1) (nI (0 + Ln v (3 * p + 2))) 0 (nI (3 * p + 1)) (x_row σ 5 31 0 0 (lch v (3 * p + 2) (Ln v (3 * p + 2)) v (Ln v (3 * p + 2)))) = _ := fun σ => m_p83 (σ := σ) (n := 199998) (x := x) (a4 := a4) (a5 := a5) (w := lch v (3 * p + 2) (Ln v (3 * p + 2)) v (Ln v (3 * p + 2))) (r := 0) (r' := 1) hp6 (by omega) (by omega) (by rw [nq1 12 (by omega)]; exact l1.2.1)
        rcases vic_q (x := x) (a4 := a4) (a5 := a5) h hp (show 0 < 3 by omega) (show 1 < 3 by omega) (show 0 < 1 by omega) (Ln v (3 * p + 1)) 0 (0 + Ln v (3 * p + 2)) x_FU x_FU (lch v (3 * p + 2) (Ln v (3 * p + 2)) v (Ln v (3 * p + 2))) (by omega) hc1 (fun f hf => nw f (by omega)) (fun f hf => nw _ (by simp only [iq]; omega)) (fun f hf => nw f (by omega)) (by unfold x_FU; omega) (by unfold x_FU; omega) with ⟨j, j1, j2, k3, k4⟩ | ⟨k3, k4⟩
        · left
          have ew : wvn v p (Ln v (3 * p + 2) + (j + 1)) = lch v (3 * p + 1) (Ln v (3 * p + 1)) (lch v (3 * p + 2) (Ln v (3 * p + 2)) v (Ln v (3 * p + 2))) (j + 1) := by rw [wvn, if_neg (by omega), Nat.add_sub_cancel_left]
          refine ⟨Ln v (3 * p + 2) + (j + 1), by omega, ?_, by rw [ew]; exact j2, fun σ d => ?_, fun σ c => ?_⟩
          · rw [VT, if_pos rfl]; omega
          · rw [st1, j3, show nI 2 + (-1) = nI 1 from pk_m1 1]
            refine (st1' σ d).trans ?_
            rw [k3, show 0 + Ln v (3 * p + 2) + j + 1 = Ln v (3 * p + 2) + (j + 1) by omega]
          · obtain ⟨c1, c2, c3⟩ := j4 σ c (BX6_pushes_83 (nI (3 * p + 0)) x (nI p) a4 a5 199999)
            obtain ⟨c4, c5, c6⟩ := k4 σ c1 (BX6_pushes_83 (nI (3 * p + 0)) x (nI p) a4 a5 199998)
            refine ⟨c4, fun l a1 a2 => (c5 l a1 a2).trans (c2 l a1 a2), ?_⟩
            rw [st2, c3, show nI (3 * p + 2) + (-1) = nI (3 * p + 1) from pk_m1 _]
            refine (st2' _).trans ?_
            rw [c6, ew, show 0 + Ln v (3 * p + 2) + j + 1 = Ln v (3 * p + 2) + (j + 1) by omega]
            exact m_p83f (n := 199997)
        · right
          refine ⟨fun σ d => ?_, 0 + Ln v (3 * p + 2) + Ln v (3 * p + 1), lch v (3 * p + 1) (Ln v (3 * p + 1)) (lch v (3 * p + 2) (Ln v (3 * p + 2)) v (Ln v (3 * p + 2))) (Ln v (3 * p + 1)), offc_lch (r := 1) (m := Ln v (3 * p + 1)) (j := Ln v (3 * p + 1)) (by omega) (offc_lch (r := 2) (m := Ln v (3 * p + 2)) (j := Ln v (3 * p + 2)) (by omega) (offc_refl v p)), fun σ c => ?_⟩
          · rw [st1, j3, show nI 2 + (-1) = nI 1 from pk_m1 1]
            refine (st1' σ d).trans ?_
            rw [k3, show nI 1 + (-1) = nI 0 from pk_m1 0]
            exact c_v14e (n := 199997) h hp (by omega) (by omega)
          · obtain ⟨c1, c2, c3⟩ := j4 σ c (BX6_pushes_83 (nI (3 * p + 0)) x (nI p) a4 a5 199999)
            obtain ⟨c4, c5, c6⟩ := k4 σ c1 (BX6_pushes_83 (nI (3 * p + 0)) x (nI p) a4 a5 199998)
            refine ⟨c4, fun l a1 a2 => (c5 l a1 a2).trans (c2 l a1 a2), ?_⟩
            rw [st2, c3, show nI (3 * p + 2) + (-1) = nI (3 * p + 1) from pk_m1 _]
            refine (st2' _).trans ?_
            rw [c6, show nI (3 * p + 1) + (-1) = nI (3 * p + 0) from pk_m1 _]
            exact m_p83e (n := 199997) hp6 (by omega) (by omega) 0
-- the counts set aside and brought back
theorem qk {p k : Nat} (hk : k < 9) : (3 : Int32) * nI p + nI k / 3 = nI (3 * p + k / 3) ∧ (6 : Int32) + (nI k - nI k / 3 * 3) = nI (6 + k % 3) := by
  rw [mod3 (by omega), div3 (by omega), q3]
  exact ⟨rfl, nI_add 6 _⟩
theorem m_p29 {σ : xS} {v : xV} {p : Nat} {q x a4 a5 : Int32} (hp : p < 6) : ∀ n i (f : Nat → Int32), i ≤ 9 → 9 < n + i → (∀ k, k < i → f k = v (iq (3 * p + k / 3) (6 + k % 3))) → ∃ f', (∀ k, k < 9 → f' k = v (iq (3 * p + k / 3) (6 + k % 3))) ∧ BX6_pushes_29 q x (nI p) a4 a5 n (nI i) (x_row (x_row σ 5 37 0 0 f) 5 31 0 0 v) = BX6_pushes_83 q x (nI p) a4 a5 x_FU 0 0 (nI (3 * p + 2)) (x_row (x_row σ 5 37 0 0 f') 5 31 0 0 v) := by
  intro n
  induction n with
  | zero => intro i f h1 h2; omega
  | succ n ih =>
    intro i f h1 h2 h3
    rw [BX6_pushes_29]
    by_cases e : i < 9
    · rw [if_neg (show ¬ (9 : Int32) ≤ nI i from nI_ge (b := 9) e (by omega)), (qk (p := p) e).1, (qk (p := p) e).2, m_queueN, b_s, in_nI (by omega) (by omega), g_t, in_nI e (by omega), g_t, nI_clamp (by omega), nI_clamp (by omega), row_rd, setK _ _ _ _ _ (by decide), rowK_rd, rowK_rowK, l_v, l_v, nI_1]
      refine ih (i + 1) _ (by omega) (by omega) (fun k hk => ?_)
      by_cases z : k = i
      · subst z; rw [up_s]
      · rw [up_n _ _ z]; exact h3 k (by omega)
    · have : i = 9 := by omega
      subst this
      refine ⟨f, h3, ?_⟩
      have e2 : (3 : Int32) * nI p + 2 = nI (3 * p + 2) := q3 p 2
      rw [if_pos (by decide), e2, l_v]
theorem m_p181 {σ : xS} {v : xV} {p : Nat} {a4 a5 a7 a8 : Int32} (hp : p < 6) (ha : x_z a8 = true) {f : Nat → Int32} (hf : ∀ k, k < 9 → f k = v (iq (3 * p + k / 3) (6 + k % 3))) (hs : σ 5 37 0 0 = f) : ∀ n i (w : xV), i ≤ 9 → 9 < n + i → (∀ m, (∀ k, i ≤ k → k < 9 → m ≠ iq (3 * p + k / 3) (6 + k % 3)) → w m = v m) → BX6_pushes_181 (nI p) a4 a5 a7 a8 n (nI i) (x_row σ 5 31 0 0 w) = some (a8, x_row (x_set (x_row σ 5 36 0 0 (va_up (va_up (va_up (σ 5 36 0 0) 1 a4) 2 a5) 4 7)) 5 30 0 0 7 a7) 5 31 0 0 v) := by
  intro n
  induction n with
  | zero => intro i w h1 h2; omega
  | succ n ih =>
    intro i w h1 h2 h3
    rw [BX6_pushes_181]
    by_cases e : i < 9
    · rw [if_neg (show ¬ (9 : Int32) ≤ nI i from nI_ge (b := 9) e (by omega)), (qk (p := p) e).1, (qk (p := p) e).2, m_queueN, b_s, in_nI e (by omega), g_t, in_nI (by omega) (by omega), g_t, nI_clamp (by omega), nI_clamp (by omega), row_K _ _ (by decide), hs, row_set, l_v, l_v, nI_1]
      refine ih (i + 1) _ (by omega) (by omega) (fun m hm => ?_)
      by_cases z : m = 160 + 16 * (3 * p + i / 3) + (6 + i % 3)
      · rw [z, up_s, hf i e]
      · rw [up_n _ _ z]
        refine h3 m (fun k k1 k2 => ?_)
        by_cases y : k = i
        · subst y; exact z
        · exact hm k (by omega) k2
    · have : i = 9 := by omega
      subst this
      have : w = v := funext (fun m => h3 m (fun k k1 k2 => by omega))
      rw [this, if_pos (by decide), setK _ _ _ _ _ (by decide), l_v, setK _ _ _ _ _ (by decide), rowK_rd, rowK_rowK, l_v, setK _ _ _ _ _ (by decide), rowK_rd, rowK_rowK, l_v, setK _ _ _ _ _ (by decide), l_v, ha, g_t]
      rfl
theorem m_pushes {σ : xS} {τ : xD} {v : xV} {b C P p r : Nat} {x : Int32} {a8 : Int32} {n : Nat} {w : xV} (h : RW τ v b C P) (hp : p < P) (hr : r < 3) (ha : x_z a8 = true) (ho : offc v w p) (c : Nat → Int32) (hk : ∀ σ, ∃ c', (∀ l, l ≠ 1 → l ≠ 2 → c' l = c l) ∧ BX6_pushes_83 (nI (3 * p + r)) x (nI p) (c 1) (c 2) x_FU 0 0 (nI (3 * p + 2)) (x_row (x_row σ 5 36 0 0 c) 5 31 0 0 v) = BX6_pushes_181 (nI p) (c 1) (c 2) (nI n) a8 x_FU 0 (x_row (x_row σ 5 36 0 0 c') 5 31 0 0 w)) : ∃ σ', fX6_pushes (nI (3 * p + r)) x (x_row (x_row σ 5 36 0 0 c) 5 31 0 0 v) = some (a8, x_row σ' 5 31 0 0 v) ∧ fr σ σ' ∧ σ' 5 30 0 0 7 = nI n ∧ σ' 5 36 0 0 1 = c 1 ∧ σ' 5 36 0 0 2 = c 2 ∧ σ' 5 36 0 0 3 = c 3 ∧ σ' 5 36 0 0 4 = 7 := by
  have h6 := h.1.1.2.2.2.2.2.1
  have hp6 : p < 6 := by omega
  obtain ⟨f', f1, f2⟩ := m_p29 (σ := x_row σ 5 36 0 0 c) (v := v) (p := p) (q := nI (3 * p + r)) (x := x) (a4 := c 1) (a5 := c 2) hp6 x_FU 0 ((x_row σ 5 36 0 0 c) 5 37 0 0) (by omega) (by unfold x_FU; omega) (fun k hk => by omega)
  rw [rowK_id] at f2
  have e3736 : x_row (x_row σ 5 36 0 0 c) 5 37 0 0 f' = x_row (x_row σ 5 37 0 0 f') 5 36 0 0 c := by
    unfold x_row
    simp only [up_s, up_up, up_n _ _ (show (37 : Nat) ≠ 36 by decide), up_n _ _ (show (36 : Nat) ≠ 37 by decide)]
    rw [up_comm (σ 5) _ _ (show (36 : Nat) ≠ 37 by decide)]
  obtain ⟨c', c1, c2⟩ := hk (x_row σ 5 37 0 0 f')
  rw [e3736, c2] at f2
  have e181 := m_p181 (σ := x_row (x_row σ 5 37 0 0 f') 5 36 0 0 c') (v := v) (a4 := c 1) (a5 := c 2) (a7 := nI n) hp6 ha f1 (by rw [rowK_K _ _ _ (by decide), rowK_rd]) x_FU 0 w (by omega) (by unfold x_FU; omega) (fun m hm => ho m (fun k hk => hm k (by omega) hk))
  refine ⟨x_set (x_row (x_row (x_row σ 5 37 0 0 f') 5 36 0 0 c') 5 36 0 0 (va_up (va_up (va_up ((x_row (x_row σ 5 37 0 0 f') 5 36 0 0 c') 5 36 0 0) 1 (c 1)) 2 (c 2)) 4 7)) 5 30 0 0 7 (nI n), ?_, ?_, ?_, ?_, ?_, ?_, ?_⟩
  · rw [fX6_pushes, div3 (by omega), show (3 * p + r) / 3 = p by omega, l_v, row_K _ _ (by decide), rowK_rd, l_v, l_v]
    exact f2.trans e181
  · exact fr_trans (fr_trans (fr_trans (fr_row _ _ _ (by omega)) (fr_row _ _ _ (by omega))) (fr_row _ _ _ (by omega))) (fr_7 _ _)
  · rw [rd_same]
  · rw [set_K _ _ _ _ _ (by decide), rowK_rd, up_n _ _ (by decide), up_n _ _ (by decide), up_s]
  · rw [set_K _ _ _ _ _ (by decide), rowK_rd, up_n _ _ (by decide), up_s]
  · rw [set_K _ _ _ _ _ (by decide), rowK_rd, up_n _ _ (by decide), up_n _ _ (by decide), up_n _ _ (by decide), rowK_rd]
    exact c1 3 (by decide) (by decide)
  · rw [set_K _ _ _ _ _ (by decide), rowK_rd, up_s]
