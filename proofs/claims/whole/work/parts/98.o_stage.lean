/-! ===== the judge; stageFor, largestAdmissible ===== -/
def eqJ (τ τ' : xD) : Prop := ∀ K p r k, K ≠ 12 → (K ≠ 0 ∨ (k ≠ 10 ∧ k ≠ 12)) → τ' K p r k = τ K p r k
theorem RW_J {τ τ' : xD} {v : xV} {b C P : Nat} (h : RW τ v b C P) (hj : eqJ τ τ') : RW τ' v b C P :=
  RW_eq h ⟨hj _ _ _ _ (by omega) (by omega), fun K c h1 h2 _ => hj _ _ _ _ (by omega) (by omega), fun p r k _ _ _ _ => hj _ _ _ _ (by omega) (by omega), fun p k _ _ _ => hj _ _ _ _ (by omega) (by omega), fun p c _ _ => hj _ _ _ _ (by omega) (by omega), fun k hk => hj _ _ _ _ (by omega) (by omega), fun k _ => hj _ _ _ _ (by omega) (by omega)⟩ (fun p r h1 h2 => by rw [hj _ _ _ _ (by omega) (by omega)]; exact h.2.2.2 p r h1 h2) (fun _ _ => rfl)
theorem c_gl {σ : xS} {τ : xD} {v : xV} {d p : Nat} (hP : cfP τ v) (hQ : cfQ τ v) (hp : p < 6) : fX2_guaranteeLeft d p (va_up σ d τ) = some (fg v p, va_up σ d τ) := by
  rw [fX2_guaranteeLeft, fX2_guaranteedInUse, b_s, up_s, c_guar hP hQ hp]
  rfl
def hc (v : xV) (p q : Nat) (x : Int32) : Int32 := if v (iq q 9) = 0 then 4 else if rs v p x ≤ v (ip p 1) - s3 v p 8 then 0 else 5
theorem c_href {σ : xS} {τ : xD} {v : xV} {d p r : Nat} {x : Int32} (hP : cfP τ v) (hQ : cfQ τ v) (hp : p < 6) (hr : r < 3) : fX0_headroomRefusal d p d p r (rs v p x) (va_up σ d τ) = some (hc v p (3 * p + r) x, va_up σ d τ) := by
  have e8 : τ 16 p 0 12 + τ 16 p 1 12 + τ 16 p 2 12 = s3 v p 8 := by
    rw [hQ p 0 12 8 hp (by omega) rfl, hQ p 1 12 8 hp (by omega) rfl, hQ p 2 12 8 hp (by omega) rfl]
    rfl
  rw [fX0_headroomRefusal, up_s, hQ p r 7 9 hp hr rfl, hc, fX2_headroomInUse, b_s, up_s, e8, hP p 3 1 hp rfl]
  split
  · rfl
  · split <;> rfl
def jA (τ : xD) : xD := dset (dset τ 0 0 0 10 0) 0 0 0 12 0
theorem eqJ_A (τ : xD) : eqJ τ (jA τ) := fun K p r k h1 h2 => by unfold jA; rw [ds_n (by omega), ds_n (by omega)]
theorem eqJ_12 {τ τ' : xD} (h : eqJ τ τ') (i : Nat) (y : Int32) : eqJ τ (dset τ' 12 0 0 i y) := fun K p r k h1 h2 => by rw [ds_n (by omega)]; exact h K p r k h1 h2
theorem eqJ_10 {τ τ' : xD} (h : eqJ τ τ') (y : Int32) : eqJ τ (dset τ' 0 0 0 10 y) := fun K p r k h1 h2 => by rw [ds_n (by omega)]; exact h K p r k h1 h2
theorem eqJ_c {τ τ' : xD} (h : eqJ τ τ') (y : Int32) : eqJ τ (dset τ' 0 0 0 12 y) := fun K p r k h1 h2 => by rw [ds_n (by omega)]; exact h K p r k h1 h2
/-- what the judge found -/
def JF (τ' : xD) (v : xV) (P p r : Nat) (x st : Int32) (n : Nat) : Prop :=
  (st = 1 ∧ n = 0 ∧ rs v p x = 0) ∨
  (st = 2 ∧ n = 0 ∧ ¬ rs v p x = 0 ∧ pc v (3 * p + r) (rs v p x) (mFree v P) = 0) ∨
  (st = 3 ∧ n = 0 ∧ ¬ rs v p x = 0 ∧ ¬ pc v (3 * p + r) (rs v p x) (mFree v P) = 0 ∧ ¬ v (iq (3 * p + r) 9) = 0 ∧ rs v p x ≤ v (ip p 1) - s3 v p 8) ∨
  (st = 4 ∧ ¬ v 2 = 0 ∧ 1 ≤ n ∧ n ≤ VT v p r ∧ ¬ er (wvn v p n) P p (3 * p + r) x = 0) ∨
  (st = 0 ∧ n = 0 ∧ (τ' 12 0 0 1 = 2 ∨ τ' 12 0 0 1 = 3))
theorem pc_23 {v : xV} {q : Nat} {a F : Int32} (h : ¬ pc v q a F = 0) : pc v q a F = 2 ∨ pc v q a F = 3 := by
  unfold pc at h ⊢
  split
  · split
    · exact Or.inr rfl
    · rename_i a b
      rw [if_pos a, if_neg b] at h; exact absurd rfl h
  · exact Or.inl rfl
theorem S_judge {τ : xD} {v : xV} {b C P p r : Nat} {x : Int32} (h : RW τ v b C P) (hp : p < P) (hr : r < 3) : ∃ st n τ', (∀ σ d, fX0_judge d d p d p r x (va_up σ d τ) = some ((), va_up σ d τ')) ∧ eqJ τ τ' ∧ τ' 0 0 0 10 = st ∧ τ' 0 0 0 12 = nI n ∧ (∀ σ, ∃ σ', fX6_decides (nI (3 * p + r)) x (x_row σ 5 31 0 0 v) = some (st, x_row σ' 5 31 0 0 v) ∧ fr σ σ' ∧ (st = 0 → ∀ i, i < 4 → σ' 5 36 0 0 (i + 1) = τ' 12 0 0 i) ∧ (st = 4 → σ' 5 30 0 0 7 = nI n)) ∧ JF τ' v P p r x st n := by
  have h6 := h.1.1.2.2.2.2.2.1
  have hp6 : p < 6 := by omega
  have hv1 := h.1.1.2.2.2.1
  have hgl := fun σ d => c_gl (σ := σ) (d := d) h.1.2.2.1 h.1.2.1 hp6
  have hWA := RW_J h (eqJ_A τ)
  have t010 : ∀ σ d, x_set (x_set (va_up σ d τ) d 0 0 0 10 0) d 0 0 0 12 0 = va_up σ d (jA τ) := fun σ d => by rw [set_own, set_own]; rfl
  have hd0 : ∀ σ, fX6_decides (nI (3 * p + r)) x (x_row σ 5 31 0 0 v) = if er v P p (3 * p + r) x = 0 then (x_b (fX6_queue (nI (3 * p + r)) 9 (x_row (x_row σ 5 36 0 0 (ec v P p (3 * p + r) x (σ 5 36 0 0))) 5 31 0 0 v)) fun z6 s6 => x_g (x_in z6 6464) (if (s6 5 31 0 0 z6.toNatClampNeg) = 0 then (x_let (x_set s6 5 36 0 0 3 4) fun s14 => BX6_decides_93 (nI (3 * p + r)) x s14) else (x_b (fX6_port (nI p) 1 s6) fun z8 s8 => x_g (x_in z8 6464) (x_b (fX6_sum (nI p) 8 s8) fun z10 s10 => if rs v p x ≤ ((s8 5 31 0 0 z8.toNatClampNeg) - z10) then (some (3, s10)) else (x_let (x_set s10 5 36 0 0 3 5) fun s11 => BX6_decides_93 (nI (3 * p + r)) x s11))))) else some (er v P p (3 * p + r) x, x_row (x_row σ 5 36 0 0 (ec v P p (3 * p + r) x (σ 5 36 0 0))) 5 31 0 0 v) := fun σ => by
    rw [fX6_decides, m_early hv1 h6 hp6 hr, b_s, div3 (by omega), show (3 * p + r) / 3 = p by omega]
    by_cases z : er v P p (3 * p + r) x = 0
    · rw [if_pos z, z, if_pos (by decide), l_v, m_freeOf hp6, b_s, show vv (x_row (x_row σ 5 36 0 0 (ec v P p (3 * p + r) x (σ 5 36 0 0))) 5 31 0 0 v) = v from row_rd _ _, m_least, b_s, l_v]
      rfl
    · rw [if_neg z, if_neg (by
        unfold er at z ⊢
        by_cases a : rs v p x = 0
        · rw [if_pos a]; decide
        · rw [if_neg a] at z ⊢
          by_cases b : pc v (3 * p + r) (rs v p x) (mFree v P) = 0
          · rw [if_pos b]; decide
          · rw [if_neg b] at z; exact absurd rfl z)]
  have fr36 : ∀ σ c, fr σ (x_row σ 5 36 0 0 c) := fun σ c => fr_row σ 36 c (by omega)
  by_cases z1 : rs v p x = 0
  · -- stage 1
    have e1 : er v P p (3 * p + r) x = 1 := by rw [er, if_pos z1]
    refine ⟨1, 0, dset (dset (jA τ) 12 0 0 0 0) 0 0 0 10 1, fun σ d => ?_, eqJ_10 (eqJ_12 (eqJ_A τ) 0 0) 1, ds_s, ?_, fun σ => ?_, Or.inl ⟨rfl, rfl, z1⟩⟩
    · rw [fX0_judge, hgl, b_s, l_v, l_v, l_v, t010]
      show (if rs v p x = 0 then _ else _) = _
      rw [if_pos z1, BX0_judge_41, show x_in 0 4 = true from rfl, g_t, set_own, l_v, up_s]
      show (if dset (jA τ) 12 0 0 0 0 12 0 0 0 = 0 then _ else _) = _
      rw [ds_s, if_pos rfl]
      show x_let (x_set (va_up σ d (dset (jA τ) 12 0 0 0 0)) d 0 0 0 10 1) _ = _
      rw [set_own, l_v]
    · rw [ds_n (by omega), ds_n (by omega)]; unfold jA; rw [ds_s]; rfl
    · refine ⟨x_row σ 5 36 0 0 (ec v P p (3 * p + r) x (σ 5 36 0 0)), ?_, fr36 σ _, fun q => absurd q (by decide), fun q => absurd q (by decide)⟩
      rw [hd0, e1, if_neg (by decide)]
  · have hWB := RW_J h (eqJ_12 (eqJ_A τ) 0 1)
    have cB : ∀ σ d, fX0_judge d d p d p r x (va_up σ d τ) = x_b (fX0_sharedLeft d (va_up σ d (dset (jA τ) 12 0 0 0 1))) fun z7 s7 => x_b (fX3_poolRefusal d p r (rs v p x) z7 s7) fun z8 s8 => x_let (x_set s8 d 12 0 0 1 z8) fun s9 => if (s9 d 12 0 0 1) = 0 then (x_let (x_set s9 d 0 0 0 10 2) fun s19 => some ((), s19)) else (x_b (fX0_headroomRefusal d p d p r (rs v p x) s9) fun z10 s10 => x_let (x_set s10 d 12 0 0 2 z10) fun s11 => if (s11 d 12 0 0 2) = 0 then (x_let (x_set s11 d 0 0 0 10 3) fun s18 => some ((), s18)) else (x_let (x_set s11 d 12 0 0 3 6) fun s12 => if (s12 d 0 0 0 3) = 0 then (if (s12 d 0 0 0 12) ≤ 0 then (some ((), s12)) else (x_let (x_set s12 d 0 0 0 10 4) fun s13 => some ((), s13))) else (x_b (fX0_victimsNeeded d d p d p r x (fg v p) z7 s12) fun z14 s14 => x_let (x_set s14 d 0 0 0 12 z14) fun s15 => x_let (x_set s15 d 12 0 0 3 7) fun s16 => if (s16 d 0 0 0 12) ≤ 0 then (some ((), s16)) else (x_let (x_set s16 d 0 0 0 10 4) fun s17 => some ((), s17))))) := fun σ d => by
      rw [fX0_judge, hgl, b_s, l_v, l_v, l_v, t010]
      show (if rs v p x = 0 then _ else _) = _
      rw [if_neg z1, BX0_judge_41, show x_in 0 4 = true from rfl, g_t, set_own, l_v, up_s]
      show (if dset (jA τ) 12 0 0 0 1 12 0 0 0 = 0 then _ else _) = _
      rw [ds_s, if_neg (by decide)]
      rfl
    generalize epc : pc v (3 * p + r) (rs v p x) (mFree v P) = y at *
    have cC : ∀ σ d, fX0_judge d d p d p r x (va_up σ d τ) = if y = 0 then some ((), va_up σ d (dset (dset (dset (jA τ) 12 0 0 0 1) 12 0 0 1 y) 0 0 0 10 2)) else (x_b (fX0_headroomRefusal d p d p r (rs v p x) (va_up σ d (dset (dset (jA τ) 12 0 0 0 1) 12 0 0 1 y))) fun z10 s10 => x_let (x_set s10 d 12 0 0 2 z10) fun s11 => if (s11 d 12 0 0 2) = 0 then (x_let (x_set s11 d 0 0 0 10 3) fun s18 => some ((), s18)) else (x_let (x_set s11 d 12 0 0 3 6) fun s12 => if (s12 d 0 0 0 3) = 0 then (if (s12 d 0 0 0 12) ≤ 0 then (some ((), s12)) else (x_let (x_set s12 d 0 0 0 10 4) fun s13 => some ((), s13))) else (x_b (fX0_victimsNeeded d d p d p r x (fg v p) (mFree v P) s12) fun z14 s14 => x_let (x_set s14 d 0 0 0 12 z14) fun s15 => x_let (x_set s15 d 12 0 0 3 7) fun s16 => if (s16 d 0 0 0 12) ≤ 0 then (some ((), s16)) else (x_let (x_set s16 d 0 0 0 10 4) fun s17 => some ((), s17))))) := fun σ d => by
      rw [cB, t_free hWB.1, b_s, c_pref hWB.1.2.1 hp6 hr, b_s, epc, set_own, l_v, up_s, ds_s]
      by_cases q : y = 0
      · rw [if_pos q, if_pos q, set_own, l_v]
      · rw [if_neg q, if_neg q]
    have eer : er v P p (3 * p + r) x = if y = 0 then 2 else 0 := by rw [er, if_neg z1, epc]
    by_cases z2 : y = 0
    · -- stage 2
      refine ⟨2, 0, dset (dset (dset (jA τ) 12 0 0 0 1) 12 0 0 1 y) 0 0 0 10 2, fun σ d => ?_, eqJ_10 (eqJ_12 (eqJ_12 (eqJ_A τ) 0 1) 1 y) 2, ds_s, ?_, fun σ => ?_, Or.inr (Or.inl ⟨rfl, rfl, z1, by rw [epc]; exact z2⟩)⟩
      · rw [cC, if_pos z2]
      · rw [ds_n (by omega), ds_n (by omega), ds_n (by omega)]; unfold jA; rw [ds_s]; rfl
      · refine ⟨x_row σ 5 36 0 0 (ec v P p (3 * p + r) x (σ 5 36 0 0)), ?_, fr36 σ _, fun q => absurd q (by decide), fun q => absurd q (by decide)⟩
        rw [hd0, eer, if_pos z2, if_neg (by decide)]
    · have hy23 : y = 2 ∨ y = 3 := by rw [← epc]; exact pc_23 (by rw [epc]; exact z2)
      have hWC := RW_J h (eqJ_12 (eqJ_12 (eqJ_A τ) 0 1) 1 y)
      have eec : ∀ c, ec v P p (3 * p + r) x c = va_up (va_up c 1 1) 2 y := fun c => by rw [ec, if_neg z1, epc, if_neg z2]
      generalize ehc : hc v p (3 * p + r) x = g
      have cD : ∀ σ d, fX0_judge d d p d p r x (va_up σ d τ) = if g = 0 then some ((), va_up σ d (dset (dset (dset (dset (jA τ) 12 0 0 0 1) 12 0 0 1 y) 12 0 0 2 g) 0 0 0 10 3)) else if v 2 = 0 then some ((), va_up σ d (dset (dset (dset (dset (jA τ) 12 0 0 0 1) 12 0 0 1 y) 12 0 0 2 g) 12 0 0 3 6)) else (x_b (fX0_victimsNeeded d d p d p r x (fg v p) (mFree v P) (va_up σ d (dset (dset (dset (dset (jA τ) 12 0 0 0 1) 12 0 0 1 y) 12 0 0 2 g) 12 0 0 3 6))) fun z14 s14 => x_let (x_set s14 d 0 0 0 12 z14) fun s15 => x_let (x_set s15 d 12 0 0 3 7) fun s16 => if (s16 d 0 0 0 12) ≤ 0 then (some ((), s16)) else (x_let (x_set s16 d 0 0 0 10 4) fun s17 => some ((), s17))) := fun σ d => by
        have e03 : dset (dset (dset (dset (jA τ) 12 0 0 0 1) 12 0 0 1 y) 12 0 0 2 g) 12 0 0 3 6 0 0 0 3 = v 2 := by
          rw [ds_n (by omega), ds_n (by omega), ds_n (by omega), ds_n (by omega)]
          unfold jA; rw [ds_n (by omega), ds_n (by omega)]; exact h.1.2.2.2.2.1.2.2.1
        have e12 : dset (dset (dset (dset (jA τ) 12 0 0 0 1) 12 0 0 1 y) 12 0 0 2 g) 12 0 0 3 6 0 0 0 12 = 0 := by
          rw [ds_n (by omega), ds_n (by omega), ds_n (by omega), ds_n (by omega)]
          unfold jA; rw [ds_s]
        rw [cC, if_neg z2, c_href hWC.1.2.2.1 hWC.1.2.1 hp6 hr, b_s, ehc, set_own, l_v, up_s, ds_s]
        by_cases q : g = 0
        · rw [if_pos q, if_pos q, set_own, l_v]
        · rw [if_neg q, if_neg q, set_own, l_v, up_s, e03]
          by_cases q2 : v 2 = 0
          · rw [if_pos q2, if_pos q2, e12, if_pos (by decide)]
          · rw [if_neg q2, if_neg q2]
      -- the reference, up to push-out
      have hd1 : ∀ σ, fX6_decides (nI (3 * p + r)) x (x_row σ 5 31 0 0 v) = if g = 0 then some (3, x_row (x_row σ 5 36 0 0 (va_up (va_up (σ 5 36 0 0) 1 1) 2 y)) 5 31 0 0 v) else BX6_decides_93 (nI (3 * p + r)) x (x_row (x_row σ 5 36 0 0 (va_up (va_up (va_up (σ 5 36 0 0) 1 1) 2 y) 3 g)) 5 31 0 0 v) := fun σ => by
        rw [hd0, eer, if_neg z2, if_pos rfl, eec, m_queue_9, b_s, in_nI (by omega) (by omega), g_t, nI_clamp (by omega), row_rd, ← ehc, hc]
        show (if v (iq (3 * p + r) 9) = 0 then _ else _) = _
        by_cases q : v (iq (3 * p + r) 9) = 0
        · rw [if_pos q, if_pos q, if_neg (by decide), setK _ _ _ _ _ (by decide), rowK_rd, rowK_rowK, l_v]
        · rw [if_neg q, if_neg q, m_port_1, b_s, in_nI (by omega) (by omega), g_t, m_sum (p := p) hp6 8 (by omega) 8 rfl, b_s, nI_clamp (by omega), row_rd, show vv (x_row (x_row σ 5 36 0 0 (va_up (va_up (σ 5 36 0 0) 1 1) 2 y)) 5 31 0 0 v) = v from row_rd _ _]
          show (if rs v p x ≤ v (ip p 1) - s3 v p 8 then _ else _) = _
          by_cases q2 : rs v p x ≤ v (ip p 1) - s3 v p 8
          · rw [if_pos q2, if_pos q2, if_pos rfl]
          · rw [if_neg q2, if_neg q2, if_neg (by decide), setK _ _ _ _ _ (by decide), rowK_rd, rowK_rowK, l_v]
      by_cases z3 : g = 0
      · -- stage 3
        refine ⟨3, 0, dset (dset (dset (dset (jA τ) 12 0 0 0 1) 12 0 0 1 y) 12 0 0 2 g) 0 0 0 10 3, fun σ d => ?_, eqJ_10 (eqJ_12 (eqJ_12 (eqJ_12 (eqJ_A τ) 0 1) 1 y) 2 g) 3, ds_s, ?_, fun σ => ?_, Or.inr (Or.inr (Or.inl ⟨rfl, rfl, z1, by rw [epc]; exact z2, ?_, ?_⟩))⟩
        · rw [cD, if_pos z3]
        · rw [ds_n (by omega), ds_n (by omega), ds_n (by omega), ds_n (by omega)]; unfold jA; rw [ds_s]; rfl
        · refine ⟨x_row σ 5 36 0 0 (va_up (va_up (σ 5 36 0 0) 1 1) 2 y), ?_, fr36 σ _, fun q => absurd q (by decide), fun q => absurd q (by decide)⟩
          rw [hd1, if_pos z3]
        · intro q
          rw [hc, if_pos q] at ehc
          rw [← ehc] at z3; exact absurd z3 (by decide)
        · unfold hc at ehc
          by_cases q : v (iq (3 * p + r) 9) = 0
          · rw [if_pos q] at ehc; rw [← ehc] at z3; exact absurd z3 (by decide)
          · rw [if_neg q] at ehc
            by_cases q2 : rs v p x ≤ v (ip p 1) - s3 v p 8
            · exact q2
            · rw [if_neg q2] at ehc; rw [← ehc] at z3; exact absurd z3 (by decide)
      · by_cases z4 : v 2 = 0
        · -- push-out is off
          refine ⟨0, 0, dset (dset (dset (dset (jA τ) 12 0 0 0 1) 12 0 0 1 y) 12 0 0 2 g) 12 0 0 3 6, fun σ d => ?_, eqJ_12 (eqJ_12 (eqJ_12 (eqJ_12 (eqJ_A τ) 0 1) 1 y) 2 g) 3 6, ?_, ?_, fun σ => ?_, Or.inr (Or.inr (Or.inr (Or.inr ⟨rfl, rfl, ?_⟩)))⟩
          · rw [cD, if_neg z3, if_pos z4]
          · rw [ds_n (by omega), ds_n (by omega), ds_n (by omega), ds_n (by omega)]; unfold jA; rw [ds_n (by omega), ds_s]
          · rw [ds_n (by omega), ds_n (by omega), ds_n (by omega), ds_n (by omega)]; unfold jA; rw [ds_s]; rfl
          · refine ⟨x_row σ 5 36 0 0 (va_up (va_up (va_up (va_up (σ 5 36 0 0) 1 1) 2 y) 3 g) 4 6), ?_, fr36 σ _, fun _ i hi => ?_, fun q => absurd q (by decide)⟩
            · rw [hd1, if_neg z3, BX6_decides_93, row_rd, if_pos z4, setK _ _ _ _ _ (by decide), rowK_rd, rowK_rowK, l_v]
            · rw [rowK_rd]
              rcases (show i = 0 ∨ i = 1 ∨ i = 2 ∨ i = 3 by omega) with rfl | rfl | rfl | rfl
              · rw [ds_n (by omega), ds_n (by omega), ds_n (by omega), ds_s, up_n _ _ (by omega), up_n _ _ (by omega), up_n _ _ (by omega), up_s]
              · rw [ds_n (by omega), ds_n (by omega), ds_s, up_n _ _ (by omega), up_n _ _ (by omega), up_s]
              · rw [ds_n (by omega), ds_s, up_n _ _ (by omega), up_s]
              · rw [ds_s, up_s]
          · rw [ds_n (by omega), ds_n (by omega), ds_s]; exact hy23
        · have hWE := RW_J h (eqJ_12 (eqJ_12 (eqJ_12 (eqJ_12 (eqJ_A τ) 0 1) 1 y) 2 g) 3 6)
          rcases S_vic (x := x) (a4 := 1) (a5 := y) hWE hp hr with ⟨n, n1, n2, n3, n4, n5⟩ | ⟨n4, n, w, hw, n5⟩
          · -- stage 4
            refine ⟨4, n, dset (dset (dset (dset (dset (dset (dset (jA τ) 12 0 0 0 1) 12 0 0 1 y) 12 0 0 2 g) 12 0 0 3 6) 0 0 0 12 (nI n)) 12 0 0 3 7) 0 0 0 10 4, fun σ d => ?_, eqJ_10 (eqJ_12 (eqJ_c (eqJ_12 (eqJ_12 (eqJ_12 (eqJ_12 (eqJ_A τ) 0 1) 1 y) 2 g) 3 6) (nI n)) 3 7) 4, ds_s, ?_, fun σ => ?_, Or.inr (Or.inr (Or.inr (Or.inl ⟨rfl, z4, n1, n2, n3⟩)))⟩
            · have l2 := (len15 (RY_of h p) hp (r := 2) (by omega)).2.2
              have l1 := (len15 (RY_of h p) hp (r := 1) (by omega)).2.2
              have hn : n < 2 ^ 31 := by unfold VT at n2; split at n2; omega; split at n2 <;> omega
              rw [cD, if_neg z3, if_neg z4, n4, b_s, set_own, l_v, set_own, l_v, up_s, ds_n (by omega), ds_s, if_neg (nI_nle n1 hn), set_own, l_v]
            · rw [ds_n (by omega), ds_n (by omega), ds_s]
            · obtain ⟨σ', s1, s2, s3, s4, s5, s6, s7⟩ := m_pushes (σ := σ) (a8 := 1) (n := n) (w := wvn v p n) h hp hr rfl (offc_wvn v p n) (va_up (va_up (va_up (σ 5 36 0 0) 1 1) 2 y) 3 g) (x := x) (fun σ0 => by
                have e1 : (va_up (va_up (va_up (σ 5 36 0 0) 1 1) 2 y) 3 g) 1 = 1 := by rw [up_n _ _ (by omega), up_n _ _ (by omega), up_s]
                have e2 : (va_up (va_up (va_up (σ 5 36 0 0) 1 1) 2 y) 3 g) 2 = y := by rw [up_n _ _ (by omega), up_s]
                rw [e1, e2]
                exact n5 σ0 _)
              refine ⟨σ', ?_, s2, fun q => absurd q (by decide), fun _ => s3⟩
              rw [hd1, if_neg z3, BX6_decides_93, row_rd, if_neg z4, s1, b_s, if_neg (by decide)]
          · refine ⟨0, 0, dset (dset (dset (dset (dset (dset (jA τ) 12 0 0 0 1) 12 0 0 1 y) 12 0 0 2 g) 12 0 0 3 6) 0 0 0 12 0) 12 0 0 3 7, fun σ d => ?_, eqJ_12 (eqJ_c (eqJ_12 (eqJ_12 (eqJ_12 (eqJ_12 (eqJ_A τ) 0 1) 1 y) 2 g) 3 6) 0) 3 7, ?_, ?_, fun σ => ?_, Or.inr (Or.inr (Or.inr (Or.inr ⟨rfl, rfl, ?_⟩)))⟩
            · rw [cD, if_neg z3, if_neg z4, n4, b_s, set_own, l_v, set_own, l_v, up_s, ds_n (by omega), ds_s, if_pos (by decide)]
            · rw [ds_n (by omega), ds_n (by omega), ds_n (by omega), ds_n (by omega), ds_n (by omega), ds_n (by omega)]; unfold jA; rw [ds_n (by omega), ds_s]
            · rw [ds_n (by omega), ds_s]; rfl
            · obtain ⟨σ', s1, s2, s3, s4, s5, s6, s7⟩ := m_pushes (σ := σ) (a8 := 0) (n := n) (w := w) h hp hr rfl hw (va_up (va_up (va_up (σ 5 36 0 0) 1 1) 2 y) 3 g) (x := x) (fun σ0 => by
                have e1 : (va_up (va_up (va_up (σ 5 36 0 0) 1 1) 2 y) 3 g) 1 = 1 := by rw [up_n _ _ (by omega), up_n _ _ (by omega), up_s]
                have e2 : (va_up (va_up (va_up (σ 5 36 0 0) 1 1) 2 y) 3 g) 2 = y := by rw [up_n _ _ (by omega), up_s]
                rw [e1, e2]
                exact n5 σ0 _)
              refine ⟨σ', ?_, s2, fun _ i hi => ?_, fun q => absurd q (by decide)⟩
              · rw [hd1, if_neg z3, BX6_decides_93, row_rd, if_neg z4, s1, b_s, if_pos rfl]
              · rcases (show i = 0 ∨ i = 1 ∨ i = 2 ∨ i = 3 by omega) with rfl | rfl | rfl | rfl
                · rw [s4, ds_n (by omega), ds_n (by omega), ds_n (by omega), ds_n (by omega), ds_n (by omega), ds_s, up_n _ _ (by omega), up_n _ _ (by omega), up_s]
                · rw [s5, ds_n (by omega), ds_n (by omega), ds_n (by omega), ds_n (by omega), ds_s, up_n _ _ (by omega), up_s]
                · rw [s6, ds_n (by omega), ds_n (by omega), ds_n (by omega), ds_s, up_s]
                · rw [s7, ds_s]
            · rw [ds_n (by omega), ds_n (by omega), ds_n (by omega), ds_n (by omega), ds_s]; exact hy23
