/-! ===== a packet arrives ===== -/
def cntV (v : xV) (P p q : Nat) (x st : Int32) : xV := if st = 3 then chV v q (v (iq q 3)) (v (iq q 6) + i_min x (fg v p)) (v (iq q 7)) (v (iq q 8) + rs v p x) 1 (v (iq q 11) + (1 - v (iq q 10))) else chV v q (if st = 2 then v (iq q 3) - i_max 0 (v (iq q 7) + rs v p x - v (iq q 0) * mFree v P / 8) else v (iq q 3)) (v (iq q 6) + i_min x (fg v p)) (v (iq q 7) + rs v p x) (v (iq q 8)) (v (iq q 10)) (v (iq q 11))
/-- the stage while push-out is off -/
def dz (v : xV) (P p q : Nat) (x : Int32) : Int32 := if er v P p q x = 0 then (if hc v p q x = 0 then 3 else 0) else er v P p q x
theorem er_n {v : xV} {P p q : Nat} {x : Int32} : er v P p q x = 0 ∨ er v P p q x = 1 ∨ er v P p q x = 2 := by
  unfold er
  split
  · exact Or.inr (Or.inl rfl)
  · split
    · exact Or.inr (Or.inr rfl)
    · exact Or.inl rfl
theorem m_dec0 {v : xV} {P p r : Nat} {x : Int32} (hv1 : v 1 = nI P) (h6 : P ≤ 6) (hp6 : p < 6) (hr : r < 3) (h2 : v 2 = 0) (σ : xS) : ∃ σ', fX6_decides (nI (3 * p + r)) x (x_row σ 5 31 0 0 v) = some (dz v P p (3 * p + r) x, x_row σ' 5 31 0 0 v) ∧ fr σ σ' ∧ σ' 5 32 = σ 5 32 := by
  have fr36 : ∀ c, fr σ (x_row σ 5 36 0 0 c) ∧ (x_row σ 5 36 0 0 c) 5 32 = σ 5 32 := fun c => ⟨fr_row σ 36 c (by omega), rowK_K _ _ _ (by decide)⟩
  have h93 : ∀ c, BX6_decides_93 (nI (3 * p + r)) x (x_row (x_row σ 5 36 0 0 c) 5 31 0 0 v) = some (0, x_row (x_row σ 5 36 0 0 (va_up c 4 6)) 5 31 0 0 v) := fun c => by
    rw [BX6_decides_93, row_rd, if_pos h2, setK _ _ _ _ _ (by decide), rowK_rd, rowK_rowK, l_v]
  have hdx : dz v P p (3 * p + r) x = if er v P p (3 * p + r) x = 0 then (if hc v p (3 * p + r) x = 0 then 3 else 0) else er v P p (3 * p + r) x := rfl
  rw [fX6_decides, m_early hv1 h6 hp6 hr, b_s, div3 (by omega), show (3 * p + r) / 3 = p by omega, hdx]
  by_cases z : er v P p (3 * p + r) x = 0
  · rw [if_pos z, z, if_pos (by decide), l_v, m_freeOf hp6, b_s, show vv (x_row (x_row σ 5 36 0 0 (ec v P p (3 * p + r) x (σ 5 36 0 0))) 5 31 0 0 v) = v from row_rd _ _, m_least, b_s, l_v, m_queue_9, b_s, in_nI (by omega) (by omega), g_t, nI_clamp (by omega), row_rd, hc]
    show ∃ σ', (if v (iq (3 * p + r) 9) = 0 then _ else _) = _ ∧ _
    by_cases q : v (iq (3 * p + r) 9) = 0
    · refine ⟨_, ?_, fr36 (va_up (va_up (ec v P p (3 * p + r) x (σ 5 36 0 0)) 3 4) 4 6)⟩
      rw [if_pos q, if_pos q, if_neg (by decide), setK _ _ _ _ _ (by decide), rowK_rd, rowK_rowK, l_v, h93]
    · rw [if_neg q, if_neg q, m_port_1, b_s, in_nI (by omega) (by omega), g_t, m_sum (p := p) hp6 8 (by omega) 8 rfl, b_s, nI_clamp (by omega), row_rd, show vv (x_row (x_row σ 5 36 0 0 (ec v P p (3 * p + r) x (σ 5 36 0 0))) 5 31 0 0 v) = v from row_rd _ _]
      show ∃ σ', (if rs v p x ≤ v (ip p 1) - s3 v p 8 then _ else _) = _ ∧ _
      by_cases q2 : rs v p x ≤ v (ip p 1) - s3 v p 8
      · exact ⟨_, by rw [if_pos q2, if_pos q2, if_pos rfl], fr36 (ec v P p (3 * p + r) x (σ 5 36 0 0))⟩
      · refine ⟨_, ?_, fr36 (va_up (va_up (ec v P p (3 * p + r) x (σ 5 36 0 0)) 3 5) 4 6)⟩
        rw [if_neg q2, if_neg q2, if_neg (by decide), setK _ _ _ _ _ (by decide), rowK_rd, rowK_rowK, l_v, h93]
  · refine ⟨_, ?_, fr36 (ec v P p (3 * p + r) x (σ 5 36 0 0))⟩
    rw [if_neg z, if_neg (by rcases er_n (v := v) (P := P) (p := p) (q := 3 * p + r) (x := x) with e | e | e <;> rw [e] at z ⊢ <;> first | exact absurd rfl z | decide)]
def loL (v : xV) (c : Nat → Int32) : xV := va_up (va_up (va_up (va_up (va_up v 5 1) 6 (c 4)) 7 (c 3)) 8 (c 2)) 9 (c 1)
theorem loL_n {v : xV} {c : Nat → Int32} {i : Nat} (h : i < 5 ∨ 9 < i) : loL v c i = v i := by
  unfold loL
  rw [up_n _ _ (by omega), up_n _ _ (by omega), up_n _ _ (by omega), up_n _ _ (by omega), up_n _ _ (by omega)]
theorem m_21 {σ : xS} {v : xV} {q x : Int32} : BX6_arrives_21 q x x_FU 0 (x_row σ 5 31 0 0 (va_up v 5 1)) = BX6_arrives_21 q x 199996 4 (x_row σ 5 31 0 0 (loL v (σ 5 36 0 0))) := by
  have st : ∀ n i (u : xV), i < 4 → BX6_arrives_21 q x (n + 1) (nI i) (x_row σ 5 31 0 0 u) = BX6_arrives_21 q x n (nI (i + 1)) (x_row σ 5 31 0 0 (va_up u (6 + i) (σ 5 36 0 0 (4 - i)))) := fun n i u hi => by
    have e1 : (4 : Int32) - nI i = nI (4 - i) := nI_subN (a := 4) (by omega)
    have e2 : (6 : Int32) + nI i = nI (6 + i) := nI_add 6 i
    rw [BX6_arrives_21, if_neg (show ¬ (4 : Int32) ≤ nI i from nI_ge (b := 4) hi (by omega)), e1, l_v, in_nI (by omega) (by omega), g_t, e2, l_v, in_nI (by omega) (by omega), g_t, nI_clamp (by omega), nI_clamp (by omega), row_K _ _ (by decide), row_set, l_v, l_v, nI_1]
  show BX6_arrives_21 q x (199999 + 1) (nI 0) _ = _
  rw [st _ 0 _ (by omega)]
  show BX6_arrives_21 q x (199998 + 1) (nI 1) _ = _
  rw [st _ 1 _ (by omega)]
  show BX6_arrives_21 q x (199997 + 1) (nI 2) _ = _
  rw [st _ 2 _ (by omega)]
  show BX6_arrives_21 q x (199996 + 1) (nI 3) _ = _
  rw [st _ 3 _ (by omega)]
  rfl
theorem RW_lo {τ τ' : xD} {v : xV} {b C P : Nat} {c : Nat → Int32} (h : RW τ v b C P) (ht : ∀ K p r k, K ≠ 11 → (K ≠ 0 ∨ k ≠ 9) → τ' K p r k = τ K p r k) (h9 : τ' 0 0 0 9 = 1) (hc : ∀ i, i < 4 → τ' 11 0 0 i = c (i + 1)) : RW τ' (loL v c) b C P := by
  obtain ⟨⟨hG, hQ, hPp, hLs, hDd, hRf, wP, wQ, wT, wN, hM, hX, b1, b2, b3, b4⟩, hg, hS, hpr⟩ := h
  have h6 := hG.2.2.2.2.2.1
  have h8 := hG.2.2.1
  have nl : ∀ i, i < 5 ∨ 9 < i → loL v c i = v i := fun i hi => loL_n hi
  have np : ∀ p f, loL v c (ip p f) = v (ip p f) := fun p f => nl _ (by simp only [ip]; omega)
  have nq : ∀ q f, loL v c (iq q f) = v (iq q f) := fun q f => nl _ (by simp only [iq]; omega)
  have hN : eqN v (loL v c) := ⟨nl 4 (by omega), fun i h1 _ => nl i (by omega), fun q hq => nq q 12⟩
  have hx : eqXb τ τ' := ⟨fun K c h1 h2 _ => ht _ _ _ _ (by omega) (by omega), fun p' r' _ _ => ⟨ht _ _ _ _ (by omega) (by omega), ht _ _ _ _ (by omega) (by omega)⟩⟩
  have e5 : loL v c 5 = 1 := by unfold loL; rw [up_n _ _ (by omega), up_n _ _ (by omega), up_n _ _ (by omega), up_n _ _ (by omega), up_s]
  refine ⟨⟨?_, cfQ_c (fun _ _ _ => ht _ _ _ _ (by omega) (by omega)) (fun q f _ _ => nq q f) hQ, cfP_c (fun _ _ => ht _ _ _ _ (by omega) (by omega)) (fun p f _ _ _ => np p f) hPp, cfL_c (fun _ _ => ht _ _ _ _ (by omega) (by omega)) (fun p c' _ _ => np p _) hLs, ?_, fun _ k hk => ?_, wfP_c (fun p f _ _ => np p f) wP, wfQ_c (fun q f _ _ => nq q f) wQ, wfT_c (fun q _ => ⟨nq q 12, nq q 5⟩) (fun p _ => ⟨np p 6, np p 7⟩) wT, wfN_c (fun p f _ _ _ => np p f) (fun p r f _ _ _ _ _ => nq _ f) wN, MW_of (MX_c hN h8 (MX_of hM)) (mwA_c hN (fun q hq => by rw [nq, nq, nq]) (MX_of hM) hM.2.2.2.2.2.2.2.2.2), RX_c hN h8 hx (MX_of hM) hX, ?_⟩, gr_c h6 (ht _ _ _ _ (by omega) (by omega)) (ht _ _ _ _ (by omega) (by omega)) (fun p _ => ⟨np p 2, np p 3⟩) (nl 10 (by omega)) hg, wfS_c h6 (nl 0 (by omega)) (fun p f _ _ => np p f) (fun q f _ _ _ => nq q f) hS, fun p r h1 h2 => by rw [ht _ _ _ _ (by omega) (by omega)]; exact hpr p r h1 h2⟩
  · obtain ⟨g0, g1, g2, g3, g4, g5, g6, g7⟩ := hG
    exact ⟨by rw [nl 0 (by omega)]; exact g0, g1, g2, by rw [nl 1 (by omega)]; exact g3, g4, g5, by rw [nl 2 (by omega)]; exact g6, by rw [e5]; rfl⟩
  · obtain ⟨d0, d1, d2, d3, d4, d5⟩ := hDd
    exact ⟨by rw [ht _ _ _ _ (by omega) (by omega), nl 0 (by omega)]; exact d0, by rw [ht _ _ _ _ (by omega) (by omega), nl 1 (by omega)]; exact d1, by rw [ht _ _ _ _ (by omega) (by omega), nl 2 (by omega)]; exact d2, by rw [ht _ _ _ _ (by omega) (by omega), nl 3 (by omega)]; exact d3, by rw [ht _ _ _ _ (by omega) (by omega), nl 4 (by omega)]; exact d4, by rw [h9, e5]⟩
  · rw [hc (3 - k) (by omega)]
    unfold loL
    rcases (show k = 0 ∨ k = 1 ∨ k = 2 ∨ k = 3 by omega) with rfl | rfl | rfl | rfl
    · rw [up_n _ _ (by omega), up_n _ _ (by omega), up_n _ _ (by omega), up_s]
    · rw [up_n _ _ (by omega), up_n _ _ (by omega), up_s]
    · rw [up_n _ _ (by omega), up_s]
    · rw [up_s]
  · rw [nl 4 (by omega), nl 10 (by omega)]
    exact ⟨b1, b2, b3, b4⟩
theorem RW_loss {τ : xD} {v : xV} {b C P p c : Nat} {x : Int32} (h : RW τ v b C P) (hp : p < P) (hc : c < 10) : RW (lsT τ p c x) (loV v p c x) b C P := by
  have h6 := h.1.1.2.2.2.2.2.1
  refine RW_ofY (RY_loss (x := x) (RY_of h p) hp hc) ?_ ?_ ?_
  · rw [lsT_n (by omega) (by omega), lo_n (by simp only [ip]; omega) (by simp only [ip]; omega)]; exact h.1.2.2.1 p 7 4 (by omega) rfl
  · rw [lo_n (by simp only [ip]; omega) (by simp only [ip]; omega)]; exact (h.1.2.2.2.2.2.2.1 p (by omega)).2.2.2.1
  · rw [lsT_n (by omega) (by omega), lo_n (by simp only [ip]; omega) (by simp only [ip]; omega)]; exact h.1.2.2.1 p 11 9 (by omega) rfl
theorem nI_nm6 {j : Nat} (hj : j < 2 ^ 31) : ¬ nI j = -6 := fun q => by
  have := nI_pos (n := j) hj
  rw [q] at this
  exact this (by decide)
/-- an arrival that stage st' counts, and enters -/
theorem S_in {τ : xD} {v : xV} {b C P p r sz : Nat} (h : RW τ v b C P) (hb : b + 1 < 2 ^ 31) (hp : p < P) (hr : r < 3) (h1 : 1 ≤ sz) (h12 : sz ≤ 12) (st st' : Int32) (hst : τ 0 0 0 10 = st) (hcs : (¬ st = 3 ∧ st' = 1 ∧ rs v p (nI sz) = 0) ∨ (¬ st = 3 ∧ st' = 2 ∧ ¬ rs v p (nI sz) = 0 ∧ pc v (3 * p + r) (rs v p (nI sz)) (mFree v P) = 0) ∨ (st = 3 ∧ st' = 3 ∧ rs v p (nI sz) ≤ v (ip p 1) - s3 v p 8)) : ∃ τ' v', (∀ σ d, (x_b (fX0_chargeCells d d p d p r (nI sz) (va_up σ d τ)) fun z3 s3 => x_let (s3 d 0 0 0 5) fun t4 => x_b (fX1_place d t4 (nI sz) s3) fun z5 s5 => x_b (fX1_joinQueue d d p r z5 s5) fun z6 s6 => x_let (x_set s6 d 0 0 0 5 ((s6 d 0 0 0 5) + 1)) fun s7 => some (t4, s7)) = some (v 4, va_up σ d τ')) ∧ (∀ σ, BX6_arrives_105 (nI (3 * p + r)) (nI sz) st' (x_row σ 5 31 0 0 v) = some (v 4, x_row σ 5 31 0 0 v')) ∧ RW τ' v' (b + 1) C P ∧ (∀ i, i < 160 → i ≠ 4 → v' i = cntV v P p (3 * p + r) (nI sz) st' i) ∧ (∀ q f, q < 18 → f < 12 → v' (iq q f) = cntV v P p (3 * p + r) (nI sz) st' (iq q f)) ∧ (∀ i, 6464 ≤ i → v' i = v i) := by
  obtain ⟨τ1, v1, k1, k2, k3, k4, k5, k6⟩ := S_chg h hp hr h1 h12 st st' hst hcs
  obtain ⟨c, τa, τb, v', e1, e2, e3, e4, e5, e6, e7, e8, e9⟩ := S_enter k3 hp hr h1 h12 hb
  have hv4 : τ 0 0 0 5 = v 4 := h.1.2.2.2.2.1.2.2.2.2.1
  have ecnt : v1 = cntV v P p (3 * p + r) (nI sz) st' := k6
  refine ⟨dset τb 0 0 0 5 (τ1 0 0 0 5 + 1), v', fun σ d => ?_, fun σ => ?_, e9, fun i a1 a2 => ?_, fun q f a1 a2 => ?_, fun i hi => ?_⟩
  · rw [k1, b_s, up_s, l_v, e1, b_s, e2, b_s, up_s, e3, set_own, l_v, k4, hv4]
  · rw [BX6_arrives_105, k2, b_s, e4, b_s, row_rd, e5, k5 4 (by omega)]
    congr 2
    grind
  · rw [e6 i a1 a2, ecnt]
  · rw [e7 q f a1 a2, ecnt]
  · rw [e8 i hi, k5 i (by omega)]
theorem S_arrive {τ : xD} {v : xV} {b C P p r sz : Nat} (h : RW τ v b C P) (hb : b + 1 < 2 ^ 31) (hp : p < P) (hr : r < 3) (h1 : 1 ≤ sz) (h12 : sz ≤ 12) : ∃ res st τ' v', (∀ σ d, d < 4 → fX0_receive d d p d p r (nI sz) (va_up σ d τ) = some (res, va_up σ d τ')) ∧ (∀ σ, ∃ σ', fX6_arrives (nI (3 * p + r)) (nI sz) (x_row σ 5 31 0 0 v) = some (res, x_row σ' 5 31 0 0 v') ∧ fr σ σ') ∧ RW τ' v' (b + 1) C P ∧ (st = 0 ↔ res = -6) ∧ (v 2 = 0 → st = dz v P p (3 * p + r) (nI sz) ∧ (st ≠ 0 → (∀ i, i < 160 → i ≠ 4 → v' i = cntV v P p (3 * p + r) (nI sz) st i) ∧ (∀ q f, q < 18 → f < 12 → v' (iq q f) = cntV v P p (3 * p + r) (nI sz) st (iq q f)))) ∧ (∀ i, 6464 ≤ i → v' i = v i) := by
  have h6 := h.1.1.2.2.2.2.2.1
  have hp6 : p < 6 := by omega
  obtain ⟨st, n, τ1, jc, jj, j10, j12, jm, jf⟩ := S_judge (x := nI sz) h hp hr
  have hW1 := RW_J h jj
  have hv4 : 0 ≤ v 4 := h.1.2.2.2.2.2.2.2.2.2.2.2.2.1
  have hn6 : ¬ v 4 = -6 := fun q => by rw [q] at hv4; exact absurd hv4 (by decide)
  have epri : τ1 16 p r 0 = nI r := hW1.2.2.2 p r hp6 hr
  have hdz : v 2 = 0 → st = dz v P p (3 * p + r) (nI sz) := fun h2 => by
    obtain ⟨σ1, s1, -⟩ := jm (fun _ _ _ _ _ => 0)
    obtain ⟨σ2, s2, -⟩ := m_dec0 (x := nI sz) h.1.1.2.2.2.1 h6 hp6 hr h2 (fun _ _ _ _ _ => 0)
    rw [s1] at s2
    have := Option.some.inj s2
    exact (Prod.mk.inj this).1
  by_cases z0 : st = 0
  · -- it is lost
    subst z0
    have hf : τ1 12 0 0 1 = 2 ∨ τ1 12 0 0 1 = 3 := by
      rcases jf with ⟨a, -⟩ | ⟨a, -⟩ | ⟨a, -⟩ | ⟨a, -⟩ | ⟨-, -, a⟩
      · exact absurd a (by decide)
      · exact absurd a (by decide)
      · exact absurd a (by decide)
      · exact absurd a (by decide)
      · exact a
    obtain ⟨c, hc10, hcc⟩ : ∃ c, c < 10 ∧ (if v (iq (3 * p + r) 9) = 0 then τ1 12 0 0 1 else 5) = nI c := by
      by_cases y : v (iq (3 * p + r) 9) = 0
      · rw [if_pos y]
        rcases hf with e | e
        · exact ⟨2, by omega, e⟩
        · exact ⟨3, by omega, e⟩
      · rw [if_neg y]; exact ⟨5, by omega, rfl⟩
    generalize eτ2 : dset (drow τ1 11 0 0 (va_cpy (τ1 12 0 0) (τ1 11 0 0) 0 0 4)) 0 0 0 9 1 = τ2
    have t2n : ∀ K p' r' k, K ≠ 11 → (K ≠ 0 ∨ k ≠ 9) → τ2 K p' r' k = τ1 K p' r' k := fun K p' r' k a1 a2 => by rw [← eτ2, ds_n (by omega), dr_n (by omega)]
    have hWl : RW τ2 (loL v (fun i => τ1 12 0 0 (i - 1))) b C P := RW_lo hW1 t2n (by rw [← eτ2, ds_s]) (fun i hi => by rw [← eτ2, ds_n (by omega), dr_s, cpy_lt hi, Nat.add_sub_cancel])
    have e7 : τ2 16 p r 7 = v (iq (3 * p + r) 9) := by rw [t2n _ _ _ _ (by omega) (by omega)]; exact hW1.1.2.1 p r 7 9 hp6 hr rfl
    have e121 : τ2 12 0 0 1 = τ1 12 0 0 1 := t2n _ _ _ _ (by omega) (by omega)
    refine ⟨-6, 0, lsT τ2 p c (nI sz), loV (loL v (fun i => τ1 12 0 0 (i - 1))) p c (nI sz), fun σ d hd => ?_, fun σ => ?_, RW_mono (by omega) hb (RW_loss hWl hp hc10), ⟨fun _ => rfl, fun _ => rfl⟩, fun h2 => ⟨hdz h2, fun q => absurd rfl q⟩, fun i hi => ?_⟩
    · rw [fX0_receive, jc, b_s, up_s, j10, if_pos rfl, row_own, l_v, set_own, l_v, eτ2, up_s, e7, e121]
      by_cases y : v (iq (3 * p + r) 9) = 0
      · rw [if_pos y] at hcc ⊢
        rw [hcc, c_loss _ hc10, b_s]
      · rw [if_neg y] at hcc ⊢
        rw [show (5 : Int32) = nI c from hcc, c_loss _ hc10, b_s]
    · obtain ⟨σ', s1, s2, s3, -⟩ := jm σ
      have s3' := s3 rfl
      refine ⟨σ', ?_, s2⟩
      have eL : loL v (σ' 5 36 0 0) = loL v (fun i => τ1 12 0 0 (i - 1)) := by
        have q0 := s3' 0 (by omega)
        have q1 := s3' 1 (by omega)
        have q2 := s3' 2 (by omega)
        have q3 := s3' 3 (by omega)
        unfold loL
        rw [show σ' 5 36 0 0 1 = τ1 12 0 0 0 from q0, show σ' 5 36 0 0 2 = τ1 12 0 0 1 from q1, show σ' 5 36 0 0 3 = τ1 12 0 0 2 from q2, show σ' 5 36 0 0 4 = τ1 12 0 0 3 from q3]
      have h9' : loL v (fun i => τ1 12 0 0 (i - 1)) (160 + 16 * (3 * p + r) + 9) = v (iq (3 * p + r) 9) := loL_n (by omega)
      rw [fX6_arrives, s1, b_s, if_pos rfl, row_set, l_v, m_21, eL]
      show BX6_arrives_21 (nI (3 * p + r)) (nI sz) (199995 + 1) 4 _ = _
      rw [BX6_arrives_21, if_pos (by decide), m_queue_9, b_s, in_nI (by omega) (by omega), g_t, nI_clamp (by omega), row_rd, h9', div3 (by omega), show (3 * p + r) / 3 = p by omega, row_K _ _ (by decide), show σ' 5 36 0 0 2 = τ1 12 0 0 1 from s3' 1 (by omega)]
      rcases x_z_or (h.1.2.2.2.2.2.2.2.1 (3 * p + r) (by omega)).2.2.2.2.2.2.2.2.2.1 with y | y
      · rw [if_pos y] at hcc
        rw [y, if_neg (by decide), hcc, m_loses _ hp6 hc10, b_s]
      · rw [if_neg (by rw [y]; decide)] at hcc
        rw [y, if_pos rfl, show (5 : Int32) = nI c from hcc, m_loses _ hp6 hc10, b_s]
    · rw [lo_n (by omega) (by omega), loL_n (by omega)]
  · -- it is admitted
    have hcl : ∀ (σ : xS) d, d < 4 → fX0_receive d d p d p r (nI sz) (va_up σ d τ) = x_b (fX0_removeVictims d d p (nI r) (va_up σ d τ1)) fun z2 s2 => x_b (fX0_chargeCells d d p d p r (nI sz) s2) fun z3 s3 => x_let (s3 d 0 0 0 5) fun t4 => x_b (fX1_place d t4 (nI sz) s3) fun z5 s5 => x_b (fX1_joinQueue d d p r z5 s5) fun z6 s6 => x_let (x_set s6 d 0 0 0 5 ((s6 d 0 0 0 5) + 1)) fun s7 => some (t4, s7) := fun σ d hd => by
      rw [fX0_receive, jc, b_s, up_s, j10, if_neg z0, epri]
    by_cases z4 : st = 4
    · subst z4
      have hf : ¬ v 2 = 0 ∧ 1 ≤ n ∧ n ≤ VT v p r ∧ ¬ er (wvn v p n) P p (3 * p + r) (nI sz) = 0 := by
        rcases jf with ⟨a, -⟩ | ⟨a, -⟩ | ⟨a, -⟩ | ⟨-, a⟩ | ⟨a, -⟩
        · exact absurd a (by decide)
        · exact absurd a (by decide)
        · exact absurd a (by decide)
        · exact a
        · exact absurd a (by decide)
      obtain ⟨τ2, v2, m1, m2, m3, m4, m5, m6, m7⟩ := S_rem hW1 hp hr hf.2.1 hf.2.2.1 j12
      have her : ¬ er v2 P p (3 * p + r) (nI sz) = 0 := by rw [m4]; exact hf.2.2.2
      have hcs : (¬ (4 : Int32) = 3 ∧ er v2 P p (3 * p + r) (nI sz) = 1 ∧ rs v2 p (nI sz) = 0) ∨ (¬ (4 : Int32) = 3 ∧ er v2 P p (3 * p + r) (nI sz) = 2 ∧ ¬ rs v2 p (nI sz) = 0 ∧ pc v2 (3 * p + r) (rs v2 p (nI sz)) (mFree v2 P) = 0) ∨ ((4 : Int32) = 3 ∧ er v2 P p (3 * p + r) (nI sz) = 3 ∧ rs v2 p (nI sz) ≤ v2 (ip p 1) - s3 v2 p 8) := by
        unfold er at her ⊢
        by_cases y : rs v2 p (nI sz) = 0
        · left; rw [if_pos y]; exact ⟨by decide, rfl, y⟩
        · right; left
          rw [if_neg y] at her ⊢
          by_cases w : pc v2 (3 * p + r) (rs v2 p (nI sz)) (mFree v2 P) = 0
          · rw [if_pos w]; exact ⟨by decide, rfl, y, w⟩
          · rw [if_neg w] at her; exact absurd rfl her
      obtain ⟨τ', v', g1, g2, g3, g4, g5, g6⟩ := S_in m3 hb hp hr h1 h12 4 (er v2 P p (3 * p + r) (nI sz)) (by rw [m5]; exact j10) hcs
      have hv2 : v2 1 = nI P := m3.1.1.2.2.2.1
      refine ⟨v 4, 4, τ', v', fun σ d hd => ?_, fun σ => ?_, g3, ⟨fun q => absurd q (by decide), fun q => absurd q hn6⟩, fun q => absurd q hf.1, fun i hi => by rw [g6 i hi, m7 i hi]⟩
      · rw [hcl σ d hd, m1 σ d hd, b_s, g1, m6]
      · obtain ⟨σ1, s1, s2, -, s4⟩ := jm σ
        have e7 := s4 rfl
        refine ⟨x_row σ1 5 36 0 0 (ec v2 P p (3 * p + r) (nI sz) (σ1 5 36 0 0)), ?_, fr_trans s2 (fr_row _ _ _ (by omega))⟩
        rw [fX6_arrives, s1, b_s, if_neg (by decide), if_pos rfl, m2 σ1 e7, b_s, m_early hv2 h6 hp6 hr, b_s, g2, m6]
    · -- stages 1 to 3
      have hcs : (¬ st = 3 ∧ st = 1 ∧ rs v p (nI sz) = 0) ∨ (¬ st = 3 ∧ st = 2 ∧ ¬ rs v p (nI sz) = 0 ∧ pc v (3 * p + r) (rs v p (nI sz)) (mFree v P) = 0) ∨ (st = 3 ∧ st = 3 ∧ rs v p (nI sz) ≤ v (ip p 1) - s3 v p 8) := by
        rcases jf with ⟨rfl, -, a⟩ | ⟨rfl, -, a, b⟩ | ⟨rfl, -, -, -, -, a⟩ | ⟨a, -⟩ | ⟨a, -⟩
        · exact Or.inl ⟨by decide, rfl, a⟩
        · exact Or.inr (Or.inl ⟨by decide, rfl, a, b⟩)
        · exact Or.inr (Or.inr ⟨rfl, rfl, a⟩)
        · exact absurd a z4
        · exact absurd a z0
      have hn : n = 0 := by
        rcases jf with ⟨-, a, -⟩ | ⟨-, a, -⟩ | ⟨-, a, -⟩ | ⟨a, -⟩ | ⟨a, -⟩
        · exact a
        · exact a
        · exact a
        · exact absurd a z4
        · exact absurd a z0
      rw [hn] at j12
      obtain ⟨τ', v', g1, g2, g3, g4, g5, g6⟩ := S_in hW1 hb hp hr h1 h12 st st j10 hcs
      refine ⟨v 4, st, τ', v', fun σ d hd => ?_, fun σ => ?_, g3, ⟨fun q => absurd q z0, fun q => absurd q hn6⟩, fun h2 => ⟨hdz h2, fun _ => ⟨g4, g5⟩⟩, g6⟩
      · rw [hcl σ d hd, c_rem0 hW1 hp hr hd j12, b_s, g1]
      · obtain ⟨σ1, s1, s2, -⟩ := jm σ
        refine ⟨σ1, ?_, s2⟩
        rw [fX6_arrives, s1, b_s, if_neg z0, if_neg z4, g2]
theorem xp11 : xP11 Inv := by
  intro n σ a1 a2 a3 hI hn
  obtain ⟨C, P, hW⟩ := RW_of hI hn
  obtain ⟨hP5, hP0, h1, h6⟩ := w_P hW
  rcases ix_cases a1 h6 with ⟨p, hp, rfl⟩ | ha
  · rcases ix3 a2 with ⟨r, hr, rfl⟩ | hb
    · by_cases hx : 1 ≤ a3 ∧ a3 ≤ 12
      · obtain ⟨sz, s1, s2, rfl⟩ := rng_nI (lo := 1) (hi := 12) (by omega) (by omega) hx
        obtain ⟨res, st, τ', v', kc, km, kW, -, -⟩ := S_arrive hW (by omega) hp hr s1 s2
        have kc' := kc σ 0 (by decide)
        rw [up_id] at kc'
        refine close3 (τ' := τ') (v' := v') (r := res) (fc := fX5_arrive (nI p) (nI r) (nI sz)) (fm := fX6_arrive (nI p) (nI r) (nI sz)) hI hn ?_ ?_ (RW_RR (RW_mono (by omega) (by omega) kW)) kW.2.2.2
        · rw [up_id, fX5_arrive, c_portAt_t hP0 h6 hp, b_s]
          show x_g (ok2 (0, p)) (x_b (fX0_queueAt 0 (nI p) (nI r) σ) _) = _
          rw [ok2_t (by decide) (by omega), g_t, c_queueAt_t hP0 h6 hp hr, b_s]
          show x_g (ok3 (0, p, r)) (x_b (fX5_isOutside (nI sz) 1 12 σ) fun z4 s4 => if z4 = 0 then (x_b (fX0_receive 0 0 p 0 p r (nI sz) s4) fun z5 s5 => some (z5, s5)) else (some ((-2), s4))) = _
          rw [ok3_t (by decide) (by omega) hr, g_t, c_out, b_s, if_pos hx, if_pos rfl, kc', b_s]
        · obtain ⟨σ', s1, s2⟩ := km (va_up σ 0 τ')
          refine ⟨σ', ?_, s2⟩
          rw [fX6_arrive, m_isQueue_t (v_P hW.1 _) h6 hp hr, b_s, if_neg (by decide), m_in, b_s, if_pos hx, if_neg (by decide), q3, s1, b_s]
      · refine ⟨-2, σ, σ, ?_, ?_, Inv_mono n σ hI⟩
        · rw [fX5_arrive, c_portAt_t hP0 h6 hp, b_s]
          show x_g (ok2 (0, p)) (x_b (fX0_queueAt 0 (nI p) (nI r) σ) _) = _
          rw [ok2_t (by decide) (by omega), g_t, c_queueAt_t hP0 h6 hp hr, b_s]
          show x_g (ok3 (0, p, r)) (x_b (fX5_isOutside a3 1 12 σ) _) = _
          rw [ok3_t (by decide) (by omega) hr, g_t, c_out, b_s, if_neg hx, if_neg (by decide)]
        · rw [fX6_arrive, m_isQueue_t hP5 h6 hp hr, b_s, if_neg (by decide), m_in, b_s, if_neg hx, if_pos rfl]
    · refine ⟨-1, σ, σ, ?_, ?_, Inv_mono n σ hI⟩
      · rw [fX5_arrive, c_portAt_t hP0 h6 hp, b_s]
        show x_g (ok2 (0, p)) (x_b (fX0_queueAt 0 (nI p) a2 σ) _) = _
        rw [ok2_t (by decide) (by omega), g_t, c_queueAt_r hP0 h6 hp hb, b_s]
      · rw [fX6_arrive, m_isQueue_r hP5 h6 hp hb, b_s, if_pos rfl]
  · refine ⟨-1, σ, σ, ?_, ?_, Inv_mono n σ hI⟩
    · rw [fX5_arrive, c_portAt_f hP0 ha, b_s]
      show x_b (fX0_queueAt 0 a1 a2 σ) _ = _
      rw [c_queueAt_p hP0 ha, b_s]
    · rw [fX6_arrive, m_isQueue_p hP5 h1 h6 ha, b_s, if_pos rfl]
