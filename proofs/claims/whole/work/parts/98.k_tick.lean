/-! ===== a tick ===== -/
theorem S_send {τ : xD} {v : xV} {b C P p : Nat} (h : RW τ v b C P) (hp : p < P) : ∃ m τ' v', (∀ σ d, d < 4 → fX0_send d d p (va_up σ d τ) = some (nI m, va_up σ d τ')) ∧ (∀ σ, fX6_sends (nI p) (x_row σ 5 31 0 0 v) = some (nI m, x_row σ 5 31 0 0 v')) ∧ RW τ' v' b C P ∧ v' (ip p 5) = v (ip p 5) ∧ (Nn v p ≠ 0 → Nn v' p = 0 ∨ v' (ip p 4) + Ti v p = v (ip p 4) + v (ip p 5) + Ti v' p) ∧ ∀ i, 6464 ≤ i → v' i = v i := by
  have hY := RY_of h p
  have h6 := hY.1.2.2.2.2.2.1
  have hp6 : p < 6 := by omega
  by_cases hN : Nn v p = 0
  · refine ⟨0, τ, v, fun σ d hd => ?_, fun σ => ?_, h, rfl, fun z => absurd hN z, fun _ _ => rfl⟩
    · rw [fX0_send, c_idleN hY hp, if_pos hN, b_s, if_neg (by decide)]; rfl
    · rw [fX6_sends, m_hasN hY hp, if_pos hN, b_s, if_pos rfl]; rfl
  · have hcP := h.1.2.2.1
    have wP := h.1.2.2.2.2.2.2.1 p hp6
    have wT := hY.2.2.2.2.2.2.2.2.1
    have wQ := hY.2.2.2.2.2.2.2.1
    have e7 : τ 13 p 0 7 = v (ip p 4) := hcP p 7 4 hp6 rfl
    have e6 : τ 13 p 0 6 = v (ip p 5) := hcP p 6 5 hp6 rfl
    have e5 : τ 13 p 0 5 = v (ip p 8) := hcP p 5 8 hp6 rfl
    have e11 : τ 13 p 0 11 = v (ip p 9) := hcP p 11 9 hp6 rfl
    generalize ecr : v (ip p 4) + v (ip p 5) = cr
    have hcr : rg cr 0 27 := by
      obtain ⟨-, -, -, w4, w5, -⟩ := wP
      unfold rg at *; grind
    have nv : ∀ i, i ≠ 16 + 24 * p + 4 → va_up v (ip p 4) cr i = v i := fun i hi => up_n _ _ hi
    have hY0 : RY (dset τ 13 p 0 7 cr) (va_up v (ip p 4) cr) b C P p := by
      refine RY_snd (t := 0) hY hp (by omega) (fun K p' r' k a1 a2 => ds_n (by omega)) (fun i a1 a2 a3 a4 a5 => nv i a2) ?_ ?_ ?_ ?_ ?_ ?_ (fun r' hr' => ?_)
      · rw [ds_n (by omega), nv _ (by simp only [iq]; omega)]; exact hY.2.1 p 0 6 5 hp6 (by omega) rfl
      · rw [ds_n (by omega), nv _ (by simp only [ip]; omega)]; exact hcP p 8 6 hp6 rfl
      · rw [ds_n (by omega), nv _ (by simp only [ip]; omega)]; exact hcP p 9 7 hp6 rfl
      · rw [nv _ (by simp only [iq]; omega)]; exact (wQ _ (by omega)).2.2.2.2.2.1
      · rw [nv _ (by simp only [ip]; omega)]; exact wP.2.2.2.2.2.1
      · rw [nv _ (by simp only [ip]; omega)]; exact wP.2.2.2.2.2.2.1
      · rw [nv _ (by simp only [iq]; omega), nv _ (by simp only [iq]; omega), nv _ (by simp only [ip]; omega), nv _ (by simp only [ip]; omega)]
        exact wT p r' hp6 hr'
    have eN : Nn (va_up v (ip p 4) cr) p = Nn v p := far_Nn (fun q => nv _ (by simp only [iq]; omega))
    have eT : Ti (va_up v (ip p 4) cr) p = Ti v p := far_Ti (fun q f _ _ => nv _ (by simp only [iq]; omega))
    have hN8 := (Nn_s3 hY hp).2.1
    have key : ∃ m τ' v', (∀ σ d, d < 4 → (if v (ip p 8) = 0 then fX0_sendByPriority d d p (va_up σ d (dset τ 13 p 0 7 cr)) else fX0_sendInTurns d d p (va_up σ d (dset τ 13 p 0 7 cr))) = some (nI m, va_up σ d τ')) ∧ (∀ σ, BX6_sends_37 (nI p) x_FU 0 1 (x_row σ 5 31 0 0 (va_up v (ip p 4) cr)) = some (nI m, x_row σ 5 31 0 0 v')) ∧ RY τ' v' b C P p ∧ SR (dset τ 13 p 0 7 cr) τ' (va_up v (ip p 4) cr) v' p m := by
      rcases x_z_or wP.2.2.2.2.2.2.2 with z | z
      · obtain ⟨m, τ', v', g1, g2, g3, g4⟩ := prio_loop hp _ 0 0 x_FU x_FU _ _ hY0 rfl (by rw [ds_s, up_s]) (by rw [up_s]; exact hcr) (fun y => by omega) (by rw [nv _ (by simp only [ip]; omega), z]; decide) (by omega) (by unfold x_FU; omega) (by unfold x_FU; omega)
        rw [Nat.zero_add] at g1 g2
        exact ⟨m, τ', v', fun σ d hd => by rw [if_pos z]; exact g1 σ d hd, g2, g3, g4⟩
      · have hmu := mu_bd (va_up v (ip p 4) cr) p
        obtain ⟨m, τ', v', g1, g2, g3, g4⟩ := robin_loop hp (mu (va_up v (ip p 4) cr) p) x_FU x_FU (by unfold x_FU; omega) (by unfold x_FU; omega) 0 0 _ _ hY0 (by rw [ds_s, up_s]) (by rw [up_s]; exact hcr) (fun y => by omega) (by rw [nv _ (by simp only [ip]; omega), z]) (Nat.le_refl _) (by omega)
        rw [Nat.zero_add] at g1 g2
        exact ⟨m, τ', v', fun σ d hd => by rw [if_neg (by rw [z]; decide)]; exact g1 σ d hd, g2, g3, g4⟩
    obtain ⟨m, τ1, v', g1, g2, g3, g4⟩ := key
    obtain ⟨s1, s2, s3, s4, s5, s6, s7, s8⟩ := g4
    refine ⟨m, dset τ1 13 p 0 11 (τ1 13 p 0 11 + nI m), v', fun σ d hd => ?_, fun σ => ?_, ?_, ?_, fun _ => ?_, fun i hi => ?_⟩
    · have k1 := g1 σ d hd
      rw [fX0_send, c_idleN hY hp, if_neg hN, b_s, if_pos rfl, up_s, e7, e6, ecr, set_own, l_v, up_s, ds_n (show 13 ≠ 13 ∨ p ≠ p ∨ 0 ≠ 0 ∨ 5 ≠ 7 by omega), e5]
      by_cases z : v (ip p 8) = 0
      · rw [if_pos z] at k1 ⊢
        rw [k1, b_s, up_s, set_own, l_v]
      · rw [if_neg z] at k1 ⊢
        rw [k1, b_s, up_s, set_own, l_v]
    · rw [fX6_sends, m_hasN hY hp, if_neg hN, b_s, if_neg (by decide), m_port_4, b_s, in_nI (by omega) (by omega), g_t, m_port_5, b_s, in_nI (by omega) (by omega), g_t, g_t, nI_clamp (by omega), nI_clamp (by omega), row_rd, row_set, l_v]
      have e : v (16 + 24 * p + 4) + v (16 + 24 * p + 5) = cr := ecr
      rw [e]
      exact g2 σ
    · have wT' := g3.2.2.2.2.2.2.2.2.1
      have hYe : RY (dset τ1 13 p 0 11 (τ1 13 p 0 11 + nI m)) v' b C P p := by
        refine RY_snd (t := 0) g3 hp (by omega) (fun K p' r' k a1 a2 => ds_n (by omega)) (fun i _ _ _ _ _ => rfl) ?_ ?_ ?_ ?_ ?_ ?_ (fun r' hr' => wT' p r' hp6 hr')
        · rw [ds_n (by omega)]; exact g3.2.1 p 0 6 5 hp6 (by omega) rfl
        · rw [ds_n (by omega)]; exact g3.2.2.1 p 8 6 hp6 rfl (by omega)
        · rw [ds_n (by omega)]; exact g3.2.2.1 p 9 7 hp6 rfl (by omega)
        · exact (g3.2.2.2.2.2.2.2.1 _ (by omega)).2.2.2.2.2.1
        · exact (g3.2.2.2.2.2.2.1 p hp6).2.2.2.2.2.1
        · exact (g3.2.2.2.2.2.2.1 p hp6).2.2.2.2.2.2.1
      refine RW_ofY hYe (by rw [ds_n (by omega)]; exact s1) s2 ?_
      rw [ds_s, s3, s4, ds_n (by omega), e11, nv _ (by simp only [ip]; omega)]
    · rw [s5, nv _ (by simp only [ip]; omega)]
    · rcases s6 with e | e
      · exact Or.inl e
      · right; rw [eT, up_s] at e; rw [e]
        try rw [ecr]
    · rw [s8 i hi, nv i (by omega)]
theorem tick_sends {b C P : Nat} : ∀ (n i a : Nat) (τ : xD) (v : xV), RW τ v b C P → i ≤ P → P < n + i → ∃ m τ' v', (∀ σ d, d < 4 → BX0_passTick_4 d n (nI a) (nI i) (va_up σ d τ) = BX0_passTick_38 d (nI (a + m)) (mFree v' P) x_FU 0 (va_up σ d τ')) ∧ (∀ σ, BX6_tick_4 n (nI a) (nI i) (x_row σ 5 31 0 0 v) = BX6_tick_30 (nI (a + m)) x_FU 0 (x_row σ 5 31 0 0 v')) ∧ RW τ' v' b C P := by
  intro n
  induction n with
  | zero => intro i a τ v h h1 h2; omega
  | succ n ih =>
    intro i a τ v h h1 h2
    have h6 := h.1.1.2.2.2.2.2.1
    have hP1 := h.1.1.2.2.2.1
    by_cases e : i < P
    · obtain ⟨m, τ1, v1, k1, k2, k3, -⟩ := S_send h e
      obtain ⟨m', τ', v', g1, g2, g3⟩ := ih (i + 1) (a + m) τ1 v1 k3 (by omega) (by omega)
      refine ⟨m + m', τ', v', fun σ d hd => ?_, fun σ => ?_, g3⟩
      · rw [BX0_passTick_4, t_P h.1, if_neg (nI_ge e (by omega)), in_nI (by omega) (by omega), g_t, nI_clamp (by omega), k1 σ d hd, b_s, l_v, l_v, nI_add, nI_1, g1 σ d hd, Nat.add_assoc]
      · rw [BX6_tick_4, row_rd, hP1, if_neg (nI_ge e (by omega)), k2, b_s, l_v, l_v, nI_add, nI_1, g2, Nat.add_assoc]
    · have : i = P := by omega
      subst this
      refine ⟨0, τ, v, fun σ d hd => ?_, fun σ => ?_, h⟩
      · rw [BX0_passTick_4, t_P h.1, if_pos (nI_le (Nat.le_refl _) (by omega)), t_free h.1, b_s]; rfl
      · rw [BX6_tick_4, row_rd, hP1, if_pos (nI_le (Nat.le_refl _) (by omega))]; rfl
def tk1 (v : xV) (i : Nat) : xV := fun m => if 160 ≤ m ∧ (m - 160) % 16 = 3 ∧ (m - 160) / 16 < i then i_min (v (m - 2)) (v m + v (m - 1)) else v m
def tk2 (v : xV) (F : Int32) (i : Nat) : xV := fun m => if 160 ≤ m ∧ (m - 160) % 16 = 10 ∧ (m - 160) / 16 < i ∧ v m = 1 ∧ v (m - 2) = 0 ∧ ¬ v (m - 10) * F / 8 < v (m - 3) + 2 then 0 else v m
theorem tk1_n {v : xV} {i m : Nat} (h : ¬ (160 ≤ m ∧ (m - 160) % 16 = 3 ∧ (m - 160) / 16 < i)) : tk1 v i m = v m := by rw [tk1, if_neg h]
theorem tk1_q {v : xV} {i q f : Nat} (hf : f < 16) (h : f ≠ 3 ∨ i ≤ q) : tk1 v i (iq q f) = v (iq q f) := tk1_n (by simp only [iq]; omega)
theorem tk1_3 {v : xV} {i q : Nat} (h : q < i) : tk1 v i (iq q 3) = i_min (v (iq q 1)) (v (iq q 3) + v (iq q 2)) := by
  rw [tk1, if_pos (by simp only [iq]; omega)]
  rfl
theorem tk2_n {v : xV} {F : Int32} {i m : Nat} (h : ¬ (160 ≤ m ∧ (m - 160) % 16 = 10 ∧ (m - 160) / 16 < i)) : tk2 v F i m = v m := by rw [tk2, if_neg (fun z => h ⟨z.1, z.2.1, z.2.2.1⟩)]
theorem tk2_q {v : xV} {F : Int32} {i q f : Nat} (hf : f < 16) (h : f ≠ 10 ∨ i ≤ q) : tk2 v F i (iq q f) = v (iq q f) := tk2_n (by simp only [iq]; omega)
theorem tk2_10 {v : xV} {F : Int32} {i q : Nat} (h : q < i) : tk2 v F i (iq q 10) = if v (iq q 10) = 1 ∧ v (iq q 8) = 0 ∧ ¬ v (iq q 0) * F / 8 < v (iq q 7) + 2 then 0 else v (iq q 10) := by
  have e : (iq q 10 - 2 = iq q 8 ∧ iq q 10 - 10 = iq q 0 ∧ iq q 10 - 3 = iq q 7) := by simp only [iq]; omega
  rw [tk2, e.1, e.2.1, e.2.2]
  by_cases z : v (iq q 10) = 1 ∧ v (iq q 8) = 0 ∧ ¬ v (iq q 0) * F / 8 < v (iq q 7) + 2
  · rw [if_pos z, if_pos ⟨by simp only [iq]; omega, by simp only [iq]; omega, by simp only [iq]; omega, z⟩]
  · rw [if_neg z, if_neg (fun y => z y.2.2.2)]
theorem m_tick30 {σ : xS} {v : xV} {P : Nat} {a : Int32} (hP : v 1 = nI P) (h6 : P ≤ 6) : ∀ n i, i ≤ 3 * P → 3 * P < n + i → BX6_tick_30 a n (nI i) (x_row σ 5 31 0 0 (tk1 v i)) = BX6_tick_94 a x_FU 0 (x_row σ 5 31 0 0 (tk1 v (3 * P))) := by
  intro n
  induction n with
  | zero => intro i h1 h2; omega
  | succ n ih =>
    intro i h1 h2
    have hP' : tk1 v i 1 = nI P := by rw [tk1_n (by omega)]; exact hP
    rw [BX6_tick_30, row_rd, hP', q30]
    by_cases e : i < 3 * P
    · rw [if_neg (nI_ge e (by omega)), m_queue_3, b_s, m_queue_1, b_s, in_nI (by omega) (by omega), g_t, m_queue_3, b_s, in_nI (by omega) (by omega), g_t, m_queue_2, b_s, in_nI (by omega) (by omega), g_t, nI_clamp (by omega), nI_clamp (by omega), nI_clamp (by omega), row_rd, m_least, b_s, g_t, row_set, l_v, l_v, nI_1, ← ih (i + 1) (by omega) (by omega)]
      congr 2
      funext m
      have a1 : tk1 v i (160 + 16 * i + 1) = v (iq i 1) := tk1_q (by omega) (by omega)
      have a2 : tk1 v i (160 + 16 * i + 2) = v (iq i 2) := tk1_q (by omega) (by omega)
      have a3 : tk1 v i (160 + 16 * i + 3) = v (iq i 3) := tk1_q (by omega) (by omega)
      rw [a1, a2, a3]
      by_cases z : m = 160 + 16 * i + 3
      · subst z
        rw [up_s]
        exact (tk1_3 (v := v) (show i < i + 1 by omega)).symm
      · rw [up_n _ _ z]
        unfold tk1
        by_cases y : 160 ≤ m ∧ (m - 160) % 16 = 3 ∧ (m - 160) / 16 < i
        · rw [if_pos y, if_pos (by omega)]
        · rw [if_neg y, if_neg (by omega)]
    · have : i = 3 * P := by omega
      subst this
      rw [if_pos (nI_le (Nat.le_refl _) (by omega))]
theorem m_tick94 {σ : xS} {v : xV} {P : Nat} {a F : Int32} (hP : v 1 = nI P) (h6 : P ≤ 6) (hF : mFree v P = F) : ∀ n i, i ≤ 3 * P → 3 * P < n + i → BX6_tick_94 a n (nI i) (x_row σ 5 31 0 0 (tk2 v F i)) = some (a, x_row σ 5 31 0 0 (va_up (tk2 v F (3 * P)) 3 (v 3 + 1))) := by
  intro n
  induction n with
  | zero => intro i h1 h2; omega
  | succ n ih =>
    intro i h1 h2
    have hP' : tk2 v F i 1 = nI P := by rw [tk2_n (by omega)]; exact hP
    rw [BX6_tick_94, row_rd, hP', q30]
    by_cases e : i < 3 * P
    · have a10 : tk2 v F i (160 + 16 * i + 10) = v (iq i 10) := tk2_q (by omega) (by omega)
      have a8 : tk2 v F i (160 + 16 * i + 8) = v (iq i 8) := tk2_q (by omega) (by omega)
      have a7 : tk2 v F i (160 + 16 * i + 7) = v (iq i 7) := tk2_q (by omega) (by omega)
      have a0 : tk2 v F i (iq i 0) = v (iq i 0) := tk2_q (by omega) (by omega)
      have aF : mFree (tk2 v F i) P = F := by
        rw [← hF]
        exact mFree_c h6 (tk2_n (by omega)) (fun p f h1 h2 => tk2_n (by simp only [ip]; omega)) (fun q h1 => tk2_q (by omega) (by omega))
      have hs : tk2 v F (i + 1) = if v (iq i 10) = 1 ∧ v (iq i 8) = 0 ∧ ¬ v (iq i 0) * F / 8 < v (iq i 7) + 2 then va_up (tk2 v F i) (iq i 10) 0 else tk2 v F i := by
        have ne : ∀ m, m ≠ iq i 10 → tk2 v F (i + 1) m = tk2 v F i m := fun m hm => by
          by_cases y : 160 ≤ m ∧ (m - 160) % 16 = 10 ∧ (m - 160) / 16 < i
          · unfold tk2
            by_cases w : v m = 1 ∧ v (m - 2) = 0 ∧ ¬ v (m - 10) * F / 8 < v (m - 3) + 2
            · rw [if_pos ⟨y.1, y.2.1, by omega, w⟩, if_pos ⟨y.1, y.2.1, y.2.2, w⟩]
            · rw [if_neg (fun q => w q.2.2.2), if_neg (fun q => w q.2.2.2)]
          · rw [tk2_n y, tk2_n (by simp only [iq] at hm; omega)]
        funext m
        by_cases z : m = iq i 10
        · subst z
          rw [tk2_10 (show i < i + 1 by omega)]
          by_cases w : v (iq i 10) = 1 ∧ v (iq i 8) = 0 ∧ ¬ v (iq i 0) * F / 8 < v (iq i 7) + 2
          · rw [if_pos w, if_pos w, up_s]
          · rw [if_neg w, if_neg w, tk2_q (by omega) (by omega)]
        · rw [ne m z]
          split
          · rw [up_n _ _ z]
          · rfl
      have fin := ih (i + 1) (by omega) (by omega)
      rw [if_neg (nI_ge e (by omega)), m_queue_10, b_s, in_nI (by omega) (by omega), g_t, nI_clamp (by omega), row_rd, a10]
      by_cases w1 : v (iq i 10) = 1
      · rw [if_pos w1, m_queue_8, b_s, in_nI (by omega) (by omega), g_t, nI_clamp (by omega), row_rd, a8]
        by_cases w2 : v (iq i 8) = 0
        · rw [if_pos w2, m_queue_7, b_s, in_nI (by omega) (by omega), g_t, m_limit (q := i) (by rw [row_rd]; exact hP') h6 (by omega), b_s, show vv (x_row σ 5 31 0 0 (tk2 v F i)) = tk2 v F i from row_rd _ _, aF, a0, nI_clamp (by omega), row_rd, a7]
          by_cases w3 : v (iq i 0) * F / 8 < v (iq i 7) + 2
          · rw [if_pos w3, l_v, nI_1, ← fin, hs, if_neg (fun y => y.2.2 w3)]
          · rw [if_neg w3, m_queue_10, b_s, in_nI (by omega) (by omega), g_t, nI_clamp (by omega), row_set, l_v, l_v, nI_1, ← fin, hs, if_pos ⟨w1, w2, w3⟩]
        · rw [if_neg w2, l_v, nI_1, ← fin, hs, if_neg (fun y => w2 y.2.1)]
      · rw [if_neg w1, l_v, nI_1, ← fin, hs, if_neg (fun y => w1 y.1)]
    · have : i = 3 * P := by omega
      subst this
      rw [if_pos (nI_le (Nat.le_refl _) (by omega)), row_set, l_v, tk2_n (show ¬ (160 ≤ 3 ∧ (3 - 160) % 16 = 10 ∧ (3 - 160) / 16 < 3 * P) by omega)]
def tkT (τ : xD) (F : Int32) (i : Nat) : xD := fun K p r k => if K = 16 ∧ r < 3 ∧ 3 * p + r < i ∧ k = 4 then i_min (τ 16 p r 2) (τ 16 p r 4 + τ 16 p r 3) else if K = 16 ∧ r < 3 ∧ 3 * p + r < i ∧ k = 8 ∧ τ 16 p r 12 = 0 ∧ ¬ τ 16 p r 1 * F / 8 < τ 16 p r 11 + 2 then 0 else τ K p r k
theorem tkT_n {τ : xD} {F : Int32} {i K p r k : Nat} (h : K ≠ 16 ∨ i ≤ 3 * p + r ∨ (k ≠ 4 ∧ k ≠ 8)) : tkT τ F i K p r k = τ K p r k := by
  rw [tkT, if_neg (by omega), if_neg (fun z => by omega)]
theorem tkT_4 {τ : xD} {F : Int32} {i p r : Nat} (hr : r < 3) (h : 3 * p + r < i) : tkT τ F i 16 p r 4 = i_min (τ 16 p r 2) (τ 16 p r 4 + τ 16 p r 3) := by
  rw [tkT, if_pos ⟨rfl, hr, h, rfl⟩]
theorem tkT_8 {τ : xD} {F : Int32} {i p r : Nat} (hr : r < 3) (h : 3 * p + r < i) : tkT τ F i 16 p r 8 = if τ 16 p r 12 = 0 ∧ ¬ τ 16 p r 1 * F / 8 < τ 16 p r 11 + 2 then 0 else τ 16 p r 8 := by
  rw [tkT, if_neg (by omega)]
  by_cases z : τ 16 p r 12 = 0 ∧ ¬ τ 16 p r 1 * F / 8 < τ 16 p r 11 + 2
  · rw [if_pos z, if_pos ⟨rfl, hr, h, rfl, z⟩]
  · rw [if_neg z, if_neg (fun y => z y.2.2.2.2)]
theorem tkT_s {τ : xD} {F : Int32} {p r : Nat} (hr : r < 3) : tkT τ F (3 * p + r + 1) = if τ 16 p r 12 = 0 ∧ ¬ τ 16 p r 1 * F / 8 < τ 16 p r 11 + 2 then dset (dset (tkT τ F (3 * p + r)) 16 p r 4 (i_min (τ 16 p r 2) (τ 16 p r 4 + τ 16 p r 3))) 16 p r 8 0 else dset (tkT τ F (3 * p + r)) 16 p r 4 (i_min (τ 16 p r 2) (τ 16 p r 4 + τ 16 p r 3)) := by
  have ne : ∀ K p' r' k, (K ≠ 16 ∨ p' ≠ p ∨ r' ≠ r ∨ (k ≠ 4 ∧ k ≠ 8)) → tkT τ F (3 * p + r + 1) K p' r' k = tkT τ F (3 * p + r) K p' r' k := fun K p' r' k h => by
    unfold tkT
    by_cases a : K = 16 ∧ r' < 3 ∧ 3 * p' + r' < 3 * p + r ∧ k = 4
    · rw [if_pos a, if_pos (by omega)]
    · rw [if_neg a, if_neg (by omega)]
      by_cases c : K = 16 ∧ r' < 3 ∧ 3 * p' + r' < 3 * p + r ∧ k = 8
      · by_cases w : τ 16 p' r' 12 = 0 ∧ ¬ τ 16 p' r' 1 * F / 8 < τ 16 p' r' 11 + 2
        · rw [if_pos ⟨c.1, c.2.1, by omega, c.2.2.2, w⟩, if_pos ⟨c.1, c.2.1, c.2.2.1, c.2.2.2, w⟩]
        · rw [if_neg (fun y => w y.2.2.2.2), if_neg (fun y => w y.2.2.2.2)]
      · rw [if_neg (fun y => by omega), if_neg (fun y => by omega)]
  funext K p' r' k
  by_cases h : K = 16 ∧ p' = p ∧ r' = r ∧ (k = 4 ∨ k = 8)
  · obtain ⟨rfl, rfl, rfl, rfl | rfl⟩ := h
    · rw [tkT_4 hr (by omega)]
      split
      · rw [ds_n (by omega), ds_s]
      · rw [ds_s]
    · rw [tkT_8 hr (by omega)]
      split
      · rw [ds_s]
      · rw [ds_n (by omega), tkT_n (by omega)]
  · rw [ne _ _ _ _ (by omega)]
    split
    · rw [ds_n (by omega), ds_n (by omega)]
    · rw [ds_n (by omega)]
theorem c_tick65 {σ : xS} {τ : xD} {d p : Nat} {a1 F a3 : Int32} {k : Int32 → xS → Option (Int32 × xS)} : ∀ n r, r ≤ 3 → 3 < n + r → BX0_passTick_65 d a1 F a3 d p 3 k n (nI r) (va_up σ d (tkT τ F (3 * p + r))) = k (a3 + 1) (va_up σ d (tkT τ F (3 * p + 3))) := by
  intro n
  induction n with
  | zero => intro r h1 h2; omega
  | succ n ih =>
    intro r h1 h2
    rw [BX0_passTick_65]
    by_cases e : r < 3
    · have fin := ih (r + 1) (by omega) (by omega)
      have hs := tkT_s (τ := τ) (F := F) (p := p) e
      have e1 : (3 * p + (r + 1)) = 3 * p + r + 1 := by omega
      have b2 : tkT τ F (3 * p + r) 16 p r 2 = τ 16 p r 2 := tkT_n (by omega)
      have b3 : tkT τ F (3 * p + r) 16 p r 3 = τ 16 p r 3 := tkT_n (by omega)
      have b4 : tkT τ F (3 * p + r) 16 p r 4 = τ 16 p r 4 := tkT_n (by omega)
      have b12 : tkT τ F (3 * p + r) 16 p r 12 = τ 16 p r 12 := tkT_n (by omega)
      have b1 : tkT τ F (3 * p + r) 16 p r 1 = τ 16 p r 1 := tkT_n (by omega)
      have b11 : tkT τ F (3 * p + r) 16 p r 11 = τ 16 p r 11 := tkT_n (by omega)
      rw [if_neg (show ¬ (3 : Int32) ≤ nI r from nI_ge (b := 3) e (by omega)), in_nI e (by omega), g_t, nI_clamp (by omega), up_s, b2, b3, b4, set_own, l_v, up_s, ds_n (show 16 ≠ 16 ∨ p ≠ p ∨ r ≠ r ∨ 12 ≠ 4 by omega), b12]
      by_cases w1 : τ 16 p r 12 = 0
      · rw [if_pos w1, fX3_limitWith, b_s, up_s, ds_n (show 16 ≠ 16 ∨ p ≠ p ∨ r ≠ r ∨ 1 ≠ 4 by omega), b1, ds_n (show 16 ≠ 16 ∨ p ≠ p ∨ r ≠ r ∨ 11 ≠ 4 by omega), b11]
        by_cases w2 : τ 16 p r 1 * F / 8 < τ 16 p r 11 + 2
        · rw [if_pos w2, l_v, nI_1, ← fin, e1, hs, if_neg (fun y => y.2 w2)]
        · rw [if_neg w2, set_own, l_v, l_v, nI_1, ← fin, e1, hs, if_pos ⟨w1, w2⟩]
      · rw [if_neg w1, l_v, nI_1, ← fin, e1, hs, if_neg (fun y => w1 y.1)]
    · have : r = 3 := by omega
      subst this
      rw [if_pos (by decide), l_v]
theorem c_tick38 {σ : xS} {τ : xD} {d P : Nat} {a1 F : Int32} (hP : τ 0 0 0 2 = nI P) (h6 : P ≤ 6) : ∀ n i, i ≤ P → P < n + i → BX0_passTick_38 d a1 F n (nI i) (va_up σ d (tkT τ F (3 * i))) = some (a1, va_up σ d (dset (tkT τ F (3 * P)) 0 0 0 4 (τ 0 0 0 4 + 1))) := by
  intro n
  induction n with
  | zero => intro i h1 h2; omega
  | succ n ih =>
    intro i h1 h2
    have hP' : tkT τ F (3 * i) 0 0 0 2 = nI P := by rw [tkT_n (by omega)]; exact hP
    rw [BX0_passTick_38, up_s, hP']
    by_cases e : i < P
    · have fin := ih (i + 1) (by omega) (by omega)
      rw [if_neg (nI_ge e (by omega)), in_nI (by omega) (by omega), g_t, nI_clamp (by omega)]
      show BX0_passTick_65 d a1 F (nI i) d i 3 _ x_FU (nI 0) (va_up σ d (tkT τ F (3 * i + 0))) = _
      rw [c_tick65 x_FU 0 (by omega) (by unfold x_FU; omega), nI_1, ← fin]
      rfl
    · have : i = P := by omega
      subst this
      rw [if_pos (nI_le (Nat.le_refl _) (by omega)), set_own, l_v, tkT_n (show 0 ≠ 16 ∨ _ by omega)]
theorem RW_tick {τ : xD} {v : xV} {b C P : Nat} (h : RW τ v b C P) : RW (dset (tkT τ (mFree v P) (3 * P)) 0 0 0 4 (τ 0 0 0 4 + 1)) (va_up (tk2 (tk1 v (3 * P)) (mFree v P) (3 * P)) 3 (v 3 + 1)) b C P := by
  obtain ⟨⟨hG, hQ, hPp, hLs, hDd, hRf, wP, wQ, wT, wN, hM, hX, b1, b2, b3, b4⟩, hg, hS, hpr⟩ := h
  have h6 := hG.2.2.2.2.2.1
  have h8 := hG.2.2.1
  generalize mFree v P = F
  have nl : ∀ i, i < 160 → i ≠ 3 → va_up (tk2 (tk1 v (3 * P)) F (3 * P)) 3 (v 3 + 1) i = v i := fun i h1 h2 => by rw [up_n _ _ h2, tk2_n (by omega), tk1_n (by omega)]
  have nh : ∀ i, 448 ≤ i → va_up (tk2 (tk1 v (3 * P)) F (3 * P)) 3 (v 3 + 1) i = v i := fun i h1 => by rw [up_n _ _ (by omega), tk2_n (by omega), tk1_n (by omega)]
  have nq : ∀ q f, f < 16 → f ≠ 3 → f ≠ 10 → va_up (tk2 (tk1 v (3 * P)) F (3 * P)) 3 (v 3 + 1) (iq q f) = v (iq q f) := fun q f h1 h2 h3 => by rw [up_n _ _ (by simp only [iq]; omega), tk2_q h1 (Or.inl h3), tk1_q h1 (Or.inl h2)]
  have nqo : ∀ q f, f < 16 → 3 * P ≤ q → va_up (tk2 (tk1 v (3 * P)) F (3 * P)) 3 (v 3 + 1) (iq q f) = v (iq q f) := fun q f h1 h2 => by rw [up_n _ _ (by simp only [iq]; omega), tk2_q h1 (Or.inr h2), tk1_q h1 (Or.inr h2)]
  have np : ∀ p f, p < 6 → f < 24 → va_up (tk2 (tk1 v (3 * P)) F (3 * P)) 3 (v 3 + 1) (ip p f) = v (ip p f) := fun p f h1 h2 => nl _ (by simp only [ip]; omega) (by simp only [ip]; omega)
  have q3' : ∀ q, q < 3 * P → va_up (tk2 (tk1 v (3 * P)) F (3 * P)) 3 (v 3 + 1) (iq q 3) = i_min (v (iq q 1)) (v (iq q 3) + v (iq q 2)) := fun q h1 => by rw [up_n _ _ (by simp only [iq]; omega), tk2_q (by omega) (by omega), tk1_3 h1]
  have q10 : ∀ q, q < 3 * P → va_up (tk2 (tk1 v (3 * P)) F (3 * P)) 3 (v 3 + 1) (iq q 10) = if v (iq q 10) = 1 ∧ v (iq q 8) = 0 ∧ ¬ v (iq q 0) * F / 8 < v (iq q 7) + 2 then 0 else v (iq q 10) := fun q h1 => by rw [up_n _ _ (by simp only [iq]; omega), tk2_10 h1, tk1_q (by omega) (by omega), tk1_q (by omega) (by omega), tk1_q (by omega) (by omega), tk1_q (by omega) (by omega)]
  have nt : ∀ K p r k, (K ≠ 16 ∨ (k ≠ 4 ∧ k ≠ 8)) → (K ≠ 0 ∨ k ≠ 4) → dset (tkT τ F (3 * P)) 0 0 0 4 (τ 0 0 0 4 + 1) K p r k = τ K p r k := fun K p r k h1 h2 => by rw [ds_n (by omega), tkT_n (by omega)]
  have hN : eqN v (va_up (tk2 (tk1 v (3 * P)) F (3 * P)) 3 (v 3 + 1)) := ⟨nl 4 (by omega) (by omega), fun i h1 _ => nh i h1, fun q hq => nq q 12 (by omega) (by omega) (by omega)⟩
  have hx : eqXb τ (dset (tkT τ F (3 * P)) 0 0 0 4 (τ 0 0 0 4 + 1)) := ⟨fun K c h1 h2 _ => nt _ _ _ _ (by omega) (by omega), fun p' r' _ _ => ⟨nt _ _ _ _ (by omega) (by omega), nt _ _ _ _ (by omega) (by omega)⟩⟩
  refine ⟨⟨wfG_c (nl 0 (by omega) (by omega)) (nl 1 (by omega) (by omega)) (nl 2 (by omega) (by omega)) (nl 5 (by omega) (by omega)) hG, fun p r k f h1 h2 hk => ?_, cfP_c (fun _ _ => nt _ _ _ _ (by omega) (by omega)) (fun p f h1 h2 _ => np p f h1 (by omega)) hPp, cfL_c (fun _ _ => nt _ _ _ _ (by omega) (by omega)) (fun p c h1 h2 => np p _ h1 (by omega)) hLs, ?_, cfR_c (fun k' => nt _ _ _ _ (by omega) (by omega)) (fun i h1 hi => nl i (by omega) (by omega)) hRf, wfP_c (fun p f h1 h2 => np p f h1 (by omega)) wP, fun q hq => ?_, wfT_c (fun q _ => ⟨nq q 12 (by omega) (by omega) (by omega), nq q 5 (by omega) (by omega) (by omega)⟩) (fun p h1 => ⟨np p 6 h1 (by omega), np p 7 h1 (by omega)⟩) wT, wfN_c (fun p f h0 h1 h2 => np p f h1 (by omega)) (fun p r f h0 h1 h2 h3 h4 => nqo _ f (by omega) (by omega)) wN, MW_of (MX_c hN h8 (MX_of hM)) (mwA_c hN (fun q hq => by rw [nq q 6 (by omega) (by omega) (by omega), nq q 7 (by omega) (by omega) (by omega), nq q 8 (by omega) (by omega) (by omega)]) (MX_of hM) hM.2.2.2.2.2.2.2.2.2), RX_c hN h8 hx (MX_of hM) hX, ?_⟩, gr_c h6 (nt _ _ _ _ (by omega) (by omega)) (nt _ _ _ _ (by omega) (by omega)) (fun p h1 => ⟨np p 2 h1 (by omega), np p 3 h1 (by omega)⟩) (nl 10 (by omega) (by omega)) hg, wfS_c h6 (nl 0 (by omega) (by omega)) (fun p f h1 h2 => np p f h1 (by omega)) (fun q f h1 h2 h3 => nq q f (by omega) (by omega) (by omega)) hS, fun p r h1 h2 => by rw [nt _ _ _ _ (by omega) (by omega)]; exact hpr p r h1 h2⟩
  · have hkl := qm_lt hk
    by_cases e : 3 * p + r < 3 * P
    · by_cases e4 : k = 4
      · subst e4
        have : f = 3 := by simp only [qm, Option.some.injEq] at hk; exact hk.symm
        subst this
        rw [ds_n (by omega), tkT_4 h2 e, q3' _ e, hQ p r 2 1 h1 h2 rfl, hQ p r 4 3 h1 h2 rfl, hQ p r 3 2 h1 h2 rfl]
      · by_cases e8 : k = 8
        · subst e8
          have : f = 10 := by simp only [qm, Option.some.injEq] at hk; exact hk.symm
          subst this
          rw [ds_n (by omega), tkT_8 h2 e, q10 _ e, hQ p r 12 8 h1 h2 rfl, hQ p r 1 0 h1 h2 rfl, hQ p r 11 7 h1 h2 rfl, hQ p r 8 10 h1 h2 rfl]
          by_cases w : v (iq (3 * p + r) 8) = 0 ∧ ¬ v (iq (3 * p + r) 0) * F / 8 < v (iq (3 * p + r) 7) + 2
          · rw [if_pos w]
            rcases x_z_or (wQ (3 * p + r) (by omega)).2.2.2.2.2.2.2.2.2.2 with z | z
            · rw [if_neg (fun y => by rw [z] at y; exact absurd y.1 (by decide)), z]
            · rw [if_pos ⟨z, w⟩]
          · rw [if_neg w, if_neg (fun y => w y.2)]
        · rw [nt _ _ _ _ (by omega) (by omega), nq _ f (by omega) (fun y => e4 ?_) (fun y => e8 ?_)]
          · exact hQ p r k f h1 h2 hk
          · exact qm_inj hk (show qm 4 = some f from by rw [y]; rfl)
          · exact qm_inj hk (show qm 8 = some f from by rw [y]; rfl)
    · rw [ds_n (by omega), tkT_n (by omega), nqo _ f (by omega) (by omega)]
      exact hQ p r k f h1 h2 hk
  · obtain ⟨d0, d1, d2, d3, d4, d5⟩ := hDd
    refine ⟨?_, ?_, ?_, ?_, ?_, ?_⟩
    · rw [nt _ _ _ _ (by omega) (by omega), nl 0 (by omega) (by omega)]; exact d0
    · rw [nt _ _ _ _ (by omega) (by omega), nl 1 (by omega) (by omega)]; exact d1
    · rw [nt _ _ _ _ (by omega) (by omega), nl 2 (by omega) (by omega)]; exact d2
    · rw [ds_s, up_s, d3]
    · rw [nt _ _ _ _ (by omega) (by omega), nl 4 (by omega) (by omega)]; exact d4
    · rw [nt _ _ _ _ (by omega) (by omega), nl 5 (by omega) (by omega)]; exact d5
  · have w := wQ q hq
    by_cases e : q < 3 * P
    · obtain ⟨a0, a1, a2, a3, a4, a5, a6, a7, a8, a9, a10⟩ := w
      rw [nq q 0 (by omega) (by omega) (by omega), nq q 1 (by omega) (by omega) (by omega), nq q 2 (by omega) (by omega) (by omega), nq q 4 (by omega) (by omega) (by omega), nq q 5 (by omega) (by omega) (by omega), nq q 6 (by omega) (by omega) (by omega), nq q 7 (by omega) (by omega) (by omega), nq q 8 (by omega) (by omega) (by omega), nq q 9 (by omega) (by omega) (by omega), q3' q e, q10 q e]
      refine ⟨a0, a1, a2, ?_, a4, a5, a6, a7, a8, a9, ?_⟩
      · have m1 := imin_l (v (iq q 1)) (v (iq q 3) + v (iq q 2))
        unfold rg at *
        have m0 : 0 ≤ i_min (v (iq q 1)) (v (iq q 3) + v (iq q 2)) := imin_0 a1.1 (by grind)
        exact ⟨m0, by grind⟩
      · split
        · rfl
        · exact a10
    · rw [nqo q 0 (by omega) (by omega), nqo q 1 (by omega) (by omega), nqo q 2 (by omega) (by omega), nqo q 3 (by omega) (by omega), nqo q 4 (by omega) (by omega), nqo q 5 (by omega) (by omega), nqo q 6 (by omega) (by omega), nqo q 7 (by omega) (by omega), nqo q 8 (by omega) (by omega), nqo q 9 (by omega) (by omega), nqo q 10 (by omega) (by omega)]
      exact w
  · rw [nl 4 (by omega) (by omega), nl 10 (by omega) (by omega)]
    exact ⟨b1, b2, b3, b4⟩
theorem S_tick {τ : xD} {v : xV} {b C P : Nat} (h : RW τ v b C P) : ∃ m τ' v', (∀ σ d, d < 4 → fX0_passTick d (va_up σ d τ) = some (nI m, va_up σ d τ')) ∧ (∀ σ, fX6_tick (x_row σ 5 31 0 0 v) = some (nI m, x_row σ 5 31 0 0 v')) ∧ RW τ' v' b C P := by
  have h6 := h.1.1.2.2.2.2.2.1
  obtain ⟨m, τ1, v1, k1, k2, k3⟩ := tick_sends x_FU 0 0 τ v h (by omega) (by unfold x_FU; omega)
  rw [Nat.zero_add] at k1 k2
  have hP1 := k3.1.1.2.2.2.1
  have hPt : τ1 0 0 0 2 = nI P := k3.1.2.2.2.2.1.2.1.trans hP1
  refine ⟨m, _, _, fun σ d hd => (k1 σ d hd).trans ?_, fun σ => (k2 σ).trans ?_, RW_tick k3⟩
  · have := c_tick38 (σ := σ) (d := d) (a1 := nI m) (F := mFree v1 P) hPt h6 x_FU 0 (by omega) (by unfold x_FU; omega)
    rw [← this]
    have e : tkT τ1 (mFree v1 P) (3 * 0) = τ1 := by
      funext K p r k
      exact tkT_n (by omega)
    rw [e]; rfl
  · have e0 : tk1 v1 0 = v1 := by
      funext i
      exact tk1_n (by omega)
    have a := m_tick30 (σ := σ) (v := v1) (a := nI m) hP1 h6 x_FU 0 (by omega) (by unfold x_FU; omega)
    rw [e0] at a
    have hP2 : tk1 v1 (3 * P) 1 = nI P := by rw [tk1_n (by omega)]; exact hP1
    have hF : mFree (tk1 v1 (3 * P)) P = mFree v1 P := mFree_c h6 (tk1_n (by omega)) (fun p f h1 h2 => tk1_n (by simp only [ip]; omega)) (fun q h1 => tk1_q (by omega) (by omega))
    have c := m_tick94 (σ := σ) (v := tk1 v1 (3 * P)) (a := nI m) hP2 h6 hF x_FU 0 (by omega) (by unfold x_FU; omega)
    have e2 : tk2 (tk1 v1 (3 * P)) (mFree v1 P) 0 = tk1 v1 (3 * P) := by
      funext i
      exact tk2_n (by omega)
    rw [e2, tk1_n (show ¬ (160 ≤ 3 ∧ (3 - 160) % 16 = 3 ∧ (3 - 160) / 16 < 3 * P) by omega)] at c
    exact a.trans c
theorem ticks_loop {b C P N : Nat} (hN : N ≤ 20) : ∀ (n i a : Nat) (τ : xD) (v : xV), RW τ v b C P → i ≤ N → N < n + i → ∃ m τ' v', (∀ σ, BX5_ticks_17 (nI N) n (nI a) (nI i) (va_up σ 0 τ) = some (nI m, va_up σ 0 τ')) ∧ (∀ σ, BX6_ticking_4 (nI N) n (nI a) (nI i) (x_row σ 5 31 0 0 v) = some (nI m, x_row σ 5 31 0 0 v')) ∧ RW τ' v' b C P := by
  intro n
  induction n with
  | zero => intro i a τ v h h1 h2; omega
  | succ n ih =>
    intro i a τ v h h1 h2
    by_cases e : i < N
    · obtain ⟨m, τ1, v1, k1, k2, k3⟩ := S_tick h
      obtain ⟨m', τ', v', g1, g2, g3⟩ := ih (i + 1) (a + m) τ1 v1 k3 (by omega) (by omega)
      refine ⟨m', τ', v', fun σ => ?_, fun σ => ?_, g3⟩
      · rw [BX5_ticks_17, if_neg (nI_ge e (by omega)), k1 σ 0 (by decide), b_s, l_v, l_v, nI_add, nI_1, g1]
      · rw [BX6_ticking_4, if_neg (nI_ge e (by omega)), k2, b_s, l_v, l_v, nI_add, nI_1, g2]
    · have : i = N := by omega
      subst this
      refine ⟨a, τ, v, fun σ => ?_, fun σ => ?_, h⟩
      · rw [BX5_ticks_17, if_pos (nI_le (Nat.le_refl _) (by omega))]
      · rw [BX6_ticking_4, if_pos (nI_le (Nat.le_refl _) (by omega))]
theorem xp12 : xP12 Inv := by
  intro n σ a1 hI hn
  obtain ⟨C, P, hW⟩ := RW_of hI hn
  by_cases hx : 1 ≤ a1 ∧ a1 ≤ 20
  · obtain ⟨N, n1, n2, rfl⟩ := rng_nI (lo := 1) (hi := 20) (by omega) (by omega) hx
    obtain ⟨r, τ', v', kc, km, kW⟩ := ticks_loop n2 x_FU 0 0 _ _ hW (by omega) (by unfold x_FU; omega)
    refine close2 (τ' := τ') (v' := v') (r := nI r) (fc := fX5_ticks (nI N)) (fm := fX6_ticks (nI N)) hI hn ?_ ?_ (RW_RR (RW_mono (by omega) (by omega) kW)) kW.2.2.2
    · rw [fX5_ticks, c_out, b_s, if_pos hx, if_pos rfl]
      exact kc σ
    · rw [fX6_ticks, m_in, b_s, if_pos hx, if_neg (by decide), fX6_ticking]
      show x_b (BX6_ticking_4 (nI N) x_FU (nI 0) (nI 0) _) _ = _
      rw [km, b_s]
  · refine ⟨-2, σ, σ, ?_, ?_, Inv_mono n σ hI⟩
    · rw [fX5_ticks, c_out, b_s, if_neg hx, if_neg (by decide)]
    · rw [fX6_ticks, m_in, b_s, if_neg hx, if_pos rfl]
