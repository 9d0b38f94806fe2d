def gEnd (a1 a2 a3 a4 : Int32) (σ : xS) : Option (Int32 × xS) := if 2 ≤ a4 then (x_b (fX6_keeps σ) fun _ s25 => if a3 = (-5) then (BX6_grant_144 a1 a2 a3 s25) else (x_b (fX6_drops a3 s25) fun _ s26 => BX6_grant_144 a1 a2 a3 s26)) else (x_b (fX6_keeps σ) fun _ s27 => BX6_grant_144 a1 a2 (-5) s27)
theorem nI_nm5 {j : Nat} (hj : j < 2 ^ 31) : ¬ nI j = -5 := fun q => by
  have : 0 ≤ nI j := nI_pos' hj
  rw [q] at this
  exact absurd this (by decide)
theorem grant_loop {σ : xS} {v : xV} {P a b : Nat} {A X : Int32} (h6 : P ≤ 6) (hP : v 1 = nI P) (hz : ∀ i, i < P → (v (ip i 3) ≤ 0 ↔ i ≠ a ∧ i ≠ b)) (hab : a ≠ b) (hb : b < P → a < P) (hlt : b < P → v (ip a 3) < v (ip b 3)) : ∀ m i, i ≤ P → P < m + i → BX6_grant_45 A X m (if a < i then nI a else if b < i then nI b else -5) (if a < i then (if b < i then 2 else 1) else if b < i then 1 else 0) (nI i) (x_row σ 5 31 0 0 v) = gEnd A X (if a < P then nI a else -5) (if a < P then (if b < P then 2 else 1) else 0) (x_row σ 5 31 0 0 v) := by
  intro m
  induction m with
  | zero => intro i h1 h2; omega
  | succ m ih =>
    intro i h1 h2
    rw [BX6_grant_45, row_rd, hP]
    by_cases e : i < P
    · rw [if_neg (nI_ge e (by omega)), m_port_3, b_s, in_nI (by omega) (by omega), g_t, nI_clamp (by omega), row_rd]
      have hi := ih (i + 1) (by omega) (by omega)
      by_cases q : v (ip i 3) ≤ 0
      · obtain ⟨q1, q2⟩ := (hz i e).mp q
        rw [if_pos (show v (16 + 24 * i + 3) ≤ 0 from q), l_v, nI_1]
        simp only [show (a < i + 1) ↔ (a < i) by omega, show (b < i + 1) ↔ (b < i) by omega] at hi
        exact hi
      · rw [if_neg (show ¬ v (16 + 24 * i + 3) ≤ 0 from q), l_v]
        have q' : i = a ∨ i = b := by
          by_cases q1 : i = a
          · exact Or.inl q1
          · by_cases q2 : i = b
            · exact Or.inr q2
            · exact absurd ((hz i e).mpr ⟨q1, q2⟩) q
        rcases q' with rfl | rfl
        · -- the older one
          rw [if_pos (show i < i + 1 by omega)] at hi
          rw [if_neg (show ¬ i < i by omega), if_neg (show ¬ i < i by omega)]
          simp only [if_pos (show i < i + 1 by omega), show (b < i + 1) ↔ (b < i) by omega] at hi
          by_cases qb : b < i
          · rw [if_pos qb, if_pos qb, if_neg (nI_nm5 (by omega)), m_port_3, b_s, in_nI (by omega) (by omega), g_t, m_port_3, b_s, in_nI (by omega) (by omega), g_t, nI_clamp (by omega), nI_clamp (by omega), row_rd]
            have hl := hlt (by omega)
            rw [if_neg (show ¬ v (16 + 24 * b + 3) ≤ v (16 + 24 * i + 3) from by
              show ¬ v (ip b 3) ≤ v (ip i 3)
              grind), l_v, nI_1]
            rw [if_pos qb] at hi
            exact hi
          · rw [if_neg qb, if_neg qb, if_pos rfl, l_v, nI_1]
            rw [if_neg qb] at hi
            exact hi
        · -- the newer one
          have ha := hb e
          rw [if_pos (show i < i + 1 by omega)] at hi
          rw [if_neg (show ¬ i < i by omega), if_neg (show ¬ i < i by omega), if_neg (show ¬ i < i by omega)]
          simp only [if_pos (show i < i + 1 by omega), show (a < i + 1) ↔ (a < i) by omega] at hi
          by_cases qa : a < i
          · rw [if_pos qa, if_pos qa, if_neg (nI_nm5 (by omega)), m_port_3, b_s, in_nI (by omega) (by omega), g_t, m_port_3, b_s, in_nI (by omega) (by omega), g_t, nI_clamp (by omega), nI_clamp (by omega), row_rd]
            have hl := hlt e
            rw [if_pos (show v (16 + 24 * a + 3) ≤ v (16 + 24 * i + 3) from by
              show v (ip a 3) ≤ v (ip i 3)
              grind), l_v, nI_1]
            rw [if_pos qa, if_pos qa] at hi
            exact hi
          · rw [if_neg qa, if_neg qa, if_pos rfl, l_v, nI_1]
            rw [if_neg qa, if_neg qa] at hi
            exact hi
    · have ei : i = P := by omega
      subst ei
      rw [if_pos (nI_le (Nat.le_refl _) (by omega)), gEnd]
      by_cases qa : a < i
      · simp only [if_pos qa]
      · have qb : ¬ b < i := fun q => qa (hb q)
        simp only [if_neg qa, if_neg qb]
theorem S_144 {τ : xD} {v u : xV} {b C P p : Nat} {x a3 : Int32} (hW : RW τ v b C P) (hb : b + 1 < 2 ^ 31) (hp : p < P) (hx : 1 ≤ x ∧ x ≤ 32) (hu : ∀ i, 6464 ≤ i → v i = u i) : (x - v (ip p 2) ≤ mFree v P ∧ ∀ σ, BX6_grant_144 (nI p) x a3 (x_row σ 5 31 0 0 v) = BX6_grant_179 (nI p) x a3 (x_row σ 5 31 0 0 v)) ∨ (¬ x - v (ip p 2) ≤ mFree v P ∧ ∀ σ, (∀ j, j < 6464 → σ 5 32 0 0 j = u j) → BX6_grant_144 (nI p) x a3 (x_row σ 5 31 0 0 v) = some (-3, x_row σ 5 31 0 0 u)) := by
  have hR := hW.1
  have h6 := hR.1.2.2.2.2.2.1
  have hfr := hW.2.2.1.2
  have hw := (hR.2.2.2.2.2.2.1 p (by omega)).2.2.1
  unfold rg at hw
  have hstep : ∀ σ, BX6_grant_144 (nI p) x a3 (x_row σ 5 31 0 0 v) = if x - v (ip p 2) ≤ 0 then BX6_grant_179 (nI p) x a3 (x_row σ 5 31 0 0 v) else if x - v (ip p 2) ≤ mFree v P then BX6_grant_179 (nI p) x a3 (x_row σ 5 31 0 0 v) else x_b (fX6_brings (x_row σ 5 31 0 0 v)) fun _ s24 => some (-3, s24) := fun σ => by
    rw [BX6_grant_144, m_port_2, b_s, in_nI (by omega) (by omega), g_t, nI_clamp (by omega), row_rd, l_v, v_free hR, b_s]
  by_cases e : x - v (ip p 2) ≤ mFree v P
  · refine Or.inl ⟨e, fun σ => ?_⟩
    rw [hstep]
    by_cases e0 : x - v (ip p 2) ≤ 0
    · rw [if_pos e0]
    · rw [if_neg e0, if_pos e]
  · refine Or.inr ⟨e, fun σ hs => ?_⟩
    rw [hstep, if_neg (by grind), if_neg e, m_brings hs hu, b_s]
theorem fr_32 (σ : xS) (w : xV) : fr σ (x_row σ 5 32 0 0 w) := fr_row σ 32 w (Or.inl rfl)
/-- grant, as a whole -/
theorem S_grant {τ : xD} {v : xV} {b C P p : Nat} {x : Int32} (hW : RW τ v b C P) (hb : b + 1 < 2 ^ 31) (hp : p < P) (hx : 1 ≤ x ∧ x ≤ 32) : ∃ r τ' v', (∀ σ, fX0_giveGrant 0 0 p (nI p) x (va_up σ 0 τ) = some (r, va_up σ 0 τ')) ∧ (∀ σ, ∃ σ', fX6_grant (nI p) x (x_row σ 5 31 0 0 v) = some (r, x_row σ' 5 31 0 0 v') ∧ fr σ σ') ∧ RW τ' v' (b + 1) C P := by
  have hR := hW.1
  have hgr := hW.2.1
  have h6 := hR.1.2.2.2.2.2.1
  have hp6 : p < 6 := by omega
  have gz := gr_zero hgr hp6
  have hP1 := hR.1.2.2.2.1
  have e4 : τ 13 p 0 4 = v (ip p 2) := hR.2.2.1 p 4 2 hp6 rfl
  have hW1 := RW_mono (show b ≤ b + 1 by omega) hb hW
  -- the reference up to the loop
  have hm0 : ∀ σ, fX6_grant (nI p) x (x_row σ 5 31 0 0 v) = if v (ip p 3) = 0 then BX6_grant_45 (nI p) x x_FU (-5) 0 0 (x_row σ 5 31 0 0 v) else x_b (fX6_keeps (x_row σ 5 31 0 0 v)) fun _ s5 => BX6_grant_144 (nI p) x (-5) s5 := fun σ => by
    rw [fX6_grant, m_isPort_t (v_P hR σ) h6 hp, b_s, if_neg (by decide), m_in, b_s, if_pos hx, if_neg (by decide), m_port_3, b_s, in_nI (by omega) (by omega), g_t, nI_clamp (by omega), row_rd]
  -- without one to drop
  have hno : (v (ip p 3) = 0 → τ 0 0 0 7 = -1) → (∀ σ, fX0_giveGrant 0 0 p (nI p) x (va_up σ 0 τ) = BX0_giveGrant_23 0 0 p (nI p) x (-1) (va_up σ 0 τ)) → (∀ σ, fX6_grant (nI p) x (x_row σ 5 31 0 0 v) = x_b (fX6_keeps (x_row σ 5 31 0 0 v)) fun _ s5 => BX6_grant_144 (nI p) x (-5) s5) → ∃ r τ' v', (∀ σ, fX0_giveGrant 0 0 p (nI p) x (va_up σ 0 τ) = some (r, va_up σ 0 τ')) ∧ (∀ σ, ∃ σ', fX6_grant (nI p) x (x_row σ 5 31 0 0 v) = some (r, x_row σ' 5 31 0 0 v') ∧ fr σ σ') ∧ RW τ' v' (b + 1) C P := by
    intro h7 hcl hmo
    have hc1 : ∀ σ, fX0_giveGrant 0 0 p (nI p) x (va_up σ 0 τ) = if x - v (ip p 2) ≤ mFree v P then BX0_giveGrant_97 0 0 p (nI p) x (-1) none (va_up σ 0 τ) else some (-3, va_up σ 0 τ) := fun σ => by
      rw [hcl, BX0_giveGrant_23, c_portAt_f (t_P hR σ 0) (Or.inl (by decide)), b_s]
      show x_b (fX0_sharedLeft 0 (va_up σ 0 τ)) _ = _
      rw [t_free hR, b_s, BX0_giveGrant_70.eq_def]
      show (if x - va_up σ 0 τ 0 13 p 0 4 ≤ mFree v P then _ else _) = _
      rw [up_s, e4]
    rcases S_144 (a3 := -5) hW hb hp hx (u := v) (fun _ _ => rfl) with ⟨hf, hm⟩ | ⟨hf, hm⟩
    · obtain ⟨τ', v', kc, -, km, kW, -⟩ := S_give hW hb hp hx hf h7
      refine ⟨-5, τ', v', fun σ => ?_, fun σ => ?_, kW⟩
      · rw [hc1, if_pos hf, kc]
      · obtain ⟨w, hw, hk⟩ := m_keeps σ v
        refine ⟨x_row σ 5 32 0 0 w, ?_, fr_32 σ w⟩
        rw [hmo, hk, b_s, hm, km]
    · refine ⟨-3, τ, v, fun σ => ?_, fun σ => ?_, hW1⟩
      · rw [hc1, if_neg hf]
      · obtain ⟨w, hw, hk⟩ := m_keeps σ v
        refine ⟨x_row σ 5 32 0 0 w, ?_, fr_32 σ w⟩
        rw [hmo, hk, b_s, hm _ (fun j hj => by rw [rowK_rd]; exact hw j hj)]
  by_cases h3 : v (ip p 3) = 0
  · have hz0 : v (ip p 2) = 0 := gz.mp h3
    have hcl0 : ∀ σ, fX0_giveGrant 0 0 p (nI p) x (va_up σ 0 τ) = if τ 0 0 0 7 = -1 then BX0_giveGrant_23 0 0 p (nI p) x (-1) (va_up σ 0 τ) else BX0_giveGrant_23 0 0 p (nI p) x (τ 0 0 0 6) (va_up σ 0 τ) := fun σ => by
      rw [fX0_giveGrant, up_s, e4, if_pos hz0]
    have hloop : ∀ a' b', a' ≠ b' → (b' < P → a' < P) → (∀ i, i < P → (v (ip i 3) ≤ 0 ↔ i ≠ a' ∧ i ≠ b')) → (b' < P → v (ip a' 3) < v (ip b' 3)) → ∀ σ, fX6_grant (nI p) x (x_row σ 5 31 0 0 v) = gEnd (nI p) x (if a' < P then nI a' else -5) (if a' < P then (if b' < P then 2 else 1) else 0) (x_row σ 5 31 0 0 v) := by
      intro a' b' k1 k2 k3 k4 σ
      have h := grant_loop (σ := σ) (A := nI p) (X := x) h6 hP1 k3 k1 k2 k4 x_FU 0 (by omega) (by unfold x_FU; omega)
      rw [if_neg (show ¬ a' < 0 by omega), if_neg (show ¬ b' < 0 by omega), if_neg (show ¬ a' < 0 by omega), if_neg (show ¬ b' < 0 by omega)] at h
      rw [hm0, if_pos h3]
      exact h
    rcases hgr.2 with ⟨a1, a2, a3⟩ | ⟨a, a0, a1, a2, a3, a4⟩ | ⟨a, b', a0, b0, ab, a1, a2, a3, a4, a5⟩
    · refine hno (fun _ => a2) (fun σ => by rw [hcl0, if_pos a2]) (fun σ => ?_)
      rw [hloop 7 8 (by decide) (by omega) (fun i hi => ⟨fun _ => by omega, fun _ => by rw [a3 i (by omega)]; decide⟩) (by omega) σ, if_neg (show ¬ 7 < P by omega), if_neg (show ¬ 7 < P by omega), gEnd, if_neg (by decide)]
    · refine hno (fun _ => a2) (fun σ => by rw [hcl0, if_pos a2]) (fun σ => ?_)
      rw [hloop a 8 (by omega) (by omega) (fun i hi => ⟨fun q => ⟨fun e => by rw [e] at q; grind, by omega⟩, fun q => by rw [a4 i (by omega) q.1]; decide⟩) (by omega) σ, if_pos a0, if_pos a0, if_neg (show ¬ 8 < P by omega), gEnd, if_neg (by decide)]
    · have h7 : ¬ τ 0 0 0 7 = -1 := by rw [a2]; exact nI_nm1 (by omega)
      have hap : p ≠ a := fun e => by rw [e] at h3; rw [h3] at a3; exact absurd a3 (by decide)
      have ha3 : ¬ v (ip a 3) = 0 := fun e => by rw [e] at a3; exact absurd a3 (by decide)
      have hml : ∀ σ, fX6_grant (nI p) x (x_row σ 5 31 0 0 v) = x_b (fX6_keeps (x_row σ 5 31 0 0 v)) fun _ s25 => x_b (fX6_drops (nI a) s25) fun _ s26 => BX6_grant_144 (nI p) x (nI a) s26 := fun σ => by
        rw [hloop a b' ab (fun _ => a0) (fun i hi => ⟨fun q => ⟨fun e => by rw [e] at q; grind, fun e => by rw [e] at q; grind⟩, fun q => by rw [a5 i (by omega) q.1 q.2]; decide⟩) (fun _ => a4) σ, if_pos a0, if_pos a0, if_pos b0, gEnd, if_pos (by decide)]
        simp only [if_neg (nI_nm5 (show a < 2 ^ 31 by omega))]
      obtain ⟨τ1, v1, dc, dm, dW, dP, d3, d10, d13, dmf, dbig⟩ := S_end hW (by omega) a0 ha3
      have ep2 : v1 (ip p 2) = v (ip p 2) := dP p 2 hp6 (by omega) hap
      have e2 : τ 13 a 0 2 = v (ip a 0) := hR.2.2.1 a 2 0 (by omega) rfl
      have e4a : τ 13 a 0 4 = v (ip a 2) := hR.2.2.1 a 4 2 (by omega) rfl
      have e6 : τ 16 a 0 10 + τ 16 a 1 10 + τ 16 a 2 10 = s3 v a 6 := by
        rw [hR.2.1 a 0 10 6 (by omega) (by omega) rfl, hR.2.1 a 1 10 6 (by omega) (by omega) rfl, hR.2.1 a 2 10 6 (by omega) (by omega) rfl]
        rfl
      have hc1 : ∀ σ, fX0_giveGrant 0 0 p (nI p) x (va_up σ 0 τ) = if x - v (ip p 2) ≤ mFree v1 P then BX0_giveGrant_97 0 0 p (nI p) x (nI a) (some (0, a)) (va_up σ 0 τ1) else some (-3, va_up σ 0 τ) := fun σ => by
        rw [hcl0, if_neg h7, a1, BX0_giveGrant_23, c_portAt_t (t_P hR σ 0) h6 a0, b_s]
        show x_g (ok2 (0, a)) (x_b (fX0_sharedLeft 0 (va_up σ 0 τ)) fun z14 s14 => x_b (fX2_guaranteedInUse 0 a s14) fun z15 s15 => x_let (z14 + ((s14 0 13 a 0 4) - (i_max 0 (z15 - (s15 0 13 a 0 2))))) fun t16 => BX0_giveGrant_70 0 0 p (nI p) x (nI a) (some (0, a)) t16 s15) = _
        rw [ok2_t (by decide) (by omega), g_t, t_free hR, b_s, fX2_guaranteedInUse, b_s, l_v, up_s, e4a, e2, e6, ← dmf, BX0_giveGrant_70.eq_def]
        show x_g (ok2 (0, a)) (if x - va_up σ 0 τ 0 13 p 0 4 ≤ mFree v1 P then x_b (fX0_endGrant 0 0 a (nI a) (va_up σ 0 τ)) fun z13 s13 => BX0_giveGrant_97 0 0 p (nI p) x (nI a) (some (0, a)) s13 else _) = _
        rw [ok2_t (by decide) (by omega), g_t, up_s, e4, dc, b_s]
      rcases S_144 (a3 := nI a) dW hb hp hx (u := v) dbig with ⟨hf, hm⟩ | ⟨hf, hm⟩
      · have h71 : v1 (ip p 3) = 0 → τ1 0 0 0 7 = -1 := fun _ => by
          rcases dW.2.1.2 with ⟨c1, c2, c3⟩ | ⟨c, c0, c1, c2, c3, c4⟩ | ⟨c, c', c0, c0', cc, c1, c2, c3, c4, c5⟩
          · exact c2
          · exact c2
          · exfalso
            have z1 : ∀ q, q < 6 → q ≠ a → q ≠ b' → v1 (ip q 3) = 0 := fun q hq e1 e2 => by rw [dP q 3 hq (by omega) e1]; exact a5 q hq e1 e2
            have hc : c = b' := by
              by_cases q1 : c = a
              · rw [q1, d3] at c3; exact absurd c3 (by decide)
              · by_cases q2 : c = b'
                · exact q2
                · rw [z1 c (by omega) q1 q2] at c3; exact absurd c3 (by decide)
            have hc' : c' = b' := by
              by_cases q1 : c' = a
              · rw [q1, d3] at c4; grind
              · by_cases q2 : c' = b'
                · exact q2
                · rw [z1 c' (by omega) q1 q2] at c4; grind
            exact cc (hc.trans hc'.symm)
        obtain ⟨τ', v', -, kc, km, kW, -⟩ := S_give dW hb hp hx hf h71
        refine ⟨nI a, τ', v', fun σ => ?_, fun σ => ?_, kW⟩
        · rw [hc1, if_pos (by rw [← ep2]; exact hf), kc σ 0 (nI a) a (by decide) (by omega)]
        · obtain ⟨w, hw, hk⟩ := m_keeps σ v
          refine ⟨x_row σ 5 32 0 0 w, ?_, fr_32 σ w⟩
          rw [hml, hk, b_s, dm, b_s, hm, km]
      · refine ⟨-3, τ, v, fun σ => ?_, fun σ => ?_, hW1⟩
        · rw [hc1, if_neg (by rw [← ep2]; exact hf)]
        · obtain ⟨w, hw, hk⟩ := m_keeps σ v
          refine ⟨x_row σ 5 32 0 0 w, ?_, fr_32 σ w⟩
          rw [hml, hk, b_s, dm, b_s, hm _ (fun j hj => by rw [rowK_rd]; exact hw j hj)]
  · exact hno (fun e => absurd e h3) (fun σ => by rw [fX0_giveGrant, up_s, e4, if_neg (fun q => h3 (gz.mpr q))]) (fun σ => by rw [hm0, if_neg h3])
theorem xp9 : xP9 Inv := by
  intro n σ a1 a2 hI hn
  obtain ⟨C, P, hW⟩ := RW_of hI hn
  obtain ⟨hP5, hP0, h1, h6⟩ := w_P hW
  rcases ix_cases a1 h6 with ⟨p, hp, rfl⟩ | ha
  · by_cases hx : 1 ≤ a2 ∧ a2 ≤ 32
    · obtain ⟨r, τ', v', kc, km, kW⟩ := S_grant hW (by omega) hp hx
      refine close3 (τ' := τ') (v' := v') (r := r) (fc := fX5_grant (nI p) a2) (fm := fX6_grant (nI p) a2) hI hn ?_ (km _) (RW_RR (RW_mono (by omega) (by omega) kW)) kW.2.2.2
      have kc' := kc σ
      rw [up_id] at kc' ⊢
      rw [fX5_grant, c_portAt_t hP0 h6 hp, b_s]
      show x_g (ok2 (0, p)) (x_b _ _) = _
      rw [ok2_t (by decide) (by omega), g_t, c_out, b_s, if_pos hx, if_pos rfl]
      show x_b (fX0_giveGrant 0 0 p (nI p) a2 σ) _ = _
      rw [kc', b_s]
    · refine ⟨-2, σ, σ, ?_, ?_, Inv_mono n σ hI⟩
      · rw [fX5_grant, c_portAt_t hP0 h6 hp, b_s]
        show x_g (ok2 (0, p)) (x_b _ _) = _
        rw [ok2_t (by decide) (by omega), g_t, c_out, b_s, if_neg hx, if_neg (by decide)]
      · rw [fX6_grant, m_isPort_t hP5 h6 hp, b_s, if_neg (by decide), m_in, b_s, if_neg hx, if_pos rfl]
  · refine ⟨-1, σ, σ, ?_, ?_, Inv_mono n σ hI⟩
    · rw [fX5_grant, c_portAt_f hP0 ha, b_s]
    · rw [fX6_grant, m_isPort_f hP5 h1 h6 ha, b_s, if_pos rfl]
