/-! ===== grants ===== -/
theorem gr_zero {τ : xD} {v : xV} {P p : Nat} (h : gr τ v P) (hp : p < 6) : v (ip p 3) = 0 ↔ v (ip p 2) = 0 := (h.1 p hp).2.2
theorem nIeq {a b : Nat} (ha : a < 2 ^ 31) (hb : b < 2 ^ 31) (h : nI a = nI b) : a = b := (nI_eq ha hb).mp h
/-- a grant ends -/
theorem S_end {τ : xD} {v : xV} {b C P a : Nat} (hW : RW τ v b C P) (hb : b < 2 ^ 31) (ha : a < P) (h3 : ¬ v (ip a 3) = 0) : ∃ τ' v', (∀ σ d, fX0_endGrant d d a (nI a) (va_up σ d τ) = some ((), va_up σ d τ')) ∧ (∀ σ, fX6_drops (nI a) (x_row σ 5 31 0 0 v) = some ((), x_row σ 5 31 0 0 v')) ∧ RW τ' v' b C P ∧ (∀ p f, p < 6 → f < 24 → p ≠ a → v' (ip p f) = v (ip p f)) ∧ v' (ip a 3) = 0 ∧ v' 10 = v 10 ∧ (∀ p, p ≠ a → τ' 13 p 0 4 = τ 13 p 0 4) ∧ mFree v' P = mFree v P + (v (ip a 2) - i_max 0 (s3 v a 6 - v (ip a 0))) ∧ ∀ i, 6464 ≤ i → v' i = v i := by
  obtain ⟨hR, hgr, hS, hpr⟩ := hW
  have h6 := hR.1.2.2.2.2.2.1
  have ha6 : a < 6 := by omega
  obtain ⟨w0, w1, w2, -⟩ := hR.2.2.2.2.2.2.1 a ha6
  have x0 := (hR.2.2.2.2.2.2.2.1 (3 * a) (by omega)).2.2.2.2.2.2.1
  have x1 := (hR.2.2.2.2.2.2.2.1 (3 * a + 1) (by omega)).2.2.2.2.2.2.1
  have x2 := (hR.2.2.2.2.2.2.2.1 (3 * a + 2) (by omega)).2.2.2.2.2.2.1
  -- the row behind the two writes, and the device behind all of its own
  let v1 : xV := va_up (va_up v (ip a 2) 0) (ip a 3) 0
  have nv : ∀ i, i ≠ 16 + 24 * a + 2 → i ≠ 16 + 24 * a + 3 → v1 i = v i := fun i g1 g2 => (up_n _ _ g2).trans (up_n _ _ g1)
  have n3 : v1 (ip a 3) = 0 := up_s _ _ _
  have n2 : v1 (ip a 2) = 0 := (up_n _ _ (by show 16 + 24 * a + 2 ≠ 16 + 24 * a + 3; omega)).trans (up_s _ _ _)
  have cf0 := cfP_set (p := a) (x := (0 : Int32)) (show pm 4 = some 2 from rfl) hR.2.2.1
  have cf : cfP (dset τ 13 a 0 4 0) v1 := cfP_c (fun _ _ => rfl) (fun p f g1 g2 g3 => up_n _ _ (pp (by omega) (by omega) (Or.inr g3))) cf0
  have wp : wfP v1 := wfP_up (by omega) (wfP_up (by omega) hR.2.2.2.2.2.2.1 (Or.inr (Or.inr (Or.inl ⟨rfl, by decide, by decide⟩)))) (Or.inr (Or.inr (Or.inr rfl)))
  have hR1 : R1 (dset τ 13 a 0 4 0) v1 b C P := R1_port hR ha (fun K p' r k g1 g2 => ds_n (by omega)) (fun i g1 g2 => nv i (by omega) (by omega)) cf wp (Nat.le_refl _) hb (by rw [nv 10 (by omega) (by omega)]; exact hR.2.2.2.2.2.2.2.2.2.2.2.2.2.2)
  have es3 : ∀ p' f, s3 v1 p' f = s3 v p' f := fun p' f => by
    simp only [s3]
    rw [nv (iq (3 * p') f) (by show 160 + 16 * (3 * p') + f ≠ _; omega) (by show 160 + 16 * (3 * p') + f ≠ _; omega), nv (iq (3 * p' + 1) f) (by show 160 + 16 * (3 * p' + 1) + f ≠ _; omega) (by show 160 + 16 * (3 * p' + 1) + f ≠ _; omega), nv (iq (3 * p' + 2) f) (by show 160 + 16 * (3 * p' + 2) + f ≠ _; omega) (by show 160 + 16 * (3 * p' + 2) + f ≠ _; omega)]
  have emf := mFree_up (v := v) (v' := v1) ha (nv 0 (by omega) (by omega)) (fun p' f g1 g2 g3 => nv _ (by show 16 + 24 * p' + f ≠ _; omega) (by show 16 + 24 * p' + f ≠ _; omega)) (fun p' r g1 g2 g3 => nv _ (by show 160 + 16 * (3 * p' + r) + 7 ≠ _; omega) (by show 160 + 16 * (3 * p' + r) + 7 ≠ _; omega))
  rw [nv (ip a 0) (by show 16 + 24 * a + 0 ≠ _; omega) (by show 16 + 24 * a + 0 ≠ _; omega), nv (ip a 1) (by show 16 + 24 * a + 1 ≠ _; omega) (by show 16 + 24 * a + 1 ≠ _; omega), n2, es3] at emf
  have emf1 : mFree v1 P = mFree v P + v (ip a 2) := by rw [emf]; grind
  have eov : ov v1 a = s3 v a 6 - v (ip a 0) := by
    rw [ov, es3, n2, nv (ip a 0) (by show 16 + 24 * a + 0 ≠ _; omega) (by show 16 + 24 * a + 0 ≠ _; omega)]
    grind
  have hs := (hS.1 a ha6).1
  have hfr := hS.2
  have hO : wfO v1 P a := by
    refine ⟨fun p' g1 => ?_, ?_, ?_, mFree_le hR1.1 wp hR1.2.2.2.2.2.2.2.1⟩
    · rw [es3, es3, nv (ip p' 1) (by show 16 + 24 * p' + 1 ≠ _; omega) (by show 16 + 24 * p' + 1 ≠ _; omega)]
      refine ⟨fun e => ?_, (hS.1 p' g1).2⟩
      rw [nv (ip p' 0) (by show 16 + 24 * p' + 0 ≠ _; omega) (by show 16 + 24 * p' + 0 ≠ _; omega), nv (ip p' 2) (by show 16 + 24 * p' + 2 ≠ _; omega) (by show 16 + 24 * p' + 2 ≠ _; omega)]
      exact (hS.1 p' g1).1
    · rw [emf1]
      unfold rg at *
      grind
    · rw [emf1, eov]
      unfold rg at *
      simp only [s3] at hs ⊢
      grind
  obtain ⟨τ', v', kc, km, kR, kS, ⟨kF1, kF2⟩, kmf⟩ := S_conv ha hR1 hO
  have kP : ∀ p f, p < 6 → f < 24 → v' (ip p f) = v1 (ip p f) := fun p f g1 g2 => kF2 _ (Or.inl (by show 16 + 24 * p + f < 160; omega))
  have kP' : ∀ p f, p < 6 → f < 24 → p ≠ a → v' (ip p f) = v (ip p f) := fun p f g1 g2 g3 => (kP p f g1 g2).trans (nv _ (by show 16 + 24 * p + f ≠ _; omega) (by show 16 + 24 * p + f ≠ _; omega))
  have k3 : v' (ip a 3) = 0 := (kP a 3 ha6 (by omega)).trans n3
  have k2 : v' (ip a 2) = 0 := (kP a 2 ha6 (by omega)).trans n2
  have k10 : v' 10 = v 10 := (kF2 10 (by omega)).trans (nv 10 (by omega) (by omega))
  have t6 : τ' 0 0 0 6 = τ 0 0 0 6 := (kF1 _ _ _ _ (by omega)).trans (ds_n (by omega))
  have t7 : τ' 0 0 0 7 = τ 0 0 0 7 := (kF1 _ _ _ _ (by omega)).trans (ds_n (by omega))
  have kmf' : mFree v' P = mFree v P + (v (ip a 2) - i_max 0 (s3 v a 6 - v (ip a 0))) := by
    rw [kmf, emf1, eov]
    unfold i_max
    by_cases e : (0 : Int32) < s3 v a 6 - v (ip a 0)
    · rw [if_pos e, if_neg (by grind)]; grind
    · rw [if_neg e, if_pos (by grind)]; grind
  have g1st : ∀ p, p < 6 → 0 ≤ v' (ip p 3) ∧ v' (ip p 3) ≤ v' 10 ∧ (v' (ip p 3) = 0 ↔ v' (ip p 2) = 0) := fun p hp => by
    by_cases e : p = a
    · subst e
      rw [k3, k2, k10]
      exact ⟨by decide, hR.2.2.2.2.2.2.2.2.2.2.2.2.2.2.1, Iff.rfl⟩
    · rw [kP' p 3 hp (by omega) e, kP' p 2 hp (by omega) e, k10]
      exact hgr.1 p hp
  have hR1' : ∀ (x y : Int32), R1 (dset (dset τ' 0 0 0 6 x) 0 0 0 7 y) v' b C P := fun x y => R1_port kR ha (fun K p' r k g1 g2 => (ds_n (by omega)).trans (ds_n (by omega))) (fun i _ _ => rfl) (cfP_c (fun _ _ => (ds_n (by omega)).trans (ds_n (by omega))) (fun _ _ _ _ _ => rfl) kR.2.2.1) kR.2.2.2.2.2.2.1 (Nat.le_refl _) hb kR.2.2.2.2.2.2.2.2.2.2.2.2.2.2
  have hpr' : ∀ (x y : Int32) p r, p < 6 → r < 3 → dset (dset τ' 0 0 0 6 x) 0 0 0 7 y 16 p r 0 = nI r := fun x y p r g1 g2 => by
    rw [ds_n (by omega), ds_n (by omega), kF1 _ _ _ _ (by omega), ds_n (by omega)]
    exact hpr p r g1 g2
  have h13 : ∀ (x y : Int32) p, p ≠ a → dset (dset τ' 0 0 0 6 x) 0 0 0 7 y 13 p 0 4 = τ 13 p 0 4 := fun x y p hp => by
    rw [ds_n (by omega), ds_n (by omega), kF1 _ _ _ _ (by omega), ds_n (by omega)]
  have hbig : ∀ i, 6464 ≤ i → v' i = v i := by
    intro i hi
    exact (kF2 i (by omega)).trans (nv i (by omega) (by omega))
  have hclass : ∀ (x y : Int32), (τ 0 0 0 6 = nI a → x = τ 0 0 0 7) → (¬ τ 0 0 0 6 = nI a → x = τ 0 0 0 6) → y = -1 → ∀ σ d, fX0_endGrant d d a (nI a) (va_up σ d τ) = some ((), va_up σ d (dset (dset τ' 0 0 0 6 x) 0 0 0 7 y)) := by
    intro x y hx1 hx2 hy σ d
    rw [fX0_endGrant, set_own, l_v, kc, b_s, up_s, t6, hy]
    by_cases e : τ 0 0 0 6 = nI a
    · rw [if_pos e, t7, set_own, l_v, set_own, l_v, hx1 e]
    · rw [if_neg e, set_own, l_v, hx2 e]
      have : dset τ' 0 0 0 6 (τ 0 0 0 6) = τ' := by
        funext K p r k
        rw [dset_rd]
        by_cases q : K = 0 ∧ p = 0 ∧ r = 0 ∧ k = 6
        · obtain ⟨rfl, rfl, rfl, rfl⟩ := q
          rw [if_pos ⟨rfl, rfl, rfl, rfl⟩, t6]
        · rw [if_neg q]
      rw [this]
  have hmodel : ∀ σ, fX6_drops (nI a) (x_row σ 5 31 0 0 v) = some ((), x_row σ 5 31 0 0 v') := fun σ => by
    rw [fX6_drops, m_port_2, b_s, in_nI (by omega) (by omega), g_t, nI_clamp (by omega), row_set, l_v, m_port_3, b_s, in_nI (by omega) (by omega), g_t, nI_clamp (by omega), row_set, l_v]
    show x_b (fX6_converts (nI a) (x_row σ 5 31 0 0 v1)) _ = _
    rw [km, b_s]
  rcases hgr.2 with ⟨a1, a2, a3⟩ | ⟨a', a0, a1, a2, a3, a4⟩ | ⟨a', b', a0, b0, ab, a1, a2, a3, a4, a5⟩
  · exact absurd (a3 a ha6) h3
  · have e : a = a' := by
      by_cases q : a = a'
      · exact q
      · exact absurd (a4 a ha6 q) h3
    subst e
    refine ⟨_, v', hclass (-1) (-1) (fun _ => a2.symm) (fun q => absurd a1 q) rfl, hmodel, ⟨hR1' _ _, ⟨g1st, Or.inl ⟨?_, ds_s, fun p hp => ?_⟩⟩, kS, hpr' _ _⟩, kP', k3, k10, h13 _ _, kmf', hbig⟩
    · rw [ds_n (by omega), ds_s]
    · by_cases q : p = a
      · subst q; exact k3
      · rw [kP' p 3 hp (by omega) q]; exact a4 p hp q
  · by_cases e : a = a'
    · subst e
      refine ⟨_, v', hclass (τ 0 0 0 7) (-1) (fun _ => rfl) (fun q => absurd a1 q) rfl, hmodel, ⟨hR1' _ _, ⟨g1st, Or.inr (Or.inl ⟨b', b0, ?_, ds_s, ?_, fun p hp q => ?_⟩)⟩, kS, hpr' _ _⟩, kP', k3, k10, h13 _ _, kmf', hbig⟩
      · rw [ds_n (by omega), ds_s]; exact a2
      · rw [kP' b' 3 (by omega) (by omega) (fun q => ab q.symm)]; grind
      · by_cases q2 : p = a
        · subst q2; exact k3
        · rw [kP' p 3 hp (by omega) q2]; exact a5 p hp q2 q
    · have e2 : a = b' := by
        by_cases q : a = b'
        · exact q
        · exact absurd (a5 a ha6 e q) h3
      subst e2
      have hne : ¬ τ 0 0 0 6 = nI a := fun q => e (nIeq (by omega) (by omega) (a1.symm.trans q)).symm
      refine ⟨_, v', hclass (τ 0 0 0 6) (-1) (fun q => absurd q hne) (fun _ => rfl) rfl, hmodel, ⟨hR1' _ _, ⟨g1st, Or.inr (Or.inl ⟨a', a0, ?_, ds_s, ?_, fun p hp q => ?_⟩)⟩, kS, hpr' _ _⟩, kP', k3, k10, h13 _ _, kmf', hbig⟩
      · rw [ds_n (by omega), ds_s]; exact a1
      · rw [kP' a' 3 (by omega) (by omega) ab]; exact a3
      · by_cases q2 : p = a
        · subst q2; exact k3
        · rw [kP' p 3 hp (by omega) q2]; exact a5 p hp q q2
