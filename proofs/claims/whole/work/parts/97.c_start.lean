/-! ===== a device begun anew ===== -/
def qi (k : Nat) : Int32 := if k = 1 then 8 else if k = 5 then 4 else if k = 13 ∨ k = 14 then -1 else 0
def pi0 (k : Nat) : Int32 := if k = 6 then 4 else if k = 9 then 1 else 0
def vq (f : Nat) : Int32 := if f = 0 then 8 else if f = 4 then 4 else 0
def vp (f : Nat) : Int32 := if f = 5 then 4 else if f = 7 then 1 else 0
theorem st_queue {σ : xS} {d p r : Nat} (τ : xD) : ∃ τ', fX3_startAnew d p r (va_up σ d τ) = some ((), va_up σ d τ') ∧ (∀ k, 1 ≤ k → k ≤ 15 → τ' 16 p r k = qi k) ∧ ∀ K p' r' k', (K ≠ 16 ∨ p' ≠ p ∨ r' ≠ r ∨ k' = 0) → τ' K p' r' k' = τ K p' r' k' := by
  rw [fX3_startAnew]
  simp only [l_v, set_own]
  refine ⟨_, rfl, fun k g1 g2 => ?_, fun K p' r' k' g => ?_⟩
  · have : k = 1 ∨ k = 2 ∨ k = 3 ∨ k = 4 ∨ k = 5 ∨ k = 6 ∨ k = 7 ∨ k = 8 ∨ k = 9 ∨ k = 10 ∨ k = 11 ∨ k = 12 ∨ k = 13 ∨ k = 14 ∨ k = 15 := by omega
    rcases this with rfl | rfl | rfl | rfl | rfl | rfl | rfl | rfl | rfl | rfl | rfl | rfl | rfl | rfl | rfl <;> simp [dset_rd, qi]
  · rw [ds_n (by omega), ds_n (by omega), ds_n (by omega), ds_n (by omega), ds_n (by omega), ds_n (by omega), ds_n (by omega), ds_n (by omega), ds_n (by omega), ds_n (by omega), ds_n (by omega), ds_n (by omega), ds_n (by omega), ds_n (by omega), ds_n (by omega)]
theorem st_loss {σ : xS} {d p : Nat} : ∀ (n i : Nat) (τ : xD), i ≤ 10 → 10 < n + i → (∀ c, c < i → τ 15 p 0 c = 0) → ∃ τ', BX2_startAnew_33 d p n (nI i) (va_up σ d τ) = some ((), va_up σ d τ') ∧ (∀ k, 2 ≤ k → k ≤ 11 → τ' 13 p 0 k = pi0 k) ∧ (∀ c, c < 10 → τ' 15 p 0 c = 0) ∧ ∀ K p' r' k', ((K ≠ 13 ∧ K ≠ 15) ∨ p' ≠ p) → τ' K p' r' k' = τ K p' r' k' := by
  intro n
  induction n with
  | zero => intro i τ g1 g2; omega
  | succ n ih =>
    intro i τ g1 g2 g3
    rw [BX2_startAnew_33]
    by_cases e : i < 10
    · rw [if_neg (show ¬ (10 : Int32) ≤ nI i from nI_ge (b := 10) e (by omega)), in_nI e (by omega), g_t, nI_clamp (by omega), set_own, l_v, l_v, nI_1]
      obtain ⟨τ', m1, m2, m3, m4⟩ := ih (i + 1) (dset τ 15 p 0 i 0) (by omega) (by omega) (fun c a1 => by
        by_cases q : c = i
        · subst q; exact ds_s
        · rw [ds_n (by omega)]; exact g3 c (by omega))
      exact ⟨τ', m1, m2, m3, fun K p' r' k' a => (m4 K p' r' k' a).trans (ds_n (by omega))⟩
    · have ei : i = 10 := by omega
      subst ei
      rw [if_pos (show (10 : Int32) ≤ nI 10 from nI_le (a := 10) (by omega) (by omega))]
      simp only [l_v, set_own, fX2_restartSending, b_s]
      refine ⟨_, rfl, fun k a1 a2 => ?_, fun c a1 => ?_, fun K p' r' k' a => ?_⟩
      · have : k = 2 ∨ k = 3 ∨ k = 4 ∨ k = 5 ∨ k = 6 ∨ k = 7 ∨ k = 8 ∨ k = 9 ∨ k = 10 ∨ k = 11 := by omega
        rcases this with rfl | rfl | rfl | rfl | rfl | rfl | rfl | rfl | rfl | rfl <;> simp [dset_rd, pi0]
      · rw [ds_n (by omega), ds_n (by omega), ds_n (by omega), ds_n (by omega), ds_n (by omega), ds_n (by omega), ds_n (by omega), ds_n (by omega), ds_n (by omega), ds_n (by omega)]
        exact g3 c a1
      · rw [ds_n (by omega), ds_n (by omega), ds_n (by omega), ds_n (by omega), ds_n (by omega), ds_n (by omega), ds_n (by omega), ds_n (by omega), ds_n (by omega), ds_n (by omega)]
theorem st_port {σ : xS} {d p : Nat} : ∀ (n i : Nat) (τ : xD), i ≤ 3 → 3 < n + i → (∀ r k, r < i → 1 ≤ k → k ≤ 15 → τ 16 p r k = qi k) → ∃ τ', BX2_startAnew_10 d p d p 3 n (nI i) (va_up σ d τ) = some ((), va_up σ d τ') ∧ (∀ r k, r < 3 → 1 ≤ k → k ≤ 15 → τ' 16 p r k = qi k) ∧ (∀ k, 2 ≤ k → k ≤ 11 → τ' 13 p 0 k = pi0 k) ∧ (∀ c, c < 10 → τ' 15 p 0 c = 0) ∧ ∀ K p' r' k', ((K ≠ 16 ∧ K ≠ 13 ∧ K ≠ 15) ∨ p' ≠ p ∨ (K = 16 ∧ k' = 0)) → τ' K p' r' k' = τ K p' r' k' := by
  intro n
  induction n with
  | zero => intro i τ g1 g2; omega
  | succ n ih =>
    intro i τ g1 g2 g3
    rw [BX2_startAnew_10]
    by_cases e : i < 3
    · rw [if_neg (show ¬ (3 : Int32) ≤ nI i from nI_ge (b := 3) e (by omega)), in_nI e (by omega), g_t, nI_clamp (by omega)]
      obtain ⟨τ1, k1, k2, k3⟩ := st_queue (σ := σ) (d := d) (p := p) (r := i) τ
      rw [k1, b_s, l_v, nI_1]
      obtain ⟨τ', m1, m2, m3, m4, m5⟩ := ih (i + 1) τ1 (by omega) (by omega) (fun r k a1 a2 a3 => by
        by_cases q : r = i
        · subst q; exact k2 k a2 a3
        · rw [k3 _ _ _ _ (by omega)]; exact g3 r k (by omega) a2 a3)
      exact ⟨τ', m1, m2, m3, m4, fun K p' r' k' a => (m5 K p' r' k' a).trans (k3 _ _ _ _ (by omega))⟩
    · have ei : i = 3 := by omega
      subst ei
      rw [if_pos (show (3 : Int32) ≤ nI 3 from nI_le (a := 3) (by omega) (by omega))]
      obtain ⟨τ', m1, m2, m3, m4⟩ := st_loss (σ := σ) (d := d) (p := p) x_FU 0 τ (by omega) (by unfold x_FU; omega) (fun c a => by omega)
      exact ⟨τ', m1, fun r k a1 a2 a3 => (m4 _ _ _ _ (by omega)).trans (g3 r k a1 a2 a3), m2, m3, fun K p' r' k' a => m4 _ _ _ _ (by omega)⟩
theorem st_mem {σ : xS} {d : Nat} : ∀ (n i : Nat) (τ : xD), i ≤ 128 → 128 < n + i → (∀ c, c < i → τ 2 0 0 c = 0 ∧ τ 5 0 0 c = -1) → ∃ τ', BX1_startAnew_7 d n (nI i) (va_up σ d τ) = some ((), va_up σ d τ') ∧ (∀ c, c < 128 → τ' 2 0 0 c = 0 ∧ τ' 5 0 0 c = -1) ∧ ∀ K p' r' k', (K ≠ 2 ∧ K ≠ 5) → τ' K p' r' k' = τ K p' r' k' := by
  intro n
  induction n with
  | zero => intro i τ g1 g2; omega
  | succ n ih =>
    intro i τ g1 g2 g3
    rw [BX1_startAnew_7]
    by_cases e : i < 128
    · rw [if_neg (show ¬ (128 : Int32) ≤ nI i from nI_ge (b := 128) e (by omega)), in_nI e (by omega), g_t, nI_clamp (by omega), set_own, l_v, g_t, set_own, l_v, l_v, nI_1]
      obtain ⟨τ', m1, m2, m3⟩ := ih (i + 1) (dset (dset τ 2 0 0 i 0) 5 0 0 i (-1)) (by omega) (by omega) (fun c a1 => by
        by_cases q : c = i
        · subst q; exact ⟨by rw [ds_n (by omega), ds_s], ds_s⟩
        · rw [ds_n (by omega), ds_n (by omega), ds_n (by omega), ds_n (by omega)]; exact g3 c (by omega))
      exact ⟨τ', m1, m2, fun K p' r' k' a => (m3 K p' r' k' a).trans ((ds_n (by omega)).trans (ds_n (by omega)))⟩
    · rw [if_pos (show (128 : Int32) ≤ nI i from nI_le (a := 128) (by omega) (by omega))]
      exact ⟨τ, rfl, fun c a => g3 c (by omega), fun _ _ _ _ _ => rfl⟩
def fresh (τ : xD) (C P : Nat) : Prop := τ 1 0 0 0 = nI C ∧ (∀ c, c < 128 → τ 2 0 0 c = 0 ∧ τ 5 0 0 c = -1) ∧ (∀ p r k, p < 6 → r < 3 → 1 ≤ k → k ≤ 15 → τ 16 p r k = qi k) ∧ (∀ p k, p < 6 → 2 ≤ k → k ≤ 11 → τ 13 p 0 k = pi0 k) ∧ (∀ p c, p < 6 → c < 10 → τ 15 p 0 c = 0) ∧ τ 0 0 0 2 = nI P ∧ τ 0 0 0 3 = 0 ∧ τ 0 0 0 4 = 0 ∧ τ 0 0 0 5 = 0 ∧ τ 0 0 0 6 = -1 ∧ τ 0 0 0 7 = -1 ∧ τ 0 0 0 9 = 0
theorem st_dev_loop {σ : xS} {d C P : Nat} : ∀ (n i : Nat) (τ : xD), i ≤ 6 → 6 < n + i → τ 1 0 0 0 = nI C → (∀ c, c < 128 → τ 2 0 0 c = 0 ∧ τ 5 0 0 c = -1) → (∀ p, p < i → (∀ r k, r < 3 → 1 ≤ k → k ≤ 15 → τ 16 p r k = qi k) ∧ (∀ k, 2 ≤ k → k ≤ 11 → τ 13 p 0 k = pi0 k) ∧ (∀ c, c < 10 → τ 15 p 0 c = 0)) → ∃ τ', BX0_startAnew_20 d (nI P) d 6 n (nI i) (va_up σ d τ) = some ((), va_up σ d τ') ∧ fresh τ' C P ∧ ∀ p r, τ' 16 p r 0 = τ 16 p r 0 := by
  intro n
  induction n with
  | zero => intro i τ g1 g2; omega
  | succ n ih =>
    intro i τ g1 g2 hC hM g3
    rw [BX0_startAnew_20]
    by_cases e : i < 6
    · rw [if_neg (show ¬ (6 : Int32) ≤ nI i from nI_ge (b := 6) e (by omega)), in_nI e (by omega), g_t, nI_clamp (by omega), fX2_startAnew]
      obtain ⟨τ1, k1, k2, k3, k4, k5⟩ := st_port (σ := σ) (d := d) (p := i) x_FU 0 τ (by omega) (by unfold x_FU; omega) (fun r k a => by omega)
      rw [show BX2_startAnew_10 d i d i 3 x_FU 0 (va_up σ d τ) = some ((), va_up σ d τ1) from k1, b_s, l_v, nI_1]
      obtain ⟨τ', m1, m2, m3⟩ := ih (i + 1) τ1 (by omega) (by omega) ((k5 _ _ _ _ (by omega)).trans hC) (fun c a => ⟨(k5 _ _ _ _ (by omega)).trans (hM c a).1, (k5 _ _ _ _ (by omega)).trans (hM c a).2⟩) (fun p a1 => by
        by_cases q : p = i
        · subst q; exact ⟨k2, k3, k4⟩
        · obtain ⟨b1, b2, b3⟩ := g3 p (by omega)
          exact ⟨fun r k c1 c2 c3 => (k5 _ _ _ _ (by omega)).trans (b1 r k c1 c2 c3), fun k c1 c2 => (k5 _ _ _ _ (by omega)).trans (b2 k c1 c2), fun c c1 => (k5 _ _ _ _ (by omega)).trans (b3 c c1)⟩)
      exact ⟨τ', m1, m2, fun p r => (m3 p r).trans (k5 _ _ _ _ (by omega))⟩
    · have ei : i = 6 := by omega
      subst ei
      rw [if_pos (show (6 : Int32) ≤ nI 6 from nI_le (a := 6) (by omega) (by omega))]
      simp only [l_v, set_own]
      have fK : ∀ (K p r k : Nat) (x2 x3 x4 x5 x6 x7 x9 : Int32), K ≠ 0 → dset (dset (dset (dset (dset (dset (dset τ 0 0 0 2 x2) 0 0 0 3 x3) 0 0 0 4 x4) 0 0 0 5 x5) 0 0 0 6 x6) 0 0 0 7 x7) 0 0 0 9 x9 K p r k = τ K p r k := by
        intro K p r k x2 x3 x4 x5 x6 x7 x9 h
        rw [ds_n (by omega), ds_n (by omega), ds_n (by omega), ds_n (by omega), ds_n (by omega), ds_n (by omega), ds_n (by omega)]
      refine ⟨_, rfl, ⟨?_, fun c a => ?_, fun p r k a1 a2 a3 a4 => ?_, fun p k a1 a2 a3 => ?_, fun p c a1 a2 => ?_, ?_, ?_, ?_, ?_, ?_, ?_, ?_⟩, fun p r => ?_⟩
      · rw [fK _ _ _ _ _ _ _ _ _ _ _ (by omega)]; exact hC
      · rw [fK _ _ _ _ _ _ _ _ _ _ _ (by omega), fK _ _ _ _ _ _ _ _ _ _ _ (by omega)]; exact hM c a
      · rw [fK _ _ _ _ _ _ _ _ _ _ _ (by omega)]; exact (g3 p a1).1 r k a2 a3 a4
      · rw [fK _ _ _ _ _ _ _ _ _ _ _ (by omega)]; exact (g3 p a1).2.1 k a2 a3
      · rw [fK _ _ _ _ _ _ _ _ _ _ _ (by omega)]; exact (g3 p a1).2.2 c a2
      · simp [dset_rd]
      · simp [dset_rd]
      · simp [dset_rd]
      · simp [dset_rd]
      · simp [dset_rd]
      · simp [dset_rd]
      · simp [dset_rd]
      · rw [fK _ _ _ _ _ _ _ _ _ _ _ (by omega)]
theorem st_dev (σ : xS) (d C P : Nat) (τ : xD) : ∃ τ', fX0_startAnew d (nI C) (nI P) (va_up σ d τ) = some ((), va_up σ d τ') ∧ fresh τ' C P ∧ ∀ p r, τ' 16 p r 0 = τ 16 p r 0 := by
  obtain ⟨τ1, k1, k2, k3⟩ := st_mem (σ := σ) (d := d) x_FU 0 (dset τ 1 0 0 0 (nI C)) (by omega) (by unfold x_FU; omega) (fun c a => by omega)
  obtain ⟨τ', m1, m2, m3⟩ := st_dev_loop (σ := σ) (d := d) (C := C) (P := P) x_FU 0 τ1 (by omega) (by unfold x_FU; omega) ((k3 _ _ _ _ (by omega)).trans ds_s) k2 (fun p a => by omega)
  refine ⟨τ', ?_, m2, fun p r => ?_⟩
  · rw [fX0_startAnew, fX1_startAnew, set_own, l_v, show BX1_startAnew_7 d x_FU 0 (va_up σ d (dset τ 1 0 0 0 (nI C))) = some ((), va_up σ d τ1) from k1, b_s]
    exact m1
  · rw [m3, k3 _ _ _ _ (by omega), ds_n (by omega)]
-- the reference
def freshV (v : xV) (C P : Nat) : Prop := v 0 = nI C ∧ v 1 = nI P ∧ (∀ i, 2 ≤ i → i < 16 → v i = 0) ∧ (∀ p f, p < 6 → f < 24 → v (ip p f) = vp f) ∧ (∀ q f, q < 18 → f < 16 → v (iq q f) = vq f) ∧ ∀ i, 448 ≤ i → i < 6464 → v i = 0
theorem m_st75 {σ : xS} {C P : Nat} : ∀ (n i : Nat) (v : xV), i ≤ 18 → 18 < n + i → v 0 = nI C → v 1 = nI P → (∀ i, 2 ≤ i → i < 16 → v i = 0) → (∀ p f, p < 6 → f < 24 → v (ip p f) = vp f) → (∀ q f, q < 18 → f < 16 → v (iq q f) = if q < i then vq f else 0) → (∀ i, 448 ≤ i → i < 6464 → v i = 0) → ∃ v', BX6_starts_75 n (nI i) (x_row σ 5 31 0 0 v) = some ((), x_row σ 5 31 0 0 v') ∧ freshV v' C P := by
  intro n
  induction n with
  | zero => intro i v h1 h2; omega
  | succ n ih =>
    intro i v h1 h2 a0 a1 a2 a3 a4 a5
    rw [BX6_starts_75]
    by_cases e : i < 18
    · rw [if_neg (show ¬ (18 : Int32) ≤ nI i from nI_ge (b := 18) e (by omega)), m_queue_0, b_s, in_nI (by omega) (by omega), g_t, nI_clamp (by omega), row_set, l_v, m_queue_4, b_s, in_nI (by omega) (by omega), g_t, nI_clamp (by omega), row_set, l_v, l_v, nI_1]
      have nn : ∀ j, j ≠ 160 + 16 * i + 0 → j ≠ 160 + 16 * i + 4 → va_up (va_up v (160 + 16 * i + 0) 8) (160 + 16 * i + 4) 4 j = v j := fun j b1 b2 => by rw [up_n _ _ b2, up_n _ _ b1]
      refine ih (i + 1) _ (by omega) (by omega) ((nn 0 (by omega) (by omega)).trans a0) ((nn 1 (by omega) (by omega)).trans a1) (fun j b1 b2 => (nn j (by omega) (by omega)).trans (a2 j b1 b2)) (fun p f b1 b2 => (nn _ (by show 16 + 24 * p + f ≠ _; omega) (by show 16 + 24 * p + f ≠ _; omega)).trans (a3 p f b1 b2)) (fun q f b1 b2 => ?_) (fun j b1 b2 => (nn j (by omega) (by omega)).trans (a5 j b1 b2))
      by_cases q1 : q = i
      · subst q1
        rw [if_pos (by omega)]
        by_cases f4 : f = 4
        · subst f4; exact up_s _ _ _
        · by_cases f0 : f = 0
          · subst f0
            rw [up_n _ _ (by show 160 + 16 * q + 0 ≠ _; omega)]
            exact up_s _ _ _
          · rw [nn _ (by show 160 + 16 * q + f ≠ _; omega) (by show 160 + 16 * q + f ≠ _; omega), a4 q f b1 b2, if_neg (by omega)]
            unfold vq
            rw [if_neg f0, if_neg f4]
      · rw [nn _ (by show 160 + 16 * q + f ≠ _; omega) (by show 160 + 16 * q + f ≠ _; omega), a4 q f b1 b2]
        by_cases q2 : q < i
        · rw [if_pos q2, if_pos (by omega)]
        · rw [if_neg q2, if_neg (by omega)]
    · rw [if_pos (show (18 : Int32) ≤ nI i from nI_le (a := 18) (by omega) (by omega))]
      exact ⟨v, rfl, a0, a1, a2, a3, fun q f b1 b2 => by rw [a4 q f b1 b2, if_pos (by omega)], a5⟩
theorem m_st38 {σ : xS} {C P : Nat} : ∀ (n i : Nat) (v : xV), i ≤ 6 → 6 < n + i → v 0 = nI C → v 1 = nI P → (∀ i, 2 ≤ i → i < 16 → v i = 0) → (∀ p f, p < 6 → f < 24 → v (ip p f) = if p < i then vp f else 0) → (∀ i, 160 ≤ i → i < 6464 → v i = 0) → ∃ v', BX6_starts_38 n (nI i) (x_row σ 5 31 0 0 v) = some ((), x_row σ 5 31 0 0 v') ∧ freshV v' C P := by
  intro n
  induction n with
  | zero => intro i v h1 h2; omega
  | succ n ih =>
    intro i v h1 h2 a0 a1 a2 a3 a5
    rw [BX6_starts_38]
    by_cases e : i < 6
    · rw [if_neg (show ¬ (6 : Int32) ≤ nI i from nI_ge (b := 6) e (by omega)), m_port_5, b_s, in_nI (by omega) (by omega), g_t, nI_clamp (by omega), row_set, l_v, m_port_7, b_s, in_nI (by omega) (by omega), g_t, nI_clamp (by omega), row_set, l_v, l_v, nI_1]
      have nn : ∀ j, j ≠ 16 + 24 * i + 5 → j ≠ 16 + 24 * i + 7 → va_up (va_up v (16 + 24 * i + 5) 4) (16 + 24 * i + 7) 1 j = v j := fun j b1 b2 => by rw [up_n _ _ b2, up_n _ _ b1]
      refine ih (i + 1) _ (by omega) (by omega) ((nn 0 (by omega) (by omega)).trans a0) ((nn 1 (by omega) (by omega)).trans a1) (fun j b1 b2 => (nn j (by omega) (by omega)).trans (a2 j b1 b2)) (fun p f b1 b2 => ?_) (fun j b1 b2 => (nn j (by omega) (by omega)).trans (a5 j b1 b2))
      by_cases q1 : p = i
      · subst q1
        rw [if_pos (by omega)]
        by_cases f4 : f = 7
        · subst f4; exact up_s _ _ _
        · by_cases f0 : f = 5
          · subst f0
            rw [up_n _ _ (by show 16 + 24 * p + 5 ≠ _; omega)]
            exact up_s _ _ _
          · rw [nn _ (by show 16 + 24 * p + f ≠ _; omega) (by show 16 + 24 * p + f ≠ _; omega), a3 p f b1 b2, if_neg (by omega)]
            unfold vp
            rw [if_neg f0, if_neg f4]
      · rw [nn _ (by show 16 + 24 * p + f ≠ _; omega) (by show 16 + 24 * p + f ≠ _; omega), a3 p f b1 b2]
        by_cases q2 : p < i
        · rw [if_pos q2, if_pos (by omega)]
        · rw [if_neg q2, if_neg (by omega)]
    · rw [if_pos (show (6 : Int32) ≤ nI i from nI_le (a := 6) (by omega) (by omega))]
      exact m_st75 x_FU 0 v (by omega) (by unfold x_FU; omega) a0 a1 a2 (fun p f b1 b2 => by rw [a3 p f b1 b2, if_pos (by omega)]) (fun q f b1 b2 => by rw [if_neg (by omega)]; exact a5 _ (by show 160 ≤ 160 + 16 * q + f; omega) (by show 160 + 16 * q + f < 6464; omega)) (fun j b1 b2 => a5 j (by omega) b2)
theorem m_st2 {σ : xS} {C P : Nat} : ∀ (n i : Nat) (v : xV), i ≤ 6464 → 6464 < n + i → (∀ j, j < i → v j = 0) → ∃ v', BX6_starts_2 (nI C) (nI P) n (nI i) (x_row σ 5 31 0 0 v) = some ((), x_row σ 5 31 0 0 v') ∧ freshV v' C P := by
  intro n
  induction n with
  | zero => intro i v h1 h2; omega
  | succ n ih =>
    intro i v h1 h2 a0
    rw [BX6_starts_2]
    by_cases e : i < 6464
    · rw [if_neg (show ¬ (6464 : Int32) ≤ nI i from nI_ge (b := 6464) e (by omega)), in_nI (by omega) (by omega), g_t, nI_clamp (by omega), row_set, l_v, l_v, nI_1]
      refine ih (i + 1) _ (by omega) (by omega) (fun j hj => ?_)
      by_cases q : j = i
      · subst q; rw [up_s]
      · rw [up_n _ _ q]; exact a0 j (by omega)
    · rw [if_pos (show (6464 : Int32) ≤ nI i from nI_le (a := 6464) (by omega) (by omega)), row_set, l_v, row_set, l_v]
      have nn : ∀ j, 2 ≤ j → j < 6464 → va_up (va_up v 0 (nI C)) 1 (nI P) j = 0 := fun j b1 b2 => by rw [up_n _ _ (by omega), up_n _ _ (by omega)]; exact a0 j (by omega)
      exact m_st38 x_FU 0 _ (by omega) (by unfold x_FU; omega) (by rw [up_n _ _ (by omega), up_s]) (up_s _ _ _) (fun j b1 b2 => nn j b1 (by omega)) (fun p f b1 b2 => by rw [if_neg (by omega)]; exact nn _ (by show 2 ≤ 16 + 24 * p + f; omega) (by show 16 + 24 * p + f < 6464; omega)) (fun j b1 b2 => nn j (by omega) b2)
theorem m_starts (σ : xS) (v : xV) (C P : Nat) : ∃ v', fX6_starts (nI C) (nI P) (x_row σ 5 31 0 0 v) = some ((), x_row σ 5 31 0 0 v') ∧ freshV v' C P := m_st2 x_FU 0 v (by omega) (by unfold x_FU; omega) (fun j hj => by omega)
theorem sm32_0 : ∀ (f : Nat → Int32) (n : Nat), (∀ k, k < n → f k = 0) → sm32 f n = 0
  | _, 0, _ => rfl
  | f, n + 1, h => by
    rw [sm32, sm32_0 f n (fun k hk => h k (by omega)), h n (by omega)]
    decide
theorem qi_vq {k f : Nat} (h : qm k = some f) : qi k = vq f := by
  unfold qm at h
  split at h <;> first | (cases h; rfl) | cases h
theorem pi_vp {k f : Nat} (h : pm k = some f) : pi0 k = vp f := by
  unfold pm at h
  split at h <;> first | (cases h; rfl) | cases h
theorem RW_fresh {τ : xD} {v : xV} {C P b : Nat} (h1 : 16 ≤ C) (h2 : C ≤ 128) (h3 : 1 ≤ P) (h4 : P ≤ 6) (hb : b < 2 ^ 31) (hf : fresh τ C P) (hv : freshV v C P) (hp : ∀ p r, p < 6 → r < 3 → τ 16 p r 0 = nI r) : RW τ v b C P := by
  obtain ⟨t1, tM, tQ, tP, tL, d2, d3, d4, d5, d6, d7, d9⟩ := hf
  obtain ⟨v0, v1, vl, vP, vQ, vh⟩ := hv
  have Q0 : ∀ q f, q < 18 → f < 16 → f ≠ 0 → f ≠ 4 → v (iq q f) = 0 := fun q f a1 a2 a3 a4 => by rw [vQ q f a1 a2, vq, if_neg a3, if_neg a4]
  have P0 : ∀ p f, p < 6 → f < 24 → f ≠ 5 → f ≠ 7 → v (ip p f) = 0 := fun p f a1 a2 a3 a4 => by rw [vP p f a1 a2, vp, if_neg a3, if_neg a4]
  have L0 : ∀ q, q < 18 → Ln v q = 0 := fun q a => by rw [Ln, Q0 q 12 a (by omega) (by omega) (by omega)]; rfl
  have U0 : ∀ k, k < 128 → v (ik k 3) = 0 := fun k a => vh _ (by show 448 ≤ 2752 + 28 * k + 3; omega) (by show 2752 + 28 * k + 3 < 6464; omega)
  have nU : ∀ k, k < 128 → ¬ Us v k := fun k a u => by
    have : v (ik k 3) = 1 := u
    rw [U0 k a] at this
    exact absurd this (by decide)
  have hbb : (0 : Int32) ≤ nI b := nI_pos' hb
  have em : mFree v P = nI C := by
    rw [mFree, mPool, sm32_0 _ P (fun p a => by
      show v (ip p 0) + v (ip p 2) + v (ip p 1) = 0
      rw [P0 p 0 (by omega) (by omega) (by omega) (by omega), P0 p 1 (by omega) (by omega) (by omega) (by omega), P0 p 2 (by omega) (by omega) (by omega) (by omega)]
      decide), sm32_0 _ P (fun p a => by
      simp only [s3]
      rw [Q0 _ 7 (by omega) (by omega) (by omega) (by omega), Q0 _ 7 (by omega) (by omega) (by omega) (by omega), Q0 _ 7 (by omega) (by omega) (by omega) (by omega)]
      decide), v0]
    grind
  refine ⟨⟨⟨v0, h1, h2, v1, h3, h4, by rw [vl 2 (by omega) (by omega)]; rfl, by rw [vl 5 (by omega) (by omega)]; rfl⟩, ?_, ?_, ?_, ⟨t1.trans v0.symm, d2.trans v1.symm, by rw [d3, vl 2 (by omega) (by omega)], by rw [d4, vl 3 (by omega) (by omega)], by rw [d5, vl 4 (by omega) (by omega)], by rw [d9, vl 5 (by omega) (by omega)]⟩, ?_, ?_, ?_, ?_, ?_, ?_, ?_, ?_⟩, ?_, ?_, hp⟩
  · intro p r k f a1 a2 a3
    have := qm_lt a3
    rw [tQ p r k a1 a2 (by omega) (by omega), vQ _ f (by omega) (by omega)]
    exact qi_vq a3
  · intro p k f a1 a3
    have := pm_lt a3
    rw [tP p k a1 (by omega) (by omega), vP _ f (by omega) (by omega)]
    exact pi_vp a3
  · intro p c a1 a2
    rw [tL p c a1 a2, P0 p _ a1 (by omega) (by omega) (by omega)]
  · intro e
    rw [vl 5 (by omega) (by omega)] at e
    exact absurd e (by decide)
  · intro p a
    rw [vP p 0 a (by omega), vP p 1 a (by omega), vP p 2 a (by omega), vP p 4 a (by omega), vP p 5 a (by omega), vP p 6 a (by omega), vP p 7 a (by omega), vP p 8 a (by omega)]
    exact ⟨⟨by decide, by decide⟩, ⟨by decide, by decide⟩, ⟨by decide, by decide⟩, ⟨by decide, by decide⟩, ⟨by decide, by decide⟩, ⟨by decide, by decide⟩, rfl, rfl⟩
  · intro q a
    rw [vQ q 0 a (by omega), vQ q 1 a (by omega), vQ q 2 a (by omega), vQ q 3 a (by omega), vQ q 4 a (by omega), vQ q 5 a (by omega), vQ q 6 a (by omega), vQ q 7 a (by omega), vQ q 8 a (by omega), vQ q 9 a (by omega), vQ q 10 a (by omega)]
    exact ⟨⟨by decide, by decide⟩, ⟨by decide, by decide⟩, ⟨by decide, by decide⟩, ⟨by decide, by decide⟩, ⟨by decide, by decide⟩, ⟨by decide, by decide⟩, ⟨by decide, by decide⟩, ⟨by decide, by decide⟩, ⟨by decide, by decide⟩, rfl, rfl⟩
  · intro p r a1 a2
    rw [Q0 _ 5 (by omega) (by omega) (by omega) (by omega)]
    exact ⟨fun _ => rfl, fun _ => by decide⟩
  · intro p a1 a2
    refine ⟨P0 p 0 a2 (by omega) (by omega) (by omega), P0 p 1 a2 (by omega) (by omega) (by omega), P0 p 2 a2 (by omega) (by omega) (by omega), fun r a3 => ⟨Q0 _ 6 (by omega) (by omega) (by omega) (by omega), Q0 _ 7 (by omega) (by omega) (by omega) (by omega), Q0 _ 8 (by omega) (by omega) (by omega) (by omega), Q0 _ 12 (by omega) (by omega) (by omega) (by omega)⟩⟩
  · refine ⟨fun q a => ?_, fun q i a1 a2 => ?_, fun q i q' i' a1 a2 => ?_, fun k a => Or.inl (U0 k a), fun k a u => absurd u (nU k a), fun k k' a u => absurd u (nU k a), fun c a => Or.inl (vh _ (by omega) (by omega)), fun k f c a u => absurd u (nU k a), fun k f f' c a u => absurd u (nU k a), fun q a => ?_⟩
    · rw [L0 q a, Q0 q 12 a (by omega) (by omega) (by omega)]
      exact ⟨rfl, by omega⟩
    · rw [L0 q a1] at a2; omega
    · rw [L0 q a1] at a2; omega
    · rw [L0 q a, Q0 q 6 a (by omega) (by omega) (by omega), Q0 q 7 a (by omega) (by omega) (by omega), Q0 q 8 a (by omega) (by omega) (by omega)]
      exact ⟨rfl, by rw [nsum]; omega⟩
  · refine ⟨fun p r a1 a2 => ?_, fun k a u => absurd u (nU k a), fun c a => Or.inl (tM c a).2, fun c a => ?_, fun c a => ?_⟩
    · rw [cellAt, L0 _ (by omega), if_neg (by omega), tQ p r 13 a1 a2 (by omega) (by omega), tQ p r 14 a1 a2 (by omega) (by omega)]
      exact ⟨rfl, rfl, fun i hi => by omega⟩
    · rw [vh (6336 + c) (by omega) (by omega), if_pos rfl]
      exact (tM c (by omega)).1
    · rw [(tM c a).1]; rfl
  · rw [vl 4 (by omega) (by omega), vl 10 (by omega) (by omega)]
    exact ⟨by decide, hbb, by decide, hbb⟩
  · refine ⟨fun p a => ?_, Or.inl ⟨d6, d7, fun p a => P0 p 3 a (by omega) (by omega) (by omega)⟩⟩
    rw [P0 p 3 a (by omega) (by omega) (by omega), P0 p 2 a (by omega) (by omega) (by omega), vl 10 (by omega) (by omega)]
    exact ⟨by decide, by decide, Iff.rfl⟩
  · refine ⟨fun p a => ?_, ?_, ?_⟩
    · simp only [s3]
      rw [Q0 _ 6 (by omega) (by omega) (by omega) (by omega), Q0 _ 6 (by omega) (by omega) (by omega) (by omega), Q0 _ 6 (by omega) (by omega) (by omega) (by omega), Q0 _ 8 (by omega) (by omega) (by omega) (by omega), Q0 _ 8 (by omega) (by omega) (by omega) (by omega), Q0 _ 8 (by omega) (by omega) (by omega) (by omega), P0 p 0 a (by omega) (by omega) (by omega), P0 p 1 a (by omega) (by omega) (by omega), P0 p 2 a (by omega) (by omega) (by omega)]
      exact ⟨by decide, by decide⟩
    · rw [em]; exact nI_pos' (by omega)
    · rw [em]; exact nI_le (b := 128) h2 (by omega)
theorem rng_nI {x : Int32} {lo hi : Nat} (hl : lo < 2 ^ 30) (hh : hi < 2 ^ 30) (h : nI lo ≤ x ∧ x ≤ nI hi) : ∃ j, lo ≤ j ∧ j ≤ hi ∧ x = nI j := by
  have h0 : 0 ≤ nI lo := nI_pos' (by omega)
  rcases pk_ix x (n := hi + 1) (by omega) with e | e | ⟨j, h1, h2⟩
  · exfalso; grind
  · exfalso
    have : nI hi < nI (hi + 1) := nI_lt (by omega) (by omega)
    grind
  · refine ⟨j, ?_, by omega, h2⟩
    by_cases q : lo ≤ j
    · exact q
    · exfalso
      have : nI j < nI lo := nI_lt (by omega) (by omega)
      rw [h2] at h
      grind
theorem xp0 : xP0 Inv := by
  intro n σ a1 a2 hI hn
  obtain ⟨C, P, hW⟩ := RW_of hI hn
  by_cases hr : 16 ≤ a1 ∧ a1 ≤ 128
  · by_cases hr2 : 1 ≤ a2 ∧ a2 ≤ 6
    · obtain ⟨C', c1, c2, rfl⟩ := rng_nI (lo := 16) (hi := 128) (by omega) (by omega) hr
      obtain ⟨P', p1, p2, rfl⟩ := rng_nI (lo := 1) (hi := 6) (by omega) (by omega) hr2
      obtain ⟨τ', k1, k2, k3⟩ := st_dev σ 0 C' P' (σ 0)
      obtain ⟨v', m1, m2⟩ := m_starts (va_up σ 0 τ') (vv σ) C' P'
      have kp : ∀ p r, p < 6 → r < 3 → τ' 16 p r 0 = nI r := fun p r h1 h2 => (k3 p r).trans (hW.2.2.2 p r h1 h2)
      refine close2 (τ' := τ') (v' := v') (r := vv σ 0) hI hn ?_ ?_ (RW_RR (RW_fresh c1 c2 p1 p2 (by omega) k2 m2 kp)) kp
      · rw [fX5_reset, c_out, b_s, if_pos hr, if_pos rfl, c_out, b_s, if_pos hr2, if_pos rfl, l_v, k1, b_s, up_id, hW.1.2.2.2.2.1.1]
      · rw [fX6_reset, m_in, b_s, if_pos hr, if_neg (by decide), m_in, b_s, if_pos hr2, if_neg (by decide), l_v, m1, b_s, row_rd]
    · refine ⟨-2, σ, σ, ?_, ?_, Inv_mono n σ hI⟩
      · rw [fX5_reset, c_out, b_s, if_pos hr, if_pos rfl, c_out, b_s, if_neg hr2, if_neg (by decide)]
      · rw [fX6_reset, m_in, b_s, if_pos hr, if_neg (by decide), m_in, b_s, if_neg hr2, if_pos rfl]
  · refine ⟨-2, σ, σ, ?_, ?_, Inv_mono n σ hI⟩
    · rw [fX5_reset, c_out, b_s, if_neg hr, if_neg (by decide)]
    · rw [fX6_reset, m_in, b_s, if_neg hr, if_pos rfl]
/-- the start -/
theorem start0 : ∃ (σ1 σ2 : xS), fX0_startAnew 0 64 4 kS0 = some ((), σ1) ∧ fX6_starts 64 4 (kZ σ1) = some ((), σ2) ∧ Inv 0 σ2 := by
  obtain ⟨τ', k1, k2, k3⟩ := st_dev kS0 0 64 4 (kS0 0)
  rw [up_id] at k1
  obtain ⟨v', m1, m2⟩ := m_starts (kZ (va_up kS0 0 τ')) (vv (kZ (va_up kS0 0 τ'))) 64 4
  rw [show x_row (kZ (va_up kS0 0 τ')) 5 31 0 0 (vv (kZ (va_up kS0 0 τ'))) = kZ (va_up kS0 0 τ') from row_id _] at m1
  have kp : ∀ p r, p < 6 → r < 3 → τ' 16 p r 0 = nI r := fun p r h1 h2 => (k3 p r).trans rfl
  refine ⟨va_up kS0 0 τ', x_row (kZ (va_up kS0 0 τ')) 5 31 0 0 v', k1, m1, fun _ => ?_⟩
  have hW : RW τ' v' (1000 * 0) 64 4 := RW_fresh (by omega) (by omega) (by omega) (by omega) (by omega) k2 m2 kp
  have e0 : x_row (kZ (va_up kS0 0 τ')) 5 31 0 0 v' 0 = τ' := by
    rw [row_d _ _ (by decide)]
    funext K p r k
    show (if (0 : Nat) = 5 then 0 else va_up kS0 0 τ' 0 K p r k) = _
    rw [if_neg (by decide), up_s]
  have ed : ∀ d K p r k, d ≠ 0 → d ≠ 5 → x_row (kZ (va_up kS0 0 τ')) 5 31 0 0 v' d K p r k = kS0 d K p r k := fun d K p r k h0 h5 => by
    rw [row_d _ _ h5]
    show (if d = 5 then 0 else va_up kS0 0 τ' d K p r k) = _
    rw [if_neg h5, up_n _ _ h0]
  have e5 : ∀ K p r k, K ≠ 31 → x_row (kZ (va_up kS0 0 τ')) 5 31 0 0 v' 5 K p r k = 0 := fun K p r k h => by
    rw [row_K _ _ h]
    rfl
  refine ⟨?_, fun j hj => ?_, ⟨0, by omega, ?_, ?_, fun i hi => by omega⟩, fun d p r hd hp hr => ?_⟩
  · rw [e0, show vv (x_row (kZ (va_up kS0 0 τ')) 5 31 0 0 v') = v' from row_rd _ _]
    exact RW_RR hW
  · rw [ed 4 22 0 0 j (by decide) (by decide), e5 34 0 0 j (by decide)]
    refine ⟨rfl, rfl, fun h => ?_⟩
    exact absurd h (by show ¬ (0 : Int32) = 1; decide)
  · rw [ed 4 23 0 0 1 (by decide) (by decide)]; rfl
  · rw [e5 30 0 0 5 (by decide)]; rfl
  · by_cases e : d = 0
    · subst e; rw [e0]; exact kp p r hp hr
    · rw [ed d 16 p r 0 e (by omega)]; rfl
