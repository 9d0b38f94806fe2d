/-! ===== free cells, free slots ===== -/
def meas (A : Nat → Bool) (a C : Nat) : Prop := ∀ h : Nat → Bool, ct (fun c => h c || A c) C ≤ ct h C + a
def unA (A : Nat → Nat → Bool) : Nat → Nat → Bool
  | 0, _ => false
  | n + 1, c => unA A n c || A n c
theorem unA_iff {A : Nat → Nat → Bool} {c : Nat} : ∀ {n : Nat}, unA A n c = true ↔ ∃ i, i < n ∧ A i c = true
  | 0 => ⟨fun h => by simp [unA] at h, fun ⟨i, h, _⟩ => by omega⟩
  | n + 1 => by
    rw [unA, Bool.or_eq_true, unA_iff]
    constructor
    · rintro (⟨i, h1, h2⟩ | h)
      · exact ⟨i, by omega, h2⟩
      · exact ⟨n, by omega, h⟩
    · rintro ⟨i, h1, h2⟩
      by_cases e : i = n
      · subst e; exact Or.inr h2
      · exact Or.inl ⟨i, by omega, h2⟩
theorem ct_c {f g : Nat → Bool} : ∀ {n : Nat}, (∀ c, c < n → f c = g c) → ct f n = ct g n
  | 0, _ => rfl
  | n + 1, h => by rw [ct, ct, ct_c (fun c hc => h c (by omega)), h n (by omega)]
theorem meas_un {A : Nat → Nat → Bool} {a : Nat → Nat} {C : Nat} : ∀ n, (∀ i, i < n → meas (A i) (a i) C) → meas (unA A n) (nsum a n) C
  | 0, _ => fun h => by
    rw [nsum, ct_c (g := h) (fun c _ => by simp [unA])]
    omega
  | n + 1, hA => fun h => by
    have ih := meas_un n (fun i hi => hA i (by omega)) h
    have h2 := hA n (by omega) (fun c => h c || unA A n c)
    rw [ct_c (g := fun c => (h c || unA A n c) || A n c) (fun c _ => by simp [unA, Bool.or_assoc]), nsum]
    omega
theorem meas_iv (s l C : Nat) : meas (fun c => decide (s ≤ c) && decide (c < s + l)) l C := fun h => by
  have key : ∀ n, ct (fun c => h c || (decide (s ≤ c) && decide (c < s + l))) n ≤ ct h n + (min n (s + l) - s) := fun n => by
    induction n with
    | zero => rw [ct, ct]; omega
    | succ n ih =>
      rw [ct, ct]
      by_cases z : s ≤ n ∧ n < s + l
      · split <;> split <;> omega
      · have e : (h n || (decide (s ≤ n) && decide (n < s + l))) = h n := by
          have : (decide (s ≤ n) && decide (n < s + l)) = false := by
            rw [Bool.and_eq_false_iff, decide_eq_false_iff_not, decide_eq_false_iff_not]; omega
          rw [this, Bool.or_false]
        simp only [e]
        omega
  have := key C
  show ct (fun c => h c || (decide (s ≤ c) && decide (c < s + l))) C ≤ _
  omega
theorem ct_full {f : Nat → Bool} : ∀ n, (∀ c, c < n → f c = true) → ct f n = n
  | 0, _ => rfl
  | n + 1, h => by rw [ct, ct_full n (fun c hc => h c (by omega)), if_pos (h n (by omega))]
theorem nsum_3 (u : Nat → Nat) : ∀ P, nsum u (3 * P) = nsum (fun p => u (3 * p) + u (3 * p + 1) + u (3 * p + 2)) P
  | 0 => rfl
  | P + 1 => by
    show nsum u (3 * P + 1 + 1 + 1) = _
    rw [nsum, nsum, nsum, nsum_3 u P]
    show _ = nsum _ P + (u (3 * P) + u (3 * P + 1) + u (3 * P + 2))
    omega
theorem nsum_mono {f g : Nat → Nat} : ∀ n, (∀ k, k < n → f k ≤ g k) → nsum f n ≤ nsum g n
  | 0, _ => Nat.le_refl _
  | n + 1, h => by
    have ih := nsum_mono n (fun k hk => h k (by omega))
    have := h n (by omega)
    rw [nsum, nsum]; omega
/-- cells that are not free are cells of packets -/
theorem cells_le {v : xV} {C : Nat} (hM : MX v C) : C ≤ ct (gV v) C + nsum (Uq v) 18 := by
  obtain ⟨xL, xE, xI, xU, xK, xJ, xM, xF, xD⟩ := hM
  have mK : ∀ k, k < 128 → Us v k → meas (unA (fun f c => decide (Fs v k f ≤ c) && decide (c < Fs v k f + Fl v k f)) (Pn v k)) (Sz v k) C := fun k h1 h2 => by
    have := meas_un (A := fun f c => decide (Fs v k f ≤ c) && decide (c < Fs v k f + Fl v k f)) (a := Fl v k) (C := C) (Pn v k) (fun f _ => meas_iv _ _ C)
    rw [(xK k h1 h2).2.2.2.2.2.2.2.1] at this
    exact this
  have mQ : ∀ q, q < 18 → meas (unA (fun i => unA (fun f c => decide (Fs v (Sl v q i) f ≤ c) && decide (c < Fs v (Sl v q i) f + Fl v (Sl v q i) f)) (Pn v (Sl v q i))) (Ln v q)) (Uq v q) C := fun q hq => meas_un (Ln v q) (fun i hi => mK _ (xE q i hq hi).2.1 (xE q i hq hi).2.2)
  have mA := meas_un (a := Uq v) 18 mQ (gV v)
  rw [ct_full C (fun c hc => ?_)] at mA
  · exact mA
  · rw [Bool.or_eq_true]
    rcases xM c hc with z | ⟨k, k1, k2, k3, f, f1, f2, f3⟩
    · left; unfold gV; exact decide_eq_true z
    · right
      rcases xU k k1 with z | ⟨-, q, i, hq, hi, hs⟩
      · rw [Us, z] at k2; exact absurd k2 (by decide)
      · refine unA_iff.mpr ⟨q, hq, unA_iff.mpr ⟨i, hi, unA_iff.mpr ⟨f, by rw [hs]; exact f1, ?_⟩⟩⟩
        rw [hs]
        simp [f2, f3]
theorem slots_le {v : xV} {C : Nat} (hM : MX v C) : 128 ≤ ct (fun k => decide (v (ik k 3) = 0)) 128 + nsum (Uq v) 18 := by
  obtain ⟨xL, xE, xI, xU, xK, xJ, xM, xF, xD⟩ := hM
  have mQ : ∀ q, q < 18 → meas (unA (fun i c => decide (Sl v q i ≤ c) && decide (c < Sl v q i + 1)) (Ln v q)) (nsum (fun _ => 1) (Ln v q)) 128 := fun q hq => meas_un (Ln v q) (fun i hi => meas_iv _ _ _)
  have mA := meas_un (a := fun q => nsum (fun _ => 1) (Ln v q)) 18 mQ (fun k => decide (v (ik k 3) = 0))
  have hle : nsum (fun q => nsum (fun _ => 1) (Ln v q)) 18 ≤ nsum (Uq v) 18 := nsum_mono 18 (fun q hq => nsum_mono _ (fun i hi => (xK _ (xE q i hq hi).2.1 (xE q i hq hi).2.2).2.1))
  rw [ct_full 128 (fun k hk => ?_)] at mA
  · omega
  · rw [Bool.or_eq_true]
    rcases xU k hk with z | ⟨-, q, i, hq, hi, hs⟩
    · left; exact decide_eq_true z
    · right
      refine unA_iff.mpr ⟨q, hq, unA_iff.mpr ⟨i, hi, ?_⟩⟩
      rw [hs]; simp
theorem m_newSlot {σ : xS} {v : xV} {k0 : Nat} (hk : k0 < 128) (h0 : v (ik k0 3) = 0) (hlt : ∀ k, k < k0 → v (ik k 3) = 1) : ∀ n i, i ≤ k0 → k0 < n + i → BX6_newSlot_2 n (nI i) (x_row σ 5 31 0 0 v) = some (nI k0, x_row σ 5 31 0 0 v) := by
  intro n
  induction n with
  | zero => intro i h1 h2; omega
  | succ n ih =>
    intro i h1 h2
    rw [BX6_newSlot_2, m_packet_3, b_s, in_nI (by omega) (by omega), g_t, nI_clamp (by omega), row_rd]
    by_cases e : i < k0
    · have e1 : v (2752 + 28 * i + 3) = 1 := hlt i e
      rw [e1, if_pos rfl, l_v, nI_1, ih (i + 1) (by omega) (by omega)]
    · have : i = k0 := by omega
      subst this
      have e1 : v (2752 + 28 * i + 3) = 0 := h0
      rw [e1, if_neg (by decide)]
/-- what is used, of counts that stand for u cells a queue -/
theorem used_gen {v : xV} {C P : Nat} {u : Nat → Nat} (hG : wfG v C P) (wP : wfP v) (wQ : wfQ v) (hS : wfS v P) (hu : ∀ q, q < 18 → v (iq q 6) + v (iq q 7) + v (iq q 8) = nI (u q) ∧ u q ≤ 128) (hz : ∀ p r, P ≤ p → p < 6 → r < 3 → u (3 * p + r) = 0) : nsum u 18 ≤ C := by
  obtain ⟨h0, -, h8, -, -, h6, -⟩ := hG
  have eT : ∀ p, p < 6 → s3 v p 6 + s3 v p 8 + s3 v p 7 = nI (u (3 * p) + u (3 * p + 1) + u (3 * p + 2)) := fun p hp => by
    have a := (hu (3 * p) (by omega)).1
    have b := (hu (3 * p + 1) (by omega)).1
    have c := (hu (3 * p + 2) (by omega)).1
    rw [← nI_add, ← nI_add, ← a, ← b, ← c]
    simp only [s3]
    grind
  have hle := sm32_le (f := fun p => s3 v p 6 + s3 v p 8 + s3 v p 7) (g := fun p => (v (ip p 0) + v (ip p 2) + v (ip p 1)) + s3 v p 7) P h6 (fun p hp => by
    obtain ⟨w0, w1, w2, -⟩ := wP p (by omega)
    have hs := hS.1 p (by omega)
    have x0 := wQ (3 * p) (by omega)
    have x1 := wQ (3 * p + 1) (by omega)
    have x2 := wQ (3 * p + 2) (by omega)
    have a6 := x0.2.2.2.2.2.2.1
    have b6 := x1.2.2.2.2.2.2.1
    have c6 := x2.2.2.2.2.2.2.1
    have a7 := x0.2.2.2.2.2.2.2.1
    have b7 := x1.2.2.2.2.2.2.2.1
    have c7 := x2.2.2.2.2.2.2.2.1
    have a8 := x0.2.2.2.2.2.2.2.2.1
    have b8 := x1.2.2.2.2.2.2.2.2.1
    have c8 := x2.2.2.2.2.2.2.2.2.1
    have k6 : 0 ≤ s3 v p 6 ∧ s3 v p 6 ≤ 384 := by simp only [s3]; unfold rg at *; grind
    have k7 : 0 ≤ s3 v p 7 ∧ s3 v p 7 ≤ 384 := by simp only [s3]; unfold rg at *; grind
    have k8 : 0 ≤ s3 v p 8 ∧ s3 v p 8 ≤ 384 := by simp only [s3]; unfold rg at *; grind
    have hs1 := hs.1
    have hs2 := hs.2
    show 0 ≤ s3 v p 6 + s3 v p 8 + s3 v p 7 ∧ s3 v p 6 + s3 v p 8 + s3 v p 7 ≤ (v (ip p 0) + v (ip p 2) + v (ip p 1)) + s3 v p 7 ∧ (v (ip p 0) + v (ip p 2) + v (ip p 1)) + s3 v p 7 ≤ 600
    unfold rg at *
    generalize s3 v p 6 = s6 at *
    generalize s3 v p 7 = s7 at *
    generalize s3 v p 8 = s8 at *
    grind)
  have e1 : sm32 (fun p => s3 v p 6 + s3 v p 8 + s3 v p 7) P = nI (nsum (fun p => u (3 * p) + u (3 * p + 1) + u (3 * p + 2)) P) := by
    rw [← sm32_nI]
    exact sm32_congr (fun k hk => eT k (by omega))
  have e2 := sm32_add (fun p => v (ip p 0) + v (ip p 2) + v (ip p 1)) (fun p => s3 v p 7) P
  have hf := hS.2
  rw [mFree, mPool, h0] at hf
  have hc : nI C ≤ 128 := nI_le (b := 128) (by omega) (by omega)
  have hc0 : 0 ≤ nI C := nI_pos' (by omega)
  have h3600 : nI (600 * P) ≤ 3600 := nI_le (b := 3600) (by omega) (by omega)
  rw [e1] at hle
  have hfin : nI (nsum (fun p => u (3 * p) + u (3 * p + 1) + u (3 * p + 2)) P) ≤ nI C := by
    rw [e2] at hle
    generalize sm32 (fun p => v (ip p 0) + v (ip p 2) + v (ip p 1)) P = A at *
    generalize sm32 (fun p => s3 v p 7) P = B at *
    generalize nI (nsum (fun p => u (3 * p) + u (3 * p + 1) + u (3 * p + 2)) P) = T at *
    grind
  have hb : nsum (fun p => u (3 * p) + u (3 * p + 1) + u (3 * p + 2)) P ≤ 384 * P := nsum_le P (fun p hp => by
    have a := (hu (3 * p) (by omega)).2
    have b := (hu (3 * p + 1) (by omega)).2
    have c := (hu (3 * p + 2) (by omega)).2
    show u (3 * p) + u (3 * p + 1) + u (3 * p + 2) ≤ 384
    omega)
  have e18 : nsum u 18 = nsum (fun p => u (3 * p) + u (3 * p + 1) + u (3 * p + 2)) 6 := nsum_3 u 6
  rw [e18, nsum_ext 6 h6 (fun p h1 h2 => ?_)]
  · exact (nI_leI (by omega) (by omega)).mp hfin
  · have z0 : u (3 * p) = 0 := hz p 0 h1 h2 (by omega)
    show u (3 * p) + u (3 * p + 1) + u (3 * p + 2) = 0
    rw [z0, hz p 1 h1 h2 (by omega), hz p 2 h1 h2 (by omega)]
theorem nsum_add1 {u w : Nat → Nat} {q x : Nat} : ∀ n, (∀ k, k < n → w k = u k + if k = q then x else 0) → nsum w n = nsum u n + if q < n then x else 0
  | 0, _ => by rw [nsum, nsum, if_neg (by omega)]
  | n + 1, h => by
    rw [nsum, nsum, nsum_add1 n (fun k hk => h k (by omega)), h n (by omega)]
    by_cases e : q < n
    · rw [if_pos e, if_neg (by omega), if_pos (by omega)]; omega
    · rw [if_neg e]
      by_cases e2 : n = q
      · rw [if_pos e2, if_pos (by omega)]; omega
      · rw [if_neg e2, if_neg (by omega)]; omega
