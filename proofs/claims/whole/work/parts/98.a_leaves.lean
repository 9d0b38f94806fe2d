/-! ===== a packet leaves: the reference ===== -/
def skp (j i : Nat) : Nat := if i < j then i else i + 1
theorem nsum_skip (f : Nat → Nat) {j : Nat} : ∀ {L : Nat}, j < L → nsum f L = nsum (fun i => f (skp j i)) (L - 1) + f j
  | 0, h => by omega
  | L + 1, h => by
    rw [Nat.add_sub_cancel]
    by_cases e : j = L
    · subst e
      rw [nsum, nsum_c (f := f) (g := fun i => f (skp j i)) (fun i hi => by simp only [skp, if_pos hi])]
    · obtain ⟨M, rfl⟩ : ∃ M, L = M + 1 := ⟨L - 1, by omega⟩
      rw [nsum, nsum_skip f (show j < M + 1 by omega), Nat.add_sub_cancel]
      show _ = nsum (fun i => f (skp j i)) M + f (skp j M) + f j
      rw [show skp j M = M + 1 by rw [skp, if_neg (by omega)]]
      omega
theorem nI_subN {a b : Nat} (h : b ≤ a) : nI a - nI b = nI (a - b) := by
  obtain ⟨c, rfl⟩ : ∃ c, a = c + b := ⟨a - b, by omega⟩
  rw [Nat.add_sub_cancel, ← nI_add]
  grind
theorem m_least (a b : Int32) (σ : xS) : fX6_least a b σ = some (i_min a b, σ) := by
  rw [fX6_least, i_min]
  by_cases h : b ≤ a
  · rw [if_pos h]
    by_cases h2 : b < a
    · rw [if_pos h2]
    · rw [if_neg h2, show b = a by grind]
  · rw [if_neg h, if_neg (by grind)]
theorem m_most (a b : Int32) (σ : xS) : fX6_most a b σ = some (i_max a b, σ) := by
  rw [fX6_most, i_max]
  by_cases h : a ≤ b
  · rw [if_pos h]
    by_cases h2 : a < b
    · rw [if_pos h2]
    · rw [if_neg h2, show b = a by grind]
  · rw [if_neg h, if_neg (by grind)]
def le8 (v : xV) (q : Nat) (x : Int32) : Int32 := i_min x (v (iq q 8))
def le7 (v : xV) (q : Nat) (x : Int32) : Int32 := i_min (x - le8 v q x) (v (iq q 7))
def le6 (v : xV) (q : Nat) (x : Int32) : Int32 := i_min (x - le8 v q x - le7 v q x) (v (iq q 6))
/-- counts of a queue less those of a packet -/
def lsV (v : xV) (q : Nat) (x : Int32) : xV := va_up (va_up (va_up v (iq q 8) (v (iq q 8) - le8 v q x)) (iq q 7) (v (iq q 7) - le7 v q x)) (iq q 6) (v (iq q 6) - le6 v q x)
theorem m_171s {σ : xS} {v : xV} {q f n : Nat} {a4 a5 : Int32} (hq : q < 18) (hf : 6 ≤ f) (hf2 : f < 9) : BX6_leaves_171 (nI q) a4 (n + 1) a5 (nI f) (x_row σ 5 31 0 0 v) = BX6_leaves_171 (nI q) a4 n (a5 - i_min a5 (v (iq q f))) (nI f + (-1)) (x_row σ 5 31 0 0 (va_up v (iq q f) (v (iq q f) - i_min a5 (v (iq q f))))) := by
  rw [BX6_leaves_171, if_neg (show ¬ nI f < 6 from nI_nlt (b := 6) hf (by omega)), m_queueN, b_s, in_nI (by omega) (by omega), g_t, nI_clamp (by omega), row_rd, m_least, b_s, m_queueN, b_s, in_nI (by omega) (by omega), g_t, g_t, nI_clamp (by omega), row_rd, row_set, l_v, l_v, l_v]
theorem m_171 {σ : xS} {v : xV} {q n : Nat} {a4 a5 : Int32} (hq : q < 18) : BX6_leaves_171 (nI q) a4 (n + 4) a5 8 (x_row σ 5 31 0 0 v) = some (a4, x_row σ 5 31 0 0 (lsV v q a5)) := by
  show BX6_leaves_171 (nI q) a4 (n + 3 + 1) a5 (nI 8) (x_row σ 5 31 0 0 v) = _
  rw [m_171s hq (by omega) (by omega), show nI 8 + (-1) = nI 7 from pk_m1 7, m_171s hq (by omega) (by omega), show nI 7 + (-1) = nI 6 from pk_m1 6, m_171s hq (by omega) (by omega), show nI 6 + (-1) = nI 5 from pk_m1 5, BX6_leaves_171, if_pos (show nI 5 < 6 from nI_lt (b := 6) (by omega) (by omega))]
  have n1 : iq q 7 ≠ iq q 8 := qq (by omega) (by omega) (by omega)
  have n2 : iq q 6 ≠ iq q 8 := qq (by omega) (by omega) (by omega)
  have n3 : iq q 6 ≠ iq q 7 := qq (by omega) (by omega) (by omega)
  rw [up_n _ _ n3, up_n _ _ n2, up_n _ _ n1]
  rfl
theorem m_6s {σ : xS} {v : xV} {q f n : Nat} {a5 : Int32} (hq : q < 18) (hf : 6 ≤ f) (hf2 : f < 9) : BX6_lessens_6 (nI q) (n + 1) a5 (nI f) (x_row σ 5 31 0 0 v) = BX6_lessens_6 (nI q) n (a5 - i_min a5 (v (iq q f))) (nI f + (-1)) (x_row σ 5 31 0 0 (va_up v (iq q f) (v (iq q f) - i_min a5 (v (iq q f))))) := by
  rw [BX6_lessens_6, if_neg (show ¬ nI f < 6 from nI_nlt (b := 6) hf (by omega)), m_queueN, b_s, in_nI (by omega) (by omega), g_t, nI_clamp (by omega), row_rd, m_least, b_s, m_queueN, b_s, in_nI (by omega) (by omega), g_t, g_t, nI_clamp (by omega), row_rd, row_set, l_v, l_v, l_v]
theorem m_lessens {σ : xS} {v : xV} {q : Nat} {a5 : Int32} (hq : q < 18) : fX6_lessens (nI q) a5 (x_row σ 5 31 0 0 v) = some ((), x_row σ 5 31 0 0 (lsV v q a5)) := by
  show BX6_lessens_6 (nI q) (199999 + 1) a5 (nI 8) (x_row σ 5 31 0 0 v) = _
  rw [m_6s hq (by omega) (by omega), show nI 8 + (-1) = nI 7 from pk_m1 7]
  show BX6_lessens_6 (nI q) (199998 + 1) _ (nI 7) _ = _
  rw [m_6s hq (by omega) (by omega), show nI 7 + (-1) = nI 6 from pk_m1 6]
  show BX6_lessens_6 (nI q) (199997 + 1) _ (nI 6) _ = _
  rw [m_6s hq (by omega) (by omega), show nI 6 + (-1) = nI 5 from pk_m1 5]
  show BX6_lessens_6 (nI q) (199996 + 1) _ (nI 5) _ = _
  rw [BX6_lessens_6, if_pos (show nI 5 < 6 from nI_lt (b := 6) (by omega) (by omega))]
  have n1 : iq q 7 ≠ iq q 8 := qq (by omega) (by omega) (by omega)
  have n2 : iq q 6 ≠ iq q 8 := qq (by omega) (by omega) (by omega)
  have n3 : iq q 6 ≠ iq q 7 := qq (by omega) (by omega) (by omega)
  rw [up_n _ _ n3, up_n _ _ n2, up_n _ _ n1]
  rfl
/-- the cells of slot k made free, from cell i on -/
def clr (v : xV) (k C i : Nat) : xV := fun m => if 6336 + i ≤ m ∧ m < 6336 + C ∧ v m = nI (k + 1) then 0 else v m
theorem m_103 {σ : xS} {q k C : Nat} {a4 : Int32} (hC : C ≤ 128) : ∀ (n i : Nat) (v : xV), v 0 = nI C → i ≤ C → C < n + i → BX6_leaves_103 (nI q) (nI k) a4 n (nI i) (x_row σ 5 31 0 0 v) = BX6_leaves_171 (nI q) a4 x_FU a4 8 (x_row σ 5 31 0 0 (clr v k C i)) := by
  intro n
  induction n with
  | zero => intro i v h0 h1 h2; omega
  | succ n ih =>
    intro i v h0 h1 h2
    rw [BX6_leaves_103, row_rd, h0]
    by_cases e : i < C
    · have e1 : (6336 : Int32) + nI i = nI (6336 + i) := nI_add 6336 i
      rw [if_neg (nI_ge e (by omega)), e1, l_v, in_nI (by omega) (by omega), g_t, nI_clamp (by omega), nI_1]
      by_cases h : v (6336 + i) = nI (k + 1)
      · rw [if_pos h, l_v, in_nI (by omega) (by omega), g_t, nI_clamp (by omega), row_set, l_v, l_v, nI_1, ih (i + 1) _ (by rw [up_n _ _ (by omega)]; exact h0) (by omega) (by omega)]
        congr 2
        funext m
        unfold clr
        by_cases q1 : m = 6336 + i
        · subst q1
          rw [if_neg (by omega), up_s, if_pos ⟨by omega, by omega, h⟩]
        · rw [up_n _ _ q1]
          by_cases q2 : 6336 + (i + 1) ≤ m ∧ m < 6336 + C ∧ v m = nI (k + 1)
          · rw [if_pos q2, if_pos ⟨by omega, q2.2⟩]
          · rw [if_neg q2, if_neg (fun z => q2 ⟨by omega, z.2⟩)]
      · rw [if_neg h, l_v, in_nI (by omega) (by omega), g_t, l_v, in_nI (by omega) (by omega), g_t, nI_clamp (by omega), row_set, up_id, l_v, l_v, nI_1, ih (i + 1) v h0 (by omega) (by omega)]
        congr 2
        funext m
        unfold clr
        by_cases q1 : m = 6336 + i
        · subst q1
          rw [if_neg (by omega), if_neg (fun z => h z.2.2)]
        · by_cases q2 : 6336 + (i + 1) ≤ m ∧ m < 6336 + C ∧ v m = nI (k + 1)
          · rw [if_pos q2, if_pos ⟨by omega, q2.2⟩]
          · rw [if_neg q2, if_neg (fun z => q2 ⟨by omega, z.2⟩)]
    · have : i = C := by omega
      subst this
      rw [if_pos (nI_le (Nat.le_refl _) (by omega))]
      congr 2
      funext m
      unfold clr
      rw [if_neg (by omega)]
/-- the entries of queue q from place i on, one place ahead -/
def shf (v : xV) (q i L : Nat) : xV := fun m => if 448 + 128 * q + i ≤ m + 1 ∧ m + 1 < 448 + 128 * q + L then v (m + 1) else v m
theorem m_28 {σ : xS} {q k L : Nat} {a4 : Int32} (hq : q < 18) (hk : k < 128) (hL : L ≤ 128) : ∀ (n i : Nat) (v : xV), v (iq q 12) = nI L → 1 ≤ i → i ≤ L → L < n + i → BX6_leaves_28 (nI q) (nI k) a4 n (nI i) (x_row σ 5 31 0 0 v) = BX6_leaves_103 (nI q) (nI k) a4 x_FU 0 (x_row σ 5 31 0 0 (va_up (va_up (shf v q i L) (iq q 12) (nI L - 1)) (ik k 3) 0)) := by
  intro n
  induction n with
  | zero => intro i v h0 h1 h2 h3; omega
  | succ n ih =>
    intro i v h0 h1 h2 h3
    rw [BX6_leaves_28, m_queue_12, b_s, in_nI (by omega) (by omega), g_t, nI_clamp (by omega), row_rd, h0]
    by_cases e : i < L
    · obtain ⟨i', rfl⟩ : ∃ i', i = i' + 1 := ⟨i - 1, by omega⟩
      rw [if_neg (nI_ge e (by omega)), nI_pred, m_entry, b_s, m_entry, b_s, in_nI (by omega) (by omega), g_t, in_nI (by omega) (by omega), g_t, nI_clamp (by omega), nI_clamp (by omega), row_rd, row_set, l_v, l_v, nI_1, ih (i' + 1 + 1) _ (by rw [up_n _ _ (by show 160 + 16 * q + 12 ≠ _; omega)]; exact h0) (by omega) (by omega) (by omega)]
      congr 4
      funext m
      unfold shf
      by_cases q1 : m = 448 + 128 * q + i'
      · subst q1
        rw [if_neg (by omega), up_s, if_pos (by omega)]
        rfl
      · rw [up_n _ _ q1]
        by_cases q2 : 448 + 128 * q + (i' + 1 + 1) ≤ m + 1 ∧ m + 1 < 448 + 128 * q + L
        · rw [if_pos q2, if_pos (by omega), up_n _ _ (by omega)]
        · rw [if_neg q2, if_neg (by omega)]
    · have : i = L := by omega
      subst this
      rw [if_pos (nI_le (Nat.le_refl _) (by omega)), m_queue_12, b_s, in_nI (by omega) (by omega), g_t, g_t, nI_clamp (by omega), row_rd, h0, row_set, l_v, m_packet_3, b_s, in_nI (by omega) (by omega), g_t, nI_clamp (by omega), row_set, l_v]
      congr 4
      funext m
      unfold shf
      rw [if_neg (by omega)]
/-- the row behind a packet's leaving -/
def lvV (v : xV) (q j C : Nat) : xV := lsV (clr (va_up (va_up (shf v q (j + 1) (Ln v q)) (iq q 12) (nI (Ln v q) - 1)) (ik (Sl v q j) 3) 0) (Sl v q j) C 0) q (v (ik (Sl v q j) 1))
theorem m_leaves {σ : xS} {v : xV} {q j C : Nat} (h0 : v 0 = nI C) (hC : C ≤ 128) (hM : MX v C) (hq : q < 18) (hj : j < Ln v q) : fX6_leaves (nI q) (nI j) (x_row σ 5 31 0 0 v) = some (v (ik (Sl v q j) 1), x_row σ 5 31 0 0 (lvV v q j C)) := by
  obtain ⟨l1, l2⟩ := hM.1 q hq
  obtain ⟨s1, s2, s3⟩ := hM.2.1 q j hq hj
  rw [fX6_leaves, m_entry, b_s, in_nI (by omega) (by omega), g_t, nI_clamp (by omega), row_rd, show v (448 + 128 * q + j) = nI (Sl v q j) from s1, l_v, m_packet_1, b_s, in_nI (by omega) (by omega), g_t, nI_clamp (by omega), row_rd, l_v, l_v, nI_1, m_28 hq s2 l2 x_FU (j + 1) v l1 (by omega) (by omega) (by unfold x_FU; omega)]
  have e := m_103 (σ := σ) (q := q) (k := Sl v q j) (C := C) (a4 := v (ik (Sl v q j) 1)) hC x_FU 0 (va_up (va_up (shf v q (j + 1) (Ln v q)) (iq q 12) (nI (Ln v q) - 1)) (ik (Sl v q j) 3) 0) (by
    rw [up_n _ _ (by simp only [ik]; omega), up_n _ _ (by simp only [iq]; omega), shf, if_neg (by omega)]
    exact h0) (by omega) (by unfold x_FU; omega)
  exact e.trans (m_171 (n := 199996) hq)
