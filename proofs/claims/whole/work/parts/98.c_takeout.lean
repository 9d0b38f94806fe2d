/-! ===== a packet leaves: the class ===== -/
theorem dr_s {τ : xD} {K p r : Nat} {f : Nat → Int32} {k : Nat} : drow τ K p r f K p r k = f k := by rw [drow_rd, if_pos ⟨rfl, rfl, rfl⟩]
theorem dr_dr (τ : xD) (K p r : Nat) (f g : Nat → Int32) : drow (drow τ K p r f) K p r g = drow τ K p r g := by
  unfold drow
  simp only [up_s, up_up]
theorem dr_id {τ : xD} {K p r : Nat} {f : Nat → Int32} (h : ∀ k, f k = τ K p r k) : drow τ K p r f = τ := by
  have : f = τ K p r := funext h
  rw [this]
  unfold drow
  simp only [up_id]
theorem ds_dr (τ : xD) (K p r k : Nat) (x : Int32) : dset τ K p r k x = drow τ K p r (va_up (τ K p r) k x) := rfl
/-- cells covered by n pieces -/
def cov (s l : Nat → Nat) : Nat → Nat → Bool
  | 0, _ => false
  | n + 1, c => cov s l n c || (decide (s n ≤ c) && decide (c < s n + l n))
theorem cov_iff {s l : Nat → Nat} {c : Nat} : ∀ {n : Nat}, cov s l n c = true ↔ ∃ f, f < n ∧ s f ≤ c ∧ c < s f + l f
  | 0 => ⟨fun h => by simp [cov] at h, fun ⟨f, h, _⟩ => by omega⟩
  | n + 1 => by
    rw [cov, Bool.or_eq_true, cov_iff, Bool.and_eq_true, decide_eq_true_iff, decide_eq_true_iff]
    constructor
    · rintro (⟨f, h1, h2⟩ | h)
      · exact ⟨f, by omega, h2⟩
      · exact ⟨n, by omega, h⟩
    · rintro ⟨f, h1, h2⟩
      by_cases e : f = n
      · subst e; exact Or.inr h2
      · exact Or.inl ⟨f, by omega, h2⟩
def gbT (τ : xD) (p r : Nat) (x : Int32) : xD := dset (dset (dset τ 16 p r 12 (τ 16 p r 12 - i_min x (τ 16 p r 12))) 16 p r 11 (τ 16 p r 11 - i_min (x - i_min x (τ 16 p r 12)) (τ 16 p r 11))) 16 p r 10 (τ 16 p r 10 - (x - i_min x (τ 16 p r 12) - i_min (x - i_min x (τ 16 p r 12)) (τ 16 p r 11)))
theorem c_giveBack {σ : xS} {d p r : Nat} {x : Int32} (τ : xD) : fX3_giveBack d p r x (va_up σ d τ) = some ((), va_up σ d (gbT τ p r x)) := by
  rw [fX3_giveBack]
  simp only [l_v, up_s, set_own]
  rw [ds_n (show 16 ≠ 16 ∨ p ≠ p ∨ r ≠ r ∨ 11 ≠ 12 by omega), ds_n (show 16 ≠ 16 ∨ p ≠ p ∨ r ≠ r ∨ 10 ≠ 11 by omega), ds_n (show 16 ≠ 16 ∨ p ≠ p ∨ r ≠ r ∨ 10 ≠ 12 by omega)]
  rfl
/-- a cell, or none -/
def ce (x : Int32) : Prop := x = -1 ∨ ∃ c, c < 128 ∧ x = nI c
def lqA (τ : xD) (p r : Nat) (b a : Int32) : xD := if b = -1 then dset τ 16 p r 13 a else dset τ 9 0 0 b.toNatClampNeg a
def lqB (τ : xD) (p r : Nat) (b a : Int32) : xD := if a = -1 then dset τ 16 p r 14 b else dset τ 8 0 0 a.toNatClampNeg b
def lqT (τ : xD) (p r : Nat) (b a : Int32) : xD := dset (lqB (lqA τ p r b a) p r b a) 16 p r 15 (τ 16 p r 15 - 1)
theorem lqA_15 {τ : xD} {p r : Nat} {b a : Int32} : lqA τ p r b a 16 p r 15 = τ 16 p r 15 := by
  unfold lqA
  split
  · exact ds_n (by omega)
  · exact ds_n (by omega)
theorem c_lq49 {σ : xS} {d p r : Nat} {b a : Int32} (ha : ce a) (τ : xD) : BX1_leaveQueue_49 d d p r b a (va_up σ d τ) = some ((), va_up σ d (dset (lqB τ p r b a) 16 p r 15 (τ 16 p r 15 - 1))) := by
  rw [BX1_leaveQueue_49, lqB]
  rcases ha with rfl | ⟨c, hc, rfl⟩
  · rw [c_cell_f, b_s, if_pos rfl, if_pos rfl]
    simp only [l_v, up_s, set_own]
    rw [ds_n (by omega)]
  · rw [c_cell_t hc, b_s, if_neg (by decide), if_neg (nI_nm1 (by omega)), in_nI hc (by omega), g_t, nI_clamp (by omega)]
    simp only [l_v, up_s, set_own]
    rw [ds_n (by omega)]
theorem c_leaveQ {σ : xS} {d p r c : Nat} (τ : xD) (hc : c < 128) (hb : ce (τ 8 0 0 c)) (ha : ce (τ 9 0 0 c)) : fX1_leaveQueue d d p r (nI c) (va_up σ d τ) = some ((), va_up σ d (lqT τ p r (τ 8 0 0 c) (τ 9 0 0 c))) := by
  rw [fX1_leaveQueue, c_cell_t hc, b_s, if_neg (by decide), in_nI hc (by omega), g_t, l_v, g_t, l_v, nI_clamp (by omega), up_s, lqT, lqA]
  generalize τ 8 0 0 c = b at *
  generalize τ 9 0 0 c = a at *
  rcases hb with rfl | ⟨c', hc', rfl⟩
  · rw [c_cell_f, b_s, if_pos rfl, if_pos rfl, l_v, set_own, c_lq49 ha, ds_n (by omega)]
  · rw [c_cell_t hc', b_s, if_neg (by decide), if_neg (nI_nm1 (by omega)), in_nI hc' (by omega), g_t, nI_clamp (by omega), l_v, set_own, c_lq49 ha, ds_n (by omega)]
theorem c_rel37 {σ : xS} {d s e : Nat} {a1 a3 : Int32} {k4 : Int32 → Int32 → xS → Option (Unit × xS)} (hs : s < 128) (he : e ≤ 128) : ∀ (n i : Nat) (τ : xD), i ≤ e → e < n + i → BX1_release_37 d a1 (nI s) a3 (nI e) k4 n (nI i) (va_up σ d τ) = k4 (τ 4 0 0 s) (a3 + 1) (va_up σ d (drow τ 2 0 0 (fun c => if i ≤ c ∧ c < e then 0 else τ 2 0 0 c))) := by
  intro n
  induction n with
  | zero => intro i τ h1 h2; omega
  | succ n ih =>
    intro i τ h1 h2
    rw [BX1_release_37]
    by_cases h : i < e
    · rw [if_neg (nI_ge h (by omega)), in_nI (by omega) (by omega), g_t, nI_clamp (by omega), set_own, l_v, l_v, nI_1, ih (i + 1) _ (by omega) (by omega), ds_n (by omega), ds_dr, dr_dr]
      congr 2
      congr 1
      funext c
      by_cases q : c = i
      · subst q
        rw [if_neg (by omega), if_pos (by omega), dr_s, up_s]
      · rw [dr_s, up_n _ _ q]
        by_cases z : i + 1 ≤ c ∧ c < e
        · rw [if_pos z, if_pos (by omega)]
        · rw [if_neg z, if_neg (by omega)]
    · have : i = e := by omega
      subst this
      rw [if_pos (nI_le (Nat.le_refl _) (by omega)), in_nI hs (by omega), g_t, nI_clamp (by omega), l_v, l_v, up_s, dr_id (fun c => by rw [if_neg (by omega)])]
/-- the pieces of a packet, as the class has them -/
def pcs (τ : xD) (s l : Nat → Nat) (m : Nat) : Prop := 1 ≤ m ∧ m ≤ 12 ∧ ∀ f, f < m → s f + l f ≤ 128 ∧ 1 ≤ l f ∧ τ 3 0 0 (s f) = nI (l f) ∧ τ 4 0 0 (s f) = if f + 1 < m then nI (s (f + 1)) else -1
def rlT (τ : xD) (s l : Nat → Nat) (m : Nat) : xD := dset (drow τ 2 0 0 (fun c => if cov s l m c = true then 0 else τ 2 0 0 c)) 5 0 0 (s 0) (-1)
theorem c_rel4 {σ : xS} {d m : Nat} {s l : Nat → Nat} {τ : xD} (h : pcs τ s l m) : ∀ (n f : Nat), f ≤ m → m < n + f → BX1_release_4 d (nI (s 0)) n (if f < m then nI (s f) else -1) (nI f) (va_up σ d (drow τ 2 0 0 (fun c => if cov s l f c = true then 0 else τ 2 0 0 c))) = some ((), va_up σ d (rlT τ s l m)) := by
  obtain ⟨m1, m12, hf⟩ := h
  have s0 : s 0 < 128 := by have := hf 0 (by omega); omega
  intro n
  induction n with
  | zero => intro f h1 h2; omega
  | succ n ih =>
    intro f h1 h2
    rw [BX1_release_4]
    by_cases e : f < m
    · obtain ⟨f1, f2, f3, f4⟩ := hf f e
      have e1 : i_min 128 (nI (s f) + nI (l f)) = nI (s f + l f) := by
        rw [nI_add]
        unfold i_min
        by_cases z : s f + l f < 128
        · rw [if_pos (show nI (s f + l f) < 128 from nI_lt (b := 128) z (by omega))]
        · rw [if_neg (show ¬ nI (s f + l f) < 128 from nI_nlt (b := 128) (by omega) (by omega))]
          rw [show s f + l f = 128 by omega]
          rfl
      rw [if_neg (show ¬ (12 : Int32) ≤ nI f from nI_ge (b := 12) (by omega) (by omega)), if_pos e, c_cell_t (by omega), b_s, if_neg (by decide), in_nI (by omega) (by omega), g_t, nI_clamp (by omega), up_s, dr_n (show 3 ≠ 2 ∨ 0 ≠ 0 ∨ 0 ≠ 0 by omega), f3, e1, l_v, c_rel37 (by omega) f1 x_FU (s f) _ (by omega) (by unfold x_FU; omega), dr_dr, dr_n (show 4 ≠ 2 ∨ 0 ≠ 0 ∨ 0 ≠ 0 by omega), f4, nI_1]
      have := ih (f + 1) (by omega) (by omega)
      rw [← this]
      congr 2
      congr 1
      funext c
      rw [dr_s, cov]
      by_cases z : s f ≤ c ∧ c < s f + l f
      · rw [if_pos z, if_pos (by simp [z.1, z.2])]
      · rw [if_neg z]
        have : (decide (s f ≤ c) && decide (c < s f + l f)) = false := by
          rw [Bool.and_eq_false_iff, decide_eq_false_iff_not, decide_eq_false_iff_not]
          omega
        rw [this, Bool.or_false]
    · have : f = m := by omega
      subst this
      have e2 : (x_b (fX1_isCell d (nI (s 0)) (va_up σ d (drow τ 2 0 0 (fun c => if cov s l f c = true then 0 else τ 2 0 0 c)))) fun z1 s1 => if z1 = 0 then (some ((), s1)) else (x_g (x_in (nI (s 0)) 128) (x_let (x_set s1 d 5 0 0 (nI (s 0)).toNatClampNeg (-1)) fun s3 => some ((), s3)))) = some ((), va_up σ d (rlT τ s l f)) := by
        rw [c_cell_t s0, b_s, if_neg (by decide), in_nI s0 (by omega), g_t, nI_clamp (by omega), set_own, l_v]
        rfl
      rw [if_neg e, e2, c_cell_f, b_s, if_pos rfl, e2]
      split <;> rfl
theorem c_release {σ : xS} {d m : Nat} {s l : Nat → Nat} (τ : xD) (h : pcs τ s l m) : fX1_release d (nI (s 0)) (va_up σ d τ) = some ((), va_up σ d (rlT τ s l m)) := by
  have e := c_rel4 (σ := σ) (d := d) h x_FU 0 (by omega) (by have := h.2.1; unfold x_FU; omega)
  rw [if_pos (show 0 < m from h.1), dr_id (fun c => by rw [cov, if_neg (by decide)])] at e
  exact e
def idl (τ : xD) (p : Nat) : Prop := τ 16 p 0 15 + τ 16 p 1 15 + τ 16 p 2 15 = 0
def rsT (τ : xD) (p : Nat) : xD := dset (dset (dset τ 13 p 0 7 0) 13 p 0 8 0) 13 p 0 9 1
theorem c_idle {σ : xS} {d p : Nat} (τ : xD) : fX2_isIdle d p (va_up σ d τ) = some (if τ 16 p 0 15 + τ 16 p 1 15 + τ 16 p 2 15 = 0 then 1 else 0, va_up σ d τ) := by
  rw [fX2_isIdle, up_s]
  split <;> rfl
theorem c_restart {σ : xS} {d p : Nat} (τ : xD) : fX2_restartSending d p (va_up σ d τ) = some ((), va_up σ d (rsT τ p)) := by
  rw [fX2_restartSending]
  simp only [l_v, set_own]
  rfl
/-- a queue without packets owes nothing; a port without packets begins anew -/
def zdT (τ : xD) (p r : Nat) : xD := if τ 16 p r 15 = 0 then dset τ 16 p r 6 0 else τ
def idT (τ : xD) (p : Nat) : xD := if τ 16 p 0 15 + τ 16 p 1 15 + τ 16 p 2 15 = 0 then rsT τ p else τ
theorem c_idT {σ : xS} {d p : Nat} (τ : xD) : (x_b (fX2_isIdle d p (va_up σ d τ)) fun z5 s5 => if z5 = 0 then (some ((), s5)) else (x_b (fX2_restartSending d p s5) fun _ s6 => some ((), s6))) = some ((), va_up σ d (idT τ p)) := by
  rw [c_idle, b_s, idT]
  by_cases h : τ 16 p 0 15 + τ 16 p 1 15 + τ 16 p 2 15 = 0
  · rw [if_pos h, if_pos h, if_neg (by decide), c_restart, b_s]
  · rw [if_neg h, if_neg h, if_pos rfl]
def otT (τ : xD) (p r : Nat) (s l : Nat → Nat) (m : Nat) : xD := idT (zdT (rlT (lqT (gbT τ p r (τ 6 0 0 (s 0))) p r (τ 8 0 0 (s 0)) (τ 9 0 0 (s 0))) s l m) p r) p
theorem gb_n {τ : xD} {p r : Nat} {x : Int32} {K p' r' k : Nat} (h : K ≠ 16 ∨ p' ≠ p ∨ r' ≠ r ∨ (k ≠ 10 ∧ k ≠ 11 ∧ k ≠ 12)) : gbT τ p r x K p' r' k = τ K p' r' k := by
  unfold gbT
  rw [ds_n (by omega), ds_n (by omega), ds_n (by omega)]
theorem lqA_n {τ : xD} {p r : Nat} {b a : Int32} {K p' r' k : Nat} (h1 : K ≠ 16 ∨ p' ≠ p ∨ r' ≠ r ∨ k ≠ 13) (h2 : K ≠ 9) : lqA τ p r b a K p' r' k = τ K p' r' k := by
  unfold lqA
  split
  · exact ds_n (by omega)
  · exact ds_n (by omega)
theorem lqB_n {τ : xD} {p r : Nat} {b a : Int32} {K p' r' k : Nat} (h1 : K ≠ 16 ∨ p' ≠ p ∨ r' ≠ r ∨ k ≠ 14) (h2 : K ≠ 8) : lqB τ p r b a K p' r' k = τ K p' r' k := by
  unfold lqB
  split
  · exact ds_n (by omega)
  · exact ds_n (by omega)
theorem lq_n {τ : xD} {p r : Nat} {b a : Int32} {K p' r' k : Nat} (h1 : K ≠ 16 ∨ p' ≠ p ∨ r' ≠ r ∨ (k ≠ 13 ∧ k ≠ 14 ∧ k ≠ 15)) (h2 : K ≠ 8 ∧ K ≠ 9) : lqT τ p r b a K p' r' k = τ K p' r' k := by
  unfold lqT
  rw [ds_n (by omega), lqB_n (by omega) h2.1, lqA_n (by omega) h2.2]
theorem c_takeOut {σ : xS} {d p r m : Nat} {s l : Nat → Nat} (τ : xD) (h : pcs τ s l m) (hb : ce (τ 8 0 0 (s 0))) (ha : ce (τ 9 0 0 (s 0))) : fX0_takeOut d d p d p r (nI (s 0)) (va_up σ d τ) = some ((), va_up σ d (otT τ p r s l m)) := by
  have s0 : s 0 < 128 := by have := h.2.2 0 (by have := h.1; omega); omega
  have g8 : gbT τ p r (τ 6 0 0 (s 0)) 8 0 0 (s 0) = τ 8 0 0 (s 0) := gb_n (by omega)
  have g9 : gbT τ p r (τ 6 0 0 (s 0)) 9 0 0 (s 0) = τ 9 0 0 (s 0) := gb_n (by omega)
  have hq := c_leaveQ (σ := σ) (d := d) (p := p) (r := r) (gbT τ p r (τ 6 0 0 (s 0))) s0 (by rw [g8]; exact hb) (by rw [g9]; exact ha)
  rw [g8, g9] at hq
  have hp : pcs (lqT (gbT τ p r (τ 6 0 0 (s 0))) p r (τ 8 0 0 (s 0)) (τ 9 0 0 (s 0))) s l m := ⟨h.1, h.2.1, fun f hf => by
    rw [lq_n (by omega) (by omega), gb_n (by omega), lq_n (by omega) (by omega), gb_n (by omega)]
    exact h.2.2 f hf⟩
  rw [fX0_takeOut, c_size s0, b_s, up_s, c_giveBack, b_s, hq, b_s, c_release _ hp, b_s, up_s, otT]
  generalize rlT (lqT (gbT τ p r (τ 6 0 0 (s 0))) p r (τ 8 0 0 (s 0)) (τ 9 0 0 (s 0))) s l m = t
  rw [zdT]
  by_cases z : t 16 p r 15 = 0
  · rw [if_pos z, if_pos z, set_own, l_v]
    exact c_idT _
  · rw [if_neg z, if_neg z]
    exact c_idT _
