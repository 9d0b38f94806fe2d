/-! ===== the text: letters, digits, numbers ===== -/
def X4 (σ : xS) (f : Nat → Int32) : xS := x_row σ 4 23 0 0 f
def X5 (σ : xS) (h : Nat → Int32) (v : xV) : xS := x_row (x_row σ 5 30 0 0 h) 5 31 0 0 v
def TN (N : Nat → Nat) (len : Nat) : Prop := len ≤ 120 ∧ ∀ j, j < len → N j ≤ 127
def C4 (σ : xS) (N : Nat → Nat) (len : Nat) : Prop := ∀ j, j < len → σ 4 24 0 0 j = nI (N j)
def C5 (σ : xS) (N : Nat → Nat) (len : Nat) : Prop := ∀ j, j < len → σ 5 35 0 0 j = nI (N j)
/-- a reader at place i, no fault yet -/
def CS (σ : xS) (N : Nat → Nat) (len i : Nat) (f : Nat → Int32) : Prop := C4 σ N len ∧ f 1 = nI len ∧ f 2 = nI i ∧ f 3 = -1
def MS (σ : xS) (N : Nat → Nat) (len i : Nat) (h : Nat → Int32) : Prop := C5 σ N len ∧ h 5 = nI len ∧ h 9 = nI i ∧ h 10 = -1
theorem X4_rd (σ : xS) (f : Nat → Int32) (k : Nat) : X4 σ f 4 23 0 0 k = f k := by unfold X4; rw [x_row_same]
theorem X4_24 (σ : xS) (f : Nat → Int32) : X4 σ f 4 24 = σ 4 24 := by unfold X4 x_row; rw [up_s, up_n _ _ (by decide)]
theorem X4_set (σ : xS) (f : Nat → Int32) (k : Nat) (y : Int32) : x_set (X4 σ f) 4 23 0 0 k y = X4 σ (va_up f k y) := by
  unfold X4 x_set
  rw [x_row_same]
  unfold x_row
  simp only [up_s, up_up]
theorem X5_rd (σ : xS) (h : Nat → Int32) (v : xV) (k : Nat) : X5 σ h v 5 30 0 0 k = h k := by unfold X5; rw [row_K _ _ (by decide), rowK_rd]
theorem X5_35 (σ : xS) (h : Nat → Int32) (v : xV) : X5 σ h v 5 35 = σ 5 35 := by unfold X5; rw [row_K _ _ (by decide), rowK_K _ _ _ (by decide)]
theorem X5_31 (σ : xS) (h : Nat → Int32) (v : xV) : X5 σ h v 5 31 0 0 = v := by unfold X5; rw [row_rd]
theorem X5_set (σ : xS) (h : Nat → Int32) (v : xV) (k : Nat) (y : Int32) : x_set (X5 σ h v) 5 30 0 0 k y = X5 σ (va_up h k y) v := by
  unfold X5
  rw [setK _ _ _ _ _ (by decide), rowK_rd, rowK_rowK]
/-- the letter at a place, or -1 -/
def lt (N : Nat → Nat) (len i : Nat) : Int32 := if i < len then nI (N i) else -1
section TXT
variable {N : Nat → Nat} {len : Nat}
theorem c_here {σ : xS} {f : Nat → Int32} {i : Nat} (hT : TN N len) (hi : i ≤ len) (hc : C4 σ N len) (h1 : f 1 = nI len) (h2 : f 2 = nI i) : fX4_letterHere (X4 σ f) = some (lt N len i, X4 σ f) := by
  have := hT.1
  rw [fX4_letterHere, X4_rd, X4_rd, h1, h2, if_neg (nI_nn (by omega)), lt]
  by_cases z : i < len
  · rw [if_neg (nI_ge z (by omega)), if_neg (show ¬ (120 : Int32) ≤ nI i from nI_ge (b := 120) (by omega) (by omega)), l_v, in_nI (by omega) (by omega), g_t, nI_clamp (by omega), X4_24, hc i z, if_pos z]
  · rw [if_pos (nI_le (by omega) (by omega)), if_neg z]
theorem m_here {σ : xS} {h : Nat → Int32} {v : xV} {i : Nat} (hT : TN N len) (hi : i ≤ len) (hc : C5 σ N len) (h1 : h 5 = nI len) (h2 : h 9 = nI i) : fX6_here (X5 σ h v) = some (lt N len i, X5 σ h v) := by
  have := hT.1
  rw [fX6_here, X5_rd, X5_rd, h1, h2, lt]
  by_cases z : i < len
  · rw [if_neg (nI_ge z (by omega)), l_v, in_nI (by omega) (by omega), g_t, nI_clamp (by omega), X5_35, hc i z, if_pos z]
  · rw [if_pos (nI_le (by omega) (by omega)), if_neg z]
def isd (N : Nat → Nat) (j : Nat) : Bool := decide (48 ≤ N j ∧ N j ≤ 57)
theorem lt_dig (hT : TN N len) {i : Nat} (hi : i ≤ len) : (48 ≤ lt N len i ∧ lt N len i ≤ 57) ↔ i < len ∧ isd N i = true := by
  have := hT.1
  unfold lt isd
  by_cases z : i < len
  · have b := hT.2 i z
    rw [if_pos z, decide_eq_true_iff]
    constructor
    · rintro ⟨a1, a2⟩
      exact ⟨z, (nI_leI (a := 48) (by omega) (by omega)).mp a1, (nI_leI (b := 57) (by omega) (by omega)).mp a2⟩
    · rintro ⟨-, a1, a2⟩
      exact ⟨nI_le (a := 48) a1 (by omega), nI_le (b := 57) a2 (by omega)⟩
  · rw [if_neg z]
    exact ⟨fun a => absurd a.1 (by decide), fun a => absurd a.1 z⟩
theorem m_isDig {σ : xS} {h : Nat → Int32} {v : xV} {i : Nat} (hT : TN N len) (hi : i ≤ len) (hc : C5 σ N len) (h1 : h 5 = nI len) (h2 : h 9 = nI i) : fX6_isDigit (X5 σ h v) = some (if i < len ∧ isd N i = true then 1 else 0, X5 σ h v) := by
  rw [fX6_isDigit, m_here hT hi hc h1 h2, b_s, m_in, b_s, z_01, g_t]
  by_cases z : i < len ∧ isd N i = true
  · rw [if_pos z, if_pos ((lt_dig hT hi).mpr z)]
  · rw [if_neg z, if_neg (fun y => z ((lt_dig hT hi).mp y))]
theorem m_faults {σ : xS} {h : Nat → Int32} {v : xV} {y : Int32} (h10 : h 10 = -1) : fX6_faults y (X5 σ h v) = some ((), X5 σ (va_up h 10 y) v) := by
  rw [fX6_faults, X5_rd, h10, if_neg (by decide), X5_set, l_v]
theorem CS_at {σ : xS} {i j : Nat} {f : Nat → Int32} (h : CS σ N len i f) : CS σ N len j (va_up f 2 (nI j)) := ⟨h.1, by rw [up_n _ _ (by decide)]; exact h.2.1, up_s _ _ _, by rw [up_n _ _ (by decide)]; exact h.2.2.2⟩
theorem MS_at {σ : xS} {i j : Nat} {h : Nat → Int32} (hm : MS σ N len i h) : MS σ N len j (va_up h 9 (nI j)) := ⟨hm.1, by rw [up_n _ _ (by decide)]; exact hm.2.1, up_s _ _ _, by rw [up_n _ _ (by decide)]; exact hm.2.2.2⟩
theorem dig_both (hT : TN N len) {i B : Nat} (hi : i ≤ len) (hB1 : 1 ≤ B) (hB : B ≤ 6) : (∃ d, d < B ∧ i < len ∧ (∀ σ f, CS σ N len i f → fX4_readDigit (nI B) (X4 σ f) = some (nI d, X4 σ (va_up f 2 (nI (i + 1))))) ∧ (∀ σ h v, MS σ N len i h → fX6_digit (nI (B - 1)) (X5 σ h v) = some (nI d, X5 σ (va_up h 9 (nI (i + 1))) v))) ∨ ((∀ σ f, CS σ N len i f → fX4_readDigit (nI B) (X4 σ f) = some (0, X4 σ (va_up f 3 (nI i)))) ∧ (∀ σ h v, MS σ N len i h → fX6_digit (nI (B - 1)) (X5 σ h v) = some (0, X5 σ (va_up h 10 (nI i)) v))) := by
  have h120 := hT.1
  have hc0 : ∀ σ f, CS σ N len i f → fX4_readDigit (nI B) (X4 σ f) = if lt N len i - 48 < 0 then some (0, X4 σ (va_up f 3 (nI i))) else if lt N len i - 48 < nI B then some (lt N len i - 48, X4 σ (va_up f 2 (nI (i + 1)))) else some (0, X4 σ (va_up f 3 (nI i))) := fun σ f hC => by
    rw [fX4_readDigit, c_here hT hi hC.1 hC.2.1 hC.2.2.1, b_s, l_v, X4_rd, hC.2.2.2, if_pos rfl, X4_rd, hC.2.2.1, X4_set, l_v, X4_set, l_v, nI_1]
  have hm0 : ∀ σ h v, MS σ N len i h → fX6_digit (nI (B - 1)) (X5 σ h v) = if i < len ∧ isd N i = true then (if lt N len i - 48 ≤ nI (B - 1) then some (lt N len i - 48, X5 σ (va_up h 9 (nI (i + 1))) v) else some (0, X5 σ (va_up h 10 (nI i)) v)) else some (0, X5 σ (va_up h 10 (nI i)) v) := fun σ h v hM => by
    rw [fX6_digit, m_here hT hi hM.1 hM.2.1 hM.2.2.1, b_s, l_v, m_isDig hT hi hM.1 hM.2.1 hM.2.2.1, b_s, X5_rd, hM.2.2.1, m_faults hM.2.2.2]
    by_cases z : i < len ∧ isd N i = true
    · rw [if_pos z, if_pos z, if_neg (by decide)]
      by_cases y : lt N len i - 48 ≤ nI (B - 1)
      · rw [if_pos y, if_pos y, X5_set, l_v, nI_1]
      · rw [if_neg y, if_neg y, b_s]
    · rw [if_neg z, if_neg z, if_pos rfl, b_s]
  by_cases z : i < len ∧ 48 ≤ N i ∧ N i < 48 + B
  · obtain ⟨z1, z2, z3⟩ := z
    have e : lt N len i - 48 = nI (N i - 48) := by
      rw [lt, if_pos z1]; exact nI_subN (b := 48) z2
    have hd : isd N i = true := by unfold isd; rw [decide_eq_true_iff]; omega
    refine Or.inl ⟨N i - 48, by omega, z1, fun σ f hC => ?_, fun σ h v hM => ?_⟩
    · rw [hc0 σ f hC, e, if_neg (nI_nn (by omega)), if_pos (nI_lt (by omega) (by omega))]
    · rw [hm0 σ h v hM, e, if_pos ⟨z1, hd⟩, if_pos (nI_le (by omega) (by omega))]
  · refine Or.inr ⟨fun σ f hC => ?_, fun σ h v hM => ?_⟩
    · rw [hc0 σ f hC]
      by_cases z1 : i < len
      · have b := hT.2 i z1
        by_cases z2 : 48 ≤ N i
        · have e : lt N len i - 48 = nI (N i - 48) := by rw [lt, if_pos z1]; exact nI_subN (b := 48) z2
          rw [e, if_neg (nI_nn (by omega)), if_neg (nI_nlt (by omega) (by omega))]
        · rw [lt, if_pos z1, if_pos]
          have h1 : nI (N i) < 48 := nI_lt (b := 48) (by omega) (by omega)
          have h2 : 0 ≤ nI (N i) := nI_pos' (by omega)
          grind
      · rw [lt, if_neg z1, if_pos (by decide)]
    · rw [hm0 σ h v hM]
      by_cases y : i < len ∧ isd N i = true
      · obtain ⟨y1, y2⟩ := y
        have b := hT.2 i y1
        have y3 : 48 ≤ N i ∧ N i ≤ 57 := by unfold isd at y2; exact of_decide_eq_true y2
        have e : lt N len i - 48 = nI (N i - 48) := by rw [lt, if_pos y1]; exact nI_subN (b := 48) y3.1
        rw [if_pos ⟨y1, y2⟩, e, if_neg (nI_ge (by omega) (by omega))]
      · rw [if_neg y]
theorem exp_both (hT : TN N len) {i c : Nat} (hi : i ≤ len) (hc : c ≤ 127) : (i < len ∧ (∀ σ f, CS σ N len i f → fX4_expect (nI c) (X4 σ f) = some ((), X4 σ (va_up f 2 (nI (i + 1))))) ∧ (∀ σ h v, MS σ N len i h → fX6_sign (nI c) (X5 σ h v) = some ((), X5 σ (va_up h 9 (nI (i + 1))) v))) ∨ ((∀ σ f, CS σ N len i f → fX4_expect (nI c) (X4 σ f) = some ((), X4 σ (va_up f 3 (nI i)))) ∧ (∀ σ h v, MS σ N len i h → fX6_sign (nI c) (X5 σ h v) = some ((), X5 σ (va_up h 10 (nI i)) v))) := by
  have h120 := hT.1
  have hc0 : ∀ σ f, CS σ N len i f → fX4_expect (nI c) (X4 σ f) = if lt N len i = nI c then some ((), X4 σ (va_up f 2 (nI (i + 1)))) else some ((), X4 σ (va_up f 3 (nI i))) := fun σ f hC => by
    rw [fX4_expect, X4_rd, hC.2.2.2, if_pos rfl, c_here hT hi hC.1 hC.2.1 hC.2.2.1, b_s, X4_rd, hC.2.2.1, X4_set, X4_set, nI_1, l_v, l_v]
  have hm0 : ∀ σ h v, MS σ N len i h → fX6_sign (nI c) (X5 σ h v) = if lt N len i = nI c then some ((), X5 σ (va_up h 9 (nI (i + 1))) v) else some ((), X5 σ (va_up h 10 (nI i)) v) := fun σ h v hM => by
    rw [fX6_sign, m_here hT hi hM.1 hM.2.1 hM.2.2.1, b_s, X5_rd, hM.2.2.1, X5_set, nI_1, l_v, m_faults hM.2.2.2, b_s]
  by_cases z : i < len ∧ N i = c
  · have e : lt N len i = nI c := by rw [lt, if_pos z.1, z.2]
    exact Or.inl ⟨z.1, fun σ f hC => by rw [hc0 σ f hC, if_pos e], fun σ h v hM => by rw [hm0 σ h v hM, if_pos e]⟩
  · have e : ¬ lt N len i = nI c := fun y => by
      unfold lt at y
      by_cases z1 : i < len
      · have b := hT.2 i z1
        rw [if_pos z1] at y
        exact z ⟨z1, nIeq (by omega) (by omega) y⟩
      · rw [if_neg z1] at y
        exact nI_nm1 (by omega) y.symm
    exact Or.inr ⟨fun σ f hC => by rw [hc0 σ f hC, if_neg e], fun σ h v hM => by rw [hm0 σ h v hM, if_neg e]⟩
-- numbers
def vc (M : Nat) (N : Nat → Nat) : Nat → Nat → Nat → Nat
  | _, 0, c => c
  | i, k + 1, c => vc M N (i + 1) k (min M (c * 10 + (N i - 48)))
theorem rn_isd {m i : Nat} : ∀ {j}, j < rn (isd N) m i → 48 ≤ N (i + j) ∧ N (i + j) ≤ 57 := fun hj => by
  have := rn_free m i _ hj
  unfold isd at this
  exact of_decide_eq_true this
theorem vc_le {M : Nat} : ∀ k i c, c ≤ M → vc M N i k c ≤ M
  | 0, i, c, h => h
  | k + 1, i, c, h => by rw [vc]; exact vc_le k (i + 1) _ (by omega)
theorem vc_ge {M : Nat} (hM : 100 ≤ M) : ∀ k i c, 100 ≤ c → 100 ≤ vc M N i k c
  | 0, i, c, h => h
  | k + 1, i, c, h => by rw [vc]; exact vc_ge hM k (i + 1) _ (by omega)
theorem i_min_nI {a b : Nat} (ha : a < 2 ^ 31) (hb : b < 2 ^ 31) : i_min (nI a) (nI b) = nI (min a b) := by
  unfold i_min
  by_cases z : b < a
  · rw [if_pos (nI_lt z (by omega)), show min a b = b by omega]
  · rw [if_neg (nI_nlt (by omega) (by omega)), show min a b = a by omega]
theorem c_numr {σ : xS} (hT : TN N len) (hc : C4 σ N len) {a1 a2 a3 a4 : Int32} : ∀ (n m i c : Nat) (f : Nat → Int32), i + m = len → m < n → c ≤ 999 → f 1 = nI len → f 2 = nI i → BX4_readNumber_24 a1 a2 a3 a4 n (nI c) (X4 σ f) = BX4_readNumber_87 a1 a2 a3 a4 (nI (vc 999 N i (rn (isd N) m i) c)) (X4 σ (va_up f 2 (nI (i + rn (isd N) m i)))) := by
  intro n
  induction n with
  | zero => intro m i c f h1 h2; omega
  | succ n ih =>
    intro m i c f h1 h2 h3 h4 h5
    have h120 := hT.1
    rw [BX4_readNumber_24, X4_rd, X4_rd, h4, h5]
    cases m with
    | zero =>
      rw [if_pos (nI_le (by omega) (by omega)), rn, vc, Nat.add_zero, ← h5, up_id]
    | succ m =>
      have hi : i < len := by omega
      have b := hT.2 i hi
      have hh := c_here hT (show i ≤ len by omega) hc h4 h5
      have el : lt N len i = nI (N i) := by rw [lt, if_pos hi]
      rw [el] at hh
      rw [if_neg (nI_ge hi (by omega)), hh, b_s, rn]
      by_cases z : isd N i = true
      · have z2 : 48 ≤ N i ∧ N i ≤ 57 := by unfold isd at z; exact of_decide_eq_true z
        have e1 : nI c * 10 + nI (N i) - 48 = nI (c * 10 + (N i - 48)) := by
          rw [show (10 : Int32) = nI 10 from rfl, pk_mul, nI_add, show (48 : Int32) = nI 48 from rfl, nI_subN (by omega), show c * 10 + N i - 48 = c * 10 + (N i - 48) by omega]
        rw [if_neg (show ¬ nI (N i) < 48 from nI_nlt (b := 48) z2.1 (by omega)), hh, b_s, if_neg (show ¬ 57 < nI (N i) from nI_nlt (a := 57) z2.2 (by omega)), hh, b_s, e1, show (999 : Int32) = nI 999 from rfl, i_min_nI (by omega) (by omega), l_v, X4_rd, h5, X4_set, nI_1, l_v, ih m (i + 1) _ _ (by omega) (by omega) (by omega) (by rw [up_n _ _ (by decide)]; exact h4) (up_s _ _ _), if_pos z, up_up, vc, show i + 1 + rn (isd N) m (i + 1) = i + (rn (isd N) m (i + 1) + 1) by omega]
      · have z2 : ¬ (48 ≤ N i ∧ N i ≤ 57) := fun y => z (by unfold isd; exact decide_eq_true y)
        rw [if_neg z, vc, Nat.add_zero, ← h5, up_id]
        by_cases y : N i < 48
        · rw [if_pos (show nI (N i) < 48 from nI_lt (b := 48) y (by omega))]
        · rw [if_neg (show ¬ nI (N i) < 48 from nI_nlt (b := 48) (by omega) (by omega)), hh, b_s, if_pos (show 57 < nI (N i) from nI_lt (a := 57) (by omega) (by omega))]
/-- the reference's end of a number -/
def mEnd (a1 a2 a3 a4 : Int32) (s2 : xS) : Option (Int32 × xS) := if (s2 5 30 0 0 9) = a3 then (x_b (fX6_faults a3 s2) fun _ s3 => some (a4, s3)) else (x_g (x_in a3 120) (if (s2 5 35 0 0 a3.toNatClampNeg) = 48 then (x_b (fX6_faults a3 s2) fun _ s5 => some (a4, s5)) else (if 2 < ((s2 5 30 0 0 9) - a3) then (x_b (fX6_faults a3 s2) fun _ s6 => some (a4, s6)) else (x_b (fX6_in a4 a1 a2 s2) fun z7 s7 => if z7 = 0 then (x_b (fX6_faults a3 s7) fun _ s8 => some (a4, s8)) else (some (a4, s7))))))
theorem m_num {σ : xS} {v : xV} (hT : TN N len) (hc : C5 σ N len) {a1 a2 a3 : Int32} : ∀ (n m i c : Nat) (h : Nat → Int32), i + m = len → m < n → c ≤ 1000 → h 5 = nI len → h 9 = nI i → BX6_number_8 a1 a2 a3 n (nI c) (X5 σ h v) = mEnd a1 a2 a3 (nI (vc 1000 N i (rn (isd N) m i) c)) (X5 σ (va_up h 9 (nI (i + rn (isd N) m i))) v) := by
  intro n
  induction n with
  | zero => intro m i c h h1 h2; omega
  | succ n ih =>
    intro m i c h h1 h2 h3 h4 h5
    have h120 := hT.1
    rw [BX6_number_8, m_isDig hT (by omega) hc h4 h5, b_s]
    cases m with
    | zero =>
      rw [if_neg (show ¬ (i < len ∧ isd N i = true) by omega), if_pos rfl, rn, vc, Nat.add_zero, ← h5, up_id]
      rfl
    | succ m =>
      have hi : i < len := by omega
      have b := hT.2 i hi
      have hh := m_here (v := v) hT (show i ≤ len by omega) hc h4 h5
      have el : lt N len i = nI (N i) := by rw [lt, if_pos hi]
      rw [el] at hh
      rw [rn]
      by_cases z : isd N i = true
      · have z2 : 48 ≤ N i ∧ N i ≤ 57 := by unfold isd at z; exact of_decide_eq_true z
        have e1 : (10 : Int32) * nI c + nI (N i) - 48 = nI (c * 10 + (N i - 48)) := by
          rw [show (10 : Int32) = nI 10 from rfl, pk_mul, nI_add, show (48 : Int32) = nI 48 from rfl, nI_subN (by omega), show 10 * c + N i - 48 = c * 10 + (N i - 48) by omega]
        rw [if_pos (show i < len ∧ isd N i = true from ⟨hi, z⟩), if_neg (show ¬ (1 : Int32) = 0 by decide), hh, b_s, e1, show (1000 : Int32) = nI 1000 from rfl, m_least, b_s, i_min_nI (by omega) (by omega), X5_rd, h5, X5_set, nI_1, l_v, ih m (i + 1) _ _ (by omega) (by omega) (by omega) (by rw [up_n _ _ (by decide)]; exact h4) (up_s _ _ _), if_pos z, up_up, vc, show i + 1 + rn (isd N) m (i + 1) = i + (rn (isd N) m (i + 1) + 1) by omega]
      · rw [if_neg (show ¬ (i < len ∧ isd N i = true) from fun y => z y.2), if_pos (show (0 : Int32) = 0 from rfl), if_neg z, vc, Nat.add_zero, ← h5, up_id]
        rfl
theorem num_both (hT : TN N len) {i lo hi : Nat} (hi' : i ≤ len) (hlo : 1 ≤ lo) (hlh : lo ≤ hi) (hhi : hi ≤ 40) : (∃ val e, i < e ∧ e ≤ len ∧ lo ≤ val ∧ val ≤ hi ∧ (∀ σ f, CS σ N len i f → fX4_readNumber (nI lo) (nI hi) (X4 σ f) = some (nI val, X4 σ (va_up f 2 (nI e)))) ∧ (∀ σ h v, MS σ N len i h → fX6_number (nI lo) (nI hi) (X5 σ h v) = some (nI val, X5 σ (va_up h 9 (nI e)) v))) ∨ (∃ e, (∀ σ f, CS σ N len i f → ∃ y, fX4_readNumber (nI lo) (nI hi) (X4 σ f) = some (y, X4 σ (va_up (va_up f 2 e) 3 (nI i)))) ∧ (∀ σ h v, MS σ N len i h → ∃ y, fX6_number (nI lo) (nI hi) (X5 σ h v) = some (y, X5 σ (va_up (va_up h 9 e) 10 (nI i)) v))) := by
  have h120 := hT.1
  generalize hk : rn (isd N) (len - i) i = k
  have hkle : k ≤ len - i := by rw [← hk]; exact rn_le _ _ _
  have hdg : ∀ j, j < k → 48 ≤ N (i + j) ∧ N (i + j) ≤ 57 := fun j hj => rn_isd (m := len - i) (by rw [hk]; exact hj)
  have hv9 := vc_le (M := 999) (N := N) k i 0 (by omega)
  have hv10 := vc_le (M := 1000) (N := N) k i 0 (by omega)
  have hc0 : ∀ σ f, CS σ N len i f → fX4_readNumber (nI lo) (nI hi) (X4 σ f) = BX4_readNumber_87 (nI lo) (nI hi) (nI i) (lt N len i) (nI (vc 999 N i k 0)) (X4 σ (va_up f 2 (nI (i + k)))) := fun σ f hC => by
    rw [fX4_readNumber, X4_rd, hC.2.2.2, if_pos rfl, X4_rd, hC.2.2.1, l_v, c_here hT hi' hC.1 hC.2.1 hC.2.2.1, b_s]
    have := c_numr (σ := σ) hT hC.1 (a1 := nI lo) (a2 := nI hi) (a3 := nI i) (a4 := lt N len i) x_FU (len - i) i 0 f (by omega) (by unfold x_FU; omega) (by omega) hC.2.1 hC.2.2.1
    rw [hk] at this
    exact this
  have hm0 : ∀ σ h v, MS σ N len i h → fX6_number (nI lo) (nI hi) (X5 σ h v) = mEnd (nI lo) (nI hi) (nI i) (nI (vc 1000 N i k 0)) (X5 σ (va_up h 9 (nI (i + k))) v) := fun σ h v hM => by
    rw [fX6_number, X5_rd, hM.2.2.1, l_v]
    have := m_num (σ := σ) (v := v) hT hM.1 (a1 := nI lo) (a2 := nI hi) (a3 := nI i) x_FU (len - i) i 0 h (by omega) (by unfold x_FU; omega) (by omega) hM.2.1 hM.2.2.1
    rw [hk] at this
    exact this
  -- the reference's ways
  have hmF : ∀ σ h v, MS σ N len i h → ∀ y : Int32, (x_b (fX6_faults (nI i) (X5 σ (va_up h 9 (nI (i + k))) v)) fun _ s => some (y, s)) = some (y, X5 σ (va_up (va_up h 9 (nI (i + k))) 10 (nI i)) v) := fun σ h v hM y => by
    rw [m_faults (by rw [up_n _ _ (by decide)]; exact hM.2.2.2), b_s]
  by_cases z : (k = 1 ∨ k = 2) ∧ N i ≠ 48 ∧ lo ≤ vc 999 N i k 0 ∧ vc 999 N i k 0 ≤ hi
  · obtain ⟨zk, z48, zlo, zhi⟩ := z
    have hil : i < len := by omega
    have d0 := hdg 0 (by omega)
    rw [Nat.add_zero] at d0
    have e910 : vc 1000 N i k 0 = vc 999 N i k 0 := by
      rcases zk with rfl | rfl
      · rw [vc, vc, vc, vc]; omega
      · have d1 := hdg 1 (by omega)
        rw [vc, vc, vc, vc, vc, vc]; omega
    have el : lt N len i = nI (N i) := by rw [lt, if_pos hil]
    refine Or.inl ⟨vc 999 N i k 0, i + k, by omega, by omega, zlo, zhi, fun σ f hC => ?_, fun σ h v hM => ?_⟩
    · rw [hc0 σ f hC, BX4_readNumber_87, el, if_neg (show ¬ nI (N i) = 48 from fun y => z48 (nIeq (b := 48) (by omega) (by omega) y)), if_neg (nI_nlt zlo (by omega)), if_pos (nI_le zhi (by omega))]
    · rw [hm0 σ h v hM, mEnd, X5_rd, up_s, if_neg (fun y => by have := nIeq (by omega) (by omega) y; omega), in_nI (by omega) (by omega), g_t, nI_clamp (by omega), X5_35, hM.1 i hil, if_neg (show ¬ nI (N i) = 48 from fun y => z48 (nIeq (b := 48) (by omega) (by omega) y)), nI_subN (by omega), Nat.add_sub_cancel_left, if_neg (show ¬ 2 < nI k from nI_nlt (a := 2) (by omega) (by omega)), e910, m_in, b_s, if_pos (show nI lo ≤ nI (vc 999 N i k 0) ∧ nI (vc 999 N i k 0) ≤ nI hi from ⟨nI_le zlo (by omega), nI_le zhi (by omega)⟩), if_neg (show ¬ (1 : Int32) = 0 by decide)]
  · refine Or.inr ⟨nI (i + k), fun σ f hC => ⟨nI (vc 999 N i k 0), ?_⟩, fun σ h v hM => ⟨nI (vc 1000 N i k 0), ?_⟩⟩
    · rw [hc0 σ f hC, BX4_readNumber_87]
      by_cases y1 : lt N len i = 48
      · rw [if_pos y1, X4_set, l_v]
      · rw [if_neg y1]
        by_cases y2 : nI (vc 999 N i k 0) < nI lo
        · rw [if_pos y2, X4_set, l_v]
        · rw [if_neg y2]
          by_cases y3 : nI (vc 999 N i k 0) ≤ nI hi
          · exfalso
            have y2' : lo ≤ vc 999 N i k 0 := by
              by_cases q : lo ≤ vc 999 N i k 0
              · exact q
              · exact absurd (nI_lt (by omega) (by omega)) y2
            have y3' := (nI_leI (by omega) (by omega)).mp y3
            by_cases k0 : k = 0
            · subst k0; rw [vc] at y2'; omega
            · have hil : i < len := by omega
              have d0 := hdg 0 (by omega)
              rw [Nat.add_zero] at d0
              have n48 : N i ≠ 48 := fun q => y1 (by rw [lt, if_pos hil, q]; rfl)
              by_cases k3 : k = 1 ∨ k = 2
              · exact z ⟨k3, n48, y2', y3'⟩
              · obtain ⟨k', rfl⟩ : ∃ k', k = k' + 1 + 1 + 1 := ⟨k - 3, by omega⟩
                have d1 := hdg 1 (by omega)
                rw [vc, vc, vc] at y3'
                have := vc_ge (M := 999) (N := N) (by omega) k' (i + 1 + 1 + 1) (min 999 (min 999 (min 999 (0 * 10 + (N i - 48)) * 10 + (N (i + 1) - 48)) * 10 + (N (i + 1 + 1) - 48))) (by omega)
                omega
          · rw [if_neg y3, X4_set, l_v]
    · rw [hm0 σ h v hM, mEnd, X5_rd, up_s]
      by_cases k0 : k = 0
      · subst k0
        rw [Nat.add_zero, if_pos rfl]
        have := hmF σ h v hM (nI (vc 1000 N i 0 0))
        rw [Nat.add_zero] at this
        exact this
      · have hil : i < len := by omega
        have bN := hT.2 i hil
        have d0 := hdg 0 (by omega)
        rw [Nat.add_zero] at d0
        rw [if_neg (fun y => by have := nIeq (by omega) (by omega) y; omega), in_nI (by omega) (by omega), g_t, nI_clamp (by omega), X5_35, hM.1 i hil]
        by_cases y1 : N i = 48
        · rw [if_pos (by rw [y1]; rfl)]
          exact hmF σ h v hM _
        · rw [if_neg (show ¬ nI (N i) = 48 from fun y => y1 (nIeq (b := 48) (by omega) (by omega) y)), nI_subN (by omega), Nat.add_sub_cancel_left]
          by_cases y2 : 2 < k
          · rw [if_pos (show 2 < nI k from nI_lt (a := 2) y2 (by omega))]
            exact hmF σ h v hM _
          · rw [if_neg (show ¬ 2 < nI k from nI_nlt (a := 2) (by omega) (by omega)), m_in, b_s]
            have e910 : vc 1000 N i k 0 = vc 999 N i k 0 := by
              rcases (show k = 1 ∨ k = 2 by omega) with rfl | rfl
              · rw [vc, vc, vc, vc]; omega
              · have d1 := hdg 1 (by omega)
                rw [vc, vc, vc, vc, vc, vc]; omega
            have hno : ¬ (nI lo ≤ nI (vc 1000 N i k 0) ∧ nI (vc 1000 N i k 0) ≤ nI hi) := fun y => z ⟨by omega, y1, by rw [← e910]; exact (nI_leI (by omega) (by omega)).mp y.1, by rw [← e910]; exact (nI_leI (by omega) (by omega)).mp y.2⟩
            rw [if_neg hno, if_pos (show (0 : Int32) = 0 from rfl)]
            exact hmF σ h v hM _
end TXT
