/-! ===== the text: one order, both sides ===== -/
def cE (s12 : xS) : Option (Unit × xS) := x_b (fX4_readCount s12) fun _ s13 => x_b (fX4_expect 59 s13) fun _ s14 => some ((), s14)
def cA3 (z11 : Int32) (s11 : xS) : Option (Unit × xS) := x_let (x_set s11 4 23 0 0 7 z11) cE
def cA2 (z9 : Int32) (s9 : xS) : Option (Unit × xS) := x_let (x_set s9 4 23 0 0 6 z9) fun s10 => x_b (fX4_readNumber 1 12 s10) cA3
def cA1 (z7 : Int32) (s7 : xS) : Option (Unit × xS) := x_let (x_set s7 4 23 0 0 5 z7) fun s8 => x_b (fX4_readDigit 3 s8) cA2
def cX (s : xS) : Option (Unit × xS) := x_b (fX4_expect 59 s) fun _ s14 => some ((), s14)
def cF1 (z16 : Int32) (s16 : xS) : Option (Unit × xS) := x_let (x_set s16 4 23 0 0 5 z16) cX
def cN (z : Int32) (s : xS) : Option (Unit × xS) := x_let (x_set s 4 23 0 0 7 z) cX
def cG2 (s22 : xS) : Option (Unit × xS) := x_b (fX4_readNumber 1 32 s22) cN
def cG1 (z20 : Int32) (s20 : xS) : Option (Unit × xS) := x_let (x_set s20 4 23 0 0 5 z20) fun s21 => x_b (fX4_expect 44 s21) fun _ => cG2
theorem FC_E : FC cE := FC_cnt (FC_exp FC_end)
theorem FC_A3 (z : Int32) : FC (cA3 z) := FC_set (by decide) (by decide) FC_E
theorem FC_A2 (z : Int32) : FC (cA2 z) := FC_set (by decide) (by decide) (FC_num FC_A3)
theorem FC_A1 (z : Int32) : FC (cA1 z) := FC_set (by decide) (by decide) (FC_dig FC_A2)
theorem FC_X : FC cX := FC_exp FC_end
theorem FC_F1 (z : Int32) : FC (cF1 z) := FC_set (by decide) (by decide) FC_X
theorem FC_N (z : Int32) : FC (cN z) := FC_set (by decide) (by decide) FC_X
theorem FC_G2 : FC cG2 := FC_num FC_N
theorem FC_G1 (z : Int32) : FC (cG1 z) := FC_set (by decide) (by decide) (FC_exp FC_G2)
def mA3 (z3 z17 z18 : Int32) (s18 : xS) : Option (Unit × xS) := BX6_order_109 z3 z17 z18 s18
def actA (A : xS → Option (Unit × xS)) (s : xS) : Option (Unit × xS) := x_b (fX6_acts s) fun z s2 => if z = 0 then some ((), s2) else A s2
section TXT3
variable {N : Nat → Nat} {len : Nat}
def OF (N : Nat → Nat) (len i P pos : Nat) : Prop := (∀ σ f, CS σ N len i f → ∃ f', fX4_readOrder (nI P) (X4 σ f) = some ((), X4 σ f') ∧ f' 1 = nI len ∧ f' 3 = nI pos) ∧ (∀ σ h v, MS σ N len i h → v 1 = nI P → ∃ h', fX6_order (X5 σ h v) = some ((), X5 σ h' v) ∧ mfo h h' pos)
def OC (N : Nat → Nat) (len i P j : Nat) (Q : (Nat → Int32) → Prop) : Prop := ∀ σ f, CS σ N len i f → ∃ f', fX4_readOrder (nI P) (X4 σ f) = some ((), X4 σ f') ∧ CS σ N len j f' ∧ Q f'
def OM (N : Nat → Nat) (len i P j : Nat) (A : xS → Option (Unit × xS)) : Prop := ∀ σ h v, MS σ N len i h → v 1 = nI P → fX6_order (X5 σ h v) = A (X5 σ (va_up h 9 (nI j)) v)
/-- the fields at the start of an order -/
def f0 (f : Nat → Int32) (c i : Nat) : Nat → Int32 := va_up (va_up (va_up (va_up f 4 (nI c)) 5 (-1)) 8 1) 2 (nI (i + 1))
theorem f0_CS {σ : xS} {f : Nat → Int32} {c i : Nat} (hC : CS σ N len i f) : CS σ N len (i + 1) (f0 f c i) := CS_at (CS_k (by omega) (CS_k (by omega) (CS_k (by omega) hC)))
theorem f0_v {f : Nat → Int32} {c i : Nat} : f0 f c i 4 = nI c ∧ f0 f c i 5 = -1 ∧ f0 f c i 8 = 1 := ⟨by rw [f0, up_n _ _ (by omega), up_n _ _ (by omega), up_n _ _ (by omega), up_s], by rw [f0, up_n _ _ (by omega), up_n _ _ (by omega), up_s], by rw [f0, up_n _ _ (by omega), up_s]⟩
theorem c_ord (hT : TN N len) {i P : Nat} (hi : i < len) {σ : xS} {f : Nat → Int32} (hC : CS σ N len i f) : fX4_readOrder (nI P) (X4 σ f) = if N i = 97 then x_b (fX4_readDigit (nI P) (X4 σ (f0 f (N i) i))) cA1 else if N i = 102 then x_b (fX4_readDigit (nI P) (X4 σ (f0 f (N i) i))) cF1 else if N i = 103 then x_b (fX4_readDigit (nI P) (X4 σ (f0 f (N i) i))) cG1 else if N i = 116 then x_b (fX4_readNumber 1 20 (X4 σ (f0 f (N i) i))) cN else cX (X4 σ (va_up (va_up (va_up (va_up f 4 (nI (N i))) 5 (-1)) 8 1) 3 (nI i))) := by
  have b := hT.2 i hi
  have h120 := hT.1
  have el : lt N len i = nI (N i) := by rw [lt, if_pos hi]
  have hq : ∀ c, c ≤ 127 → N i ≠ c → ¬ nI (N i) = nI c := fun c hc hn y => hn (nIeq (by omega) (by omega) y)
  have h2 : (va_up (va_up (va_up f 4 (nI (N i))) 5 (-1)) 8 1) 2 = nI i := by rw [up_n _ _ (by omega), up_n _ _ (by omega), up_n _ _ (by omega)]; exact hC.2.2.1
  rw [fX4_readOrder, c_here hT (by omega) hC.1 hC.2.1 hC.2.2.1, b_s, el, X4_set, l_v, X4_set, l_v, X4_set, l_v, l_v, X4_rd, X4_rd, h2, up_n _ _ (by omega), up_n _ _ (by omega), up_s, X4_set, X4_set, nI_1]
  by_cases c1 : N i = 97
  · rw [if_pos c1, if_pos (show nI (N i) = 97 by rw [c1]; rfl)]; rfl
  · rw [if_neg c1, if_neg (show ¬ nI (N i) = 97 from hq 97 (by omega) c1)]
    by_cases c2 : N i = 102
    · rw [if_pos c2, if_pos (show nI (N i) = 102 by rw [c2]; rfl)]; rfl
    · rw [if_neg c2, if_neg (show ¬ nI (N i) = 102 from hq 102 (by omega) c2)]
      by_cases c3 : N i = 103
      · rw [if_pos c3, if_pos (show nI (N i) = 103 by rw [c3]; rfl)]; rfl
      · rw [if_neg c3, if_neg (show ¬ nI (N i) = 103 from hq 103 (by omega) c3)]
        by_cases c4 : N i = 116
        · rw [if_pos c4, if_pos (show nI (N i) = 116 by rw [c4]; rfl)]; rfl
        · rw [if_neg c4, if_neg (show ¬ nI (N i) = 116 from hq 116 (by omega) c4)]; rfl
def mA1 (z3 : Int32) (s3 : xS) : Option (Unit × xS) := if 0 ≤ (s3 5 30 0 0 10) then (if 0 ≤ (s3 5 30 0 0 10) then (BX6_order_109 z3 0 0 s3) else (x_b (fX6_number 1 12 s3) fun z16 s16 => BX6_order_109 z3 0 z16 s16)) else (x_b (fX6_digit 2 s3) fun z17 s17 => if 0 ≤ (s17 5 30 0 0 10) then (BX6_order_109 z3 z17 0 s17) else (x_b (fX6_number 1 12 s17) fun z18 s18 => BX6_order_109 z3 z17 z18 s18))
def mT1 (B : xS → Option (Unit × xS)) (s19 : xS) : Option (Unit × xS) := x_b (fX6_ends s19) fun _ s20 => actA B s20
def aF (z : Int32) (s : xS) : Option (Unit × xS) := x_b (fX6_flushes z s) fun _ s' => some ((), s')
def aG (z y : Int32) (s : xS) : Option (Unit × xS) := x_b (fX6_grant z y s) fun _ s' => some ((), s')
def aT (z : Int32) (s : xS) : Option (Unit × xS) := x_b (fX6_ticking z s) fun _ s' => some ((), s')
def mG1 (z23 : Int32) (s23 : xS) : Option (Unit × xS) := if 0 ≤ (s23 5 30 0 0 10) then (if 0 ≤ (s23 5 30 0 0 10) then (BX6_order_313 z23 0 s23) else (x_b (fX6_number 1 32 s23) fun z27 s27 => BX6_order_313 z23 z27 s27)) else (x_b (fX6_sign 44 s23) fun _ s28 => if 0 ≤ (s28 5 30 0 0 10) then (BX6_order_313 z23 0 s28) else (x_b (fX6_number 1 32 s28) fun z29 s29 => BX6_order_313 z23 z29 s29))
theorem m_ord (hT : TN N len) {i P : Nat} (hi : i < len) (hP : 1 ≤ P) {σ : xS} {h : Nat → Int32} {v : xV} (hM : MS σ N len i h) (hv : v 1 = nI P) : fX6_order (X5 σ h v) = if N i = 97 then x_b (fX6_digit (nI (P - 1)) (X5 σ (va_up h 9 (nI (i + 1))) v)) mA1 else if N i = 102 then x_b (fX6_digit (nI (P - 1)) (X5 σ (va_up h 9 (nI (i + 1))) v)) (fun z => mT1 (aF z)) else if N i = 103 then x_b (fX6_digit (nI (P - 1)) (X5 σ (va_up h 9 (nI (i + 1))) v)) mG1 else if N i = 116 then x_b (fX6_number 1 20 (X5 σ (va_up h 9 (nI (i + 1))) v)) (fun z => mT1 (aT z)) else some ((), X5 σ (va_up (va_up h 9 (nI (i + 1))) 10 (nI i)) v) := by
  have b := hT.2 i hi
  have h120 := hT.1
  have el : lt N len i = nI (N i) := by rw [lt, if_pos hi]
  have hq : ∀ c, c ≤ 127 → N i ≠ c → ¬ nI (N i) = nI c := fun c hc hn y => hn (nIeq (by omega) (by omega) y)
  have hP' : nI P - 1 = nI (P - 1) := nI_subN (b := 1) hP
  have hi' : nI (i + 1) - 1 = nI i := by rw [show (1 : Int32) = nI 1 from rfl, nI_subN (by omega), Nat.add_sub_cancel]
  rw [fX6_order, m_here hT (by omega) hM.1 hM.2.1 hM.2.2.1, b_s, el, X5_rd, hM.2.2.1, X5_set, l_v, nI_1, X5_31, hv, hP', X5_rd, up_s, hi', m_faults (by rw [up_n _ _ (by omega)]; exact hM.2.2.2), b_s]
  by_cases c1 : N i = 97
  · rw [if_pos c1, if_pos (show nI (N i) = 97 by rw [c1]; rfl)]; rfl
  · rw [if_neg c1, if_neg (show ¬ nI (N i) = 97 from hq 97 (by omega) c1)]
    by_cases c2 : N i = 102
    · rw [if_pos c2, if_pos (show nI (N i) = 102 by rw [c2]; rfl)]; rfl
    · rw [if_neg c2, if_neg (show ¬ nI (N i) = 102 from hq 102 (by omega) c2)]
      by_cases c3 : N i = 103
      · rw [if_pos c3, if_pos (show nI (N i) = 103 by rw [c3]; rfl)]; rfl
      · rw [if_neg c3, if_neg (show ¬ nI (N i) = 103 from hq 103 (by omega) c3)]
        by_cases c4 : N i = 116
        · rw [if_pos c4, if_pos (show nI (N i) = 116 by rw [c4]; rfl)]; rfl
        · rw [if_neg c4, if_neg (show ¬ nI (N i) = 116 from hq 116 (by omega) c4)]
-- the reference past a fault
theorem m_A1F {σ : xS} {h : Nat → Int32} {v : xV} {z : Int32} (h10 : 0 ≤ h 10) : mA1 z (X5 σ h v) = some ((), X5 σ h v) := by
  rw [mA1, X5_rd, if_pos h10, if_pos h10, m_109F h10]
theorem m_G1F {σ : xS} {h : Nat → Int32} {v : xV} {z : Int32} (h10 : 0 ≤ h 10) : mG1 z (X5 σ h v) = some ((), X5 σ h v) := by
  rw [mG1, X5_rd, if_pos h10, if_pos h10, m_313F h10]
theorem m_actF {σ : xS} {h : Nat → Int32} {v : xV} {A : xS → Option (Unit × xS)} (h10 : h 11 = 0 ∨ 0 ≤ h 10) : actA A (X5 σ h v) = some ((), X5 σ h v) := by
  rw [actA, m_acts0 h10, b_s, if_pos (show (0 : Int32) = 0 from rfl)]
theorem m_T1F {σ : xS} {h : Nat → Int32} {v : xV} {A : xS → Option (Unit × xS)} (h10 : 0 ≤ h 10) : mT1 A (X5 σ h v) = some ((), X5 σ h v) := by
  rw [mT1, m_endsF h10, b_s, m_actF (Or.inr h10)]
/-- the end of an order that has no count -/
theorem end_both (hT : TN N len) {j : Nat} (hj : j ≤ len) : (j < len ∧ (∀ σ f, CS σ N len j f → cX (X4 σ f) = some ((), X4 σ (va_up f 2 (nI (j + 1))))) ∧ (∀ σ h v B, MS σ N len j h → mT1 B (X5 σ h v) = actA B (X5 σ (va_up h 9 (nI (j + 1))) v))) ∨ ((∀ σ f, CS σ N len j f → cX (X4 σ f) = some ((), X4 σ (va_up f 3 (nI j)))) ∧ (∀ σ h v B, MS σ N len j h → mT1 B (X5 σ h v) = some ((), X5 σ (va_up h 10 (nI j)) v))) := by
  have h120 := hT.1
  rcases exp_both hT hj (c := 59) (by omega) with ⟨e3, lc, lm⟩ | ⟨lc, lm⟩
  · refine Or.inl ⟨e3, fun σ f hC => ?_, fun σ h v B hM => ?_⟩
    · rw [cX, show (59 : Int32) = nI 59 from rfl, lc σ f hC, b_s]
    · rw [mT1, m_endsT hM (lm σ h v hM), b_s]
  · refine Or.inr ⟨fun σ f hC => ?_, fun σ h v B hM => ?_⟩
    · rw [cX, show (59 : Int32) = nI 59 from rfl, lc σ f hC, b_s]
    · rw [mT1, m_endsT hM (lm σ h v hM), b_s, m_actF (Or.inr (by rw [up_s]; exact nI_pos' (by omega)))]
theorem ord_t (hT : TN N len) {i P : Nat} (hi : i < len) (hP1 : 1 ≤ P) (e : N i = 116) : (∃ pos, pos ≤ len ∧ OF N len i P pos) ∨ ∃ s j, 1 ≤ s ∧ s ≤ 20 ∧ i < j ∧ j ≤ len ∧ OC N len i P j (fun f => f 4 = 116 ∧ f 5 = -1 ∧ f 7 = nI s) ∧ OM N len i P j (actA (aT (nI s))) := by
  have h120 := hT.1
  have hc0 : ∀ σ f, CS σ N len i f → fX4_readOrder (nI P) (X4 σ f) = x_b (fX4_readNumber (nI 1) (nI 20) (X4 σ (f0 f 116 i))) cN := fun σ f hC => by
    rw [c_ord hT hi hC, if_neg (by omega), if_neg (by omega), if_neg (by omega), if_pos e, e]; rfl
  have hm0 : ∀ σ h v, MS σ N len i h → v 1 = nI P → fX6_order (X5 σ h v) = x_b (fX6_number (nI 1) (nI 20) (X5 σ (va_up h 9 (nI (i + 1))) v)) (fun z => mT1 (aT z)) := fun σ h v hM hv => by
    rw [m_ord hT hi hP1 hM hv, if_neg (by omega), if_neg (by omega), if_neg (by omega), if_pos e]; rfl
  rcases num_both hT (show i + 1 ≤ len by omega) (lo := 1) (hi := 20) (by omega) (by omega) (by omega) with ⟨s, j, j1, j2, s1, s2, kc, km⟩ | ⟨x, kc, km⟩
  · rcases end_both hT j2 with ⟨e3, lc, lm⟩ | ⟨lc, lm⟩
    · refine Or.inr ⟨s, j + 1, s1, s2, by omega, by omega, fun σ f hC => ?_, fun σ h v hM hv => ?_⟩
      · have hC2 : CS σ N len j (va_up (va_up (f0 f 116 i) 2 (nI j)) 7 (nI s)) := CS_k (by omega) (CS_at (f0_CS hC))
        refine ⟨_, by rw [hc0 σ f hC, kc σ _ (f0_CS hC), b_s, cN, X4_set, l_v, lc σ _ hC2], CS_at hC2, ?_, ?_, ?_⟩
        · rw [up_n _ _ (by omega), up_n _ _ (by omega), up_n _ _ (by omega)]; exact f0_v.1
        · rw [up_n _ _ (by omega), up_n _ _ (by omega), up_n _ _ (by omega)]; exact f0_v.2.1
        · rw [up_n _ _ (by omega), up_s]
      · rw [hm0 σ h v hM hv, km σ _ v (MS_at hM), b_s, up_up, lm σ _ v _ (MS_at hM), up_up]
    · refine Or.inl ⟨j, j2, fun σ f hC => ?_, fun σ h v hM hv => ?_⟩
      · have hC2 : CS σ N len j (va_up (va_up (f0 f 116 i) 2 (nI j)) 7 (nI s)) := CS_k (by omega) (CS_at (f0_CS hC))
        exact ⟨_, by rw [hc0 σ f hC, kc σ _ (f0_CS hC), b_s, cN, X4_set, l_v, lc σ _ hC2], by rw [up_n _ _ (by omega)]; exact hC2.2.1, up_s _ _ _⟩
      · exact ⟨_, by rw [hm0 σ h v hM hv, km σ _ v (MS_at hM), b_s, up_up, lm σ _ v _ (MS_at hM)], mfo_2 h (nI j) j⟩
  · refine Or.inl ⟨i + 1, by omega, fun σ f hC => ?_, fun σ h v hM hv => ?_⟩
    · obtain ⟨y, hy⟩ := kc σ _ (f0_CS hC)
      rw [hc0 σ f hC, hy, b_s]
      exact FC_at (FC_N y) (by omega) (by rw [up_n _ _ (by omega), up_n _ _ (by omega)]; exact (f0_CS hC).2.1) (up_s _ _ _)
    · obtain ⟨y, hy⟩ := km σ _ v (MS_at hM)
      exact ⟨_, by rw [hm0 σ h v hM hv, hy, b_s, m_T1F (by rw [up_s]; exact nI_pos' (by omega))], mfo_9 (mfo_2 _ _ _)⟩
theorem ord_f (hT : TN N len) {i P : Nat} (hi : i < len) (hP1 : 1 ≤ P) (hP6 : P ≤ 6) (e : N i = 102) : (∃ pos, pos ≤ len ∧ OF N len i P pos) ∨ ∃ p j, p < P ∧ i < j ∧ j ≤ len ∧ OC N len i P j (fun f => f 4 = 102 ∧ f 5 = nI p) ∧ OM N len i P j (actA (aF (nI p))) := by
  have h120 := hT.1
  have hc0 : ∀ σ f, CS σ N len i f → fX4_readOrder (nI P) (X4 σ f) = x_b (fX4_readDigit (nI P) (X4 σ (f0 f 102 i))) cF1 := fun σ f hC => by
    rw [c_ord hT hi hC, if_neg (by omega), if_pos e, e]
  have hm0 : ∀ σ h v, MS σ N len i h → v 1 = nI P → fX6_order (X5 σ h v) = x_b (fX6_digit (nI (P - 1)) (X5 σ (va_up h 9 (nI (i + 1))) v)) (fun z => mT1 (aF z)) := fun σ h v hM hv => by
    rw [m_ord hT hi hP1 hM hv, if_neg (by omega), if_pos e]
  rcases dig_both hT (show i + 1 ≤ len by omega) hP1 hP6 with ⟨p, hp, hi1, kc, km⟩ | ⟨kc, km⟩
  · rcases end_both hT (show i + 1 + 1 ≤ len by omega) with ⟨e3, lc, lm⟩ | ⟨lc, lm⟩
    · refine Or.inr ⟨p, i + 1 + 1 + 1, hp, by omega, by omega, fun σ f hC => ?_, fun σ h v hM hv => ?_⟩
      · have hC2 : CS σ N len (i + 1 + 1) (va_up (va_up (f0 f 102 i) 2 (nI (i + 1 + 1))) 5 (nI p)) := CS_k (by omega) (CS_at (f0_CS hC))
        refine ⟨_, by rw [hc0 σ f hC, kc σ _ (f0_CS hC), b_s, cF1, X4_set, l_v, lc σ _ hC2], CS_at hC2, ?_, ?_⟩
        · rw [up_n _ _ (by omega), up_n _ _ (by omega), up_n _ _ (by omega)]; exact f0_v.1
        · rw [up_n _ _ (by omega), up_s]
      · rw [hm0 σ h v hM hv, km σ _ v (MS_at hM), b_s, up_up, lm σ _ v _ (MS_at hM), up_up]
    · refine Or.inl ⟨i + 1 + 1, by omega, fun σ f hC => ?_, fun σ h v hM hv => ?_⟩
      · have hC2 : CS σ N len (i + 1 + 1) (va_up (va_up (f0 f 102 i) 2 (nI (i + 1 + 1))) 5 (nI p)) := CS_k (by omega) (CS_at (f0_CS hC))
        exact ⟨_, by rw [hc0 σ f hC, kc σ _ (f0_CS hC), b_s, cF1, X4_set, l_v, lc σ _ hC2], by rw [up_n _ _ (by omega)]; exact hC2.2.1, up_s _ _ _⟩
      · exact ⟨_, by rw [hm0 σ h v hM hv, km σ _ v (MS_at hM), b_s, up_up, lm σ _ v _ (MS_at hM)], mfo_2 h _ _⟩
  · refine Or.inl ⟨i + 1, by omega, fun σ f hC => ?_, fun σ h v hM hv => ?_⟩
    · rw [hc0 σ f hC, kc σ _ (f0_CS hC), b_s]
      exact FC_at (FC_F1 _) (by omega) (by rw [up_n _ _ (by omega)]; exact (f0_CS hC).2.1) (up_s _ _ _)
    · exact ⟨_, by rw [hm0 σ h v hM hv, km σ _ v (MS_at hM), b_s, m_T1F (by rw [up_s]; exact nI_pos' (by omega))], mfo_2 h _ _⟩
theorem ord_g (hT : TN N len) {i P : Nat} (hi : i < len) (hP1 : 1 ≤ P) (hP6 : P ≤ 6) (e : N i = 103) : (∃ pos, pos ≤ len ∧ OF N len i P pos) ∨ ∃ p s j, p < P ∧ 1 ≤ s ∧ s ≤ 32 ∧ i < j ∧ j ≤ len ∧ OC N len i P j (fun f => f 4 = 103 ∧ f 5 = nI p ∧ f 7 = nI s) ∧ OM N len i P j (actA (aG (nI p) (nI s))) := by
  have h120 := hT.1
  have hc0 : ∀ σ f, CS σ N len i f → fX4_readOrder (nI P) (X4 σ f) = x_b (fX4_readDigit (nI P) (X4 σ (f0 f 103 i))) cG1 := fun σ f hC => by
    rw [c_ord hT hi hC, if_neg (by omega), if_neg (by omega), if_pos e, e]
  have hm0 : ∀ σ h v, MS σ N len i h → v 1 = nI P → fX6_order (X5 σ h v) = x_b (fX6_digit (nI (P - 1)) (X5 σ (va_up h 9 (nI (i + 1))) v)) mG1 := fun σ h v hM hv => by
    rw [m_ord hT hi hP1 hM hv, if_neg (by omega), if_neg (by omega), if_pos e]
  rcases dig_both hT (show i + 1 ≤ len by omega) hP1 hP6 with ⟨p, hp, hi1, kc, km⟩ | ⟨kc, km⟩
  · have hC2 : ∀ σ f, CS σ N len i f → CS σ N len (i + 1 + 1) (va_up (va_up (f0 f 103 i) 2 (nI (i + 1 + 1))) 5 (nI p)) := fun σ f hC => CS_k (by omega) (CS_at (f0_CS hC))
    have hc1 : ∀ σ f, CS σ N len i f → fX4_readOrder (nI P) (X4 σ f) = x_b (fX4_expect (nI 44) (X4 σ (va_up (va_up (f0 f 103 i) 2 (nI (i + 1 + 1))) 5 (nI p)))) fun _ => cG2 := fun σ f hC => by
      rw [hc0 σ f hC, kc σ _ (f0_CS hC), b_s, cG1, X4_set, l_v]; rfl
    have hm1 : ∀ σ h v, MS σ N len i h → v 1 = nI P → fX6_order (X5 σ h v) = x_b (fX6_sign (nI 44) (X5 σ (va_up h 9 (nI (i + 1 + 1))) v)) fun _ s28 => if 0 ≤ (s28 5 30 0 0 10) then (BX6_order_313 (nI p) 0 s28) else (x_b (fX6_number (nI 1) (nI 32) s28) fun z29 s29 => BX6_order_313 (nI p) z29 s29) := fun σ h v hM hv => by
      rw [hm0 σ h v hM hv, km σ _ v (MS_at hM), b_s, up_up, mG1, X5_rd, (MS_at hM).2.2.2, if_neg (by decide)]; rfl
    rcases exp_both hT (show i + 1 + 1 ≤ len by omega) (c := 44) (by omega) with ⟨e3, lc, lm⟩ | ⟨lc, lm⟩
    · have hc2 : ∀ σ f, CS σ N len i f → fX4_readOrder (nI P) (X4 σ f) = x_b (fX4_readNumber (nI 1) (nI 32) (X4 σ (va_up (va_up (va_up (f0 f 103 i) 2 (nI (i + 1 + 1))) 5 (nI p)) 2 (nI (i + 1 + 1 + 1))))) cN := fun σ f hC => by
        rw [hc1 σ f hC, lc σ _ (hC2 σ f hC), b_s, cG2]; rfl
      have hm2 : ∀ σ h v, MS σ N len i h → v 1 = nI P → fX6_order (X5 σ h v) = x_b (fX6_number (nI 1) (nI 32) (X5 σ (va_up h 9 (nI (i + 1 + 1 + 1))) v)) fun z29 s29 => mT1 (aG (nI p) z29) s29 := fun σ h v hM hv => by
        rw [hm1 σ h v hM hv, lm σ _ v (MS_at hM), b_s, up_up, X5_rd, (MS_at hM).2.2.2, if_neg (by decide)]; rfl
      rcases num_both hT (show i + 1 + 1 + 1 ≤ len by omega) (lo := 1) (hi := 32) (by omega) (by omega) (by omega) with ⟨s, j, j1, j2, s1, s2, nc, nm⟩ | ⟨x, nc, nm⟩
      · rcases end_both hT j2 with ⟨e4, qc, qm⟩ | ⟨qc, qm⟩
        · refine Or.inr ⟨p, s, j + 1, hp, s1, s2, by omega, by omega, fun σ f hC => ?_, fun σ h v hM hv => ?_⟩
          · have hC3 := CS_k (k := 7) (y := nI s) (by omega) (CS_at (j := j) (CS_at (j := i + 1 + 1 + 1) (hC2 σ f hC)))
            refine ⟨_, by rw [hc2 σ f hC, nc σ _ (CS_at (hC2 σ f hC)), b_s, cN, X4_set, l_v, qc σ _ hC3], CS_at hC3, ?_, ?_, ?_⟩
            · rw [up_n _ _ (by omega), up_n _ _ (by omega), up_n _ _ (by omega), up_n _ _ (by omega), up_n _ _ (by omega), up_n _ _ (by omega)]; exact f0_v.1
            · rw [up_n _ _ (by omega), up_n _ _ (by omega), up_n _ _ (by omega), up_n _ _ (by omega), up_s]
            · rw [up_n _ _ (by omega), up_s]
          · rw [hm2 σ h v hM hv, nm σ _ v (MS_at hM), b_s, up_up, qm σ _ v _ (MS_at hM), up_up]
        · refine Or.inl ⟨j, j2, fun σ f hC => ?_, fun σ h v hM hv => ?_⟩
          · have hC3 := CS_k (k := 7) (y := nI s) (by omega) (CS_at (j := j) (CS_at (j := i + 1 + 1 + 1) (hC2 σ f hC)))
            exact ⟨_, by rw [hc2 σ f hC, nc σ _ (CS_at (hC2 σ f hC)), b_s, cN, X4_set, l_v, qc σ _ hC3], by rw [up_n _ _ (by omega)]; exact hC3.2.1, up_s _ _ _⟩
          · exact ⟨_, by rw [hm2 σ h v hM hv, nm σ _ v (MS_at hM), b_s, up_up, qm σ _ v _ (MS_at hM)], mfo_2 h _ _⟩
      · refine Or.inl ⟨i + 1 + 1 + 1, by omega, fun σ f hC => ?_, fun σ h v hM hv => ?_⟩
        · obtain ⟨y, hy⟩ := nc σ _ (CS_at (hC2 σ f hC))
          rw [hc2 σ f hC, hy, b_s]
          exact FC_at (FC_N y) (by omega) (by rw [up_n _ _ (by omega), up_n _ _ (by omega)]; exact (CS_at (j := 0) (hC2 σ f hC)).2.1) (up_s _ _ _)
        · obtain ⟨y, hy⟩ := nm σ _ v (MS_at hM)
          exact ⟨_, by rw [hm2 σ h v hM hv, hy, b_s, m_T1F (by rw [up_s]; exact nI_pos' (by omega))], mfo_9 (mfo_2 _ _ _)⟩
    · refine Or.inl ⟨i + 1 + 1, by omega, fun σ f hC => ?_, fun σ h v hM hv => ?_⟩
      · rw [hc1 σ f hC, lc σ _ (hC2 σ f hC), b_s]
        exact FC_at FC_G2 (by omega) (by rw [up_n _ _ (by omega)]; exact (hC2 σ f hC).2.1) (up_s _ _ _)
      · exact ⟨_, by rw [hm1 σ h v hM hv, lm σ _ v (MS_at hM), b_s, X5_rd, up_s, if_pos (nI_pos' (by omega)), m_313F (by rw [up_s]; exact nI_pos' (by omega))], mfo_2 h _ _⟩
  · refine Or.inl ⟨i + 1, by omega, fun σ f hC => ?_, fun σ h v hM hv => ?_⟩
    · rw [hc0 σ f hC, kc σ _ (f0_CS hC), b_s]
      exact FC_at (FC_G1 _) (by omega) (by rw [up_n _ _ (by omega)]; exact (f0_CS hC).2.1) (up_s _ _ _)
    · exact ⟨_, by rw [hm0 σ h v hM hv, km σ _ v (MS_at hM), b_s, m_G1F (by rw [up_s]; exact nI_pos' (by omega))], mfo_2 h _ _⟩
theorem ord_a (hT : TN N len) {i P : Nat} (hi : i < len) (hP1 : 1 ≤ P) (hP6 : P ≤ 6) (e : N i = 97) : (∃ pos, pos ≤ len ∧ OF N len i P pos) ∨ ∃ p r s c j, p < P ∧ r < 3 ∧ 1 ≤ s ∧ s ≤ 12 ∧ 1 ≤ c ∧ c ≤ 9 ∧ i + 5 ≤ j ∧ j ≤ len ∧ OC N len i P j (fun f => f 4 = 97 ∧ f 5 = nI p ∧ f 6 = nI r ∧ f 7 = nI s ∧ f 8 = nI c) ∧ OM N len i P j (BX6_order_155 (nI p) (nI s) (nI r) (nI c) x_FU 0) := by
  have h120 := hT.1
  have hc0 : ∀ σ f, CS σ N len i f → fX4_readOrder (nI P) (X4 σ f) = x_b (fX4_readDigit (nI P) (X4 σ (f0 f 97 i))) cA1 := fun σ f hC => by
    rw [c_ord hT hi hC, if_pos e, e]
  have hm0 : ∀ σ h v, MS σ N len i h → v 1 = nI P → fX6_order (X5 σ h v) = x_b (fX6_digit (nI (P - 1)) (X5 σ (va_up h 9 (nI (i + 1))) v)) mA1 := fun σ h v hM hv => by
    rw [m_ord hT hi hP1 hM hv, if_pos e]
  rcases dig_both hT (show i + 1 ≤ len by omega) hP1 hP6 with ⟨p, hp, hi1, kc, km⟩ | ⟨kc, km⟩
  · have hC2 : ∀ σ f, CS σ N len i f → CS σ N len (i + 1 + 1) (va_up (va_up (f0 f 97 i) 2 (nI (i + 1 + 1))) 5 (nI p)) := fun σ f hC => CS_k (by omega) (CS_at (f0_CS hC))
    have hc1 : ∀ σ f, CS σ N len i f → fX4_readOrder (nI P) (X4 σ f) = x_b (fX4_readDigit (nI 3) (X4 σ (va_up (va_up (f0 f 97 i) 2 (nI (i + 1 + 1))) 5 (nI p)))) cA2 := fun σ f hC => by
      rw [hc0 σ f hC, kc σ _ (f0_CS hC), b_s, cA1, X4_set, l_v]; rfl
    have hm1 : ∀ σ h v, MS σ N len i h → v 1 = nI P → fX6_order (X5 σ h v) = x_b (fX6_digit (nI (3 - 1)) (X5 σ (va_up h 9 (nI (i + 1 + 1))) v)) fun z17 s17 => if 0 ≤ (s17 5 30 0 0 10) then (BX6_order_109 (nI p) z17 0 s17) else (x_b (fX6_number (nI 1) (nI 12) s17) fun z18 s18 => BX6_order_109 (nI p) z17 z18 s18) := fun σ h v hM hv => by
      rw [hm0 σ h v hM hv, km σ _ v (MS_at hM), b_s, up_up, mA1, X5_rd, (MS_at hM).2.2.2, if_neg (by decide)]; rfl
    rcases dig_both hT (show i + 1 + 1 ≤ len by omega) (B := 3) (by omega) (by omega) with ⟨r, hr, hi2, lc, lm⟩ | ⟨lc, lm⟩
    · have hC3 : ∀ σ f, CS σ N len i f → CS σ N len (i + 1 + 1 + 1) (va_up (va_up (va_up (va_up (f0 f 97 i) 2 (nI (i + 1 + 1))) 5 (nI p)) 2 (nI (i + 1 + 1 + 1))) 6 (nI r)) := fun σ f hC => CS_k (by omega) (CS_at (hC2 σ f hC))
      have hc2 : ∀ σ f, CS σ N len i f → fX4_readOrder (nI P) (X4 σ f) = x_b (fX4_readNumber (nI 1) (nI 12) (X4 σ (va_up (va_up (va_up (va_up (f0 f 97 i) 2 (nI (i + 1 + 1))) 5 (nI p)) 2 (nI (i + 1 + 1 + 1))) 6 (nI r)))) cA3 := fun σ f hC => by
        rw [hc1 σ f hC, lc σ _ (hC2 σ f hC), b_s, cA2, X4_set, l_v]; rfl
      have hm2 : ∀ σ h v, MS σ N len i h → v 1 = nI P → fX6_order (X5 σ h v) = x_b (fX6_number (nI 1) (nI 12) (X5 σ (va_up h 9 (nI (i + 1 + 1 + 1))) v)) fun z18 s18 => BX6_order_109 (nI p) (nI r) z18 s18 := fun σ h v hM hv => by
        rw [hm1 σ h v hM hv, lm σ _ v (MS_at hM), b_s, up_up, X5_rd, (MS_at hM).2.2.2, if_neg (by decide)]
      rcases num_both hT (show i + 1 + 1 + 1 ≤ len by omega) (lo := 1) (hi := 12) (by omega) (by omega) (by omega) with ⟨s, j, j1, j2, s1, s2, nc, nm⟩ | ⟨x, nc, nm⟩
      · have hC4 : ∀ σ f, CS σ N len i f → CS σ N len j (va_up (va_up (va_up (va_up (va_up (va_up (f0 f 97 i) 2 (nI (i + 1 + 1))) 5 (nI p)) 2 (nI (i + 1 + 1 + 1))) 6 (nI r)) 2 (nI j)) 7 (nI s)) := fun σ f hC => CS_k (by omega) (CS_at (hC3 σ f hC))
        have hc3 : ∀ σ f, CS σ N len i f → fX4_readOrder (nI P) (X4 σ f) = cE (X4 σ (va_up (va_up (va_up (va_up (va_up (va_up (f0 f 97 i) 2 (nI (i + 1 + 1))) 5 (nI p)) 2 (nI (i + 1 + 1 + 1))) 6 (nI r)) 2 (nI j)) 7 (nI s))) := fun σ f hC => by
          rw [hc2 σ f hC, nc σ _ (hC3 σ f hC), b_s, cA3, X4_set, l_v]
        have hm3 : ∀ σ h v, MS σ N len i h → v 1 = nI P → fX6_order (X5 σ h v) = BX6_order_109 (nI p) (nI r) (nI s) (X5 σ (va_up h 9 (nI j)) v) := fun σ h v hM hv => by
          rw [hm2 σ h v hM hv, nm σ _ v (MS_at hM), b_s, up_up]
        rcases cnt_both hT j2 with ⟨c, j', k1, k2, c1, c2, qc, qm⟩ | ⟨pos, hpos, qc, qm⟩
        · refine Or.inr ⟨p, r, s, c, j', hp, hr, s1, s2, c1, c2, by omega, k2, fun σ f hC => ?_, fun σ h v hM hv => ?_⟩
          · obtain ⟨f', g1, g2, g3, g4⟩ := qc σ _ (hC4 σ f hC) (by rw [up_n _ _ (by omega), up_n _ _ (by omega), up_n _ _ (by omega), up_n _ _ (by omega), up_n _ _ (by omega), up_n _ _ (by omega)]; exact f0_v.2.2)
            refine ⟨f', by rw [hc3 σ f hC, cE]; exact g1, g2, ?_, ?_, ?_, ?_, g3⟩
            · rw [g4 4 (by omega) (by omega), up_n _ _ (by omega), up_n _ _ (by omega), up_n _ _ (by omega), up_n _ _ (by omega), up_n _ _ (by omega), up_n _ _ (by omega)]; exact f0_v.1
            · rw [g4 5 (by omega) (by omega), up_n _ _ (by omega), up_n _ _ (by omega), up_n _ _ (by omega), up_n _ _ (by omega), up_s]
            · rw [g4 6 (by omega) (by omega), up_n _ _ (by omega), up_n _ _ (by omega), up_s]
            · rw [g4 7 (by omega) (by omega), up_s]
          · rw [hm3 σ h v hM hv, qm σ _ v _ _ _ (MS_at hM), up_up]
        · refine Or.inl ⟨pos, hpos, fun σ f hC => ?_, fun σ h v hM hv => ?_⟩
          · obtain ⟨f', g1, g2, g3⟩ := qc σ _ (hC4 σ f hC)
            exact ⟨f', by rw [hc3 σ f hC, cE]; exact g1, g2, g3⟩
          · obtain ⟨h', g1, g2⟩ := qm σ _ v (nI p) (nI r) (nI s) (MS_at hM)
            exact ⟨h', by rw [hm3 σ h v hM hv, g1], mfo_9 g2⟩
      · refine Or.inl ⟨i + 1 + 1 + 1, by omega, fun σ f hC => ?_, fun σ h v hM hv => ?_⟩
        · obtain ⟨y, hy⟩ := nc σ _ (hC3 σ f hC)
          rw [hc2 σ f hC, hy, b_s]
          exact FC_at (FC_A3 y) (by omega) (by rw [up_n _ _ (by omega), up_n _ _ (by omega)]; exact (hC3 σ f hC).2.1) (up_s _ _ _)
        · obtain ⟨y, hy⟩ := nm σ _ v (MS_at hM)
          exact ⟨_, by rw [hm2 σ h v hM hv, hy, b_s, m_109F (by rw [up_s]; exact nI_pos' (by omega))], mfo_9 (mfo_2 _ _ _)⟩
    · refine Or.inl ⟨i + 1 + 1, by omega, fun σ f hC => ?_, fun σ h v hM hv => ?_⟩
      · rw [hc1 σ f hC, lc σ _ (hC2 σ f hC), b_s]
        exact FC_at (FC_A2 _) (by omega) (by rw [up_n _ _ (by omega)]; exact (hC2 σ f hC).2.1) (up_s _ _ _)
      · exact ⟨_, by rw [hm1 σ h v hM hv, lm σ _ v (MS_at hM), b_s, X5_rd, up_s, if_pos (nI_pos' (by omega)), m_109F (by rw [up_s]; exact nI_pos' (by omega))], mfo_2 h _ _⟩
  · refine Or.inl ⟨i + 1, by omega, fun σ f hC => ?_, fun σ h v hM hv => ?_⟩
    · rw [hc0 σ f hC, kc σ _ (f0_CS hC), b_s]
      exact FC_at (FC_A1 _) (by omega) (by rw [up_n _ _ (by omega)]; exact (f0_CS hC).2.1) (up_s _ _ _)
    · exact ⟨_, by rw [hm0 σ h v hM hv, km σ _ v (MS_at hM), b_s, m_A1F (by rw [up_s]; exact nI_pos' (by omega))], mfo_2 h _ _⟩
theorem ord_x (hT : TN N len) {i P : Nat} (hi : i < len) (hP1 : 1 ≤ P) (e1 : N i ≠ 97) (e2 : N i ≠ 102) (e3 : N i ≠ 103) (e4 : N i ≠ 116) : OF N len i P i := by
  have h120 := hT.1
  refine ⟨fun σ f hC => ?_, fun σ h v hM hv => ⟨_, by rw [m_ord hT hi hP1 hM hv, if_neg e1, if_neg e2, if_neg e3, if_neg e4], mfo_2 h _ _⟩⟩
  rw [c_ord hT hi hC, if_neg e1, if_neg e2, if_neg e3, if_neg e4]
  exact FC_at FC_X (by omega) (by rw [up_n _ _ (by omega), up_n _ _ (by omega), up_n _ _ (by omega), up_n _ _ (by omega)]; exact hC.2.1) (up_s _ _ _)
end TXT3
