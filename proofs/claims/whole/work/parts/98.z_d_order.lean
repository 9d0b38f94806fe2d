/-! ===== the text: one order ===== -/
/-- the class's reader past a fault: it changes nothing that matters -/
def FC (F : xS → Option (Unit × xS)) : Prop := ∀ σ f, f 3 ≠ -1 → ∃ f', F (X4 σ f) = some ((), X4 σ f') ∧ f' 1 = f 1 ∧ f' 3 = f 3
theorem c_hereAny (σ : xS) (f : Nat → Int32) : ∃ y, fX4_letterHere (X4 σ f) = some (y, X4 σ f) := by
  rw [fX4_letterHere, X4_rd, X4_rd]
  by_cases a : f 2 < 0
  · rw [if_pos a]; exact ⟨_, rfl⟩
  · rw [if_neg a]
    by_cases b : f 1 ≤ f 2
    · rw [if_pos b]; exact ⟨_, rfl⟩
    · rw [if_neg b]
      by_cases c : 120 ≤ f 2
      · rw [if_pos c]; exact ⟨_, rfl⟩
      · rw [if_neg c, l_v]
        obtain ⟨j, j1, j2, e⟩ := rng_nI (lo := 0) (hi := 119) (x := f 2) (by omega) (by omega) ⟨show (0 : Int32) ≤ f 2 by grind, show f 2 ≤ (119 : Int32) by grind⟩
        rw [e, in_nI (by omega) (by omega), g_t]
        exact ⟨_, rfl⟩
theorem FC_end : FC (fun s => some ((), s)) := fun σ f _ => ⟨f, rfl, rfl, rfl⟩
theorem FC_set {F : xS → Option (Unit × xS)} {k : Nat} {y : Int32} (h1 : k ≠ 1) (h3 : k ≠ 3) (hF : FC F) : FC (fun s => x_let (x_set s 4 23 0 0 k y) F) := fun σ f hf => by
  obtain ⟨f', e1, e2, e3⟩ := hF σ (va_up f k y) (by rw [up_n _ _ (Ne.symm h3)]; exact hf)
  refine ⟨f', ?_, by rw [e2, up_n _ _ (Ne.symm h1)], by rw [e3, up_n _ _ (Ne.symm h3)]⟩
  show x_let (x_set (X4 σ f) 4 23 0 0 k y) F = _
  rw [X4_set, l_v]; exact e1
theorem FC_dig {F : Int32 → xS → Option (Unit × xS)} {a : Int32} (hF : ∀ z, FC (F z)) : FC (fun s => x_b (fX4_readDigit a s) F) := fun σ f hf => by
  obtain ⟨y, hy⟩ := c_hereAny σ f
  show ∃ f', x_b (fX4_readDigit a (X4 σ f)) F = _ ∧ _
  rw [fX4_readDigit, hy, b_s, l_v, X4_rd, if_neg hf, b_s]
  exact hF 0 σ f hf
theorem FC_num {F : Int32 → xS → Option (Unit × xS)} {a b : Int32} (hF : ∀ z, FC (F z)) : FC (fun s => x_b (fX4_readNumber a b s) F) := fun σ f hf => by
  show ∃ f', x_b (fX4_readNumber a b (X4 σ f)) F = _ ∧ _
  rw [fX4_readNumber, X4_rd, if_neg hf, b_s]
  exact hF a σ f hf
theorem FC_cnt {F : xS → Option (Unit × xS)} (hF : FC F) : FC (fun s => x_b (fX4_readCount s) fun _ => F) := fun σ f hf => by
  show ∃ f', x_b (fX4_readCount (X4 σ f)) (fun _ => F) = _ ∧ _
  rw [fX4_readCount, X4_rd, if_neg hf, b_s]
  exact hF σ f hf
theorem FC_exp {F : xS → Option (Unit × xS)} {a : Int32} (hF : FC F) : FC (fun s => x_b (fX4_expect a s) fun _ => F) := fun σ f hf => by
  show ∃ f', x_b (fX4_expect a (X4 σ f)) (fun _ => F) = _ ∧ _
  rw [fX4_expect, X4_rd, if_neg hf, b_s]
  exact hF σ f hf
/-- the same, at a fault just set -/
theorem FC_at {F : xS → Option (Unit × xS)} (hF : FC F) {σ : xS} {f : Nat → Int32} {pos len : Nat} (hp : pos < 2 ^ 31) (h1 : f 1 = nI len) (h3 : f 3 = nI pos) : ∃ f', F (X4 σ f) = some ((), X4 σ f') ∧ f' 1 = nI len ∧ f' 3 = nI pos := by
  obtain ⟨f', e1, e2, e3⟩ := hF σ f (by rw [h3]; exact nI_nm1 hp)
  exact ⟨f', e1, e2.trans h1, e3.trans h3⟩
-- the reference past a fault
theorem m_endsF {σ : xS} {h : Nat → Int32} {v : xV} (h10 : 0 ≤ h 10) : fX6_ends (X5 σ h v) = some ((), X5 σ h v) := by
  rw [fX6_ends, X5_rd, if_pos h10]
theorem m_acts0 {σ : xS} {h : Nat → Int32} {v : xV} (h10 : h 11 = 0 ∨ 0 ≤ h 10) : fX6_acts (X5 σ h v) = some (0, X5 σ h v) := by
  rw [fX6_acts, X5_rd, X5_rd]
  by_cases z : h 11 = 0
  · rw [if_pos z]
  · rw [if_neg z, if_pos (h10.resolve_left z)]
theorem m_155F {σ : xS} {h : Nat → Int32} {v : xV} {a2 a3 a4 a5 : Int32} (h10 : h 11 = 0 ∨ 0 ≤ h 10) : BX6_order_155 a2 a3 a4 a5 x_FU 0 (X5 σ h v) = some ((), X5 σ h v) := by
  show BX6_order_155 a2 a3 a4 a5 (199999 + 1) 0 (X5 σ h v) = _
  rw [BX6_order_155, m_acts0 h10, b_s, if_pos (show (0 : Int32) = 0 from rfl)]
  split <;> rfl
theorem m_109F {σ : xS} {h : Nat → Int32} {v : xV} {a2 a4 a3 : Int32} (h10 : 0 ≤ h 10) : BX6_order_109 a2 a4 a3 (X5 σ h v) = some ((), X5 σ h v) := by
  rw [BX6_order_109, X5_rd, if_pos h10, m_endsF h10, b_s, m_155F (Or.inr h10)]
theorem m_313F {σ : xS} {h : Nat → Int32} {v : xV} {a2 a3 : Int32} (h10 : 0 ≤ h 10) : BX6_order_313 a2 a3 (X5 σ h v) = some ((), X5 σ h v) := by
  rw [BX6_order_313, m_endsF h10, b_s, m_acts0 (Or.inr h10), b_s, if_pos (show (0 : Int32) = 0 from rfl)]
section TXT2
variable {N : Nat → Nat} {len : Nat}
theorem CS_k {σ : xS} {i k : Nat} {f : Nat → Int32} {y : Int32} (hk : 3 < k) (h : CS σ N len i f) : CS σ N len i (va_up f k y) := ⟨h.1, by rw [up_n _ _ (by omega)]; exact h.2.1, by rw [up_n _ _ (by omega)]; exact h.2.2.1, by rw [up_n _ _ (by omega)]; exact h.2.2.2⟩
theorem lt_is (hT : TN N len) {i c : Nat} (hc : c ≤ 127) : lt N len i = nI c ↔ i < len ∧ N i = c := by
  unfold lt
  by_cases z : i < len
  · have b := hT.2 i z
    rw [if_pos z]
    exact ⟨fun e => ⟨z, nIeq (by omega) (by omega) e⟩, fun e => by rw [e.2]⟩
  · rw [if_neg z]
    exact ⟨fun e => absurd e.symm (nI_nm1 (by omega)), fun e => absurd e.1 z⟩
theorem m_endsT {σ : xS} {h : Nat → Int32} {v : xV} {i : Nat} (hM : MS σ N len i h) {τ : xS} (e : fX6_sign (nI 59) (X5 σ h v) = some ((), τ)) : fX6_ends (X5 σ h v) = some ((), τ) := by
  rw [fX6_ends, X5_rd, hM.2.2.2, if_neg (by decide), show (59 : Int32) = nI 59 from rfl, e, b_s]
/-- what the reference's fault leaves -/
def mfo (h h' : Nat → Int32) (pos : Nat) : Prop := h' 10 = nI pos ∧ ∀ k, k ≠ 9 → k ≠ 10 → h' k = h k
theorem mfo_1 (h : Nat → Int32) (pos : Nat) : mfo h (va_up h 10 (nI pos)) pos := ⟨up_s _ _ _, fun k _ h2 => up_n _ _ h2⟩
theorem mfo_2 (h : Nat → Int32) (x : Int32) (pos : Nat) : mfo h (va_up (va_up h 9 x) 10 (nI pos)) pos := ⟨up_s _ _ _, fun k h1 h2 => by rw [up_n _ _ h2, up_n _ _ h1]⟩
theorem mfo_9 {h h' : Nat → Int32} {x : Int32} {pos : Nat} (e : mfo (va_up h 9 x) h' pos) : mfo h h' pos := ⟨e.1, fun k h1 h2 => by rw [e.2 k h1 h2, up_n _ _ h1]⟩
theorem mfo_ge {h h' : Nat → Int32} {pos : Nat} (e : mfo h h' pos) (hp : pos < 2 ^ 31) : 0 ≤ h' 10 := by rw [e.1]; exact nI_pos' hp
/-- the count and the end of an arrival -/
theorem cnt_both (hT : TN N len) {j : Nat} (hj : j ≤ len) : (∃ c j', j < j' ∧ j' ≤ len ∧ 1 ≤ c ∧ c ≤ 9 ∧ (∀ σ f, CS σ N len j f → f 8 = 1 → ∃ f', (x_b (fX4_readCount (X4 σ f)) fun _ s => x_b (fX4_expect 59 s) fun _ s' => some ((), s')) = some ((), X4 σ f') ∧ CS σ N len j' f' ∧ f' 8 = nI c ∧ ∀ k, 3 < k → k < 8 → f' k = f k) ∧ (∀ σ h v a2 a4 a3, MS σ N len j h → BX6_order_109 a2 a4 a3 (X5 σ h v) = BX6_order_155 a2 a3 a4 (nI c) x_FU 0 (X5 σ (va_up h 9 (nI j')) v))) ∨ (∃ pos, pos ≤ len ∧ (∀ σ f, CS σ N len j f → ∃ f', (x_b (fX4_readCount (X4 σ f)) fun _ s => x_b (fX4_expect 59 s) fun _ s' => some ((), s')) = some ((), X4 σ f') ∧ f' 1 = nI len ∧ f' 3 = nI pos) ∧ (∀ σ h v a2 a4 a3, MS σ N len j h → ∃ h', BX6_order_109 a2 a4 a3 (X5 σ h v) = some ((), X5 σ h' v) ∧ mfo h h' pos)) := by
  have h120 := hT.1
  have hF : FC (fun s => x_b (fX4_expect 59 s) fun _ s' => some ((), s')) := FC_exp FC_end
  by_cases z : j < len ∧ N j = 42
  · have el : lt N len j = 42 := (lt_is hT (c := 42) (by omega)).mpr z
    have hc0 : ∀ σ f, CS σ N len j f → fX4_readCount (X4 σ f) = x_b (fX4_readNumber (nI 2) (nI 9) (X4 σ (va_up f 2 (nI (j + 1))))) fun z3 s3 => x_let (x_set s3 4 23 0 0 8 z3) fun s4 => some ((), s4) := fun σ f hC => by
      rw [fX4_readCount, X4_rd, hC.2.2.2, if_pos rfl, c_here hT hj hC.1 hC.2.1 hC.2.2.1, b_s, el, if_pos rfl, X4_rd, hC.2.2.1, X4_set, l_v, nI_1]
      rfl
    have hm0 : ∀ σ h v a2 a4 a3, MS σ N len j h → BX6_order_109 a2 a4 a3 (X5 σ h v) = x_b (fX6_number (nI 2) (nI 9) (X5 σ (va_up h 9 (nI (j + 1))) v)) fun z14 s14 => x_b (fX6_ends s14) fun _ s15 => BX6_order_155 a2 a3 a4 z14 x_FU 0 s15 := fun σ h v a2 a4 a3 hM => by
      rw [BX6_order_109, X5_rd, hM.2.2.2, if_neg (by decide), m_here hT hj hM.1 hM.2.1 hM.2.2.1, b_s, el, if_pos rfl, X5_rd, hM.2.2.1, X5_set, l_v, nI_1]
      rfl
    rcases num_both hT (show j + 1 ≤ len by omega) (lo := 2) (hi := 9) (by omega) (by omega) (by omega) with ⟨c, e, e1, e2, c1, c2, kc, km⟩ | ⟨e, kc, km⟩
    · rcases exp_both hT e2 (c := 59) (by omega) with ⟨e3, lc, lm⟩ | ⟨lc, lm⟩
      · refine Or.inl ⟨c, e + 1, by omega, by omega, by omega, c2, fun σ f hC h8 => ?_, fun σ h v a2 a4 a3 hM => ?_⟩
        · refine ⟨va_up (va_up (va_up f 2 (nI e)) 8 (nI c)) 2 (nI (e + 1)), ?_, CS_at (CS_k (by omega) (CS_at hC)), ?_, fun k h1 h2 => ?_⟩
          · rw [hc0 σ f hC, kc σ _ (CS_at hC), b_s, X4_set, l_v, b_s, up_up]
            rw [show (59 : Int32) = nI 59 from rfl, lc σ _ (CS_k (by omega) (CS_at hC)), b_s]
          · rw [up_n _ _ (by omega), up_s]
          · rw [up_n _ _ (by omega), up_n _ _ (by omega), up_n _ _ (by omega)]
        · rw [hm0 σ h v a2 a4 a3 hM, km σ _ v (MS_at hM), b_s, up_up, m_endsT (MS_at hM) (lm σ _ v (MS_at hM)), b_s, up_up]
      · refine Or.inr ⟨e, e2, fun σ f hC => ?_, fun σ h v a2 a4 a3 hM => ?_⟩
        · rw [hc0 σ f hC, kc σ _ (CS_at hC), b_s, X4_set, l_v, b_s, up_up]
          rw [show (59 : Int32) = nI 59 from rfl, lc σ _ (CS_k (by omega) (CS_at hC)), b_s]
          exact ⟨_, rfl, by rw [up_n _ _ (by omega), up_n _ _ (by omega), up_n _ _ (by omega)]; exact hC.2.1, up_s _ _ _⟩
        · refine ⟨_, ?_, mfo_2 h (nI e) e⟩
          rw [hm0 σ h v a2 a4 a3 hM, km σ _ v (MS_at hM), b_s, up_up, m_endsT (MS_at hM) (lm σ _ v (MS_at hM)), b_s, m_155F (Or.inr (by rw [up_s]; exact nI_pos' (by omega)))]
    · refine Or.inr ⟨j + 1, by omega, fun σ f hC => ?_, fun σ h v a2 a4 a3 hM => ?_⟩
      · obtain ⟨y, hy⟩ := kc σ _ (CS_at hC)
        rw [hc0 σ f hC, hy, b_s, X4_set, l_v, b_s]
        exact FC_at hF (by omega) (by rw [up_n _ _ (by omega), up_n _ _ (by omega), up_n _ _ (by omega), up_n _ _ (by omega)]; exact hC.2.1) (by rw [up_n _ _ (by omega), up_s])
      · obtain ⟨y, hy⟩ := km σ _ v (MS_at hM)
        have h0 : (0 : Int32) ≤ va_up (va_up (va_up h 9 (nI (j + 1))) 9 e) 10 (nI (j + 1)) 10 := by rw [up_s]; exact nI_pos' (by omega)
        refine ⟨_, ?_, mfo_9 (mfo_2 (va_up h 9 (nI (j + 1))) e (j + 1))⟩
        rw [hm0 σ h v a2 a4 a3 hM, hy, b_s, m_endsF h0, b_s, m_155F (Or.inr h0)]
  · have el : ¬ lt N len j = 42 := fun y => z ((lt_is hT (c := 42) (by omega)).mp y)
    have hc0 : ∀ σ f, CS σ N len j f → fX4_readCount (X4 σ f) = some ((), X4 σ f) := fun σ f hC => by
      rw [fX4_readCount, X4_rd, hC.2.2.2, if_pos rfl, c_here hT hj hC.1 hC.2.1 hC.2.2.1, b_s, if_neg el]
    have hm0 : ∀ σ h v a2 a4 a3, MS σ N len j h → BX6_order_109 a2 a4 a3 (X5 σ h v) = x_b (fX6_ends (X5 σ h v)) fun _ s12 => BX6_order_155 a2 a3 a4 1 x_FU 0 s12 := fun σ h v a2 a4 a3 hM => by
      rw [BX6_order_109, X5_rd, hM.2.2.2, if_neg (by decide), m_here hT hj hM.1 hM.2.1 hM.2.2.1, b_s, if_neg el]
    rcases exp_both hT hj (c := 59) (by omega) with ⟨e3, lc, lm⟩ | ⟨lc, lm⟩
    · refine Or.inl ⟨1, j + 1, by omega, by omega, by omega, by omega, fun σ f hC h8 => ?_, fun σ h v a2 a4 a3 hM => ?_⟩
      · refine ⟨_, ?_, CS_at hC, ?_, fun k h1 h2 => ?_⟩
        · rw [hc0 σ f hC, b_s]
          rw [show (59 : Int32) = nI 59 from rfl, lc σ _ hC, b_s]
        · rw [up_n _ _ (by omega)]; exact h8
        · rw [up_n _ _ (by omega)]
      · rw [hm0 σ h v a2 a4 a3 hM, m_endsT hM (lm σ _ v hM), b_s]
        rfl
    · refine Or.inr ⟨j, hj, fun σ f hC => ?_, fun σ h v a2 a4 a3 hM => ?_⟩
      · rw [hc0 σ f hC, b_s]
        rw [show (59 : Int32) = nI 59 from rfl, lc σ _ hC, b_s]
        exact ⟨_, rfl, by rw [up_n _ _ (by omega)]; exact hC.2.1, up_s _ _ _⟩
      · refine ⟨_, ?_, mfo_1 h j⟩
        rw [hm0 σ h v a2 a4 a3 hM, m_endsT hM (lm σ _ v hM), b_s, m_155F (Or.inr (by rw [up_s]; exact nI_pos' (by omega)))]
end TXT2
