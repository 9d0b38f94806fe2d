/-! ===== the text: the first reading, faultPosition ===== -/
section TXT4
variable {N : Nat → Nat} {len : Nat}
/-- one order that has no fault -/
def ST (N : Nat → Nat) (len P i j : Nat) : Prop := (∃ p r s c, p < P ∧ r < 3 ∧ 1 ≤ s ∧ s ≤ 12 ∧ 1 ≤ c ∧ c ≤ 9 ∧ i + 5 ≤ j ∧ OC N len i P j (fun f => f 4 = 97 ∧ f 5 = nI p ∧ f 6 = nI r ∧ f 7 = nI s ∧ f 8 = nI c) ∧ OM N len i P j (BX6_order_155 (nI p) (nI s) (nI r) (nI c) x_FU 0)) ∨ (∃ p, p < P ∧ OC N len i P j (fun f => f 4 = 102 ∧ f 5 = nI p) ∧ OM N len i P j (actA (aF (nI p)))) ∨ (∃ p s, p < P ∧ 1 ≤ s ∧ s ≤ 32 ∧ OC N len i P j (fun f => f 4 = 103 ∧ f 5 = nI p ∧ f 7 = nI s) ∧ OM N len i P j (actA (aG (nI p) (nI s)))) ∨ (∃ s, 1 ≤ s ∧ s ≤ 20 ∧ OC N len i P j (fun f => f 4 = 116 ∧ f 5 = -1 ∧ f 7 = nI s) ∧ OM N len i P j (actA (aT (nI s))))
/-- the rest of the text has no fault -/
def CL (N : Nat → Nat) (len P : Nat) : Nat → Nat → Prop
  | 0, i => i = len
  | m + 1, i => i = len ∨ ∃ j, i < j ∧ j ≤ len ∧ ST N len P i j ∧ CL N len P m j
theorem CL_len {P : Nat} : ∀ m, CL N len P m len
  | 0 => rfl
  | _ + 1 => Or.inl rfl
theorem ord_all (hT : TN N len) {i P : Nat} (hi : i < len) (hP1 : 1 ≤ P) (hP6 : P ≤ 6) : (∃ pos, pos ≤ len ∧ OF N len i P pos) ∨ ∃ j, i < j ∧ j ≤ len ∧ ST N len P i j := by
  by_cases c1 : N i = 97
  · rcases ord_a hT hi hP1 hP6 c1 with h | ⟨p, r, s, c, j, h1, h2, h3, h4, h5, h6, h7, h8, h9⟩
    · exact Or.inl h
    · exact Or.inr ⟨j, by omega, h8, Or.inl ⟨p, r, s, c, h1, h2, h3, h4, h5, h6, h7, h9⟩⟩
  · by_cases c2 : N i = 102
    · rcases ord_f hT hi hP1 hP6 c2 with h | ⟨p, j, h1, h2, h3, h4⟩
      · exact Or.inl h
      · exact Or.inr ⟨j, h2, h3, Or.inr (Or.inl ⟨p, h1, h4⟩)⟩
    · by_cases c3 : N i = 103
      · rcases ord_g hT hi hP1 hP6 c3 with h | ⟨p, s, j, h1, h2, h3, h4, h5, h6⟩
        · exact Or.inl h
        · exact Or.inr ⟨j, h4, h5, Or.inr (Or.inr (Or.inl ⟨p, s, h1, h2, h3, h6⟩))⟩
      · by_cases c4 : N i = 116
        · rcases ord_t hT hi hP1 c4 with h | ⟨s, j, h2, h3, h4, h5, h6⟩
          · exact Or.inl h
          · exact Or.inr ⟨j, h4, h5, Or.inr (Or.inr (Or.inr ⟨s, h2, h3, h6⟩))⟩
        · exact Or.inl ⟨i, by omega, ord_x hT hi hP1 c1 c2 c3 c4⟩
theorem OC_0 {i P j : Nat} {Q : (Nat → Int32) → Prop} (h : OC N len i P j Q) : ∀ σ f, CS σ N len i f → ∃ f', fX4_readOrder (nI P) (X4 σ f) = some ((), X4 σ f') ∧ CS σ N len j f' := fun σ f hC => by
  obtain ⟨f', h1, h2, -⟩ := h σ f hC
  exact ⟨f', h1, h2⟩
theorem ST_0 {i P j : Nat} (h : ST N len P i j) : (∀ σ f, CS σ N len i f → ∃ f', fX4_readOrder (nI P) (X4 σ f) = some ((), X4 σ f') ∧ CS σ N len j f') ∧ (∀ σ h v, MS σ N len i h → v 1 = nI P → h 11 = 0 → fX6_order (X5 σ h v) = some ((), X5 σ (va_up h 9 (nI j)) v)) := by
  have e11 : ∀ {h : Nat → Int32}, h 11 = 0 → (va_up h 9 (nI j)) 11 = 0 ∨ 0 ≤ (va_up h 9 (nI j)) 10 := fun e => Or.inl (by rw [up_n _ _ (by omega)]; exact e)
  rcases h with ⟨p, r, s, c, -, -, -, -, -, -, -, a, b⟩ | ⟨p, -, a, b⟩ | ⟨p, s, -, -, -, a, b⟩ | ⟨s, -, -, a, b⟩
  · exact ⟨OC_0 a, fun σ h v hM hv e => by rw [b σ h v hM hv, m_155F (e11 e)]⟩
  · exact ⟨OC_0 a, fun σ h v hM hv e => by rw [b σ h v hM hv, m_actF (e11 e)]⟩
  · exact ⟨OC_0 a, fun σ h v hM hv e => by rw [b σ h v hM hv, m_actF (e11 e)]⟩
  · exact ⟨OC_0 a, fun σ h v hM hv e => by rw [b σ h v hM hv, m_actF (e11 e)]⟩
theorem c_ffF {σ : xS} {f : Nat → Int32} {n : Nat} {a1 a : Int32} (h3 : f 3 ≠ -1) : BX4_findFault_6 a1 (n + 1) a (X4 σ f) = some (f 3, X4 σ f) := by
  rw [BX4_findFault_6, X4_rd, X4_rd, X4_rd, if_neg h3]
  split
  · rfl
  · split <;> rfl
theorem m_rdF {σ : xS} {h : Nat → Int32} {v : xV} {n : Nat} (h10 : 0 ≤ h 10) : BX6_reads_20 (n + 1) (X5 σ h v) = some ((), X5 σ h v) := by
  rw [BX6_reads_20, X5_rd, X5_rd, X5_rd, if_pos h10]
  split <;> rfl
theorem ff_both (hT : TN N len) {P : Nat} (hP1 : 1 ≤ P) (hP6 : P ≤ 6) : ∀ m i, len ≤ i + m → i ≤ len → (∃ pos, pos ≤ len ∧ (∀ σ f n a, CS σ N len i f → m < n → a ≤ i → ∃ f', BX4_findFault_6 (nI P) n (nI a) (X4 σ f) = some (nI pos, X4 σ f') ∧ f' 1 = nI len) ∧ (∀ σ h v n, MS σ N len i h → v 1 = nI P → h 11 = 0 → m < n → ∃ h', BX6_reads_20 n (X5 σ h v) = some ((), X5 σ h' v) ∧ mfo h h' pos)) ∨ (CL N len P m i ∧ (∀ σ f n a, CS σ N len i f → m < n → a ≤ i → ∃ f', BX4_findFault_6 (nI P) n (nI a) (X4 σ f) = some (-1, X4 σ f') ∧ f' 1 = nI len) ∧ (∀ σ h v n, MS σ N len i h → v 1 = nI P → h 11 = 0 → m < n → ∃ h', BX6_reads_20 n (X5 σ h v) = some ((), X5 σ h' v) ∧ h' 10 = -1 ∧ ∀ k, k ≠ 9 → h' k = h k)) := by
  have h120 := hT.1
  have hend : ∀ m, (CL N len P m len ∧ (∀ σ f n a, CS σ N len len f → m < n → a ≤ len → ∃ f', BX4_findFault_6 (nI P) n (nI a) (X4 σ f) = some (-1, X4 σ f') ∧ f' 1 = nI len) ∧ (∀ σ h v n, MS σ N len len h → v 1 = nI P → h 11 = 0 → m < n → ∃ h', BX6_reads_20 n (X5 σ h v) = some ((), X5 σ h' v) ∧ h' 10 = -1 ∧ ∀ k, k ≠ 9 → h' k = h k)) := fun m => by
    refine ⟨CL_len m, fun σ f n a hC hn ha => ⟨f, ?_, hC.2.1⟩, fun σ h v n hM hv e hn => ⟨h, ?_, hM.2.2.2, fun _ _ => rfl⟩⟩
    · obtain ⟨n, rfl⟩ : ∃ k, n = k + 1 := ⟨n - 1, by omega⟩
      rw [BX4_findFault_6, X4_rd, X4_rd, X4_rd, hC.2.1, hC.2.2.1, hC.2.2.2, if_pos (show nI len ≤ nI len from nI_le (by omega) (by omega))]
      split <;> rfl
    · obtain ⟨n, rfl⟩ : ∃ k, n = k + 1 := ⟨n - 1, by omega⟩
      rw [BX6_reads_20, X5_rd, X5_rd, hM.2.1, hM.2.2.1, if_pos (show nI len ≤ nI len from nI_le (by omega) (by omega))]
  intro m
  induction m with
  | zero =>
    intro i h1 h2
    have : i = len := by omega
    subst this
    exact Or.inr (hend 0)
  | succ m ih =>
    intro i h1 h2
    by_cases hi : i < len
    · have hc0 : ∀ σ f n a, CS σ N len i f → a ≤ i → BX4_findFault_6 (nI P) (n + 1) (nI a) (X4 σ f) = x_b (fX4_readOrder (nI P) (X4 σ f)) fun _ s2 => BX4_findFault_6 (nI P) n (nI (a + 1)) s2 := fun σ f n a hC ha => by
        rw [BX4_findFault_6, X4_rd, X4_rd, X4_rd, hC.2.1, hC.2.2.1, hC.2.2.2, if_neg (show ¬ (120 : Int32) ≤ nI a from nI_ge (b := 120) (by omega) (by omega)), if_neg (nI_ge hi (by omega)), if_pos (show (-1 : Int32) = -1 from rfl), ← nI_1 a]
        rfl
      have hm0 : ∀ σ h v n, MS σ N len i h → BX6_reads_20 (n + 1) (X5 σ h v) = x_b (fX6_order (X5 σ h v)) fun _ s6 => BX6_reads_20 n s6 := fun σ h v n hM => by
        rw [BX6_reads_20, X5_rd, X5_rd, X5_rd, hM.2.1, hM.2.2.1, hM.2.2.2, if_neg (nI_ge hi (by omega)), if_neg (show ¬ (0 : Int32) ≤ -1 by decide)]
      rcases ord_all hT hi hP1 hP6 with ⟨pos, hpos, oc, om⟩ | ⟨j, j1, j2, hS⟩
      · refine Or.inl ⟨pos, hpos, fun σ f n a hC hn ha => ?_, fun σ h v n hM hv e hn => ?_⟩
        · obtain ⟨n, rfl⟩ : ∃ k, n = k + 1 + 1 := ⟨n - 2, by omega⟩
          obtain ⟨f', g1, g2, g3⟩ := oc σ f hC
          refine ⟨f', ?_, g2⟩
          rw [hc0 σ f _ a hC ha, g1, b_s, c_ffF (by rw [g3]; exact nI_nm1 (by omega)), g3]
        · obtain ⟨n, rfl⟩ : ∃ k, n = k + 1 + 1 := ⟨n - 2, by omega⟩
          obtain ⟨h', g1, g2⟩ := om σ h v hM hv
          refine ⟨h', ?_, g2⟩
          rw [hm0 σ h v _ hM, g1, b_s, m_rdF (mfo_ge g2 (by omega))]
      · obtain ⟨oc, om⟩ := ST_0 hS
        rcases ih j (by omega) j2 with ⟨pos, hpos, kc, km⟩ | ⟨hcl, kc, km⟩
        · refine Or.inl ⟨pos, hpos, fun σ f n a hC hn ha => ?_, fun σ h v n hM hv e hn => ?_⟩
          · obtain ⟨n, rfl⟩ : ∃ k, n = k + 1 := ⟨n - 1, by omega⟩
            obtain ⟨f1, g1, g2⟩ := oc σ f hC
            obtain ⟨f', k1, k2⟩ := kc σ f1 n (a + 1) g2 (by omega) (by omega)
            exact ⟨f', by rw [hc0 σ f _ a hC ha, g1, b_s, k1], k2⟩
          · obtain ⟨n, rfl⟩ : ∃ k, n = k + 1 := ⟨n - 1, by omega⟩
            obtain ⟨h', k1, k2⟩ := km σ _ v n (MS_at (j := j) hM) hv (by rw [up_n _ _ (by omega)]; exact e) (by omega)
            exact ⟨h', by rw [hm0 σ h v _ hM, om σ h v hM hv e, b_s, k1], mfo_9 k2⟩
        · refine Or.inr ⟨Or.inr ⟨j, j1, j2, hS, hcl⟩, fun σ f n a hC hn ha => ?_, fun σ h v n hM hv e hn => ?_⟩
          · obtain ⟨n, rfl⟩ : ∃ k, n = k + 1 := ⟨n - 1, by omega⟩
            obtain ⟨f1, g1, g2⟩ := oc σ f hC
            obtain ⟨f', k1, k2⟩ := kc σ f1 n (a + 1) g2 (by omega) (by omega)
            exact ⟨f', by rw [hc0 σ f _ a hC ha, g1, b_s, k1], k2⟩
          · obtain ⟨n, rfl⟩ : ∃ k, n = k + 1 := ⟨n - 1, by omega⟩
            obtain ⟨h', k1, k2, k3⟩ := km σ _ v n (MS_at (j := j) hM) hv (by rw [up_n _ _ (by omega)]; exact e) (by omega)
            exact ⟨h', by rw [hm0 σ h v _ hM, om σ h v hM hv e, b_s, k1], k2, fun k hk => by rw [k3 k hk, up_n _ _ hk]⟩
    · have : i = len := by omega
      subst this
      exact Or.inr (hend (m + 1))
end TXT4
theorem X4_id (σ : xS) : X4 σ (σ 4 23 0 0) = σ := by
  unfold X4 x_row
  rw [up_id, up_id, up_id, up_id]
theorem X5_id (σ : xS) : X5 σ (σ 5 30 0 0) (vv σ) = σ := by
  unfold X5
  rw [rowK_id]; exact row_id σ
theorem X5_own (σ : xS) (h : Nat → Int32) : X5 σ h (vv σ) = x_row σ 5 30 0 0 h := by
  unfold X5
  have e : vv σ = x_row σ 5 30 0 0 h 5 31 0 0 := by rw [rowK_K _ _ _ (by decide)]
  rw [e]; exact row_id _
/-- the text that stands -/
theorem tx_N {σ : xS} (h : tx σ) : ∃ N len, TN N len ∧ C4 σ N len ∧ C5 σ N len ∧ σ 4 23 0 0 1 = nI len ∧ σ 5 30 0 0 5 = nI len := by
  obtain ⟨len, h1, h2, h3, h4⟩ := h
  have key : ∀ j, j < len → (σ 4 24 0 0 j).toNatClampNeg ≤ 127 ∧ σ 4 24 0 0 j = nI (σ 4 24 0 0 j).toNatClampNeg := fun j hj => by
    obtain ⟨k, k1, k2, e⟩ := rng_nI (lo := 0) (hi := 127) (x := σ 4 24 0 0 j) (by omega) (by omega) (h4 j hj).2
    rw [e, nI_clamp (by omega)]
    exact ⟨k2, rfl⟩
  exact ⟨fun j => (σ 4 24 0 0 j).toNatClampNeg, len, ⟨h1, fun j hj => (key j hj).1⟩, fun j hj => (key j hj).2, fun j hj => by rw [← (h4 j hj).1]; exact (key j hj).2, h2, h3⟩
theorem c_rew (σ : xS) (f : Nat → Int32) : fX4_rewind (X4 σ f) = some ((), X4 σ (va_up (va_up f 2 0) 3 (-1))) := by
  rw [fX4_rewind, X4_set, l_v, X4_set, l_v]
theorem rew_CS {N : Nat → Nat} {len : Nat} {σ : xS} {f : Nat → Int32} (hc : C4 σ N len) (h1 : f 1 = nI len) : CS σ N len 0 (va_up (va_up f 2 0) 3 (-1)) := ⟨hc, by rw [up_n _ _ (by omega), up_n _ _ (by omega)]; exact h1, by rw [up_n _ _ (by omega), up_s]; rfl, up_s _ _ _⟩
def hst (h : Nat → Int32) (a : Int32) : Nat → Int32 := va_up (va_up (va_up (va_up h 9 0) 10 (-1)) 11 a) 12 0
theorem m_rds {σ : xS} {h : Nat → Int32} {v : xV} {a : Int32} (ha : x_z a = true) : fX6_reads a (X5 σ h v) = BX6_reads_20 x_FU (X5 σ (hst h a) v) := by
  rw [fX6_reads, X5_set, l_v, X5_set, l_v, ha, g_t, X5_set, l_v, X5_set, l_v]; rfl
theorem hst_MS {N : Nat → Nat} {len : Nat} {σ : xS} {h : Nat → Int32} {a : Int32} (hc : C5 σ N len) (h5 : h 5 = nI len) : MS σ N len 0 (hst h a) := by
  unfold hst
  exact ⟨hc, by rw [up_n _ _ (by omega), up_n _ _ (by omega), up_n _ _ (by omega), up_n _ _ (by omega)]; exact h5, by rw [up_n _ _ (by omega), up_n _ _ (by omega), up_n _ _ (by omega), up_s]; rfl, by rw [up_n _ _ (by omega), up_n _ _ (by omega), up_s]⟩
theorem hst_v {h : Nat → Int32} {a : Int32} : hst h a 11 = a ∧ hst h a 12 = 0 ∧ hst h a 5 = h 5 := by
  unfold hst
  exact ⟨by rw [up_n _ _ (by omega), up_s], up_s _ _ _, by rw [up_n _ _ (by omega), up_n _ _ (by omega), up_n _ _ (by omega), up_n _ _ (by omega)]⟩
theorem X4_d (σ : xS) (f : Nat → Int32) {d : Nat} (hd : d ≠ 4) : X4 σ f d = σ d := by unfold X4 x_row; rw [up_n _ _ hd]
theorem X4_22 (σ : xS) (f : Nat → Int32) : X4 σ f 4 22 = σ 4 22 := by unfold X4 x_row; rw [up_s, up_n _ _ (by decide)]
theorem tx_X {N : Nat → Nat} {len : Nat} {σ2 : xS} (hT : TN N len) (h4 : C4 σ2 N len) (h5 : C5 σ2 N len) (e1 : σ2 4 23 0 0 1 = nI len) (e2 : σ2 5 30 0 0 5 = nI len) : tx σ2 := ⟨len, hT.1, e1, e2, fun j hj => by
  have b := hT.2 j hj
  rw [h4 j hj, h5 j hj]
  exact ⟨rfl, nI_pos' (by omega), nI_le (b := 127) (by omega) (by omega)⟩⟩
/-- after a reading that did nothing -/
theorem Inv_scan {N : Nat → Nat} {len n : Nat} {σ : xS} {f h : Nat → Int32} (hT : TN N len) (hI : Inv n σ) (hn : n < 512) (h4 : C4 σ N len) (h5 : C5 σ N len) (e1 : f 1 = nI len) (e2 : h 5 = nI len) : Inv (n + 1) (X5 (X4 σ f) h (vv (X4 σ f))) := by
  rw [X5_own]
  refine Inv_tx hI hn (fun d hd => by rw [rowK_d _ _ _ (by omega), X4_d _ _ (by omega)]) (by rw [rowK_d _ _ _ (by decide), X4_22]) ⟨by rw [rowK_K _ _ _ (by decide), X4_d _ _ (by decide)], by rw [rowK_K _ _ _ (by decide), X4_d _ _ (by decide)], by rw [rowK_K _ _ _ (by decide), X4_d _ _ (by decide)]⟩ (tx_X hT (fun j hj => ?_) (fun j hj => ?_) ?_ ?_)
  · rw [rowK_d _ _ _ (by decide), X4_24]; exact h4 j hj
  · rw [rowK_K _ _ _ (by decide), X4_d _ _ (by decide)]; exact h5 j hj
  · rw [rowK_d _ _ _ (by decide), X4_rd]; exact e1
  · rw [rowK_rd]; exact e2
theorem xp49 : xP49 Inv := by
  intro n σ hI hn
  obtain ⟨C, P, hW⟩ := RW_of hI hn
  obtain ⟨hP5, hP0, h1, h6⟩ := w_P hW
  obtain ⟨N, len, hT, h4, h5, e4, e5⟩ := tx_N (hI (by omega)).2.2.1
  have h120 := hT.1
  have hc0 : fX4_findFault (nI P) σ = BX4_findFault_6 (nI P) x_FU (nI 0) (X4 σ (va_up (va_up (σ 4 23 0 0) 2 0) 3 (-1))) := by
    have := c_rew σ (σ 4 23 0 0)
    rw [X4_id] at this
    rw [fX4_findFault, this, b_s]; rfl
  have hCS := rew_CS (f := σ 4 23 0 0) h4 e4
  have hm0 : ∀ f a, x_z a = true → fX6_reads a (X4 σ f) = BX6_reads_20 x_FU (X5 (X4 σ f) (hst (σ 5 30 0 0) a) (vv (X4 σ f))) := fun f a ha => by
    have := m_rds (σ := X4 σ f) (h := X4 σ f 5 30 0 0) (v := vv (X4 σ f)) ha
    rw [X5_id] at this
    rw [this, X4_d _ _ (by decide)]
  have hv : ∀ f, vv (X4 σ f) 1 = nI P := fun f => by unfold vv; rw [X4_d _ _ (by decide)]; exact hP5
  have hMS : ∀ f a, MS (X4 σ f) N len 0 (hst (σ 5 30 0 0) a) := fun f a => hst_MS (fun j hj => by rw [X4_d _ _ (by decide)]; exact h5 j hj) e5
  rcases ff_both hT h1 h6 len 0 (by omega) (by omega) with ⟨pos, hpos, kc, km⟩ | ⟨hcl, kc, km⟩
  · obtain ⟨f', g1, g2⟩ := kc σ _ x_FU 0 hCS (by unfold x_FU; omega) (by omega)
    obtain ⟨h', k1, k2⟩ := km (X4 σ f') _ (vv (X4 σ f')) x_FU (hMS f' 0) (hv f') hst_v.1 (by unfold x_FU; omega)
    refine ⟨nI pos, X4 σ f', X5 (X4 σ f') h' (vv (X4 σ f')), ?_, ?_, Inv_scan hT hI hn h4 h5 g2 (by rw [k2.2 5 (by omega) (by omega), hst_v.2.2]; exact e5)⟩
    · rw [fX5_faultPosition, hP0, hc0, g1, b_s, if_neg (nI_nm1 (by omega))]
    · rw [fX6_faultPosition, hm0 f' 0 rfl, k1, b_s, X5_rd, if_pos (mfo_ge k2 (by omega)), k2.1]
  · obtain ⟨f', g1, g2⟩ := kc σ _ x_FU 0 hCS (by unfold x_FU; omega) (by omega)
    obtain ⟨h', k1, k2, k3⟩ := km (X4 σ f') _ (vv (X4 σ f')) x_FU (hMS f' 0) (hv f') hst_v.1 (by unfold x_FU; omega)
    refine ⟨-5, X4 σ f', X5 (X4 σ f') h' (vv (X4 σ f')), ?_, ?_, Inv_scan hT hI hn h4 h5 g2 (by rw [k3 5 (by omega), hst_v.2.2]; exact e5)⟩
    · rw [fX5_faultPosition, hP0, hc0, g1, b_s, if_pos rfl]
    · rw [fX6_faultPosition, hm0 f' 0 rfl, k1, b_s, X5_rd, k2, if_neg (show ¬ (0 : Int32) ≤ -1 by decide)]
