/-! ===== the row behind a packet's leaving, read ===== -/
section LV
variable {v : xV} {q j C : Nat}
theorem ls_n {x : Int32} {m : Nat} (h : m ≠ iq q 6 ∧ m ≠ iq q 7 ∧ m ≠ iq q 8) : lsV v q x m = v m := by
  rw [lsV, up_n _ _ h.1, up_n _ _ h.2.1, up_n _ _ h.2.2]
theorem ls_6 {x : Int32} : lsV v q x (iq q 6) = v (iq q 6) - le6 v q x := by rw [lsV, up_s]
theorem ls_7 {x : Int32} : lsV v q x (iq q 7) = v (iq q 7) - le7 v q x := by
  rw [lsV, up_n _ _ (qq (by omega) (by omega) (by omega)), up_s]
theorem ls_8 {x : Int32} : lsV v q x (iq q 8) = v (iq q 8) - le8 v q x := by
  rw [lsV, up_n _ _ (qq (by omega) (by omega) (by omega)), up_n _ _ (qq (by omega) (by omega) (by omega)), up_s]
/-- what the counts are taken from -/
def lv0 (v : xV) (q j C : Nat) : xV := clr (va_up (va_up (shf v q (j + 1) (Ln v q)) (iq q 12) (nI (Ln v q) - 1)) (ik (Sl v q j) 3) 0) (Sl v q j) C 0
theorem lvV_def : lvV v q j C = lsV (lv0 v q j C) q (v (ik (Sl v q j) 1)) := rfl
def LO (v : xV) (q j C : Nat) : Prop := MX v C ∧ q < 18 ∧ j < Ln v q ∧ C ≤ 128
theorem LO_L (h : LO v q j C) : v (iq q 12) = nI (Ln v q) ∧ Ln v q ≤ 128 := h.1.1 q h.2.1
theorem LO_k (h : LO v q j C) : Sl v q j < 128 ∧ Us v (Sl v q j) := (h.1.2.1 q j h.2.1 h.2.2.1).2
theorem lv0_n (h : LO v q j C) {m : Nat} (h1 : m ≠ 160 + 16 * q + 12) (h2 : m ≠ 2752 + 28 * Sl v q j + 3) (h3 : m < 448 + 128 * q + j ∨ 448 + 128 * q + Ln v q ≤ m + 1) (h4 : m < 6336 ∨ 6336 + C ≤ m) : lv0 v q j C m = v m := by
  unfold lv0 clr
  rw [if_neg (by omega), up_n _ _ h2, up_n _ _ h1, shf, if_neg (by omega)]
theorem lv_n (h : LO v q j C) {m : Nat} (h0 : m ≠ 160 + 16 * q + 6 ∧ m ≠ 160 + 16 * q + 7 ∧ m ≠ 160 + 16 * q + 8) (h1 : m ≠ 160 + 16 * q + 12) (h2 : m ≠ 2752 + 28 * Sl v q j + 3) (h3 : m < 448 + 128 * q + j ∨ 448 + 128 * q + Ln v q ≤ m + 1) (h4 : m < 6336 ∨ 6336 + C ≤ m) : lvV v q j C m = v m := by
  rw [lvV_def, ls_n h0, lv0_n h h1 h2 h3 h4]
theorem lv_lo (h : LO v q j C) {m : Nat} (hm : m < 160) : lvV v q j C m = v m := by
  have := LO_k h
  have := LO_L h
  exact lv_n h (by omega) (by omega) (by omega) (by omega) (by omega)
theorem lv_hi (h : LO v q j C) {m : Nat} (hm : 6464 ≤ m) : lvV v q j C m = v m := by
  have := LO_k h
  have := LO_L h
  have := h.2.2
  have := h.2.1
  exact lv_n h (by omega) (by omega) (by omega) (by omega) (by omega)
theorem lv_q (h : LO v q j C) {q' f : Nat} (hq' : q' < 18) (hf : f < 16) (hn : q' ≠ q ∨ (f ≠ 6 ∧ f ≠ 7 ∧ f ≠ 8 ∧ f ≠ 12)) : lvV v q j C (iq q' f) = v (iq q' f) := by
  have := LO_k h
  have := LO_L h
  have := h.2.2
  have := h.2.1
  refine lv_n h ⟨?_, ?_, ?_⟩ ?_ ?_ ?_ ?_
  all_goals simp only [iq]
  all_goals omega
theorem lv0_q (h : LO v q j C) {q' f : Nat} (hq' : q' < 18) (hf : f < 16) (hn : q' ≠ q ∨ f ≠ 12) : lv0 v q j C (iq q' f) = v (iq q' f) := by
  have := LO_k h
  have := LO_L h
  have := h.2.2
  have := h.2.1
  refine lv0_n h ?_ ?_ ?_ ?_
  all_goals simp only [iq]
  all_goals omega
theorem lv_12 (h : LO v q j C) : lvV v q j C (iq q 12) = nI (Ln v q - 1) := by
  have a := LO_k h
  have b := LO_L h
  have c := h.2.2
  have d := h.2.1
  rw [lvV_def, ls_n ⟨qq (by omega) (by omega) (by omega), qq (by omega) (by omega) (by omega), qq (by omega) (by omega) (by omega)⟩, lv0, clr, if_neg (by simp only [iq]; omega), up_n _ _ (by simp only [iq, ik]; omega), up_s]
  obtain ⟨M, e⟩ : ∃ M, Ln v q = M + 1 := ⟨Ln v q - 1, by omega⟩
  rw [e, nI_pred, Nat.add_sub_cancel]
theorem lv_6 (h : LO v q j C) : lvV v q j C (iq q 6) = v (iq q 6) - le6 v q (v (ik (Sl v q j) 1)) ∧ lvV v q j C (iq q 7) = v (iq q 7) - le7 v q (v (ik (Sl v q j) 1)) ∧ lvV v q j C (iq q 8) = v (iq q 8) - le8 v q (v (ik (Sl v q j) 1)) := by
  have e6 := lv0_q h h.2.1 (f := 6) (by omega) (by omega)
  have e7 := lv0_q h h.2.1 (f := 7) (by omega) (by omega)
  have e8 := lv0_q h h.2.1 (f := 8) (by omega) (by omega)
  refine ⟨?_, ?_, ?_⟩
  · rw [lvV_def, ls_6, e6]; simp only [le6, le7, le8, e6, e7, e8]
  · rw [lvV_def, ls_7, e7]; simp only [le7, le8, e7, e8]
  · rw [lvV_def, ls_8, e8]; simp only [le8, e8]
theorem lv_k (h : LO v q j C) {k f : Nat} (hk : k < 128) (hf : f < 28) (hn : k ≠ Sl v q j ∨ f ≠ 3) : lvV v q j C (ik k f) = v (ik k f) := by
  have := LO_k h
  have := LO_L h
  have := h.2.2
  have := h.2.1
  refine lv_n h ⟨?_, ?_, ?_⟩ ?_ ?_ ?_ ?_
  all_goals simp only [ik]
  all_goals omega
theorem lv_u (h : LO v q j C) : lvV v q j C (ik (Sl v q j) 3) = 0 := by
  have a := LO_k h
  have d := h.2.1
  rw [lvV_def, ls_n ⟨by simp only [iq, ik]; omega, by simp only [iq, ik]; omega, by simp only [iq, ik]; omega⟩, lv0, clr, if_neg (by simp only [ik]; omega), up_s]
theorem lv_e (h : LO v q j C) {i : Nat} (hi : i < Ln v q - 1) : lvV v q j C (ie q i) = v (ie q (skp j i)) := by
  have a := LO_k h
  have b := LO_L h
  have c := h.2.2
  have d := h.2.1
  rw [lvV_def, ls_n ⟨by simp only [iq, ie]; omega, by simp only [iq, ie]; omega, by simp only [iq, ie]; omega⟩, lv0, clr, if_neg (by simp only [ie]; omega), up_n _ _ (by simp only [ik, ie]; omega), up_n _ _ (by simp only [iq, ie]; omega), shf, skp]
  by_cases z : i < j
  · rw [if_pos z, if_neg (by simp only [ie]; omega)]
  · rw [if_neg z, if_pos (by simp only [ie]; omega)]
    rfl
theorem lv_e' (h : LO v q j C) {q' i : Nat} (hq' : q' < 18) (hi : i < 128) (hn : q' ≠ q) : lvV v q j C (ie q' i) = v (ie q' i) := by
  have := LO_k h
  have := LO_L h
  have := h.2.2
  have := h.2.1
  refine lv_n h ⟨?_, ?_, ?_⟩ ?_ ?_ ?_ ?_
  all_goals simp only [ie]
  all_goals omega
theorem lv_m (h : LO v q j C) {c : Nat} (hc : c < C) : lvV v q j C (6336 + c) = if v (6336 + c) = nI (Sl v q j + 1) then 0 else v (6336 + c) := by
  have a := LO_k h
  have b := LO_L h
  have g := h.2.2
  have d := h.2.1
  have e : (va_up (va_up (shf v q (j + 1) (Ln v q)) (iq q 12) (nI (Ln v q) - 1)) (ik (Sl v q j) 3) 0) (6336 + c) = v (6336 + c) := by
    rw [up_n _ _ (by simp only [ik]; omega), up_n _ _ (by simp only [iq]; omega), shf, if_neg (by omega)]
  rw [lvV_def, ls_n ⟨by simp only [iq]; omega, by simp only [iq]; omega, by simp only [iq]; omega⟩, lv0, clr, e]
  by_cases z : v (6336 + c) = nI (Sl v q j + 1)
  · rw [if_pos z, if_pos ⟨by omega, by omega, z⟩]
  · rw [if_neg z, if_neg (fun y => z y.2.2)]
-- the packets' words
theorem lv_Ln (h : LO v q j C) : Ln (lvV v q j C) q = Ln v q - 1 := by
  have b := LO_L h
  rw [Ln, lv_12 h, nI_clamp (by omega)]
theorem lv_Ln' (h : LO v q j C) {q' : Nat} (hq' : q' < 18) (hn : q' ≠ q) : Ln (lvV v q j C) q' = Ln v q' := by
  rw [Ln, lv_q h hq' (by omega) (Or.inl hn)]; rfl
theorem lv_Sl (h : LO v q j C) {i : Nat} (hi : i < Ln v q - 1) : Sl (lvV v q j C) q i = Sl v q (skp j i) := by
  rw [Sl, lv_e h hi]; rfl
theorem lv_Sl' (h : LO v q j C) {q' i : Nat} (hq' : q' < 18) (hi : i < 128) (hn : q' ≠ q) : Sl (lvV v q j C) q' i = Sl v q' i := by
  rw [Sl, lv_e' h hq' hi hn]; rfl
theorem lv_Sz (h : LO v q j C) {k : Nat} (hk : k < 128) : Sz (lvV v q j C) k = Sz v k := by
  rw [Sz, lv_k h hk (by omega) (by omega)]; rfl
theorem lv_Pn (h : LO v q j C) {k : Nat} (hk : k < 128) : Pn (lvV v q j C) k = Pn v k := by
  rw [Pn, lv_k h hk (by omega) (by omega)]; rfl
theorem lv_Fs (h : LO v q j C) {k f : Nat} (hk : k < 128) (hf : f < 12) : Fs (lvV v q j C) k f = Fs v k f := by
  rw [Fs, lv_k h hk (by omega) (by omega)]; rfl
theorem lv_Fl (h : LO v q j C) {k f : Nat} (hk : k < 128) (hf : f < 12) : Fl (lvV v q j C) k f = Fl v k f := by
  rw [Fl, lv_k h hk (by omega) (by omega)]; rfl
theorem lv_Us (h : LO v q j C) {k : Nat} (hk : k < 128) : Us (lvV v q j C) k ↔ k ≠ Sl v q j ∧ Us v k := by
  by_cases e : k = Sl v q j
  · rw [Us, e, lv_u h]
    exact ⟨fun z => absurd z (by decide), fun z => absurd rfl z.1⟩
  · rw [Us, lv_k h hk (by omega) (Or.inl e)]
    exact ⟨fun z => ⟨e, z⟩, fun z => z.2⟩
theorem skp_ne (j i : Nat) : skp j i ≠ j := by unfold skp; split <;> omega
theorem skp_inj {j i i' : Nat} (h : skp j i = skp j i') : i = i' := by unfold skp at h; split at h <;> split at h <;> omega
theorem skp_lt {j i L : Nat} (h : i < L - 1) : skp j i < L := by unfold skp; split <;> omega
theorem skp_of {j i L : Nat} (hj : j < L) (hi : i < L) (hn : i ≠ j) : ∃ i', i' < L - 1 ∧ skp j i' = i := by
  by_cases z : i < j
  · exact ⟨i, by omega, by rw [skp, if_pos z]⟩
  · exact ⟨i - 1, by omega, by rw [skp, if_neg (by omega)]; omega⟩
/-- places behind the leaving, and where they were -/
def pl (q j : Nat) (q' i : Nat) : Nat := if q' = q then skp j i else i
theorem pl_ok (h : LO v q j C) {q' i : Nat} (hq' : q' < 18) (hi : i < Ln (lvV v q j C) q') : pl q j q' i < Ln v q' ∧ Sl (lvV v q j C) q' i = Sl v q' (pl q j q' i) ∧ Sl v q' (pl q j q' i) ≠ Sl v q j := by
  have hI := h.1.2.2.1
  have hL := h.1.1 q' hq'
  by_cases e : q' = q
  · subst e
    rw [lv_Ln h] at hi
    rw [pl, if_pos rfl, lv_Sl h hi]
    exact ⟨skp_lt hi, rfl, fun z => skp_ne j i (hI _ _ _ _ hq' (skp_lt hi) hq' h.2.2.1 z).2⟩
  · rw [lv_Ln' h hq' e] at hi
    rw [pl, if_neg e, lv_Sl' h hq' (by omega) e]
    exact ⟨hi, rfl, fun z => e (hI _ _ _ _ hq' hi h.2.1 h.2.2.1 z).1⟩
theorem MX_lv (h : LO v q j C) : MX (lvV v q j C) C := by
  obtain ⟨xL, xE, xI, xU, xK, xJ, xM, xF, xD⟩ := h.1
  have hk := LO_k h
  have hPn : ∀ {k}, k < 128 → Us v k → Pn v k ≤ 12 := fun a b => (xK _ a b).2.2.2.2.2.1
  refine ⟨fun q' hq' => ?_, fun q' i hq' hi => ?_, fun q1 i1 q2 i2 hq1 hi1 hq2 hi2 he => ?_, fun k k1 => ?_, fun k k1 k2 => ?_, fun k k' k1 k2 k3 k4 he => ?_, fun c hc => ?_, fun k f c k1 k2 k3 k4 k5 => ?_, fun k f f' c k1 k2 k3 k4 k5 k6 k7 k8 => ?_⟩
  · by_cases e : q' = q
    · subst e
      rw [lv_Ln h, lv_12 h]
      exact ⟨rfl, by have := xL q' hq'; omega⟩
    · rw [lv_Ln' h hq' e, lv_q h hq' (by omega) (Or.inl e)]
      exact xL q' hq'
  · obtain ⟨p1, p2, p3⟩ := pl_ok h hq' hi
    obtain ⟨e1, e2, e3⟩ := xE q' _ hq' p1
    rw [p2]
    refine ⟨?_, e2, (lv_Us h e2).mpr ⟨p3, e3⟩⟩
    have : lvV v q j C (ie q' i) = v (ie q' (pl q j q' i)) := by
      have hL := xL q' hq'
      by_cases e : q' = q
      · subst e
        rw [lv_Ln h] at hi
        rw [lv_e h hi, pl, if_pos rfl]
      · rw [lv_Ln' h hq' e] at hi
        rw [lv_e' h hq' (by omega) e, pl, if_neg e]
    rw [this]; exact e1
  · obtain ⟨a1, a2, a3⟩ := pl_ok h hq1 hi1
    obtain ⟨b1, b2, b3⟩ := pl_ok h hq2 hi2
    rw [a2, b2] at he
    obtain ⟨e1, e2⟩ := xI _ _ _ _ hq1 a1 hq2 b1 he
    subst e1
    refine ⟨rfl, ?_⟩
    unfold pl at e2
    by_cases e : q1 = q
    · rw [if_pos e, if_pos e] at e2; exact skp_inj e2
    · rw [if_neg e, if_neg e] at e2; exact e2
  · by_cases e : k = Sl v q j
    · left; rw [e]; exact lv_u h
    · rw [lv_k h k1 (by omega) (Or.inl e)]
      rcases xU k k1 with z | ⟨z, q', i, hq', hi, hs⟩
      · exact Or.inl z
      · refine Or.inr ⟨(lv_Us h k1).mpr ⟨e, z⟩, ?_⟩
        by_cases e2 : q' = q
        · subst e2
          obtain ⟨i', i1, i2⟩ := skp_of h.2.2.1 hi (fun y => e (by rw [← hs, y]))
          exact ⟨q', i', hq', by rw [lv_Ln h]; exact i1, by rw [lv_Sl h i1, i2, hs]⟩
        · have := xL q' hq'
          exact ⟨q', i, hq', by rw [lv_Ln' h hq' e2]; exact hi, by rw [lv_Sl' h hq' (by omega) e2, hs]⟩
  · obtain ⟨n1, u1⟩ := (lv_Us h k1).mp k2
    have p12 := hPn k1 u1
    obtain ⟨a1, a2, a3, a4, a5, a6, a7, a8, a9, a10⟩ := xK k k1 u1
    rw [lv_Sz h k1, lv_Pn h k1, lv_k h k1 (by omega) (Or.inr (by omega)), lv_k h k1 (by omega) (Or.inr (by omega)), lv_k h k1 (f := 0) (by omega) (Or.inr (by omega)), lv_lo h (m := 4) (by omega)]
    refine ⟨a1, a2, a3, a4, a5, a6, fun f hf => ?_, ?_, a9, a10⟩
    · rw [lv_k h k1 (by omega) (Or.inr (by omega)), lv_k h k1 (by omega) (Or.inr (by omega)), lv_Fs h k1 (by omega), lv_Fl h k1 (by omega)]
      exact a7 f hf
    · rw [← a8]
      exact nsum_c (fun f hf => lv_Fl h k1 (by omega))
  · obtain ⟨n1, u1⟩ := (lv_Us h k1).mp k2
    obtain ⟨n3, u3⟩ := (lv_Us h k3).mp k4
    rw [lv_k h k1 (by omega) (Or.inr (by omega)), lv_k h k3 (by omega) (Or.inr (by omega))] at he
    exact xJ k k' k1 u1 k3 u3 he
  · rw [lv_m h hc]
    by_cases z : v (6336 + c) = nI (Sl v q j + 1)
    · rw [if_pos z]; exact Or.inl rfl
    · rw [if_neg z]
      rcases xM c hc with y | ⟨k, k1, k2, k3, f, f1, f2, f3⟩
      · exact Or.inl y
      · have := hPn k1 k2
        refine Or.inr ⟨k, k1, (lv_Us h k1).mpr ⟨fun e => z (by rw [k3, e]), k2⟩, k3, f, ?_, ?_, ?_⟩
        · rw [lv_Pn h k1]; exact f1
        · rw [lv_Fs h k1 (by omega)]; exact f2
        · rw [lv_Fs h k1 (by omega), lv_Fl h k1 (by omega)]; exact f3
  · obtain ⟨n1, u1⟩ := (lv_Us h k1).mp k2
    have p12 := hPn k1 u1
    rw [lv_Pn h k1] at k3
    rw [lv_Fs h k1 (by omega)] at k4 k5
    rw [lv_Fl h k1 (by omega)] at k5
    have hc : c < C := by have := ((xK k k1 u1).2.2.2.2.2.2.1 f k3).2.2.2; omega
    have e := xF k f c k1 u1 k3 k4 k5
    rw [lv_m h hc, if_neg (fun z => n1 ?_)]
    · exact e
    · rw [e] at z
      have := nIeq (by omega) (by omega) z
      omega
  · obtain ⟨n1, u1⟩ := (lv_Us h k1).mp k2
    have p12 := hPn k1 u1
    rw [lv_Pn h k1] at k3 k4
    rw [lv_Fs h k1 (by omega)] at k5 k6 k7 k8
    rw [lv_Fl h k1 (by omega)] at k6 k8
    exact xD k f f' c k1 u1 k3 k4 k5 k6 k7 k8
-- the counts
theorem imin_l (a b : Int32) : i_min a b ≤ a := by unfold i_min; split <;> grind
theorem imin_r (a b : Int32) : i_min a b ≤ b := by unfold i_min; split <;> grind
theorem imin_0 {a b : Int32} (ha : 0 ≤ a) (hb : 0 ≤ b) : 0 ≤ i_min a b := by unfold i_min; split <;> assumption
theorem imin_c (a b : Int32) : i_min a b = a ∨ i_min a b = b := by unfold i_min; split <;> simp
theorem le_sum {x : Int32} (w6 : rg (v (iq q 6)) 0 128) (w7 : rg (v (iq q 7)) 0 128) (w8 : rg (v (iq q 8)) 0 128) (h0 : 0 ≤ x) (h : x ≤ v (iq q 6) + v (iq q 7) + v (iq q 8)) (hs : v (iq q 6) + v (iq q 7) + v (iq q 8) ≤ 128) : rg (le6 v q x) 0 (v (iq q 6)) ∧ rg (le7 v q x) 0 (v (iq q 7)) ∧ rg (le8 v q x) 0 (v (iq q 8)) ∧ le6 v q x = x - le8 v q x - le7 v q x := by
  unfold rg at *
  have e8 : le8 v q x = i_min x (v (iq q 8)) := rfl
  have e7 : le7 v q x = i_min (x - le8 v q x) (v (iq q 7)) := rfl
  have e6 : le6 v q x = i_min (x - le8 v q x - le7 v q x) (v (iq q 6)) := rfl
  have a1 := imin_l x (v (iq q 8))
  have a2 := imin_r x (v (iq q 8))
  have a3 := imin_c x (v (iq q 8))
  have a4 : 0 ≤ i_min x (v (iq q 8)) := imin_0 h0 w8.1
  rw [← e8] at a1 a2 a3 a4
  generalize le8 v q x = L8 at *
  have b1 := imin_l (x - L8) (v (iq q 7))
  have b2 := imin_r (x - L8) (v (iq q 7))
  have b3 := imin_c (x - L8) (v (iq q 7))
  have b0 : 0 ≤ x - L8 := by grind
  have b4 : 0 ≤ i_min (x - L8) (v (iq q 7)) := imin_0 b0 w7.1
  rw [← e7] at b1 b2 b3 b4
  generalize le7 v q x = L7 at *
  have c0 : 0 ≤ x - L8 - L7 := by grind
  have c5 : x - L8 - L7 ≤ v (iq q 6) := by grind
  have c6 : i_min (x - L8 - L7) (v (iq q 6)) = x - L8 - L7 := by
    unfold i_min
    rw [if_neg (by grind)]
  rw [e6, c6]
  exact ⟨⟨c0, c5⟩, ⟨b4, b2⟩, ⟨a4, a2⟩, rfl⟩
end LV
