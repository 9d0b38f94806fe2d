/-! ===== a packet enters ===== -/
/-- its cells are counted, and it isn't there yet -/
def RC (τ : xD) (v : xV) (b C P p r sz : Nat) : Prop := wfG v C P ∧ cfQ τ v ∧ cfP τ v ∧ cfL τ v ∧ cfD τ v ∧ cfR τ v ∧ wfP v ∧ wfQ v ∧ wfT v ∧ wfN v P ∧ MX v C ∧ (∀ q, q < 18 → v (iq q 6) + v (iq q 7) + v (iq q 8) = nI (Uq v q + if q = 3 * p + r then sz else 0) ∧ Uq v q + (if q = 3 * p + r then sz else 0) ≤ 128) ∧ RX τ v C ∧ gr τ v P ∧ wfS v P ∧ pri τ ∧ 0 ≤ v 4 ∧ v 4 ≤ nI b ∧ 0 ≤ v 10 ∧ v 10 ≤ nI b
theorem RC_room {τ : xD} {v : xV} {b C P p r sz : Nat} (h : RC τ v b C P p r sz) (hp : p < P) (hr : r < 3) : nsum (Uq v) 18 + sz ≤ C := by
  obtain ⟨hG, hQ, hPp, hLs, hDd, hRf, wP, wQ, wT, wN, hM, hA, hX, hg, hS, hpr, -⟩ := h
  have h6 := hG.2.2.2.2.2.1
  have := used_gen (u := fun q => Uq v q + if q = 3 * p + r then sz else 0) hG wP wQ hS hA (fun p' r' h1 h2 h3 => by
    have z := ((wN p' h1 h2).2.2.2 r' h3).2.2.2
    have e : Ln v (3 * p' + r') = 0 := by unfold Ln; rw [z]; rfl
    show Uq v (3 * p' + r') + (if 3 * p' + r' = 3 * p + r then sz else 0) = 0
    rw [if_neg (by omega), Uq, e]; rfl)
  rw [nsum_add1 (u := Uq v) (q := 3 * p + r) (x := sz) 18 (fun k hk => rfl), if_pos (by omega)] at this
  exact this
def nwV (v : xV) (k : Nat) (x : Int32) : xV := va_up (va_up (va_up (va_up (va_up v (ik k 0) (v 4)) (ik k 1) x) (ik k 2) 0) (ik k 3) 1) 4 (v 4 + 1)
theorem nw_n {v : xV} {k m : Nat} {x : Int32} (h0 : m ≠ 2752 + 28 * k + 0) (h1 : m ≠ 2752 + 28 * k + 1) (h2 : m ≠ 2752 + 28 * k + 2) (h3 : m ≠ 2752 + 28 * k + 3) (h4 : m ≠ 4) : nwV v k x m = v m := by
  rw [nwV, up_n _ _ h4, up_n _ _ h3, up_n _ _ h2, up_n _ _ h1, up_n _ _ h0]
def jnT (τ : xD) (p r c : Nat) : xD := dset (dset (if τ 16 p r 14 = -1 then dset (dset (dset τ 8 0 0 c (τ 16 p r 14)) 9 0 0 c (-1)) 16 p r 13 (nI c) else dset (dset (dset τ 8 0 0 c (τ 16 p r 14)) 9 0 0 c (-1)) 9 0 0 (τ 16 p r 14).toNatClampNeg (nI c)) 16 p r 14 (nI c)) 16 p r 15 (τ 16 p r 15 + 1)
theorem c_join {σ : xS} {d p r c : Nat} (τ : xD) (hc : c < 128) (hl : ce (τ 16 p r 14)) : fX1_joinQueue d d p r (nI c) (va_up σ d τ) = some ((), va_up σ d (jnT τ p r c)) := by
  rw [fX1_joinQueue, c_cell_t hc, b_s, if_neg (by decide), in_nI hc (by omega), g_t, nI_clamp (by omega), set_own, up_s, l_v, g_t, set_own, l_v, up_s, ds_n (show 16 ≠ 9 ∨ p ≠ 0 ∨ r ≠ 0 ∨ 14 ≠ c by omega), ds_n (show 16 ≠ 8 ∨ p ≠ 0 ∨ r ≠ 0 ∨ 14 ≠ c by omega), jnT]
  rcases hl with e | ⟨c', hc', e⟩
  · rw [e, if_pos rfl, c_cell_f, b_s, if_pos rfl]
    simp only [l_v, set_own, up_s]
    rw [ds_n (show 16 ≠ 16 ∨ p ≠ p ∨ r ≠ r ∨ 15 ≠ 14 by omega), ds_n (show 16 ≠ 16 ∨ p ≠ p ∨ r ≠ r ∨ 15 ≠ 13 by omega), ds_n (show 16 ≠ 9 ∨ p ≠ 0 ∨ r ≠ 0 ∨ 15 ≠ c by omega), ds_n (show 16 ≠ 8 ∨ p ≠ 0 ∨ r ≠ 0 ∨ 15 ≠ c by omega)]
  · rw [e, if_neg (nI_nm1 (by omega)), c_cell_t hc', b_s, if_neg (by decide)]
    simp only [l_v, up_s]
    rw [ds_n (show 16 ≠ 9 ∨ p ≠ 0 ∨ r ≠ 0 ∨ 14 ≠ c by omega), ds_n (show 16 ≠ 8 ∨ p ≠ 0 ∨ r ≠ 0 ∨ 14 ≠ c by omega), e, in_nI hc' (by omega), g_t, nI_clamp (by omega)]
    simp only [set_own, up_s]
    rw [ds_n (show 16 ≠ 16 ∨ p ≠ p ∨ r ≠ r ∨ 15 ≠ 14 by omega), ds_n (show 16 ≠ 9 ∨ p ≠ 0 ∨ r ≠ 0 ∨ 15 ≠ c' by omega), ds_n (show 16 ≠ 9 ∨ p ≠ 0 ∨ r ≠ 0 ∨ 15 ≠ c by omega), ds_n (show 16 ≠ 8 ∨ p ≠ 0 ∨ r ≠ 0 ∨ 15 ≠ c by omega)]
theorem jn_n {τ : xD} {p r c K p' r' k : Nat} (h1 : K ≠ 16 ∨ p' ≠ p ∨ r' ≠ r ∨ (k ≠ 13 ∧ k ≠ 14 ∧ k ≠ 15)) (h2 : K ≠ 8 ∧ K ≠ 9) : jnT τ p r c K p' r' k = τ K p' r' k := by
  unfold jnT
  rw [ds_n (by omega), ds_n (by omega)]
  split
  · rw [ds_n (by omega), ds_n (by omega), ds_n (by omega)]
  · rw [ds_n (by omega), ds_n (by omega), ds_n (by omega)]
theorem jn_15 {τ : xD} {p r c : Nat} : jnT τ p r c 16 p r 15 = τ 16 p r 15 + 1 := by unfold jnT; rw [ds_s]
theorem jn_14 {τ : xD} {p r c : Nat} : jnT τ p r c 16 p r 14 = nI c := by unfold jnT; rw [ds_n (by omega), ds_s]
theorem jn_13 {τ : xD} {p r c : Nat} : jnT τ p r c 16 p r 13 = if τ 16 p r 14 = -1 then nI c else τ 16 p r 13 := by
  unfold jnT; rw [ds_n (by omega), ds_n (by omega)]
  split
  · rw [ds_s]
  · rw [ds_n (by omega), ds_n (by omega), ds_n (by omega)]
theorem jn_8 {τ : xD} {p r c c' : Nat} : jnT τ p r c 8 0 0 c' = if c' = c then τ 16 p r 14 else τ 8 0 0 c' := by
  unfold jnT; rw [ds_n (by omega), ds_n (by omega)]
  split
  · rw [ds_n (by omega), ds_n (by omega)]
    by_cases e : c' = c
    · rw [if_pos e, e, ds_s]
    · rw [if_neg e, ds_n (by omega)]
  · rw [ds_n (by omega), ds_n (by omega)]
    by_cases e : c' = c
    · rw [if_pos e, e, ds_s]
    · rw [if_neg e, ds_n (by omega)]
theorem jn_9 {τ : xD} {p r c c' : Nat} : jnT τ p r c 9 0 0 c' = if τ 16 p r 14 ≠ -1 ∧ c' = (τ 16 p r 14).toNatClampNeg then nI c else if c' = c then -1 else τ 9 0 0 c' := by
  unfold jnT; rw [ds_n (by omega), ds_n (by omega)]
  by_cases z : τ 16 p r 14 = -1
  · rw [if_pos z, if_neg (fun y => y.1 z), ds_n (by omega)]
    by_cases e : c' = c
    · rw [if_pos e, e, ds_s]
    · rw [if_neg e, ds_n (by omega), ds_n (by omega)]
  · rw [if_neg z]
    by_cases y : c' = (τ 16 p r 14).toNatClampNeg
    · rw [if_pos ⟨z, y⟩, y, ds_s]
    · rw [if_neg (fun w => y w.2), ds_n (by omega)]
      by_cases e : c' = c
      · rw [if_pos e, e, ds_s]
      · rw [if_neg e, ds_n (by omega), ds_n (by omega)]
/-- what is so behind an entering: slot k, m pieces -/
def EF (τ τ' : xD) (v v' : xV) (p r k sz m L : Nat) (s l : Nat → Nat) : Prop :=
  (v' (ik k 0) = v 4 ∧ v' (ik k 1) = nI sz ∧ v' (ik k 2) = nI m ∧ v' (ik k 3) = 1) ∧
  (∀ i, i < m → v' (ik k (4 + i)) = nI (s i) ∧ v' (ik k (16 + i)) = nI (l i)) ∧
  (∀ k' f, k' < 128 → k' ≠ k → f < 28 → v' (ik k' f) = v (ik k' f)) ∧
  (v' (ie (3 * p + r) L) = nI k ∧ ∀ q i, q < 18 → i < 128 → (q ≠ 3 * p + r ∨ i ≠ L) → v' (ie q i) = v (ie q i)) ∧
  (v' (iq (3 * p + r) 12) = nI (L + 1) ∧ ∀ q f, q < 18 → f < 16 → (q ≠ 3 * p + r ∨ f ≠ 12) → v' (iq q f) = v (iq q f)) ∧
  (v' 4 = v 4 + 1 ∧ ∀ i, i < 160 → i ≠ 4 → v' i = v i) ∧
  (∀ c, (∃ i, i < m ∧ s i ≤ c ∧ c < s i + l i) → τ' 2 0 0 c = 1 ∧ v' (6336 + c) = nI (k + 1)) ∧
  (∀ c, (∀ i, i < m → ¬ (s i ≤ c ∧ c < s i + l i)) → τ' 2 0 0 c = τ 2 0 0 c ∧ v' (6336 + c) = v (6336 + c)) ∧
  (∀ i, i < m → τ' 3 0 0 (s i) = nI (l i) ∧ τ' 4 0 0 (s i) = if i + 1 < m then nI (s (i + 1)) else -1) ∧
  (∀ c, c < 128 → (∀ i, i < m → c ≠ s i) → τ' 3 0 0 c = τ 3 0 0 c ∧ τ' 4 0 0 c = τ 4 0 0 c) ∧
  (τ' 5 0 0 (s 0) = τ 0 0 0 5 ∧ τ' 6 0 0 (s 0) = nI sz ∧ τ' 7 0 0 (s 0) = nI m) ∧
  (∀ K c, K = 5 ∨ K = 6 ∨ K = 7 → c ≠ s 0 → τ' K 0 0 c = τ K 0 0 c) ∧
  (τ' 16 p r 13 = (if τ 16 p r 14 = -1 then nI (s 0) else τ 16 p r 13) ∧ τ' 16 p r 14 = nI (s 0) ∧ τ' 16 p r 15 = τ 16 p r 15 + 1) ∧
  (∀ c, τ' 8 0 0 c = if c = s 0 then τ 16 p r 14 else τ 8 0 0 c) ∧
  (∀ c, τ' 9 0 0 c = if τ 16 p r 14 ≠ -1 ∧ c = (τ 16 p r 14).toNatClampNeg then nI (s 0) else if c = s 0 then -1 else τ 9 0 0 c) ∧
  τ' 0 0 0 5 = τ 0 0 0 5 + 1 ∧
  (∀ K p' r' c, (K < 2 ∨ 9 < K) → (K ≠ 16 ∨ p' ≠ p ∨ r' ≠ r ∨ (c ≠ 13 ∧ c ≠ 14 ∧ c ≠ 15)) → (K ≠ 0 ∨ c ≠ 5) → τ' K p' r' c = τ K p' r' c) ∧
  (∀ i, 6464 ≤ i → v' i = v i)
theorem last_ce {τ : xD} {v : xV} {C p r : Nat} (hM : MX v C) (hC : C ≤ 128) (hX : RX τ v C) (hp : p < 6) (hr : r < 3) : ce (τ 16 p r 14) := by
  rw [(hX.1 p r hp hr).2.1]
  split
  · exact Or.inl rfl
  · rename_i z
    rw [cellAt_in (by omega)]
    have e := hM.2.1 (3 * p + r) (Ln v (3 * p + r) - 1) (by omega) (by omega)
    have y := hM.2.2.2.2.1 _ e.2.1 e.2.2
    have := y.2.2.2.2.2.2.1 0 (by omega)
    exact Or.inr ⟨_, by omega, rfl⟩
theorem S_ent {τ : xD} {v : xV} {b C P p r sz : Nat} (h : RC τ v b C P p r sz) (hp : p < P) (hr : r < 3) (h1 : 1 ≤ sz) (h12 : sz ≤ 12) : ∃ k m s l τa τb v', k < 128 ∧ v (ik k 3) = 0 ∧ nsum l m = sz ∧ 1 ≤ m ∧ m ≤ 12 ∧ (∀ i, i < m → 1 ≤ l i ∧ s i + l i ≤ C ∧ ∀ c, s i ≤ c → c < s i + l i → gV v c = true) ∧ (∀ i i' c, i < m → i' < m → s i ≤ c → c < s i + l i → s i' ≤ c → c < s i' + l i' → i = i') ∧ (∀ σ d, fX1_place d (τ 0 0 0 5) (nI sz) (va_up σ d τ) = some (nI (s 0), va_up σ d τa)) ∧ (∀ σ d, fX1_joinQueue d d p r (nI (s 0)) (va_up σ d τa) = some ((), va_up σ d τb)) ∧ τb 0 0 0 5 = τ 0 0 0 5 ∧ (∀ σ, fX6_enters (nI (3 * p + r)) (nI sz) (x_row σ 5 31 0 0 v) = some ((), x_row σ 5 31 0 0 v')) ∧ EF τ (dset τb 0 0 0 5 (τ 0 0 0 5 + 1)) v v' p r k sz m (Ln v (3 * p + r)) s l := by
  have hroom := RC_room h hp hr
  obtain ⟨hG, hQ, hPp, hLs, hDd, hRf, wP, wQ, wT, wN, hM, hA, hX, hg, hS, hpr, b1, b2, b3, b4⟩ := h
  have h6 := hG.2.2.2.2.2.1
  have h8 := hG.2.2.1
  have hp6 : p < 6 := by omega
  have hcells := cells_le hM
  have hslots := slots_le hM
  obtain ⟨k, ⟨k1, k2⟩, k3⟩ := pk_least _ (ct_ex 128 (show 1 ≤ ct (fun k => decide (v (ik k 3) = 0)) 128 by omega))
  have k2' : v (ik k 3) = 0 := of_decide_eq_true k2
  have klt : ∀ k', k' < k → v (ik k' 3) = 1 := fun k' hk' => by
    rcases hM.2.2.2.1 k' (by omega) with z | ⟨z, -⟩
    · exact absurd ⟨by omega, decide_eq_true z⟩ (k3 k' hk')
    · exact z
  have hgM := gM_V hG
  have hgC := gC_V hG hDd hX
  have hnw : ∀ m, m ≠ 2752 + 28 * k + 0 → m ≠ 2752 + 28 * k + 1 → m ≠ 2752 + 28 * k + 2 → m ≠ 2752 + 28 * k + 3 → m ≠ 4 → nwV v k (nI sz) m = v m := fun m a0 a1 a2 a3 a4 => nw_n a0 a1 a2 a3 a4
  have hgM1 : gM (nwV v k (nI sz)) (gV v) C := ⟨by rw [hnw 0 (by omega) (by omega) (by omega) (by omega) (by omega)]; exact hgM.1, h8, fun c hc => by rw [hnw _ (by omega) (by omega) (by omega) (by omega) (by omega)]; exact hgM.2.2 c hc⟩
  have e2 : nwV v k (nI sz) (ik k 2) = nI 0 := by rw [nwV, up_n _ _ (by simp only [ik]; omega), up_n _ _ (by simp only [ik]; omega), up_s]; rfl
  have e1 : nwV v k (nI sz) (2752 + 28 * k + 1) = nI sz := by
    show nwV v k (nI sz) (ik k 1) = nI sz
    rw [nwV, up_n _ _ (by simp only [ik]; omega), up_n _ _ (by simp only [ik]; omega), up_n _ _ (by simp only [ik]; omega), up_s]
  obtain ⟨m, s, l, τ1, v1, q1, q2, q3, q4, q5, F1, F2, F3, F4, F5, F6, F7, F8, F9, F10, F11⟩ := place_loop (num := τ 0 0 0 5) (size := nI sz) k1 sz sz 0 200 (gV v) τ (nwV v k (nI sz)) x_FU x_FU (Nat.le_refl _) (by omega) hgC hgM1 (by omega) e2 (Or.inl ⟨rfl, rfl⟩) (by unfold x_FU; omega) (by unfold x_FU; omega)
  have hm1 : 1 ≤ m := q3 h1
  have hs0 : s 0 < 128 := by have := F1 0 (by omega); omega
  have hlast := last_ce hM h8 hX hp6 hr
  have l12 := hM.1 (3 * p + r) (by omega)
  have hUq : Ln v (3 * p + r) + 1 ≤ 128 := by
    have a := (hA (3 * p + r) (by omega)).2
    rw [if_pos rfl] at a
    have b : Ln v (3 * p + r) ≤ Uq v (3 * p + r) := nsum_ge _ (fun i hi => by
      have e := hM.2.1 (3 * p + r) i (by omega) hi
      exact (hM.2.2.2.2.1 _ e.2.1 e.2.2).2.1)
    omega
  -- v1 away from the packet
  have n1 : ∀ i, i < 6336 → (∀ f, f < 28 → i ≠ 2752 + 28 * k + f) → i ≠ 4 → v1 i = v i := fun i a1 a2 a3 => by
    rw [F11 i a1 (a2 2 (by omega)) (fun j j1 j2 => ⟨a2 (4 + j) (by omega), a2 (16 + j) (by omega)⟩), hnw i (a2 0 (by omega)) (a2 1 (by omega)) (a2 2 (by omega)) (a2 3 (by omega)) a3]
  have nk : ∀ f, f < 4 → f ≠ 2 → v1 (ik k f) = nwV v k (nI sz) (ik k f) := fun f a1 a2 => F11 _ (by simp only [ik]; omega) (by simp only [ik]; omega) (fun j j1 j2 => ⟨by simp only [ik]; omega, by simp only [ik]; omega⟩)
  have v14 : v1 4 = v 4 + 1 := by
    rw [F11 4 (by omega) (by simp only [ik]; omega) (fun j j1 j2 => ⟨by simp only [ik]; omega, by simp only [ik]; omega⟩), nwV, up_s]
  have v1L : v1 (160 + 16 * (3 * p + r) + 12) = nI (Ln v (3 * p + r)) := by
    rw [n1 _ (by omega) (fun f hf => by omega) (by omega)]; exact l12.1
  generalize eτa : dset (dset (dset τ1 5 0 0 (s 0) (τ 0 0 0 5)) 6 0 0 (s 0) (nI sz)) 7 0 0 (s 0) (nI m) = τa
  have ta : ∀ K p' r' c, (K ≠ 5 ∧ K ≠ 6 ∧ K ≠ 7) → τa K p' r' c = τ1 K p' r' c := fun K p' r' c hK => by rw [← eτa, ds_n (by omega), ds_n (by omega), ds_n (by omega)]
  have ta14 : τa 16 p r 14 = τ 16 p r 14 := by rw [ta _ _ _ _ (by omega), F8 _ _ _ _ (by omega) (by omega) (by omega)]
  have hFU : x_FU = 199999 + 1 := rfl
  refine ⟨k, m, s, l, τa, jnT τa p r (s 0), va_up (va_up v1 (ie (3 * p + r) (Ln v (3 * p + r))) (nI k)) (iq (3 * p + r) 12) (nI (Ln v (3 * p + r) + 1)), k1, k2', q1, hm1, by omega, F1, F2, fun σ d => ?_, fun σ d => ?_, ?_, fun σ => ?_, ?_⟩
  · have := q4 σ d (-1)
    rw [if_pos rfl, if_pos ⟨rfl, by omega⟩, Nat.zero_add] at this
    rw [fX1_place]
    refine Eq.trans this ?_
    rw [BX1_place_111, c_cell_t hs0, b_s, if_neg (by decide), in_nI hs0 (by omega), g_t, nI_clamp (by omega), set_own, l_v, g_t, set_own, l_v, g_t, set_own, l_v, eτa]
  · exact c_join τa hs0 (by rw [ta14]; exact hlast)
  · rw [jn_n (by omega) (by omega), ta _ _ _ _ (by omega), F8 _ _ _ _ (by omega) (by omega) (by omega)]
  · have hns : fX6_newSlot (x_row σ 5 31 0 0 v) = some (nI k, x_row σ 5 31 0 0 v) := m_newSlot k1 k2' klt x_FU 0 (by omega) (by unfold x_FU; omega)
    have v4n : ∀ x y z w, va_up (va_up (va_up (va_up v (2752 + 28 * k + 0) x) (2752 + 28 * k + 1) y) (2752 + 28 * k + 2) z) (2752 + 28 * k + 3) w 4 = v 4 := fun x y z w => by rw [up_n _ _ (by omega), up_n _ _ (by omega), up_n _ _ (by omega), up_n _ _ (by omega)]
    rw [fX6_enters, hns, b_s, m_packet_0, b_s, in_nI (by omega) (by omega), g_t, nI_clamp (by omega), row_rd, row_set, l_v, m_packet_1, b_s, in_nI (by omega) (by omega), g_t, nI_clamp (by omega), row_set, l_v, m_packet_2, b_s, in_nI (by omega) (by omega), g_t, nI_clamp (by omega), row_set, l_v, m_packet_3, b_s, in_nI (by omega) (by omega), g_t, nI_clamp (by omega), row_set, l_v, row_rd, v4n, row_set, l_v]
    show x_b (fX6_places (nI k) (x_row σ 5 31 0 0 (nwV v k (nI sz)))) _ = _
    rw [fX6_places, m_packet_1, b_s, in_nI (by omega) (by omega), g_t, nI_clamp (by omega), row_rd, e1, l_v, q5, b_s, m_queue_12, b_s, in_nI (by omega) (by omega), g_t, nI_clamp (by omega), row_rd, v1L, m_entry, b_s, in_nI (by omega) (by omega), g_t, nI_clamp (by omega), row_set, l_v, m_queue_12, b_s, in_nI (by omega) (by omega), g_t, g_t, nI_clamp (by omega), row_rd, up_n _ _ (show 160 + 16 * (3 * p + r) + 12 ≠ 448 + 128 * (3 * p + r) + Ln v (3 * p + r) by omega), v1L, nI_1, row_set, l_v]
  · have nf : ∀ i, i ≠ 448 + 128 * (3 * p + r) + Ln v (3 * p + r) → i ≠ 160 + 16 * (3 * p + r) + 12 → va_up (va_up v1 (ie (3 * p + r) (Ln v (3 * p + r))) (nI k)) (iq (3 * p + r) 12) (nI (Ln v (3 * p + r) + 1)) i = v1 i := fun i a1 a2 => by rw [up_n _ _ a2, up_n _ _ a1]
    have nfk : ∀ k' f, k' < 128 → f < 28 → va_up (va_up v1 (ie (3 * p + r) (Ln v (3 * p + r))) (nI k)) (iq (3 * p + r) 12) (nI (Ln v (3 * p + r) + 1)) (ik k' f) = v1 (ik k' f) := fun k' f a1 a2 => nf _ (by simp only [ik]; omega) (by simp only [ik]; omega)
    have nfm : ∀ c, va_up (va_up v1 (ie (3 * p + r) (Ln v (3 * p + r))) (nI k)) (iq (3 * p + r) 12) (nI (Ln v (3 * p + r) + 1)) (6336 + c) = v1 (6336 + c) := fun c => nf _ (by omega) (by omega)
    have tb : ∀ K p' r' c, (K ≠ 0 ∨ c ≠ 5) → dset (jnT τa p r (s 0)) 0 0 0 5 (τ 0 0 0 5 + 1) K p' r' c = jnT τa p r (s 0) K p' r' c := fun K p' r' c hK => ds_n (by omega)
    refine ⟨⟨?_, ?_, ?_, ?_⟩, fun i hi => ?_, fun k' f a1 a2 a3 => ?_, ⟨?_, fun q i a1 a2 a3 => ?_⟩, ⟨up_s _ _ _, fun q f a1 a2 a3 => ?_⟩, ⟨?_, fun i a1 a2 => ?_⟩, fun c hc => ?_, fun c hc => ?_, fun i hi => ?_, fun c hc hcn => ?_, ⟨?_, ?_, ?_⟩, fun K c hK hc => ?_, ⟨?_, ?_, ?_⟩, fun c => ?_, fun c => ?_, ds_s, fun K p' r' c a1 a2 a3 => ?_, fun i hi => ?_⟩
    · rw [nfk k 0 k1 (by omega), nk 0 (by omega) (by omega), nwV, up_n _ _ (by simp only [ik]; omega), up_n _ _ (by simp only [ik]; omega), up_n _ _ (by simp only [ik]; omega), up_n _ _ (by simp only [ik]; omega), up_s]
    · rw [nfk k 1 k1 (by omega), nk 1 (by omega) (by omega)]; exact e1
    · rw [nfk k 2 k1 (by omega), F10, Nat.zero_add]
    · rw [nfk k 3 k1 (by omega), nk 3 (by omega) (by omega), nwV, up_n _ _ (by simp only [ik]; omega), up_s]
    · have := F9 i hi
      rw [Nat.zero_add] at this
      rw [nfk k (4 + i) k1 (by omega), nfk k (16 + i) k1 (by omega)]
      exact this
    · rw [nfk k' f a1 a3, n1 _ (by simp only [ik]; omega) (fun f' hf' => by simp only [ik]; omega) (by simp only [ik]; omega)]
    · rw [up_n _ _ (by simp only [ie, iq]; omega), up_s]
    · rw [nf _ (by simp only [ie]; omega) (by simp only [ie]; omega), n1 _ (by simp only [ie]; omega) (fun f' hf' => by simp only [ie]; omega) (by simp only [ie]; omega)]
    · rw [nf _ (by simp only [iq]; omega) (by simp only [iq]; omega), n1 _ (by simp only [iq]; omega) (fun f' hf' => by simp only [iq]; omega) (by simp only [iq]; omega)]
    · rw [nf 4 (by omega) (by omega), v14]
    · rw [nf i (by omega) (by omega), n1 i (by omega) (fun f' hf' => by omega) a2]
    · rw [tb _ _ _ _ (by omega), jn_n (by omega) (by omega), ta _ _ _ _ (by omega), nfm]
      exact F3 c hc
    · rw [tb _ _ _ _ (by omega), jn_n (by omega) (by omega), ta _ _ _ _ (by omega), nfm]
      have := F4 c hc
      rw [hnw _ (by omega) (by omega) (by omega) (by omega) (by omega)] at this
      exact this
    · rw [tb _ _ _ _ (by omega), jn_n (by omega) (by omega), ta _ _ _ _ (by omega), tb _ _ _ _ (by omega), jn_n (by omega) (by omega), ta _ _ _ _ (by omega)]
      exact F5 i hi
    · rw [tb _ _ _ _ (by omega), jn_n (by omega) (by omega), ta _ _ _ _ (by omega), tb _ _ _ _ (by omega), jn_n (by omega) (by omega), ta _ _ _ _ (by omega)]
      have := F6 c hcn
      exact ⟨this.1, this.2 (Or.inl (by omega))⟩
    · rw [tb _ _ _ _ (by omega), jn_n (by omega) (by omega), ← eτa, ds_n (by omega), ds_n (by omega), ds_s]
    · rw [tb _ _ _ _ (by omega), jn_n (by omega) (by omega), ← eτa, ds_n (by omega), ds_s]
    · rw [tb _ _ _ _ (by omega), jn_n (by omega) (by omega), ← eτa, ds_s]
    · rw [tb _ _ _ _ (by omega), jn_n (by omega) (by omega), ← eτa, ds_n (by omega), ds_n (by omega), ds_n (by omega), F8 _ _ _ _ (by omega) (by omega) (by omega)]
    · rw [tb _ _ _ _ (by omega), jn_13, ta14, ta _ _ _ _ (by omega), F8 _ _ _ _ (by omega) (by omega) (by omega)]
    · rw [tb _ _ _ _ (by omega), jn_14]
    · rw [tb _ _ _ _ (by omega), jn_15, ta _ _ _ _ (by omega), F8 _ _ _ _ (by omega) (by omega) (by omega)]
    · rw [tb _ _ _ _ (by omega), jn_8, ta14, ta _ _ _ _ (by omega), F8 _ _ _ _ (by omega) (by omega) (by omega)]
    · rw [tb _ _ _ _ (by omega), jn_9, ta14, ta _ _ _ _ (by omega), F8 _ _ _ _ (by omega) (by omega) (by omega)]
    · rw [tb _ _ _ _ (by omega), jn_n (by omega) (by omega), ta _ _ _ _ (by omega), F8 _ _ _ _ (by omega) (by omega) (by omega)]
    · have e : i = 6336 + (i - 6336) := by omega
      rw [e, nfm, (F4 (i - 6336) (fun j hj y => by have := F1 j hj; omega)).2, hnw _ (by omega) (by omega) (by omega) (by omega) (by omega)]
