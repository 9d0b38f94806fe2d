/-! ===== a packet's fragments ===== -/
def ct (g : Nat → Bool) : Nat → Nat
  | 0 => 0
  | n + 1 => ct g n + (if g n = true then 1 else 0)
def msk (g : Nat → Bool) (s l : Nat) : Nat → Bool := fun c => if s ≤ c ∧ c < s + l then false else g c
theorem ct_msk (g : Nat → Bool) (s l : Nat) : ∀ n, ct g n ≤ ct (msk g s l) n + (min n (s + l) - s)
  | 0 => by rw [ct, ct]; omega
  | n + 1 => by
    have ih := ct_msk g s l n
    rw [ct, ct]
    by_cases z : s ≤ n ∧ n < s + l
    · have e : msk g s l n = false := by unfold msk; rw [if_pos z]
      rw [e, if_neg (show ¬ false = true by decide)]
      split <;> omega
    · have e : msk g s l n = g n := by unfold msk; rw [if_neg z]
      rw [e]
      omega
theorem ct_ex {g : Nat → Bool} : ∀ n, 1 ≤ ct g n → ∃ c, c < n ∧ g c = true
  | 0, h => by rw [ct] at h; omega
  | n + 1, h => by
    by_cases z : g n = true
    · exact ⟨n, by omega, z⟩
    · rw [ct, if_neg z] at h
      obtain ⟨c, c1, c2⟩ := ct_ex n (by omega)
      exact ⟨c, by omega, c2⟩
theorem rst_ex {g : Nat → Bool} {C : Nat} (h : ∃ c, c < C ∧ g c = true) : ∃ c, c < C ∧ rst g c = true := by
  obtain ⟨c, ⟨c1, c2⟩, c3⟩ := pk_least _ h
  refine ⟨c, c1, ?_⟩
  unfold rst
  rw [c2, Bool.true_and]
  by_cases z : c = 0
  · simp [z]
  · have : g (c - 1) = false := by
      by_cases y : g (c - 1) = true
      · exact absurd ⟨by omega, y⟩ (c3 (c - 1) (by omega))
      · simpa using y
    simp [this]
def cns (a : Nat) (f : Nat → Nat) : Nat → Nat
  | 0 => a
  | n + 1 => f n
theorem nsum_cns (a : Nat) (f : Nat → Nat) : ∀ n, nsum (cns a f) (n + 1) = a + nsum f n
  | 0 => by rw [nsum, nsum, nsum]; simp [cns]
  | n + 1 => by
    rw [nsum, nsum_cns a f n, nsum]
    show a + nsum f n + f n = a + (nsum f n + f n)
    omega
def ocT (τ : xD) (s l : Nat) : xD := dset (dset (drow τ 2 0 0 (fun c => if s ≤ c ∧ c < s + l then 1 else τ 2 0 0 c)) 3 0 0 s (nI l)) 4 0 0 s (-1)
theorem c_occ {σ : xS} {d s l : Nat} (hs : s < 128) (hl : s + l ≤ 128) : ∀ (n i : Nat) (τ : xD), i ≤ s + l → s + l < n + i → BX1_occupy_2 d (nI s) (nI l) n (nI i) (va_up σ d τ) = some ((), va_up σ d (dset (dset (drow τ 2 0 0 (fun c => if i ≤ c ∧ c < s + l then 1 else τ 2 0 0 c)) 3 0 0 s (nI l)) 4 0 0 s (-1))) := by
  intro n
  induction n with
  | zero => intro i τ h1 h2; omega
  | succ n ih =>
    intro i τ h1 h2
    rw [BX1_occupy_2, nI_add]
    by_cases e : i < s + l
    · rw [if_neg (nI_ge e (by omega)), if_neg (show ¬ (128 : Int32) ≤ nI i from nI_ge (b := 128) (by omega) (by omega)), in_nI (by omega) (by omega), g_t, nI_clamp (by omega), set_own, l_v, l_v, nI_1, ih (i + 1) _ (by omega) (by omega), ds_dr τ 2, dr_dr]
      have : (fun c => if i + 1 ≤ c ∧ c < s + l then 1 else drow τ 2 0 0 (va_up (τ 2 0 0) i 1) 2 0 0 c) = (fun c => if i ≤ c ∧ c < s + l then (1 : Int32) else τ 2 0 0 c) := by
        funext c
        by_cases q : c = i
        · subst q
          rw [if_neg (by omega), if_pos (by omega), dr_s, up_s]
        · rw [dr_s, up_n _ _ q]
          by_cases z : i + 1 ≤ c ∧ c < s + l
          · rw [if_pos z, if_pos (by omega)]
          · rw [if_neg z, if_neg (by omega)]
      rw [this]
    · have : i = s + l := by omega
      subst this
      rw [if_pos (nI_le (Nat.le_refl _) (by omega)), in_nI hs (by omega), g_t, nI_clamp (by omega), set_own, l_v, g_t, set_own, l_v, dr_id (fun c => by rw [if_neg (by omega)])]
theorem m_185 {σ : xS} {k s l : Nat} {a2 : Int32} {k11 : Int32 → xS → Option (Unit × xS)} (hl : s + l ≤ 128) : ∀ (n i : Nat) (v : xV), i ≤ s + l → s + l < n + i → BX6_places_185 (nI k) a2 (nI s) (nI l) k11 n (nI i) (x_row σ 5 31 0 0 v) = k11 (a2 - nI l) (x_row σ 5 31 0 0 (fun m => if 6336 + i ≤ m ∧ m < 6336 + (s + l) then nI (k + 1) else v m)) := by
  intro n
  induction n with
  | zero => intro i v h1 h2; omega
  | succ n ih =>
    intro i v h1 h2
    rw [BX6_places_185, nI_add]
    by_cases e : i < s + l
    · have e1 : (6336 : Int32) + nI i = nI (6336 + i) := nI_add 6336 i
      rw [if_neg (nI_ge e (by omega)), e1, l_v, in_nI (by omega) (by omega), g_t, nI_clamp (by omega), row_set, l_v, l_v, nI_1, nI_1, ih (i + 1) _ (by omega) (by omega)]
      congr 2
      funext m
      by_cases q : m = 6336 + i
      · subst q
        rw [if_neg (by omega), if_pos (by omega), up_s]
      · rw [up_n _ _ q]
        by_cases z : 6336 + (i + 1) ≤ m ∧ m < 6336 + (s + l)
        · rw [if_pos z, if_pos (by omega)]
        · rw [if_neg z, if_neg (by omega)]
    · have : i = s + l := by omega
      subst this
      rw [if_pos (nI_le (Nat.le_refl _) (by omega)), l_v]
      congr 2
      funext m
      rw [if_neg (by omega)]
def plV (v : xV) (k f s l : Nat) : xV := fun m => if 6336 + s ≤ m ∧ m < 6336 + (s + l) then nI (k + 1) else va_up (va_up (va_up v (ik k (4 + f)) (nI s)) (ik k (16 + f)) (nI l)) (ik k 2) (nI (f + 1)) m
theorem m_122 {σ : xS} {v : xV} {k f s l : Nat} {a2 : Int32} {k11 : Int32 → xS → Option (Unit × xS)} (hk : k < 128) (hf : f < 12) (hv : v (ik k 2) = nI f) (hl : s + l ≤ 128) : BX6_places_122 (nI k) a2 (nI s) (nI l) k11 (x_row σ 5 31 0 0 v) = k11 (a2 - nI l) (x_row σ 5 31 0 0 (plV v k f s l)) := by
  have hv' : v (2752 + 28 * k + 2) = nI f := hv
  have e4 : (4 : Int32) + nI f = nI (4 + f) := nI_add 4 f
  have e16 : (16 : Int32) + nI f = nI (16 + f) := nI_add 16 f
  rw [BX6_places_122, m_packet_2, b_s, in_nI (by omega) (by omega), g_t, nI_clamp (by omega), row_rd, hv', l_v, e4, m_packetN, b_s, in_nI (by omega) (by omega), g_t, nI_clamp (by omega), row_set, l_v, e16, m_packetN, b_s, in_nI (by omega) (by omega), g_t, nI_clamp (by omega), row_set, l_v, m_packet_2, b_s, in_nI (by omega) (by omega), g_t, g_t, nI_clamp (by omega), row_rd, row_set, l_v, up_n _ _ (show 2752 + 28 * k + 2 ≠ 2752 + 28 * k + (16 + f) by omega), up_n _ _ (show 2752 + 28 * k + 2 ≠ 2752 + 28 * k + (4 + f) by omega), hv', nI_1, m_185 hl x_FU s _ (by omega) (by unfold x_FU; omega)]
  rfl
theorem pl_n {v : xV} {k f s l m : Nat} (h1 : ¬ (6336 + s ≤ m ∧ m < 6336 + (s + l))) (h2 : m ≠ 2752 + 28 * k + (4 + f)) (h3 : m ≠ 2752 + 28 * k + (16 + f)) (h4 : m ≠ 2752 + 28 * k + 2) : plV v k f s l m = v m := by
  rw [plV, if_neg h1, up_n _ _ h4, up_n _ _ h3, up_n _ _ h2]
def PF (τ τ' : xD) (v v' : xV) (g : Nat → Bool) (C k f last m : Nat) (s l : Nat → Nat) : Prop :=
  (∀ i, i < m → 1 ≤ l i ∧ s i + l i ≤ C ∧ ∀ c, s i ≤ c → c < s i + l i → g c = true) ∧
  (∀ i i' c, i < m → i' < m → s i ≤ c → c < s i + l i → s i' ≤ c → c < s i' + l i' → i = i') ∧
  (∀ c, (∃ i, i < m ∧ s i ≤ c ∧ c < s i + l i) → τ' 2 0 0 c = 1 ∧ v' (6336 + c) = nI (k + 1)) ∧
  (∀ c, (∀ i, i < m → ¬ (s i ≤ c ∧ c < s i + l i)) → τ' 2 0 0 c = τ 2 0 0 c ∧ v' (6336 + c) = v (6336 + c)) ∧
  (∀ i, i < m → τ' 3 0 0 (s i) = nI (l i) ∧ τ' 4 0 0 (s i) = if i + 1 < m then nI (s (i + 1)) else -1) ∧
  (∀ c, (∀ i, i < m → c ≠ s i) → τ' 3 0 0 c = τ 3 0 0 c ∧ ((c ≠ last ∨ m = 0) → τ' 4 0 0 c = τ 4 0 0 c)) ∧
  (0 < m → last < 128 → τ' 4 0 0 last = nI (s 0)) ∧
  (∀ K p r c, K ≠ 2 → K ≠ 3 → K ≠ 4 → τ' K p r c = τ K p r c) ∧
  (∀ i, i < m → v' (ik k (4 + (f + i))) = nI (s i) ∧ v' (ik k (16 + (f + i))) = nI (l i)) ∧
  v' (ik k 2) = nI (f + m) ∧
  (∀ i, i < 6336 → i ≠ ik k 2 → (∀ j, f ≤ j → j < f + m → i ≠ ik k (4 + j) ∧ i ≠ ik k (16 + j)) → v' i = v i)
theorem place_loop {C k : Nat} {num size : Int32} (hk : k < 128) : ∀ (B left f last : Nat) (g : Nat → Bool) (τ : xD) (v : xV) (n1 n2 : Nat), left ≤ B → f + left ≤ 12 → gC τ g C → gM v g C → left ≤ ct g C → v (ik k 2) = nI f → ((f = 0 ∧ last = 200) ∨ (0 < f ∧ last < 128 ∧ g last = false)) → B < n1 → B < n2 → ∃ m s l τ' v', nsum l m = left ∧ m ≤ left ∧ (1 ≤ left → 1 ≤ m) ∧ (∀ σ d a3, BX1_place_14 d num size n1 a3 (if f = 0 then -1 else nI last) (nI left) (nI f) (nI f) (va_up σ d τ) = BX1_place_111 d num size (if f = 0 ∧ 0 < m then nI (s 0) else a3) (nI (f + m)) (va_up σ d τ')) ∧ (∀ σ, BX6_places_11 (nI k) n2 (nI left) (x_row σ 5 31 0 0 v) = some ((), x_row σ 5 31 0 0 v')) ∧ PF τ τ' v v' g C k f last m s l := by
  intro B
  induction B with
  | zero =>
    intro left f last g τ v n1 n2 hB hf hc hm hfree hv hlast h1 h2
    have : left = 0 := by omega
    subst this
    obtain ⟨n1, rfl⟩ : ∃ n, n1 = n + 1 := ⟨n1 - 1, by omega⟩
    obtain ⟨n2, rfl⟩ : ∃ n, n2 = n + 1 := ⟨n2 - 1, by omega⟩
    refine ⟨0, fun _ => 0, fun _ => 0, τ, v, rfl, Nat.le_refl _, fun h => by omega, fun σ d a3 => ?_, fun σ => ?_, fun i hi => by omega, fun i i' c hi => by omega, fun c ⟨i, hi, _⟩ => by omega, fun c _ => ⟨rfl, rfl⟩, fun i hi => by omega, fun c _ => ⟨rfl, fun _ => rfl⟩, fun h => by omega, fun _ _ _ _ _ _ _ => rfl, fun i hi => by omega, hv, fun _ _ _ _ => rfl⟩
    · rw [if_neg (show ¬ (f = 0 ∧ 0 < 0) by omega), BX1_place_14]
      by_cases z : (12 : Int32) ≤ nI f
      · rw [if_pos z]; rfl
      · rw [if_neg z, if_pos (by decide)]; rfl
    · rw [BX6_places_11, if_pos (by decide)]
  | succ B ih =>
    intro left f last g τ v n1 n2 hB hf hc hm hfree hv hlast h1 h2
    by_cases hl0 : left = 0
    · subst hl0
      obtain ⟨n1, rfl⟩ : ∃ n, n1 = n + 1 := ⟨n1 - 1, by omega⟩
      obtain ⟨n2, rfl⟩ : ∃ n, n2 = n + 1 := ⟨n2 - 1, by omega⟩
      refine ⟨0, fun _ => 0, fun _ => 0, τ, v, rfl, Nat.le_refl _, fun h => by omega, fun σ d a3 => ?_, fun σ => ?_, fun i hi => by omega, fun i i' c hi => by omega, fun c ⟨i, hi, _⟩ => by omega, fun c _ => ⟨rfl, rfl⟩, fun i hi => by omega, fun c _ => ⟨rfl, fun _ => rfl⟩, fun h => by omega, fun _ _ _ _ _ _ _ => rfl, fun i hi => by omega, hv, fun _ _ _ _ => rfl⟩
      · rw [if_neg (show ¬ (f = 0 ∧ 0 < 0) by omega), BX1_place_14]
        by_cases z : (12 : Int32) ≤ nI f
        · rw [if_pos z]; rfl
        · rw [if_neg z, if_pos (by decide)]; rfl
      · rw [BX6_places_11, if_pos (by decide)]
    · obtain ⟨n1, rfl⟩ : ∃ n, n1 = n + 1 := ⟨n1 - 1, by omega⟩
      obtain ⟨n2, rfl⟩ : ∃ n, n2 = n + 1 := ⟨n2 - 1, by omega⟩
      have h8 := hm.2.1
      obtain ⟨s0, a1, a2, a3, a4⟩ := pick (k := k) hc hm (L := left) (by omega) (by omega) (rst_ex (ct_ex C (by omega))) x_FU 0 (-1) 0 (-1) (-1) (Or.inr (Or.inl ⟨rfl, rfl, rfl, rfl, fun c hc => by omega⟩)) (by omega) (by unfold x_FU; omega)
      have hrl : rl g C s0 = rn g (C - s0) s0 := by rw [rl, if_pos a2]
      have hr1 : 1 ≤ rl g C s0 := by rw [hrl]; exact rn_pos a1 a2
      have hr2 : rl g C s0 ≤ C - s0 := by rw [hrl]; exact rn_le g _ _
      generalize hl0e : min left (rl g C s0) = l0 at a4
      have hl01 : 1 ≤ l0 ∧ l0 ≤ left ∧ l0 ≤ rl g C s0 := by omega
      have hfr : ∀ c, s0 ≤ c → c < s0 + l0 → g c = true := fun c c1 c2 => by
        have := rn_free (g := g) (C - s0) s0 (c - s0) (by rw [← hrl]; omega)
        rwa [show s0 + (c - s0) = c by omega] at this
      have gs0 : g s0 = true := hfr s0 (by omega) (by omega)
      have hmin : i_min (nI left) (nI (rl g C s0)) = nI l0 := by
        unfold i_min
        by_cases z : rl g C s0 < left
        · rw [if_pos (nI_lt z (by omega)), ← hl0e, show min left (rl g C s0) = rl g C s0 by omega]
        · rw [if_neg (nI_nlt (by omega) (by omega)), ← hl0e, show min left (rl g C s0) = left by omega]
      -- the class's part behind the fragment
      obtain ⟨τ1, hτ, t2, t3, t3', t4, t4', t4l, tK⟩ : ∃ τ1 : xD, (∀ σ d a, BX1_place_14 d num size (n1 + 1) a (if f = 0 then -1 else nI last) (nI left) (nI f) (nI f) (va_up σ d τ) = BX1_place_14 d num size n1 (if f = 0 then nI s0 else a) (nI s0) (nI (left - l0)) (nI (f + 1)) (nI (f + 1)) (va_up σ d τ1)) ∧ (∀ c, τ1 2 0 0 c = if s0 ≤ c ∧ c < s0 + l0 then 1 else τ 2 0 0 c) ∧ τ1 3 0 0 s0 = nI l0 ∧ (∀ c, c ≠ s0 → τ1 3 0 0 c = τ 3 0 0 c) ∧ τ1 4 0 0 s0 = -1 ∧ (∀ c, c ≠ s0 → c ≠ last → τ1 4 0 0 c = τ 4 0 0 c) ∧ (last < 128 → τ1 4 0 0 last = nI s0) ∧ (∀ K p r c, K ≠ 2 → K ≠ 3 → K ≠ 4 → τ1 K p r c = τ K p r c) := by
        have hcom : ∀ σ d a, BX1_place_14 d num size (n1 + 1) a (if f = 0 then -1 else nI last) (nI left) (nI f) (nI f) (va_up σ d τ) = x_b (fX1_isCell d (if f = 0 then -1 else nI last) (va_up σ d (ocT τ s0 l0))) fun z13 s13 => if z13 = 0 then BX1_place_14 d num size n1 (nI s0) (nI s0) (nI (left - l0)) (nI (f + 1)) (nI (f + 1)) s13 else (x_g (x_in (if f = 0 then -1 else nI last) 128) (x_let (x_set s13 d 4 0 0 (if f = 0 then -1 else nI last : Int32).toNatClampNeg (nI s0)) fun s18 => BX1_place_14 d num size n1 a (nI s0) (nI (left - l0)) (nI (f + 1)) (nI (f + 1)) s18)) := fun σ d a => by
          have hcd : gC (va_up σ d τ d) g C := by rw [up_s]; exact hc
          have hocc : fX1_occupy d (nI s0) (nI l0) (va_up σ d τ) = some ((), va_up σ d (ocT τ s0 l0)) := c_occ (by omega) (by omega) x_FU s0 τ (by omega) (by unfold x_FU; omega)
          have hch : fX1_chooseRun d (nI left) (va_up σ d τ) = some (nI s0, va_up σ d τ) := a3 σ d
          rw [BX1_place_14, if_neg (show ¬ (12 : Int32) ≤ nI f from nI_ge (b := 12) (by omega) (by omega)), if_neg (nI_nle (by omega) (by omega)), hch, b_s, c_cell_t (by omega), b_s, if_neg (by decide), c_flen hcd (by omega), b_s, ← hrl, hmin, l_v, hocc, b_s, nI_subN (by omega), nI_1]
          simp only [l_v]
        rcases hlast with ⟨rfl, rfl⟩ | ⟨b1, b2, b3⟩
        · refine ⟨ocT τ s0 l0, fun σ d a => ?_, fun c => ?_, ?_, fun c hcn => ?_, ?_, fun c hcn _ => ?_, fun h => by omega, fun K p r c k2 k3 k4 => ?_⟩
          · rw [hcom, if_pos rfl, c_cell_f, b_s, if_pos rfl, if_pos rfl]
          · unfold ocT; rw [ds_n (by omega), ds_n (by omega), dr_s]
          · unfold ocT; rw [ds_n (by omega), ds_s]
          · unfold ocT; rw [ds_n (by omega), ds_n (by omega), dr_n (by omega)]
          · unfold ocT; rw [ds_s]
          · unfold ocT; rw [ds_n (by omega), ds_n (by omega), dr_n (by omega)]
          · unfold ocT; rw [ds_n (by omega), ds_n (by omega), dr_n (by omega)]
        · have hls : last ≠ s0 := fun e => by rw [e, gs0] at b3; exact absurd b3 (by decide)
          refine ⟨dset (ocT τ s0 l0) 4 0 0 last (nI s0), fun σ d a => ?_, fun c => ?_, ?_, fun c hcn => ?_, ?_, fun c hcn hcl => ?_, fun h => ds_s, fun K p r c k2 k3 k4 => ?_⟩
          · rw [hcom, if_neg (show ¬ f = 0 by omega), if_neg (show ¬ f = 0 by omega), c_cell_t b2, b_s, if_neg (by decide), in_nI b2 (by omega), g_t, nI_clamp (by omega), set_own, l_v]
          · rw [ds_n (by omega)]; unfold ocT; rw [ds_n (by omega), ds_n (by omega), dr_s]
          · rw [ds_n (by omega)]; unfold ocT; rw [ds_n (by omega), ds_s]
          · rw [ds_n (by omega)]; unfold ocT; rw [ds_n (by omega), ds_n (by omega), dr_n (by omega)]
          · rw [ds_n (by omega)]; unfold ocT; rw [ds_s]
          · rw [ds_n (by omega)]; unfold ocT; rw [ds_n (by omega), ds_n (by omega), dr_n (by omega)]
          · rw [ds_n (by omega)]; unfold ocT; rw [ds_n (by omega), ds_n (by omega), dr_n (by omega)]
      have hlg : last ≠ s0 ∧ (last < 128 → g last = false) := by
        rcases hlast with ⟨_, rfl⟩ | ⟨b1, b2, b3⟩
        · exact ⟨by omega, fun h => by omega⟩
        · exact ⟨fun e => by rw [e, gs0] at b3; exact absurd b3 (by decide), fun _ => b3⟩
      have hc1 : gC τ1 (msk g s0 l0) C := by
        refine ⟨by rw [tK _ _ _ _ (by omega) (by omega) (by omega)]; exact hc.1, h8, fun c hcC => ?_⟩
        rw [t2, msk]
        by_cases z : s0 ≤ c ∧ c < s0 + l0
        · rw [if_pos z, if_pos z]; decide
        · rw [if_neg z, if_neg z]; exact hc.2.2 c hcC
      have vm : ∀ c, plV v k f s0 l0 (6336 + c) = if s0 ≤ c ∧ c < s0 + l0 then nI (k + 1) else v (6336 + c) := fun c => by
        by_cases z : s0 ≤ c ∧ c < s0 + l0
        · rw [if_pos z, plV, if_pos (by omega)]
        · rw [if_neg z, pl_n (by omega) (by omega) (by omega) (by omega)]
      have hm1 : gM (plV v k f s0 l0) (msk g s0 l0) C := by
        refine ⟨by rw [pl_n (by omega) (by omega) (by omega) (by omega)]; exact hm.1, h8, fun c hcC => ?_⟩
        rw [vm, msk]
        by_cases z : s0 ≤ c ∧ c < s0 + l0
        · rw [if_pos z, if_pos z]
          exact ⟨fun y => absurd y (nI_ne0 (by omega) (by omega)), fun y => absurd y (by decide)⟩
        · rw [if_neg z, if_neg z]; exact hm.2.2 c hcC
      have hv1 : plV v k f s0 l0 (ik k 2) = nI (f + 1) := by rw [plV, if_neg (by simp only [ik]; omega), up_s]
      have hv4 : plV v k f s0 l0 (ik k (4 + f)) = nI s0 := by rw [plV, if_neg (by simp only [ik]; omega), up_n _ _ (by simp only [ik]; omega), up_n _ _ (by simp only [ik]; omega), up_s]
      have hv16 : plV v k f s0 l0 (ik k (16 + f)) = nI l0 := by rw [plV, if_neg (by simp only [ik]; omega), up_n _ _ (by simp only [ik]; omega), up_s]
      have hct := ct_msk g s0 l0 C
      obtain ⟨m', s', l', τ', v', q1, q2, q3, q4, q5, F1, F2, F3, F4, F5, F6, F7, F8, F9, F10, F11⟩ := ih (left - l0) (f + 1) s0 (msk g s0 l0) τ1 (plV v k f s0 l0) n1 n2 (by omega) (by omega) hc1 hm1 (by omega) hv1 (Or.inr ⟨by omega, by omega, by rw [msk, if_pos (by omega)]⟩) (by omega) (by omega)
      have mg : ∀ c, msk g s0 l0 c = true → g c = true ∧ ¬ (s0 ≤ c ∧ c < s0 + l0) := fun c h => by
        unfold msk at h
        by_cases z : s0 ≤ c ∧ c < s0 + l0
        · rw [if_pos z] at h; exact absurd h (by decide)
        · rw [if_neg z] at h; exact ⟨h, z⟩
      have sne : ∀ i, i < m' → s' i ≠ s0 ∧ s' i ≠ last := fun i hi => by
        obtain ⟨b1, b2, b3⟩ := F1 i hi
        have := mg _ (b3 (s' i) (by omega) (by omega))
        refine ⟨fun e => this.2 ⟨by omega, by omega⟩, fun e => ?_⟩
        rw [e] at this
        rw [hlg.2 (by omega)] at this
        exact absurd this.1 (by decide)
      refine ⟨m' + 1, cns s0 s', cns l0 l', τ', v', ?_, by omega, fun _ => by omega, fun σ d a => ?_, fun σ => ?_, fun i hi => ?_, fun i i' c hi hi' => ?_, fun c hcv => ?_, fun c hcv => ?_, fun i hi => ?_, fun c hcn => ?_, fun _ hla => ?_, fun K p r c k2 k3 k4 => ?_, fun i hi => ?_, ?_, fun i hi hi2 hij => ?_⟩
      · rw [nsum_cns, q1]; omega
      · have := q4 σ d (if f = 0 then nI s0 else a)
        rw [if_neg (show ¬ f + 1 = 0 by omega), if_neg (show ¬ (f + 1 = 0 ∧ 0 < m') by omega)] at this
        rw [hτ, this, show f + 1 + m' = f + (m' + 1) by omega]
        by_cases z : f = 0
        · rw [if_pos z, if_pos ⟨z, by omega⟩]; rfl
        · rw [if_neg z, if_neg (fun y => z y.1)]
      · rw [BX6_places_11, if_neg (nI_nle (by omega) (by omega))]
        show BX6_places_23 (nI k) (nI left) (BX6_places_11 (nI k) n2) x_FU (-1) (-1) (nI 0) (x_row σ 5 31 0 0 v) = _
        rw [a4, m_122 hk (by omega) hv (by omega), nI_subN (by omega), q5]
      · cases i with
        | zero => exact ⟨hl01.1, by show s0 + l0 ≤ C; omega, hfr⟩
        | succ i =>
          obtain ⟨b1, b2, b3⟩ := F1 i (by omega)
          exact ⟨b1, b2, fun c c1 c2 => (mg c (b3 c c1 c2)).1⟩
      · intro c1 c2 c3 c4
        cases i with
        | zero =>
          cases i' with
          | zero => rfl
          | succ i' =>
            have := mg c ((F1 i' (by omega)).2.2 c c3 c4)
            exact absurd ⟨c1, c2⟩ this.2
        | succ i =>
          cases i' with
          | zero =>
            have := mg c ((F1 i (by omega)).2.2 c c1 c2)
            exact absurd ⟨c3, c4⟩ this.2
          | succ i' =>
            have := F2 i i' c (by omega) (by omega) c1 c2 c3 c4
            omega
      · by_cases z : s0 ≤ c ∧ c < s0 + l0
        · obtain ⟨b1, b2⟩ := F4 c (fun i hi y => (mg c ((F1 i hi).2.2 c y.1 y.2)).2 z)
          rw [b1, b2, t2, vm, if_pos z, if_pos z]
          exact ⟨rfl, rfl⟩
        · obtain ⟨i, i1, i2⟩ := hcv
          cases i with
          | zero => exact absurd i2 z
          | succ i => exact F3 c ⟨i, by omega, i2⟩
      · have z : ¬ (s0 ≤ c ∧ c < s0 + l0) := hcv 0 (by omega)
        obtain ⟨b1, b2⟩ := F4 c (fun i hi => hcv (i + 1) (by omega))
        rw [b1, b2, t2, vm, if_neg z, if_neg z]
        exact ⟨rfl, rfl⟩
      · cases i with
        | zero =>
          show τ' 3 0 0 s0 = nI l0 ∧ τ' 4 0 0 s0 = if 0 + 1 < m' + 1 then nI (s' 0) else -1
          obtain ⟨b1, b2⟩ := F6 s0 (fun i hi e => (sne i hi).1 e.symm)
          refine ⟨by rw [b1, t3], ?_⟩
          by_cases z : m' = 0
          · rw [if_neg (by omega), b2 (Or.inr z), t4]
          · rw [if_pos (by omega), F7 (by omega) (by omega)]
        | succ i =>
          show τ' 3 0 0 (s' i) = nI (l' i) ∧ τ' 4 0 0 (s' i) = if i + 1 + 1 < m' + 1 then nI (s' (i + 1)) else -1
          obtain ⟨b1, b2⟩ := F5 i (by omega)
          refine ⟨b1, ?_⟩
          rw [b2]
          by_cases z : i + 1 < m'
          · rw [if_pos z, if_pos (by omega)]
          · rw [if_neg z, if_neg (by omega)]
      · have c0 : c ≠ s0 := hcn 0 (by omega)
        obtain ⟨b1, b2⟩ := F6 c (fun i hi => hcn (i + 1) (by omega))
        refine ⟨by rw [b1, t3' c c0], fun h => ?_⟩
        rw [b2 (Or.inl c0), t4' c c0 (by omega)]
      · show τ' 4 0 0 last = nI s0
        obtain ⟨b1, b2⟩ := F6 last (fun i hi e => (sne i hi).2 e.symm)
        rw [b2 (Or.inl hlg.1), t4l hla]
      · rw [F8 K p r c k2 k3 k4, tK K p r c k2 k3 k4]
      · cases i with
        | zero =>
          show v' (ik k (4 + f)) = nI s0 ∧ v' (ik k (16 + f)) = nI l0
          rw [F11 (ik k (4 + f)) (by simp only [ik]; omega) (by simp only [ik]; omega) (fun j j1 j2 => ⟨by simp only [ik]; omega, by simp only [ik]; omega⟩), F11 (ik k (16 + f)) (by simp only [ik]; omega) (by simp only [ik]; omega) (fun j j1 j2 => ⟨by simp only [ik]; omega, by simp only [ik]; omega⟩)]
          exact ⟨hv4, hv16⟩
        | succ i =>
          have := F9 i (by omega)
          rw [show f + 1 + i = f + (i + 1) by omega] at this
          exact this
      · rw [F10, show f + 1 + m' = f + (m' + 1) by omega]
      · rw [F11 i hi hi2 (fun j j1 j2 => hij j (by omega) (by omega))]
        obtain ⟨b1, b2⟩ := hij f (by omega) (by omega)
        exact pl_n (by omega) b1 b2 hi2
