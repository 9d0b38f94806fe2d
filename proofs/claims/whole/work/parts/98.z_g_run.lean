/-! ===== the text: run ===== -/
theorem Y_eq (σ : xS) (f : Nat → Int32) (τ : xD) : va_up (X4 σ f) 0 τ = X4 (va_up σ 0 τ) f := by
  unfold X4 x_row
  rw [up_n σ (j := 4) (k := 0) τ (by decide), up_comm _ _ _ (by decide)]
theorem X40_rd (σ : xS) (f : Nat → Int32) (τ : xD) (k : Nat) : va_up (X4 σ f) 0 τ 4 23 0 0 k = f k := by rw [up_n _ _ (by decide), X4_rd]
def fx (σ σ' : xS) : Prop := (∀ d, d ≠ 5 → σ' d = σ d) ∧ ∀ K, K = 33 ∨ K = 34 ∨ K = 35 → σ' 5 K = σ 5 K
theorem fx_refl (σ : xS) : fx σ σ := ⟨fun _ _ => rfl, fun _ _ => rfl⟩
theorem fx_trans {σ σ' σ'' : xS} (h : fx σ σ') (h' : fx σ' σ'') : fx σ σ'' := ⟨fun d hd => (h'.1 d hd).trans (h.1 d hd), fun K hK => (h'.2 K hK).trans (h.2 K hK)⟩
theorem X5_fr {σ σ' : xS} {h : Nat → Int32} {v' : xV} (hf : fr (x_row σ 5 30 0 0 h) σ') : x_row σ' 5 31 0 0 v' = X5 σ' (σ' 5 30 0 0) v' ∧ fx σ σ' ∧ ∀ k, k ≠ 7 → σ' 5 30 0 0 k = h k := by
  obtain ⟨f1, f2, f3⟩ := hf
  refine ⟨by unfold X5; rw [rowK_id], ⟨fun d hd => by rw [f1 d hd, rowK_d _ _ _ hd], fun K hK => by rw [f2 K hK, rowK_K _ _ _ (by omega)]⟩, fun k hk => by rw [f3 k hk, rowK_rd]⟩
theorem m_acts1 {σ : xS} {h : Nat → Int32} {v : xV} (h11 : h 11 = 1) (h10 : h 10 = -1) : fX6_acts (X5 σ h v) = some (1, X5 σ h v) := by
  rw [fX6_acts, X5_rd, X5_rd, h11, h10, if_neg (show ¬ (1 : Int32) = 0 by decide), if_neg (show ¬ (0 : Int32) ≤ -1 by decide)]
theorem m_actT {σ : xS} {h : Nat → Int32} {v : xV} {A : xS → Option (Unit × xS)} (h11 : h 11 = 1) (h10 : h 10 = -1) : actA A (X5 σ h v) = A (X5 σ h v) := by
  rw [actA, m_acts1 h11 h10, b_s, if_neg (show ¬ (1 : Int32) = 0 by decide)]
/-- what the reference does at an order -/
def RSt (A : xS → Option (Unit × xS)) (v v' : xV) (L : Nat) : Prop := ∀ σ h lo, h 11 = 1 → h 10 = -1 → h 12 = nI lo → ∃ σ' h', A (X5 σ h v) = some ((), X5 σ' h' v') ∧ fx σ σ' ∧ h' 12 = nI (lo + L) ∧ ∀ q, q ≠ 7 → q ≠ 12 → h' q = h q
theorem arr_loop {C P p r sz c : Nat} (hp : p < P) (hr : r < 3) (h1 : 1 ≤ sz) (h12 : sz ≤ 12) (hc : c ≤ 9) : ∀ (m k b : Nat) (τ : xD) (v : xV), k + m = c → RW τ v b C P → b + m + 5 < 2 ^ 31 → ∃ L τ' v', RW τ' v' (b + m) C P ∧ (∀ σ lo n, m < n → BX5_lossOfArrivals_16 0 p 0 p r (nI sz) (nI c) n (nI lo) (nI k) (va_up σ 0 τ) = some (nI (lo + L), va_up σ 0 τ')) ∧ (∀ n, m < n → RSt (BX6_order_155 (nI p) (nI sz) (nI r) (nI c) n (nI k)) v v' L) := by
  intro m
  induction m with
  | zero =>
    intro k b τ v e hW hb
    have : k = c := by omega
    subst this
    refine ⟨0, τ, v, hW, fun σ lo n hn => ?_, fun n hn σ h lo a1 a2 a3 => ⟨σ, h, ?_, fx_refl σ, a3, fun _ _ _ => rfl⟩⟩
    · obtain ⟨n, rfl⟩ : ∃ q, n = q + 1 := ⟨n - 1, by omega⟩
      rw [BX5_lossOfArrivals_16, if_pos (nI_le (Nat.le_refl _) (by omega))]; rfl
    · obtain ⟨n, rfl⟩ : ∃ q, n = q + 1 := ⟨n - 1, by omega⟩
      rw [BX6_order_155, if_pos (nI_le (Nat.le_refl _) (by omega))]
  | succ m ih =>
    intro k b τ v e hW hb
    obtain ⟨res, st, τ1, v1, kc, km, kW, -, -⟩ := S_arrive (p := p) (r := r) (sz := sz) hW (by omega) hp hr h1 h12
    obtain ⟨L, τ', v', g1, g2, g3⟩ := ih (k + 1) (b + 1) τ1 v1 (by omega) kW (by omega)
    have hk : ¬ nI c ≤ nI k := nI_ge (by omega) (by omega)
    have hlo : ∀ lo : Nat, nI lo + (if res = -6 then 1 else 0 : Int32) = nI (lo + if res = -6 then 1 else 0) := fun lo => by
      split
      · exact nI_1 lo
      · exact nI_add lo 0
    refine ⟨(if res = -6 then 1 else 0) + L, τ', v', by rw [show b + (m + 1) = b + 1 + m by omega]; exact g1, fun σ lo n hn => ?_, fun n hn σ h lo a1 a2 a3 => ?_⟩
    · obtain ⟨n, rfl⟩ : ∃ q, n = q + 1 := ⟨n - 1, by omega⟩
      have a := g2 σ (lo + if res = -6 then 1 else 0) n (by omega)
      rw [Nat.add_assoc, ← hlo, ← nI_1 k] at a
      rw [BX5_lossOfArrivals_16, if_neg hk, kc σ 0 (by decide), b_s, ← a]
      by_cases y : res = -6
      · rw [if_pos y, if_pos y]; rfl
      · rw [if_neg y, if_neg y, Int32.add_zero]; rfl
    · obtain ⟨n, rfl⟩ : ∃ q, n = q + 1 := ⟨n - 1, by omega⟩
      obtain ⟨σ1, t1, t2⟩ := km (x_row σ 5 30 0 0 h)
      obtain ⟨u1, u2, u3⟩ := X5_fr (v' := v1) t2
      rw [u1] at t1
      have t1' : fX6_arrives (nI (3 * p + r)) (nI sz) (X5 σ h v) = some (res, X5 σ1 (σ1 5 30 0 0) v1) := t1
      obtain ⟨σ2, h2, w1, w2, w3, w4⟩ := g3 n (by omega) σ1 (va_up (σ1 5 30 0 0) 12 (nI lo + if res = -6 then 1 else 0)) (lo + if res = -6 then 1 else 0) (by rw [up_n _ _ (by omega), u3 11 (by omega)]; exact a1) (by rw [up_n _ _ (by omega), u3 10 (by omega)]; exact a2) (by rw [up_s]; exact hlo lo)
      refine ⟨σ2, h2, ?_, fx_trans u2 w2, by rw [w3, Nat.add_assoc], fun q q1 q2 => by rw [w4 q q1 q2, up_n _ _ q2, u3 q q1]⟩
      rw [BX6_order_155, if_neg hk, m_acts1 a1 a2, b_s, if_neg (show ¬ (1 : Int32) = 0 by decide), q3, t1', b_s, X5_rd, a3, ← w1]
      by_cases y : res = -6
      · rw [if_pos y, if_pos y, X5_set, l_v, l_v, nI_1]
      · rw [if_neg y, if_neg y, X5_set, l_v, l_v, nI_1]
theorem tick_loop {b C P S : Nat} (hS : S ≤ 20) : ∀ (n i : Nat) (τ : xD) (v : xV), RW τ v b C P → i ≤ S → S < n + i → ∃ τ' v', (∀ σ f lo a k, f 7 = nI S → BX5_run_157 lo a k n (nI i) (va_up (X4 σ f) 0 τ) = k lo (a + 1) (va_up (X4 σ f) 0 τ')) ∧ (∀ σ x, ∃ y, BX6_ticking_4 (nI S) n x (nI i) (x_row σ 5 31 0 0 v) = some (y, x_row σ 5 31 0 0 v')) ∧ RW τ' v' b C P := by
  intro n
  induction n with
  | zero => intro i τ v h h1 h2; omega
  | succ n ih =>
    intro i τ v h h1 h2
    by_cases e : i < S
    · obtain ⟨m, τ1, v1, k1, k2, k3⟩ := S_tick h
      obtain ⟨τ', v', g1, g2, g3⟩ := ih (i + 1) τ1 v1 k3 (by omega) (by omega)
      refine ⟨τ', v', fun σ f lo a k hf => ?_, fun σ x => ?_, g3⟩
      · rw [BX5_run_157, X40_rd, hf, if_neg (nI_ge e (by omega)), k1 (X4 σ f) 0 (by decide), b_s, l_v, nI_1, g1 σ f lo a k hf]
      · obtain ⟨y, hy⟩ := g2 σ (x + nI m)
        exact ⟨y, by rw [BX6_ticking_4, if_neg (nI_ge e (by omega)), k2, b_s, l_v, l_v, nI_1, hy]⟩
    · have : i = S := by omega
      subst this
      refine ⟨τ, v, fun σ f lo a k hf => ?_, fun σ x => ⟨x, ?_⟩, h⟩
      · rw [BX5_run_157, X40_rd, hf, if_pos (nI_le (Nat.le_refl _) (by omega)), l_v]
      · rw [BX6_ticking_4, if_pos (nI_le (Nat.le_refl _) (by omega))]
section TXT5
variable {N : Nat → Nat} {len : Nat}
/-- what the class does at an order -/
def CSt (N : Nat → Nat) (len i j : Nat) (τ τ' : xD) (L : Nat) : Prop := ∀ σ f n lo a, CS σ N len i f → a ≤ i → ∃ f', CS σ N len j f' ∧ BX5_run_37 (n + 1) (nI lo) (nI a) (va_up (X4 σ f) 0 τ) = BX5_run_37 n (nI (lo + L)) (nI (a + 1)) (va_up (X4 σ f') 0 τ')
theorem c_more {σ : xS} {f : Nat → Int32} {τ : xD} {i : Nat} (h120 : len ≤ 120) (hi : i < len) (hC : CS σ N len i f) : fX4_hasMore (va_up (X4 σ f) 0 τ) = some (1, va_up (X4 σ f) 0 τ) := by
  rw [fX4_hasMore, X40_rd, X40_rd, hC.2.1, hC.2.2.1, if_neg (nI_ge hi (by omega))]
theorem CS_0 {σ : xS} {f : Nat → Int32} {τ : xD} {i : Nat} (hC : CS σ N len i f) : CS (va_up σ 0 τ) N len i f := ⟨fun j hj => by rw [up_n _ _ (by decide)]; exact hC.1 j hj, hC.2⟩
theorem CS_0' {σ : xS} {f : Nat → Int32} {τ : xD} {i : Nat} (hC : CS (va_up σ 0 τ) N len i f) : CS σ N len i f := ⟨fun j hj => by have := hC.1 j hj; rw [up_n _ _ (by decide)] at this; exact this, hC.2⟩
/-- up to the order's port -/
theorem c_run0 {i P j b C : Nat} {τ : xD} {v : xV} {Q : (Nat → Int32) → Prop} (h120 : len ≤ 120) (hi : i < len) (hW : RW τ v b C P) (oc : OC N len i P j Q) {σ : xS} {f : Nat → Int32} (hC : CS σ N len i f) {a : Nat} (ha : a ≤ i) : ∃ f', CS σ N len j f' ∧ Q f' ∧ (¬ (120 : Int32) ≤ nI a) ∧ fX4_readOrder (va_up (X4 σ f) 0 τ 0 0 0 0 2) (va_up (X4 σ f) 0 τ) = some ((), va_up (X4 σ f') 0 τ) := by
  obtain ⟨f', g1, g2, g3⟩ := oc (va_up σ 0 τ) f (CS_0 hC)
  refine ⟨f', CS_0' g2, g3, nI_ge (b := 120) (by omega) (by omega), ?_⟩
  rw [t_P hW.1 (X4 σ f) 0, Y_eq, g1, ← Y_eq]
theorem step_a {i P j b C p r s c : Nat} {τ : xD} {v : xV} (h120 : len ≤ 120) (hi : i < len) (hp : p < P) (hr : r < 3) (s1 : 1 ≤ s) (s2 : s ≤ 12) (c2 : c ≤ 9) (hW : RW τ v b C P) (hb : b + 20 < 2 ^ 31) (oc : OC N len i P j (fun f => f 4 = 97 ∧ f 5 = nI p ∧ f 6 = nI r ∧ f 7 = nI s ∧ f 8 = nI c)) : ∃ L τ' v', RW τ' v' (b + c) C P ∧ CSt N len i j τ τ' L ∧ RSt (BX6_order_155 (nI p) (nI s) (nI r) (nI c) x_FU 0) v v' L := by
  have h6 := hW.1.1.2.2.2.2.2.1
  obtain ⟨L, τ', v', g1, g2, g3⟩ := arr_loop hp hr s1 s2 c2 c 0 b τ v (by omega) hW (by omega)
  refine ⟨L, τ', v', g1, fun σ f n lo a hC ha => ?_, g3 x_FU (by unfold x_FU; omega)⟩
  obtain ⟨f1, k1, ⟨q4, q5, q6, q7, q8⟩, k3, k4⟩ := c_run0 h120 hi hW oc hC ha
  refine ⟨f1, k1, ?_⟩
  have e4 := (X40_rd σ f1 τ 4).trans q4
  have e5 := (X40_rd σ f1 τ 5).trans q5
  have e6 := (X40_rd σ f1 τ 6).trans q6
  have e7 := (X40_rd σ f1 τ 7).trans q7
  have e8 := (X40_rd σ f1 τ 8).trans q8
  have hla : fX5_lossOfArrivals (some (0, p)) (some (0, p, r)) (nI s) (nI c) (va_up (X4 σ f1) 0 τ) = some (nI L, va_up (X4 σ f1) 0 τ') := by
    rw [fX5_lossOfArrivals.eq_def]
    show x_g (ok2 (0, p)) (x_g (ok3 (0, p, r)) (BX5_lossOfArrivals_16 0 p 0 p r (nI s) (nI c) x_FU 0 0 (va_up (X4 σ f1) 0 τ))) = _
    rw [ok2_t (by decide) (by omega), g_t, ok3_t (by decide) (by omega) hr, g_t]
    have := g2 (X4 σ f1) 0 x_FU (by unfold x_FU; omega)
    rw [Nat.zero_add] at this
    exact this
  rw [BX5_run_37, if_neg k3, c_more h120 hi hC, b_s, if_neg (show ¬ (1 : Int32) = 0 by decide), k4, b_s, e5, c_portAt_t (t_P hW.1 _ 0) h6 hp, b_s]
  show x_g (ok2 (0, p)) _ = _
  rw [ok2_t (by decide) (by omega), g_t, e4, if_pos (show (97 : Int32) = 97 from rfl), e5, e6, c_queueAt_t (t_P hW.1 _ 0) h6 hp hr, b_s]
  show x_g (ok3 (0, p, r)) _ = _
  rw [ok3_t (by decide) (by omega) hr, g_t, e7, e8]
  show x_b (fX5_lossOfArrivals (some (0, p)) (some (0, p, r)) (nI s) (nI c) (va_up (X4 σ f1) 0 τ)) _ = _
  rw [hla, b_s, nI_add, l_v, nI_1, l_v]
theorem step_t {i P j b C s : Nat} {τ : xD} {v : xV} (h120 : len ≤ 120) (hi : i < len) (s2 : s ≤ 20) (hW : RW τ v b C P) (oc : OC N len i P j (fun f => f 4 = 116 ∧ f 5 = -1 ∧ f 7 = nI s)) : ∃ L τ' v', RW τ' v' b C P ∧ CSt N len i j τ τ' L ∧ RSt (actA (aT (nI s))) v v' L := by
  have h6 := hW.1.1.2.2.2.2.2.1
  obtain ⟨τ', v', g1, g2, g3⟩ := tick_loop s2 x_FU 0 τ v hW (by omega) (by unfold x_FU; omega)
  refine ⟨0, τ', v', g3, fun σ f n lo a hC ha => ?_, fun σ h lo a1 a2 a3 => ?_⟩
  · obtain ⟨f1, k1, ⟨q4, q5, q7⟩, k3, k4⟩ := c_run0 h120 hi hW oc hC ha
    refine ⟨f1, k1, ?_⟩
    have e4 := (X40_rd σ f1 τ 4).trans q4
    have e5 := (X40_rd σ f1 τ 5).trans q5
    rw [BX5_run_37, if_neg k3, c_more h120 hi hC, b_s, if_neg (show ¬ (1 : Int32) = 0 by decide), k4, b_s, e5, c_portAt_f (t_P hW.1 _ 0) (Or.inl (by decide)), b_s]
    show (if va_up (X4 σ f1) 0 τ 4 23 0 0 4 = 97 then _ else (if va_up (X4 σ f1) 0 τ 4 23 0 0 4 = 116 then BX5_run_157 (nI lo) (nI a) (BX5_run_37 n) x_FU (nI 0) (va_up (X4 σ f1) 0 τ) else _)) = _
    rw [e4, if_neg (show ¬ (116 : Int32) = 97 by decide), if_pos (show (116 : Int32) = 116 from rfl), g1 σ f1 _ _ _ q7, nI_1]
    rfl
  · obtain ⟨y, hy⟩ := g2 (x_row σ 5 30 0 0 h) 0
    refine ⟨σ, h, ?_, fx_refl σ, a3, fun _ _ _ => rfl⟩
    rw [m_actT a1 a2, aT, fX6_ticking]
    show x_b (BX6_ticking_4 (nI s) x_FU 0 (nI 0) (x_row (x_row σ 5 30 0 0 h) 5 31 0 0 v)) _ = _
    rw [hy, b_s]; rfl
theorem step_f {i P j b C p : Nat} {τ : xD} {v : xV} (h120 : len ≤ 120) (hi : i < len) (hp : p < P) (hW : RW τ v b C P) (oc : OC N len i P j (fun f => f 4 = 102 ∧ f 5 = nI p)) : ∃ L τ' v', RW τ' v' b C P ∧ CSt N len i j τ τ' L ∧ RSt (actA (aF (nI p))) v v' L := by
  have h6 := hW.1.1.2.2.2.2.2.1
  obtain ⟨r, τ', v', g1, g2, g3⟩ := S_flush hW hp
  refine ⟨0, τ', v', g3, fun σ f n lo a hC ha => ?_, fun σ h lo a1 a2 a3 => ?_⟩
  · obtain ⟨f1, k1, ⟨q4, q5⟩, k3, k4⟩ := c_run0 h120 hi hW oc hC ha
    refine ⟨f1, k1, ?_⟩
    have e4 := (X40_rd σ f1 τ 4).trans q4
    have e5 := (X40_rd σ f1 τ 5).trans q5
    rw [BX5_run_37, if_neg k3, c_more h120 hi hC, b_s, if_neg (show ¬ (1 : Int32) = 0 by decide), k4, b_s, e5, c_portAt_t (t_P hW.1 _ 0) h6 hp, b_s]
    show x_g (ok2 (0, p)) _ = _
    rw [ok2_t (by decide) (by omega), g_t, e4, if_neg (show ¬ (102 : Int32) = 97 by decide), if_neg (show ¬ (102 : Int32) = 116 by decide), if_pos (show (102 : Int32) = 102 from rfl)]
    show x_b (fX0_discardAll 0 0 p (va_up (X4 σ f1) 0 τ)) _ = _
    rw [g1, b_s, l_v, nI_1]
    rfl
  · refine ⟨σ, h, ?_, fx_refl σ, a3, fun _ _ _ => rfl⟩
    rw [m_actT a1 a2, aF]
    show x_b (fX6_flushes (nI p) (x_row (x_row σ 5 30 0 0 h) 5 31 0 0 v)) _ = _
    rw [g2, b_s]; rfl
theorem step_g {i P j b C p s : Nat} {τ : xD} {v : xV} (h120 : len ≤ 120) (hi : i < len) (hp : p < P) (s1 : 1 ≤ s) (s2 : s ≤ 32) (hW : RW τ v b C P) (hb : b + 20 < 2 ^ 31) (oc : OC N len i P j (fun f => f 4 = 103 ∧ f 5 = nI p ∧ f 7 = nI s)) : ∃ L τ' v', RW τ' v' (b + 1) C P ∧ CSt N len i j τ τ' L ∧ RSt (actA (aG (nI p) (nI s))) v v' L := by
  have h6 := hW.1.1.2.2.2.2.2.1
  obtain ⟨r, τ', v', g1, g2, g3⟩ := S_grant (x := nI s) hW (by omega) hp ⟨nI_le (a := 1) s1 (by omega), nI_le (b := 32) s2 (by omega)⟩
  refine ⟨0, τ', v', g3, fun σ f n lo a hC ha => ?_, fun σ h lo a1 a2 a3 => ?_⟩
  · obtain ⟨f1, k1, ⟨q4, q5, q7⟩, k3, k4⟩ := c_run0 h120 hi hW oc hC ha
    refine ⟨f1, k1, ?_⟩
    have e4 := (X40_rd σ f1 τ 4).trans q4
    have e5 := (X40_rd σ f1 τ 5).trans q5
    have e7 := (X40_rd σ f1 τ 7).trans q7
    rw [BX5_run_37, if_neg k3, c_more h120 hi hC, b_s, if_neg (show ¬ (1 : Int32) = 0 by decide), k4, b_s, e5, c_portAt_t (t_P hW.1 _ 0) h6 hp, b_s]
    show x_g (ok2 (0, p)) _ = _
    rw [ok2_t (by decide) (by omega), g_t, e4, if_neg (show ¬ (103 : Int32) = 97 by decide), if_neg (show ¬ (103 : Int32) = 116 by decide), if_neg (show ¬ (103 : Int32) = 102 by decide), BX5_run_216.eq_def]
    show x_g (ok2 (0, p)) (if va_up (X4 σ f1) 0 τ 4 23 0 0 4 = 103 then x_b (fX0_giveGrant 0 0 p (va_up (X4 σ f1) 0 τ 4 23 0 0 5) (va_up (X4 σ f1) 0 τ 4 23 0 0 7) (va_up (X4 σ f1) 0 τ)) _ else _) = _
    rw [ok2_t (by decide) (by omega), g_t, e4, if_pos (show (103 : Int32) = 103 from rfl), e5, e7, g1, b_s, l_v, nI_1]
    rfl
  · obtain ⟨σ1, t1, t2⟩ := g2 (x_row σ 5 30 0 0 h)
    obtain ⟨u1, u2, u3⟩ := X5_fr (v' := v') t2
    refine ⟨σ1, σ1 5 30 0 0, ?_, u2, by rw [u3 12 (by omega)]; exact a3, fun q q1 _ => u3 q q1⟩
    rw [m_actT a1 a2, aG]
    show x_b (fX6_grant (nI p) (nI s) (x_row (x_row σ 5 30 0 0 h) 5 31 0 0 v)) _ = _
    rw [t1, b_s, u1]
theorem step_both {i P j b C : Nat} {τ : xD} {v : xV} (h120 : len ≤ 120) (hi : i < len) (hj : i < j) (hW : RW τ v b C P) (hb : b + 20 < 2 ^ 31) (hb2 : b + 2 * (j - i) < 2 ^ 31) (hS : ST N len P i j) : ∃ L τ' v', RW τ' v' (b + 2 * (j - i)) C P ∧ CSt N len i j τ τ' L ∧ (∀ σ h lo, MS σ N len i h → h 11 = 1 → h 12 = nI lo → ∃ σ' h', fX6_order (X5 σ h v) = some ((), X5 σ' h' v') ∧ fx σ σ' ∧ MS σ' N len j h' ∧ h' 11 = 1 ∧ h' 12 = nI (lo + L)) := by
  have hv1 := hW.1.1.2.2.2.1
  have key : ∀ (A : xS → Option (Unit × xS)) (v' : xV) (L : Nat), OM N len i P j A → RSt A v v' L → (∀ σ h lo, MS σ N len i h → h 11 = 1 → h 12 = nI lo → ∃ σ' h', fX6_order (X5 σ h v) = some ((), X5 σ' h' v') ∧ fx σ σ' ∧ MS σ' N len j h' ∧ h' 11 = 1 ∧ h' 12 = nI (lo + L)) := fun A v' L om rs σ h lo hM h11 h12 => by
    obtain ⟨σ', h', g1, g2, g3, g4⟩ := rs σ (va_up h 9 (nI j)) lo (by rw [up_n _ _ (by omega)]; exact h11) (by rw [up_n _ _ (by omega)]; exact hM.2.2.2) (by rw [up_n _ _ (by omega)]; exact h12)
    refine ⟨σ', h', by rw [om σ h v hM hv1, g1], g2, ⟨fun q hq => by rw [g2.2 35 (by omega)]; exact hM.1 q hq, ?_, ?_, ?_⟩, ?_, g3⟩
    · rw [g4 5 (by omega) (by omega), up_n _ _ (by omega)]; exact hM.2.1
    · rw [g4 9 (by omega) (by omega), up_s]
    · rw [g4 10 (by omega) (by omega), up_n _ _ (by omega)]; exact hM.2.2.2
    · rw [g4 11 (by omega) (by omega), up_n _ _ (by omega)]; exact h11
  rcases hS with ⟨p, r, s, c, hp, hr, s1, s2, c1, c2, h5, oc, om⟩ | ⟨p, hp, oc, om⟩ | ⟨p, s, hp, s1, s2, oc, om⟩ | ⟨s, s1, s2, oc, om⟩
  · obtain ⟨L, τ', v', g1, g2, g3⟩ := step_a h120 hi hp hr s1 s2 c2 hW hb oc
    exact ⟨L, τ', v', RW_mono (by omega) (by omega) g1, g2, key _ v' L om g3⟩
  · obtain ⟨L, τ', v', g1, g2, g3⟩ := step_f h120 hi hp hW oc
    exact ⟨L, τ', v', RW_mono (by omega) (by omega) g1, g2, key _ v' L om g3⟩
  · obtain ⟨L, τ', v', g1, g2, g3⟩ := step_g h120 hi hp s1 s2 hW hb oc
    exact ⟨L, τ', v', RW_mono (by omega) (by omega) g1, g2, key _ v' L om g3⟩
  · obtain ⟨L, τ', v', g1, g2, g3⟩ := step_t h120 hi s2 hW oc
    exact ⟨L, τ', v', RW_mono (by omega) (by omega) g1, g2, key _ v' L om g3⟩
theorem run_both {P C : Nat} (h120 : len ≤ 120) : ∀ m i, CL N len P m i → i ≤ len → ∀ b τ v, RW τ v b C P → b + 2 * (len - i) + 500 < 2 ^ 31 → ∃ L τ' v', RW τ' v' (b + 2 * (len - i)) C P ∧ (∀ σ f n lo a, CS σ N len i f → m < n → a ≤ i → ∃ f', BX5_run_37 n (nI lo) (nI a) (va_up (X4 σ f) 0 τ) = some (nI (lo + L), va_up (X4 σ f') 0 τ') ∧ f' 1 = nI len) ∧ (∀ σ h n lo, MS σ N len i h → h 11 = 1 → h 12 = nI lo → m < n → ∃ σ' h', BX6_reads_20 n (X5 σ h v) = some ((), X5 σ' h' v') ∧ fx σ σ' ∧ h' 5 = nI len ∧ h' 12 = nI (lo + L)) := by
  have hend : ∀ m b τ v, RW τ v b C P → ∃ L τ' v', RW τ' v' (b + 2 * (len - len)) C P ∧ (∀ σ f n lo a, CS σ N len len f → m < n → a ≤ len → ∃ f', BX5_run_37 n (nI lo) (nI a) (va_up (X4 σ f) 0 τ) = some (nI (lo + L), va_up (X4 σ f') 0 τ') ∧ f' 1 = nI len) ∧ (∀ σ h n lo, MS σ N len len h → h 11 = 1 → h 12 = nI lo → m < n → ∃ σ' h', BX6_reads_20 n (X5 σ h v) = some ((), X5 σ' h' v') ∧ fx σ σ' ∧ h' 5 = nI len ∧ h' 12 = nI (lo + L)) := fun m b τ v hW => by
    refine ⟨0, τ, v, by rw [Nat.sub_self]; exact hW, fun σ f n lo a hC hn ha => ⟨f, ?_, hC.2.1⟩, fun σ h n lo hM h11 h12 hn => ⟨σ, h, ?_, fx_refl σ, hM.2.1, h12⟩⟩
    · obtain ⟨n, rfl⟩ : ∃ k, n = k + 1 := ⟨n - 1, by omega⟩
      rw [BX5_run_37, fX4_hasMore, X40_rd, X40_rd, hC.2.1, hC.2.2.1, if_pos (show nI len ≤ nI len from nI_le (by omega) (by omega)), b_s, if_pos (show (0 : Int32) = 0 from rfl)]
      split <;> rfl
    · obtain ⟨n, rfl⟩ : ∃ k, n = k + 1 := ⟨n - 1, by omega⟩
      rw [BX6_reads_20, X5_rd, X5_rd, hM.2.1, hM.2.2.1, if_pos (show nI len ≤ nI len from nI_le (by omega) (by omega))]
  intro m
  induction m with
  | zero =>
    intro i hc hi b τ v hW hb
    have : i = len := hc
    subst this
    exact hend 0 b τ v hW
  | succ m ih =>
    intro i hc hi b τ v hW hb
    rcases hc with rfl | ⟨j, j1, j2, hS, hcl⟩
    · exact hend (m + 1) b τ v hW
    · obtain ⟨L1, τ1, v1, g1, g2, g3⟩ := step_both h120 (by omega) j1 hW (by omega) (by omega) hS
      obtain ⟨L, τ', v', k1, k2, k3⟩ := ih j hcl j2 (b + 2 * (j - i)) τ1 v1 g1 (by omega)
      refine ⟨L1 + L, τ', v', by rw [show b + 2 * (len - i) = b + 2 * (j - i) + 2 * (len - j) by omega]; exact k1, fun σ f n lo a hC hn ha => ?_, fun σ h n lo hM h11 h12 hn => ?_⟩
      · obtain ⟨n, rfl⟩ : ∃ k, n = k + 1 := ⟨n - 1, by omega⟩
        obtain ⟨f1, q1, q2⟩ := g2 σ f n lo a hC ha
        obtain ⟨f', w1, w2⟩ := k2 σ f1 n (lo + L1) (a + 1) q1 (by omega) (by omega)
        exact ⟨f', by rw [q2, w1, Nat.add_assoc], w2⟩
      · obtain ⟨n, rfl⟩ : ∃ k, n = k + 1 := ⟨n - 1, by omega⟩
        obtain ⟨σ1, h1, q1, q2, q3, q4, q5⟩ := g3 σ h lo hM h11 h12
        obtain ⟨σ', h', w1, w2, w3, w4⟩ := k3 σ1 h1 n (lo + L1) q3 q4 q5 (by omega)
        refine ⟨σ', h', ?_, fx_trans q2 w2, w3, by rw [w4, Nat.add_assoc]⟩
        rw [BX6_reads_20, X5_rd, X5_rd, X5_rd, hM.2.1, hM.2.2.1, hM.2.2.2, if_neg (nI_ge (by omega) (by omega)), if_neg (show ¬ (0 : Int32) ≤ -1 by decide), q1, b_s, w1]
end TXT5
theorem xp50 : xP50 Inv := by
  intro n σ hI hn
  obtain ⟨C, P, hW⟩ := RW_of hI hn
  obtain ⟨hP5, hP0, h1, h6⟩ := w_P hW
  obtain ⟨-, -, htx, hpri⟩ := hI (by omega)
  obtain ⟨N, len, hT, h4, h5, e4, e5⟩ := tx_N htx
  have h120 := hT.1
  have hc0 : fX4_findFault (nI P) σ = BX4_findFault_6 (nI P) x_FU (nI 0) (X4 σ (va_up (va_up (σ 4 23 0 0) 2 0) 3 (-1))) := by
    have := c_rew σ (σ 4 23 0 0)
    rw [X4_id] at this
    rw [fX4_findFault, this, b_s]; rfl
  have hCS := rew_CS (f := σ 4 23 0 0) h4 e4
  rcases ff_both hT h1 h6 len 0 (by omega) (by omega) with ⟨pos, hpos, kc, km⟩ | ⟨hcl, kc, km⟩
  · obtain ⟨f', g1, g2⟩ := kc σ _ x_FU 0 hCS (by unfold x_FU; omega) (by omega)
    have hm0 : fX6_reads 0 (X4 σ f') = BX6_reads_20 x_FU (X5 (X4 σ f') (hst (σ 5 30 0 0) 0) (vv (X4 σ f'))) := by
      have := m_rds (σ := X4 σ f') (h := X4 σ f' 5 30 0 0) (v := vv (X4 σ f')) (a := 0) rfl
      rw [X5_id] at this
      rw [this, X4_d _ _ (by decide)]
    obtain ⟨h', k1, k2⟩ := km (X4 σ f') _ (vv (X4 σ f')) x_FU (hst_MS (h := σ 5 30 0 0) (a := 0) (fun j hj => by rw [X4_d _ _ (by decide)]; exact h5 j hj) e5) (by unfold vv; rw [X4_d _ _ (by decide)]; exact hP5) hst_v.1 (by unfold x_FU; omega)
    refine ⟨-1000 - nI pos, X4 σ f', X5 (X4 σ f') h' (vv (X4 σ f')), ?_, ?_, Inv_scan hT hI hn h4 h5 g2 (by rw [k2.2 5 (by omega) (by omega), hst_v.2.2]; exact e5)⟩
    · rw [fX5_run, hP0, hc0, g1, b_s, if_neg (nI_nm1 (by omega))]
    · rw [fX6_run, hm0, k1, b_s, X5_rd, k2.1, if_neg (nI_nn (by omega))]
  · obtain ⟨f1, g1, g2⟩ := kc σ _ x_FU 0 hCS (by unfold x_FU; omega) (by omega)
    obtain ⟨L, τ', v', r1, r2, r3⟩ := run_both (C := C) h120 len 0 hcl (by omega) (1000 * n) (σ 0) (vv σ) hW (by omega)
    have hCS2 := rew_CS (σ := σ) (f := f1) h4 g2
    obtain ⟨f2, t1, t2⟩ := r2 σ _ x_FU 0 0 hCS2 (by unfold x_FU; omega) (by omega)
    have e0 : va_up (X4 σ (va_up (va_up f1 2 0) 3 (-1))) 0 (σ 0) = X4 σ (va_up (va_up f1 2 0) 3 (-1)) := by
      have := up_id (X4 σ (va_up (va_up f1 2 0) 3 (-1))) 0
      rw [X4_d _ _ (by decide)] at this
      exact this
    rw [e0, Nat.zero_add] at t1
    have ed : ∀ d, d ≠ 0 → d ≠ 4 → va_up (X4 σ f2) 0 τ' d = σ d := fun d d0 d4 => by rw [up_n _ _ d0, X4_d _ _ d4]
    have hm0 : fX6_reads 0 (va_up (X4 σ f2) 0 τ') = BX6_reads_20 x_FU (X5 (va_up (X4 σ f2) 0 τ') (hst (σ 5 30 0 0) 0) (vv σ)) := by
      have := m_rds (σ := va_up (X4 σ f2) 0 τ') (h := va_up (X4 σ f2) 0 τ' 5 30 0 0) (v := vv (va_up (X4 σ f2) 0 τ')) (a := 0) rfl
      rw [X5_id] at this
      rw [this]
      unfold vv
      rw [ed 5 (by decide) (by decide)]
    have hC5 : C5 (va_up (X4 σ f2) 0 τ') N len := fun j hj => by rw [ed 5 (by decide) (by decide)]; exact h5 j hj
    obtain ⟨h2, k1, k2, k3⟩ := km (va_up (X4 σ f2) 0 τ') _ (vv σ) x_FU (hst_MS (h := σ 5 30 0 0) (a := 0) hC5 e5) hP5 hst_v.1 (by unfold x_FU; omega)
    obtain ⟨σ', h3, w1, w2, w3, w4⟩ := r3 (va_up (X4 σ f2) 0 τ') _ x_FU 0 (hst_MS (h := h2) (a := 1) hC5 (by rw [k3 5 (by omega), hst_v.2.2]; exact e5)) hst_v.1 hst_v.2.1 (by unfold x_FU; omega)
    rw [Nat.zero_add] at w4
    have sd : ∀ d, d ≠ 5 → X5 σ' h3 v' d = va_up (X4 σ f2) 0 τ' d := fun d hd => by unfold X5; rw [rowK_d _ _ _ hd, rowK_d _ _ _ hd, w2.1 d hd]
    have sK : ∀ K, K = 33 ∨ K = 34 ∨ K = 35 → X5 σ' h3 v' 5 K = σ 5 K := fun K hK => by unfold X5; rw [rowK_K _ _ _ (by omega), rowK_K _ _ _ (by omega), w2.2 K hK, ed 5 (by decide) (by decide)]
    have s4 : X5 σ' h3 v' 4 = X4 σ f2 4 := by rw [sd 4 (by decide), up_n _ _ (by decide)]
    refine ⟨nI L, va_up (X4 σ f2) 0 τ', X5 σ' h3 v', ?_, ?_, Inv_g hI hn (τ' := τ') (v' := v') (by rw [sd 0 (by decide), up_s]) (X5_31 _ _ _) (by rw [sd 2 (by decide), ed 2 (by decide) (by decide)]) (by rw [sd 3 (by decide), ed 3 (by decide) (by decide)]) (fun p r p1 p2 => by rw [sd 1 (by decide), ed 1 (by decide) (by decide)]; exact hpri 1 p r (by decide) p1 p2) (by rw [s4, X4_22]) (sK 33 (by omega)) (sK 34 (by omega)) (tx_X hT (fun j hj => by rw [s4, X4_24]; exact h4 j hj) (fun j hj => by rw [sK 35 (by omega)]; exact h5 j hj) (by rw [s4, X4_rd]; exact t2) (by rw [X5_rd]; exact w3)) (RW_RR (RW_mono (by omega) (by omega) r1)) r1.2.2.2⟩
    · rw [fX5_run, hP0, hc0, g1, b_s, if_pos (show (-1 : Int32) = -1 from rfl), c_rew, b_s]
      exact t1
    · rw [fX6_run, hm0, k1, b_s, X5_rd, k2, if_pos (show (-1 : Int32) < 0 by decide), m_rds rfl, w1, b_s, X5_rd, w4]
