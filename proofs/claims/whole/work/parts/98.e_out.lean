/-! ===== a packet leaves: both sides ===== -/
theorem cell_inj {v : xV} {C k k' : Nat} (hM : MX v C) (hk : k < 128) (hu : Us v k) (hk' : k' < 128) (hu' : Us v k') (h : Fs v k 0 = Fs v k' 0) : k = k' := by
  obtain ⟨-, -, -, -, xK, -, -, xF, -⟩ := hM
  have a := xK k hk hu
  have a' := xK k' hk' hu'
  have l := (a.2.2.2.2.2.2.1 0 (by omega)).2.2.1
  have l' := (a'.2.2.2.2.2.2.1 0 (by omega)).2.2.1
  have e := xF k 0 (Fs v k 0) hk hu (by omega) (by omega) (by omega)
  have e' := xF k' 0 (Fs v k 0) hk' hu' (by omega) (by omega) (by omega)
  rw [e] at e'
  have := nIeq (by omega) (by omega) e'
  omega
theorem lv_cell {v : xV} {q j C : Nat} (h : LO v q j C) (i : Nat) : cellAt (lvV v q j C) q i = cellAt v q (skp j i) := by
  have b := LO_L h
  unfold cellAt
  rw [lv_Ln h]
  by_cases z : i < Ln v q - 1
  · have := skp_lt (j := j) z
    have e := (h.1.2.1 q _ h.2.1 this).2.1
    rw [if_pos z, if_pos this, lv_Sl h z, lv_Fs h e (by omega)]
  · have : ¬ skp j i < Ln v q := by
      have := h.2.2.1
      unfold skp; split <;> omega
    rw [if_neg z, if_neg this]
theorem lv_cell' {v : xV} {q j C q' : Nat} (h : LO v q j C) (hq' : q' < 18) (hn : q' ≠ q) (i : Nat) : cellAt (lvV v q j C) q' i = cellAt v q' i := by
  have b := h.1.1 q' hq'
  unfold cellAt
  rw [lv_Ln' h hq' hn]
  by_cases z : i < Ln v q'
  · have e := (h.1.2.1 q' _ hq' z).2.1
    rw [if_pos z, if_pos z, lv_Sl' h hq' (by omega) hn, lv_Fs h e (by omega)]
  · rw [if_neg z, if_neg z]
/-- the class's part behind a packet's leaving, before it is settled -/
def ot0 (τ : xD) (p r : Nat) (s l : Nat → Nat) (m : Nat) : xD := rlT (lqT (gbT τ p r (τ 6 0 0 (s 0))) p r (τ 8 0 0 (s 0)) (τ 9 0 0 (s 0))) s l m
theorem ot0_n {τ : xD} {p r : Nat} {s l : Nat → Nat} {m K p' r' k : Nat} (h : K ≠ 16 ∨ p' ≠ p ∨ r' ≠ r ∨ (k ≠ 10 ∧ k ≠ 11 ∧ k ≠ 12 ∧ k ≠ 13 ∧ k ≠ 14 ∧ k ≠ 15)) (h2 : K ≠ 2 ∧ K ≠ 8 ∧ K ≠ 9) (h3 : K ≠ 5 ∨ p' ≠ 0 ∨ r' ≠ 0 ∨ k ≠ s 0) : ot0 τ p r s l m K p' r' k = τ K p' r' k := by
  unfold ot0 rlT
  rw [ds_n (by omega), dr_n (by omega), lq_n (by omega) (by omega), gb_n (by omega)]
theorem ot0_5 {τ : xD} {p r : Nat} {s l : Nat → Nat} {m : Nat} : ot0 τ p r s l m 5 0 0 (s 0) = -1 := by
  unfold ot0 rlT; rw [ds_s]
theorem ot0_2 {τ : xD} {p r : Nat} {s l : Nat → Nat} {m c : Nat} : ot0 τ p r s l m 2 0 0 c = if cov s l m c = true then 0 else τ 2 0 0 c := by
  unfold ot0 rlT; rw [ds_n (by omega), dr_s, lq_n (by omega) (by omega), gb_n (by omega)]
theorem ot0_8 {τ : xD} {p r : Nat} {s l : Nat → Nat} {m c : Nat} : ot0 τ p r s l m 8 0 0 c = if τ 9 0 0 (s 0) ≠ -1 ∧ c = (τ 9 0 0 (s 0)).toNatClampNeg then τ 8 0 0 (s 0) else τ 8 0 0 c := by
  unfold ot0 rlT
  rw [ds_n (by omega), dr_n (by omega), lqT, ds_n (by omega), lqB]
  by_cases z : τ 9 0 0 (s 0) = -1
  · rw [if_pos z, if_neg (fun y => y.1 z), ds_n (by omega), lqA_n (by omega) (by omega), gb_n (by omega)]
  · rw [if_neg z]
    by_cases y : c = (τ 9 0 0 (s 0)).toNatClampNeg
    · rw [if_pos ⟨z, y⟩, y, ds_s]
    · rw [if_neg (fun w => y w.2), ds_n (by omega), lqA_n (by omega) (by omega), gb_n (by omega)]
theorem ot0_9 {τ : xD} {p r : Nat} {s l : Nat → Nat} {m c : Nat} : ot0 τ p r s l m 9 0 0 c = if τ 8 0 0 (s 0) ≠ -1 ∧ c = (τ 8 0 0 (s 0)).toNatClampNeg then τ 9 0 0 (s 0) else τ 9 0 0 c := by
  unfold ot0 rlT
  rw [ds_n (by omega), dr_n (by omega), lqT, ds_n (by omega), lqB_n (by omega) (by omega), lqA]
  by_cases z : τ 8 0 0 (s 0) = -1
  · rw [if_pos z, if_neg (fun y => y.1 z), ds_n (by omega), gb_n (by omega)]
  · rw [if_neg z]
    by_cases y : c = (τ 8 0 0 (s 0)).toNatClampNeg
    · rw [if_pos ⟨z, y⟩, y, ds_s]
    · rw [if_neg (fun w => y w.2), ds_n (by omega), gb_n (by omega)]
theorem ot0_13 {τ : xD} {p r : Nat} {s l : Nat → Nat} {m : Nat} : ot0 τ p r s l m 16 p r 13 = if τ 8 0 0 (s 0) = -1 then τ 9 0 0 (s 0) else τ 16 p r 13 := by
  unfold ot0 rlT
  rw [ds_n (by omega), dr_n (by omega), lqT, ds_n (by omega), lqB_n (by omega) (by omega), lqA]
  by_cases z : τ 8 0 0 (s 0) = -1
  · rw [if_pos z, if_pos z, ds_s]
  · rw [if_neg z, if_neg z, ds_n (by omega), gb_n (by omega)]
theorem ot0_14 {τ : xD} {p r : Nat} {s l : Nat → Nat} {m : Nat} : ot0 τ p r s l m 16 p r 14 = if τ 9 0 0 (s 0) = -1 then τ 8 0 0 (s 0) else τ 16 p r 14 := by
  unfold ot0 rlT
  rw [ds_n (by omega), dr_n (by omega), lqT, ds_n (by omega), lqB]
  by_cases z : τ 9 0 0 (s 0) = -1
  · rw [if_pos z, if_pos z, ds_s]
  · rw [if_neg z, if_neg z, ds_n (by omega), lqA_n (by omega) (by omega), gb_n (by omega)]
theorem ot0_15 {τ : xD} {p r : Nat} {s l : Nat → Nat} {m : Nat} : ot0 τ p r s l m 16 p r 15 = τ 16 p r 15 - 1 := by
  unfold ot0 rlT
  rw [ds_n (by omega), dr_n (by omega), lqT, ds_s, gb_n (by omega)]
theorem ot0_10 {τ : xD} {p r : Nat} {s l : Nat → Nat} {m k : Nat} (hk : k = 10 ∨ k = 11 ∨ k = 12) : ot0 τ p r s l m 16 p r k = gbT τ p r (τ 6 0 0 (s 0)) 16 p r k := by
  unfold ot0 rlT
  rw [ds_n (by omega), dr_n (by omega), lq_n (by omega) (by omega)]
theorem RX_out {τ : xD} {v : xV} {C p r j : Nat} (h : LO v (3 * p + r) j C) (hX : RX τ v C) (hp : p < 6) (hr : r < 3) : RX (ot0 τ p r (Fs v (Sl v (3 * p + r) j)) (Fl v (Sl v (3 * p + r) j)) (Pn v (Sl v (3 * p + r) j))) (lvV v (3 * p + r) j C) C := by
  obtain ⟨xQ, xK, xN, xM, xz⟩ := hX
  have hMX := h.1
  obtain ⟨yL, yE, yI, yU, yK, yJ, yM, yF, yD⟩ := h.1
  have hkk := LO_k h
  have hC := h.2.2.2
  have hq : 3 * p + r < 18 := h.2.1
  have hj := h.2.2.1
  have hL := LO_L h
  have hPn : ∀ {k}, k < 128 → Us v k → Pn v k ≤ 12 ∧ 1 ≤ Pn v k := fun a b => ⟨(yK _ a b).2.2.2.2.2.1, (yK _ a b).2.2.2.2.1⟩
  have cl : ∀ q' i, q' < 18 → i < Ln v q' → Fs v (Sl v q' i) 0 < 128 := fun q' i h1 h2 => by
    have e := yE q' i h1 h2
    have := (yK _ e.2.1 e.2.2).2.2.2.2.2.2.1 0 (by have := hPn e.2.1 e.2.2; omega)
    omega
  -- neighbours of the packet
  obtain ⟨w1, w2, w3⟩ := xQ p r hp hr
  obtain ⟨w9, w8⟩ := w3 j hj
  have t9 : τ 9 0 0 (Fs v (Sl v (3 * p + r) j) 0) = cellAt v (3 * p + r) (j + 1) := w9
  have t8 : τ 8 0 0 (Fs v (Sl v (3 * p + r) j) 0) = if j = 0 then -1 else cellAt v (3 * p + r) (j - 1) := w8
  have dis : ∀ q' i, q' < 18 → i < Ln v q' → ∀ i0, i0 < Ln v (3 * p + r) → Fs v (Sl v q' i) 0 = Fs v (Sl v (3 * p + r) i0) 0 → q' = 3 * p + r ∧ i = i0 := fun q' i h1 h2 i0 h3 e => by
    have a := yE q' i h1 h2
    have b := yE (3 * p + r) i0 hq h3
    exact yI _ _ _ _ h1 h2 hq h3 (cell_inj hMX a.2.1 a.2.2 b.2.1 b.2.2 e)
  have m9 : ∀ q' i, q' < 18 → i < Ln v q' → (τ 9 0 0 (Fs v (Sl v (3 * p + r) j) 0) ≠ -1 ∧ Fs v (Sl v q' i) 0 = (τ 9 0 0 (Fs v (Sl v (3 * p + r) j) 0)).toNatClampNeg ↔ q' = 3 * p + r ∧ i = j + 1) := fun q' i h1 h2 => by
    rw [t9]
    by_cases z : j + 1 < Ln v (3 * p + r)
    · have c := cl _ _ hq z
      rw [cellAt_in z, nI_clamp (by omega)]
      exact ⟨fun y => dis q' i h1 h2 (j + 1) z y.2, fun y => ⟨nI_nm1 (by omega), by rw [y.1, y.2]⟩⟩
    · rw [cellAt_out z]
      exact ⟨fun y => absurd rfl y.1, fun y => by rw [y.1] at h2; omega⟩
  have m8 : ∀ q' i, q' < 18 → i < Ln v q' → (τ 8 0 0 (Fs v (Sl v (3 * p + r) j) 0) ≠ -1 ∧ Fs v (Sl v q' i) 0 = (τ 8 0 0 (Fs v (Sl v (3 * p + r) j) 0)).toNatClampNeg ↔ q' = 3 * p + r ∧ i + 1 = j) := fun q' i h1 h2 => by
    rw [t8]
    by_cases z : j = 0
    · rw [if_pos z]
      exact ⟨fun y => absurd rfl y.1, fun y => by omega⟩
    · have z' : j - 1 < Ln v (3 * p + r) := by omega
      have c := cl _ _ hq z'
      rw [if_neg z, cellAt_in z', nI_clamp (by omega)]
      exact ⟨fun y => by have := dis q' i h1 h2 (j - 1) z' y.2; omega, fun y => ⟨nI_nm1 (by omega), by rw [y.1, show i = j - 1 by omega]⟩⟩
  have n8 : τ 8 0 0 (Fs v (Sl v (3 * p + r) j) 0) = -1 ↔ j = 0 := by
    rw [t8]
    by_cases z : j = 0
    · rw [if_pos z]; exact ⟨fun _ => z, fun _ => rfl⟩
    · have z' : j - 1 < Ln v (3 * p + r) := by omega
      have c := cl _ _ hq z'
      rw [if_neg z, cellAt_in z']
      exact ⟨fun y => absurd y (nI_nm1 (by omega)), fun y => absurd y z⟩
  have n9 : τ 9 0 0 (Fs v (Sl v (3 * p + r) j) 0) = -1 ↔ j + 1 = Ln v (3 * p + r) := by
    rw [t9]
    by_cases z : j + 1 < Ln v (3 * p + r)
    · have c := cl _ _ hq z
      rw [cellAt_in z]
      exact ⟨fun y => absurd y (nI_nm1 (by omega)), fun y => by omega⟩
    · rw [cellAt_out z]; exact ⟨fun _ => by omega, fun _ => rfl⟩
  refine ⟨fun p' r' hp' hr' => ?_, fun k hk hu => ?_, fun c hc => ?_, fun c hc => ?_, fun c hc => ?_⟩
  · by_cases e : p' = p ∧ r' = r
    · obtain ⟨rfl, rfl⟩ := e
      rw [lv_Ln h, lv_cell h, lv_cell h, ot0_13, ot0_14]
      refine ⟨?_, ?_, fun i hi => ?_⟩
      · by_cases z : j = 0
        · rw [if_pos (n8.mpr z), t9, z]
          rfl
        · rw [if_neg (fun y => z (n8.mp y)), w1, skp, if_pos (by omega)]
      · by_cases z : Ln v (3 * p' + r') - 1 = 0
        · rw [if_pos z, if_pos (n9.mpr (by omega)), n8.mpr (by omega)]
        · rw [if_neg z]
          by_cases y : j + 1 = Ln v (3 * p' + r')
          · rw [if_pos (n9.mpr y), t8, if_neg (by omega), skp, if_pos (by omega), show Ln v (3 * p' + r') - 1 - 1 = j - 1 by omega]
          · rw [if_neg (fun x => y (n9.mp x)), w2, if_neg (by omega), skp, if_neg (by omega), show Ln v (3 * p' + r') - 1 - 1 + 1 = Ln v (3 * p' + r') - 1 by omega]
      · have sl := skp_lt (j := j) hi
        have es := yE _ _ hq sl
        rw [lv_Sl h hi, lv_Fs h es.2.1 (by omega), ot0_9, ot0_8, lv_cell h, lv_cell h]
        obtain ⟨u1, u2⟩ := w3 _ sl
        constructor
        · by_cases z : skp j i + 1 = j
          · rw [if_pos ((m8 _ _ hq sl).mpr ⟨rfl, z⟩), t9]
            have : i + 1 = j := by unfold skp at z; split at z <;> omega
            rw [this, skp, if_neg (by omega)]
          · rw [if_neg (fun y => z ((m8 _ _ hq sl).mp y).2), u1]
            congr 1
            unfold skp at *; split <;> split <;> split at z <;> omega
        · by_cases z : skp j i = j + 1
          · rw [if_pos ((m9 _ _ hq sl).mpr ⟨rfl, z⟩), t8]
            have : i = j := by unfold skp at z; split at z <;> omega
            subst this
            by_cases y : i = 0
            · rw [if_pos y, if_pos y]
            · rw [if_neg y, if_neg y, skp, if_pos (by omega)]
          · rw [if_neg (fun y => z ((m9 _ _ hq sl).mp y).2), u2]
            by_cases y : i = 0
            · have : skp j i = 0 := by
                unfold skp at *; split at z <;> split <;> omega
              rw [if_pos this, if_pos y]
            · rw [if_neg (by unfold skp; split <;> omega), if_neg y]
              congr 1
              unfold skp at *; split <;> split <;> split at z <;> omega
    · have hn : 3 * p' + r' ≠ 3 * p + r := by omega
      have hq' : 3 * p' + r' < 18 := by omega
      obtain ⟨u1, u2, u3⟩ := xQ p' r' hp' hr'
      rw [lv_Ln' h hq' hn, lv_cell' h hq' hn, lv_cell' h hq' hn, ot0_n (by omega) (by omega) (by omega), ot0_n (by omega) (by omega) (by omega)]
      refine ⟨u1, u2, fun i hi => ?_⟩
      have hl := yL _ hq'
      have es := yE _ _ hq' hi
      rw [lv_Sl' h hq' (by omega) hn, lv_Fs h es.2.1 (by omega), ot0_9, ot0_8, lv_cell' h hq' hn, lv_cell' h hq' hn, if_neg (fun y => hn ((m8 _ _ hq' hi).mp y).1), if_neg (fun y => hn ((m9 _ _ hq' hi).mp y).1)]
      exact u3 i hi
  · obtain ⟨n1, u1⟩ := (lv_Us h hk).mp hu
    have hp12 := hPn hk u1
    have hne : Fs v k 0 ≠ Fs v (Sl v (3 * p + r) j) 0 := fun e => n1 (cell_inj hMX hk u1 hkk.1 hkk.2 e)
    rw [lv_Fs h hk (by omega), lv_k h hk (by omega) (Or.inr (by omega)), lv_k h hk (by omega) (Or.inr (by omega)), lv_k h hk (by omega) (Or.inr (by omega)), ot0_n (by omega) (by omega) (by omega), ot0_n (by omega) (by omega) (by omega), ot0_n (by omega) (by omega) (by omega), lv_Pn h hk]
    obtain ⟨a1, a2, a3, a4⟩ := xK k hk u1
    refine ⟨a1, a2, a3, fun f hf => ?_⟩
    rw [lv_Fs h hk (by omega), lv_k h hk (by omega) (Or.inr (by omega)), ot0_n (by omega) (by omega) (by omega), ot0_n (by omega) (by omega) (by omega)]
    refine ⟨(a4 f hf).1, ?_⟩
    rw [(a4 f hf).2]
    by_cases z : f + 1 < Pn v k
    · rw [if_pos z, if_pos z, lv_Fs h hk (by omega)]
    · rw [if_neg z, if_neg z]
  · by_cases e : c = Fs v (Sl v (3 * p + r) j) 0
    · left; rw [e]; exact ot0_5
    · rw [ot0_n (by omega) (by omega) (by omega)]
      rcases xN c hc with z | ⟨k, k1, k2, k3⟩
      · exact Or.inl z
      · have := hPn k1 k2
        exact Or.inr ⟨k, k1, (lv_Us h k1).mpr ⟨fun y => e (by rw [← y, k3]), k2⟩, by rw [lv_Fs h k1 (by omega)]; exact k3⟩
  · rw [ot0_2, lv_m h hc]
    have key : cov (Fs v (Sl v (3 * p + r) j)) (Fl v (Sl v (3 * p + r) j)) (Pn v (Sl v (3 * p + r) j)) c = true ↔ v (6336 + c) = nI (Sl v (3 * p + r) j + 1) := by
      rw [cov_iff]
      constructor
      · rintro ⟨f, f1, f2, f3⟩
        exact yF _ f c hkk.1 hkk.2 f1 f2 f3
      · intro z
        rcases yM c hc with y | ⟨k, k1, k2, k3, f, f1, f2, f3⟩
        · rw [y] at z
          exact absurd z.symm (nI_ne0 (by omega) (by omega))
        · rw [k3] at z
          have : k = Sl v (3 * p + r) j := by have := nIeq (by omega) (by omega) z; omega
          subst this
          exact ⟨f, f1, f2, f3⟩
    by_cases z : v (6336 + c) = nI (Sl v (3 * p + r) j + 1)
    · rw [if_pos (key.mpr z), if_pos z, if_pos rfl]
    · rw [if_neg (fun y => z (key.mp y)), if_neg z]
      exact xM c hc
  · rw [ot0_2]
    split
    · rfl
    · exact xz c hc
