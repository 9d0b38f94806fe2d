/-! ===== tools for the decompiled functions ===== -/
theorem b_s {α β : Type} (r : α) (s : xS) (k : α → xS → Option β) : x_b (some (r, s)) k = k r s := rfl
theorem g_t {β : Type} (k : Option β) : x_g true k = k := rfl
theorem l_v {α β : Type} (a : α) (k : α → β) : x_let a k = k a := rfl
theorem in_nI {j n : Nat} (h : j < n) (hn : n < 2 ^ 31) : x_in (nI j) n = true := by
  unfold x_in
  exact decide_eq_true (nI_in h hn)
theorem lit_nI (n : Nat) : (OfNat.ofNat n : Int32) = nI n := rfl
theorem nI_lt0 {j n : Nat} (hj : j < 2 ^ 31) (hn : n < 2 ^ 31) : (nI j < (OfNat.ofNat n : Int32)) ↔ j < n := nI_ltI hj hn
theorem nI_le0 {j n : Nat} (hj : j < 2 ^ 31) (hn : n < 2 ^ 31) : ((OfNat.ofNat n : Int32) ≤ nI j) ↔ n ≤ j := nI_leI hn hj
theorem nI_nn {j : Nat} (hj : j < 2 ^ 31) : ¬ nI j < 0 := nI_pos hj
theorem z_01 (c : Prop) [Decidable c] : x_z (if c then 1 else 0) = true := by
  by_cases h : c
  · rw [if_pos h]; rfl
  · rw [if_neg h]; rfl
theorem z_0 : x_z 0 = true := rfl
theorem z_1 : x_z 1 = true := rfl
/-- an index from a row of ports: a port, or none -/
theorem ix_cases (x : Int32) {P : Nat} (hP : P ≤ 6) : (∃ p, p < P ∧ x = nI p) ∨ (x < 0 ∨ nI P ≤ x) := by
  rcases pk_ix x (n := P) (by omega) with h | h | ⟨j, h1, h2⟩
  · exact Or.inr (Or.inl h)
  · exact Or.inr (Or.inr h)
  · exact Or.inl ⟨j, h1, h2⟩
-- reading a store that was written
theorem rd_set (σ : xS) (d K p r k : Nat) (v : Int32) (d' K' p' r' k' : Nat) : x_set σ d K p r k v d' K' p' r' k' = if d' = d ∧ K' = K ∧ p' = p ∧ r' = r ∧ k' = k then v else σ d' K' p' r' k' := by
  unfold x_set x_row va_up
  by_cases h1 : d' = d
  · subst h1
    by_cases h2 : K' = K
    · subst h2
      by_cases h3 : p' = p
      · subst h3
        by_cases h4 : r' = r
        · subst h4
          by_cases h5 : k' = k <;> simp [h5]
        · simp [h4]
      · simp [h3]
    · simp [h2]
  · simp [h1]
theorem rd_same (σ : xS) (d K p r k : Nat) (v : Int32) : x_set σ d K p r k v d K p r k = v := by rw [rd_set, if_pos ⟨rfl, rfl, rfl, rfl, rfl⟩]
theorem rd_dev (σ : xS) {d d' : Nat} (K p r k : Nat) (v : Int32) (h : d' ≠ d) : x_set σ d K p r k v d' = σ d' := by
  unfold x_set x_row va_up
  simp [h]
/-- a device's part, written -/
def dset (τ : Nat → Nat → Nat → Nat → Int32) (K p r k : Nat) (v : Int32) : Nat → Nat → Nat → Nat → Int32 := va_up τ K (va_up (τ K) p (va_up (τ K p) r (va_up (τ K p r) k v)))
theorem rd_own (σ : xS) (d K p r k : Nat) (v : Int32) : x_set σ d K p r k v d = dset (σ d) K p r k v := by
  unfold x_set x_row dset
  simp [va_up]
theorem x_set_up (σ : xS) (d K p r k : Nat) (v : Int32) : x_set σ d K p r k v = va_up σ d (dset (σ d) K p r k v) := rfl
theorem dset_rd (τ : Nat → Nat → Nat → Nat → Int32) (K p r k : Nat) (v : Int32) (K' p' r' k' : Nat) : dset τ K p r k v K' p' r' k' = if K' = K ∧ p' = p ∧ r' = r ∧ k' = k then v else τ K' p' r' k' := by
  unfold dset va_up
  by_cases h2 : K' = K
  · subst h2
    by_cases h3 : p' = p
    · subst h3
      by_cases h4 : r' = r
      · subst h4
        by_cases h5 : k' = k <;> simp [h5]
      · simp [h4]
    · simp [h3]
  · simp [h2]
theorem up_up {α : Type} (f : Nat → α) (k : Nat) (a b : α) : va_up (va_up f k a) k b = va_up f k b := by
  funext j
  unfold va_up
  by_cases h : j = k <;> simp [h]
/-- the reference's row -/
abbrev vv (σ : xS) : Nat → Int32 := σ 5 31 0 0
theorem vv_set (σ : xS) (j : Nat) (x : Int32) : vv (x_set σ 5 31 0 0 j x) = va_up (vv σ) j x := by
  show x_row σ 5 31 0 0 (va_up (σ 5 31 0 0) j x) 5 31 0 0 = _
  rw [x_row_same]
-- the reference's leaves
theorem m_portN (p f : Nat) (σ : xS) : fX6_port (nI p) (nI f) σ = some (nI (16 + 24 * p + f), σ) := by
  rw [fX6_port]
  show some ((nI 16 + nI 24 * nI p + nI f), σ) = _
  rw [pk_mul, nI_add, nI_add]
theorem m_port_0 (p : Nat) (σ : xS) : fX6_port (nI p) 0 σ = some (nI (16 + 24 * p + 0), σ) := m_portN p 0 σ
theorem m_port_1 (p : Nat) (σ : xS) : fX6_port (nI p) 1 σ = some (nI (16 + 24 * p + 1), σ) := m_portN p 1 σ
theorem m_port_2 (p : Nat) (σ : xS) : fX6_port (nI p) 2 σ = some (nI (16 + 24 * p + 2), σ) := m_portN p 2 σ
theorem m_port_3 (p : Nat) (σ : xS) : fX6_port (nI p) 3 σ = some (nI (16 + 24 * p + 3), σ) := m_portN p 3 σ
theorem m_port_4 (p : Nat) (σ : xS) : fX6_port (nI p) 4 σ = some (nI (16 + 24 * p + 4), σ) := m_portN p 4 σ
theorem m_port_5 (p : Nat) (σ : xS) : fX6_port (nI p) 5 σ = some (nI (16 + 24 * p + 5), σ) := m_portN p 5 σ
theorem m_port_6 (p : Nat) (σ : xS) : fX6_port (nI p) 6 σ = some (nI (16 + 24 * p + 6), σ) := m_portN p 6 σ
theorem m_port_7 (p : Nat) (σ : xS) : fX6_port (nI p) 7 σ = some (nI (16 + 24 * p + 7), σ) := m_portN p 7 σ
theorem m_port_8 (p : Nat) (σ : xS) : fX6_port (nI p) 8 σ = some (nI (16 + 24 * p + 8), σ) := m_portN p 8 σ
theorem m_port_9 (p : Nat) (σ : xS) : fX6_port (nI p) 9 σ = some (nI (16 + 24 * p + 9), σ) := m_portN p 9 σ
theorem m_port_10 (p : Nat) (σ : xS) : fX6_port (nI p) 10 σ = some (nI (16 + 24 * p + 10), σ) := m_portN p 10 σ
theorem m_port_11 (p : Nat) (σ : xS) : fX6_port (nI p) 11 σ = some (nI (16 + 24 * p + 11), σ) := m_portN p 11 σ
theorem m_queueN (p f : Nat) (σ : xS) : fX6_queue (nI p) (nI f) σ = some (nI (160 + 16 * p + f), σ) := by
  rw [fX6_queue]
  show some ((nI 160 + nI 16 * nI p + nI f), σ) = _
  rw [pk_mul, nI_add, nI_add]
theorem m_queue_0 (p : Nat) (σ : xS) : fX6_queue (nI p) 0 σ = some (nI (160 + 16 * p + 0), σ) := m_queueN p 0 σ
theorem m_queue_1 (p : Nat) (σ : xS) : fX6_queue (nI p) 1 σ = some (nI (160 + 16 * p + 1), σ) := m_queueN p 1 σ
theorem m_queue_2 (p : Nat) (σ : xS) : fX6_queue (nI p) 2 σ = some (nI (160 + 16 * p + 2), σ) := m_queueN p 2 σ
theorem m_queue_3 (p : Nat) (σ : xS) : fX6_queue (nI p) 3 σ = some (nI (160 + 16 * p + 3), σ) := m_queueN p 3 σ
theorem m_queue_4 (p : Nat) (σ : xS) : fX6_queue (nI p) 4 σ = some (nI (160 + 16 * p + 4), σ) := m_queueN p 4 σ
theorem m_queue_5 (p : Nat) (σ : xS) : fX6_queue (nI p) 5 σ = some (nI (160 + 16 * p + 5), σ) := m_queueN p 5 σ
theorem m_queue_6 (p : Nat) (σ : xS) : fX6_queue (nI p) 6 σ = some (nI (160 + 16 * p + 6), σ) := m_queueN p 6 σ
theorem m_queue_7 (p : Nat) (σ : xS) : fX6_queue (nI p) 7 σ = some (nI (160 + 16 * p + 7), σ) := m_queueN p 7 σ
theorem m_queue_8 (p : Nat) (σ : xS) : fX6_queue (nI p) 8 σ = some (nI (160 + 16 * p + 8), σ) := m_queueN p 8 σ
theorem m_queue_9 (p : Nat) (σ : xS) : fX6_queue (nI p) 9 σ = some (nI (160 + 16 * p + 9), σ) := m_queueN p 9 σ
theorem m_queue_10 (p : Nat) (σ : xS) : fX6_queue (nI p) 10 σ = some (nI (160 + 16 * p + 10), σ) := m_queueN p 10 σ
theorem m_queue_11 (p : Nat) (σ : xS) : fX6_queue (nI p) 11 σ = some (nI (160 + 16 * p + 11), σ) := m_queueN p 11 σ
theorem m_queue_12 (p : Nat) (σ : xS) : fX6_queue (nI p) 12 σ = some (nI (160 + 16 * p + 12), σ) := m_queueN p 12 σ
theorem m_entry (q i : Nat) (σ : xS) : fX6_entry (nI q) (nI i) σ = some (nI (448 + 128 * q + i), σ) := by
  rw [fX6_entry]
  show some ((nI 448 + nI 128 * nI q + nI i), σ) = _
  rw [pk_mul, nI_add, nI_add]
theorem m_entry_0 (q : Nat) (σ : xS) : fX6_entry (nI q) 0 σ = some (nI (448 + 128 * q + 0), σ) := m_entry q 0 σ
theorem m_packetN (p f : Nat) (σ : xS) : fX6_packet (nI p) (nI f) σ = some (nI (2752 + 28 * p + f), σ) := by
  rw [fX6_packet]
  show some ((nI 2752 + nI 28 * nI p + nI f), σ) = _
  rw [pk_mul, nI_add, nI_add]
theorem m_packet_0 (p : Nat) (σ : xS) : fX6_packet (nI p) 0 σ = some (nI (2752 + 28 * p + 0), σ) := m_packetN p 0 σ
theorem m_packet_1 (p : Nat) (σ : xS) : fX6_packet (nI p) 1 σ = some (nI (2752 + 28 * p + 1), σ) := m_packetN p 1 σ
theorem m_packet_2 (p : Nat) (σ : xS) : fX6_packet (nI p) 2 σ = some (nI (2752 + 28 * p + 2), σ) := m_packetN p 2 σ
theorem m_packet_3 (p : Nat) (σ : xS) : fX6_packet (nI p) 3 σ = some (nI (2752 + 28 * p + 3), σ) := m_packetN p 3 σ
theorem m_in (x lo hi : Int32) (σ : xS) : fX6_in x lo hi σ = some (if lo ≤ x ∧ x ≤ hi then 1 else 0, σ) := by
  rw [fX6_in]
  by_cases h1 : x < lo
  · rw [if_pos h1, if_neg (by grind)]
  · rw [if_neg h1]
    by_cases h2 : hi < x
    · rw [if_pos h2, if_neg (by grind)]
    · rw [if_neg h2, if_pos (by grind)]
theorem m_isPort (x : Int32) (σ : xS) : fX6_isPort x σ = some (if 0 ≤ x ∧ x ≤ vv σ 1 - 1 then 1 else 0, σ) := by
  rw [fX6_isPort, m_in, b_s, z_01, g_t]
theorem m_isPort_t {p P : Nat} {σ : xS} (hP : vv σ 1 = nI P) (h6 : P ≤ 6) (hp : p < P) : fX6_isPort (nI p) σ = some (1, σ) := by
  rw [m_isPort, hP, if_pos]
  obtain ⟨P, rfl⟩ : ∃ Q, P = Q + 1 := ⟨P - 1, by omega⟩
  rw [nI_pred]
  exact ⟨nI_pos' (by omega), nI_le (by omega) (by omega)⟩
theorem m_isPort_f {x : Int32} {P : Nat} {σ : xS} (hP : vv σ 1 = nI P) (h1 : 1 ≤ P) (h6 : P ≤ 6) (hx : x < 0 ∨ nI P ≤ x) : fX6_isPort x σ = some (0, σ) := by
  rw [m_isPort, hP, if_neg]
  obtain ⟨P, rfl⟩ : ∃ Q, P = Q + 1 := ⟨P - 1, by omega⟩
  rw [nI_pred]
  rintro ⟨a1, a2⟩
  rcases hx with h | h
  · grind
  · have : nI P < nI (P + 1) := nI_lt (by omega) (by omega)
    grind
theorem m_isQueue_t {p r P : Nat} {σ : xS} (hP : vv σ 1 = nI P) (h6 : P ≤ 6) (hp : p < P) (hr : r < 3) : fX6_isQueue (nI p) (nI r) σ = some (1, σ) := by
  have h : 0 ≤ nI r ∧ nI r ≤ 2 := ⟨nI_pos' (by omega), nI_le (b := 2) (by omega) (by omega)⟩
  rw [fX6_isQueue, m_isPort_t hP h6 hp, b_s, if_neg (by decide), m_in, b_s, if_pos h, if_neg (by decide)]
theorem m_isQueue_p {x y : Int32} {P : Nat} {σ : xS} (hP : vv σ 1 = nI P) (h1 : 1 ≤ P) (h6 : P ≤ 6) (hx : x < 0 ∨ nI P ≤ x) : fX6_isQueue x y σ = some (0, σ) := by
  rw [fX6_isQueue, m_isPort_f hP h1 h6 hx, b_s, if_pos rfl]
theorem m_isQueue_r {y : Int32} {p P : Nat} {σ : xS} (hP : vv σ 1 = nI P) (h6 : P ≤ 6) (hp : p < P) (hy : y < 0 ∨ 3 ≤ y) : fX6_isQueue (nI p) y σ = some (0, σ) := by
  have h : ¬ (0 ≤ y ∧ y ≤ 2) := by grind
  rw [fX6_isQueue, m_isPort_t hP h6 hp, b_s, if_neg (by decide), m_in, b_s, if_neg h, if_pos rfl]
-- the class's leaves
theorem c_out (x lo hi : Int32) (σ : xS) : fX5_isOutside x lo hi σ = some (if lo ≤ x ∧ x ≤ hi then 0 else 1, σ) := by
  rw [fX5_isOutside]
  by_cases h1 : x < lo
  · rw [if_pos h1, if_neg (by grind)]
  · rw [if_neg h1]
    by_cases h2 : hi < x
    · first | rw [if_pos h2, if_neg (by grind)] | rw [if_neg (by grind), if_neg (by grind)]
    · first | rw [if_neg h2, if_pos (by grind)] | rw [if_pos (by grind), if_pos (by grind)]
theorem c_portAt_t {d p P : Nat} {σ : xS} (hP : σ d 0 0 0 2 = nI P) (h6 : P ≤ 6) (hp : p < P) : fX0_portAt d (nI p) σ = some (some (d, p), σ) := by
  rw [fX0_portAt, if_neg (nI_nn (by omega)), hP, if_neg (nI_ge hp (by omega)), in_nI (by omega) (by omega), g_t, nI_clamp (by omega)]
theorem c_portAt_f {d P : Nat} {x : Int32} {σ : xS} (hP : σ d 0 0 0 2 = nI P) (hx : x < 0 ∨ nI P ≤ x) : fX0_portAt d x σ = some (none, σ) := by
  rw [fX0_portAt, hP]
  by_cases h : x < 0
  · rw [if_pos h]
  · rw [if_neg h, if_pos (hx.resolve_left h)]
theorem c_queueAt_t {d p r P : Nat} {σ : xS} (hP : σ d 0 0 0 2 = nI P) (h6 : P ≤ 6) (hp : p < P) (hr : r < 3) : fX0_queueAt d (nI p) (nI r) σ = some (some (d, p, r), σ) := by
  rw [fX0_queueAt, if_neg (nI_nn (by omega)), hP, if_neg (nI_ge hp (by omega)), if_neg (nI_nn (by omega)), if_pos (show nI r < 3 from nI_lt (b := 3) hr (by omega)), in_nI (by omega) (by omega), g_t, in_nI (by omega) (by omega), g_t, nI_clamp (by omega), nI_clamp (by omega)]
theorem c_queueAt_p {d P : Nat} {x y : Int32} {σ : xS} (hP : σ d 0 0 0 2 = nI P) (hx : x < 0 ∨ nI P ≤ x) : fX0_queueAt d x y σ = some (none, σ) := by
  rw [fX0_queueAt, hP]
  by_cases h : x < 0
  · rw [if_pos h]
  · rw [if_neg h, if_pos (hx.resolve_left h)]
theorem c_queueAt_r {d p P : Nat} {y : Int32} {σ : xS} (hP : σ d 0 0 0 2 = nI P) (h6 : P ≤ 6) (hp : p < P) (hy : y < 0 ∨ 3 ≤ y) : fX0_queueAt d (nI p) y σ = some (none, σ) := by
  rw [fX0_queueAt, hP, if_neg (nI_nn (by omega)), if_neg (nI_ge hp (by omega))]
  by_cases h : y < 0
  · rw [if_pos h]
  · rw [if_neg h, if_neg (by grind)]
theorem ok2_t {d p : Nat} (hd : d < 4) (hp : p < 6) : ok2 (d, p) = true := decide_eq_true ⟨hd, hp⟩
theorem ok3_t {d p r : Nat} (hd : d < 4) (hp : p < 6) (hr : r < 3) : ok3 (d, p, r) = true := decide_eq_true ⟨hd, hp, hr⟩
