def fX6_setPushOut (a1 : Int32) (σ : xS) : Option (Int32 × xS) :=
  x_let (σ 5 31 0 0 2) fun t1 => if a1 = 0 then (x_let (x_set σ 5 31 0 0 2 0) fun s2 => some (t1, s2)) else (x_let (x_set σ 5 31 0 0 2 1) fun s3 => some (t1, s3))
set_option maxRecDepth 100000 in
set_option maxHeartbeats 4000000 in
theorem eX6_setPushOut {l : Launch} {w : xW} (hw : w.1.2 = true) {a1 : Int32} {σ τ : xS} {r : Int32} (h : fX6_setPushOut a1 σ = some (r, τ)) : xEV l w yX6_setPushOut mX6_setPushOut [.ref (w.2.2 5 30 0 0), .int a1] σ (some (.int r)) τ := by
  rw [fX6_setPushOut] at h
  refine x_enter (by decide +kernel) rfl (Nat.le_of_ble_eq_true rfl) ?_
  refine x_sub (L1 := [(0, .ref (w.2.2 5 30 0 0)), (1, .int a1)]) [0, 1] rfl ?_
  refine x_aload_n dX6_setPushOut_0 rfl 0 rfl ?_
  refine x_getR (d1 := 5) (K1 := 31) (p1 := 0) (r1 := 0) fl_X6_7 (ok_e30 hw) rfl dX6_setPushOut_1 ?_
  refine x_iconst (x := 2) dX6_setPushOut_4 rfl ?_
  refine x_iald 6464 2 rfl rfl rfl rfl (ok_e31 hw) rfl dX6_setPushOut_5 ?_
  obtain ⟨t1, ht1, h⟩ := x_let_e h
  refine x_istore_n t1 ht1 dX6_setPushOut_6 rfl (Nat.le_of_ble_eq_true rfl) [(2, .int t1), (0, .ref (w.2.2 5 30 0 0)), (1, .int a1)] rfl ?_
  refine x_aload_n dX6_setPushOut_7 rfl 1 rfl ?_
  refine x_getR (d1 := 5) (K1 := 31) (p1 := 0) (r1 := 0) fl_X6_7 (ok_e30 hw) rfl dX6_setPushOut_8 ?_
  refine x_iconst (x := 2) dX6_setPushOut_11 rfl ?_
  refine x_iload_n dX6_setPushOut_12 rfl 2 rfl ?_
  refine x_if_eq (tgt := 20) dX6_setPushOut_13 rfl (fun hc => ?_) (fun hc => ?_)
  · have h := x_t hc h
    refine x_iconst (x := 0) dX6_setPushOut_20 rfl ?_
    obtain ⟨s2, hs2, h⟩ := x_let_e h
    refine x_iast 6464 2 rfl s2 hs2 rfl rfl rfl (ok_e31 hw) rfl dX6_setPushOut_21 ?_
    refine x_iload_n dX6_setPushOut_22 rfl 0 rfl ?_
    exact x_iretH rfl dX6_setPushOut_23 h
  · have h := x_f hc h
    refine x_iconst (x := 1) dX6_setPushOut_16 rfl ?_
    refine x_goto (tgt := 21) dX6_setPushOut_17 rfl ?_
    obtain ⟨s3, hs3, h⟩ := x_let_e h
    refine x_iast 6464 2 rfl s3 hs3 rfl rfl rfl (ok_e31 hw) rfl dX6_setPushOut_21 ?_
    refine x_iload_n dX6_setPushOut_22 rfl 0 rfl ?_
    exact x_iretH rfl dX6_setPushOut_23 h
def fX6_drops (a1 : Int32) (σ : xS) : Option (Unit × xS) :=
  x_b (fX6_port a1 2 σ) fun z1 s1 => x_g (x_in z1 6464) (x_let (x_set s1 5 31 0 0 z1.toNatClampNeg 0) fun s3 => x_b (fX6_port a1 3 s3) fun z4 s4 => x_g (x_in z4 6464) (x_let (x_set s4 5 31 0 0 z4.toNatClampNeg 0) fun s6 => x_b (fX6_converts a1 s6) fun z7 s7 => some ((), s7)))
set_option maxRecDepth 100000 in
set_option maxHeartbeats 4000000 in
theorem eX6_drops {l : Launch} {w : xW} (hw : w.1.2 = true) {a1 : Int32} {σ τ : xS} {r : Unit} (h : fX6_drops a1 σ = some (r, τ)) : xEV l w yX6_drops mX6_drops [.ref (w.2.2 5 30 0 0), .int a1] σ none τ := by
  rw [fX6_drops] at h
  refine x_enter (by decide +kernel) rfl (Nat.le_of_ble_eq_true rfl) ?_
  refine x_sub (L1 := [(0, .ref (w.2.2 5 30 0 0)), (1, .int a1)]) [0, 1] rfl ?_
  refine x_aload_n dX6_drops_0 rfl 0 rfl ?_
  refine x_getR (d1 := 5) (K1 := 31) (p1 := 0) (r1 := 0) fl_X6_7 (ok_e30 hw) rfl dX6_drops_1 ?_
  refine x_iload_n dX6_drops_4 rfl 1 rfl ?_
  refine x_iconst (x := 2) dX6_drops_5 rfl ?_
  obtain ⟨z1, s1, h1, h⟩ := x_b_e h
  refine x_callS (As := [.int a1, .int 2]) (st := [.ref (w.2.2 5 31 0 0)]) (eX6_port hw  h1) cs_X6_44 (Nat.le_of_ble_eq_true rfl) rfl (Nat.le_of_ble_eq_true rfl) _ rfl dX6_drops_6 [.int z1, .ref (w.2.2 5 31 0 0)] rfl ?_
  refine x_iconst (x := 0) dX6_drops_9 rfl ?_
  obtain ⟨hg2, h⟩ := x_g_e h
  obtain ⟨s3, hs3, h⟩ := x_let_e h
  refine x_iast 6464 z1.toNatClampNeg rfl s3 hs3 rfl rfl rfl (ok_e31 hw) hg2 dX6_drops_10 ?_
  refine x_aload_n dX6_drops_11 rfl 0 rfl ?_
  refine x_getR (d1 := 5) (K1 := 31) (p1 := 0) (r1 := 0) fl_X6_7 (ok_e30 hw) rfl dX6_drops_12 ?_
  refine x_iload_n dX6_drops_15 rfl 1 rfl ?_
  refine x_iconst (x := 3) dX6_drops_16 rfl ?_
  obtain ⟨z4, s4, h4, h⟩ := x_b_e h
  refine x_callS (As := [.int a1, .int 3]) (st := [.ref (w.2.2 5 31 0 0)]) (eX6_port hw  h4) cs_X6_44 (Nat.le_of_ble_eq_true rfl) rfl (Nat.le_of_ble_eq_true rfl) _ rfl dX6_drops_17 [.int z4, .ref (w.2.2 5 31 0 0)] rfl ?_
  refine x_iconst (x := 0) dX6_drops_20 rfl ?_
  obtain ⟨hg5, h⟩ := x_g_e h
  obtain ⟨s6, hs6, h⟩ := x_let_e h
  refine x_iast 6464 z4.toNatClampNeg rfl s6 hs6 rfl rfl rfl (ok_e31 hw) hg5 dX6_drops_21 ?_
  refine x_aload_n dX6_drops_22 rfl 0 rfl ?_
  refine x_iload_n dX6_drops_23 rfl 1 rfl ?_
  obtain ⟨z7, s7, h7, h⟩ := x_b_e h
  refine x_callV (As := [.int a1]) (st := []) (eX6_converts hw  h7) cv_X6_71 (Nat.le_of_ble_eq_true rfl) (ok_e30 hw) rfl (Nat.le_of_ble_eq_true rfl) _ rfl dX6_drops_24 [] rfl ?_
  exact x_vretH rfl dX6_drops_27 h
def BX6_keeps_2 : Nat → Int32 → xS → Option (Unit × xS)
  | 0, _, _ => none
  | n + 1, a1, σ => if 6464 ≤ a1 then (some ((), σ)) else (x_g (x_in a1 6464) (x_g (x_in a1 6464) (x_let (x_set σ 5 32 0 0 a1.toNatClampNeg (σ 5 31 0 0 a1.toNatClampNeg)) fun s3 => x_let (a1 + 1) fun t4 => (BX6_keeps_2 n) t4 s3)))
set_option maxRecDepth 100000 in
set_option maxHeartbeats 4000000 in
theorem TX6_keeps_2 {l : Launch} {w : xW} (hw : w.1.2 = true) {τ : xS} {r : Unit} : ∀ (n : Nat) (a1 : Int32) (σ : xS), BX6_keeps_2 n a1 σ = some (r, τ) → xAt l w mX6_keeps 2 [(0, .ref (w.2.2 5 30 0 0)), (1, .int a1)] [] σ none τ := by
  intro n
  induction n with
  | zero => intro a1 σ h; cases h
  | succ n ih =>
    intro a1 σ h
    rw [BX6_keeps_2] at h
    refine x_iload_n dX6_keeps_2 rfl 1 rfl ?_
    refine x_sipush (x := 6464) dX6_keeps_3 rfl ?_
    refine x_icmp_ge (tgt := 27) dX6_keeps_6 rfl (fun hc => ?_) (fun hc => ?_)
    · have h := x_t hc h
      exact x_vretH rfl dX6_keeps_27 h
    · have h := x_f hc h
      refine x_aload_n dX6_keeps_9 rfl 0 rfl ?_
      refine x_getR (d1 := 5) (K1 := 32) (p1 := 0) (r1 := 0) fl_X6_13 (ok_e30 hw) rfl dX6_keeps_10 ?_
      refine x_iload_n dX6_keeps_13 rfl 1 rfl ?_
      refine x_aload_n dX6_keeps_14 rfl 0 rfl ?_
      refine x_getR (d1 := 5) (K1 := 31) (p1 := 0) (r1 := 0) fl_X6_7 (ok_e30 hw) rfl dX6_keeps_15 ?_
      refine x_iload_n dX6_keeps_18 rfl 1 rfl ?_
      obtain ⟨hg1, h⟩ := x_g_e h
      refine x_iald 6464 a1.toNatClampNeg rfl rfl rfl rfl (ok_e31 hw) hg1 dX6_keeps_19 ?_
      obtain ⟨hg2, h⟩ := x_g_e h
      obtain ⟨s3, hs3, h⟩ := x_let_e h
      refine x_iast 6464 a1.toNatClampNeg rfl s3 hs3 rfl rfl rfl (ok_e32 hw) hg2 dX6_keeps_20 ?_
      obtain ⟨t4, ht4, h⟩ := x_let_e h
      refine x_iinc t4 1 rfl ht4 dX6_keeps_21 1 rfl (Nat.le_of_ble_eq_true rfl) [(1, .int t4), (0, .ref (w.2.2 5 30 0 0))] rfl ?_
      refine x_goto (tgt := 2) dX6_keeps_24 rfl ?_
      refine x_sub (L1 := [(0, .ref (w.2.2 5 30 0 0)), (1, .int t4)]) [1, 0] rfl ?_
      exact ih _ _ h
def fX6_keeps (σ : xS) : Option (Unit × xS) :=
  BX6_keeps_2 x_FU 0 σ
set_option maxRecDepth 100000 in
set_option maxHeartbeats 4000000 in
theorem eX6_keeps {l : Launch} {w : xW} (hw : w.1.2 = true) {σ τ : xS} {r : Unit} (h : fX6_keeps σ = some (r, τ)) : xEV l w yX6_keeps mX6_keeps [.ref (w.2.2 5 30 0 0)] σ none τ := by
  rw [fX6_keeps] at h
  refine x_enter (by decide +kernel) rfl (Nat.le_of_ble_eq_true rfl) ?_
  refine x_sub (L1 := [(0, .ref (w.2.2 5 30 0 0))]) [0] rfl ?_
  refine x_iconst (x := 0) dX6_keeps_0 rfl ?_
  refine x_istore_n 0 rfl dX6_keeps_1 rfl (Nat.le_of_ble_eq_true rfl) [(1, .int 0), (0, .ref (w.2.2 5 30 0 0))] rfl ?_
  refine x_sub (L1 := [(0, .ref (w.2.2 5 30 0 0)), (1, .int 0)]) [1, 0] rfl ?_
  exact TX6_keeps_2 hw _ _ _ h
def BX6_brings_2 : Nat → Int32 → xS → Option (Unit × xS)
  | 0, _, _ => none
  | n + 1, a1, σ => if 6464 ≤ a1 then (some ((), σ)) else (x_g (x_in a1 6464) (x_g (x_in a1 6464) (x_let (x_set σ 5 31 0 0 a1.toNatClampNeg (σ 5 32 0 0 a1.toNatClampNeg)) fun s3 => x_let (a1 + 1) fun t4 => (BX6_brings_2 n) t4 s3)))
set_option maxRecDepth 100000 in
set_option maxHeartbeats 4000000 in
theorem TX6_brings_2 {l : Launch} {w : xW} (hw : w.1.2 = true) {τ : xS} {r : Unit} : ∀ (n : Nat) (a1 : Int32) (σ : xS), BX6_brings_2 n a1 σ = some (r, τ) → xAt l w mX6_brings 2 [(0, .ref (w.2.2 5 30 0 0)), (1, .int a1)] [] σ none τ := by
  intro n
  induction n with
  | zero => intro a1 σ h; cases h
  | succ n ih =>
    intro a1 σ h
    rw [BX6_brings_2] at h
    refine x_iload_n dX6_brings_2 rfl 1 rfl ?_
    refine x_sipush (x := 6464) dX6_brings_3 rfl ?_
    refine x_icmp_ge (tgt := 27) dX6_brings_6 rfl (fun hc => ?_) (fun hc => ?_)
    · have h := x_t hc h
      exact x_vretH rfl dX6_brings_27 h
    · have h := x_f hc h
      refine x_aload_n dX6_brings_9 rfl 0 rfl ?_
      refine x_getR (d1 := 5) (K1 := 31) (p1 := 0) (r1 := 0) fl_X6_7 (ok_e30 hw) rfl dX6_brings_10 ?_
      refine x_iload_n dX6_brings_13 rfl 1 rfl ?_
      refine x_aload_n dX6_brings_14 rfl 0 rfl ?_
      refine x_getR (d1 := 5) (K1 := 32) (p1 := 0) (r1 := 0) fl_X6_13 (ok_e30 hw) rfl dX6_brings_15 ?_
      refine x_iload_n dX6_brings_18 rfl 1 rfl ?_
      obtain ⟨hg1, h⟩ := x_g_e h
      refine x_iald 6464 a1.toNatClampNeg rfl rfl rfl rfl (ok_e32 hw) hg1 dX6_brings_19 ?_
      obtain ⟨hg2, h⟩ := x_g_e h
      obtain ⟨s3, hs3, h⟩ := x_let_e h
      refine x_iast 6464 a1.toNatClampNeg rfl s3 hs3 rfl rfl rfl (ok_e31 hw) hg2 dX6_brings_20 ?_
      obtain ⟨t4, ht4, h⟩ := x_let_e h
      refine x_iinc t4 1 rfl ht4 dX6_brings_21 1 rfl (Nat.le_of_ble_eq_true rfl) [(1, .int t4), (0, .ref (w.2.2 5 30 0 0))] rfl ?_
      refine x_goto (tgt := 2) dX6_brings_24 rfl ?_
      refine x_sub (L1 := [(0, .ref (w.2.2 5 30 0 0)), (1, .int t4)]) [1, 0] rfl ?_
      exact ih _ _ h
def fX6_brings (σ : xS) : Option (Unit × xS) :=
  BX6_brings_2 x_FU 0 σ
set_option maxRecDepth 100000 in
set_option maxHeartbeats 4000000 in
theorem eX6_brings {l : Launch} {w : xW} (hw : w.1.2 = true) {σ τ : xS} {r : Unit} (h : fX6_brings σ = some (r, τ)) : xEV l w yX6_brings mX6_brings [.ref (w.2.2 5 30 0 0)] σ none τ := by
  rw [fX6_brings] at h
  refine x_enter (by decide +kernel) rfl (Nat.le_of_ble_eq_true rfl) ?_
  refine x_sub (L1 := [(0, .ref (w.2.2 5 30 0 0))]) [0] rfl ?_
  refine x_iconst (x := 0) dX6_brings_0 rfl ?_
  refine x_istore_n 0 rfl dX6_brings_1 rfl (Nat.le_of_ble_eq_true rfl) [(1, .int 0), (0, .ref (w.2.2 5 30 0 0))] rfl ?_
  refine x_sub (L1 := [(0, .ref (w.2.2 5 30 0 0)), (1, .int 0)]) [1, 0] rfl ?_
  exact TX6_brings_2 hw _ _ _ h
def BX6_grant_179 (a1 : Int32) (a2 : Int32) (a3 : Int32) (σ : xS) : Option (Int32 × xS) :=
  x_b (fX6_port a1 3 σ) fun z9 s9 => x_g (x_in z9 6464) (if (s9 5 31 0 0 z9.toNatClampNeg) = 0 then (x_let (x_set s9 5 31 0 0 10 ((s9 5 31 0 0 10) + 1)) fun s15 => x_b (fX6_port a1 3 s15) fun z16 s16 => x_g (x_in z16 6464) (x_let (x_set s16 5 31 0 0 z16.toNatClampNeg (s16 5 31 0 0 10)) fun s18 => x_b (fX6_port a1 2 s18) fun z19 s19 => x_g (x_in z19 6464) (x_let (x_set s19 5 31 0 0 z19.toNatClampNeg a2) fun s21 => x_b (fX6_converts a1 s21) fun z22 s22 => some (a3, s22)))) else (x_b (fX6_port a1 2 s9) fun z11 s11 => x_g (x_in z11 6464) (x_let (x_set s11 5 31 0 0 z11.toNatClampNeg a2) fun s13 => x_b (fX6_converts a1 s13) fun z14 s14 => some (a3, s14))))
set_option maxRecDepth 100000 in
set_option maxHeartbeats 4000000 in
theorem TX6_grant_179 {l : Launch} {w : xW} (hw : w.1.2 = true) {a1 : Int32} {a2 : Int32} {a3 : Int32} {σ τ : xS} {r : Int32} (h : BX6_grant_179 a1 a2 a3 σ = some (r, τ)) : xAt l w mX6_grant 179 [(0, .ref (w.2.2 5 30 0 0)), (1, .int a1), (2, .int a2), (3, .int a3)] [] σ (some (.int r)) τ := by
  rw [BX6_grant_179] at h
  refine x_aload_n dX6_grant_179 rfl 0 rfl ?_
  refine x_getR (d1 := 5) (K1 := 31) (p1 := 0) (r1 := 0) fl_X6_7 (ok_e30 hw) rfl dX6_grant_180 ?_
  refine x_iload_n dX6_grant_183 rfl 1 rfl ?_
  refine x_iconst (x := 3) dX6_grant_184 rfl ?_
  obtain ⟨z9, s9, h9, h⟩ := x_b_e h
  refine x_callS (As := [.int a1, .int 3]) (st := [.ref (w.2.2 5 31 0 0)]) (eX6_port hw  h9) cs_X6_44 (Nat.le_of_ble_eq_true rfl) rfl (Nat.le_of_ble_eq_true rfl) _ rfl dX6_grant_185 [.int z9, .ref (w.2.2 5 31 0 0)] rfl ?_
  obtain ⟨hg10, h⟩ := x_g_e h
  refine x_iald 6464 z9.toNatClampNeg rfl rfl rfl rfl (ok_e31 hw) hg10 dX6_grant_188 ?_
  refine x_if_ne (tgt := 220) dX6_grant_189 rfl (fun hc => ?_) (fun hc => ?_)
  · have h := x_f hc h
    refine x_aload_n dX6_grant_220 rfl 0 rfl ?_
    refine x_getR (d1 := 5) (K1 := 31) (p1 := 0) (r1 := 0) fl_X6_7 (ok_e30 hw) rfl dX6_grant_221 ?_
    refine x_iload_n dX6_grant_224 rfl 1 rfl ?_
    refine x_iconst (x := 2) dX6_grant_225 rfl ?_
    obtain ⟨z11, s11, h11, h⟩ := x_b_e h
    refine x_callS (As := [.int a1, .int 2]) (st := [.ref (w.2.2 5 31 0 0)]) (eX6_port hw  h11) cs_X6_44 (Nat.le_of_ble_eq_true rfl) rfl (Nat.le_of_ble_eq_true rfl) _ rfl dX6_grant_226 [.int z11, .ref (w.2.2 5 31 0 0)] rfl ?_
    refine x_iload_n dX6_grant_229 rfl 2 rfl ?_
    obtain ⟨hg12, h⟩ := x_g_e h
    obtain ⟨s13, hs13, h⟩ := x_let_e h
    refine x_iast 6464 z11.toNatClampNeg rfl s13 hs13 rfl rfl rfl (ok_e31 hw) hg12 dX6_grant_230 ?_
    refine x_aload_n dX6_grant_231 rfl 0 rfl ?_
    refine x_iload_n dX6_grant_232 rfl 1 rfl ?_
    obtain ⟨z14, s14, h14, h⟩ := x_b_e h
    refine x_callV (As := [.int a1]) (st := []) (eX6_converts hw  h14) cv_X6_71 (Nat.le_of_ble_eq_true rfl) (ok_e30 hw) rfl (Nat.le_of_ble_eq_true rfl) _ rfl dX6_grant_233 [] rfl ?_
    refine x_iload_n dX6_grant_236 rfl 3 rfl ?_
    exact x_iretH rfl dX6_grant_237 h
  · have h := x_t hc h
    refine x_aload_n dX6_grant_192 rfl 0 rfl ?_
    refine x_getR (d1 := 5) (K1 := 31) (p1 := 0) (r1 := 0) fl_X6_7 (ok_e30 hw) rfl dX6_grant_193 ?_
    refine x_bipush (x := 10) dX6_grant_196 rfl ?_
    refine x_dup2 dX6_grant_198 rfl rfl ?_
    refine x_iald 6464 10 rfl rfl rfl rfl (ok_e31 hw) rfl dX6_grant_199 ?_
    refine x_iconst (x := 1) dX6_grant_200 rfl ?_
    refine x_iadd dX6_grant_201 ?_
    obtain ⟨s15, hs15, h⟩ := x_let_e h
    refine x_iast 6464 10 rfl s15 hs15 rfl rfl rfl (ok_e31 hw) rfl dX6_grant_202 ?_
    refine x_aload_n dX6_grant_203 rfl 0 rfl ?_
    refine x_getR (d1 := 5) (K1 := 31) (p1 := 0) (r1 := 0) fl_X6_7 (ok_e30 hw) rfl dX6_grant_204 ?_
    refine x_iload_n dX6_grant_207 rfl 1 rfl ?_
    refine x_iconst (x := 3) dX6_grant_208 rfl ?_
    obtain ⟨z16, s16, h16, h⟩ := x_b_e h
    refine x_callS (As := [.int a1, .int 3]) (st := [.ref (w.2.2 5 31 0 0)]) (eX6_port hw  h16) cs_X6_44 (Nat.le_of_ble_eq_true rfl) rfl (Nat.le_of_ble_eq_true rfl) _ rfl dX6_grant_209 [.int z16, .ref (w.2.2 5 31 0 0)] rfl ?_
    refine x_aload_n dX6_grant_212 rfl 0 rfl ?_
    refine x_getR (d1 := 5) (K1 := 31) (p1 := 0) (r1 := 0) fl_X6_7 (ok_e30 hw) rfl dX6_grant_213 ?_
    refine x_bipush (x := 10) dX6_grant_216 rfl ?_
    refine x_iald 6464 10 rfl rfl rfl rfl (ok_e31 hw) rfl dX6_grant_218 ?_
    obtain ⟨hg17, h⟩ := x_g_e h
    obtain ⟨s18, hs18, h⟩ := x_let_e h
    refine x_iast 6464 z16.toNatClampNeg rfl s18 hs18 rfl rfl rfl (ok_e31 hw) hg17 dX6_grant_219 ?_
    refine x_aload_n dX6_grant_220 rfl 0 rfl ?_
    refine x_getR (d1 := 5) (K1 := 31) (p1 := 0) (r1 := 0) fl_X6_7 (ok_e30 hw) rfl dX6_grant_221 ?_
    refine x_iload_n dX6_grant_224 rfl 1 rfl ?_
    refine x_iconst (x := 2) dX6_grant_225 rfl ?_
    obtain ⟨z19, s19, h19, h⟩ := x_b_e h
    refine x_callS (As := [.int a1, .int 2]) (st := [.ref (w.2.2 5 31 0 0)]) (eX6_port hw  h19) cs_X6_44 (Nat.le_of_ble_eq_true rfl) rfl (Nat.le_of_ble_eq_true rfl) _ rfl dX6_grant_226 [.int z19, .ref (w.2.2 5 31 0 0)] rfl ?_
    refine x_iload_n dX6_grant_229 rfl 2 rfl ?_
    obtain ⟨hg20, h⟩ := x_g_e h
    obtain ⟨s21, hs21, h⟩ := x_let_e h
    refine x_iast 6464 z19.toNatClampNeg rfl s21 hs21 rfl rfl rfl (ok_e31 hw) hg20 dX6_grant_230 ?_
    refine x_aload_n dX6_grant_231 rfl 0 rfl ?_
    refine x_iload_n dX6_grant_232 rfl 1 rfl ?_
    obtain ⟨z22, s22, h22, h⟩ := x_b_e h
    refine x_callV (As := [.int a1]) (st := []) (eX6_converts hw  h22) cv_X6_71 (Nat.le_of_ble_eq_true rfl) (ok_e30 hw) rfl (Nat.le_of_ble_eq_true rfl) _ rfl dX6_grant_233 [] rfl ?_
    refine x_iload_n dX6_grant_236 rfl 3 rfl ?_
    exact x_iretH rfl dX6_grant_237 h
def BX6_grant_144 (a1 : Int32) (a2 : Int32) (a3 : Int32) (σ : xS) : Option (Int32 × xS) :=
  x_b (fX6_port a1 2 σ) fun z6 s6 => x_g (x_in z6 6464) (x_let (a2 - (s6 5 31 0 0 z6.toNatClampNeg)) fun t8 => if t8 ≤ 0 then (BX6_grant_179 a1 a2 a3 s6) else (x_b (fX6_free  s6) fun z23 s23 => if t8 ≤ z23 then (BX6_grant_179 a1 a2 a3 s23) else (x_b (fX6_brings  s23) fun z24 s24 => some ((-3), s24))))
set_option maxRecDepth 100000 in
set_option maxHeartbeats 4000000 in
theorem TX6_grant_144 {l : Launch} {w : xW} (hw : w.1.2 = true) {a1 : Int32} {a2 : Int32} {a3 : Int32} {σ τ : xS} {r : Int32} (h : BX6_grant_144 a1 a2 a3 σ = some (r, τ)) : xAt l w mX6_grant 144 [(0, .ref (w.2.2 5 30 0 0)), (1, .int a1), (2, .int a2), (3, .int a3)] [] σ (some (.int r)) τ := by
  rw [BX6_grant_144] at h
  refine x_iload_n dX6_grant_144 rfl 2 rfl ?_
  refine x_aload_n dX6_grant_145 rfl 0 rfl ?_
  refine x_getR (d1 := 5) (K1 := 31) (p1 := 0) (r1 := 0) fl_X6_7 (ok_e30 hw) rfl dX6_grant_146 ?_
  refine x_iload_n dX6_grant_149 rfl 1 rfl ?_
  refine x_iconst (x := 2) dX6_grant_150 rfl ?_
  obtain ⟨z6, s6, h6, h⟩ := x_b_e h
  refine x_callS (As := [.int a1, .int 2]) (st := [.ref (w.2.2 5 31 0 0), .int a2]) (eX6_port hw  h6) cs_X6_44 (Nat.le_of_ble_eq_true rfl) rfl (Nat.le_of_ble_eq_true rfl) _ rfl dX6_grant_151 [.int z6, .ref (w.2.2 5 31 0 0), .int a2] rfl ?_
  obtain ⟨hg7, h⟩ := x_g_e h
  refine x_iald 6464 z6.toNatClampNeg rfl rfl rfl rfl (ok_e31 hw) hg7 dX6_grant_154 ?_
  refine x_isub dX6_grant_155 ?_
  obtain ⟨t8, ht8, h⟩ := x_let_e h
  refine x_istore t8 ht8 dX6_grant_156 (Nat.le_of_ble_eq_true rfl) [(4, .int t8), (0, .ref (w.2.2 5 30 0 0)), (1, .int a1), (2, .int a2), (3, .int a3)] rfl ?_
  refine x_iload dX6_grant_158 0 rfl ?_
  refine x_if_le (tgt := 179) dX6_grant_160 rfl (fun hc => ?_) (fun hc => ?_)
  · have h := x_t hc h
    refine x_sub (L1 := [(0, .ref (w.2.2 5 30 0 0)), (1, .int a1), (2, .int a2), (3, .int a3)]) [1, 2, 3, 4] rfl ?_
    exact TX6_grant_179 hw  h
  · have h := x_f hc h
    refine x_iload dX6_grant_163 0 rfl ?_
    refine x_aload_n dX6_grant_165 rfl 1 rfl ?_
    obtain ⟨z23, s23, h23, h⟩ := x_b_e h
    refine x_callV (As := []) (st := [.int t8]) (eX6_free hw  h23) cv_X6_62 (Nat.le_of_ble_eq_true rfl) (ok_e30 hw) rfl (Nat.le_of_ble_eq_true rfl) _ rfl dX6_grant_166 [.int z23, .int t8] rfl ?_
    refine x_icmp_le (tgt := 179) dX6_grant_169 rfl (fun hc => ?_) (fun hc => ?_)
    · have h := x_t hc h
      refine x_sub (L1 := [(0, .ref (w.2.2 5 30 0 0)), (1, .int a1), (2, .int a2), (3, .int a3)]) [1, 2, 3, 4] rfl ?_
      exact TX6_grant_179 hw  h
    · have h := x_f hc h
      refine x_aload_n dX6_grant_172 rfl 1 rfl ?_
      obtain ⟨z24, s24, h24, h⟩ := x_b_e h
      refine x_callV (As := []) (st := []) (eX6_brings hw  h24) cv_X6_89 (Nat.le_of_ble_eq_true rfl) (ok_e30 hw) rfl (Nat.le_of_ble_eq_true rfl) _ rfl dX6_grant_173 [] rfl ?_
      refine x_bipush (x := (-3)) dX6_grant_176 (by decide) ?_
      exact x_iretH rfl dX6_grant_178 h
def BX6_grant_45 (a1 : Int32) (a2 : Int32) : Nat → Int32 → Int32 → Int32 → xS → Option (Int32 × xS)
  | 0, _, _, _, _ => none
  | n + 1, a3, a4, a5, σ => if (σ 5 31 0 0 1) ≤ a5 then (if 2 ≤ a4 then (x_b (fX6_keeps  σ) fun z25 s25 => if a3 = (-5) then (BX6_grant_144 a1 a2 a3 s25) else (x_b (fX6_drops a3 s25) fun z26 s26 => BX6_grant_144 a1 a2 a3 s26)) else (x_b (fX6_keeps  σ) fun z27 s27 => BX6_grant_144 a1 a2 (-5) s27)) else (x_b (fX6_port a5 3 σ) fun z28 s28 => x_g (x_in z28 6464) (if (s28 5 31 0 0 z28.toNatClampNeg) ≤ 0 then (x_let (a5 + 1) fun t30 => (BX6_grant_45 a1 a2 n) a3 a4 t30 s28) else (x_let (a4 + 1) fun t31 => if a3 = (-5) then (x_let (a5 + 1) fun t32 => (BX6_grant_45 a1 a2 n) a5 t31 t32 s28) else (x_b (fX6_port a5 3 s28) fun z33 s33 => x_g (x_in z33 6464) (x_b (fX6_port a3 3 s33) fun z35 s35 => x_g (x_in z35 6464) (if (s35 5 31 0 0 z35.toNatClampNeg) ≤ (s33 5 31 0 0 z33.toNatClampNeg) then (x_let (a5 + 1) fun t37 => (BX6_grant_45 a1 a2 n) a3 t31 t37 s35) else (x_let (a5 + 1) fun t38 => (BX6_grant_45 a1 a2 n) a5 t31 t38 s35)))))))
set_option maxRecDepth 100000 in
set_option maxHeartbeats 4000000 in
theorem TX6_grant_45 {l : Launch} {w : xW} (hw : w.1.2 = true) {a1 : Int32} {a2 : Int32} {τ : xS} {r : Int32} : ∀ (n : Nat) (a3 : Int32) (a4 : Int32) (a5 : Int32) (σ : xS), BX6_grant_45 a1 a2 n a3 a4 a5 σ = some (r, τ) → xAt l w mX6_grant 45 [(0, .ref (w.2.2 5 30 0 0)), (1, .int a1), (2, .int a2), (3, .int a3), (4, .int a4), (5, .int a5)] [] σ (some (.int r)) τ := by
  intro n
  induction n with
  | zero => intro a3 a4 a5 σ h; cases h
  | succ n ih =>
    intro a3 a4 a5 σ h
    rw [BX6_grant_45] at h
    refine x_iload dX6_grant_45 5 rfl ?_
    refine x_aload_n dX6_grant_47 rfl 0 rfl ?_
    refine x_getR (d1 := 5) (K1 := 31) (p1 := 0) (r1 := 0) fl_X6_7 (ok_e30 hw) rfl dX6_grant_48 ?_
    refine x_iconst (x := 1) dX6_grant_51 rfl ?_
    refine x_iald 6464 1 rfl rfl rfl rfl (ok_e31 hw) rfl dX6_grant_52 ?_
    refine x_icmp_ge (tgt := 116) dX6_grant_53 rfl (fun hc => ?_) (fun hc => ?_)
    · have h := x_t hc h
      refine x_iload dX6_grant_116 4 rfl ?_
      refine x_iconst (x := 2) dX6_grant_118 rfl ?_
      refine x_icmp_ge (tgt := 127) dX6_grant_119 rfl (fun hc => ?_) (fun hc => ?_)
      · have h := x_t hc h
        refine x_iload_n dX6_grant_127 rfl 3 rfl ?_
        refine x_istore_n a3 rfl dX6_grant_128 rfl (Nat.le_of_ble_eq_true rfl) [(3, .int a3), (0, .ref (w.2.2 5 30 0 0)), (1, .int a1), (2, .int a2), (4, .int a4), (5, .int a5)] rfl ?_
        refine x_aload_n dX6_grant_129 rfl 1 rfl ?_
        obtain ⟨z25, s25, h25, h⟩ := x_b_e h
        refine x_callV (As := []) (st := []) (eX6_keeps hw  h25) cv_X6_83 (Nat.le_of_ble_eq_true rfl) (ok_e30 hw) rfl (Nat.le_of_ble_eq_true rfl) _ rfl dX6_grant_130 [] rfl ?_
        refine x_iload_n dX6_grant_133 rfl 0 rfl ?_
        refine x_bipush (x := (-5)) dX6_grant_134 (by decide) ?_
        refine x_icmp_eq (tgt := 144) dX6_grant_136 rfl (fun hc => ?_) (fun hc => ?_)
        · have h := x_t hc h
          refine x_sub (L1 := [(0, .ref (w.2.2 5 30 0 0)), (1, .int a1), (2, .int a2), (3, .int a3)]) [1, 2, 3, 0] rfl ?_
          exact TX6_grant_144 hw  h
        · have h := x_f hc h
          refine x_aload_n dX6_grant_139 rfl 1 rfl ?_
          refine x_iload_n dX6_grant_140 rfl 0 rfl ?_
          obtain ⟨z26, s26, h26, h⟩ := x_b_e h
          refine x_callV (As := [.int a3]) (st := []) (eX6_drops hw  h26) cv_X6_86 (Nat.le_of_ble_eq_true rfl) (ok_e30 hw) rfl (Nat.le_of_ble_eq_true rfl) _ rfl dX6_grant_141 [] rfl ?_
          refine x_sub (L1 := [(0, .ref (w.2.2 5 30 0 0)), (1, .int a1), (2, .int a2), (3, .int a3)]) [1, 2, 3, 0] rfl ?_
          exact TX6_grant_144 hw  h
      · have h := x_f hc h
        refine x_bipush (x := (-5)) dX6_grant_122 (by decide) ?_
        refine x_goto (tgt := 128) dX6_grant_124 rfl ?_
        refine x_istore_n (-5) rfl dX6_grant_128 rfl (Nat.le_of_ble_eq_true rfl) [(3, .int (-5)), (0, .ref (w.2.2 5 30 0 0)), (1, .int a1), (2, .int a2), (4, .int a4), (5, .int a5)] rfl ?_
        refine x_aload_n dX6_grant_129 rfl 1 rfl ?_
        obtain ⟨z27, s27, h27, h⟩ := x_b_e h
        refine x_callV (As := []) (st := []) (eX6_keeps hw  h27) cv_X6_83 (Nat.le_of_ble_eq_true rfl) (ok_e30 hw) rfl (Nat.le_of_ble_eq_true rfl) _ rfl dX6_grant_130 [] rfl ?_
        refine x_iload_n dX6_grant_133 rfl 0 rfl ?_
        refine x_bipush (x := (-5)) dX6_grant_134 (by decide) ?_
        refine x_icmp_eq (tgt := 144) dX6_grant_136 rfl (fun hc => ?_) (fun hc => ?_)
        · skip
          refine x_sub (L1 := [(0, .ref (w.2.2 5 30 0 0)), (1, .int a1), (2, .int a2), (3, .int (-5))]) [1, 2, 3, 0] rfl ?_
          exact TX6_grant_144 hw  h
        · exact absurd hc (by decide)
    · have h := x_f hc h
      refine x_aload_n dX6_grant_56 rfl 0 rfl ?_
      refine x_getR (d1 := 5) (K1 := 31) (p1 := 0) (r1 := 0) fl_X6_7 (ok_e30 hw) rfl dX6_grant_57 ?_
      refine x_iload dX6_grant_60 5 rfl ?_
      refine x_iconst (x := 3) dX6_grant_62 rfl ?_
      obtain ⟨z28, s28, h28, h⟩ := x_b_e h
      refine x_callS (As := [.int a5, .int 3]) (st := [.ref (w.2.2 5 31 0 0)]) (eX6_port hw  h28) cs_X6_44 (Nat.le_of_ble_eq_true rfl) rfl (Nat.le_of_ble_eq_true rfl) _ rfl dX6_grant_63 [.int z28, .ref (w.2.2 5 31 0 0)] rfl ?_
      obtain ⟨hg29, h⟩ := x_g_e h
      refine x_iald 6464 z28.toNatClampNeg rfl rfl rfl rfl (ok_e31 hw) hg29 dX6_grant_66 ?_
      refine x_if_le (tgt := 110) dX6_grant_67 rfl (fun hc => ?_) (fun hc => ?_)
      · have h := x_t hc h
        obtain ⟨t30, ht30, h⟩ := x_let_e h
        refine x_iinc t30 1 rfl ht30 dX6_grant_110 5 rfl (Nat.le_of_ble_eq_true rfl) [(5, .int t30), (0, .ref (w.2.2 5 30 0 0)), (1, .int a1), (2, .int a2), (3, .int a3), (4, .int a4)] rfl ?_
        refine x_goto (tgt := 45) dX6_grant_113 rfl ?_
        refine x_sub (L1 := [(0, .ref (w.2.2 5 30 0 0)), (1, .int a1), (2, .int a2), (3, .int a3), (4, .int a4), (5, .int t30)]) [1, 2, 3, 4, 5, 0] rfl ?_
        exact ih _ _ _ _ h
      · have h := x_f hc h
        obtain ⟨t31, ht31, h⟩ := x_let_e h
        refine x_iinc t31 1 rfl ht31 dX6_grant_70 4 rfl (Nat.le_of_ble_eq_true rfl) [(4, .int t31), (0, .ref (w.2.2 5 30 0 0)), (1, .int a1), (2, .int a2), (3, .int a3), (5, .int a5)] rfl ?_
        refine x_iload_n dX6_grant_73 rfl 4 rfl ?_
        refine x_bipush (x := (-5)) dX6_grant_74 (by decide) ?_
        refine x_icmp_eq (tgt := 103) dX6_grant_76 rfl (fun hc => ?_) (fun hc => ?_)
        · have h := x_t hc h
          refine x_iload dX6_grant_103 5 rfl ?_
          refine x_goto (tgt := 109) dX6_grant_105 rfl ?_
          refine x_istore_n a5 rfl dX6_grant_109 rfl (Nat.le_of_ble_eq_true rfl) [(3, .int a5), (4, .int t31), (0, .ref (w.2.2 5 30 0 0)), (1, .int a1), (2, .int a2), (5, .int a5)] rfl ?_
          obtain ⟨t32, ht32, h⟩ := x_let_e h
          refine x_iinc t32 1 rfl ht32 dX6_grant_110 5 rfl (Nat.le_of_ble_eq_true rfl) [(5, .int t32), (3, .int a5), (4, .int t31), (0, .ref (w.2.2 5 30 0 0)), (1, .int a1), (2, .int a2)] rfl ?_
          refine x_goto (tgt := 45) dX6_grant_113 rfl ?_
          refine x_sub (L1 := [(0, .ref (w.2.2 5 30 0 0)), (1, .int a1), (2, .int a2), (3, .int a5), (4, .int t31), (5, .int t32)]) [3, 4, 5, 1, 2, 0] rfl ?_
          exact ih _ _ _ _ h
        · have h := x_f hc h
          refine x_aload_n dX6_grant_79 rfl 1 rfl ?_
          refine x_getR (d1 := 5) (K1 := 31) (p1 := 0) (r1 := 0) fl_X6_7 (ok_e30 hw) rfl dX6_grant_80 ?_
          refine x_iload dX6_grant_83 5 rfl ?_
          refine x_iconst (x := 3) dX6_grant_85 rfl ?_
          obtain ⟨z33, s33, h33, h⟩ := x_b_e h
          refine x_callS (As := [.int a5, .int 3]) (st := [.ref (w.2.2 5 31 0 0)]) (eX6_port hw  h33) cs_X6_44 (Nat.le_of_ble_eq_true rfl) rfl (Nat.le_of_ble_eq_true rfl) _ rfl dX6_grant_86 [.int z33, .ref (w.2.2 5 31 0 0)] rfl ?_
          obtain ⟨hg34, h⟩ := x_g_e h
          refine x_iald 6464 z33.toNatClampNeg rfl rfl rfl rfl (ok_e31 hw) hg34 dX6_grant_89 ?_
          refine x_aload_n dX6_grant_90 rfl 1 rfl ?_
          refine x_getR (d1 := 5) (K1 := 31) (p1 := 0) (r1 := 0) fl_X6_7 (ok_e30 hw) rfl dX6_grant_91 ?_
          refine x_iload_n dX6_grant_94 rfl 4 rfl ?_
          refine x_iconst (x := 3) dX6_grant_95 rfl ?_
          obtain ⟨z35, s35, h35, h⟩ := x_b_e h
          refine x_callS (As := [.int a3, .int 3]) (st := [.ref (w.2.2 5 31 0 0), .int (s33 5 31 0 0 z33.toNatClampNeg)]) (eX6_port hw  h35) cs_X6_44 (Nat.le_of_ble_eq_true rfl) rfl (Nat.le_of_ble_eq_true rfl) _ rfl dX6_grant_96 [.int z35, .ref (w.2.2 5 31 0 0), .int (s33 5 31 0 0 z33.toNatClampNeg)] rfl ?_
          obtain ⟨hg36, h⟩ := x_g_e h
          refine x_iald 6464 z35.toNatClampNeg rfl rfl rfl rfl (ok_e31 hw) hg36 dX6_grant_99 ?_
          refine x_icmp_ge (tgt := 108) dX6_grant_100 rfl (fun hc => ?_) (fun hc => ?_)
          · have h := x_t hc h
            refine x_iload_n dX6_grant_108 rfl 4 rfl ?_
            refine x_istore_n a3 rfl dX6_grant_109 rfl (Nat.le_of_ble_eq_true rfl) [(3, .int a3), (4, .int t31), (0, .ref (w.2.2 5 30 0 0)), (1, .int a1), (2, .int a2), (5, .int a5)] rfl ?_
            obtain ⟨t37, ht37, h⟩ := x_let_e h
            refine x_iinc t37 1 rfl ht37 dX6_grant_110 5 rfl (Nat.le_of_ble_eq_true rfl) [(5, .int t37), (3, .int a3), (4, .int t31), (0, .ref (w.2.2 5 30 0 0)), (1, .int a1), (2, .int a2)] rfl ?_
            refine x_goto (tgt := 45) dX6_grant_113 rfl ?_
            refine x_sub (L1 := [(0, .ref (w.2.2 5 30 0 0)), (1, .int a1), (2, .int a2), (3, .int a3), (4, .int t31), (5, .int t37)]) [3, 4, 5, 1, 2, 0] rfl ?_
            exact ih _ _ _ _ h
          · have h := x_f hc h
            refine x_iload dX6_grant_103 5 rfl ?_
            refine x_goto (tgt := 109) dX6_grant_105 rfl ?_
            refine x_istore_n a5 rfl dX6_grant_109 rfl (Nat.le_of_ble_eq_true rfl) [(3, .int a5), (4, .int t31), (0, .ref (w.2.2 5 30 0 0)), (1, .int a1), (2, .int a2), (5, .int a5)] rfl ?_
            obtain ⟨t38, ht38, h⟩ := x_let_e h
            refine x_iinc t38 1 rfl ht38 dX6_grant_110 5 rfl (Nat.le_of_ble_eq_true rfl) [(5, .int t38), (3, .int a5), (4, .int t31), (0, .ref (w.2.2 5 30 0 0)), (1, .int a1), (2, .int a2)] rfl ?_
            refine x_goto (tgt := 45) dX6_grant_113 rfl ?_
            refine x_sub (L1 := [(0, .ref (w.2.2 5 30 0 0)), (1, .int a1), (2, .int a2), (3, .int a5), (4, .int t31), (5, .int t38)]) [3, 4, 5, 1, 2, 0] rfl ?_
            exact ih _ _ _ _ h
def fX6_grant (a1 : Int32) (a2 : Int32) (σ : xS) : Option (Int32 × xS) :=
  x_b (fX6_isPort a1 σ) fun z1 s1 => if z1 = 0 then (some ((-1), s1)) else (x_b (fX6_in a2 1 32 s1) fun z2 s2 => if z2 = 0 then (some ((-2), s2)) else (x_b (fX6_port a1 3 s2) fun z3 s3 => x_g (x_in z3 6464) (if (s3 5 31 0 0 z3.toNatClampNeg) = 0 then (BX6_grant_45 a1 a2 x_FU (-5) 0 0 s3) else (x_b (fX6_keeps  s3) fun z5 s5 => BX6_grant_144 a1 a2 (-5) s5))))
set_option maxRecDepth 100000 in
set_option maxHeartbeats 4000000 in
theorem eX6_grant {l : Launch} {w : xW} (hw : w.1.2 = true) {a1 : Int32} {a2 : Int32} {σ τ : xS} {r : Int32} (h : fX6_grant a1 a2 σ = some (r, τ)) : xEV l w yX6_grant mX6_grant [.ref (w.2.2 5 30 0 0), .int a1, .int a2] σ (some (.int r)) τ := by
  rw [fX6_grant] at h
  refine x_enter (by decide +kernel) rfl (Nat.le_of_ble_eq_true rfl) ?_
  refine x_sub (L1 := [(0, .ref (w.2.2 5 30 0 0)), (1, .int a1), (2, .int a2)]) [0, 1, 2] rfl ?_
  refine x_aload_n dX6_grant_0 rfl 0 rfl ?_
  refine x_iload_n dX6_grant_1 rfl 1 rfl ?_
  obtain ⟨z1, s1, h1, h⟩ := x_b_e h
  refine x_callV (As := [.int a1]) (st := []) (eX6_isPort hw  h1) cv_X6_40 (Nat.le_of_ble_eq_true rfl) (ok_e30 hw) rfl (Nat.le_of_ble_eq_true rfl) _ rfl dX6_grant_2 [.int z1] rfl ?_
  refine x_if_ne (tgt := 10) dX6_grant_5 rfl (fun hc => ?_) (fun hc => ?_)
  · have h := x_f hc h
    refine x_iload_n dX6_grant_10 rfl 2 rfl ?_
    refine x_iconst (x := 1) dX6_grant_11 rfl ?_
    refine x_bipush (x := 32) dX6_grant_12 rfl ?_
    obtain ⟨z2, s2, h2, h⟩ := x_b_e h
    refine x_callS (As := [.int a2, .int 1, .int 32]) (st := []) (eX6_in hw  h2) cs_X6_36 (Nat.le_of_ble_eq_true rfl) rfl (Nat.le_of_ble_eq_true rfl) _ rfl dX6_grant_14 [.int z2] rfl ?_
    refine x_if_ne (tgt := 23) dX6_grant_17 rfl (fun hc => ?_) (fun hc => ?_)
    · have h := x_f hc h
      refine x_bipush (x := (-5)) dX6_grant_23 (by decide) ?_
      refine x_istore_n (-5) rfl dX6_grant_25 rfl (Nat.le_of_ble_eq_true rfl) [(3, .int (-5)), (0, .ref (w.2.2 5 30 0 0)), (1, .int a1), (2, .int a2)] rfl ?_
      refine x_aload_n dX6_grant_26 rfl 1 rfl ?_
      refine x_getR (d1 := 5) (K1 := 31) (p1 := 0) (r1 := 0) fl_X6_7 (ok_e30 hw) rfl dX6_grant_27 ?_
      refine x_iload_n dX6_grant_30 rfl 2 rfl ?_
      refine x_iconst (x := 3) dX6_grant_31 rfl ?_
      obtain ⟨z3, s3, h3, h⟩ := x_b_e h
      refine x_callS (As := [.int a1, .int 3]) (st := [.ref (w.2.2 5 31 0 0)]) (eX6_port hw  h3) cs_X6_44 (Nat.le_of_ble_eq_true rfl) rfl (Nat.le_of_ble_eq_true rfl) _ rfl dX6_grant_32 [.int z3, .ref (w.2.2 5 31 0 0)] rfl ?_
      obtain ⟨hg4, h⟩ := x_g_e h
      refine x_iald 6464 z3.toNatClampNeg rfl rfl rfl rfl (ok_e31 hw) hg4 dX6_grant_35 ?_
      refine x_if_ne (tgt := 129) dX6_grant_36 rfl (fun hc => ?_) (fun hc => ?_)
      · have h := x_f hc h
        refine x_aload_n dX6_grant_129 rfl 1 rfl ?_
        obtain ⟨z5, s5, h5, h⟩ := x_b_e h
        refine x_callV (As := []) (st := []) (eX6_keeps hw  h5) cv_X6_83 (Nat.le_of_ble_eq_true rfl) (ok_e30 hw) rfl (Nat.le_of_ble_eq_true rfl) _ rfl dX6_grant_130 [] rfl ?_
        refine x_iload_n dX6_grant_133 rfl 0 rfl ?_
        refine x_bipush (x := (-5)) dX6_grant_134 (by decide) ?_
        refine x_icmp_eq (tgt := 144) dX6_grant_136 rfl (fun hc => ?_) (fun hc => ?_)
        · skip
          refine x_sub (L1 := [(0, .ref (w.2.2 5 30 0 0)), (1, .int a1), (2, .int a2), (3, .int (-5))]) [1, 2, 3, 0] rfl ?_
          exact TX6_grant_144 hw  h
        · exact absurd hc (by decide)
      · have h := x_t hc h
        refine x_iconst (x := 0) dX6_grant_39 rfl ?_
        refine x_istore 0 rfl dX6_grant_40 (Nat.le_of_ble_eq_true rfl) [(4, .int 0), (3, .int (-5)), (0, .ref (w.2.2 5 30 0 0)), (1, .int a1), (2, .int a2)] rfl ?_
        refine x_iconst (x := 0) dX6_grant_42 rfl ?_
        refine x_istore 0 rfl dX6_grant_43 (Nat.le_of_ble_eq_true rfl) [(5, .int 0), (4, .int 0), (3, .int (-5)), (0, .ref (w.2.2 5 30 0 0)), (1, .int a1), (2, .int a2)] rfl ?_
        refine x_sub (L1 := [(0, .ref (w.2.2 5 30 0 0)), (1, .int a1), (2, .int a2), (3, .int (-5)), (4, .int 0), (5, .int 0)]) [3, 4, 5, 2, 1, 0] rfl ?_
        exact TX6_grant_45 hw _ _ _ _ _ h
    · have h := x_t hc h
      refine x_bipush (x := (-2)) dX6_grant_20 (by decide) ?_
      exact x_iretH rfl dX6_grant_22 h
  · have h := x_t hc h
    refine x_iconst (x := (-1)) dX6_grant_8 (by decide) ?_
    exact x_iretH rfl dX6_grant_9 h
def fX6_withdraw (a1 : Int32) (σ : xS) : Option (Int32 × xS) :=
  x_b (fX6_isPort a1 σ) fun z1 s1 => if z1 = 0 then (some ((-1), s1)) else (x_b (fX6_port a1 3 s1) fun z2 s2 => x_g (x_in z2 6464) (if (s2 5 31 0 0 z2.toNatClampNeg) = 0 then (some ((-5), s2)) else (x_b (fX6_port a1 2 s2) fun z4 s4 => x_g (x_in z4 6464) (x_let (s4 5 31 0 0 z4.toNatClampNeg) fun t6 => x_b (fX6_drops a1 s4) fun z7 s7 => some (t6, s7)))))
set_option maxRecDepth 100000 in
set_option maxHeartbeats 4000000 in
theorem eX6_withdraw {l : Launch} {w : xW} (hw : w.1.2 = true) {a1 : Int32} {σ τ : xS} {r : Int32} (h : fX6_withdraw a1 σ = some (r, τ)) : xEV l w yX6_withdraw mX6_withdraw [.ref (w.2.2 5 30 0 0), .int a1] σ (some (.int r)) τ := by
  rw [fX6_withdraw] at h
  refine x_enter (by decide +kernel) rfl (Nat.le_of_ble_eq_true rfl) ?_
  refine x_sub (L1 := [(0, .ref (w.2.2 5 30 0 0)), (1, .int a1)]) [0, 1] rfl ?_
  refine x_aload_n dX6_withdraw_0 rfl 0 rfl ?_
  refine x_iload_n dX6_withdraw_1 rfl 1 rfl ?_
  obtain ⟨z1, s1, h1, h⟩ := x_b_e h
  refine x_callV (As := [.int a1]) (st := []) (eX6_isPort hw  h1) cv_X6_40 (Nat.le_of_ble_eq_true rfl) (ok_e30 hw) rfl (Nat.le_of_ble_eq_true rfl) _ rfl dX6_withdraw_2 [.int z1] rfl ?_
  refine x_if_ne (tgt := 10) dX6_withdraw_5 rfl (fun hc => ?_) (fun hc => ?_)
  · have h := x_f hc h
    refine x_aload_n dX6_withdraw_10 rfl 0 rfl ?_
    refine x_getR (d1 := 5) (K1 := 31) (p1 := 0) (r1 := 0) fl_X6_7 (ok_e30 hw) rfl dX6_withdraw_11 ?_
    refine x_iload_n dX6_withdraw_14 rfl 1 rfl ?_
    refine x_iconst (x := 3) dX6_withdraw_15 rfl ?_
    obtain ⟨z2, s2, h2, h⟩ := x_b_e h
    refine x_callS (As := [.int a1, .int 3]) (st := [.ref (w.2.2 5 31 0 0)]) (eX6_port hw  h2) cs_X6_44 (Nat.le_of_ble_eq_true rfl) rfl (Nat.le_of_ble_eq_true rfl) _ rfl dX6_withdraw_16 [.int z2, .ref (w.2.2 5 31 0 0)] rfl ?_
    obtain ⟨hg3, h⟩ := x_g_e h
    refine x_iald 6464 z2.toNatClampNeg rfl rfl rfl rfl (ok_e31 hw) hg3 dX6_withdraw_19 ?_
    refine x_if_ne (tgt := 26) dX6_withdraw_20 rfl (fun hc => ?_) (fun hc => ?_)
    · have h := x_f hc h
      refine x_aload_n dX6_withdraw_26 rfl 0 rfl ?_
      refine x_getR (d1 := 5) (K1 := 31) (p1 := 0) (r1 := 0) fl_X6_7 (ok_e30 hw) rfl dX6_withdraw_27 ?_
      refine x_iload_n dX6_withdraw_30 rfl 1 rfl ?_
      refine x_iconst (x := 2) dX6_withdraw_31 rfl ?_
      obtain ⟨z4, s4, h4, h⟩ := x_b_e h
      refine x_callS (As := [.int a1, .int 2]) (st := [.ref (w.2.2 5 31 0 0)]) (eX6_port hw  h4) cs_X6_44 (Nat.le_of_ble_eq_true rfl) rfl (Nat.le_of_ble_eq_true rfl) _ rfl dX6_withdraw_32 [.int z4, .ref (w.2.2 5 31 0 0)] rfl ?_
      obtain ⟨hg5, h⟩ := x_g_e h
      refine x_iald 6464 z4.toNatClampNeg rfl rfl rfl rfl (ok_e31 hw) hg5 dX6_withdraw_35 ?_
      obtain ⟨t6, ht6, h⟩ := x_let_e h
      refine x_istore_n t6 ht6 dX6_withdraw_36 rfl (Nat.le_of_ble_eq_true rfl) [(2, .int t6), (0, .ref (w.2.2 5 30 0 0)), (1, .int a1)] rfl ?_
      refine x_aload_n dX6_withdraw_37 rfl 1 rfl ?_
      refine x_iload_n dX6_withdraw_38 rfl 2 rfl ?_
      obtain ⟨z7, s7, h7, h⟩ := x_b_e h
      refine x_callV (As := [.int a1]) (st := []) (eX6_drops hw  h7) cv_X6_86 (Nat.le_of_ble_eq_true rfl) (ok_e30 hw) rfl (Nat.le_of_ble_eq_true rfl) _ rfl dX6_withdraw_39 [] rfl ?_
      refine x_iload_n dX6_withdraw_42 rfl 0 rfl ?_
      exact x_iretH rfl dX6_withdraw_43 h
    · have h := x_t hc h
      refine x_bipush (x := (-5)) dX6_withdraw_23 (by decide) ?_
      exact x_iretH rfl dX6_withdraw_25 h
  · have h := x_t hc h
    refine x_iconst (x := (-1)) dX6_withdraw_8 (by decide) ?_
    exact x_iretH rfl dX6_withdraw_9 h
def BX6_slotOf_2 (a1 : Int32) : Nat → Int32 → xS → Option (Int32 × xS)
  | 0, _, _ => none
  | n + 1, a2, σ => if 128 ≤ a2 then (some ((-1), σ)) else (x_b (fX6_packet a2 3 σ) fun z1 s1 => x_g (x_in z1 6464) (if (s1 5 31 0 0 z1.toNatClampNeg) = 1 then (x_b (fX6_packet a2 0 s1) fun z4 s4 => x_g (x_in z4 6464) (if (s4 5 31 0 0 z4.toNatClampNeg) = a1 then (some (a2, s4)) else (x_let (a2 + 1) fun t6 => (BX6_slotOf_2 a1 n) t6 s4))) else (x_let (a2 + 1) fun t3 => (BX6_slotOf_2 a1 n) t3 s1)))
set_option maxRecDepth 100000 in
set_option maxHeartbeats 4000000 in
theorem TX6_slotOf_2 {l : Launch} {w : xW} (hw : w.1.2 = true) {a1 : Int32} {τ : xS} {r : Int32} : ∀ (n : Nat) (a2 : Int32) (σ : xS), BX6_slotOf_2 a1 n a2 σ = some (r, τ) → xAt l w mX6_slotOf 2 [(0, .ref (w.2.2 5 30 0 0)), (1, .int a1), (2, .int a2)] [] σ (some (.int r)) τ := by
  intro n
  induction n with
  | zero => intro a2 σ h; cases h
  | succ n ih =>
    intro a2 σ h
    rw [BX6_slotOf_2] at h
    refine x_iload_n dX6_slotOf_2 rfl 2 rfl ?_
    refine x_sipush (x := 128) dX6_slotOf_3 rfl ?_
    refine x_icmp_ge (tgt := 45) dX6_slotOf_6 rfl (fun hc => ?_) (fun hc => ?_)
    · have h := x_t hc h
      refine x_iconst (x := (-1)) dX6_slotOf_45 (by decide) ?_
      exact x_iretH rfl dX6_slotOf_46 h
    · have h := x_f hc h
      refine x_aload_n dX6_slotOf_9 rfl 0 rfl ?_
      refine x_getR (d1 := 5) (K1 := 31) (p1 := 0) (r1 := 0) fl_X6_7 (ok_e30 hw) rfl dX6_slotOf_10 ?_
      refine x_iload_n dX6_slotOf_13 rfl 2 rfl ?_
      refine x_iconst (x := 3) dX6_slotOf_14 rfl ?_
      obtain ⟨z1, s1, h1, h⟩ := x_b_e h
      refine x_callS (As := [.int a2, .int 3]) (st := [.ref (w.2.2 5 31 0 0)]) (eX6_packet hw  h1) cs_X6_92 (Nat.le_of_ble_eq_true rfl) rfl (Nat.le_of_ble_eq_true rfl) _ rfl dX6_slotOf_15 [.int z1, .ref (w.2.2 5 31 0 0)] rfl ?_
      obtain ⟨hg2, h⟩ := x_g_e h
      refine x_iald 6464 z1.toNatClampNeg rfl rfl rfl rfl (ok_e31 hw) hg2 dX6_slotOf_18 ?_
      refine x_iconst (x := 1) dX6_slotOf_19 rfl ?_
      refine x_icmp_ne (tgt := 39) dX6_slotOf_20 rfl (fun hc => ?_) (fun hc => ?_)
      · have h := x_f hc h
        obtain ⟨t3, ht3, h⟩ := x_let_e h
        refine x_iinc t3 1 rfl ht3 dX6_slotOf_39 2 rfl (Nat.le_of_ble_eq_true rfl) [(2, .int t3), (0, .ref (w.2.2 5 30 0 0)), (1, .int a1)] rfl ?_
        refine x_goto (tgt := 2) dX6_slotOf_42 rfl ?_
        refine x_sub (L1 := [(0, .ref (w.2.2 5 30 0 0)), (1, .int a1), (2, .int t3)]) [1, 2, 0] rfl ?_
        exact ih _ _ h
      · have h := x_t hc h
        refine x_aload_n dX6_slotOf_23 rfl 0 rfl ?_
        refine x_getR (d1 := 5) (K1 := 31) (p1 := 0) (r1 := 0) fl_X6_7 (ok_e30 hw) rfl dX6_slotOf_24 ?_
        refine x_iload_n dX6_slotOf_27 rfl 2 rfl ?_
        refine x_iconst (x := 0) dX6_slotOf_28 rfl ?_
        obtain ⟨z4, s4, h4, h⟩ := x_b_e h
        refine x_callS (As := [.int a2, .int 0]) (st := [.ref (w.2.2 5 31 0 0)]) (eX6_packet hw  h4) cs_X6_92 (Nat.le_of_ble_eq_true rfl) rfl (Nat.le_of_ble_eq_true rfl) _ rfl dX6_slotOf_29 [.int z4, .ref (w.2.2 5 31 0 0)] rfl ?_
        obtain ⟨hg5, h⟩ := x_g_e h
        refine x_iald 6464 z4.toNatClampNeg rfl rfl rfl rfl (ok_e31 hw) hg5 dX6_slotOf_32 ?_
        refine x_iload_n dX6_slotOf_33 rfl 1 rfl ?_
        refine x_icmp_ne (tgt := 39) dX6_slotOf_34 rfl (fun hc => ?_) (fun hc => ?_)
        · have h := x_f hc h
          obtain ⟨t6, ht6, h⟩ := x_let_e h
          refine x_iinc t6 1 rfl ht6 dX6_slotOf_39 2 rfl (Nat.le_of_ble_eq_true rfl) [(2, .int t6), (0, .ref (w.2.2 5 30 0 0)), (1, .int a1)] rfl ?_
          refine x_goto (tgt := 2) dX6_slotOf_42 rfl ?_
          refine x_sub (L1 := [(0, .ref (w.2.2 5 30 0 0)), (1, .int a1), (2, .int t6)]) [1, 2, 0] rfl ?_
          exact ih _ _ h
        · have h := x_t hc h
          refine x_iload_n dX6_slotOf_37 rfl 2 rfl ?_
          exact x_iretH rfl dX6_slotOf_38 h
def fX6_slotOf (a1 : Int32) (σ : xS) : Option (Int32 × xS) :=
  BX6_slotOf_2 a1 x_FU 0 σ
set_option maxRecDepth 100000 in
set_option maxHeartbeats 4000000 in
theorem eX6_slotOf {l : Launch} {w : xW} (hw : w.1.2 = true) {a1 : Int32} {σ τ : xS} {r : Int32} (h : fX6_slotOf a1 σ = some (r, τ)) : xEV l w yX6_slotOf mX6_slotOf [.ref (w.2.2 5 30 0 0), .int a1] σ (some (.int r)) τ := by
  rw [fX6_slotOf] at h
  refine x_enter (by decide +kernel) rfl (Nat.le_of_ble_eq_true rfl) ?_
  refine x_sub (L1 := [(0, .ref (w.2.2 5 30 0 0)), (1, .int a1)]) [0, 1] rfl ?_
  refine x_iconst (x := 0) dX6_slotOf_0 rfl ?_
  refine x_istore_n 0 rfl dX6_slotOf_1 rfl (Nat.le_of_ble_eq_true rfl) [(2, .int 0), (0, .ref (w.2.2 5 30 0 0)), (1, .int a1)] rfl ?_
  refine x_sub (L1 := [(0, .ref (w.2.2 5 30 0 0)), (1, .int a1), (2, .int 0)]) [1, 2, 0] rfl ?_
  exact TX6_slotOf_2 hw _ _ _ h
def BX6_newSlot_2 : Nat → Int32 → xS → Option (Int32 × xS)
  | 0, _, _ => none
  | n + 1, a1, σ => x_b (fX6_packet a1 3 σ) fun z1 s1 => x_g (x_in z1 6464) (if (s1 5 31 0 0 z1.toNatClampNeg) = 1 then (x_let (a1 + 1) fun t3 => (BX6_newSlot_2 n) t3 s1) else (some (a1, s1)))
set_option maxRecDepth 100000 in
set_option maxHeartbeats 4000000 in
theorem TX6_newSlot_2 {l : Launch} {w : xW} (hw : w.1.2 = true) {τ : xS} {r : Int32} : ∀ (n : Nat) (a1 : Int32) (σ : xS), BX6_newSlot_2 n a1 σ = some (r, τ) → xAt l w mX6_newSlot 2 [(0, .ref (w.2.2 5 30 0 0)), (1, .int a1)] [] σ (some (.int r)) τ := by
  intro n
  induction n with
  | zero => intro a1 σ h; cases h
  | succ n ih =>
    intro a1 σ h
    rw [BX6_newSlot_2] at h
    refine x_aload_n dX6_newSlot_2 rfl 0 rfl ?_
    refine x_getR (d1 := 5) (K1 := 31) (p1 := 0) (r1 := 0) fl_X6_7 (ok_e30 hw) rfl dX6_newSlot_3 ?_
    refine x_iload_n dX6_newSlot_6 rfl 1 rfl ?_
    refine x_iconst (x := 3) dX6_newSlot_7 rfl ?_
    obtain ⟨z1, s1, h1, h⟩ := x_b_e h
    refine x_callS (As := [.int a1, .int 3]) (st := [.ref (w.2.2 5 31 0 0)]) (eX6_packet hw  h1) cs_X6_92 (Nat.le_of_ble_eq_true rfl) rfl (Nat.le_of_ble_eq_true rfl) _ rfl dX6_newSlot_8 [.int z1, .ref (w.2.2 5 31 0 0)] rfl ?_
    obtain ⟨hg2, h⟩ := x_g_e h
    refine x_iald 6464 z1.toNatClampNeg rfl rfl rfl rfl (ok_e31 hw) hg2 dX6_newSlot_11 ?_
    refine x_iconst (x := 1) dX6_newSlot_12 rfl ?_
    refine x_icmp_ne (tgt := 22) dX6_newSlot_13 rfl (fun hc => ?_) (fun hc => ?_)
    · have h := x_f hc h
      refine x_iload_n dX6_newSlot_22 rfl 1 rfl ?_
      exact x_iretH rfl dX6_newSlot_23 h
    · have h := x_t hc h
      obtain ⟨t3, ht3, h⟩ := x_let_e h
      refine x_iinc t3 1 rfl ht3 dX6_newSlot_16 1 rfl (Nat.le_of_ble_eq_true rfl) [(1, .int t3), (0, .ref (w.2.2 5 30 0 0))] rfl ?_
      refine x_goto (tgt := 2) dX6_newSlot_19 rfl ?_
      refine x_sub (L1 := [(0, .ref (w.2.2 5 30 0 0)), (1, .int t3)]) [1, 0] rfl ?_
      exact ih _ _ h
def fX6_newSlot (σ : xS) : Option (Int32 × xS) :=
  BX6_newSlot_2 x_FU 0 σ
set_option maxRecDepth 100000 in
set_option maxHeartbeats 4000000 in
theorem eX6_newSlot {l : Launch} {w : xW} (hw : w.1.2 = true) {σ τ : xS} {r : Int32} (h : fX6_newSlot σ = some (r, τ)) : xEV l w yX6_newSlot mX6_newSlot [.ref (w.2.2 5 30 0 0)] σ (some (.int r)) τ := by
  rw [fX6_newSlot] at h
  refine x_enter (by decide +kernel) rfl (Nat.le_of_ble_eq_true rfl) ?_
  refine x_sub (L1 := [(0, .ref (w.2.2 5 30 0 0))]) [0] rfl ?_
  refine x_iconst (x := 0) dX6_newSlot_0 rfl ?_
  refine x_istore_n 0 rfl dX6_newSlot_1 rfl (Nat.le_of_ble_eq_true rfl) [(1, .int 0), (0, .ref (w.2.2 5 30 0 0))] rfl ?_
  refine x_sub (L1 := [(0, .ref (w.2.2 5 30 0 0)), (1, .int 0)]) [1, 0] rfl ?_
  exact TX6_newSlot_2 hw _ _ _ h
def fX6_isFree (a1 : Int32) (σ : xS) : Option (Int32 × xS) :=
  if (σ 5 31 0 0 0) ≤ a1 then (some (0, σ)) else (x_let (6336 + a1) fun t1 => x_g (x_in t1 6464) (if (σ 5 31 0 0 t1.toNatClampNeg) = 0 then (some (1, σ)) else (some (0, σ))))
set_option maxRecDepth 100000 in
set_option maxHeartbeats 4000000 in
theorem eX6_isFree {l : Launch} {w : xW} (hw : w.1.2 = true) {a1 : Int32} {σ τ : xS} {r : Int32} (h : fX6_isFree a1 σ = some (r, τ)) : xEV l w yX6_isFree mX6_isFree [.ref (w.2.2 5 30 0 0), .int a1] σ (some (.int r)) τ := by
  rw [fX6_isFree] at h
  refine x_enter (by decide +kernel) rfl (Nat.le_of_ble_eq_true rfl) ?_
  refine x_sub (L1 := [(0, .ref (w.2.2 5 30 0 0)), (1, .int a1)]) [0, 1] rfl ?_
  refine x_iload_n dX6_isFree_0 rfl 1 rfl ?_
  refine x_aload_n dX6_isFree_1 rfl 0 rfl ?_
  refine x_getR (d1 := 5) (K1 := 31) (p1 := 0) (r1 := 0) fl_X6_7 (ok_e30 hw) rfl dX6_isFree_2 ?_
  refine x_iconst (x := 0) dX6_isFree_5 rfl ?_
  refine x_iald 6464 0 rfl rfl rfl rfl (ok_e31 hw) rfl dX6_isFree_6 ?_
  refine x_icmp_ge (tgt := 27) dX6_isFree_7 rfl (fun hc => ?_) (fun hc => ?_)
  · have h := x_t hc h
    refine x_iconst (x := 0) dX6_isFree_27 rfl ?_
    exact x_zretH rfl rfl dX6_isFree_28 h
  · have h := x_f hc h
    refine x_aload_n dX6_isFree_10 rfl 0 rfl ?_
    refine x_getR (d1 := 5) (K1 := 31) (p1 := 0) (r1 := 0) fl_X6_7 (ok_e30 hw) rfl dX6_isFree_11 ?_
    refine x_sipush (x := 6336) dX6_isFree_14 rfl ?_
    refine x_iload_n dX6_isFree_17 rfl 1 rfl ?_
    refine x_iadd dX6_isFree_18 ?_
    obtain ⟨t1, ht1, h⟩ := x_let_e h
    refine x_nm t1 ht1 ?_
    obtain ⟨hg2, h⟩ := x_g_e h
    refine x_iald 6464 t1.toNatClampNeg rfl rfl rfl rfl (ok_e31 hw) hg2 dX6_isFree_19 ?_
    refine x_if_ne (tgt := 27) dX6_isFree_20 rfl (fun hc => ?_) (fun hc => ?_)
    · have h := x_f hc h
      refine x_iconst (x := 0) dX6_isFree_27 rfl ?_
      exact x_zretH rfl rfl dX6_isFree_28 h
    · have h := x_t hc h
      refine x_iconst (x := 1) dX6_isFree_23 rfl ?_
      refine x_goto (tgt := 28) dX6_isFree_24 rfl ?_
      exact x_zretH rfl rfl dX6_isFree_28 h
def BX6_runAt_26 (a1 : Int32) : Nat → Int32 → xS → Option (Int32 × xS)
  | 0, _, _ => none
  | n + 1, a2, σ => x_b (fX6_isFree (a1 + a2) σ) fun z2 s2 => if z2 = 0 then (some (a2, s2)) else (x_let (a2 + 1) fun t3 => (BX6_runAt_26 a1 n) t3 s2)
set_option maxRecDepth 100000 in
set_option maxHeartbeats 4000000 in
theorem TX6_runAt_26 {l : Launch} {w : xW} (hw : w.1.2 = true) {a1 : Int32} {τ : xS} {r : Int32} : ∀ (n : Nat) (a2 : Int32) (σ : xS), BX6_runAt_26 a1 n a2 σ = some (r, τ) → xAt l w mX6_runAt 26 [(0, .ref (w.2.2 5 30 0 0)), (1, .int a1), (2, .int a2)] [] σ (some (.int r)) τ := by
  intro n
  induction n with
  | zero => intro a2 σ h; cases h
  | succ n ih =>
    intro a2 σ h
    rw [BX6_runAt_26] at h
    refine x_aload_n dX6_runAt_26 rfl 0 rfl ?_
    refine x_iload_n dX6_runAt_27 rfl 1 rfl ?_
    refine x_iload_n dX6_runAt_28 rfl 2 rfl ?_
    refine x_iadd dX6_runAt_29 ?_
    obtain ⟨z2, s2, h2, h⟩ := x_b_e h
    refine x_callV (As := [.int (a1 + a2)]) (st := []) (eX6_isFree hw  h2) cv_X6_95 (Nat.le_of_ble_eq_true rfl) (ok_e30 hw) rfl (Nat.le_of_ble_eq_true rfl) _ rfl dX6_runAt_30 [.int z2] rfl ?_
    refine x_if_eq (tgt := 42) dX6_runAt_33 rfl (fun hc => ?_) (fun hc => ?_)
    · have h := x_t hc h
      refine x_iload_n dX6_runAt_42 rfl 2 rfl ?_
      exact x_iretH rfl dX6_runAt_43 h
    · have h := x_f hc h
      obtain ⟨t3, ht3, h⟩ := x_let_e h
      refine x_iinc t3 1 rfl ht3 dX6_runAt_36 2 rfl (Nat.le_of_ble_eq_true rfl) [(2, .int t3), (0, .ref (w.2.2 5 30 0 0)), (1, .int a1)] rfl ?_
      refine x_goto (tgt := 26) dX6_runAt_39 rfl ?_
      refine x_sub (L1 := [(0, .ref (w.2.2 5 30 0 0)), (1, .int a1), (2, .int t3)]) [1, 2, 0] rfl ?_
      exact ih _ _ h
def fX6_runAt (a1 : Int32) (σ : xS) : Option (Int32 × xS) :=
  x_b (fX6_isFree a1 σ) fun z1 s1 => if z1 = 0 then (some (0, s1)) else (if a1 ≤ 0 then (BX6_runAt_26 a1 x_FU 0 s1) else (x_b (fX6_isFree (a1 - 1) s1) fun z4 s4 => if z4 = 0 then (BX6_runAt_26 a1 x_FU 0 s4) else (some (0, s4))))
set_option maxRecDepth 100000 in
set_option maxHeartbeats 4000000 in
theorem eX6_runAt {l : Launch} {w : xW} (hw : w.1.2 = true) {a1 : Int32} {σ τ : xS} {r : Int32} (h : fX6_runAt a1 σ = some (r, τ)) : xEV l w yX6_runAt mX6_runAt [.ref (w.2.2 5 30 0 0), .int a1] σ (some (.int r)) τ := by
  rw [fX6_runAt] at h
  refine x_enter (by decide +kernel) rfl (Nat.le_of_ble_eq_true rfl) ?_
  refine x_sub (L1 := [(0, .ref (w.2.2 5 30 0 0)), (1, .int a1)]) [0, 1] rfl ?_
  refine x_aload_n dX6_runAt_0 rfl 0 rfl ?_
  refine x_iload_n dX6_runAt_1 rfl 1 rfl ?_
  obtain ⟨z1, s1, h1, h⟩ := x_b_e h
  refine x_callV (As := [.int a1]) (st := []) (eX6_isFree hw  h1) cv_X6_95 (Nat.le_of_ble_eq_true rfl) (ok_e30 hw) rfl (Nat.le_of_ble_eq_true rfl) _ rfl dX6_runAt_2 [.int z1] rfl ?_
  refine x_if_eq (tgt := 22) dX6_runAt_5 rfl (fun hc => ?_) (fun hc => ?_)
  · have h := x_t hc h
    refine x_iconst (x := 0) dX6_runAt_22 rfl ?_
    exact x_iretH rfl dX6_runAt_23 h
  · have h := x_f hc h
    refine x_iload_n dX6_runAt_8 rfl 1 rfl ?_
    refine x_if_le (tgt := 24) dX6_runAt_9 rfl (fun hc => ?_) (fun hc => ?_)
    · have h := x_t hc h
      refine x_iconst (x := 0) dX6_runAt_24 rfl ?_
      refine x_istore_n 0 rfl dX6_runAt_25 rfl (Nat.le_of_ble_eq_true rfl) [(2, .int 0), (0, .ref (w.2.2 5 30 0 0)), (1, .int a1)] rfl ?_
      refine x_sub (L1 := [(0, .ref (w.2.2 5 30 0 0)), (1, .int a1), (2, .int 0)]) [1, 2, 0] rfl ?_
      exact TX6_runAt_26 hw _ _ _ h
    · have h := x_f hc h
      refine x_aload_n dX6_runAt_12 rfl 0 rfl ?_
      refine x_iload_n dX6_runAt_13 rfl 1 rfl ?_
      refine x_iconst (x := 1) dX6_runAt_14 rfl ?_
      refine x_isub dX6_runAt_15 ?_
      obtain ⟨z4, s4, h4, h⟩ := x_b_e h
      refine x_callV (As := [.int (a1 - 1)]) (st := []) (eX6_isFree hw  h4) cv_X6_95 (Nat.le_of_ble_eq_true rfl) (ok_e30 hw) rfl (Nat.le_of_ble_eq_true rfl) _ rfl dX6_runAt_16 [.int z4] rfl ?_
      refine x_if_eq (tgt := 24) dX6_runAt_19 rfl (fun hc => ?_) (fun hc => ?_)
      · have h := x_t hc h
        refine x_iconst (x := 0) dX6_runAt_24 rfl ?_
        refine x_istore_n 0 rfl dX6_runAt_25 rfl (Nat.le_of_ble_eq_true rfl) [(2, .int 0), (0, .ref (w.2.2 5 30 0 0)), (1, .int a1)] rfl ?_
        refine x_sub (L1 := [(0, .ref (w.2.2 5 30 0 0)), (1, .int a1), (2, .int 0)]) [1, 2, 0] rfl ?_
        exact TX6_runAt_26 hw _ _ _ h
      · have h := x_f hc h
        refine x_iconst (x := 0) dX6_runAt_22 rfl ?_
        exact x_iretH rfl dX6_runAt_23 h
def BX6_places_185 (a1 : Int32) (a2 : Int32) (a5 : Int32) (a6 : Int32) (k11 : Int32 → xS → Option (Unit × xS)) : Nat → Int32 → xS → Option (Unit × xS)
  | 0, _, _ => none
  | n + 1, a8, σ => if (a5 + a6) ≤ a8 then (x_let (a2 - a6) fun t18 => k11 t18 σ) else (x_let (6336 + a8) fun t19 => x_g (x_in t19 6464) (x_let (x_set σ 5 31 0 0 t19.toNatClampNeg (a1 + 1)) fun s21 => x_let (a8 + 1) fun t22 => (BX6_places_185 a1 a2 a5 a6 k11 n) t22 s21))
set_option maxRecDepth 100000 in
set_option maxHeartbeats 4000000 in
theorem TX6_places_185 {l : Launch} {w : xW} (hw : w.1.2 = true) {a1 : Int32} {a2 : Int32} {a5 : Int32} {a6 : Int32} {k11 : Int32 → xS → Option (Unit × xS)} {τ : xS} {r : Unit} (hk11 : ∀ (a2 : Int32) (σ1 : xS), k11 a2 σ1 = some (r, τ) → xAt l w mX6_places 11 [(0, .ref (w.2.2 5 30 0 0)), (1, .int a1), (2, .int a2)] [] σ1 none τ) : ∀ (n : Nat) (a8 : Int32) (σ : xS), BX6_places_185 a1 a2 a5 a6 k11 n a8 σ = some (r, τ) → xAt l w mX6_places 185 [(0, .ref (w.2.2 5 30 0 0)), (1, .int a1), (2, .int a2), (5, .int a5), (6, .int a6), (8, .int a8)] [] σ none τ := by
  intro n
  induction n with
  | zero => intro a8 σ h; cases h
  | succ n ih =>
    intro a8 σ h
    rw [BX6_places_185] at h
    refine x_iload dX6_places_185 5 rfl ?_
    refine x_iload dX6_places_187 3 rfl ?_
    refine x_iload dX6_places_189 4 rfl ?_
    refine x_iadd dX6_places_191 ?_
    refine x_icmp_ge (tgt := 215) dX6_places_192 rfl (fun hc => ?_) (fun hc => ?_)
    · have h := x_t hc h
      refine x_iload_n dX6_places_215 rfl 2 rfl ?_
      refine x_iload dX6_places_216 4 rfl ?_
      refine x_isub dX6_places_218 ?_
      obtain ⟨t18, ht18, h⟩ := x_let_e h
      refine x_istore_n t18 ht18 dX6_places_219 rfl (Nat.le_of_ble_eq_true rfl) [(2, .int t18), (0, .ref (w.2.2 5 30 0 0)), (1, .int a1), (5, .int a5), (6, .int a6), (8, .int a8)] rfl ?_
      refine x_goto (tgt := 11) dX6_places_220 rfl ?_
      refine x_sub (L1 := [(0, .ref (w.2.2 5 30 0 0)), (1, .int a1), (2, .int t18)]) [1, 2, 0] rfl ?_
      exact hk11 _ _ h
    · have h := x_f hc h
      refine x_aload_n dX6_places_195 rfl 0 rfl ?_
      refine x_getR (d1 := 5) (K1 := 31) (p1 := 0) (r1 := 0) fl_X6_7 (ok_e30 hw) rfl dX6_places_196 ?_
      refine x_sipush (x := 6336) dX6_places_199 rfl ?_
      refine x_iload dX6_places_202 5 rfl ?_
      refine x_iadd dX6_places_204 ?_
      refine x_iload_n dX6_places_205 rfl 1 rfl ?_
      refine x_iconst (x := 1) dX6_places_206 rfl ?_
      refine x_iadd dX6_places_207 ?_
      obtain ⟨t19, ht19, h⟩ := x_let_e h
      refine x_nm2 t19 ht19 ?_
      obtain ⟨hg20, h⟩ := x_g_e h
      obtain ⟨s21, hs21, h⟩ := x_let_e h
      refine x_iast 6464 t19.toNatClampNeg rfl s21 hs21 rfl rfl rfl (ok_e31 hw) hg20 dX6_places_208 ?_
      obtain ⟨t22, ht22, h⟩ := x_let_e h
      refine x_iinc t22 1 rfl ht22 dX6_places_209 5 rfl (Nat.le_of_ble_eq_true rfl) [(8, .int t22), (0, .ref (w.2.2 5 30 0 0)), (1, .int a1), (2, .int a2), (5, .int a5), (6, .int a6)] rfl ?_
      refine x_goto (tgt := 185) dX6_places_212 rfl ?_
      refine x_sub (L1 := [(0, .ref (w.2.2 5 30 0 0)), (1, .int a1), (2, .int a2), (5, .int a5), (6, .int a6), (8, .int t22)]) [1, 2, 3, 4, 5, 0] rfl ?_
      exact ih _ _ h
def BX6_places_122 (a1 : Int32) (a2 : Int32) (a5 : Int32) (as0 : Int32) (k11 : Int32 → xS → Option (Unit × xS)) (σ : xS) : Option (Unit × xS) :=
  x_b (fX6_packet a1 2 σ) fun z5 s5 => x_g (x_in z5 6464) (x_let (s5 5 31 0 0 z5.toNatClampNeg) fun t7 => x_b (fX6_packet a1 (4 + t7) s5) fun z8 s8 => x_g (x_in z8 6464) (x_let (x_set s8 5 31 0 0 z8.toNatClampNeg a5) fun s10 => x_b (fX6_packet a1 (16 + t7) s10) fun z11 s11 => x_g (x_in z11 6464) (x_let (x_set s11 5 31 0 0 z11.toNatClampNeg as0) fun s13 => x_b (fX6_packet a1 2 s13) fun z14 s14 => x_g (x_in z14 6464) (x_g (x_in z14 6464) (x_let (x_set s14 5 31 0 0 z14.toNatClampNeg ((s14 5 31 0 0 z14.toNatClampNeg) + 1)) fun s17 => BX6_places_185 a1 a2 a5 as0 k11 x_FU a5 s17)))))
set_option maxRecDepth 100000 in
set_option maxHeartbeats 4000000 in
theorem TX6_places_122 {l : Launch} {w : xW} (hw : w.1.2 = true) {a1 : Int32} {a2 : Int32} {a5 : Int32} {as0 : Int32} {k11 : Int32 → xS → Option (Unit × xS)} {σ τ : xS} {r : Unit} (hk11 : ∀ (a2 : Int32) (σ1 : xS), k11 a2 σ1 = some (r, τ) → xAt l w mX6_places 11 [(0, .ref (w.2.2 5 30 0 0)), (1, .int a1), (2, .int a2)] [] σ1 none τ) (h : BX6_places_122 a1 a2 a5 as0 k11 σ = some (r, τ)) : xAt l w mX6_places 122 [(0, .ref (w.2.2 5 30 0 0)), (1, .int a1), (2, .int a2), (5, .int a5)] [.int as0] σ none τ := by
  rw [BX6_places_122] at h
  refine x_istore as0 rfl dX6_places_122 (Nat.le_of_ble_eq_true rfl) [(6, .int as0), (0, .ref (w.2.2 5 30 0 0)), (1, .int a1), (2, .int a2), (5, .int a5)] rfl ?_
  refine x_aload_n dX6_places_124 rfl 1 rfl ?_
  refine x_getR (d1 := 5) (K1 := 31) (p1 := 0) (r1 := 0) fl_X6_7 (ok_e30 hw) rfl dX6_places_125 ?_
  refine x_iload_n dX6_places_128 rfl 2 rfl ?_
  refine x_iconst (x := 2) dX6_places_129 rfl ?_
  obtain ⟨z5, s5, h5, h⟩ := x_b_e h
  refine x_callS (As := [.int a1, .int 2]) (st := [.ref (w.2.2 5 31 0 0)]) (eX6_packet hw  h5) cs_X6_92 (Nat.le_of_ble_eq_true rfl) rfl (Nat.le_of_ble_eq_true rfl) _ rfl dX6_places_130 [.int z5, .ref (w.2.2 5 31 0 0)] rfl ?_
  obtain ⟨hg6, h⟩ := x_g_e h
  refine x_iald 6464 z5.toNatClampNeg rfl rfl rfl rfl (ok_e31 hw) hg6 dX6_places_133 ?_
  obtain ⟨t7, ht7, h⟩ := x_let_e h
  refine x_istore t7 ht7 dX6_places_134 (Nat.le_of_ble_eq_true rfl) [(7, .int t7), (6, .int as0), (0, .ref (w.2.2 5 30 0 0)), (1, .int a1), (2, .int a2), (5, .int a5)] rfl ?_
  refine x_aload_n dX6_places_136 rfl 2 rfl ?_
  refine x_getR (d1 := 5) (K1 := 31) (p1 := 0) (r1 := 0) fl_X6_7 (ok_e30 hw) rfl dX6_places_137 ?_
  refine x_iload_n dX6_places_140 rfl 3 rfl ?_
  refine x_iconst (x := 4) dX6_places_141 rfl ?_
  refine x_iload dX6_places_142 0 rfl ?_
  refine x_iadd dX6_places_144 ?_
  obtain ⟨z8, s8, h8, h⟩ := x_b_e h
  refine x_callS (As := [.int a1, .int (4 + t7)]) (st := [.ref (w.2.2 5 31 0 0)]) (eX6_packet hw  h8) cs_X6_92 (Nat.le_of_ble_eq_true rfl) rfl (Nat.le_of_ble_eq_true rfl) _ rfl dX6_places_145 [.int z8, .ref (w.2.2 5 31 0 0)] rfl ?_
  refine x_iload dX6_places_148 5 rfl ?_
  obtain ⟨hg9, h⟩ := x_g_e h
  obtain ⟨s10, hs10, h⟩ := x_let_e h
  refine x_iast 6464 z8.toNatClampNeg rfl s10 hs10 rfl rfl rfl (ok_e31 hw) hg9 dX6_places_150 ?_
  refine x_aload_n dX6_places_151 rfl 2 rfl ?_
  refine x_getR (d1 := 5) (K1 := 31) (p1 := 0) (r1 := 0) fl_X6_7 (ok_e30 hw) rfl dX6_places_152 ?_
  refine x_iload_n dX6_places_155 rfl 3 rfl ?_
  refine x_bipush (x := 16) dX6_places_156 rfl ?_
  refine x_iload dX6_places_158 0 rfl ?_
  refine x_iadd dX6_places_160 ?_
  obtain ⟨z11, s11, h11, h⟩ := x_b_e h
  refine x_callS (As := [.int a1, .int (16 + t7)]) (st := [.ref (w.2.2 5 31 0 0)]) (eX6_packet hw  h11) cs_X6_92 (Nat.le_of_ble_eq_true rfl) rfl (Nat.le_of_ble_eq_true rfl) _ rfl dX6_places_161 [.int z11, .ref (w.2.2 5 31 0 0)] rfl ?_
  refine x_iload dX6_places_164 1 rfl ?_
  obtain ⟨hg12, h⟩ := x_g_e h
  obtain ⟨s13, hs13, h⟩ := x_let_e h
  refine x_iast 6464 z11.toNatClampNeg rfl s13 hs13 rfl rfl rfl (ok_e31 hw) hg12 dX6_places_166 ?_
  refine x_aload_n dX6_places_167 rfl 2 rfl ?_
  refine x_getR (d1 := 5) (K1 := 31) (p1 := 0) (r1 := 0) fl_X6_7 (ok_e30 hw) rfl dX6_places_168 ?_
  refine x_iload_n dX6_places_171 rfl 3 rfl ?_
  refine x_iconst (x := 2) dX6_places_172 rfl ?_
  obtain ⟨z14, s14, h14, h⟩ := x_b_e h
  refine x_callS (As := [.int a1, .int 2]) (st := [.ref (w.2.2 5 31 0 0)]) (eX6_packet hw  h14) cs_X6_92 (Nat.le_of_ble_eq_true rfl) rfl (Nat.le_of_ble_eq_true rfl) _ rfl dX6_places_173 [.int z14, .ref (w.2.2 5 31 0 0)] rfl ?_
  refine x_dup2 dX6_places_176 rfl rfl ?_
  obtain ⟨hg15, h⟩ := x_g_e h
  refine x_iald 6464 z14.toNatClampNeg rfl rfl rfl rfl (ok_e31 hw) hg15 dX6_places_177 ?_
  refine x_iconst (x := 1) dX6_places_178 rfl ?_
  refine x_iadd dX6_places_179 ?_
  obtain ⟨hg16, h⟩ := x_g_e h
  obtain ⟨s17, hs17, h⟩ := x_let_e h
  refine x_iast 6464 z14.toNatClampNeg rfl s17 hs17 rfl rfl rfl (ok_e31 hw) hg16 dX6_places_180 ?_
  refine x_iload dX6_places_181 5 rfl ?_
  refine x_istore a5 rfl dX6_places_183 (Nat.le_of_ble_eq_true rfl) [(8, .int a5), (7, .int t7), (6, .int as0), (0, .ref (w.2.2 5 30 0 0)), (1, .int a1), (2, .int a2), (5, .int a5)] rfl ?_
  refine x_sub (L1 := [(0, .ref (w.2.2 5 30 0 0)), (1, .int a1), (2, .int a2), (5, .int a5), (6, .int as0), (8, .int a5)]) [3, 4, 5, 6, 2, 0] rfl ?_
  exact TX6_places_185 hw hk11 _ _ _ h
def BX6_places_65 (a1 : Int32) (a2 : Int32) (a3 : Int32) (a4 : Int32) (a5 : Int32) (a6 : Int32) (k11 : Int32 → xS → Option (Unit × xS)) (k23 : Int32 → Int32 → Int32 → xS → Option (Unit × xS)) (σ : xS) : Option (Unit × xS) :=
  if a6 ≤ 0 then (x_let (a5 + 1) fun t25 => k23 a3 a4 t25 σ) else (if a4 < 0 then (x_let (a5 + 1) fun t26 => k23 a3 a5 t26 σ) else (x_b (fX6_runAt a4 σ) fun z27 s27 => if a6 ≤ z27 then (x_let (a5 + 1) fun t28 => k23 a3 a4 t28 s27) else (x_let (a5 + 1) fun t29 => k23 a3 a5 t29 s27)))
set_option maxRecDepth 100000 in
set_option maxHeartbeats 4000000 in
theorem TX6_places_65 {l : Launch} {w : xW} (hw : w.1.2 = true) {a1 : Int32} {a2 : Int32} {a3 : Int32} {a4 : Int32} {a5 : Int32} {a6 : Int32} {k11 : Int32 → xS → Option (Unit × xS)} {k23 : Int32 → Int32 → Int32 → xS → Option (Unit × xS)} {σ τ : xS} {r : Unit} (hk11 : ∀ (a2 : Int32) (σ1 : xS), k11 a2 σ1 = some (r, τ) → xAt l w mX6_places 11 [(0, .ref (w.2.2 5 30 0 0)), (1, .int a1), (2, .int a2)] [] σ1 none τ) (hk23 : ∀ (a3 : Int32) (a4 : Int32) (a5 : Int32) (σ1 : xS), k23 a3 a4 a5 σ1 = some (r, τ) → xAt l w mX6_places 23 [(0, .ref (w.2.2 5 30 0 0)), (1, .int a1), (2, .int a2), (3, .int a3), (4, .int a4), (5, .int a5)] [] σ1 none τ) (h : BX6_places_65 a1 a2 a3 a4 a5 a6 k11 k23 σ = some (r, τ)) : xAt l w mX6_places 65 [(0, .ref (w.2.2 5 30 0 0)), (1, .int a1), (2, .int a2), (3, .int a3), (4, .int a4), (5, .int a5), (6, .int a6)] [] σ none τ := by
  rw [BX6_places_65] at h
  refine x_iload dX6_places_65 6 rfl ?_
  refine x_if_le (tgt := 90) dX6_places_67 rfl (fun hc => ?_) (fun hc => ?_)
  · have h := x_t hc h
    obtain ⟨t25, ht25, h⟩ := x_let_e h
    refine x_iinc t25 1 rfl ht25 dX6_places_90 5 rfl (Nat.le_of_ble_eq_true rfl) [(5, .int t25), (0, .ref (w.2.2 5 30 0 0)), (1, .int a1), (2, .int a2), (3, .int a3), (4, .int a4), (6, .int a6)] rfl ?_
    refine x_goto (tgt := 23) dX6_places_93 rfl ?_
    refine x_sub (L1 := [(0, .ref (w.2.2 5 30 0 0)), (1, .int a1), (2, .int a2), (3, .int a3), (4, .int a4), (5, .int t25)]) [1, 2, 3, 4, 5, 0] rfl ?_
    exact hk23 _ _ _ _ h
  · have h := x_f hc h
    refine x_iload dX6_places_70 4 rfl ?_
    refine x_if_lt (tgt := 86) dX6_places_72 rfl (fun hc => ?_) (fun hc => ?_)
    · have h := x_t hc h
      refine x_iload dX6_places_86 5 rfl ?_
      refine x_istore a5 rfl dX6_places_88 (Nat.le_of_ble_eq_true rfl) [(4, .int a5), (0, .ref (w.2.2 5 30 0 0)), (1, .int a1), (2, .int a2), (3, .int a3), (5, .int a5), (6, .int a6)] rfl ?_
      obtain ⟨t26, ht26, h⟩ := x_let_e h
      refine x_iinc t26 1 rfl ht26 dX6_places_90 5 rfl (Nat.le_of_ble_eq_true rfl) [(5, .int t26), (4, .int a5), (0, .ref (w.2.2 5 30 0 0)), (1, .int a1), (2, .int a2), (3, .int a3), (6, .int a6)] rfl ?_
      refine x_goto (tgt := 23) dX6_places_93 rfl ?_
      refine x_sub (L1 := [(0, .ref (w.2.2 5 30 0 0)), (1, .int a1), (2, .int a2), (3, .int a3), (4, .int a5), (5, .int t26)]) [2, 3, 4, 5, 1, 0] rfl ?_
      exact hk23 _ _ _ _ h
    · have h := x_f hc h
      refine x_iload dX6_places_75 6 rfl ?_
      refine x_aload_n dX6_places_77 rfl 0 rfl ?_
      refine x_iload dX6_places_78 4 rfl ?_
      obtain ⟨z27, s27, h27, h⟩ := x_b_e h
      refine x_callV (As := [.int a4]) (st := [.int a6]) (eX6_runAt hw  h27) cv_X6_98 (Nat.le_of_ble_eq_true rfl) (ok_e30 hw) rfl (Nat.le_of_ble_eq_true rfl) _ rfl dX6_places_80 [.int z27, .int a6] rfl ?_
      refine x_icmp_le (tgt := 90) dX6_places_83 rfl (fun hc => ?_) (fun hc => ?_)
      · have h := x_t hc h
        obtain ⟨t28, ht28, h⟩ := x_let_e h
        refine x_iinc t28 1 rfl ht28 dX6_places_90 5 rfl (Nat.le_of_ble_eq_true rfl) [(5, .int t28), (0, .ref (w.2.2 5 30 0 0)), (1, .int a1), (2, .int a2), (3, .int a3), (4, .int a4), (6, .int a6)] rfl ?_
        refine x_goto (tgt := 23) dX6_places_93 rfl ?_
        refine x_sub (L1 := [(0, .ref (w.2.2 5 30 0 0)), (1, .int a1), (2, .int a2), (3, .int a3), (4, .int a4), (5, .int t28)]) [1, 2, 3, 4, 5, 0] rfl ?_
        exact hk23 _ _ _ _ h
      · have h := x_f hc h
        refine x_iload dX6_places_86 5 rfl ?_
        refine x_istore a5 rfl dX6_places_88 (Nat.le_of_ble_eq_true rfl) [(4, .int a5), (0, .ref (w.2.2 5 30 0 0)), (1, .int a1), (2, .int a2), (3, .int a3), (5, .int a5), (6, .int a6)] rfl ?_
        obtain ⟨t29, ht29, h⟩ := x_let_e h
        refine x_iinc t29 1 rfl ht29 dX6_places_90 5 rfl (Nat.le_of_ble_eq_true rfl) [(5, .int t29), (4, .int a5), (0, .ref (w.2.2 5 30 0 0)), (1, .int a1), (2, .int a2), (3, .int a3), (6, .int a6)] rfl ?_
        refine x_goto (tgt := 23) dX6_places_93 rfl ?_
        refine x_sub (L1 := [(0, .ref (w.2.2 5 30 0 0)), (1, .int a1), (2, .int a2), (3, .int a3), (4, .int a5), (5, .int t29)]) [2, 3, 4, 5, 1, 0] rfl ?_
        exact hk23 _ _ _ _ h
def BX6_places_23 (a1 : Int32) (a2 : Int32) (k11 : Int32 → xS → Option (Unit × xS)) : Nat → Int32 → Int32 → Int32 → xS → Option (Unit × xS)
  | 0, _, _, _, _ => none
  | n + 1, a3, a4, a5, σ => if (σ 5 31 0 0 0) ≤ a5 then (if a3 < 0 then (if a3 < 0 then (x_b (fX6_runAt a4 σ) fun z4 s4 => BX6_places_122 a1 a2 a4 z4 k11 s4) else (BX6_places_122 a1 a2 a4 a2 k11 σ)) else (if a3 < 0 then (x_b (fX6_runAt a4 σ) fun z23 s23 => BX6_places_122 a1 a2 a3 z23 k11 s23) else (BX6_places_122 a1 a2 a3 a2 k11 σ))) else (x_b (fX6_runAt a5 σ) fun z24 s24 => if z24 < a2 then (BX6_places_65 a1 a2 a3 a4 a5 z24 k11 (BX6_places_23 a1 a2 k11 n) s24) else (if a3 < 0 then (BX6_places_65 a1 a2 a5 a4 a5 z24 k11 (BX6_places_23 a1 a2 k11 n) s24) else (x_b (fX6_runAt a3 s24) fun z30 s30 => if z30 ≤ z24 then (BX6_places_65 a1 a2 a3 a4 a5 z24 k11 (BX6_places_23 a1 a2 k11 n) s30) else (BX6_places_65 a1 a2 a5 a4 a5 z24 k11 (BX6_places_23 a1 a2 k11 n) s30))))
set_option maxRecDepth 100000 in
set_option maxHeartbeats 4000000 in
theorem TX6_places_23 {l : Launch} {w : xW} (hw : w.1.2 = true) {a1 : Int32} {a2 : Int32} {k11 : Int32 → xS → Option (Unit × xS)} {τ : xS} {r : Unit} (hk11 : ∀ (a2 : Int32) (σ1 : xS), k11 a2 σ1 = some (r, τ) → xAt l w mX6_places 11 [(0, .ref (w.2.2 5 30 0 0)), (1, .int a1), (2, .int a2)] [] σ1 none τ) : ∀ (n : Nat) (a3 : Int32) (a4 : Int32) (a5 : Int32) (σ : xS), BX6_places_23 a1 a2 k11 n a3 a4 a5 σ = some (r, τ) → xAt l w mX6_places 23 [(0, .ref (w.2.2 5 30 0 0)), (1, .int a1), (2, .int a2), (3, .int a3), (4, .int a4), (5, .int a5)] [] σ none τ := by
  intro n
  induction n with
  | zero => intro a3 a4 a5 σ h; cases h
  | succ n ih =>
    intro a3 a4 a5 σ h
    rw [BX6_places_23] at h
    refine x_iload dX6_places_23 5 rfl ?_
    refine x_aload_n dX6_places_25 rfl 0 rfl ?_
    refine x_getR (d1 := 5) (K1 := 31) (p1 := 0) (r1 := 0) fl_X6_7 (ok_e30 hw) rfl dX6_places_26 ?_
    refine x_iconst (x := 0) dX6_places_29 rfl ?_
    refine x_iald 6464 0 rfl rfl rfl rfl (ok_e31 hw) rfl dX6_places_30 ?_
    refine x_icmp_ge (tgt := 96) dX6_places_31 rfl (fun hc => ?_) (fun hc => ?_)
    · have h := x_t hc h
      refine x_iload_n dX6_places_96 rfl 3 rfl ?_
      refine x_if_lt (tgt := 104) dX6_places_97 rfl (fun hc => ?_) (fun hc => ?_)
      · have h := x_t hc h
        refine x_iload dX6_places_104 4 rfl ?_
        refine x_istore a4 rfl dX6_places_106 (Nat.le_of_ble_eq_true rfl) [(5, .int a4), (0, .ref (w.2.2 5 30 0 0)), (1, .int a1), (2, .int a2), (3, .int a3), (4, .int a4)] rfl ?_
        refine x_iload_n dX6_places_108 rfl 4 rfl ?_
        refine x_if_lt (tgt := 116) dX6_places_109 rfl (fun hc => ?_) (fun hc => ?_)
        · have h := x_t hc h
          refine x_aload_n dX6_places_116 rfl 1 rfl ?_
          refine x_iload dX6_places_117 5 rfl ?_
          obtain ⟨z4, s4, h4, h⟩ := x_b_e h
          refine x_callV (As := [.int a4]) (st := []) (eX6_runAt hw  h4) cv_X6_98 (Nat.le_of_ble_eq_true rfl) (ok_e30 hw) rfl (Nat.le_of_ble_eq_true rfl) _ rfl dX6_places_119 [.int z4] rfl ?_
          refine x_sub (L1 := [(0, .ref (w.2.2 5 30 0 0)), (1, .int a1), (2, .int a2), (5, .int a4)]) [1, 2, 3, 0] rfl ?_
          exact TX6_places_122 hw hk11 h
        · have h := x_f hc h
          refine x_iload_n dX6_places_112 rfl 3 rfl ?_
          refine x_goto (tgt := 122) dX6_places_113 rfl ?_
          refine x_sub (L1 := [(0, .ref (w.2.2 5 30 0 0)), (1, .int a1), (2, .int a2), (5, .int a4)]) [1, 2, 3, 0] rfl ?_
          exact TX6_places_122 hw hk11 h
      · have h := x_f hc h
        refine x_iload_n dX6_places_100 rfl 3 rfl ?_
        refine x_goto (tgt := 106) dX6_places_101 rfl ?_
        refine x_istore a3 rfl dX6_places_106 (Nat.le_of_ble_eq_true rfl) [(5, .int a3), (0, .ref (w.2.2 5 30 0 0)), (1, .int a1), (2, .int a2), (3, .int a3), (4, .int a4)] rfl ?_
        refine x_iload_n dX6_places_108 rfl 4 rfl ?_
        refine x_if_lt (tgt := 116) dX6_places_109 rfl (fun hc => ?_) (fun hc => ?_)
        · have h := x_t hc h
          refine x_aload_n dX6_places_116 rfl 1 rfl ?_
          refine x_iload dX6_places_117 5 rfl ?_
          obtain ⟨z23, s23, h23, h⟩ := x_b_e h
          refine x_callV (As := [.int a4]) (st := []) (eX6_runAt hw  h23) cv_X6_98 (Nat.le_of_ble_eq_true rfl) (ok_e30 hw) rfl (Nat.le_of_ble_eq_true rfl) _ rfl dX6_places_119 [.int z23] rfl ?_
          refine x_sub (L1 := [(0, .ref (w.2.2 5 30 0 0)), (1, .int a1), (2, .int a2), (5, .int a3)]) [1, 2, 3, 0] rfl ?_
          exact TX6_places_122 hw hk11 h
        · have h := x_f hc h
          refine x_iload_n dX6_places_112 rfl 3 rfl ?_
          refine x_goto (tgt := 122) dX6_places_113 rfl ?_
          refine x_sub (L1 := [(0, .ref (w.2.2 5 30 0 0)), (1, .int a1), (2, .int a2), (5, .int a3)]) [1, 2, 3, 0] rfl ?_
          exact TX6_places_122 hw hk11 h
    · have h := x_f hc h
      refine x_aload_n dX6_places_34 rfl 0 rfl ?_
      refine x_iload dX6_places_35 5 rfl ?_
      obtain ⟨z24, s24, h24, h⟩ := x_b_e h
      refine x_callV (As := [.int a5]) (st := []) (eX6_runAt hw  h24) cv_X6_98 (Nat.le_of_ble_eq_true rfl) (ok_e30 hw) rfl (Nat.le_of_ble_eq_true rfl) _ rfl dX6_places_37 [.int z24] rfl ?_
      refine x_istore z24 rfl dX6_places_40 (Nat.le_of_ble_eq_true rfl) [(6, .int z24), (0, .ref (w.2.2 5 30 0 0)), (1, .int a1), (2, .int a2), (3, .int a3), (4, .int a4), (5, .int a5)] rfl ?_
      refine x_iload dX6_places_42 0 rfl ?_
      refine x_iload_n dX6_places_44 rfl 3 rfl ?_
      refine x_icmp_lt (tgt := 65) dX6_places_45 rfl (fun hc => ?_) (fun hc => ?_)
      · have h := x_t hc h
        refine x_sub (L1 := [(0, .ref (w.2.2 5 30 0 0)), (1, .int a1), (2, .int a2), (3, .int a3), (4, .int a4), (5, .int a5), (6, .int z24)]) [1, 2, 3, 4, 5, 6, 0] rfl ?_
        exact TX6_places_65 hw hk11 ih h
      · have h := x_f hc h
        refine x_iload_n dX6_places_48 rfl 4 rfl ?_
        refine x_if_lt (tgt := 62) dX6_places_49 rfl (fun hc => ?_) (fun hc => ?_)
        · have h := x_t hc h
          refine x_iload dX6_places_62 6 rfl ?_
          refine x_istore_n a5 rfl dX6_places_64 rfl (Nat.le_of_ble_eq_true rfl) [(3, .int a5), (6, .int z24), (0, .ref (w.2.2 5 30 0 0)), (1, .int a1), (2, .int a2), (4, .int a4), (5, .int a5)] rfl ?_
          refine x_sub (L1 := [(0, .ref (w.2.2 5 30 0 0)), (1, .int a1), (2, .int a2), (3, .int a5), (4, .int a4), (5, .int a5), (6, .int z24)]) [2, 3, 4, 0, 5, 6, 1] rfl ?_
          exact TX6_places_65 hw hk11 ih h
        · have h := x_f hc h
          refine x_iload dX6_places_52 0 rfl ?_
          refine x_aload_n dX6_places_54 rfl 1 rfl ?_
          refine x_iload_n dX6_places_55 rfl 4 rfl ?_
          obtain ⟨z30, s30, h30, h⟩ := x_b_e h
          refine x_callV (As := [.int a3]) (st := [.int z24]) (eX6_runAt hw  h30) cv_X6_98 (Nat.le_of_ble_eq_true rfl) (ok_e30 hw) rfl (Nat.le_of_ble_eq_true rfl) _ rfl dX6_places_56 [.int z30, .int z24] rfl ?_
          refine x_icmp_ge (tgt := 65) dX6_places_59 rfl (fun hc => ?_) (fun hc => ?_)
          · have h := x_t hc h
            refine x_sub (L1 := [(0, .ref (w.2.2 5 30 0 0)), (1, .int a1), (2, .int a2), (3, .int a3), (4, .int a4), (5, .int a5), (6, .int z24)]) [1, 2, 3, 4, 5, 6, 0] rfl ?_
            exact TX6_places_65 hw hk11 ih h
          · have h := x_f hc h
            refine x_iload dX6_places_62 6 rfl ?_
            refine x_istore_n a5 rfl dX6_places_64 rfl (Nat.le_of_ble_eq_true rfl) [(3, .int a5), (6, .int z24), (0, .ref (w.2.2 5 30 0 0)), (1, .int a1), (2, .int a2), (4, .int a4), (5, .int a5)] rfl ?_
            refine x_sub (L1 := [(0, .ref (w.2.2 5 30 0 0)), (1, .int a1), (2, .int a2), (3, .int a5), (4, .int a4), (5, .int a5), (6, .int z24)]) [2, 3, 4, 0, 5, 6, 1] rfl ?_
            exact TX6_places_65 hw hk11 ih h
def BX6_places_11 (a1 : Int32) : Nat → Int32 → xS → Option (Unit × xS)
  | 0, _, _ => none
  | n + 1, a2, σ => if a2 ≤ 0 then (some ((), σ)) else (BX6_places_23 a1 a2 (BX6_places_11 a1 n) x_FU (-1) (-1) 0 σ)
set_option maxRecDepth 100000 in
set_option maxHeartbeats 4000000 in
theorem TX6_places_11 {l : Launch} {w : xW} (hw : w.1.2 = true) {a1 : Int32} {τ : xS} {r : Unit} : ∀ (n : Nat) (a2 : Int32) (σ : xS), BX6_places_11 a1 n a2 σ = some (r, τ) → xAt l w mX6_places 11 [(0, .ref (w.2.2 5 30 0 0)), (1, .int a1), (2, .int a2)] [] σ none τ := by
  intro n
  induction n with
  | zero => intro a2 σ h; cases h
  | succ n ih =>
    intro a2 σ h
    rw [BX6_places_11] at h
    refine x_iload_n dX6_places_11 rfl 2 rfl ?_
    refine x_if_le (tgt := 223) dX6_places_12 rfl (fun hc => ?_) (fun hc => ?_)
    · have h := x_t hc h
      exact x_vretH rfl dX6_places_223 h
    · have h := x_f hc h
      refine x_iconst (x := (-1)) dX6_places_15 (by decide) ?_
      refine x_istore_n (-1) rfl dX6_places_16 rfl (Nat.le_of_ble_eq_true rfl) [(3, .int (-1)), (0, .ref (w.2.2 5 30 0 0)), (1, .int a1), (2, .int a2)] rfl ?_
      refine x_iconst (x := (-1)) dX6_places_17 (by decide) ?_
      refine x_istore (-1) rfl dX6_places_18 (Nat.le_of_ble_eq_true rfl) [(4, .int (-1)), (3, .int (-1)), (0, .ref (w.2.2 5 30 0 0)), (1, .int a1), (2, .int a2)] rfl ?_
      refine x_iconst (x := 0) dX6_places_20 rfl ?_
      refine x_istore 0 rfl dX6_places_21 (Nat.le_of_ble_eq_true rfl) [(5, .int 0), (4, .int (-1)), (3, .int (-1)), (0, .ref (w.2.2 5 30 0 0)), (1, .int a1), (2, .int a2)] rfl ?_
      refine x_sub (L1 := [(0, .ref (w.2.2 5 30 0 0)), (1, .int a1), (2, .int a2), (3, .int (-1)), (4, .int (-1)), (5, .int 0)]) [3, 4, 5, 2, 1, 0] rfl ?_
      exact TX6_places_23 hw ih _ _ _ _ _ h
def fX6_places (a1 : Int32) (σ : xS) : Option (Unit × xS) :=
  x_b (fX6_packet a1 1 σ) fun z1 s1 => x_g (x_in z1 6464) (x_let (s1 5 31 0 0 z1.toNatClampNeg) fun t3 => BX6_places_11 a1 x_FU t3 s1)
set_option maxRecDepth 100000 in
set_option maxHeartbeats 4000000 in
theorem eX6_places {l : Launch} {w : xW} (hw : w.1.2 = true) {a1 : Int32} {σ τ : xS} {r : Unit} (h : fX6_places a1 σ = some (r, τ)) : xEV l w yX6_places mX6_places [.ref (w.2.2 5 30 0 0), .int a1] σ none τ := by
  rw [fX6_places] at h
  refine x_enter (by decide +kernel) rfl (Nat.le_of_ble_eq_true rfl) ?_
  refine x_sub (L1 := [(0, .ref (w.2.2 5 30 0 0)), (1, .int a1)]) [0, 1] rfl ?_
  refine x_aload_n dX6_places_0 rfl 0 rfl ?_
  refine x_getR (d1 := 5) (K1 := 31) (p1 := 0) (r1 := 0) fl_X6_7 (ok_e30 hw) rfl dX6_places_1 ?_
  refine x_iload_n dX6_places_4 rfl 1 rfl ?_
  refine x_iconst (x := 1) dX6_places_5 rfl ?_
  obtain ⟨z1, s1, h1, h⟩ := x_b_e h
  refine x_callS (As := [.int a1, .int 1]) (st := [.ref (w.2.2 5 31 0 0)]) (eX6_packet hw  h1) cs_X6_92 (Nat.le_of_ble_eq_true rfl) rfl (Nat.le_of_ble_eq_true rfl) _ rfl dX6_places_6 [.int z1, .ref (w.2.2 5 31 0 0)] rfl ?_
  obtain ⟨hg2, h⟩ := x_g_e h
  refine x_iald 6464 z1.toNatClampNeg rfl rfl rfl rfl (ok_e31 hw) hg2 dX6_places_9 ?_
  obtain ⟨t3, ht3, h⟩ := x_let_e h
  refine x_istore_n t3 ht3 dX6_places_10 rfl (Nat.le_of_ble_eq_true rfl) [(2, .int t3), (0, .ref (w.2.2 5 30 0 0)), (1, .int a1)] rfl ?_
  refine x_sub (L1 := [(0, .ref (w.2.2 5 30 0 0)), (1, .int a1), (2, .int t3)]) [1, 2, 0] rfl ?_
  exact TX6_places_11 hw _ _ _ h
def fX6_enters (a1 : Int32) (a2 : Int32) (σ : xS) : Option (Unit × xS) :=
  x_b (fX6_newSlot  σ) fun z1 s1 => x_b (fX6_packet z1 0 s1) fun z2 s2 => x_g (x_in z2 6464) (x_let (x_set s2 5 31 0 0 z2.toNatClampNeg (s2 5 31 0 0 4)) fun s4 => x_b (fX6_packet z1 1 s4) fun z5 s5 => x_g (x_in z5 6464) (x_let (x_set s5 5 31 0 0 z5.toNatClampNeg a2) fun s7 => x_b (fX6_packet z1 2 s7) fun z8 s8 => x_g (x_in z8 6464) (x_let (x_set s8 5 31 0 0 z8.toNatClampNeg 0) fun s10 => x_b (fX6_packet z1 3 s10) fun z11 s11 => x_g (x_in z11 6464) (x_let (x_set s11 5 31 0 0 z11.toNatClampNeg 1) fun s13 => x_let (x_set s13 5 31 0 0 4 ((s13 5 31 0 0 4) + 1)) fun s14 => x_b (fX6_places z1 s14) fun z15 s15 => x_b (fX6_queue a1 12 s15) fun z16 s16 => x_g (x_in z16 6464) (x_b (fX6_entry a1 (s16 5 31 0 0 z16.toNatClampNeg) s16) fun z18 s18 => x_g (x_in z18 6464) (x_let (x_set s18 5 31 0 0 z18.toNatClampNeg z1) fun s20 => x_b (fX6_queue a1 12 s20) fun z21 s21 => x_g (x_in z21 6464) (x_g (x_in z21 6464) (x_let (x_set s21 5 31 0 0 z21.toNatClampNeg ((s21 5 31 0 0 z21.toNatClampNeg) + 1)) fun s24 => some ((), s24)))))))))
set_option maxRecDepth 100000 in
set_option maxHeartbeats 4000000 in
theorem eX6_enters {l : Launch} {w : xW} (hw : w.1.2 = true) {a1 : Int32} {a2 : Int32} {σ τ : xS} {r : Unit} (h : fX6_enters a1 a2 σ = some (r, τ)) : xEV l w yX6_enters mX6_enters [.ref (w.2.2 5 30 0 0), .int a1, .int a2] σ none τ := by
  rw [fX6_enters] at h
  refine x_enter (by decide +kernel) rfl (Nat.le_of_ble_eq_true rfl) ?_
  refine x_sub (L1 := [(0, .ref (w.2.2 5 30 0 0)), (1, .int a1), (2, .int a2)]) [0, 1, 2] rfl ?_
  refine x_aload_n dX6_enters_0 rfl 0 rfl ?_
  obtain ⟨z1, s1, h1, h⟩ := x_b_e h
  refine x_callV (As := []) (st := []) (eX6_newSlot hw  h1) cv_X6_101 (Nat.le_of_ble_eq_true rfl) (ok_e30 hw) rfl (Nat.le_of_ble_eq_true rfl) _ rfl dX6_enters_1 [.int z1] rfl ?_
  refine x_istore_n z1 rfl dX6_enters_4 rfl (Nat.le_of_ble_eq_true rfl) [(3, .int z1), (0, .ref (w.2.2 5 30 0 0)), (1, .int a1), (2, .int a2)] rfl ?_
  refine x_aload_n dX6_enters_5 rfl 1 rfl ?_
  refine x_getR (d1 := 5) (K1 := 31) (p1 := 0) (r1 := 0) fl_X6_7 (ok_e30 hw) rfl dX6_enters_6 ?_
  refine x_iload_n dX6_enters_9 rfl 0 rfl ?_
  refine x_iconst (x := 0) dX6_enters_10 rfl ?_
  obtain ⟨z2, s2, h2, h⟩ := x_b_e h
  refine x_callS (As := [.int z1, .int 0]) (st := [.ref (w.2.2 5 31 0 0)]) (eX6_packet hw  h2) cs_X6_92 (Nat.le_of_ble_eq_true rfl) rfl (Nat.le_of_ble_eq_true rfl) _ rfl dX6_enters_11 [.int z2, .ref (w.2.2 5 31 0 0)] rfl ?_
  refine x_aload_n dX6_enters_14 rfl 1 rfl ?_
  refine x_getR (d1 := 5) (K1 := 31) (p1 := 0) (r1 := 0) fl_X6_7 (ok_e30 hw) rfl dX6_enters_15 ?_
  refine x_iconst (x := 4) dX6_enters_18 rfl ?_
  refine x_iald 6464 4 rfl rfl rfl rfl (ok_e31 hw) rfl dX6_enters_19 ?_
  obtain ⟨hg3, h⟩ := x_g_e h
  obtain ⟨s4, hs4, h⟩ := x_let_e h
  refine x_iast 6464 z2.toNatClampNeg rfl s4 hs4 rfl rfl rfl (ok_e31 hw) hg3 dX6_enters_20 ?_
  refine x_aload_n dX6_enters_21 rfl 1 rfl ?_
  refine x_getR (d1 := 5) (K1 := 31) (p1 := 0) (r1 := 0) fl_X6_7 (ok_e30 hw) rfl dX6_enters_22 ?_
  refine x_iload_n dX6_enters_25 rfl 0 rfl ?_
  refine x_iconst (x := 1) dX6_enters_26 rfl ?_
  obtain ⟨z5, s5, h5, h⟩ := x_b_e h
  refine x_callS (As := [.int z1, .int 1]) (st := [.ref (w.2.2 5 31 0 0)]) (eX6_packet hw  h5) cs_X6_92 (Nat.le_of_ble_eq_true rfl) rfl (Nat.le_of_ble_eq_true rfl) _ rfl dX6_enters_27 [.int z5, .ref (w.2.2 5 31 0 0)] rfl ?_
  refine x_iload_n dX6_enters_30 rfl 3 rfl ?_
  obtain ⟨hg6, h⟩ := x_g_e h
  obtain ⟨s7, hs7, h⟩ := x_let_e h
  refine x_iast 6464 z5.toNatClampNeg rfl s7 hs7 rfl rfl rfl (ok_e31 hw) hg6 dX6_enters_31 ?_
  refine x_aload_n dX6_enters_32 rfl 1 rfl ?_
  refine x_getR (d1 := 5) (K1 := 31) (p1 := 0) (r1 := 0) fl_X6_7 (ok_e30 hw) rfl dX6_enters_33 ?_
  refine x_iload_n dX6_enters_36 rfl 0 rfl ?_
  refine x_iconst (x := 2) dX6_enters_37 rfl ?_
  obtain ⟨z8, s8, h8, h⟩ := x_b_e h
  refine x_callS (As := [.int z1, .int 2]) (st := [.ref (w.2.2 5 31 0 0)]) (eX6_packet hw  h8) cs_X6_92 (Nat.le_of_ble_eq_true rfl) rfl (Nat.le_of_ble_eq_true rfl) _ rfl dX6_enters_38 [.int z8, .ref (w.2.2 5 31 0 0)] rfl ?_
  refine x_iconst (x := 0) dX6_enters_41 rfl ?_
  obtain ⟨hg9, h⟩ := x_g_e h
  obtain ⟨s10, hs10, h⟩ := x_let_e h
  refine x_iast 6464 z8.toNatClampNeg rfl s10 hs10 rfl rfl rfl (ok_e31 hw) hg9 dX6_enters_42 ?_
  refine x_aload_n dX6_enters_43 rfl 1 rfl ?_
  refine x_getR (d1 := 5) (K1 := 31) (p1 := 0) (r1 := 0) fl_X6_7 (ok_e30 hw) rfl dX6_enters_44 ?_
  refine x_iload_n dX6_enters_47 rfl 0 rfl ?_
  refine x_iconst (x := 3) dX6_enters_48 rfl ?_
  obtain ⟨z11, s11, h11, h⟩ := x_b_e h
  refine x_callS (As := [.int z1, .int 3]) (st := [.ref (w.2.2 5 31 0 0)]) (eX6_packet hw  h11) cs_X6_92 (Nat.le_of_ble_eq_true rfl) rfl (Nat.le_of_ble_eq_true rfl) _ rfl dX6_enters_49 [.int z11, .ref (w.2.2 5 31 0 0)] rfl ?_
  refine x_iconst (x := 1) dX6_enters_52 rfl ?_
  obtain ⟨hg12, h⟩ := x_g_e h
  obtain ⟨s13, hs13, h⟩ := x_let_e h
  refine x_iast 6464 z11.toNatClampNeg rfl s13 hs13 rfl rfl rfl (ok_e31 hw) hg12 dX6_enters_53 ?_
  refine x_aload_n dX6_enters_54 rfl 1 rfl ?_
  refine x_getR (d1 := 5) (K1 := 31) (p1 := 0) (r1 := 0) fl_X6_7 (ok_e30 hw) rfl dX6_enters_55 ?_
  refine x_iconst (x := 4) dX6_enters_58 rfl ?_
  refine x_dup2 dX6_enters_59 rfl rfl ?_
  refine x_iald 6464 4 rfl rfl rfl rfl (ok_e31 hw) rfl dX6_enters_60 ?_
  refine x_iconst (x := 1) dX6_enters_61 rfl ?_
  refine x_iadd dX6_enters_62 ?_
  obtain ⟨s14, hs14, h⟩ := x_let_e h
  refine x_iast 6464 4 rfl s14 hs14 rfl rfl rfl (ok_e31 hw) rfl dX6_enters_63 ?_
  refine x_aload_n dX6_enters_64 rfl 1 rfl ?_
  refine x_iload_n dX6_enters_65 rfl 0 rfl ?_
  obtain ⟨z15, s15, h15, h⟩ := x_b_e h
  refine x_callV (As := [.int z1]) (st := []) (eX6_places hw  h15) cv_X6_104 (Nat.le_of_ble_eq_true rfl) (ok_e30 hw) rfl (Nat.le_of_ble_eq_true rfl) _ rfl dX6_enters_66 [] rfl ?_
  refine x_aload_n dX6_enters_69 rfl 1 rfl ?_
  refine x_getR (d1 := 5) (K1 := 31) (p1 := 0) (r1 := 0) fl_X6_7 (ok_e30 hw) rfl dX6_enters_70 ?_
  refine x_iload_n dX6_enters_73 rfl 2 rfl ?_
  refine x_aload_n dX6_enters_74 rfl 1 rfl ?_
  refine x_getR (d1 := 5) (K1 := 31) (p1 := 0) (r1 := 0) fl_X6_7 (ok_e30 hw) rfl dX6_enters_75 ?_
  refine x_iload_n dX6_enters_78 rfl 2 rfl ?_
  refine x_bipush (x := 12) dX6_enters_79 rfl ?_
  obtain ⟨z16, s16, h16, h⟩ := x_b_e h
  refine x_callS (As := [.int a1, .int 12]) (st := [.ref (w.2.2 5 31 0 0), .int a1, .ref (w.2.2 5 31 0 0)]) (eX6_queue hw  h16) cs_X6_48 (Nat.le_of_ble_eq_true rfl) rfl (Nat.le_of_ble_eq_true rfl) _ rfl dX6_enters_81 [.int z16, .ref (w.2.2 5 31 0 0), .int a1, .ref (w.2.2 5 31 0 0)] rfl ?_
  obtain ⟨hg17, h⟩ := x_g_e h
  refine x_iald 6464 z16.toNatClampNeg rfl rfl rfl rfl (ok_e31 hw) hg17 dX6_enters_84 ?_
  obtain ⟨z18, s18, h18, h⟩ := x_b_e h
  refine x_callS (As := [.int a1, .int (s16 5 31 0 0 z16.toNatClampNeg)]) (st := [.ref (w.2.2 5 31 0 0)]) (eX6_entry hw  h18) cs_X6_107 (Nat.le_of_ble_eq_true rfl) rfl (Nat.le_of_ble_eq_true rfl) _ rfl dX6_enters_85 [.int z18, .ref (w.2.2 5 31 0 0)] rfl ?_
  refine x_iload_n dX6_enters_88 rfl 0 rfl ?_
  obtain ⟨hg19, h⟩ := x_g_e h
  obtain ⟨s20, hs20, h⟩ := x_let_e h
  refine x_iast 6464 z18.toNatClampNeg rfl s20 hs20 rfl rfl rfl (ok_e31 hw) hg19 dX6_enters_89 ?_
  refine x_aload_n dX6_enters_90 rfl 1 rfl ?_
  refine x_getR (d1 := 5) (K1 := 31) (p1 := 0) (r1 := 0) fl_X6_7 (ok_e30 hw) rfl dX6_enters_91 ?_
  refine x_iload_n dX6_enters_94 rfl 2 rfl ?_
  refine x_bipush (x := 12) dX6_enters_95 rfl ?_
  obtain ⟨z21, s21, h21, h⟩ := x_b_e h
  refine x_callS (As := [.int a1, .int 12]) (st := [.ref (w.2.2 5 31 0 0)]) (eX6_queue hw  h21) cs_X6_48 (Nat.le_of_ble_eq_true rfl) rfl (Nat.le_of_ble_eq_true rfl) _ rfl dX6_enters_97 [.int z21, .ref (w.2.2 5 31 0 0)] rfl ?_
  refine x_dup2 dX6_enters_100 rfl rfl ?_
  obtain ⟨hg22, h⟩ := x_g_e h
  refine x_iald 6464 z21.toNatClampNeg rfl rfl rfl rfl (ok_e31 hw) hg22 dX6_enters_101 ?_
  refine x_iconst (x := 1) dX6_enters_102 rfl ?_
  refine x_iadd dX6_enters_103 ?_
  obtain ⟨hg23, h⟩ := x_g_e h
  obtain ⟨s24, hs24, h⟩ := x_let_e h
  refine x_iast 6464 z21.toNatClampNeg rfl s24 hs24 rfl rfl rfl (ok_e31 hw) hg23 dX6_enters_104 ?_
  exact x_vretH rfl dX6_enters_105 h
def fX6_hasPackets (a1 : Int32) (σ : xS) : Option (Int32 × xS) :=
  x_b (fX6_sum a1 12 σ) fun z1 s1 => if z1 ≤ 0 then (some (0, s1)) else (some (1, s1))
set_option maxRecDepth 100000 in
set_option maxHeartbeats 4000000 in
theorem eX6_hasPackets {l : Launch} {w : xW} (hw : w.1.2 = true) {a1 : Int32} {σ τ : xS} {r : Int32} (h : fX6_hasPackets a1 σ = some (r, τ)) : xEV l w yX6_hasPackets mX6_hasPackets [.ref (w.2.2 5 30 0 0), .int a1] σ (some (.int r)) τ := by
  rw [fX6_hasPackets] at h
  refine x_enter (by decide +kernel) rfl (Nat.le_of_ble_eq_true rfl) ?_
  refine x_sub (L1 := [(0, .ref (w.2.2 5 30 0 0)), (1, .int a1)]) [0, 1] rfl ?_
  refine x_aload_n dX6_hasPackets_0 rfl 0 rfl ?_
  refine x_iload_n dX6_hasPackets_1 rfl 1 rfl ?_
  refine x_bipush (x := 12) dX6_hasPackets_2 rfl ?_
  obtain ⟨z1, s1, h1, h⟩ := x_b_e h
  refine x_callV (As := [.int a1, .int 12]) (st := []) (eX6_sum hw  h1) cv_X6_59 (Nat.le_of_ble_eq_true rfl) (ok_e30 hw) rfl (Nat.le_of_ble_eq_true rfl) _ rfl dX6_hasPackets_4 [.int z1] rfl ?_
  refine x_if_le (tgt := 14) dX6_hasPackets_7 rfl (fun hc => ?_) (fun hc => ?_)
  · have h := x_t hc h
    refine x_iconst (x := 0) dX6_hasPackets_14 rfl ?_
    exact x_zretH rfl rfl dX6_hasPackets_15 h
  · have h := x_f hc h
    refine x_iconst (x := 1) dX6_hasPackets_10 rfl ?_
    refine x_goto (tgt := 15) dX6_hasPackets_11 rfl ?_
    exact x_zretH rfl rfl dX6_hasPackets_15 h
