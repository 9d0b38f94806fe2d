def BX6_removesVictims_17 (a1 : Int32) (a3 : Int32) (k13 : Int32 → Int32 → xS → Option (Unit × xS)) : Nat → Int32 → xS → Option (Unit × xS)
  | 0, _, _ => none
  | n + 1, a2, σ => if a2 ≤ 0 then (x_let (a3 + (-1)) fun t3 => k13 a2 t3 σ) else (x_b (fX6_queue a3 12 σ) fun z4 s4 => x_g (x_in z4 6464) (if (s4 5 31 0 0 z4.toNatClampNeg) ≤ 0 then (x_let (a3 + (-1)) fun t6 => k13 a2 t6 s4) else (x_b (fX6_queue a3 12 s4) fun z7 s7 => x_g (x_in z7 6464) (x_b (fX6_leaves a3 ((s7 5 31 0 0 z7.toNatClampNeg) - 1) s7) fun z9 s9 => x_b (fX6_settles a3 s9) fun z10 s10 => x_b (fX6_loses (a1 / 3) 8 z9 s10) fun z11 s11 => x_let (a2 + (-1)) fun t12 => (BX6_removesVictims_17 a1 a3 k13 n) t12 s11))))
set_option maxRecDepth 100000 in
set_option maxHeartbeats 4000000 in
theorem TX6_removesVictims_17 {l : Launch} {w : xW} (hw : w.1.2 = true) {a1 : Int32} {a3 : Int32} {k13 : Int32 → Int32 → xS → Option (Unit × xS)} {τ : xS} {r : Unit} (hk13 : ∀ (a2 : Int32) (a3 : Int32) (σ1 : xS), k13 a2 a3 σ1 = some (r, τ) → xAt l w mX6_removesVictims 13 [(0, .ref (w.2.2 5 30 0 0)), (1, .int a1), (2, .int a2), (3, .int a3)] [] σ1 none τ) : ∀ (n : Nat) (a2 : Int32) (σ : xS), BX6_removesVictims_17 a1 a3 k13 n a2 σ = some (r, τ) → xAt l w mX6_removesVictims 17 [(0, .ref (w.2.2 5 30 0 0)), (1, .int a1), (2, .int a2), (3, .int a3)] [] σ none τ := by
  intro n
  induction n with
  | zero => intro a2 σ h; cases h
  | succ n ih =>
    intro a2 σ h
    rw [BX6_removesVictims_17] at h
    refine x_iload_n dX6_removesVictims_17 rfl 2 rfl ?_
    refine x_if_le (tgt := 77) dX6_removesVictims_18 rfl (fun hc => ?_) (fun hc => ?_)
    · have h := x_t hc h
      obtain ⟨t3, ht3, h⟩ := x_let_e h
      refine x_iinc t3 (-1) (by decide) ht3 dX6_removesVictims_77 3 rfl (Nat.le_of_ble_eq_true rfl) [(3, .int t3), (0, .ref (w.2.2 5 30 0 0)), (1, .int a1), (2, .int a2)] rfl ?_
      refine x_goto (tgt := 13) dX6_removesVictims_80 rfl ?_
      refine x_sub (L1 := [(0, .ref (w.2.2 5 30 0 0)), (1, .int a1), (2, .int a2), (3, .int t3)]) [1, 2, 3, 0] rfl ?_
      exact hk13 _ _ _ h
    · have h := x_f hc h
      refine x_aload_n dX6_removesVictims_21 rfl 0 rfl ?_
      refine x_getR (d1 := 5) (K1 := 31) (p1 := 0) (r1 := 0) fl_X6_7 (ok_e30 hw) rfl dX6_removesVictims_22 ?_
      refine x_iload_n dX6_removesVictims_25 rfl 3 rfl ?_
      refine x_bipush (x := 12) dX6_removesVictims_26 rfl ?_
      obtain ⟨z4, s4, h4, h⟩ := x_b_e h
      refine x_callS (As := [.int a3, .int 12]) (st := [.ref (w.2.2 5 31 0 0)]) (eX6_queue hw  h4) cs_X6_48 (Nat.le_of_ble_eq_true rfl) rfl (Nat.le_of_ble_eq_true rfl) _ rfl dX6_removesVictims_28 [.int z4, .ref (w.2.2 5 31 0 0)] rfl ?_
      obtain ⟨hg5, h⟩ := x_g_e h
      refine x_iald 6464 z4.toNatClampNeg rfl rfl rfl rfl (ok_e31 hw) hg5 dX6_removesVictims_31 ?_
      refine x_if_le (tgt := 77) dX6_removesVictims_32 rfl (fun hc => ?_) (fun hc => ?_)
      · have h := x_t hc h
        obtain ⟨t6, ht6, h⟩ := x_let_e h
        refine x_iinc t6 (-1) (by decide) ht6 dX6_removesVictims_77 3 rfl (Nat.le_of_ble_eq_true rfl) [(3, .int t6), (0, .ref (w.2.2 5 30 0 0)), (1, .int a1), (2, .int a2)] rfl ?_
        refine x_goto (tgt := 13) dX6_removesVictims_80 rfl ?_
        refine x_sub (L1 := [(0, .ref (w.2.2 5 30 0 0)), (1, .int a1), (2, .int a2), (3, .int t6)]) [1, 2, 3, 0] rfl ?_
        exact hk13 _ _ _ h
      · have h := x_f hc h
        refine x_aload_n dX6_removesVictims_35 rfl 0 rfl ?_
        refine x_iload_n dX6_removesVictims_36 rfl 3 rfl ?_
        refine x_aload_n dX6_removesVictims_37 rfl 0 rfl ?_
        refine x_getR (d1 := 5) (K1 := 31) (p1 := 0) (r1 := 0) fl_X6_7 (ok_e30 hw) rfl dX6_removesVictims_38 ?_
        refine x_iload_n dX6_removesVictims_41 rfl 3 rfl ?_
        refine x_bipush (x := 12) dX6_removesVictims_42 rfl ?_
        obtain ⟨z7, s7, h7, h⟩ := x_b_e h
        refine x_callS (As := [.int a3, .int 12]) (st := [.ref (w.2.2 5 31 0 0), .int a3, .ref (w.2.2 5 30 0 0)]) (eX6_queue hw  h7) cs_X6_48 (Nat.le_of_ble_eq_true rfl) rfl (Nat.le_of_ble_eq_true rfl) _ rfl dX6_removesVictims_44 [.int z7, .ref (w.2.2 5 31 0 0), .int a3, .ref (w.2.2 5 30 0 0)] rfl ?_
        obtain ⟨hg8, h⟩ := x_g_e h
        refine x_iald 6464 z7.toNatClampNeg rfl rfl rfl rfl (ok_e31 hw) hg8 dX6_removesVictims_47 ?_
        refine x_iconst (x := 1) dX6_removesVictims_48 rfl ?_
        refine x_isub dX6_removesVictims_49 ?_
        obtain ⟨z9, s9, h9, h⟩ := x_b_e h
        refine x_callV (As := [.int a3, .int ((s7 5 31 0 0 z7.toNatClampNeg) - 1)]) (st := []) (eX6_leaves hw  h9) cv_X6_132 (Nat.le_of_ble_eq_true rfl) (ok_e30 hw) rfl (Nat.le_of_ble_eq_true rfl) _ rfl dX6_removesVictims_50 [.int z9] rfl ?_
        refine x_istore z9 rfl dX6_removesVictims_53 (Nat.le_of_ble_eq_true rfl) [(4, .int z9), (0, .ref (w.2.2 5 30 0 0)), (1, .int a1), (2, .int a2), (3, .int a3)] rfl ?_
        refine x_aload_n dX6_removesVictims_55 rfl 1 rfl ?_
        refine x_iload_n dX6_removesVictims_56 rfl 4 rfl ?_
        obtain ⟨z10, s10, h10, h⟩ := x_b_e h
        refine x_callV (As := [.int a3]) (st := []) (eX6_settles hw  h10) cv_X6_135 (Nat.le_of_ble_eq_true rfl) (ok_e30 hw) rfl (Nat.le_of_ble_eq_true rfl) _ rfl dX6_removesVictims_57 [] rfl ?_
        refine x_aload_n dX6_removesVictims_60 rfl 1 rfl ?_
        refine x_iload_n dX6_removesVictims_61 rfl 2 rfl ?_
        refine x_iconst (x := 3) dX6_removesVictims_62 rfl ?_
        refine x_idiv dX6_removesVictims_63 (by decide) ?_
        refine x_bipush (x := 8) dX6_removesVictims_64 rfl ?_
        refine x_iload dX6_removesVictims_66 0 rfl ?_
        obtain ⟨z11, s11, h11, h⟩ := x_b_e h
        refine x_callV (As := [.int (a1 / 3), .int 8, .int z9]) (st := []) (eX6_loses hw  h11) cv_X6_138 (Nat.le_of_ble_eq_true rfl) (ok_e30 hw) rfl (Nat.le_of_ble_eq_true rfl) _ rfl dX6_removesVictims_68 [] rfl ?_
        obtain ⟨t12, ht12, h⟩ := x_let_e h
        refine x_iinc t12 (-1) (by decide) ht12 dX6_removesVictims_71 3 rfl (Nat.le_of_ble_eq_true rfl) [(2, .int t12), (4, .int z9), (0, .ref (w.2.2 5 30 0 0)), (1, .int a1), (3, .int a3)] rfl ?_
        refine x_goto (tgt := 17) dX6_removesVictims_74 rfl ?_
        refine x_sub (L1 := [(0, .ref (w.2.2 5 30 0 0)), (1, .int a1), (2, .int t12), (3, .int a3)]) [2, 3, 0, 4] rfl ?_
        exact ih _ _ h
def BX6_removesVictims_13 (a1 : Int32) : Nat → Int32 → Int32 → xS → Option (Unit × xS)
  | 0, _, _, _ => none
  | n + 1, a2, a3, σ => if a2 ≤ 0 then (some ((), σ)) else (BX6_removesVictims_17 a1 a3 (BX6_removesVictims_13 a1 n) x_FU a2 σ)
set_option maxRecDepth 100000 in
set_option maxHeartbeats 4000000 in
theorem TX6_removesVictims_13 {l : Launch} {w : xW} (hw : w.1.2 = true) {a1 : Int32} {τ : xS} {r : Unit} : ∀ (n : Nat) (a2 : Int32) (a3 : Int32) (σ : xS), BX6_removesVictims_13 a1 n a2 a3 σ = some (r, τ) → xAt l w mX6_removesVictims 13 [(0, .ref (w.2.2 5 30 0 0)), (1, .int a1), (2, .int a2), (3, .int a3)] [] σ none τ := by
  intro n
  induction n with
  | zero => intro a2 a3 σ h; cases h
  | succ n ih =>
    intro a2 a3 σ h
    rw [BX6_removesVictims_13] at h
    refine x_iload_n dX6_removesVictims_13 rfl 2 rfl ?_
    refine x_if_le (tgt := 83) dX6_removesVictims_14 rfl (fun hc => ?_) (fun hc => ?_)
    · have h := x_t hc h
      exact x_vretH rfl dX6_removesVictims_83 h
    · have h := x_f hc h
      refine x_sub (L1 := [(0, .ref (w.2.2 5 30 0 0)), (1, .int a1), (2, .int a2), (3, .int a3)]) [0, 1, 2, 3] rfl ?_
      exact TX6_removesVictims_17 hw ih _ _ _ h
def fX6_removesVictims (a1 : Int32) (σ : xS) : Option (Unit × xS) :=
  x_let (σ 5 30 0 0 7) fun t1 => x_let ((3 * (a1 / 3)) + 2) fun t2 => BX6_removesVictims_13 a1 x_FU t1 t2 σ
set_option maxRecDepth 100000 in
set_option maxHeartbeats 4000000 in
theorem eX6_removesVictims {l : Launch} {w : xW} (hw : w.1.2 = true) {a1 : Int32} {σ τ : xS} {r : Unit} (h : fX6_removesVictims a1 σ = some (r, τ)) : xEV l w yX6_removesVictims mX6_removesVictims [.ref (w.2.2 5 30 0 0), .int a1] σ none τ := by
  rw [fX6_removesVictims] at h
  refine x_enter (by decide +kernel) rfl (Nat.le_of_ble_eq_true rfl) ?_
  refine x_sub (L1 := [(0, .ref (w.2.2 5 30 0 0)), (1, .int a1)]) [0, 1] rfl ?_
  refine x_aload_n dX6_removesVictims_0 rfl 0 rfl ?_
  refine x_getI fl_X6_125 (ok_e30 hw) rfl dX6_removesVictims_1 ?_
  obtain ⟨t1, ht1, h⟩ := x_let_e h
  refine x_istore_n t1 ht1 dX6_removesVictims_4 rfl (Nat.le_of_ble_eq_true rfl) [(2, .int t1), (0, .ref (w.2.2 5 30 0 0)), (1, .int a1)] rfl ?_
  refine x_iconst (x := 3) dX6_removesVictims_5 rfl ?_
  refine x_iload_n dX6_removesVictims_6 rfl 2 rfl ?_
  refine x_iconst (x := 3) dX6_removesVictims_7 rfl ?_
  refine x_idiv dX6_removesVictims_8 (by decide) ?_
  refine x_imul dX6_removesVictims_9 ?_
  refine x_iconst (x := 2) dX6_removesVictims_10 rfl ?_
  refine x_iadd dX6_removesVictims_11 ?_
  obtain ⟨t2, ht2, h⟩ := x_let_e h
  refine x_istore_n t2 ht2 dX6_removesVictims_12 rfl (Nat.le_of_ble_eq_true rfl) [(3, .int t2), (2, .int t1), (0, .ref (w.2.2 5 30 0 0)), (1, .int a1)] rfl ?_
  refine x_sub (L1 := [(0, .ref (w.2.2 5 30 0 0)), (1, .int a1), (2, .int t1), (3, .int t2)]) [2, 3, 1, 0] rfl ?_
  exact TX6_removesVictims_13 hw _ _ _ _ h
def BX6_arrives_105 (a1 : Int32) (a2 : Int32) (a3 : Int32) (σ : xS) : Option (Int32 × xS) :=
  x_b (fX6_counts a1 a2 a3 σ) fun z2 s2 => x_b (fX6_enters a1 a2 s2) fun z3 s3 => some (((s3 5 31 0 0 4) - 1), s3)
set_option maxRecDepth 100000 in
set_option maxHeartbeats 4000000 in
theorem TX6_arrives_105 {l : Launch} {w : xW} (hw : w.1.2 = true) {a1 : Int32} {a2 : Int32} {a3 : Int32} {σ τ : xS} {r : Int32} (h : BX6_arrives_105 a1 a2 a3 σ = some (r, τ)) : xAt l w mX6_arrives 105 [(0, .ref (w.2.2 5 30 0 0)), (1, .int a1), (2, .int a2), (3, .int a3)] [] σ (some (.int r)) τ := by
  rw [BX6_arrives_105] at h
  refine x_aload_n dX6_arrives_105 rfl 0 rfl ?_
  refine x_iload_n dX6_arrives_106 rfl 1 rfl ?_
  refine x_iload_n dX6_arrives_107 rfl 2 rfl ?_
  refine x_iload_n dX6_arrives_108 rfl 3 rfl ?_
  obtain ⟨z2, s2, h2, h⟩ := x_b_e h
  refine x_callV (As := [.int a1, .int a2, .int a3]) (st := []) (eX6_counts hw  h2) cv_X6_148 (Nat.le_of_ble_eq_true rfl) (ok_e30 hw) rfl (Nat.le_of_ble_eq_true rfl) _ rfl dX6_arrives_109 [] rfl ?_
  refine x_aload_n dX6_arrives_112 rfl 0 rfl ?_
  refine x_iload_n dX6_arrives_113 rfl 1 rfl ?_
  refine x_iload_n dX6_arrives_114 rfl 2 rfl ?_
  obtain ⟨z3, s3, h3, h⟩ := x_b_e h
  refine x_callV (As := [.int a1, .int a2]) (st := []) (eX6_enters hw  h3) cv_X6_151 (Nat.le_of_ble_eq_true rfl) (ok_e30 hw) rfl (Nat.le_of_ble_eq_true rfl) _ rfl dX6_arrives_115 [] rfl ?_
  refine x_aload_n dX6_arrives_118 rfl 0 rfl ?_
  refine x_getR (d1 := 5) (K1 := 31) (p1 := 0) (r1 := 0) fl_X6_7 (ok_e30 hw) rfl dX6_arrives_119 ?_
  refine x_iconst (x := 4) dX6_arrives_122 rfl ?_
  refine x_iald 6464 4 rfl rfl rfl rfl (ok_e31 hw) rfl dX6_arrives_123 ?_
  refine x_iconst (x := 1) dX6_arrives_124 rfl ?_
  refine x_isub dX6_arrives_125 ?_
  exact x_iretH rfl dX6_arrives_126 h
def BX6_arrives_21 (a1 : Int32) (a2 : Int32) : Nat → Int32 → xS → Option (Int32 × xS)
  | 0, _, _ => none
  | n + 1, a4, σ => if 4 ≤ a4 then (x_b (fX6_queue a1 9 σ) fun z7 s7 => x_g (x_in z7 6464) (if (s7 5 31 0 0 z7.toNatClampNeg) = 1 then (x_b (fX6_loses (a1 / 3) 5 a2 s7) fun z10 s10 => some ((-6), s10)) else (x_b (fX6_loses (a1 / 3) (s7 5 36 0 0 2) a2 s7) fun z9 s9 => some ((-6), s9)))) else (x_let (4 - a4) fun t11 => x_g (x_in t11 5) (x_let (6 + a4) fun t13 => x_g (x_in t13 6464) (x_let (x_set σ 5 31 0 0 t13.toNatClampNeg (σ 5 36 0 0 t11.toNatClampNeg)) fun s15 => x_let (a4 + 1) fun t16 => (BX6_arrives_21 a1 a2 n) t16 s15)))
set_option maxRecDepth 100000 in
set_option maxHeartbeats 4000000 in
theorem TX6_arrives_21 {l : Launch} {w : xW} (hw : w.1.2 = true) {a1 : Int32} {a2 : Int32} {τ : xS} {r : Int32} : ∀ (n : Nat) (a4 : Int32) (σ : xS), BX6_arrives_21 a1 a2 n a4 σ = some (r, τ) → xAt l w mX6_arrives 21 [(0, .ref (w.2.2 5 30 0 0)), (1, .int a1), (2, .int a2), (4, .int a4)] [] σ (some (.int r)) τ := by
  intro n
  induction n with
  | zero => intro a4 σ h; cases h
  | succ n ih =>
    intro a4 σ h
    rw [BX6_arrives_21] at h
    refine x_iload dX6_arrives_21 3 rfl ?_
    refine x_iconst (x := 4) dX6_arrives_23 rfl ?_
    refine x_icmp_ge (tgt := 52) dX6_arrives_24 rfl (fun hc => ?_) (fun hc => ?_)
    · have h := x_t hc h
      refine x_aload_n dX6_arrives_52 rfl 0 rfl ?_
      refine x_iload_n dX6_arrives_53 rfl 1 rfl ?_
      refine x_iconst (x := 3) dX6_arrives_54 rfl ?_
      refine x_idiv dX6_arrives_55 (by decide) ?_
      refine x_aload_n dX6_arrives_56 rfl 0 rfl ?_
      refine x_getR (d1 := 5) (K1 := 31) (p1 := 0) (r1 := 0) fl_X6_7 (ok_e30 hw) rfl dX6_arrives_57 ?_
      refine x_iload_n dX6_arrives_60 rfl 1 rfl ?_
      refine x_bipush (x := 9) dX6_arrives_61 rfl ?_
      obtain ⟨z7, s7, h7, h⟩ := x_b_e h
      refine x_callS (As := [.int a1, .int 9]) (st := [.ref (w.2.2 5 31 0 0), .int (a1 / 3), .ref (w.2.2 5 30 0 0)]) (eX6_queue hw  h7) cs_X6_48 (Nat.le_of_ble_eq_true rfl) rfl (Nat.le_of_ble_eq_true rfl) _ rfl dX6_arrives_63 [.int z7, .ref (w.2.2 5 31 0 0), .int (a1 / 3), .ref (w.2.2 5 30 0 0)] rfl ?_
      obtain ⟨hg8, h⟩ := x_g_e h
      refine x_iald 6464 z7.toNatClampNeg rfl rfl rfl rfl (ok_e31 hw) hg8 dX6_arrives_66 ?_
      refine x_iconst (x := 1) dX6_arrives_67 rfl ?_
      refine x_icmp_ne (tgt := 75) dX6_arrives_68 rfl (fun hc => ?_) (fun hc => ?_)
      · have h := x_f hc h
        refine x_aload_n dX6_arrives_75 rfl 0 rfl ?_
        refine x_getR (d1 := 5) (K1 := 36) (p1 := 0) (r1 := 0) fl_X6_26 (ok_e30 hw) rfl dX6_arrives_76 ?_
        refine x_iconst (x := 2) dX6_arrives_79 rfl ?_
        refine x_iald 5 2 rfl rfl rfl rfl (ok_e36 hw) rfl dX6_arrives_80 ?_
        refine x_iload_n dX6_arrives_81 rfl 2 rfl ?_
        obtain ⟨z9, s9, h9, h⟩ := x_b_e h
        refine x_callV (As := [.int (a1 / 3), .int (s7 5 36 0 0 2), .int a2]) (st := []) (eX6_loses hw  h9) cv_X6_138 (Nat.le_of_ble_eq_true rfl) (ok_e30 hw) rfl (Nat.le_of_ble_eq_true rfl) _ rfl dX6_arrives_82 [] rfl ?_
        refine x_bipush (x := (-6)) dX6_arrives_85 (by decide) ?_
        exact x_iretH rfl dX6_arrives_87 h
      · have h := x_t hc h
        refine x_iconst (x := 5) dX6_arrives_71 rfl ?_
        refine x_goto (tgt := 81) dX6_arrives_72 rfl ?_
        refine x_iload_n dX6_arrives_81 rfl 2 rfl ?_
        obtain ⟨z10, s10, h10, h⟩ := x_b_e h
        refine x_callV (As := [.int (a1 / 3), .int 5, .int a2]) (st := []) (eX6_loses hw  h10) cv_X6_138 (Nat.le_of_ble_eq_true rfl) (ok_e30 hw) rfl (Nat.le_of_ble_eq_true rfl) _ rfl dX6_arrives_82 [] rfl ?_
        refine x_bipush (x := (-6)) dX6_arrives_85 (by decide) ?_
        exact x_iretH rfl dX6_arrives_87 h
    · have h := x_f hc h
      refine x_aload_n dX6_arrives_27 rfl 0 rfl ?_
      refine x_getR (d1 := 5) (K1 := 31) (p1 := 0) (r1 := 0) fl_X6_7 (ok_e30 hw) rfl dX6_arrives_28 ?_
      refine x_bipush (x := 6) dX6_arrives_31 rfl ?_
      refine x_iload dX6_arrives_33 3 rfl ?_
      refine x_iadd dX6_arrives_35 ?_
      refine x_aload_n dX6_arrives_36 rfl 0 rfl ?_
      refine x_getR (d1 := 5) (K1 := 36) (p1 := 0) (r1 := 0) fl_X6_26 (ok_e30 hw) rfl dX6_arrives_37 ?_
      refine x_iconst (x := 4) dX6_arrives_40 rfl ?_
      refine x_iload dX6_arrives_41 3 rfl ?_
      refine x_isub dX6_arrives_43 ?_
      obtain ⟨t11, ht11, h⟩ := x_let_e h
      refine x_nm t11 ht11 ?_
      obtain ⟨hg12, h⟩ := x_g_e h
      refine x_iald 5 t11.toNatClampNeg rfl rfl rfl rfl (ok_e36 hw) hg12 dX6_arrives_44 ?_
      obtain ⟨t13, ht13, h⟩ := x_let_e h
      refine x_nm2 t13 ht13 ?_
      obtain ⟨hg14, h⟩ := x_g_e h
      obtain ⟨s15, hs15, h⟩ := x_let_e h
      refine x_iast 6464 t13.toNatClampNeg rfl s15 hs15 rfl rfl rfl (ok_e31 hw) hg14 dX6_arrives_45 ?_
      obtain ⟨t16, ht16, h⟩ := x_let_e h
      refine x_iinc t16 1 rfl ht16 dX6_arrives_46 3 rfl (Nat.le_of_ble_eq_true rfl) [(4, .int t16), (0, .ref (w.2.2 5 30 0 0)), (1, .int a1), (2, .int a2)] rfl ?_
      refine x_goto (tgt := 21) dX6_arrives_49 rfl ?_
      refine x_sub (L1 := [(0, .ref (w.2.2 5 30 0 0)), (1, .int a1), (2, .int a2), (4, .int t16)]) [1, 2, 3, 0] rfl ?_
      exact ih _ _ h
def fX6_arrives (a1 : Int32) (a2 : Int32) (σ : xS) : Option (Int32 × xS) :=
  x_b (fX6_decides a1 a2 σ) fun z1 s1 => if z1 = 0 then (x_let (x_set s1 5 31 0 0 5 1) fun s6 => BX6_arrives_21 a1 a2 x_FU 0 s6) else (if z1 = 4 then (x_b (fX6_removesVictims a1 s1) fun z4 s4 => x_b (fX6_early a1 a2 s4) fun z5 s5 => BX6_arrives_105 a1 a2 z5 s5) else (BX6_arrives_105 a1 a2 z1 s1))
set_option maxRecDepth 100000 in
set_option maxHeartbeats 4000000 in
theorem eX6_arrives {l : Launch} {w : xW} (hw : w.1.2 = true) {a1 : Int32} {a2 : Int32} {σ τ : xS} {r : Int32} (h : fX6_arrives a1 a2 σ = some (r, τ)) : xEV l w yX6_arrives mX6_arrives [.ref (w.2.2 5 30 0 0), .int a1, .int a2] σ (some (.int r)) τ := by
  rw [fX6_arrives] at h
  refine x_enter (by decide +kernel) rfl (Nat.le_of_ble_eq_true rfl) ?_
  refine x_sub (L1 := [(0, .ref (w.2.2 5 30 0 0)), (1, .int a1), (2, .int a2)]) [0, 1, 2] rfl ?_
  refine x_aload_n dX6_arrives_0 rfl 0 rfl ?_
  refine x_iload_n dX6_arrives_1 rfl 1 rfl ?_
  refine x_iload_n dX6_arrives_2 rfl 2 rfl ?_
  obtain ⟨z1, s1, h1, h⟩ := x_b_e h
  refine x_callV (As := [.int a1, .int a2]) (st := []) (eX6_decides hw  h1) cv_X6_142 (Nat.le_of_ble_eq_true rfl) (ok_e30 hw) rfl (Nat.le_of_ble_eq_true rfl) _ rfl dX6_arrives_3 [.int z1] rfl ?_
  refine x_istore_n z1 rfl dX6_arrives_6 rfl (Nat.le_of_ble_eq_true rfl) [(3, .int z1), (0, .ref (w.2.2 5 30 0 0)), (1, .int a1), (2, .int a2)] rfl ?_
  refine x_iload_n dX6_arrives_7 rfl 0 rfl ?_
  refine x_if_ne (tgt := 88) dX6_arrives_8 rfl (fun hc => ?_) (fun hc => ?_)
  · have h := x_f hc h
    refine x_iload_n dX6_arrives_88 rfl 0 rfl ?_
    refine x_iconst (x := 4) dX6_arrives_89 rfl ?_
    refine x_icmp_ne (tgt := 105) dX6_arrives_90 rfl (fun hc => ?_) (fun hc => ?_)
    · have h := x_f hc h
      refine x_sub (L1 := [(0, .ref (w.2.2 5 30 0 0)), (1, .int a1), (2, .int a2), (3, .int z1)]) [1, 2, 3, 0] rfl ?_
      exact TX6_arrives_105 hw  h
    · have h := x_t hc h
      refine x_aload_n dX6_arrives_93 rfl 1 rfl ?_
      refine x_iload_n dX6_arrives_94 rfl 2 rfl ?_
      obtain ⟨z4, s4, h4, h⟩ := x_b_e h
      refine x_callV (As := [.int a1]) (st := []) (eX6_removesVictims hw  h4) cv_X6_145 (Nat.le_of_ble_eq_true rfl) (ok_e30 hw) rfl (Nat.le_of_ble_eq_true rfl) _ rfl dX6_arrives_95 [] rfl ?_
      refine x_aload_n dX6_arrives_98 rfl 1 rfl ?_
      refine x_iload_n dX6_arrives_99 rfl 2 rfl ?_
      refine x_iload_n dX6_arrives_100 rfl 3 rfl ?_
      obtain ⟨z5, s5, h5, h⟩ := x_b_e h
      refine x_callV (As := [.int a1, .int a2]) (st := []) (eX6_early hw  h5) cv_X6_116 (Nat.le_of_ble_eq_true rfl) (ok_e30 hw) rfl (Nat.le_of_ble_eq_true rfl) _ rfl dX6_arrives_101 [.int z5] rfl ?_
      refine x_istore_n z5 rfl dX6_arrives_104 rfl (Nat.le_of_ble_eq_true rfl) [(3, .int z5), (0, .ref (w.2.2 5 30 0 0)), (1, .int a1), (2, .int a2)] rfl ?_
      refine x_sub (L1 := [(0, .ref (w.2.2 5 30 0 0)), (1, .int a1), (2, .int a2), (3, .int z5)]) [1, 2, 3, 0] rfl ?_
      exact TX6_arrives_105 hw  h
  · have h := x_t hc h
    refine x_aload_n dX6_arrives_11 rfl 1 rfl ?_
    refine x_getR (d1 := 5) (K1 := 31) (p1 := 0) (r1 := 0) fl_X6_7 (ok_e30 hw) rfl dX6_arrives_12 ?_
    refine x_iconst (x := 5) dX6_arrives_15 rfl ?_
    refine x_iconst (x := 1) dX6_arrives_16 rfl ?_
    obtain ⟨s6, hs6, h⟩ := x_let_e h
    refine x_iast 6464 5 rfl s6 hs6 rfl rfl rfl (ok_e31 hw) rfl dX6_arrives_17 ?_
    refine x_iconst (x := 0) dX6_arrives_18 rfl ?_
    refine x_istore 0 rfl dX6_arrives_19 (Nat.le_of_ble_eq_true rfl) [(4, .int 0), (3, .int z1), (0, .ref (w.2.2 5 30 0 0)), (1, .int a1), (2, .int a2)] rfl ?_
    refine x_sub (L1 := [(0, .ref (w.2.2 5 30 0 0)), (1, .int a1), (2, .int a2), (4, .int 0)]) [2, 3, 4, 0] rfl ?_
    exact TX6_arrives_21 hw _ _ _ h
def fX6_arrive (a1 : Int32) (a2 : Int32) (a3 : Int32) (σ : xS) : Option (Int32 × xS) :=
  x_b (fX6_isQueue a1 a2 σ) fun z1 s1 => if z1 = 0 then (some ((-1), s1)) else (x_b (fX6_in a3 1 12 s1) fun z2 s2 => if z2 = 0 then (some ((-2), s2)) else (x_b (fX6_arrives ((3 * a1) + a2) a3 s2) fun z3 s3 => some (z3, s3)))
set_option maxRecDepth 100000 in
set_option maxHeartbeats 4000000 in
theorem eX6_arrive {l : Launch} {w : xW} (hw : w.1.2 = true) {a1 : Int32} {a2 : Int32} {a3 : Int32} {σ τ : xS} {r : Int32} (h : fX6_arrive a1 a2 a3 σ = some (r, τ)) : xEV l w yX6_arrive mX6_arrive [.ref (w.2.2 5 30 0 0), .int a1, .int a2, .int a3] σ (some (.int r)) τ := by
  rw [fX6_arrive] at h
  refine x_enter (by decide +kernel) rfl (Nat.le_of_ble_eq_true rfl) ?_
  refine x_sub (L1 := [(0, .ref (w.2.2 5 30 0 0)), (1, .int a1), (2, .int a2), (3, .int a3)]) [0, 1, 2, 3] rfl ?_
  refine x_aload_n dX6_arrive_0 rfl 0 rfl ?_
  refine x_iload_n dX6_arrive_1 rfl 1 rfl ?_
  refine x_iload_n dX6_arrive_2 rfl 2 rfl ?_
  obtain ⟨z1, s1, h1, h⟩ := x_b_e h
  refine x_callV (As := [.int a1, .int a2]) (st := []) (eX6_isQueue hw  h1) cv_X6_75 (Nat.le_of_ble_eq_true rfl) (ok_e30 hw) rfl (Nat.le_of_ble_eq_true rfl) _ rfl dX6_arrive_3 [.int z1] rfl ?_
  refine x_if_ne (tgt := 11) dX6_arrive_6 rfl (fun hc => ?_) (fun hc => ?_)
  · have h := x_f hc h
    refine x_iload_n dX6_arrive_11 rfl 3 rfl ?_
    refine x_iconst (x := 1) dX6_arrive_12 rfl ?_
    refine x_bipush (x := 12) dX6_arrive_13 rfl ?_
    obtain ⟨z2, s2, h2, h⟩ := x_b_e h
    refine x_callS (As := [.int a3, .int 1, .int 12]) (st := []) (eX6_in hw  h2) cs_X6_36 (Nat.le_of_ble_eq_true rfl) rfl (Nat.le_of_ble_eq_true rfl) _ rfl dX6_arrive_15 [.int z2] rfl ?_
    refine x_if_eq (tgt := 34) dX6_arrive_18 rfl (fun hc => ?_) (fun hc => ?_)
    · have h := x_t hc h
      refine x_bipush (x := (-2)) dX6_arrive_34 (by decide) ?_
      exact x_iretH rfl dX6_arrive_36 h
    · have h := x_f hc h
      refine x_aload_n dX6_arrive_21 rfl 0 rfl ?_
      refine x_iconst (x := 3) dX6_arrive_22 rfl ?_
      refine x_iload_n dX6_arrive_23 rfl 1 rfl ?_
      refine x_imul dX6_arrive_24 ?_
      refine x_iload_n dX6_arrive_25 rfl 2 rfl ?_
      refine x_iadd dX6_arrive_26 ?_
      refine x_iload_n dX6_arrive_27 rfl 3 rfl ?_
      obtain ⟨z3, s3, h3, h⟩ := x_b_e h
      refine x_callV (As := [.int ((3 * a1) + a2), .int a3]) (st := []) (eX6_arrives hw  h3) cv_X6_154 (Nat.le_of_ble_eq_true rfl) (ok_e30 hw) rfl (Nat.le_of_ble_eq_true rfl) _ rfl dX6_arrive_28 [.int z3] rfl ?_
      refine x_goto (tgt := 36) dX6_arrive_31 rfl ?_
      exact x_iretH rfl dX6_arrive_36 h
  · have h := x_t hc h
    refine x_iconst (x := (-1)) dX6_arrive_9 (by decide) ?_
    exact x_iretH rfl dX6_arrive_10 h
def fX6_firstSize (a1 : Int32) (σ : xS) : Option (Int32 × xS) :=
  x_b (fX6_entry a1 0 σ) fun z1 s1 => x_g (x_in z1 6464) (x_b (fX6_packet (s1 5 31 0 0 z1.toNatClampNeg) 1 s1) fun z3 s3 => x_g (x_in z3 6464) (some ((s3 5 31 0 0 z3.toNatClampNeg), s3)))
set_option maxRecDepth 100000 in
set_option maxHeartbeats 4000000 in
theorem eX6_firstSize {l : Launch} {w : xW} (hw : w.1.2 = true) {a1 : Int32} {σ τ : xS} {r : Int32} (h : fX6_firstSize a1 σ = some (r, τ)) : xEV l w yX6_firstSize mX6_firstSize [.ref (w.2.2 5 30 0 0), .int a1] σ (some (.int r)) τ := by
  rw [fX6_firstSize] at h
  refine x_enter (by decide +kernel) rfl (Nat.le_of_ble_eq_true rfl) ?_
  refine x_sub (L1 := [(0, .ref (w.2.2 5 30 0 0)), (1, .int a1)]) [0, 1] rfl ?_
  refine x_aload_n dX6_firstSize_0 rfl 0 rfl ?_
  refine x_getR (d1 := 5) (K1 := 31) (p1 := 0) (r1 := 0) fl_X6_7 (ok_e30 hw) rfl dX6_firstSize_1 ?_
  refine x_aload_n dX6_firstSize_4 rfl 0 rfl ?_
  refine x_getR (d1 := 5) (K1 := 31) (p1 := 0) (r1 := 0) fl_X6_7 (ok_e30 hw) rfl dX6_firstSize_5 ?_
  refine x_iload_n dX6_firstSize_8 rfl 1 rfl ?_
  refine x_iconst (x := 0) dX6_firstSize_9 rfl ?_
  obtain ⟨z1, s1, h1, h⟩ := x_b_e h
  refine x_callS (As := [.int a1, .int 0]) (st := [.ref (w.2.2 5 31 0 0), .ref (w.2.2 5 31 0 0)]) (eX6_entry hw  h1) cs_X6_107 (Nat.le_of_ble_eq_true rfl) rfl (Nat.le_of_ble_eq_true rfl) _ rfl dX6_firstSize_10 [.int z1, .ref (w.2.2 5 31 0 0), .ref (w.2.2 5 31 0 0)] rfl ?_
  obtain ⟨hg2, h⟩ := x_g_e h
  refine x_iald 6464 z1.toNatClampNeg rfl rfl rfl rfl (ok_e31 hw) hg2 dX6_firstSize_13 ?_
  refine x_iconst (x := 1) dX6_firstSize_14 rfl ?_
  obtain ⟨z3, s3, h3, h⟩ := x_b_e h
  refine x_callS (As := [.int (s1 5 31 0 0 z1.toNatClampNeg), .int 1]) (st := [.ref (w.2.2 5 31 0 0)]) (eX6_packet hw  h3) cs_X6_92 (Nat.le_of_ble_eq_true rfl) rfl (Nat.le_of_ble_eq_true rfl) _ rfl dX6_firstSize_15 [.int z3, .ref (w.2.2 5 31 0 0)] rfl ?_
  obtain ⟨hg4, h⟩ := x_g_e h
  refine x_iald 6464 z3.toNatClampNeg rfl rfl rfl rfl (ok_e31 hw) hg4 dX6_firstSize_18 ?_
  exact x_iretH rfl dX6_firstSize_19 h
def fX6_departs (a1 : Int32) (a2 : Int32) (σ : xS) : Option (Unit × xS) :=
  x_b (fX6_leaves a2 0 σ) fun z1 s1 => x_b (fX6_port a1 4 s1) fun z2 s2 => x_g (x_in z2 6464) (x_g (x_in z2 6464) (x_let (x_set s2 5 31 0 0 z2.toNatClampNeg ((s2 5 31 0 0 z2.toNatClampNeg) - z1)) fun s5 => x_b (fX6_port a1 9 s5) fun z6 s6 => x_g (x_in z6 6464) (x_g (x_in z6 6464) (x_let (x_set s6 5 31 0 0 z6.toNatClampNeg ((s6 5 31 0 0 z6.toNatClampNeg) + 1)) fun s9 => some ((), s9)))))
set_option maxRecDepth 100000 in
set_option maxHeartbeats 4000000 in
theorem eX6_departs {l : Launch} {w : xW} (hw : w.1.2 = true) {a1 : Int32} {a2 : Int32} {σ τ : xS} {r : Unit} (h : fX6_departs a1 a2 σ = some (r, τ)) : xEV l w yX6_departs mX6_departs [.ref (w.2.2 5 30 0 0), .int a1, .int a2] σ none τ := by
  rw [fX6_departs] at h
  refine x_enter (by decide +kernel) rfl (Nat.le_of_ble_eq_true rfl) ?_
  refine x_sub (L1 := [(0, .ref (w.2.2 5 30 0 0)), (1, .int a1), (2, .int a2)]) [0, 1, 2] rfl ?_
  refine x_aload_n dX6_departs_0 rfl 0 rfl ?_
  refine x_iload_n dX6_departs_1 rfl 2 rfl ?_
  refine x_iconst (x := 0) dX6_departs_2 rfl ?_
  obtain ⟨z1, s1, h1, h⟩ := x_b_e h
  refine x_callV (As := [.int a2, .int 0]) (st := []) (eX6_leaves hw  h1) cv_X6_132 (Nat.le_of_ble_eq_true rfl) (ok_e30 hw) rfl (Nat.le_of_ble_eq_true rfl) _ rfl dX6_departs_3 [.int z1] rfl ?_
  refine x_istore_n z1 rfl dX6_departs_6 rfl (Nat.le_of_ble_eq_true rfl) [(3, .int z1), (0, .ref (w.2.2 5 30 0 0)), (1, .int a1), (2, .int a2)] rfl ?_
  refine x_aload_n dX6_departs_7 rfl 1 rfl ?_
  refine x_getR (d1 := 5) (K1 := 31) (p1 := 0) (r1 := 0) fl_X6_7 (ok_e30 hw) rfl dX6_departs_8 ?_
  refine x_iload_n dX6_departs_11 rfl 2 rfl ?_
  refine x_iconst (x := 4) dX6_departs_12 rfl ?_
  obtain ⟨z2, s2, h2, h⟩ := x_b_e h
  refine x_callS (As := [.int a1, .int 4]) (st := [.ref (w.2.2 5 31 0 0)]) (eX6_port hw  h2) cs_X6_44 (Nat.le_of_ble_eq_true rfl) rfl (Nat.le_of_ble_eq_true rfl) _ rfl dX6_departs_13 [.int z2, .ref (w.2.2 5 31 0 0)] rfl ?_
  refine x_dup2 dX6_departs_16 rfl rfl ?_
  obtain ⟨hg3, h⟩ := x_g_e h
  refine x_iald 6464 z2.toNatClampNeg rfl rfl rfl rfl (ok_e31 hw) hg3 dX6_departs_17 ?_
  refine x_iload_n dX6_departs_18 rfl 0 rfl ?_
  refine x_isub dX6_departs_19 ?_
  obtain ⟨hg4, h⟩ := x_g_e h
  obtain ⟨s5, hs5, h⟩ := x_let_e h
  refine x_iast 6464 z2.toNatClampNeg rfl s5 hs5 rfl rfl rfl (ok_e31 hw) hg4 dX6_departs_20 ?_
  refine x_aload_n dX6_departs_21 rfl 1 rfl ?_
  refine x_getR (d1 := 5) (K1 := 31) (p1 := 0) (r1 := 0) fl_X6_7 (ok_e30 hw) rfl dX6_departs_22 ?_
  refine x_iload_n dX6_departs_25 rfl 2 rfl ?_
  refine x_bipush (x := 9) dX6_departs_26 rfl ?_
  obtain ⟨z6, s6, h6, h⟩ := x_b_e h
  refine x_callS (As := [.int a1, .int 9]) (st := [.ref (w.2.2 5 31 0 0)]) (eX6_port hw  h6) cs_X6_44 (Nat.le_of_ble_eq_true rfl) rfl (Nat.le_of_ble_eq_true rfl) _ rfl dX6_departs_28 [.int z6, .ref (w.2.2 5 31 0 0)] rfl ?_
  refine x_dup2 dX6_departs_31 rfl rfl ?_
  obtain ⟨hg7, h⟩ := x_g_e h
  refine x_iald 6464 z6.toNatClampNeg rfl rfl rfl rfl (ok_e31 hw) hg7 dX6_departs_32 ?_
  refine x_iconst (x := 1) dX6_departs_33 rfl ?_
  refine x_iadd dX6_departs_34 ?_
  obtain ⟨hg8, h⟩ := x_g_e h
  obtain ⟨s9, hs9, h⟩ := x_let_e h
  refine x_iast 6464 z6.toNatClampNeg rfl s9 hs9 rfl rfl rfl (ok_e31 hw) hg8 dX6_departs_35 ?_
  exact x_vretH rfl dX6_departs_36 h
def BX6_sends_337 (a1 : Int32) (a2 : Int32) (a4 : Int32) (as0 : Int32) (k37 : Int32 → Int32 → xS → Option (Int32 × xS)) (σ : xS) : Option (Int32 × xS) :=
  if as0 = 0 then (k37 a2 as0 σ) else (x_b (fX6_departs a1 a4 σ) fun z17 s17 => x_b (fX6_settles a4 s17) fun z18 s18 => x_let (a2 + 1) fun t19 => k37 t19 as0 s18)
set_option maxRecDepth 100000 in
set_option maxHeartbeats 4000000 in
theorem TX6_sends_337 {l : Launch} {w : xW} (hw : w.1.2 = true) {a1 : Int32} {a2 : Int32} {a4 : Int32} {as0 : Int32} {k37 : Int32 → Int32 → xS → Option (Int32 × xS)} {σ τ : xS} {r : Int32} (hk37 : ∀ (a2 : Int32) (a3 : Int32) (σ1 : xS), k37 a2 a3 σ1 = some (r, τ) → xAt l w mX6_sends 37 [(0, .ref (w.2.2 5 30 0 0)), (1, .int a1), (2, .int a2), (3, .int a3)] [] σ1 (some (.int r)) τ) (h : BX6_sends_337 a1 a2 a4 as0 k37 σ = some (r, τ)) : xAt l w mX6_sends 337 [(0, .ref (w.2.2 5 30 0 0)), (1, .int a1), (2, .int a2), (4, .int a4)] [.int as0] σ (some (.int r)) τ := by
  rw [BX6_sends_337] at h
  refine x_istore_n as0 rfl dX6_sends_337 rfl (Nat.le_of_ble_eq_true rfl) [(3, .int as0), (0, .ref (w.2.2 5 30 0 0)), (1, .int a1), (2, .int a2), (4, .int a4)] rfl ?_
  refine x_iload_n dX6_sends_338 rfl 0 rfl ?_
  refine x_if_eq (tgt := 358) dX6_sends_339 rfl (fun hc => ?_) (fun hc => ?_)
  · have h := x_t hc h
    refine x_goto (tgt := 37) dX6_sends_358 rfl ?_
    refine x_sub (L1 := [(0, .ref (w.2.2 5 30 0 0)), (1, .int a1), (2, .int a2), (3, .int as0)]) [1, 2, 3, 0] rfl ?_
    exact hk37 _ _ _ h
  · have h := x_f hc h
    refine x_aload_n dX6_sends_342 rfl 1 rfl ?_
    refine x_iload_n dX6_sends_343 rfl 2 rfl ?_
    refine x_iload dX6_sends_344 4 rfl ?_
    obtain ⟨z17, s17, h17, h⟩ := x_b_e h
    refine x_callV (As := [.int a1, .int a4]) (st := []) (eX6_departs hw  h17) cv_X6_160 (Nat.le_of_ble_eq_true rfl) (ok_e30 hw) rfl (Nat.le_of_ble_eq_true rfl) _ rfl dX6_sends_346 [] rfl ?_
    refine x_aload_n dX6_sends_349 rfl 1 rfl ?_
    refine x_iload dX6_sends_350 4 rfl ?_
    obtain ⟨z18, s18, h18, h⟩ := x_b_e h
    refine x_callV (As := [.int a4]) (st := []) (eX6_settles hw  h18) cv_X6_135 (Nat.le_of_ble_eq_true rfl) (ok_e30 hw) rfl (Nat.le_of_ble_eq_true rfl) _ rfl dX6_sends_352 [] rfl ?_
    obtain ⟨t19, ht19, h⟩ := x_let_e h
    refine x_iinc t19 1 rfl ht19 dX6_sends_355 3 rfl (Nat.le_of_ble_eq_true rfl) [(2, .int t19), (3, .int as0), (0, .ref (w.2.2 5 30 0 0)), (1, .int a1), (4, .int a4)] rfl ?_
    refine x_goto (tgt := 37) dX6_sends_358 rfl ?_
    refine x_sub (L1 := [(0, .ref (w.2.2 5 30 0 0)), (1, .int a1), (2, .int t19), (3, .int as0)]) [2, 3, 0, 1] rfl ?_
    exact hk37 _ _ _ h
def BX6_sends_292 (a1 : Int32) (a2 : Int32) (k37 : Int32 → Int32 → xS → Option (Int32 × xS)) : Nat → Int32 → xS → Option (Int32 × xS)
  | 0, _, _ => none
  | n + 1, a4, σ => x_b (fX6_queue a4 12 σ) fun z12 s12 => x_g (x_in z12 6464) (if (s12 5 31 0 0 z12.toNatClampNeg) = 0 then (x_let (a4 + 1) fun t20 => (BX6_sends_292 a1 a2 k37 n) t20 s12) else (x_b (fX6_firstSize a4 s12) fun z14 s14 => x_b (fX6_port a1 4 s14) fun z15 s15 => x_g (x_in z15 6464) (if (s15 5 31 0 0 z15.toNatClampNeg) < z14 then (BX6_sends_337 a1 a2 a4 0 k37 s15) else (BX6_sends_337 a1 a2 a4 1 k37 s15))))
set_option maxRecDepth 100000 in
set_option maxHeartbeats 4000000 in
theorem TX6_sends_292 {l : Launch} {w : xW} (hw : w.1.2 = true) {a1 : Int32} {a2 : Int32} {k37 : Int32 → Int32 → xS → Option (Int32 × xS)} {τ : xS} {r : Int32} (hk37 : ∀ (a2 : Int32) (a3 : Int32) (σ1 : xS), k37 a2 a3 σ1 = some (r, τ) → xAt l w mX6_sends 37 [(0, .ref (w.2.2 5 30 0 0)), (1, .int a1), (2, .int a2), (3, .int a3)] [] σ1 (some (.int r)) τ) : ∀ (n : Nat) (a4 : Int32) (σ : xS), BX6_sends_292 a1 a2 k37 n a4 σ = some (r, τ) → xAt l w mX6_sends 292 [(0, .ref (w.2.2 5 30 0 0)), (1, .int a1), (2, .int a2), (4, .int a4)] [] σ (some (.int r)) τ := by
  intro n
  induction n with
  | zero => intro a4 σ h; cases h
  | succ n ih =>
    intro a4 σ h
    rw [BX6_sends_292] at h
    refine x_aload_n dX6_sends_292 rfl 0 rfl ?_
    refine x_getR (d1 := 5) (K1 := 31) (p1 := 0) (r1 := 0) fl_X6_7 (ok_e30 hw) rfl dX6_sends_293 ?_
    refine x_iload dX6_sends_296 3 rfl ?_
    refine x_bipush (x := 12) dX6_sends_298 rfl ?_
    obtain ⟨z12, s12, h12, h⟩ := x_b_e h
    refine x_callS (As := [.int a4, .int 12]) (st := [.ref (w.2.2 5 31 0 0)]) (eX6_queue hw  h12) cs_X6_48 (Nat.le_of_ble_eq_true rfl) rfl (Nat.le_of_ble_eq_true rfl) _ rfl dX6_sends_300 [.int z12, .ref (w.2.2 5 31 0 0)] rfl ?_
    obtain ⟨hg13, h⟩ := x_g_e h
    refine x_iald 6464 z12.toNatClampNeg rfl rfl rfl rfl (ok_e31 hw) hg13 dX6_sends_303 ?_
    refine x_if_ne (tgt := 313) dX6_sends_304 rfl (fun hc => ?_) (fun hc => ?_)
    · have h := x_f hc h
      refine x_aload_n dX6_sends_313 rfl 0 rfl ?_
      refine x_iload dX6_sends_314 3 rfl ?_
      obtain ⟨z14, s14, h14, h⟩ := x_b_e h
      refine x_callV (As := [.int a4]) (st := []) (eX6_firstSize hw  h14) cv_X6_157 (Nat.le_of_ble_eq_true rfl) (ok_e30 hw) rfl (Nat.le_of_ble_eq_true rfl) _ rfl dX6_sends_316 [.int z14] rfl ?_
      refine x_aload_n dX6_sends_319 rfl 0 rfl ?_
      refine x_getR (d1 := 5) (K1 := 31) (p1 := 0) (r1 := 0) fl_X6_7 (ok_e30 hw) rfl dX6_sends_320 ?_
      refine x_iload_n dX6_sends_323 rfl 1 rfl ?_
      refine x_iconst (x := 4) dX6_sends_324 rfl ?_
      obtain ⟨z15, s15, h15, h⟩ := x_b_e h
      refine x_callS (As := [.int a1, .int 4]) (st := [.ref (w.2.2 5 31 0 0), .int z14]) (eX6_port hw  h15) cs_X6_44 (Nat.le_of_ble_eq_true rfl) rfl (Nat.le_of_ble_eq_true rfl) _ rfl dX6_sends_325 [.int z15, .ref (w.2.2 5 31 0 0), .int z14] rfl ?_
      obtain ⟨hg16, h⟩ := x_g_e h
      refine x_iald 6464 z15.toNatClampNeg rfl rfl rfl rfl (ok_e31 hw) hg16 dX6_sends_328 ?_
      refine x_icmp_gt (tgt := 336) dX6_sends_329 rfl (fun hc => ?_) (fun hc => ?_)
      · have h := x_t hc h
        refine x_iconst (x := 0) dX6_sends_336 rfl ?_
        refine x_sub (L1 := [(0, .ref (w.2.2 5 30 0 0)), (1, .int a1), (2, .int a2), (4, .int a4)]) [0, 1, 2, 3] rfl ?_
        exact TX6_sends_337 hw hk37 h
      · have h := x_f hc h
        refine x_iconst (x := 1) dX6_sends_332 rfl ?_
        refine x_goto (tgt := 337) dX6_sends_333 rfl ?_
        refine x_sub (L1 := [(0, .ref (w.2.2 5 30 0 0)), (1, .int a1), (2, .int a2), (4, .int a4)]) [0, 1, 2, 3] rfl ?_
        exact TX6_sends_337 hw hk37 h
    · have h := x_t hc h
      obtain ⟨t20, ht20, h⟩ := x_let_e h
      refine x_iinc t20 1 rfl ht20 dX6_sends_307 3 rfl (Nat.le_of_ble_eq_true rfl) [(4, .int t20), (0, .ref (w.2.2 5 30 0 0)), (1, .int a1), (2, .int a2)] rfl ?_
      refine x_goto (tgt := 292) dX6_sends_310 rfl ?_
      refine x_sub (L1 := [(0, .ref (w.2.2 5 30 0 0)), (1, .int a1), (2, .int a2), (4, .int t20)]) [1, 2, 3, 0] rfl ?_
      exact ih _ _ h
def BX6_sends_183 (a1 : Int32) (a2 : Int32) (a3 : Int32) (k37 : Int32 → Int32 → xS → Option (Int32 × xS)) (σ : xS) : Option (Int32 × xS) :=
  x_b (fX6_port a1 6 σ) fun z28 s28 => x_b (fX6_port a1 6 s28) fun z29 s29 => x_g (x_in z29 6464) (x_g (x_in z28 6464) (x_let (x_set s29 5 31 0 0 z28.toNatClampNeg (((s29 5 31 0 0 z29.toNatClampNeg) + 1) - ((s29 5 31 0 0 z29.toNatClampNeg) + 1) / 3 * 3)) fun s32 => x_b (fX6_port a1 7 s32) fun z33 s33 => x_g (x_in z33 6464) (x_let (x_set s33 5 31 0 0 z33.toNatClampNeg 1) fun s35 => k37 a2 a3 s35)))
set_option maxRecDepth 100000 in
set_option maxHeartbeats 4000000 in
theorem TX6_sends_183 {l : Launch} {w : xW} (hw : w.1.2 = true) {a1 : Int32} {a2 : Int32} {a3 : Int32} {k37 : Int32 → Int32 → xS → Option (Int32 × xS)} {σ τ : xS} {r : Int32} (hk37 : ∀ (a2 : Int32) (a3 : Int32) (σ1 : xS), k37 a2 a3 σ1 = some (r, τ) → xAt l w mX6_sends 37 [(0, .ref (w.2.2 5 30 0 0)), (1, .int a1), (2, .int a2), (3, .int a3)] [] σ1 (some (.int r)) τ) (h : BX6_sends_183 a1 a2 a3 k37 σ = some (r, τ)) : xAt l w mX6_sends 183 [(0, .ref (w.2.2 5 30 0 0)), (1, .int a1), (2, .int a2), (3, .int a3)] [] σ (some (.int r)) τ := by
  rw [BX6_sends_183] at h
  refine x_aload_n dX6_sends_183 rfl 0 rfl ?_
  refine x_getR (d1 := 5) (K1 := 31) (p1 := 0) (r1 := 0) fl_X6_7 (ok_e30 hw) rfl dX6_sends_184 ?_
  refine x_iload_n dX6_sends_187 rfl 1 rfl ?_
  refine x_bipush (x := 6) dX6_sends_188 rfl ?_
  obtain ⟨z28, s28, h28, h⟩ := x_b_e h
  refine x_callS (As := [.int a1, .int 6]) (st := [.ref (w.2.2 5 31 0 0)]) (eX6_port hw  h28) cs_X6_44 (Nat.le_of_ble_eq_true rfl) rfl (Nat.le_of_ble_eq_true rfl) _ rfl dX6_sends_190 [.int z28, .ref (w.2.2 5 31 0 0)] rfl ?_
  refine x_aload_n dX6_sends_193 rfl 0 rfl ?_
  refine x_getR (d1 := 5) (K1 := 31) (p1 := 0) (r1 := 0) fl_X6_7 (ok_e30 hw) rfl dX6_sends_194 ?_
  refine x_iload_n dX6_sends_197 rfl 1 rfl ?_
  refine x_bipush (x := 6) dX6_sends_198 rfl ?_
  obtain ⟨z29, s29, h29, h⟩ := x_b_e h
  refine x_callS (As := [.int a1, .int 6]) (st := [.ref (w.2.2 5 31 0 0), .int z28, .ref (w.2.2 5 31 0 0)]) (eX6_port hw  h29) cs_X6_44 (Nat.le_of_ble_eq_true rfl) rfl (Nat.le_of_ble_eq_true rfl) _ rfl dX6_sends_200 [.int z29, .ref (w.2.2 5 31 0 0), .int z28, .ref (w.2.2 5 31 0 0)] rfl ?_
  obtain ⟨hg30, h⟩ := x_g_e h
  refine x_iald 6464 z29.toNatClampNeg rfl rfl rfl rfl (ok_e31 hw) hg30 dX6_sends_203 ?_
  refine x_iconst (x := 1) dX6_sends_204 rfl ?_
  refine x_iadd dX6_sends_205 ?_
  refine x_iconst (x := 3) dX6_sends_206 rfl ?_
  refine x_irem dX6_sends_207 (by decide) ?_
  obtain ⟨hg31, h⟩ := x_g_e h
  obtain ⟨s32, hs32, h⟩ := x_let_e h
  refine x_iast 6464 z28.toNatClampNeg rfl s32 hs32 rfl rfl rfl (ok_e31 hw) hg31 dX6_sends_208 ?_
  refine x_aload_n dX6_sends_209 rfl 0 rfl ?_
  refine x_getR (d1 := 5) (K1 := 31) (p1 := 0) (r1 := 0) fl_X6_7 (ok_e30 hw) rfl dX6_sends_210 ?_
  refine x_iload_n dX6_sends_213 rfl 1 rfl ?_
  refine x_bipush (x := 7) dX6_sends_214 rfl ?_
  obtain ⟨z33, s33, h33, h⟩ := x_b_e h
  refine x_callS (As := [.int a1, .int 7]) (st := [.ref (w.2.2 5 31 0 0)]) (eX6_port hw  h33) cs_X6_44 (Nat.le_of_ble_eq_true rfl) rfl (Nat.le_of_ble_eq_true rfl) _ rfl dX6_sends_216 [.int z33, .ref (w.2.2 5 31 0 0)] rfl ?_
  refine x_iconst (x := 1) dX6_sends_219 rfl ?_
  obtain ⟨hg34, h⟩ := x_g_e h
  obtain ⟨s35, hs35, h⟩ := x_let_e h
  refine x_iast 6464 z33.toNatClampNeg rfl s35 hs35 rfl rfl rfl (ok_e31 hw) hg34 dX6_sends_220 ?_
  refine x_goto (tgt := 284) dX6_sends_221 rfl ?_
  refine x_goto (tgt := 37) dX6_sends_284 rfl ?_
  refine x_sub (L1 := [(0, .ref (w.2.2 5 30 0 0)), (1, .int a1), (2, .int a2), (3, .int a3)]) [0, 1, 2, 3] rfl ?_
  exact hk37 _ _ _ h
def BX6_sends_148 (a1 : Int32) (a2 : Int32) (a3 : Int32) (a4 : Int32) (k37 : Int32 → Int32 → xS → Option (Int32 × xS)) (σ : xS) : Option (Int32 × xS) :=
  x_b (fX6_queue a4 12 σ) fun z26 s26 => x_g (x_in z26 6464) (if (s26 5 31 0 0 z26.toNatClampNeg) = 0 then (BX6_sends_183 a1 a2 a3 k37 s26) else (x_b (fX6_firstSize a4 s26) fun z36 s36 => x_b (fX6_queue a4 5 s36) fun z37 s37 => x_g (x_in z37 6464) (if z36 ≤ (s37 5 31 0 0 z37.toNatClampNeg) then (x_b (fX6_firstSize a4 s37) fun z39 s39 => x_b (fX6_port a1 4 s39) fun z40 s40 => x_g (x_in z40 6464) (if z39 ≤ (s40 5 31 0 0 z40.toNatClampNeg) then (x_b (fX6_queue a4 5 s40) fun z42 s42 => x_g (x_in z42 6464) (x_b (fX6_firstSize a4 s42) fun z44 s44 => x_g (x_in z42 6464) (x_let (x_set s44 5 31 0 0 z42.toNatClampNeg ((s42 5 31 0 0 z42.toNatClampNeg) - z44)) fun s46 => x_b (fX6_departs a1 a4 s46) fun z47 s47 => x_b (fX6_settles a4 s47) fun z48 s48 => x_let (a2 + 1) fun t49 => k37 t49 a3 s48))) else (k37 a2 0 s40))) else (BX6_sends_183 a1 a2 a3 k37 s37))))
set_option maxRecDepth 100000 in
set_option maxHeartbeats 4000000 in
theorem TX6_sends_148 {l : Launch} {w : xW} (hw : w.1.2 = true) {a1 : Int32} {a2 : Int32} {a3 : Int32} {a4 : Int32} {k37 : Int32 → Int32 → xS → Option (Int32 × xS)} {σ τ : xS} {r : Int32} (hk37 : ∀ (a2 : Int32) (a3 : Int32) (σ1 : xS), k37 a2 a3 σ1 = some (r, τ) → xAt l w mX6_sends 37 [(0, .ref (w.2.2 5 30 0 0)), (1, .int a1), (2, .int a2), (3, .int a3)] [] σ1 (some (.int r)) τ) (h : BX6_sends_148 a1 a2 a3 a4 k37 σ = some (r, τ)) : xAt l w mX6_sends 148 [(0, .ref (w.2.2 5 30 0 0)), (1, .int a1), (2, .int a2), (3, .int a3), (4, .int a4)] [] σ (some (.int r)) τ := by
  rw [BX6_sends_148] at h
  refine x_aload_n dX6_sends_148 rfl 0 rfl ?_
  refine x_getR (d1 := 5) (K1 := 31) (p1 := 0) (r1 := 0) fl_X6_7 (ok_e30 hw) rfl dX6_sends_149 ?_
  refine x_iload dX6_sends_152 4 rfl ?_
  refine x_bipush (x := 12) dX6_sends_154 rfl ?_
  obtain ⟨z26, s26, h26, h⟩ := x_b_e h
  refine x_callS (As := [.int a4, .int 12]) (st := [.ref (w.2.2 5 31 0 0)]) (eX6_queue hw  h26) cs_X6_48 (Nat.le_of_ble_eq_true rfl) rfl (Nat.le_of_ble_eq_true rfl) _ rfl dX6_sends_156 [.int z26, .ref (w.2.2 5 31 0 0)] rfl ?_
  obtain ⟨hg27, h⟩ := x_g_e h
  refine x_iald 6464 z26.toNatClampNeg rfl rfl rfl rfl (ok_e31 hw) hg27 dX6_sends_159 ?_
  refine x_if_eq (tgt := 183) dX6_sends_160 rfl (fun hc => ?_) (fun hc => ?_)
  · have h := x_t hc h
    refine x_sub (L1 := [(0, .ref (w.2.2 5 30 0 0)), (1, .int a1), (2, .int a2), (3, .int a3)]) [0, 1, 2, 3] rfl ?_
    exact TX6_sends_183 hw hk37 h
  · have h := x_f hc h
    refine x_aload_n dX6_sends_163 rfl 0 rfl ?_
    refine x_iload dX6_sends_164 4 rfl ?_
    obtain ⟨z36, s36, h36, h⟩ := x_b_e h
    refine x_callV (As := [.int a4]) (st := []) (eX6_firstSize hw  h36) cv_X6_157 (Nat.le_of_ble_eq_true rfl) (ok_e30 hw) rfl (Nat.le_of_ble_eq_true rfl) _ rfl dX6_sends_166 [.int z36] rfl ?_
    refine x_aload_n dX6_sends_169 rfl 0 rfl ?_
    refine x_getR (d1 := 5) (K1 := 31) (p1 := 0) (r1 := 0) fl_X6_7 (ok_e30 hw) rfl dX6_sends_170 ?_
    refine x_iload dX6_sends_173 4 rfl ?_
    refine x_iconst (x := 5) dX6_sends_175 rfl ?_
    obtain ⟨z37, s37, h37, h⟩ := x_b_e h
    refine x_callS (As := [.int a4, .int 5]) (st := [.ref (w.2.2 5 31 0 0), .int z36]) (eX6_queue hw  h37) cs_X6_48 (Nat.le_of_ble_eq_true rfl) rfl (Nat.le_of_ble_eq_true rfl) _ rfl dX6_sends_176 [.int z37, .ref (w.2.2 5 31 0 0), .int z36] rfl ?_
    obtain ⟨hg38, h⟩ := x_g_e h
    refine x_iald 6464 z37.toNatClampNeg rfl rfl rfl rfl (ok_e31 hw) hg38 dX6_sends_179 ?_
    refine x_icmp_le (tgt := 224) dX6_sends_180 rfl (fun hc => ?_) (fun hc => ?_)
    · have h := x_t hc h
      refine x_aload_n dX6_sends_224 rfl 0 rfl ?_
      refine x_iload dX6_sends_225 4 rfl ?_
      obtain ⟨z39, s39, h39, h⟩ := x_b_e h
      refine x_callV (As := [.int a4]) (st := []) (eX6_firstSize hw  h39) cv_X6_157 (Nat.le_of_ble_eq_true rfl) (ok_e30 hw) rfl (Nat.le_of_ble_eq_true rfl) _ rfl dX6_sends_227 [.int z39] rfl ?_
      refine x_aload_n dX6_sends_230 rfl 0 rfl ?_
      refine x_getR (d1 := 5) (K1 := 31) (p1 := 0) (r1 := 0) fl_X6_7 (ok_e30 hw) rfl dX6_sends_231 ?_
      refine x_iload_n dX6_sends_234 rfl 1 rfl ?_
      refine x_iconst (x := 4) dX6_sends_235 rfl ?_
      obtain ⟨z40, s40, h40, h⟩ := x_b_e h
      refine x_callS (As := [.int a1, .int 4]) (st := [.ref (w.2.2 5 31 0 0), .int z39]) (eX6_port hw  h40) cs_X6_44 (Nat.le_of_ble_eq_true rfl) rfl (Nat.le_of_ble_eq_true rfl) _ rfl dX6_sends_236 [.int z40, .ref (w.2.2 5 31 0 0), .int z39] rfl ?_
      obtain ⟨hg41, h⟩ := x_g_e h
      refine x_iald 6464 z40.toNatClampNeg rfl rfl rfl rfl (ok_e31 hw) hg41 dX6_sends_239 ?_
      refine x_icmp_le (tgt := 248) dX6_sends_240 rfl (fun hc => ?_) (fun hc => ?_)
      · have h := x_t hc h
        refine x_aload_n dX6_sends_248 rfl 0 rfl ?_
        refine x_getR (d1 := 5) (K1 := 31) (p1 := 0) (r1 := 0) fl_X6_7 (ok_e30 hw) rfl dX6_sends_249 ?_
        refine x_iload dX6_sends_252 4 rfl ?_
        refine x_iconst (x := 5) dX6_sends_254 rfl ?_
        obtain ⟨z42, s42, h42, h⟩ := x_b_e h
        refine x_callS (As := [.int a4, .int 5]) (st := [.ref (w.2.2 5 31 0 0)]) (eX6_queue hw  h42) cs_X6_48 (Nat.le_of_ble_eq_true rfl) rfl (Nat.le_of_ble_eq_true rfl) _ rfl dX6_sends_255 [.int z42, .ref (w.2.2 5 31 0 0)] rfl ?_
        refine x_dup2 dX6_sends_258 rfl rfl ?_
        obtain ⟨hg43, h⟩ := x_g_e h
        refine x_iald 6464 z42.toNatClampNeg rfl rfl rfl rfl (ok_e31 hw) hg43 dX6_sends_259 ?_
        refine x_aload_n dX6_sends_260 rfl 0 rfl ?_
        refine x_iload dX6_sends_261 4 rfl ?_
        obtain ⟨z44, s44, h44, h⟩ := x_b_e h
        refine x_callV (As := [.int a4]) (st := [.int (s42 5 31 0 0 z42.toNatClampNeg), .int z42, .ref (w.2.2 5 31 0 0)]) (eX6_firstSize hw  h44) cv_X6_157 (Nat.le_of_ble_eq_true rfl) (ok_e30 hw) rfl (Nat.le_of_ble_eq_true rfl) _ rfl dX6_sends_263 [.int z44, .int (s42 5 31 0 0 z42.toNatClampNeg), .int z42, .ref (w.2.2 5 31 0 0)] rfl ?_
        refine x_isub dX6_sends_266 ?_
        obtain ⟨hg45, h⟩ := x_g_e h
        obtain ⟨s46, hs46, h⟩ := x_let_e h
        refine x_iast 6464 z42.toNatClampNeg rfl s46 hs46 rfl rfl rfl (ok_e31 hw) hg45 dX6_sends_267 ?_
        refine x_aload_n dX6_sends_268 rfl 0 rfl ?_
        refine x_iload_n dX6_sends_269 rfl 1 rfl ?_
        refine x_iload dX6_sends_270 4 rfl ?_
        obtain ⟨z47, s47, h47, h⟩ := x_b_e h
        refine x_callV (As := [.int a1, .int a4]) (st := []) (eX6_departs hw  h47) cv_X6_160 (Nat.le_of_ble_eq_true rfl) (ok_e30 hw) rfl (Nat.le_of_ble_eq_true rfl) _ rfl dX6_sends_272 [] rfl ?_
        refine x_aload_n dX6_sends_275 rfl 0 rfl ?_
        refine x_iload dX6_sends_276 4 rfl ?_
        obtain ⟨z48, s48, h48, h⟩ := x_b_e h
        refine x_callV (As := [.int a4]) (st := []) (eX6_settles hw  h48) cv_X6_135 (Nat.le_of_ble_eq_true rfl) (ok_e30 hw) rfl (Nat.le_of_ble_eq_true rfl) _ rfl dX6_sends_278 [] rfl ?_
        obtain ⟨t49, ht49, h⟩ := x_let_e h
        refine x_iinc t49 1 rfl ht49 dX6_sends_281 2 rfl (Nat.le_of_ble_eq_true rfl) [(2, .int t49), (0, .ref (w.2.2 5 30 0 0)), (1, .int a1), (3, .int a3), (4, .int a4)] rfl ?_
        refine x_goto (tgt := 37) dX6_sends_284 rfl ?_
        refine x_sub (L1 := [(0, .ref (w.2.2 5 30 0 0)), (1, .int a1), (2, .int t49), (3, .int a3)]) [1, 2, 0, 3] rfl ?_
        exact hk37 _ _ _ h
      · have h := x_f hc h
        refine x_iconst (x := 0) dX6_sends_243 rfl ?_
        refine x_istore_n 0 rfl dX6_sends_244 rfl (Nat.le_of_ble_eq_true rfl) [(3, .int 0), (0, .ref (w.2.2 5 30 0 0)), (1, .int a1), (2, .int a2), (4, .int a4)] rfl ?_
        refine x_goto (tgt := 284) dX6_sends_245 rfl ?_
        refine x_goto (tgt := 37) dX6_sends_284 rfl ?_
        refine x_sub (L1 := [(0, .ref (w.2.2 5 30 0 0)), (1, .int a1), (2, .int a2), (3, .int 0)]) [1, 2, 3, 0] rfl ?_
        exact hk37 _ _ _ h
    · have h := x_f hc h
      refine x_sub (L1 := [(0, .ref (w.2.2 5 30 0 0)), (1, .int a1), (2, .int a2), (3, .int a3)]) [0, 1, 2, 3] rfl ?_
      exact TX6_sends_183 hw hk37 h
def BX6_sends_37 (a1 : Int32) : Nat → Int32 → Int32 → xS → Option (Int32 × xS)
  | 0, _, _, _ => none
  | n + 1, a2, a3, σ => if a3 = 0 then (some (a2, σ)) else (x_b (fX6_hasPackets a1 σ) fun z8 s8 => if z8 = 0 then (some (a2, s8)) else (x_b (fX6_port a1 8 s8) fun z9 s9 => x_g (x_in z9 6464) (if (s9 5 31 0 0 z9.toNatClampNeg) = 1 then (x_b (fX6_port a1 6 s9) fun z21 s21 => x_g (x_in z21 6464) (x_let ((3 * a1) + (s21 5 31 0 0 z21.toNatClampNeg)) fun t23 => x_b (fX6_queue t23 12 s21) fun z24 s24 => x_g (x_in z24 6464) (if (s24 5 31 0 0 z24.toNatClampNeg) ≤ 0 then (BX6_sends_148 a1 a2 a3 t23 (BX6_sends_37 a1 n) s24) else (x_b (fX6_port a1 7 s24) fun z50 s50 => x_g (x_in z50 6464) (if (s50 5 31 0 0 z50.toNatClampNeg) = 1 then (x_b (fX6_queue t23 5 s50) fun z52 s52 => x_g (x_in z52 6464) (x_b (fX6_queue t23 4 s52) fun z54 s54 => x_g (x_in z54 6464) (x_g (x_in z52 6464) (x_let (x_set s54 5 31 0 0 z52.toNatClampNeg ((s52 5 31 0 0 z52.toNatClampNeg) + (s54 5 31 0 0 z54.toNatClampNeg))) fun s57 => x_b (fX6_port a1 7 s57) fun z58 s58 => x_g (x_in z58 6464) (x_let (x_set s58 5 31 0 0 z58.toNatClampNeg 0) fun s60 => BX6_sends_148 a1 a2 a3 t23 (BX6_sends_37 a1 n) s60))))) else (BX6_sends_148 a1 a2 a3 t23 (BX6_sends_37 a1 n) s50)))))) else (x_let (3 * a1) fun t11 => BX6_sends_292 a1 a2 (BX6_sends_37 a1 n) x_FU t11 s9))))
set_option maxRecDepth 100000 in
set_option maxHeartbeats 4000000 in
theorem TX6_sends_37 {l : Launch} {w : xW} (hw : w.1.2 = true) {a1 : Int32} {τ : xS} {r : Int32} : ∀ (n : Nat) (a2 : Int32) (a3 : Int32) (σ : xS), BX6_sends_37 a1 n a2 a3 σ = some (r, τ) → xAt l w mX6_sends 37 [(0, .ref (w.2.2 5 30 0 0)), (1, .int a1), (2, .int a2), (3, .int a3)] [] σ (some (.int r)) τ := by
  intro n
  induction n with
  | zero => intro a2 a3 σ h; cases h
  | succ n ih =>
    intro a2 a3 σ h
    rw [BX6_sends_37] at h
    refine x_iload_n dX6_sends_37 rfl 3 rfl ?_
    refine x_if_eq (tgt := 361) dX6_sends_38 rfl (fun hc => ?_) (fun hc => ?_)
    · have h := x_t hc h
      refine x_iload_n dX6_sends_361 rfl 2 rfl ?_
      exact x_iretH rfl dX6_sends_362 h
    · have h := x_f hc h
      refine x_aload_n dX6_sends_41 rfl 0 rfl ?_
      refine x_iload_n dX6_sends_42 rfl 1 rfl ?_
      obtain ⟨z8, s8, h8, h⟩ := x_b_e h
      refine x_callV (As := [.int a1]) (st := []) (eX6_hasPackets hw  h8) cv_X6_110 (Nat.le_of_ble_eq_true rfl) (ok_e30 hw) rfl (Nat.le_of_ble_eq_true rfl) _ rfl dX6_sends_43 [.int z8] rfl ?_
      refine x_if_eq (tgt := 361) dX6_sends_46 rfl (fun hc => ?_) (fun hc => ?_)
      · have h := x_t hc h
        refine x_iload_n dX6_sends_361 rfl 2 rfl ?_
        exact x_iretH rfl dX6_sends_362 h
      · have h := x_f hc h
        refine x_aload_n dX6_sends_49 rfl 0 rfl ?_
        refine x_getR (d1 := 5) (K1 := 31) (p1 := 0) (r1 := 0) fl_X6_7 (ok_e30 hw) rfl dX6_sends_50 ?_
        refine x_iload_n dX6_sends_53 rfl 1 rfl ?_
        refine x_bipush (x := 8) dX6_sends_54 rfl ?_
        obtain ⟨z9, s9, h9, h⟩ := x_b_e h
        refine x_callS (As := [.int a1, .int 8]) (st := [.ref (w.2.2 5 31 0 0)]) (eX6_port hw  h9) cs_X6_44 (Nat.le_of_ble_eq_true rfl) rfl (Nat.le_of_ble_eq_true rfl) _ rfl dX6_sends_56 [.int z9, .ref (w.2.2 5 31 0 0)] rfl ?_
        obtain ⟨hg10, h⟩ := x_g_e h
        refine x_iald 6464 z9.toNatClampNeg rfl rfl rfl rfl (ok_e31 hw) hg10 dX6_sends_59 ?_
        refine x_iconst (x := 1) dX6_sends_60 rfl ?_
        refine x_icmp_ne (tgt := 287) dX6_sends_61 rfl (fun hc => ?_) (fun hc => ?_)
        · have h := x_f hc h
          refine x_iconst (x := 3) dX6_sends_287 rfl ?_
          refine x_iload_n dX6_sends_288 rfl 1 rfl ?_
          refine x_imul dX6_sends_289 ?_
          obtain ⟨t11, ht11, h⟩ := x_let_e h
          refine x_istore t11 ht11 dX6_sends_290 (Nat.le_of_ble_eq_true rfl) [(4, .int t11), (0, .ref (w.2.2 5 30 0 0)), (1, .int a1), (2, .int a2), (3, .int a3)] rfl ?_
          refine x_sub (L1 := [(0, .ref (w.2.2 5 30 0 0)), (1, .int a1), (2, .int a2), (4, .int t11)]) [1, 2, 3, 0] rfl ?_
          exact TX6_sends_292 hw ih _ _ _ h
        · have h := x_t hc h
          refine x_iconst (x := 3) dX6_sends_64 rfl ?_
          refine x_iload_n dX6_sends_65 rfl 1 rfl ?_
          refine x_imul dX6_sends_66 ?_
          refine x_aload_n dX6_sends_67 rfl 0 rfl ?_
          refine x_getR (d1 := 5) (K1 := 31) (p1 := 0) (r1 := 0) fl_X6_7 (ok_e30 hw) rfl dX6_sends_68 ?_
          refine x_iload_n dX6_sends_71 rfl 1 rfl ?_
          refine x_bipush (x := 6) dX6_sends_72 rfl ?_
          obtain ⟨z21, s21, h21, h⟩ := x_b_e h
          refine x_callS (As := [.int a1, .int 6]) (st := [.ref (w.2.2 5 31 0 0), .int (3 * a1)]) (eX6_port hw  h21) cs_X6_44 (Nat.le_of_ble_eq_true rfl) rfl (Nat.le_of_ble_eq_true rfl) _ rfl dX6_sends_74 [.int z21, .ref (w.2.2 5 31 0 0), .int (3 * a1)] rfl ?_
          obtain ⟨hg22, h⟩ := x_g_e h
          refine x_iald 6464 z21.toNatClampNeg rfl rfl rfl rfl (ok_e31 hw) hg22 dX6_sends_77 ?_
          refine x_iadd dX6_sends_78 ?_
          obtain ⟨t23, ht23, h⟩ := x_let_e h
          refine x_istore t23 ht23 dX6_sends_79 (Nat.le_of_ble_eq_true rfl) [(4, .int t23), (0, .ref (w.2.2 5 30 0 0)), (1, .int a1), (2, .int a2), (3, .int a3)] rfl ?_
          refine x_aload_n dX6_sends_81 rfl 1 rfl ?_
          refine x_getR (d1 := 5) (K1 := 31) (p1 := 0) (r1 := 0) fl_X6_7 (ok_e30 hw) rfl dX6_sends_82 ?_
          refine x_iload dX6_sends_85 0 rfl ?_
          refine x_bipush (x := 12) dX6_sends_87 rfl ?_
          obtain ⟨z24, s24, h24, h⟩ := x_b_e h
          refine x_callS (As := [.int t23, .int 12]) (st := [.ref (w.2.2 5 31 0 0)]) (eX6_queue hw  h24) cs_X6_48 (Nat.le_of_ble_eq_true rfl) rfl (Nat.le_of_ble_eq_true rfl) _ rfl dX6_sends_89 [.int z24, .ref (w.2.2 5 31 0 0)] rfl ?_
          obtain ⟨hg25, h⟩ := x_g_e h
          refine x_iald 6464 z24.toNatClampNeg rfl rfl rfl rfl (ok_e31 hw) hg25 dX6_sends_92 ?_
          refine x_if_le (tgt := 148) dX6_sends_93 rfl (fun hc => ?_) (fun hc => ?_)
          · have h := x_t hc h
            refine x_sub (L1 := [(0, .ref (w.2.2 5 30 0 0)), (1, .int a1), (2, .int a2), (3, .int a3), (4, .int t23)]) [1, 2, 3, 4, 0] rfl ?_
            exact TX6_sends_148 hw ih h
          · have h := x_f hc h
            refine x_aload_n dX6_sends_96 rfl 1 rfl ?_
            refine x_getR (d1 := 5) (K1 := 31) (p1 := 0) (r1 := 0) fl_X6_7 (ok_e30 hw) rfl dX6_sends_97 ?_
            refine x_iload_n dX6_sends_100 rfl 2 rfl ?_
            refine x_bipush (x := 7) dX6_sends_101 rfl ?_
            obtain ⟨z50, s50, h50, h⟩ := x_b_e h
            refine x_callS (As := [.int a1, .int 7]) (st := [.ref (w.2.2 5 31 0 0)]) (eX6_port hw  h50) cs_X6_44 (Nat.le_of_ble_eq_true rfl) rfl (Nat.le_of_ble_eq_true rfl) _ rfl dX6_sends_103 [.int z50, .ref (w.2.2 5 31 0 0)] rfl ?_
            obtain ⟨hg51, h⟩ := x_g_e h
            refine x_iald 6464 z50.toNatClampNeg rfl rfl rfl rfl (ok_e31 hw) hg51 dX6_sends_106 ?_
            refine x_iconst (x := 1) dX6_sends_107 rfl ?_
            refine x_icmp_ne (tgt := 148) dX6_sends_108 rfl (fun hc => ?_) (fun hc => ?_)
            · have h := x_f hc h
              refine x_sub (L1 := [(0, .ref (w.2.2 5 30 0 0)), (1, .int a1), (2, .int a2), (3, .int a3), (4, .int t23)]) [1, 2, 3, 4, 0] rfl ?_
              exact TX6_sends_148 hw ih h
            · have h := x_t hc h
              refine x_aload_n dX6_sends_111 rfl 1 rfl ?_
              refine x_getR (d1 := 5) (K1 := 31) (p1 := 0) (r1 := 0) fl_X6_7 (ok_e30 hw) rfl dX6_sends_112 ?_
              refine x_iload dX6_sends_115 0 rfl ?_
              refine x_iconst (x := 5) dX6_sends_117 rfl ?_
              obtain ⟨z52, s52, h52, h⟩ := x_b_e h
              refine x_callS (As := [.int t23, .int 5]) (st := [.ref (w.2.2 5 31 0 0)]) (eX6_queue hw  h52) cs_X6_48 (Nat.le_of_ble_eq_true rfl) rfl (Nat.le_of_ble_eq_true rfl) _ rfl dX6_sends_118 [.int z52, .ref (w.2.2 5 31 0 0)] rfl ?_
              refine x_dup2 dX6_sends_121 rfl rfl ?_
              obtain ⟨hg53, h⟩ := x_g_e h
              refine x_iald 6464 z52.toNatClampNeg rfl rfl rfl rfl (ok_e31 hw) hg53 dX6_sends_122 ?_
              refine x_aload_n dX6_sends_123 rfl 1 rfl ?_
              refine x_getR (d1 := 5) (K1 := 31) (p1 := 0) (r1 := 0) fl_X6_7 (ok_e30 hw) rfl dX6_sends_124 ?_
              refine x_iload dX6_sends_127 0 rfl ?_
              refine x_iconst (x := 4) dX6_sends_129 rfl ?_
              obtain ⟨z54, s54, h54, h⟩ := x_b_e h
              refine x_callS (As := [.int t23, .int 4]) (st := [.ref (w.2.2 5 31 0 0), .int (s52 5 31 0 0 z52.toNatClampNeg), .int z52, .ref (w.2.2 5 31 0 0)]) (eX6_queue hw  h54) cs_X6_48 (Nat.le_of_ble_eq_true rfl) rfl (Nat.le_of_ble_eq_true rfl) _ rfl dX6_sends_130 [.int z54, .ref (w.2.2 5 31 0 0), .int (s52 5 31 0 0 z52.toNatClampNeg), .int z52, .ref (w.2.2 5 31 0 0)] rfl ?_
              obtain ⟨hg55, h⟩ := x_g_e h
              refine x_iald 6464 z54.toNatClampNeg rfl rfl rfl rfl (ok_e31 hw) hg55 dX6_sends_133 ?_
              refine x_iadd dX6_sends_134 ?_
              obtain ⟨hg56, h⟩ := x_g_e h
              obtain ⟨s57, hs57, h⟩ := x_let_e h
              refine x_iast 6464 z52.toNatClampNeg rfl s57 hs57 rfl rfl rfl (ok_e31 hw) hg56 dX6_sends_135 ?_
              refine x_aload_n dX6_sends_136 rfl 1 rfl ?_
              refine x_getR (d1 := 5) (K1 := 31) (p1 := 0) (r1 := 0) fl_X6_7 (ok_e30 hw) rfl dX6_sends_137 ?_
              refine x_iload_n dX6_sends_140 rfl 2 rfl ?_
              refine x_bipush (x := 7) dX6_sends_141 rfl ?_
              obtain ⟨z58, s58, h58, h⟩ := x_b_e h
              refine x_callS (As := [.int a1, .int 7]) (st := [.ref (w.2.2 5 31 0 0)]) (eX6_port hw  h58) cs_X6_44 (Nat.le_of_ble_eq_true rfl) rfl (Nat.le_of_ble_eq_true rfl) _ rfl dX6_sends_143 [.int z58, .ref (w.2.2 5 31 0 0)] rfl ?_
              refine x_iconst (x := 0) dX6_sends_146 rfl ?_
              obtain ⟨hg59, h⟩ := x_g_e h
              obtain ⟨s60, hs60, h⟩ := x_let_e h
              refine x_iast 6464 z58.toNatClampNeg rfl s60 hs60 rfl rfl rfl (ok_e31 hw) hg59 dX6_sends_147 ?_
              refine x_sub (L1 := [(0, .ref (w.2.2 5 30 0 0)), (1, .int a1), (2, .int a2), (3, .int a3), (4, .int t23)]) [1, 2, 3, 4, 0] rfl ?_
              exact TX6_sends_148 hw ih h
def fX6_sends (a1 : Int32) (σ : xS) : Option (Int32 × xS) :=
  x_b (fX6_hasPackets a1 σ) fun z1 s1 => if z1 = 0 then (some (0, s1)) else (x_b (fX6_port a1 4 s1) fun z2 s2 => x_g (x_in z2 6464) (x_b (fX6_port a1 5 s2) fun z4 s4 => x_g (x_in z4 6464) (x_g (x_in z2 6464) (x_let (x_set s4 5 31 0 0 z2.toNatClampNeg ((s2 5 31 0 0 z2.toNatClampNeg) + (s4 5 31 0 0 z4.toNatClampNeg))) fun s7 => BX6_sends_37 a1 x_FU 0 1 s7))))
set_option maxRecDepth 100000 in
set_option maxHeartbeats 4000000 in
theorem eX6_sends {l : Launch} {w : xW} (hw : w.1.2 = true) {a1 : Int32} {σ τ : xS} {r : Int32} (h : fX6_sends a1 σ = some (r, τ)) : xEV l w yX6_sends mX6_sends [.ref (w.2.2 5 30 0 0), .int a1] σ (some (.int r)) τ := by
  rw [fX6_sends] at h
  refine x_enter (by decide +kernel) rfl (Nat.le_of_ble_eq_true rfl) ?_
  refine x_sub (L1 := [(0, .ref (w.2.2 5 30 0 0)), (1, .int a1)]) [0, 1] rfl ?_
  refine x_iconst (x := 0) dX6_sends_0 rfl ?_
  refine x_istore_n 0 rfl dX6_sends_1 rfl (Nat.le_of_ble_eq_true rfl) [(2, .int 0), (0, .ref (w.2.2 5 30 0 0)), (1, .int a1)] rfl ?_
  refine x_aload_n dX6_sends_2 rfl 1 rfl ?_
  refine x_iload_n dX6_sends_3 rfl 2 rfl ?_
  obtain ⟨z1, s1, h1, h⟩ := x_b_e h
  refine x_callV (As := [.int a1]) (st := []) (eX6_hasPackets hw  h1) cv_X6_110 (Nat.le_of_ble_eq_true rfl) (ok_e30 hw) rfl (Nat.le_of_ble_eq_true rfl) _ rfl dX6_sends_4 [.int z1] rfl ?_
  refine x_if_ne (tgt := 12) dX6_sends_7 rfl (fun hc => ?_) (fun hc => ?_)
  · have h := x_f hc h
    refine x_aload_n dX6_sends_12 rfl 1 rfl ?_
    refine x_getR (d1 := 5) (K1 := 31) (p1 := 0) (r1 := 0) fl_X6_7 (ok_e30 hw) rfl dX6_sends_13 ?_
    refine x_iload_n dX6_sends_16 rfl 2 rfl ?_
    refine x_iconst (x := 4) dX6_sends_17 rfl ?_
    obtain ⟨z2, s2, h2, h⟩ := x_b_e h
    refine x_callS (As := [.int a1, .int 4]) (st := [.ref (w.2.2 5 31 0 0)]) (eX6_port hw  h2) cs_X6_44 (Nat.le_of_ble_eq_true rfl) rfl (Nat.le_of_ble_eq_true rfl) _ rfl dX6_sends_18 [.int z2, .ref (w.2.2 5 31 0 0)] rfl ?_
    refine x_dup2 dX6_sends_21 rfl rfl ?_
    obtain ⟨hg3, h⟩ := x_g_e h
    refine x_iald 6464 z2.toNatClampNeg rfl rfl rfl rfl (ok_e31 hw) hg3 dX6_sends_22 ?_
    refine x_aload_n dX6_sends_23 rfl 1 rfl ?_
    refine x_getR (d1 := 5) (K1 := 31) (p1 := 0) (r1 := 0) fl_X6_7 (ok_e30 hw) rfl dX6_sends_24 ?_
    refine x_iload_n dX6_sends_27 rfl 2 rfl ?_
    refine x_iconst (x := 5) dX6_sends_28 rfl ?_
    obtain ⟨z4, s4, h4, h⟩ := x_b_e h
    refine x_callS (As := [.int a1, .int 5]) (st := [.ref (w.2.2 5 31 0 0), .int (s2 5 31 0 0 z2.toNatClampNeg), .int z2, .ref (w.2.2 5 31 0 0)]) (eX6_port hw  h4) cs_X6_44 (Nat.le_of_ble_eq_true rfl) rfl (Nat.le_of_ble_eq_true rfl) _ rfl dX6_sends_29 [.int z4, .ref (w.2.2 5 31 0 0), .int (s2 5 31 0 0 z2.toNatClampNeg), .int z2, .ref (w.2.2 5 31 0 0)] rfl ?_
    obtain ⟨hg5, h⟩ := x_g_e h
    refine x_iald 6464 z4.toNatClampNeg rfl rfl rfl rfl (ok_e31 hw) hg5 dX6_sends_32 ?_
    refine x_iadd dX6_sends_33 ?_
    obtain ⟨hg6, h⟩ := x_g_e h
    obtain ⟨s7, hs7, h⟩ := x_let_e h
    refine x_iast 6464 z2.toNatClampNeg rfl s7 hs7 rfl rfl rfl (ok_e31 hw) hg6 dX6_sends_34 ?_
    refine x_iconst (x := 1) dX6_sends_35 rfl ?_
    refine x_istore_n 1 rfl dX6_sends_36 rfl (Nat.le_of_ble_eq_true rfl) [(3, .int 1), (2, .int 0), (0, .ref (w.2.2 5 30 0 0)), (1, .int a1)] rfl ?_
    refine x_sub (L1 := [(0, .ref (w.2.2 5 30 0 0)), (1, .int a1), (2, .int 0), (3, .int 1)]) [2, 3, 1, 0] rfl ?_
    exact TX6_sends_37 hw _ _ _ _ h
  · have h := x_t hc h
    refine x_iconst (x := 0) dX6_sends_10 rfl ?_
    exact x_iretH rfl dX6_sends_11 h
def BX6_tick_94 (a1 : Int32) : Nat → Int32 → xS → Option (Int32 × xS)
  | 0, _, _ => none
  | n + 1, a2, σ => if (3 * (σ 5 31 0 0 1)) ≤ a2 then (x_let (x_set σ 5 31 0 0 3 ((σ 5 31 0 0 3) + 1)) fun s1 => some (a1, s1)) else (x_b (fX6_queue a2 10 σ) fun z2 s2 => x_g (x_in z2 6464) (if (s2 5 31 0 0 z2.toNatClampNeg) = 1 then (x_b (fX6_queue a2 8 s2) fun z5 s5 => x_g (x_in z5 6464) (if (s5 5 31 0 0 z5.toNatClampNeg) = 0 then (x_b (fX6_queue a2 7 s5) fun z8 s8 => x_g (x_in z8 6464) (x_b (fX6_limit a2 s8) fun z10 s10 => if z10 < ((s8 5 31 0 0 z8.toNatClampNeg) + 2) then (x_let (a2 + 1) fun t11 => (BX6_tick_94 a1 n) t11 s10) else (x_b (fX6_queue a2 10 s10) fun z12 s12 => x_g (x_in z12 6464) (x_let (x_set s12 5 31 0 0 z12.toNatClampNeg 0) fun s14 => x_let (a2 + 1) fun t15 => (BX6_tick_94 a1 n) t15 s14)))) else (x_let (a2 + 1) fun t7 => (BX6_tick_94 a1 n) t7 s5))) else (x_let (a2 + 1) fun t4 => (BX6_tick_94 a1 n) t4 s2)))
set_option maxRecDepth 100000 in
set_option maxHeartbeats 4000000 in
theorem TX6_tick_94 {l : Launch} {w : xW} (hw : w.1.2 = true) {a1 : Int32} {τ : xS} {r : Int32} : ∀ (n : Nat) (a2 : Int32) (σ : xS), BX6_tick_94 a1 n a2 σ = some (r, τ) → xAt l w mX6_tick 94 [(0, .ref (w.2.2 5 30 0 0)), (1, .int a1), (2, .int a2)] [] σ (some (.int r)) τ := by
  intro n
  induction n with
  | zero => intro a2 σ h; cases h
  | succ n ih =>
    intro a2 σ h
    rw [BX6_tick_94] at h
    refine x_iload_n dX6_tick_94 rfl 2 rfl ?_
    refine x_iconst (x := 3) dX6_tick_95 rfl ?_
    refine x_aload_n dX6_tick_96 rfl 0 rfl ?_
    refine x_getR (d1 := 5) (K1 := 31) (p1 := 0) (r1 := 0) fl_X6_7 (ok_e30 hw) rfl dX6_tick_97 ?_
    refine x_iconst (x := 1) dX6_tick_100 rfl ?_
    refine x_iald 6464 1 rfl rfl rfl rfl (ok_e31 hw) rfl dX6_tick_101 ?_
    refine x_imul dX6_tick_102 ?_
    refine x_icmp_ge (tgt := 174) dX6_tick_103 rfl (fun hc => ?_) (fun hc => ?_)
    · have h := x_t hc h
      refine x_aload_n dX6_tick_174 rfl 0 rfl ?_
      refine x_getR (d1 := 5) (K1 := 31) (p1 := 0) (r1 := 0) fl_X6_7 (ok_e30 hw) rfl dX6_tick_175 ?_
      refine x_iconst (x := 3) dX6_tick_178 rfl ?_
      refine x_dup2 dX6_tick_179 rfl rfl ?_
      refine x_iald 6464 3 rfl rfl rfl rfl (ok_e31 hw) rfl dX6_tick_180 ?_
      refine x_iconst (x := 1) dX6_tick_181 rfl ?_
      refine x_iadd dX6_tick_182 ?_
      obtain ⟨s1, hs1, h⟩ := x_let_e h
      refine x_iast 6464 3 rfl s1 hs1 rfl rfl rfl (ok_e31 hw) rfl dX6_tick_183 ?_
      refine x_iload_n dX6_tick_184 rfl 1 rfl ?_
      exact x_iretH rfl dX6_tick_185 h
    · have h := x_f hc h
      refine x_aload_n dX6_tick_106 rfl 0 rfl ?_
      refine x_getR (d1 := 5) (K1 := 31) (p1 := 0) (r1 := 0) fl_X6_7 (ok_e30 hw) rfl dX6_tick_107 ?_
      refine x_iload_n dX6_tick_110 rfl 2 rfl ?_
      refine x_bipush (x := 10) dX6_tick_111 rfl ?_
      obtain ⟨z2, s2, h2, h⟩ := x_b_e h
      refine x_callS (As := [.int a2, .int 10]) (st := [.ref (w.2.2 5 31 0 0)]) (eX6_queue hw  h2) cs_X6_48 (Nat.le_of_ble_eq_true rfl) rfl (Nat.le_of_ble_eq_true rfl) _ rfl dX6_tick_113 [.int z2, .ref (w.2.2 5 31 0 0)] rfl ?_
      obtain ⟨hg3, h⟩ := x_g_e h
      refine x_iald 6464 z2.toNatClampNeg rfl rfl rfl rfl (ok_e31 hw) hg3 dX6_tick_116 ?_
      refine x_iconst (x := 1) dX6_tick_117 rfl ?_
      refine x_icmp_ne (tgt := 168) dX6_tick_118 rfl (fun hc => ?_) (fun hc => ?_)
      · have h := x_f hc h
        obtain ⟨t4, ht4, h⟩ := x_let_e h
        refine x_iinc t4 1 rfl ht4 dX6_tick_168 2 rfl (Nat.le_of_ble_eq_true rfl) [(2, .int t4), (0, .ref (w.2.2 5 30 0 0)), (1, .int a1)] rfl ?_
        refine x_goto (tgt := 94) dX6_tick_171 rfl ?_
        refine x_sub (L1 := [(0, .ref (w.2.2 5 30 0 0)), (1, .int a1), (2, .int t4)]) [1, 2, 0] rfl ?_
        exact ih _ _ h
      · have h := x_t hc h
        refine x_aload_n dX6_tick_121 rfl 0 rfl ?_
        refine x_getR (d1 := 5) (K1 := 31) (p1 := 0) (r1 := 0) fl_X6_7 (ok_e30 hw) rfl dX6_tick_122 ?_
        refine x_iload_n dX6_tick_125 rfl 2 rfl ?_
        refine x_bipush (x := 8) dX6_tick_126 rfl ?_
        obtain ⟨z5, s5, h5, h⟩ := x_b_e h
        refine x_callS (As := [.int a2, .int 8]) (st := [.ref (w.2.2 5 31 0 0)]) (eX6_queue hw  h5) cs_X6_48 (Nat.le_of_ble_eq_true rfl) rfl (Nat.le_of_ble_eq_true rfl) _ rfl dX6_tick_128 [.int z5, .ref (w.2.2 5 31 0 0)] rfl ?_
        obtain ⟨hg6, h⟩ := x_g_e h
        refine x_iald 6464 z5.toNatClampNeg rfl rfl rfl rfl (ok_e31 hw) hg6 dX6_tick_131 ?_
        refine x_if_ne (tgt := 168) dX6_tick_132 rfl (fun hc => ?_) (fun hc => ?_)
        · have h := x_f hc h
          obtain ⟨t7, ht7, h⟩ := x_let_e h
          refine x_iinc t7 1 rfl ht7 dX6_tick_168 2 rfl (Nat.le_of_ble_eq_true rfl) [(2, .int t7), (0, .ref (w.2.2 5 30 0 0)), (1, .int a1)] rfl ?_
          refine x_goto (tgt := 94) dX6_tick_171 rfl ?_
          refine x_sub (L1 := [(0, .ref (w.2.2 5 30 0 0)), (1, .int a1), (2, .int t7)]) [1, 2, 0] rfl ?_
          exact ih _ _ h
        · have h := x_t hc h
          refine x_aload_n dX6_tick_135 rfl 0 rfl ?_
          refine x_getR (d1 := 5) (K1 := 31) (p1 := 0) (r1 := 0) fl_X6_7 (ok_e30 hw) rfl dX6_tick_136 ?_
          refine x_iload_n dX6_tick_139 rfl 2 rfl ?_
          refine x_bipush (x := 7) dX6_tick_140 rfl ?_
          obtain ⟨z8, s8, h8, h⟩ := x_b_e h
          refine x_callS (As := [.int a2, .int 7]) (st := [.ref (w.2.2 5 31 0 0)]) (eX6_queue hw  h8) cs_X6_48 (Nat.le_of_ble_eq_true rfl) rfl (Nat.le_of_ble_eq_true rfl) _ rfl dX6_tick_142 [.int z8, .ref (w.2.2 5 31 0 0)] rfl ?_
          obtain ⟨hg9, h⟩ := x_g_e h
          refine x_iald 6464 z8.toNatClampNeg rfl rfl rfl rfl (ok_e31 hw) hg9 dX6_tick_145 ?_
          refine x_iconst (x := 2) dX6_tick_146 rfl ?_
          refine x_iadd dX6_tick_147 ?_
          refine x_aload_n dX6_tick_148 rfl 0 rfl ?_
          refine x_iload_n dX6_tick_149 rfl 2 rfl ?_
          obtain ⟨z10, s10, h10, h⟩ := x_b_e h
          refine x_callV (As := [.int a2]) (st := [.int ((s8 5 31 0 0 z8.toNatClampNeg) + 2)]) (eX6_limit hw  h10) cv_X6_113 (Nat.le_of_ble_eq_true rfl) (ok_e30 hw) rfl (Nat.le_of_ble_eq_true rfl) _ rfl dX6_tick_150 [.int z10, .int ((s8 5 31 0 0 z8.toNatClampNeg) + 2)] rfl ?_
          refine x_icmp_gt (tgt := 168) dX6_tick_153 rfl (fun hc => ?_) (fun hc => ?_)
          · have h := x_t hc h
            obtain ⟨t11, ht11, h⟩ := x_let_e h
            refine x_iinc t11 1 rfl ht11 dX6_tick_168 2 rfl (Nat.le_of_ble_eq_true rfl) [(2, .int t11), (0, .ref (w.2.2 5 30 0 0)), (1, .int a1)] rfl ?_
            refine x_goto (tgt := 94) dX6_tick_171 rfl ?_
            refine x_sub (L1 := [(0, .ref (w.2.2 5 30 0 0)), (1, .int a1), (2, .int t11)]) [1, 2, 0] rfl ?_
            exact ih _ _ h
          · have h := x_f hc h
            refine x_aload_n dX6_tick_156 rfl 0 rfl ?_
            refine x_getR (d1 := 5) (K1 := 31) (p1 := 0) (r1 := 0) fl_X6_7 (ok_e30 hw) rfl dX6_tick_157 ?_
            refine x_iload_n dX6_tick_160 rfl 2 rfl ?_
            refine x_bipush (x := 10) dX6_tick_161 rfl ?_
            obtain ⟨z12, s12, h12, h⟩ := x_b_e h
            refine x_callS (As := [.int a2, .int 10]) (st := [.ref (w.2.2 5 31 0 0)]) (eX6_queue hw  h12) cs_X6_48 (Nat.le_of_ble_eq_true rfl) rfl (Nat.le_of_ble_eq_true rfl) _ rfl dX6_tick_163 [.int z12, .ref (w.2.2 5 31 0 0)] rfl ?_
            refine x_iconst (x := 0) dX6_tick_166 rfl ?_
            obtain ⟨hg13, h⟩ := x_g_e h
            obtain ⟨s14, hs14, h⟩ := x_let_e h
            refine x_iast 6464 z12.toNatClampNeg rfl s14 hs14 rfl rfl rfl (ok_e31 hw) hg13 dX6_tick_167 ?_
            obtain ⟨t15, ht15, h⟩ := x_let_e h
            refine x_iinc t15 1 rfl ht15 dX6_tick_168 2 rfl (Nat.le_of_ble_eq_true rfl) [(2, .int t15), (0, .ref (w.2.2 5 30 0 0)), (1, .int a1)] rfl ?_
            refine x_goto (tgt := 94) dX6_tick_171 rfl ?_
            refine x_sub (L1 := [(0, .ref (w.2.2 5 30 0 0)), (1, .int a1), (2, .int t15)]) [1, 2, 0] rfl ?_
            exact ih _ _ h
def BX6_tick_30 (a1 : Int32) : Nat → Int32 → xS → Option (Int32 × xS)
  | 0, _, _ => none
  | n + 1, a2, σ => if (3 * (σ 5 31 0 0 1)) ≤ a2 then (BX6_tick_94 a1 x_FU 0 σ) else (x_b (fX6_queue a2 3 σ) fun z16 s16 => x_b (fX6_queue a2 1 s16) fun z17 s17 => x_g (x_in z17 6464) (x_b (fX6_queue a2 3 s17) fun z19 s19 => x_g (x_in z19 6464) (x_b (fX6_queue a2 2 s19) fun z21 s21 => x_g (x_in z21 6464) (x_b (fX6_least (s17 5 31 0 0 z17.toNatClampNeg) ((s19 5 31 0 0 z19.toNatClampNeg) + (s21 5 31 0 0 z21.toNatClampNeg)) s21) fun z23 s23 => x_g (x_in z16 6464) (x_let (x_set s23 5 31 0 0 z16.toNatClampNeg z23) fun s25 => x_let (a2 + 1) fun t26 => (BX6_tick_30 a1 n) t26 s25)))))
set_option maxRecDepth 100000 in
set_option maxHeartbeats 4000000 in
theorem TX6_tick_30 {l : Launch} {w : xW} (hw : w.1.2 = true) {a1 : Int32} {τ : xS} {r : Int32} : ∀ (n : Nat) (a2 : Int32) (σ : xS), BX6_tick_30 a1 n a2 σ = some (r, τ) → xAt l w mX6_tick 30 [(0, .ref (w.2.2 5 30 0 0)), (1, .int a1), (2, .int a2)] [] σ (some (.int r)) τ := by
  intro n
  induction n with
  | zero => intro a2 σ h; cases h
  | succ n ih =>
    intro a2 σ h
    rw [BX6_tick_30] at h
    refine x_iload_n dX6_tick_30 rfl 2 rfl ?_
    refine x_iconst (x := 3) dX6_tick_31 rfl ?_
    refine x_aload_n dX6_tick_32 rfl 0 rfl ?_
    refine x_getR (d1 := 5) (K1 := 31) (p1 := 0) (r1 := 0) fl_X6_7 (ok_e30 hw) rfl dX6_tick_33 ?_
    refine x_iconst (x := 1) dX6_tick_36 rfl ?_
    refine x_iald 6464 1 rfl rfl rfl rfl (ok_e31 hw) rfl dX6_tick_37 ?_
    refine x_imul dX6_tick_38 ?_
    refine x_icmp_ge (tgt := 92) dX6_tick_39 rfl (fun hc => ?_) (fun hc => ?_)
    · have h := x_t hc h
      refine x_iconst (x := 0) dX6_tick_92 rfl ?_
      refine x_istore_n 0 rfl dX6_tick_93 rfl (Nat.le_of_ble_eq_true rfl) [(2, .int 0), (0, .ref (w.2.2 5 30 0 0)), (1, .int a1)] rfl ?_
      refine x_sub (L1 := [(0, .ref (w.2.2 5 30 0 0)), (1, .int a1), (2, .int 0)]) [1, 2, 0] rfl ?_
      exact TX6_tick_94 hw _ _ _ h
    · have h := x_f hc h
      refine x_aload_n dX6_tick_42 rfl 0 rfl ?_
      refine x_getR (d1 := 5) (K1 := 31) (p1 := 0) (r1 := 0) fl_X6_7 (ok_e30 hw) rfl dX6_tick_43 ?_
      refine x_iload_n dX6_tick_46 rfl 2 rfl ?_
      refine x_iconst (x := 3) dX6_tick_47 rfl ?_
      obtain ⟨z16, s16, h16, h⟩ := x_b_e h
      refine x_callS (As := [.int a2, .int 3]) (st := [.ref (w.2.2 5 31 0 0)]) (eX6_queue hw  h16) cs_X6_48 (Nat.le_of_ble_eq_true rfl) rfl (Nat.le_of_ble_eq_true rfl) _ rfl dX6_tick_48 [.int z16, .ref (w.2.2 5 31 0 0)] rfl ?_
      refine x_aload_n dX6_tick_51 rfl 0 rfl ?_
      refine x_getR (d1 := 5) (K1 := 31) (p1 := 0) (r1 := 0) fl_X6_7 (ok_e30 hw) rfl dX6_tick_52 ?_
      refine x_iload_n dX6_tick_55 rfl 2 rfl ?_
      refine x_iconst (x := 1) dX6_tick_56 rfl ?_
      obtain ⟨z17, s17, h17, h⟩ := x_b_e h
      refine x_callS (As := [.int a2, .int 1]) (st := [.ref (w.2.2 5 31 0 0), .int z16, .ref (w.2.2 5 31 0 0)]) (eX6_queue hw  h17) cs_X6_48 (Nat.le_of_ble_eq_true rfl) rfl (Nat.le_of_ble_eq_true rfl) _ rfl dX6_tick_57 [.int z17, .ref (w.2.2 5 31 0 0), .int z16, .ref (w.2.2 5 31 0 0)] rfl ?_
      obtain ⟨hg18, h⟩ := x_g_e h
      refine x_iald 6464 z17.toNatClampNeg rfl rfl rfl rfl (ok_e31 hw) hg18 dX6_tick_60 ?_
      refine x_aload_n dX6_tick_61 rfl 0 rfl ?_
      refine x_getR (d1 := 5) (K1 := 31) (p1 := 0) (r1 := 0) fl_X6_7 (ok_e30 hw) rfl dX6_tick_62 ?_
      refine x_iload_n dX6_tick_65 rfl 2 rfl ?_
      refine x_iconst (x := 3) dX6_tick_66 rfl ?_
      obtain ⟨z19, s19, h19, h⟩ := x_b_e h
      refine x_callS (As := [.int a2, .int 3]) (st := [.ref (w.2.2 5 31 0 0), .int (s17 5 31 0 0 z17.toNatClampNeg), .int z16, .ref (w.2.2 5 31 0 0)]) (eX6_queue hw  h19) cs_X6_48 (Nat.le_of_ble_eq_true rfl) rfl (Nat.le_of_ble_eq_true rfl) _ rfl dX6_tick_67 [.int z19, .ref (w.2.2 5 31 0 0), .int (s17 5 31 0 0 z17.toNatClampNeg), .int z16, .ref (w.2.2 5 31 0 0)] rfl ?_
      obtain ⟨hg20, h⟩ := x_g_e h
      refine x_iald 6464 z19.toNatClampNeg rfl rfl rfl rfl (ok_e31 hw) hg20 dX6_tick_70 ?_
      refine x_aload_n dX6_tick_71 rfl 0 rfl ?_
      refine x_getR (d1 := 5) (K1 := 31) (p1 := 0) (r1 := 0) fl_X6_7 (ok_e30 hw) rfl dX6_tick_72 ?_
      refine x_iload_n dX6_tick_75 rfl 2 rfl ?_
      refine x_iconst (x := 2) dX6_tick_76 rfl ?_
      obtain ⟨z21, s21, h21, h⟩ := x_b_e h
      refine x_callS (As := [.int a2, .int 2]) (st := [.ref (w.2.2 5 31 0 0), .int (s19 5 31 0 0 z19.toNatClampNeg), .int (s17 5 31 0 0 z17.toNatClampNeg), .int z16, .ref (w.2.2 5 31 0 0)]) (eX6_queue hw  h21) cs_X6_48 (Nat.le_of_ble_eq_true rfl) rfl (Nat.le_of_ble_eq_true rfl) _ rfl dX6_tick_77 [.int z21, .ref (w.2.2 5 31 0 0), .int (s19 5 31 0 0 z19.toNatClampNeg), .int (s17 5 31 0 0 z17.toNatClampNeg), .int z16, .ref (w.2.2 5 31 0 0)] rfl ?_
      obtain ⟨hg22, h⟩ := x_g_e h
      refine x_iald 6464 z21.toNatClampNeg rfl rfl rfl rfl (ok_e31 hw) hg22 dX6_tick_80 ?_
      refine x_iadd dX6_tick_81 ?_
      obtain ⟨z23, s23, h23, h⟩ := x_b_e h
      refine x_callS (As := [.int (s17 5 31 0 0 z17.toNatClampNeg), .int ((s19 5 31 0 0 z19.toNatClampNeg) + (s21 5 31 0 0 z21.toNatClampNeg))]) (st := [.int z16, .ref (w.2.2 5 31 0 0)]) (eX6_least hw  h23) cs_X6_68 (Nat.le_of_ble_eq_true rfl) rfl (Nat.le_of_ble_eq_true rfl) _ rfl dX6_tick_82 [.int z23, .int z16, .ref (w.2.2 5 31 0 0)] rfl ?_
      obtain ⟨hg24, h⟩ := x_g_e h
      obtain ⟨s25, hs25, h⟩ := x_let_e h
      refine x_iast 6464 z16.toNatClampNeg rfl s25 hs25 rfl rfl rfl (ok_e31 hw) hg24 dX6_tick_85 ?_
      obtain ⟨t26, ht26, h⟩ := x_let_e h
      refine x_iinc t26 1 rfl ht26 dX6_tick_86 2 rfl (Nat.le_of_ble_eq_true rfl) [(2, .int t26), (0, .ref (w.2.2 5 30 0 0)), (1, .int a1)] rfl ?_
      refine x_goto (tgt := 30) dX6_tick_89 rfl ?_
      refine x_sub (L1 := [(0, .ref (w.2.2 5 30 0 0)), (1, .int a1), (2, .int t26)]) [1, 2, 0] rfl ?_
      exact ih _ _ h
def BX6_tick_4 : Nat → Int32 → Int32 → xS → Option (Int32 × xS)
  | 0, _, _, _ => none
  | n + 1, a1, a2, σ => if (σ 5 31 0 0 1) ≤ a2 then (BX6_tick_30 a1 x_FU 0 σ) else (x_b (fX6_sends a2 σ) fun z27 s27 => x_let (a1 + z27) fun t28 => x_let (a2 + 1) fun t29 => (BX6_tick_4 n) t28 t29 s27)
set_option maxRecDepth 100000 in
set_option maxHeartbeats 4000000 in
theorem TX6_tick_4 {l : Launch} {w : xW} (hw : w.1.2 = true) {τ : xS} {r : Int32} : ∀ (n : Nat) (a1 : Int32) (a2 : Int32) (σ : xS), BX6_tick_4 n a1 a2 σ = some (r, τ) → xAt l w mX6_tick 4 [(0, .ref (w.2.2 5 30 0 0)), (1, .int a1), (2, .int a2)] [] σ (some (.int r)) τ := by
  intro n
  induction n with
  | zero => intro a1 a2 σ h; cases h
  | succ n ih =>
    intro a1 a2 σ h
    rw [BX6_tick_4] at h
    refine x_iload_n dX6_tick_4 rfl 2 rfl ?_
    refine x_aload_n dX6_tick_5 rfl 0 rfl ?_
    refine x_getR (d1 := 5) (K1 := 31) (p1 := 0) (r1 := 0) fl_X6_7 (ok_e30 hw) rfl dX6_tick_6 ?_
    refine x_iconst (x := 1) dX6_tick_9 rfl ?_
    refine x_iald 6464 1 rfl rfl rfl rfl (ok_e31 hw) rfl dX6_tick_10 ?_
    refine x_icmp_ge (tgt := 28) dX6_tick_11 rfl (fun hc => ?_) (fun hc => ?_)
    · have h := x_t hc h
      refine x_iconst (x := 0) dX6_tick_28 rfl ?_
      refine x_istore_n 0 rfl dX6_tick_29 rfl (Nat.le_of_ble_eq_true rfl) [(2, .int 0), (0, .ref (w.2.2 5 30 0 0)), (1, .int a1)] rfl ?_
      refine x_sub (L1 := [(0, .ref (w.2.2 5 30 0 0)), (1, .int a1), (2, .int 0)]) [1, 2, 0] rfl ?_
      exact TX6_tick_30 hw _ _ _ h
    · have h := x_f hc h
      refine x_iload_n dX6_tick_14 rfl 1 rfl ?_
      refine x_aload_n dX6_tick_15 rfl 0 rfl ?_
      refine x_iload_n dX6_tick_16 rfl 2 rfl ?_
      obtain ⟨z27, s27, h27, h⟩ := x_b_e h
      refine x_callV (As := [.int a2]) (st := [.int a1]) (eX6_sends hw  h27) cv_X6_163 (Nat.le_of_ble_eq_true rfl) (ok_e30 hw) rfl (Nat.le_of_ble_eq_true rfl) _ rfl dX6_tick_17 [.int z27, .int a1] rfl ?_
      refine x_iadd dX6_tick_20 ?_
      obtain ⟨t28, ht28, h⟩ := x_let_e h
      refine x_istore_n t28 ht28 dX6_tick_21 rfl (Nat.le_of_ble_eq_true rfl) [(1, .int t28), (0, .ref (w.2.2 5 30 0 0)), (2, .int a2)] rfl ?_
      obtain ⟨t29, ht29, h⟩ := x_let_e h
      refine x_iinc t29 1 rfl ht29 dX6_tick_22 2 rfl (Nat.le_of_ble_eq_true rfl) [(2, .int t29), (1, .int t28), (0, .ref (w.2.2 5 30 0 0))] rfl ?_
      refine x_goto (tgt := 4) dX6_tick_25 rfl ?_
      refine x_sub (L1 := [(0, .ref (w.2.2 5 30 0 0)), (1, .int t28), (2, .int t29)]) [2, 1, 0] rfl ?_
      exact ih _ _ _ h
def fX6_tick (σ : xS) : Option (Int32 × xS) :=
  BX6_tick_4 x_FU 0 0 σ
set_option maxRecDepth 100000 in
set_option maxHeartbeats 4000000 in
theorem eX6_tick {l : Launch} {w : xW} (hw : w.1.2 = true) {σ τ : xS} {r : Int32} (h : fX6_tick σ = some (r, τ)) : xEV l w yX6_tick mX6_tick [.ref (w.2.2 5 30 0 0)] σ (some (.int r)) τ := by
  rw [fX6_tick] at h
  refine x_enter (by decide +kernel) rfl (Nat.le_of_ble_eq_true rfl) ?_
  refine x_sub (L1 := [(0, .ref (w.2.2 5 30 0 0))]) [0] rfl ?_
  refine x_iconst (x := 0) dX6_tick_0 rfl ?_
  refine x_istore_n 0 rfl dX6_tick_1 rfl (Nat.le_of_ble_eq_true rfl) [(1, .int 0), (0, .ref (w.2.2 5 30 0 0))] rfl ?_
  refine x_iconst (x := 0) dX6_tick_2 rfl ?_
  refine x_istore_n 0 rfl dX6_tick_3 rfl (Nat.le_of_ble_eq_true rfl) [(2, .int 0), (1, .int 0), (0, .ref (w.2.2 5 30 0 0))] rfl ?_
  refine x_sub (L1 := [(0, .ref (w.2.2 5 30 0 0)), (1, .int 0), (2, .int 0)]) [2, 1, 0] rfl ?_
  exact TX6_tick_4 hw _ _ _ _ h
def BX6_ticking_4 (a1 : Int32) : Nat → Int32 → Int32 → xS → Option (Int32 × xS)
  | 0, _, _, _ => none
  | n + 1, a2, a3, σ => if a1 ≤ a3 then (some (a2, σ)) else (x_b (fX6_tick  σ) fun z1 s1 => x_let (a2 + z1) fun t2 => x_let (a3 + 1) fun t3 => (BX6_ticking_4 a1 n) t2 t3 s1)
set_option maxRecDepth 100000 in
set_option maxHeartbeats 4000000 in
theorem TX6_ticking_4 {l : Launch} {w : xW} (hw : w.1.2 = true) {a1 : Int32} {τ : xS} {r : Int32} : ∀ (n : Nat) (a2 : Int32) (a3 : Int32) (σ : xS), BX6_ticking_4 a1 n a2 a3 σ = some (r, τ) → xAt l w mX6_ticking 4 [(0, .ref (w.2.2 5 30 0 0)), (1, .int a1), (2, .int a2), (3, .int a3)] [] σ (some (.int r)) τ := by
  intro n
  induction n with
  | zero => intro a2 a3 σ h; cases h
  | succ n ih =>
    intro a2 a3 σ h
    rw [BX6_ticking_4] at h
    refine x_iload_n dX6_ticking_4 rfl 3 rfl ?_
    refine x_iload_n dX6_ticking_5 rfl 1 rfl ?_
    refine x_icmp_ge (tgt := 22) dX6_ticking_6 rfl (fun hc => ?_) (fun hc => ?_)
    · have h := x_t hc h
      refine x_iload_n dX6_ticking_22 rfl 2 rfl ?_
      exact x_iretH rfl dX6_ticking_23 h
    · have h := x_f hc h
      refine x_iload_n dX6_ticking_9 rfl 2 rfl ?_
      refine x_aload_n dX6_ticking_10 rfl 0 rfl ?_
      obtain ⟨z1, s1, h1, h⟩ := x_b_e h
      refine x_callV (As := []) (st := [.int a2]) (eX6_tick hw  h1) cv_X6_166 (Nat.le_of_ble_eq_true rfl) (ok_e30 hw) rfl (Nat.le_of_ble_eq_true rfl) _ rfl dX6_ticking_11 [.int z1, .int a2] rfl ?_
      refine x_iadd dX6_ticking_14 ?_
      obtain ⟨t2, ht2, h⟩ := x_let_e h
      refine x_istore_n t2 ht2 dX6_ticking_15 rfl (Nat.le_of_ble_eq_true rfl) [(2, .int t2), (0, .ref (w.2.2 5 30 0 0)), (1, .int a1), (3, .int a3)] rfl ?_
      obtain ⟨t3, ht3, h⟩ := x_let_e h
      refine x_iinc t3 1 rfl ht3 dX6_ticking_16 3 rfl (Nat.le_of_ble_eq_true rfl) [(3, .int t3), (2, .int t2), (0, .ref (w.2.2 5 30 0 0)), (1, .int a1)] rfl ?_
      refine x_goto (tgt := 4) dX6_ticking_19 rfl ?_
      refine x_sub (L1 := [(0, .ref (w.2.2 5 30 0 0)), (1, .int a1), (2, .int t2), (3, .int t3)]) [2, 3, 1, 0] rfl ?_
      exact ih _ _ _ h
def fX6_ticking (a1 : Int32) (σ : xS) : Option (Int32 × xS) :=
  BX6_ticking_4 a1 x_FU 0 0 σ
set_option maxRecDepth 100000 in
set_option maxHeartbeats 4000000 in
theorem eX6_ticking {l : Launch} {w : xW} (hw : w.1.2 = true) {a1 : Int32} {σ τ : xS} {r : Int32} (h : fX6_ticking a1 σ = some (r, τ)) : xEV l w yX6_ticking mX6_ticking [.ref (w.2.2 5 30 0 0), .int a1] σ (some (.int r)) τ := by
  rw [fX6_ticking] at h
  refine x_enter (by decide +kernel) rfl (Nat.le_of_ble_eq_true rfl) ?_
  refine x_sub (L1 := [(0, .ref (w.2.2 5 30 0 0)), (1, .int a1)]) [0, 1] rfl ?_
  refine x_iconst (x := 0) dX6_ticking_0 rfl ?_
  refine x_istore_n 0 rfl dX6_ticking_1 rfl (Nat.le_of_ble_eq_true rfl) [(2, .int 0), (0, .ref (w.2.2 5 30 0 0)), (1, .int a1)] rfl ?_
  refine x_iconst (x := 0) dX6_ticking_2 rfl ?_
  refine x_istore_n 0 rfl dX6_ticking_3 rfl (Nat.le_of_ble_eq_true rfl) [(3, .int 0), (2, .int 0), (0, .ref (w.2.2 5 30 0 0)), (1, .int a1)] rfl ?_
  refine x_sub (L1 := [(0, .ref (w.2.2 5 30 0 0)), (1, .int a1), (2, .int 0), (3, .int 0)]) [2, 3, 1, 0] rfl ?_
  exact TX6_ticking_4 hw _ _ _ _ h
def fX6_ticks (a1 : Int32) (σ : xS) : Option (Int32 × xS) :=
  x_b (fX6_in a1 1 20 σ) fun z1 s1 => if z1 = 0 then (some ((-2), s1)) else (x_b (fX6_ticking a1 s1) fun z2 s2 => some (z2, s2))
set_option maxRecDepth 100000 in
set_option maxHeartbeats 4000000 in
theorem eX6_ticks {l : Launch} {w : xW} (hw : w.1.2 = true) {a1 : Int32} {σ τ : xS} {r : Int32} (h : fX6_ticks a1 σ = some (r, τ)) : xEV l w yX6_ticks mX6_ticks [.ref (w.2.2 5 30 0 0), .int a1] σ (some (.int r)) τ := by
  rw [fX6_ticks] at h
  refine x_enter (by decide +kernel) rfl (Nat.le_of_ble_eq_true rfl) ?_
  refine x_sub (L1 := [(0, .ref (w.2.2 5 30 0 0)), (1, .int a1)]) [0, 1] rfl ?_
  refine x_iload_n dX6_ticks_0 rfl 1 rfl ?_
  refine x_iconst (x := 1) dX6_ticks_1 rfl ?_
  refine x_bipush (x := 20) dX6_ticks_2 rfl ?_
  obtain ⟨z1, s1, h1, h⟩ := x_b_e h
  refine x_callS (As := [.int a1, .int 1, .int 20]) (st := []) (eX6_in hw  h1) cs_X6_36 (Nat.le_of_ble_eq_true rfl) rfl (Nat.le_of_ble_eq_true rfl) _ rfl dX6_ticks_4 [.int z1] rfl ?_
  refine x_if_eq (tgt := 18) dX6_ticks_7 rfl (fun hc => ?_) (fun hc => ?_)
  · have h := x_t hc h
    refine x_bipush (x := (-2)) dX6_ticks_18 (by decide) ?_
    exact x_iretH rfl dX6_ticks_20 h
  · have h := x_f hc h
    refine x_aload_n dX6_ticks_10 rfl 0 rfl ?_
    refine x_iload_n dX6_ticks_11 rfl 1 rfl ?_
    obtain ⟨z2, s2, h2, h⟩ := x_b_e h
    refine x_callV (As := [.int a1]) (st := []) (eX6_ticking hw  h2) cv_X6_169 (Nat.le_of_ble_eq_true rfl) (ok_e30 hw) rfl (Nat.le_of_ble_eq_true rfl) _ rfl dX6_ticks_12 [.int z2] rfl ?_
    refine x_goto (tgt := 20) dX6_ticks_15 rfl ?_
    exact x_iretH rfl dX6_ticks_20 h
def BX6_flushes_15 (a1 : Int32) (a3 : Int32) (k6 : Int32 → Int32 → xS → Option (Int32 × xS)) : Nat → Int32 → xS → Option (Int32 × xS)
  | 0, _, _ => none
  | n + 1, a2, σ => x_b (fX6_queue a3 12 σ) fun z2 s2 => x_g (x_in z2 6464) (if (s2 5 31 0 0 z2.toNatClampNeg) ≤ 0 then (x_let (a3 + 1) fun t4 => k6 a2 t4 s2) else (x_b (fX6_leaves a3 0 s2) fun z5 s5 => x_b (fX6_loses a1 9 z5 s5) fun z6 s6 => x_b (fX6_settles a3 s6) fun z7 s7 => x_let (a2 + 1) fun t8 => (BX6_flushes_15 a1 a3 k6 n) t8 s7))
set_option maxRecDepth 100000 in
set_option maxHeartbeats 4000000 in
theorem TX6_flushes_15 {l : Launch} {w : xW} (hw : w.1.2 = true) {a1 : Int32} {a3 : Int32} {k6 : Int32 → Int32 → xS → Option (Int32 × xS)} {τ : xS} {r : Int32} (hk6 : ∀ (a2 : Int32) (a3 : Int32) (σ1 : xS), k6 a2 a3 σ1 = some (r, τ) → xAt l w mX6_flushes 6 [(0, .ref (w.2.2 5 30 0 0)), (1, .int a1), (2, .int a2), (3, .int a3)] [] σ1 (some (.int r)) τ) : ∀ (n : Nat) (a2 : Int32) (σ : xS), BX6_flushes_15 a1 a3 k6 n a2 σ = some (r, τ) → xAt l w mX6_flushes 15 [(0, .ref (w.2.2 5 30 0 0)), (1, .int a1), (2, .int a2), (3, .int a3)] [] σ (some (.int r)) τ := by
  intro n
  induction n with
  | zero => intro a2 σ h; cases h
  | succ n ih =>
    intro a2 σ h
    rw [BX6_flushes_15] at h
    refine x_aload_n dX6_flushes_15 rfl 0 rfl ?_
    refine x_getR (d1 := 5) (K1 := 31) (p1 := 0) (r1 := 0) fl_X6_7 (ok_e30 hw) rfl dX6_flushes_16 ?_
    refine x_iload_n dX6_flushes_19 rfl 3 rfl ?_
    refine x_bipush (x := 12) dX6_flushes_20 rfl ?_
    obtain ⟨z2, s2, h2, h⟩ := x_b_e h
    refine x_callS (As := [.int a3, .int 12]) (st := [.ref (w.2.2 5 31 0 0)]) (eX6_queue hw  h2) cs_X6_48 (Nat.le_of_ble_eq_true rfl) rfl (Nat.le_of_ble_eq_true rfl) _ rfl dX6_flushes_22 [.int z2, .ref (w.2.2 5 31 0 0)] rfl ?_
    obtain ⟨hg3, h⟩ := x_g_e h
    refine x_iald 6464 z2.toNatClampNeg rfl rfl rfl rfl (ok_e31 hw) hg3 dX6_flushes_25 ?_
    refine x_if_le (tgt := 53) dX6_flushes_26 rfl (fun hc => ?_) (fun hc => ?_)
    · have h := x_t hc h
      obtain ⟨t4, ht4, h⟩ := x_let_e h
      refine x_iinc t4 1 rfl ht4 dX6_flushes_53 3 rfl (Nat.le_of_ble_eq_true rfl) [(3, .int t4), (0, .ref (w.2.2 5 30 0 0)), (1, .int a1), (2, .int a2)] rfl ?_
      refine x_goto (tgt := 6) dX6_flushes_56 rfl ?_
      refine x_sub (L1 := [(0, .ref (w.2.2 5 30 0 0)), (1, .int a1), (2, .int a2), (3, .int t4)]) [1, 2, 3, 0] rfl ?_
      exact hk6 _ _ _ h
    · have h := x_f hc h
      refine x_aload_n dX6_flushes_29 rfl 0 rfl ?_
      refine x_iload_n dX6_flushes_30 rfl 1 rfl ?_
      refine x_bipush (x := 9) dX6_flushes_31 rfl ?_
      refine x_aload_n dX6_flushes_33 rfl 0 rfl ?_
      refine x_iload_n dX6_flushes_34 rfl 3 rfl ?_
      refine x_iconst (x := 0) dX6_flushes_35 rfl ?_
      obtain ⟨z5, s5, h5, h⟩ := x_b_e h
      refine x_callV (As := [.int a3, .int 0]) (st := [.int 9, .int a1, .ref (w.2.2 5 30 0 0)]) (eX6_leaves hw  h5) cv_X6_132 (Nat.le_of_ble_eq_true rfl) (ok_e30 hw) rfl (Nat.le_of_ble_eq_true rfl) _ rfl dX6_flushes_36 [.int z5, .int 9, .int a1, .ref (w.2.2 5 30 0 0)] rfl ?_
      obtain ⟨z6, s6, h6, h⟩ := x_b_e h
      refine x_callV (As := [.int a1, .int 9, .int z5]) (st := []) (eX6_loses hw  h6) cv_X6_138 (Nat.le_of_ble_eq_true rfl) (ok_e30 hw) rfl (Nat.le_of_ble_eq_true rfl) _ rfl dX6_flushes_39 [] rfl ?_
      refine x_aload_n dX6_flushes_42 rfl 0 rfl ?_
      refine x_iload_n dX6_flushes_43 rfl 3 rfl ?_
      obtain ⟨z7, s7, h7, h⟩ := x_b_e h
      refine x_callV (As := [.int a3]) (st := []) (eX6_settles hw  h7) cv_X6_135 (Nat.le_of_ble_eq_true rfl) (ok_e30 hw) rfl (Nat.le_of_ble_eq_true rfl) _ rfl dX6_flushes_44 [] rfl ?_
      obtain ⟨t8, ht8, h⟩ := x_let_e h
      refine x_iinc t8 1 rfl ht8 dX6_flushes_47 2 rfl (Nat.le_of_ble_eq_true rfl) [(2, .int t8), (0, .ref (w.2.2 5 30 0 0)), (1, .int a1), (3, .int a3)] rfl ?_
      refine x_goto (tgt := 15) dX6_flushes_50 rfl ?_
      refine x_sub (L1 := [(0, .ref (w.2.2 5 30 0 0)), (1, .int a1), (2, .int t8), (3, .int a3)]) [1, 2, 0, 3] rfl ?_
      exact ih _ _ h
def BX6_flushes_6 (a1 : Int32) : Nat → Int32 → Int32 → xS → Option (Int32 × xS)
  | 0, _, _, _ => none
  | n + 1, a2, a3, σ => if ((3 * a1) + 3) ≤ a3 then (some (a2, σ)) else (BX6_flushes_15 a1 a3 (BX6_flushes_6 a1 n) x_FU a2 σ)
set_option maxRecDepth 100000 in
set_option maxHeartbeats 4000000 in
theorem TX6_flushes_6 {l : Launch} {w : xW} (hw : w.1.2 = true) {a1 : Int32} {τ : xS} {r : Int32} : ∀ (n : Nat) (a2 : Int32) (a3 : Int32) (σ : xS), BX6_flushes_6 a1 n a2 a3 σ = some (r, τ) → xAt l w mX6_flushes 6 [(0, .ref (w.2.2 5 30 0 0)), (1, .int a1), (2, .int a2), (3, .int a3)] [] σ (some (.int r)) τ := by
  intro n
  induction n with
  | zero => intro a2 a3 σ h; cases h
  | succ n ih =>
    intro a2 a3 σ h
    rw [BX6_flushes_6] at h
    refine x_iload_n dX6_flushes_6 rfl 3 rfl ?_
    refine x_iconst (x := 3) dX6_flushes_7 rfl ?_
    refine x_iload_n dX6_flushes_8 rfl 1 rfl ?_
    refine x_imul dX6_flushes_9 ?_
    refine x_iconst (x := 3) dX6_flushes_10 rfl ?_
    refine x_iadd dX6_flushes_11 ?_
    refine x_icmp_ge (tgt := 59) dX6_flushes_12 rfl (fun hc => ?_) (fun hc => ?_)
    · have h := x_t hc h
      refine x_iload_n dX6_flushes_59 rfl 2 rfl ?_
      exact x_iretH rfl dX6_flushes_60 h
    · have h := x_f hc h
      refine x_sub (L1 := [(0, .ref (w.2.2 5 30 0 0)), (1, .int a1), (2, .int a2), (3, .int a3)]) [0, 1, 2, 3] rfl ?_
      exact TX6_flushes_15 hw ih _ _ _ h
def fX6_flushes (a1 : Int32) (σ : xS) : Option (Int32 × xS) :=
  x_let (3 * a1) fun t1 => BX6_flushes_6 a1 x_FU 0 t1 σ
set_option maxRecDepth 100000 in
set_option maxHeartbeats 4000000 in
theorem eX6_flushes {l : Launch} {w : xW} (hw : w.1.2 = true) {a1 : Int32} {σ τ : xS} {r : Int32} (h : fX6_flushes a1 σ = some (r, τ)) : xEV l w yX6_flushes mX6_flushes [.ref (w.2.2 5 30 0 0), .int a1] σ (some (.int r)) τ := by
  rw [fX6_flushes] at h
  refine x_enter (by decide +kernel) rfl (Nat.le_of_ble_eq_true rfl) ?_
  refine x_sub (L1 := [(0, .ref (w.2.2 5 30 0 0)), (1, .int a1)]) [0, 1] rfl ?_
  refine x_iconst (x := 0) dX6_flushes_0 rfl ?_
  refine x_istore_n 0 rfl dX6_flushes_1 rfl (Nat.le_of_ble_eq_true rfl) [(2, .int 0), (0, .ref (w.2.2 5 30 0 0)), (1, .int a1)] rfl ?_
  refine x_iconst (x := 3) dX6_flushes_2 rfl ?_
  refine x_iload_n dX6_flushes_3 rfl 2 rfl ?_
  refine x_imul dX6_flushes_4 ?_
  obtain ⟨t1, ht1, h⟩ := x_let_e h
  refine x_istore_n t1 ht1 dX6_flushes_5 rfl (Nat.le_of_ble_eq_true rfl) [(3, .int t1), (2, .int 0), (0, .ref (w.2.2 5 30 0 0)), (1, .int a1)] rfl ?_
  refine x_sub (L1 := [(0, .ref (w.2.2 5 30 0 0)), (1, .int a1), (2, .int 0), (3, .int t1)]) [2, 3, 1, 0] rfl ?_
  exact TX6_flushes_6 hw _ _ _ _ h
