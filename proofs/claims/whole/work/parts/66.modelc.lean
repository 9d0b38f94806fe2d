set_option maxRecDepth 100000 in
set_option maxHeartbeats 4000000 in
theorem eX6_loses {l : Launch} {w : xW} (hw : w.1.2 = true) {a1 : Int32} {a2 : Int32} {a3 : Int32} {σ τ : xS} {r : Unit} (h : fX6_loses a1 a2 a3 σ = some (r, τ)) : xEV l w yX6_loses mX6_loses [.ref (w.2.2 5 30 0 0), .int a1, .int a2, .int a3] σ none τ := by
  rw [fX6_loses] at h
  refine x_enter (by decide +kernel) rfl (Nat.le_of_ble_eq_true rfl) ?_
  refine x_sub (L1 := [(0, .ref (w.2.2 5 30 0 0)), (1, .int a1), (2, .int a2), (3, .int a3)]) [0, 1, 2, 3] rfl ?_
  refine x_aload_n dX6_loses_0 rfl 0 rfl ?_
  refine x_getR (d1 := 5) (K1 := 31) (p1 := 0) (r1 := 0) fl_X6_7 (ok_e30 hw) rfl dX6_loses_1 ?_
  refine x_iload_n dX6_loses_4 rfl 1 rfl ?_
  refine x_bipush (x := 11) dX6_loses_5 rfl ?_
  refine x_iload_n dX6_loses_7 rfl 2 rfl ?_
  refine x_iadd dX6_loses_8 ?_
  obtain ⟨z1, s1, h1, h⟩ := x_b_e h
  refine x_callS (As := [.int a1, .int (11 + a2)]) (st := [.ref (w.2.2 5 31 0 0)]) (eX6_port hw  h1) cs_X6_44 (Nat.le_of_ble_eq_true rfl) rfl (Nat.le_of_ble_eq_true rfl) _ rfl dX6_loses_9 [.int z1, .ref (w.2.2 5 31 0 0)] rfl ?_
  refine x_dup2 dX6_loses_12 rfl rfl ?_
  obtain ⟨hg2, h⟩ := x_g_e h
  refine x_iald 6464 z1.toNatClampNeg rfl rfl rfl rfl (ok_e31 hw) hg2 dX6_loses_13 ?_
  refine x_iconst (x := 1) dX6_loses_14 rfl ?_
  refine x_iadd dX6_loses_15 ?_
  obtain ⟨hg3, h⟩ := x_g_e h
  obtain ⟨s4, hs4, h⟩ := x_let_e h
  refine x_iast 6464 z1.toNatClampNeg rfl s4 hs4 rfl rfl rfl (ok_e31 hw) hg3 dX6_loses_16 ?_
  refine x_aload_n dX6_loses_17 rfl 0 rfl ?_
  refine x_getR (d1 := 5) (K1 := 31) (p1 := 0) (r1 := 0) fl_X6_7 (ok_e30 hw) rfl dX6_loses_18 ?_
  refine x_iload_n dX6_loses_21 rfl 1 rfl ?_
  refine x_bipush (x := 10) dX6_loses_22 rfl ?_
  obtain ⟨z5, s5, h5, h⟩ := x_b_e h
  refine x_callS (As := [.int a1, .int 10]) (st := [.ref (w.2.2 5 31 0 0)]) (eX6_port hw  h5) cs_X6_44 (Nat.le_of_ble_eq_true rfl) rfl (Nat.le_of_ble_eq_true rfl) _ rfl dX6_loses_24 [.int z5, .ref (w.2.2 5 31 0 0)] rfl ?_
  refine x_dup2 dX6_loses_27 rfl rfl ?_
  obtain ⟨hg6, h⟩ := x_g_e h
  refine x_iald 6464 z5.toNatClampNeg rfl rfl rfl rfl (ok_e31 hw) hg6 dX6_loses_28 ?_
  refine x_iload_n dX6_loses_29 rfl 3 rfl ?_
  refine x_iadd dX6_loses_30 ?_
  obtain ⟨hg7, h⟩ := x_g_e h
  obtain ⟨s8, hs8, h⟩ := x_let_e h
  refine x_iast 6464 z5.toNatClampNeg rfl s8 hs8 rfl rfl rfl (ok_e31 hw) hg7 dX6_loses_31 ?_
  exact x_vretH rfl dX6_loses_32 h
set_option maxRecDepth 100000 in
set_option maxHeartbeats 4000000 in
theorem eX6_early {l : Launch} {w : xW} (hw : w.1.2 = true) {a1 : Int32} {a2 : Int32} {σ τ : xS} {r : Int32} (h : fX6_early a1 a2 σ = some (r, τ)) : xEV l w yX6_early mX6_early [.ref (w.2.2 5 30 0 0), .int a1, .int a2] σ (some (.int r)) τ := by
  rw [fX6_early] at h
  refine x_enter (by decide +kernel) rfl (Nat.le_of_ble_eq_true rfl) ?_
  refine x_sub (L1 := [(0, .ref (w.2.2 5 30 0 0)), (1, .int a1), (2, .int a2)]) [0, 1, 2] rfl ?_
  refine x_iload_n dX6_early_0 rfl 2 rfl ?_
  refine x_aload_n dX6_early_1 rfl 0 rfl ?_
  refine x_iload_n dX6_early_2 rfl 1 rfl ?_
  refine x_iconst (x := 3) dX6_early_3 rfl ?_
  refine x_idiv dX6_early_4 (by decide) ?_
  obtain ⟨z1, s1, h1, h⟩ := x_b_e h
  refine x_callV (As := [.int (a1 / 3)]) (st := [.int a2]) (eX6_freeOf hw  h1) cv_X6_65 (Nat.le_of_ble_eq_true rfl) (ok_e30 hw) rfl (Nat.le_of_ble_eq_true rfl) _ rfl dX6_early_5 [.int z1, .int a2] rfl ?_
  obtain ⟨z2, s2, h2, h⟩ := x_b_e h
  refine x_callS (As := [.int a2, .int z1]) (st := []) (eX6_least hw  h2) cs_X6_68 (Nat.le_of_ble_eq_true rfl) rfl (Nat.le_of_ble_eq_true rfl) _ rfl dX6_early_8 [.int z2] rfl ?_
  refine x_istore_n z2 rfl dX6_early_11 rfl (Nat.le_of_ble_eq_true rfl) [(3, .int z2), (0, .ref (w.2.2 5 30 0 0)), (1, .int a1), (2, .int a2)] rfl ?_
  refine x_iload_n dX6_early_12 rfl 0 rfl ?_
  refine x_iload_n dX6_early_13 rfl 3 rfl ?_
  refine x_icmp_ne (tgt := 19) dX6_early_14 rfl (fun hc => ?_) (fun hc => ?_)
  · have h := x_f hc h
    refine x_aload_n dX6_early_19 rfl 1 rfl ?_
    refine x_getR (d1 := 5) (K1 := 36) (p1 := 0) (r1 := 0) fl_X6_26 (ok_e30 hw) rfl dX6_early_20 ?_
    refine x_iconst (x := 1) dX6_early_23 rfl ?_
    refine x_iconst (x := 1) dX6_early_24 rfl ?_
    obtain ⟨s3, hs3, h⟩ := x_let_e h
    refine x_iast 5 1 rfl s3 hs3 rfl rfl rfl (ok_e36 hw) rfl dX6_early_25 ?_
    refine x_iload_n dX6_early_26 rfl 3 rfl ?_
    refine x_iload_n dX6_early_27 rfl 0 rfl ?_
    refine x_isub dX6_early_28 ?_
    obtain ⟨t4, ht4, h⟩ := x_let_e h
    refine x_istore t4 ht4 dX6_early_29 (Nat.le_of_ble_eq_true rfl) [(4, .int t4), (3, .int z2), (0, .ref (w.2.2 5 30 0 0)), (1, .int a1), (2, .int a2)] rfl ?_
    refine x_iload dX6_early_31 0 rfl ?_
    refine x_aload_n dX6_early_33 rfl 2 rfl ?_
    obtain ⟨z5, s5, h5, h⟩ := x_b_e h
    refine x_callV (As := []) (st := [.int t4]) (eX6_free hw  h5) cv_X6_62 (Nat.le_of_ble_eq_true rfl) (ok_e30 hw) rfl (Nat.le_of_ble_eq_true rfl) _ rfl dX6_early_34 [.int z5, .int t4] rfl ?_
    refine x_icmp_le (tgt := 49) dX6_early_37 rfl (fun hc => ?_) (fun hc => ?_)
    · have h := x_t hc h
      refine x_aload_n dX6_early_49 rfl 2 rfl ?_
      refine x_getR (d1 := 5) (K1 := 31) (p1 := 0) (r1 := 0) fl_X6_7 (ok_e30 hw) rfl dX6_early_50 ?_
      refine x_iload_n dX6_early_53 rfl 3 rfl ?_
      refine x_bipush (x := 7) dX6_early_54 rfl ?_
      obtain ⟨z6, s6, h6, h⟩ := x_b_e h
      refine x_callS (As := [.int a1, .int 7]) (st := [.ref (w.2.2 5 31 0 0)]) (eX6_queue hw  h6) cs_X6_48 (Nat.le_of_ble_eq_true rfl) rfl (Nat.le_of_ble_eq_true rfl) _ rfl dX6_early_56 [.int z6, .ref (w.2.2 5 31 0 0)] rfl ?_
      obtain ⟨hg7, h⟩ := x_g_e h
      refine x_iald 6464 z6.toNatClampNeg rfl rfl rfl rfl (ok_e31 hw) hg7 dX6_early_59 ?_
      refine x_iload dX6_early_60 0 rfl ?_
      refine x_iadd dX6_early_62 ?_
      refine x_aload_n dX6_early_63 rfl 2 rfl ?_
      refine x_iload_n dX6_early_64 rfl 3 rfl ?_
      obtain ⟨z8, s8, h8, h⟩ := x_b_e h
      refine x_callV (As := [.int a1]) (st := [.int ((s6 5 31 0 0 z6.toNatClampNeg) + t4)]) (eX6_limit hw  h8) cv_X6_113 (Nat.le_of_ble_eq_true rfl) (ok_e30 hw) rfl (Nat.le_of_ble_eq_true rfl) _ rfl dX6_early_65 [.int z8, .int ((s6 5 31 0 0 z6.toNatClampNeg) + t4)] rfl ?_
      refine x_isub dX6_early_68 ?_
      obtain ⟨t9, ht9, h⟩ := x_let_e h
      refine x_istore t9 ht9 dX6_early_69 (Nat.le_of_ble_eq_true rfl) [(5, .int t9), (4, .int t4), (3, .int z2), (0, .ref (w.2.2 5 30 0 0)), (1, .int a1), (2, .int a2)] rfl ?_
      refine x_iload dX6_early_71 0 rfl ?_
      refine x_aload_n dX6_early_73 rfl 3 rfl ?_
      refine x_getR (d1 := 5) (K1 := 31) (p1 := 0) (r1 := 0) fl_X6_7 (ok_e30 hw) rfl dX6_early_74 ?_
      refine x_iload_n dX6_early_77 rfl 4 rfl ?_
      refine x_iconst (x := 3) dX6_early_78 rfl ?_
      obtain ⟨z10, s10, h10, h⟩ := x_b_e h
      refine x_callS (As := [.int a1, .int 3]) (st := [.ref (w.2.2 5 31 0 0), .int t9]) (eX6_queue hw  h10) cs_X6_48 (Nat.le_of_ble_eq_true rfl) rfl (Nat.le_of_ble_eq_true rfl) _ rfl dX6_early_79 [.int z10, .ref (w.2.2 5 31 0 0), .int t9] rfl ?_
      obtain ⟨hg11, h⟩ := x_g_e h
      refine x_iald 6464 z10.toNatClampNeg rfl rfl rfl rfl (ok_e31 hw) hg11 dX6_early_82 ?_
      refine x_icmp_gt (tgt := 88) dX6_early_83 rfl (fun hc => ?_) (fun hc => ?_)
      · have h := x_t hc h
        refine x_aload_n dX6_early_88 rfl 3 rfl ?_
        refine x_getR (d1 := 5) (K1 := 36) (p1 := 0) (r1 := 0) fl_X6_26 (ok_e30 hw) rfl dX6_early_89 ?_
        refine x_iconst (x := 2) dX6_early_92 rfl ?_
        refine x_iconst (x := 3) dX6_early_93 rfl ?_
        obtain ⟨s12, hs12, h⟩ := x_let_e h
        refine x_iast 5 2 rfl s12 hs12 rfl rfl rfl (ok_e36 hw) rfl dX6_early_94 ?_
        refine x_iconst (x := 0) dX6_early_95 rfl ?_
        exact x_iretH rfl dX6_early_96 h
      · have h := x_f hc h
        refine x_iconst (x := 2) dX6_early_86 rfl ?_
        exact x_iretH rfl dX6_early_87 h
    · have h := x_f hc h
      refine x_aload_n dX6_early_40 rfl 2 rfl ?_
      refine x_getR (d1 := 5) (K1 := 36) (p1 := 0) (r1 := 0) fl_X6_26 (ok_e30 hw) rfl dX6_early_41 ?_
      refine x_iconst (x := 2) dX6_early_44 rfl ?_
      refine x_iconst (x := 2) dX6_early_45 rfl ?_
      obtain ⟨s13, hs13, h⟩ := x_let_e h
      refine x_iast 5 2 rfl s13 hs13 rfl rfl rfl (ok_e36 hw) rfl dX6_early_46 ?_
      refine x_iconst (x := 0) dX6_early_47 rfl ?_
      exact x_iretH rfl dX6_early_48 h
  · have h := x_t hc h
    refine x_iconst (x := 1) dX6_early_17 rfl ?_
    exact x_iretH rfl dX6_early_18 h
set_option maxRecDepth 100000 in
set_option maxHeartbeats 4000000 in
theorem TX6_lessens_6 {l : Launch} {w : xW} (hw : w.1.2 = true) {a1 : Int32} {τ : xS} {r : Unit} : ∀ (n : Nat) (a3 : Int32) (a4 : Int32) (σ : xS), BX6_lessens_6 a1 n a3 a4 σ = some (r, τ) → xAt l w mX6_lessens 6 [(0, .ref (w.2.2 5 30 0 0)), (1, .int a1), (3, .int a3), (4, .int a4)] [] σ none τ := by
  intro n
  induction n with
  | zero => intro a3 a4 σ h; cases h
  | succ n ih =>
    intro a3 a4 σ h
    rw [BX6_lessens_6] at h
    refine x_iload dX6_lessens_6 3 rfl ?_
    refine x_bipush (x := 6) dX6_lessens_8 rfl ?_
    refine x_icmp_lt (tgt := 57) dX6_lessens_10 rfl (fun hc => ?_) (fun hc => ?_)
    · have h := x_t hc h
      exact x_vretH rfl dX6_lessens_57 h
    · have h := x_f hc h
      refine x_iload_n dX6_lessens_13 rfl 2 rfl ?_
      refine x_aload_n dX6_lessens_14 rfl 0 rfl ?_
      refine x_getR (d1 := 5) (K1 := 31) (p1 := 0) (r1 := 0) fl_X6_7 (ok_e30 hw) rfl dX6_lessens_15 ?_
      refine x_iload_n dX6_lessens_18 rfl 1 rfl ?_
      refine x_iload dX6_lessens_19 3 rfl ?_
      obtain ⟨z1, s1, h1, h⟩ := x_b_e h
      refine x_callS (As := [.int a1, .int a4]) (st := [.ref (w.2.2 5 31 0 0), .int a3]) (eX6_queue hw  h1) cs_X6_48 (Nat.le_of_ble_eq_true rfl) rfl (Nat.le_of_ble_eq_true rfl) _ rfl dX6_lessens_21 [.int z1, .ref (w.2.2 5 31 0 0), .int a3] rfl ?_
      obtain ⟨hg2, h⟩ := x_g_e h
      refine x_iald 6464 z1.toNatClampNeg rfl rfl rfl rfl (ok_e31 hw) hg2 dX6_lessens_24 ?_
      obtain ⟨z3, s3, h3, h⟩ := x_b_e h
      refine x_callS (As := [.int a3, .int (s1 5 31 0 0 z1.toNatClampNeg)]) (st := []) (eX6_least hw  h3) cs_X6_68 (Nat.le_of_ble_eq_true rfl) rfl (Nat.le_of_ble_eq_true rfl) _ rfl dX6_lessens_25 [.int z3] rfl ?_
      refine x_istore z3 rfl dX6_lessens_28 (Nat.le_of_ble_eq_true rfl) [(5, .int z3), (0, .ref (w.2.2 5 30 0 0)), (1, .int a1), (3, .int a3), (4, .int a4)] rfl ?_
      refine x_aload_n dX6_lessens_30 rfl 1 rfl ?_
      refine x_getR (d1 := 5) (K1 := 31) (p1 := 0) (r1 := 0) fl_X6_7 (ok_e30 hw) rfl dX6_lessens_31 ?_
      refine x_iload_n dX6_lessens_34 rfl 2 rfl ?_
      refine x_iload dX6_lessens_35 4 rfl ?_
      obtain ⟨z4, s4, h4, h⟩ := x_b_e h
      refine x_callS (As := [.int a1, .int a4]) (st := [.ref (w.2.2 5 31 0 0)]) (eX6_queue hw  h4) cs_X6_48 (Nat.le_of_ble_eq_true rfl) rfl (Nat.le_of_ble_eq_true rfl) _ rfl dX6_lessens_37 [.int z4, .ref (w.2.2 5 31 0 0)] rfl ?_
      refine x_dup2 dX6_lessens_40 rfl rfl ?_
      obtain ⟨hg5, h⟩ := x_g_e h
      refine x_iald 6464 z4.toNatClampNeg rfl rfl rfl rfl (ok_e31 hw) hg5 dX6_lessens_41 ?_
      refine x_iload dX6_lessens_42 0 rfl ?_
      refine x_isub dX6_lessens_44 ?_
      obtain ⟨hg6, h⟩ := x_g_e h
      obtain ⟨s7, hs7, h⟩ := x_let_e h
      refine x_iast 6464 z4.toNatClampNeg rfl s7 hs7 rfl rfl rfl (ok_e31 hw) hg6 dX6_lessens_45 ?_
      refine x_iload_n dX6_lessens_46 rfl 3 rfl ?_
      refine x_iload dX6_lessens_47 0 rfl ?_
      refine x_isub dX6_lessens_49 ?_
      obtain ⟨t8, ht8, h⟩ := x_let_e h
      refine x_istore_n t8 ht8 dX6_lessens_50 rfl (Nat.le_of_ble_eq_true rfl) [(3, .int t8), (5, .int z3), (0, .ref (w.2.2 5 30 0 0)), (1, .int a1), (4, .int a4)] rfl ?_
      obtain ⟨t9, ht9, h⟩ := x_let_e h
      refine x_iinc t9 (-1) (by decide) ht9 dX6_lessens_51 4 rfl (Nat.le_of_ble_eq_true rfl) [(4, .int t9), (3, .int t8), (5, .int z3), (0, .ref (w.2.2 5 30 0 0)), (1, .int a1)] rfl ?_
      refine x_goto (tgt := 6) dX6_lessens_54 rfl ?_
      refine x_sub (L1 := [(0, .ref (w.2.2 5 30 0 0)), (1, .int a1), (3, .int t8), (4, .int t9)]) [3, 4, 1, 0] rfl ?_
      exact ih _ _ _ h
set_option maxRecDepth 100000 in
set_option maxHeartbeats 4000000 in
theorem eX6_lessens {l : Launch} {w : xW} (hw : w.1.2 = true) {a1 : Int32} {a2 : Int32} {σ τ : xS} {r : Unit} (h : fX6_lessens a1 a2 σ = some (r, τ)) : xEV l w yX6_lessens mX6_lessens [.ref (w.2.2 5 30 0 0), .int a1, .int a2] σ none τ := by
  rw [fX6_lessens] at h
  refine x_enter (by decide +kernel) rfl (Nat.le_of_ble_eq_true rfl) ?_
  refine x_sub (L1 := [(0, .ref (w.2.2 5 30 0 0)), (1, .int a1), (2, .int a2)]) [0, 1, 2] rfl ?_
  refine x_iload_n dX6_lessens_0 rfl 2 rfl ?_
  refine x_istore_n a2 rfl dX6_lessens_1 rfl (Nat.le_of_ble_eq_true rfl) [(3, .int a2), (0, .ref (w.2.2 5 30 0 0)), (1, .int a1), (2, .int a2)] rfl ?_
  refine x_bipush (x := 8) dX6_lessens_2 rfl ?_
  refine x_istore 8 rfl dX6_lessens_4 (Nat.le_of_ble_eq_true rfl) [(4, .int 8), (3, .int a2), (0, .ref (w.2.2 5 30 0 0)), (1, .int a1), (2, .int a2)] rfl ?_
  refine x_sub (L1 := [(0, .ref (w.2.2 5 30 0 0)), (1, .int a1), (3, .int a2), (4, .int 8)]) [2, 3, 1, 0] rfl ?_
  exact TX6_lessens_6 hw _ _ _ _ h
set_option maxRecDepth 100000 in
set_option maxHeartbeats 4000000 in
theorem TX6_pushes_181 {l : Launch} {w : xW} (hw : w.1.2 = true) {a3 : Int32} {a4 : Int32} {a5 : Int32} {a7 : Int32} {a8 : Int32} {τ : xS} {r : Int32} : ∀ (n : Nat) (a9 : Int32) (σ : xS), BX6_pushes_181 a3 a4 a5 a7 a8 n a9 σ = some (r, τ) → xAt l w mX6_pushes 181 [(0, .ref (w.2.2 5 30 0 0)), (3, .int a3), (4, .int a4), (5, .int a5), (6, .ref (w.2.2 5 37 0 0)), (7, .int a7), (8, .int a8), (9, .int a9)] [] σ (some (.int r)) τ := by
  intro n
  induction n with
  | zero => intro a9 σ h; cases h
  | succ n ih =>
    intro a9 σ h
    rw [BX6_pushes_181] at h
    refine x_iload dX6_pushes_181 7 rfl ?_
    refine x_bipush (x := 9) dX6_pushes_183 rfl ?_
    refine x_icmp_ge (tgt := 222) dX6_pushes_185 rfl (fun hc => ?_) (fun hc => ?_)
    · have h := x_t hc h
      refine x_aload_n dX6_pushes_222 rfl 0 rfl ?_
      refine x_getR (d1 := 5) (K1 := 36) (p1 := 0) (r1 := 0) fl_X6_26 (ok_e30 hw) rfl dX6_pushes_223 ?_
      refine x_iconst (x := 1) dX6_pushes_226 rfl ?_
      refine x_iload dX6_pushes_227 2 rfl ?_
      obtain ⟨s5, hs5, h⟩ := x_let_e h
      refine x_iast 5 1 rfl s5 hs5 rfl rfl rfl (ok_e36 hw) rfl dX6_pushes_229 ?_
      refine x_aload_n dX6_pushes_230 rfl 0 rfl ?_
      refine x_getR (d1 := 5) (K1 := 36) (p1 := 0) (r1 := 0) fl_X6_26 (ok_e30 hw) rfl dX6_pushes_231 ?_
      refine x_iconst (x := 2) dX6_pushes_234 rfl ?_
      refine x_iload dX6_pushes_235 3 rfl ?_
      obtain ⟨s6, hs6, h⟩ := x_let_e h
      refine x_iast 5 2 rfl s6 hs6 rfl rfl rfl (ok_e36 hw) rfl dX6_pushes_237 ?_
      refine x_aload_n dX6_pushes_238 rfl 0 rfl ?_
      refine x_getR (d1 := 5) (K1 := 36) (p1 := 0) (r1 := 0) fl_X6_26 (ok_e30 hw) rfl dX6_pushes_239 ?_
      refine x_iconst (x := 4) dX6_pushes_242 rfl ?_
      refine x_bipush (x := 7) dX6_pushes_243 rfl ?_
      obtain ⟨s7, hs7, h⟩ := x_let_e h
      refine x_iast 5 4 rfl s7 hs7 rfl rfl rfl (ok_e36 hw) rfl dX6_pushes_245 ?_
      refine x_aload_n dX6_pushes_246 rfl 0 rfl ?_
      refine x_iload dX6_pushes_247 5 rfl ?_
      obtain ⟨s8, hs8, h⟩ := x_let_e h
      refine x_putI s8 hs8 fp_X6_125 (ok_e30 hw) rfl dX6_pushes_249 ?_
      refine x_iload dX6_pushes_252 6 rfl ?_
      obtain ⟨hg9, h⟩ := x_g_e h
      exact x_zretH rfl hg9 dX6_pushes_254 h
    · have h := x_f hc h
      refine x_aload_n dX6_pushes_188 rfl 0 rfl ?_
      refine x_getR (d1 := 5) (K1 := 31) (p1 := 0) (r1 := 0) fl_X6_7 (ok_e30 hw) rfl dX6_pushes_189 ?_
      refine x_iconst (x := 3) dX6_pushes_192 rfl ?_
      refine x_iload_n dX6_pushes_193 rfl 1 rfl ?_
      refine x_imul dX6_pushes_194 ?_
      refine x_iload dX6_pushes_195 7 rfl ?_
      refine x_iconst (x := 3) dX6_pushes_197 rfl ?_
      refine x_idiv dX6_pushes_198 (by decide) ?_
      refine x_iadd dX6_pushes_199 ?_
      refine x_bipush (x := 6) dX6_pushes_200 rfl ?_
      refine x_iload dX6_pushes_202 7 rfl ?_
      refine x_iconst (x := 3) dX6_pushes_204 rfl ?_
      refine x_irem dX6_pushes_205 (by decide) ?_
      refine x_iadd dX6_pushes_206 ?_
      obtain ⟨z10, s10, h10, h⟩ := x_b_e h
      refine x_callS (As := [.int ((3 * a3) + (a9 / 3)), .int (6 + (a9 - a9 / 3 * 3))]) (st := [.ref (w.2.2 5 31 0 0)]) (eX6_queue hw  h10) cs_X6_48 (Nat.le_of_ble_eq_true rfl) rfl (Nat.le_of_ble_eq_true rfl) _ rfl dX6_pushes_207 [.int z10, .ref (w.2.2 5 31 0 0)] rfl ?_
      refine x_aload dX6_pushes_210 4 rfl ?_
      refine x_iload dX6_pushes_212 7 rfl ?_
      obtain ⟨hg11, h⟩ := x_g_e h
      refine x_iald 9 a9.toNatClampNeg rfl rfl rfl rfl (ok_e37 hw) hg11 dX6_pushes_214 ?_
      obtain ⟨hg12, h⟩ := x_g_e h
      obtain ⟨s13, hs13, h⟩ := x_let_e h
      refine x_iast 6464 z10.toNatClampNeg rfl s13 hs13 rfl rfl rfl (ok_e31 hw) hg12 dX6_pushes_215 ?_
      obtain ⟨t14, ht14, h⟩ := x_let_e h
      refine x_iinc t14 1 rfl ht14 dX6_pushes_216 7 rfl (Nat.le_of_ble_eq_true rfl) [(9, .int t14), (0, .ref (w.2.2 5 30 0 0)), (3, .int a3), (4, .int a4), (5, .int a5), (6, .ref (w.2.2 5 37 0 0)), (7, .int a7), (8, .int a8)] rfl ?_
      refine x_goto (tgt := 181) dX6_pushes_219 rfl ?_
      refine x_sub (L1 := [(0, .ref (w.2.2 5 30 0 0)), (3, .int a3), (4, .int a4), (5, .int a5), (6, .ref (w.2.2 5 37 0 0)), (7, .int a7), (8, .int a8), (9, .int t14)]) [1, 2, 3, 4, 5, 6, 7, 0] rfl ?_
      exact ih _ _ h
set_option maxRecDepth 100000 in
set_option maxHeartbeats 4000000 in
theorem TX6_pushes_110 {l : Launch} {w : xW} (hw : w.1.2 = true) {a1 : Int32} {a2 : Int32} {a3 : Int32} {a4 : Int32} {a5 : Int32} {a9 : Int32} {k83 : Int32 → Int32 → Int32 → xS → Option (Int32 × xS)} {τ : xS} {r : Int32} (hk83 : ∀ (a7 : Int32) (a8 : Int32) (a9 : Int32) (σ1 : xS), k83 a7 a8 a9 σ1 = some (r, τ) → xAt l w mX6_pushes 83 [(0, .ref (w.2.2 5 30 0 0)), (1, .int a1), (2, .int a2), (3, .int a3), (4, .int a4), (5, .int a5), (6, .ref (w.2.2 5 37 0 0)), (7, .int a7), (8, .int a8), (9, .int a9)] [] σ1 (some (.int r)) τ) : ∀ (n : Nat) (a7 : Int32) (a8 : Int32) (a10 : Int32) (σ : xS), BX6_pushes_110 a1 a2 a3 a4 a5 a9 k83 n a7 a8 a10 σ = some (r, τ) → xAt l w mX6_pushes 110 [(0, .ref (w.2.2 5 30 0 0)), (1, .int a1), (2, .int a2), (3, .int a3), (4, .int a4), (5, .int a5), (6, .ref (w.2.2 5 37 0 0)), (7, .int a7), (8, .int a8), (9, .int a9), (10, .int a10)] [] σ (some (.int r)) τ := by
  intro n
  induction n with
  | zero => intro a7 a8 a10 σ h; cases h
  | succ n ih =>
    intro a7 a8 a10 σ h
    rw [BX6_pushes_110] at h
    refine x_iload dX6_pushes_110 10 rfl ?_
    refine x_if_lt (tgt := 172) dX6_pushes_112 rfl (fun hc => ?_) (fun hc => ?_)
    · have h := x_t hc h
      obtain ⟨t18, ht18, h⟩ := x_let_e h
      refine x_iinc t18 (-1) (by decide) ht18 dX6_pushes_172 9 rfl (Nat.le_of_ble_eq_true rfl) [(9, .int t18), (0, .ref (w.2.2 5 30 0 0)), (1, .int a1), (2, .int a2), (3, .int a3), (4, .int a4), (5, .int a5), (6, .ref (w.2.2 5 37 0 0)), (7, .int a7), (8, .int a8), (10, .int a10)] rfl ?_
      refine x_goto (tgt := 83) dX6_pushes_175 rfl ?_
      refine x_sub (L1 := [(0, .ref (w.2.2 5 30 0 0)), (1, .int a1), (2, .int a2), (3, .int a3), (4, .int a4), (5, .int a5), (6, .ref (w.2.2 5 37 0 0)), (7, .int a7), (8, .int a8), (9, .int t18)]) [1, 2, 3, 4, 5, 6, 7, 8, 9, 0] rfl ?_
      exact hk83 _ _ _ _ h
    · have h := x_f hc h
      refine x_iload dX6_pushes_115 8 rfl ?_
      refine x_if_ne (tgt := 172) dX6_pushes_117 rfl (fun hc => ?_) (fun hc => ?_)
      · have h := x_f hc h
        obtain ⟨t19, ht19, h⟩ := x_let_e h
        refine x_iinc t19 (-1) (by decide) ht19 dX6_pushes_172 9 rfl (Nat.le_of_ble_eq_true rfl) [(9, .int t19), (0, .ref (w.2.2 5 30 0 0)), (1, .int a1), (2, .int a2), (3, .int a3), (4, .int a4), (5, .int a5), (6, .ref (w.2.2 5 37 0 0)), (7, .int a7), (8, .int a8), (10, .int a10)] rfl ?_
        refine x_goto (tgt := 83) dX6_pushes_175 rfl ?_
        refine x_sub (L1 := [(0, .ref (w.2.2 5 30 0 0)), (1, .int a1), (2, .int a2), (3, .int a3), (4, .int a4), (5, .int a5), (6, .ref (w.2.2 5 37 0 0)), (7, .int a7), (8, .int a8), (9, .int t19)]) [1, 2, 3, 4, 5, 6, 7, 8, 9, 0] rfl ?_
        exact hk83 _ _ _ _ h
      · have h := x_t hc h
        refine x_aload_n dX6_pushes_120 rfl 0 rfl ?_
        refine x_iload dX6_pushes_121 9 rfl ?_
        refine x_aload_n dX6_pushes_123 rfl 0 rfl ?_
        refine x_getR (d1 := 5) (K1 := 31) (p1 := 0) (r1 := 0) fl_X6_7 (ok_e30 hw) rfl dX6_pushes_124 ?_
        refine x_aload_n dX6_pushes_127 rfl 0 rfl ?_
        refine x_getR (d1 := 5) (K1 := 31) (p1 := 0) (r1 := 0) fl_X6_7 (ok_e30 hw) rfl dX6_pushes_128 ?_
        refine x_iload dX6_pushes_131 9 rfl ?_
        refine x_iload dX6_pushes_133 10 rfl ?_
        obtain ⟨z20, s20, h20, h⟩ := x_b_e h
        refine x_callS (As := [.int a9, .int a10]) (st := [.ref (w.2.2 5 31 0 0), .ref (w.2.2 5 31 0 0), .int a9, .ref (w.2.2 5 30 0 0)]) (eX6_entry hw  h20) cs_X6_107 (Nat.le_of_ble_eq_true rfl) rfl (Nat.le_of_ble_eq_true rfl) _ rfl dX6_pushes_135 [.int z20, .ref (w.2.2 5 31 0 0), .ref (w.2.2 5 31 0 0), .int a9, .ref (w.2.2 5 30 0 0)] rfl ?_
        obtain ⟨hg21, h⟩ := x_g_e h
        refine x_iald 6464 z20.toNatClampNeg rfl rfl rfl rfl (ok_e31 hw) hg21 dX6_pushes_138 ?_
        refine x_iconst (x := 1) dX6_pushes_139 rfl ?_
        obtain ⟨z22, s22, h22, h⟩ := x_b_e h
        refine x_callS (As := [.int (s20 5 31 0 0 z20.toNatClampNeg), .int 1]) (st := [.ref (w.2.2 5 31 0 0), .int a9, .ref (w.2.2 5 30 0 0)]) (eX6_packet hw  h22) cs_X6_92 (Nat.le_of_ble_eq_true rfl) rfl (Nat.le_of_ble_eq_true rfl) _ rfl dX6_pushes_140 [.int z22, .ref (w.2.2 5 31 0 0), .int a9, .ref (w.2.2 5 30 0 0)] rfl ?_
        obtain ⟨hg23, h⟩ := x_g_e h
        refine x_iald 6464 z22.toNatClampNeg rfl rfl rfl rfl (ok_e31 hw) hg23 dX6_pushes_143 ?_
        obtain ⟨z24, s24, h24, h⟩ := x_b_e h
        refine x_callV (As := [.int a9, .int (s22 5 31 0 0 z22.toNatClampNeg)]) (st := []) (eX6_lessens hw  h24) cv_X6_122 (Nat.le_of_ble_eq_true rfl) (ok_e30 hw) rfl (Nat.le_of_ble_eq_true rfl) _ rfl dX6_pushes_144 [] rfl ?_
        obtain ⟨t25, ht25, h⟩ := x_let_e h
        refine x_iinc t25 1 rfl ht25 dX6_pushes_147 7 rfl (Nat.le_of_ble_eq_true rfl) [(7, .int t25), (0, .ref (w.2.2 5 30 0 0)), (1, .int a1), (2, .int a2), (3, .int a3), (4, .int a4), (5, .int a5), (6, .ref (w.2.2 5 37 0 0)), (8, .int a8), (9, .int a9), (10, .int a10)] rfl ?_
        refine x_aload_n dX6_pushes_150 rfl 1 rfl ?_
        refine x_iload_n dX6_pushes_151 rfl 2 rfl ?_
        refine x_iload_n dX6_pushes_152 rfl 3 rfl ?_
        obtain ⟨z26, s26, h26, h⟩ := x_b_e h
        refine x_callV (As := [.int a1, .int a2]) (st := []) (eX6_early hw  h26) cv_X6_116 (Nat.le_of_ble_eq_true rfl) (ok_e30 hw) rfl (Nat.le_of_ble_eq_true rfl) _ rfl dX6_pushes_153 [.int z26] rfl ?_
        refine x_if_le (tgt := 163) dX6_pushes_156 rfl (fun hc => ?_) (fun hc => ?_)
        · have h := x_t hc h
          refine x_iconst (x := 0) dX6_pushes_163 rfl ?_
          refine x_istore 0 rfl dX6_pushes_164 (Nat.le_of_ble_eq_true rfl) [(8, .int 0), (7, .int t25), (0, .ref (w.2.2 5 30 0 0)), (1, .int a1), (2, .int a2), (3, .int a3), (4, .int a4), (5, .int a5), (6, .ref (w.2.2 5 37 0 0)), (9, .int a9), (10, .int a10)] rfl ?_
          obtain ⟨t27, ht27, h⟩ := x_let_e h
          refine x_iinc t27 (-1) (by decide) ht27 dX6_pushes_166 10 rfl (Nat.le_of_ble_eq_true rfl) [(10, .int t27), (8, .int 0), (7, .int t25), (0, .ref (w.2.2 5 30 0 0)), (1, .int a1), (2, .int a2), (3, .int a3), (4, .int a4), (5, .int a5), (6, .ref (w.2.2 5 37 0 0)), (9, .int a9)] rfl ?_
          refine x_goto (tgt := 110) dX6_pushes_169 rfl ?_
          refine x_sub (L1 := [(0, .ref (w.2.2 5 30 0 0)), (1, .int a1), (2, .int a2), (3, .int a3), (4, .int a4), (5, .int a5), (6, .ref (w.2.2 5 37 0 0)), (7, .int t25), (8, .int 0), (9, .int a9), (10, .int t27)]) [3, 4, 5, 6, 7, 8, 9, 2, 1, 10, 0] rfl ?_
          exact ih _ _ _ _ h
        · have h := x_f hc h
          refine x_iconst (x := 1) dX6_pushes_159 rfl ?_
          refine x_goto (tgt := 164) dX6_pushes_160 rfl ?_
          refine x_istore 1 rfl dX6_pushes_164 (Nat.le_of_ble_eq_true rfl) [(8, .int 1), (7, .int t25), (0, .ref (w.2.2 5 30 0 0)), (1, .int a1), (2, .int a2), (3, .int a3), (4, .int a4), (5, .int a5), (6, .ref (w.2.2 5 37 0 0)), (9, .int a9), (10, .int a10)] rfl ?_
          obtain ⟨t28, ht28, h⟩ := x_let_e h
          refine x_iinc t28 (-1) (by decide) ht28 dX6_pushes_166 10 rfl (Nat.le_of_ble_eq_true rfl) [(10, .int t28), (8, .int 1), (7, .int t25), (0, .ref (w.2.2 5 30 0 0)), (1, .int a1), (2, .int a2), (3, .int a3), (4, .int a4), (5, .int a5), (6, .ref (w.2.2 5 37 0 0)), (9, .int a9)] rfl ?_
          refine x_goto (tgt := 110) dX6_pushes_169 rfl ?_
          refine x_sub (L1 := [(0, .ref (w.2.2 5 30 0 0)), (1, .int a1), (2, .int a2), (3, .int a3), (4, .int a4), (5, .int a5), (6, .ref (w.2.2 5 37 0 0)), (7, .int t25), (8, .int 1), (9, .int a9), (10, .int t28)]) [3, 4, 5, 6, 7, 8, 9, 2, 1, 10, 0] rfl ?_
          exact ih _ _ _ _ h
set_option maxRecDepth 100000 in
set_option maxHeartbeats 4000000 in
theorem TX6_pushes_83 {l : Launch} {w : xW} (hw : w.1.2 = true) {a1 : Int32} {a2 : Int32} {a3 : Int32} {a4 : Int32} {a5 : Int32} {τ : xS} {r : Int32} : ∀ (n : Nat) (a7 : Int32) (a8 : Int32) (a9 : Int32) (σ : xS), BX6_pushes_83 a1 a2 a3 a4 a5 n a7 a8 a9 σ = some (r, τ) → xAt l w mX6_pushes 83 [(0, .ref (w.2.2 5 30 0 0)), (1, .int a1), (2, .int a2), (3, .int a3), (4, .int a4), (5, .int a5), (6, .ref (w.2.2 5 37 0 0)), (7, .int a7), (8, .int a8), (9, .int a9)] [] σ (some (.int r)) τ := by
  intro n
  induction n with
  | zero => intro a7 a8 a9 σ h; cases h
  | succ n ih =>
    intro a7 a8 a9 σ h
    rw [BX6_pushes_83] at h
    refine x_iload dX6_pushes_83 9 rfl ?_
    refine x_iload_n dX6_pushes_85 rfl 1 rfl ?_
    refine x_icmp_le (tgt := 178) dX6_pushes_86 rfl (fun hc => ?_) (fun hc => ?_)
    · have h := x_t hc h
      refine x_iconst (x := 0) dX6_pushes_178 rfl ?_
      refine x_istore 0 rfl dX6_pushes_179 (Nat.le_of_ble_eq_true rfl) [(9, .int 0), (0, .ref (w.2.2 5 30 0 0)), (1, .int a1), (2, .int a2), (3, .int a3), (4, .int a4), (5, .int a5), (6, .ref (w.2.2 5 37 0 0)), (7, .int a7), (8, .int a8)] rfl ?_
      refine x_sub (L1 := [(0, .ref (w.2.2 5 30 0 0)), (3, .int a3), (4, .int a4), (5, .int a5), (6, .ref (w.2.2 5 37 0 0)), (7, .int a7), (8, .int a8), (9, .int 0)]) [1, 4, 5, 6, 7, 8, 9, 0] rfl ?_
      exact TX6_pushes_181 hw _ _ _ h
    · have h := x_f hc h
      refine x_iload dX6_pushes_89 8 rfl ?_
      refine x_if_ne (tgt := 178) dX6_pushes_91 rfl (fun hc => ?_) (fun hc => ?_)
      · have h := x_f hc h
        refine x_iconst (x := 0) dX6_pushes_178 rfl ?_
        refine x_istore 0 rfl dX6_pushes_179 (Nat.le_of_ble_eq_true rfl) [(9, .int 0), (0, .ref (w.2.2 5 30 0 0)), (1, .int a1), (2, .int a2), (3, .int a3), (4, .int a4), (5, .int a5), (6, .ref (w.2.2 5 37 0 0)), (7, .int a7), (8, .int a8)] rfl ?_
        refine x_sub (L1 := [(0, .ref (w.2.2 5 30 0 0)), (3, .int a3), (4, .int a4), (5, .int a5), (6, .ref (w.2.2 5 37 0 0)), (7, .int a7), (8, .int a8), (9, .int 0)]) [1, 4, 5, 6, 7, 8, 9, 0] rfl ?_
        exact TX6_pushes_181 hw _ _ _ h
      · have h := x_t hc h
        refine x_aload_n dX6_pushes_94 rfl 0 rfl ?_
        refine x_getR (d1 := 5) (K1 := 31) (p1 := 0) (r1 := 0) fl_X6_7 (ok_e30 hw) rfl dX6_pushes_95 ?_
        refine x_iload dX6_pushes_98 9 rfl ?_
        refine x_bipush (x := 12) dX6_pushes_100 rfl ?_
        obtain ⟨z15, s15, h15, h⟩ := x_b_e h
        refine x_callS (As := [.int a9, .int 12]) (st := [.ref (w.2.2 5 31 0 0)]) (eX6_queue hw  h15) cs_X6_48 (Nat.le_of_ble_eq_true rfl) rfl (Nat.le_of_ble_eq_true rfl) _ rfl dX6_pushes_102 [.int z15, .ref (w.2.2 5 31 0 0)] rfl ?_
        obtain ⟨hg16, h⟩ := x_g_e h
        refine x_iald 6464 z15.toNatClampNeg rfl rfl rfl rfl (ok_e31 hw) hg16 dX6_pushes_105 ?_
        refine x_iconst (x := 1) dX6_pushes_106 rfl ?_
        refine x_isub dX6_pushes_107 ?_
        obtain ⟨t17, ht17, h⟩ := x_let_e h
        refine x_istore t17 ht17 dX6_pushes_108 (Nat.le_of_ble_eq_true rfl) [(10, .int t17), (0, .ref (w.2.2 5 30 0 0)), (1, .int a1), (2, .int a2), (3, .int a3), (4, .int a4), (5, .int a5), (6, .ref (w.2.2 5 37 0 0)), (7, .int a7), (8, .int a8), (9, .int a9)] rfl ?_
        refine x_sub (L1 := [(0, .ref (w.2.2 5 30 0 0)), (1, .int a1), (2, .int a2), (3, .int a3), (4, .int a4), (5, .int a5), (6, .ref (w.2.2 5 37 0 0)), (7, .int a7), (8, .int a8), (9, .int a9), (10, .int t17)]) [1, 2, 3, 4, 5, 6, 7, 8, 9, 10, 0] rfl ?_
        exact TX6_pushes_110 hw ih _ _ _ _ _ h
set_option maxRecDepth 100000 in
set_option maxHeartbeats 4000000 in
theorem TX6_pushes_29 {l : Launch} {w : xW} (hw : w.1.2 = true) {a1 : Int32} {a2 : Int32} {a3 : Int32} {a4 : Int32} {a5 : Int32} {τ : xS} {r : Int32} : ∀ (n : Nat) (a7 : Int32) (σ : xS), BX6_pushes_29 a1 a2 a3 a4 a5 n a7 σ = some (r, τ) → xAt l w mX6_pushes 29 [(0, .ref (w.2.2 5 30 0 0)), (1, .int a1), (2, .int a2), (3, .int a3), (4, .int a4), (5, .int a5), (6, .ref (w.2.2 5 37 0 0)), (7, .int a7)] [] σ (some (.int r)) τ := by
  intro n
  induction n with
  | zero => intro a7 σ h; cases h
  | succ n ih =>
    intro a7 σ h
    rw [BX6_pushes_29] at h
    refine x_iload dX6_pushes_29 7 rfl ?_
    refine x_bipush (x := 9) dX6_pushes_31 rfl ?_
    refine x_icmp_ge (tgt := 70) dX6_pushes_33 rfl (fun hc => ?_) (fun hc => ?_)
    · have h := x_t hc h
      refine x_iconst (x := 0) dX6_pushes_70 rfl ?_
      refine x_istore 0 rfl dX6_pushes_71 (Nat.le_of_ble_eq_true rfl) [(7, .int 0), (0, .ref (w.2.2 5 30 0 0)), (1, .int a1), (2, .int a2), (3, .int a3), (4, .int a4), (5, .int a5), (6, .ref (w.2.2 5 37 0 0))] rfl ?_
      refine x_iconst (x := 0) dX6_pushes_73 rfl ?_
      refine x_istore 0 rfl dX6_pushes_74 (Nat.le_of_ble_eq_true rfl) [(8, .int 0), (7, .int 0), (0, .ref (w.2.2 5 30 0 0)), (1, .int a1), (2, .int a2), (3, .int a3), (4, .int a4), (5, .int a5), (6, .ref (w.2.2 5 37 0 0))] rfl ?_
      refine x_iconst (x := 3) dX6_pushes_76 rfl ?_
      refine x_iload_n dX6_pushes_77 rfl 5 rfl ?_
      refine x_imul dX6_pushes_78 ?_
      refine x_iconst (x := 2) dX6_pushes_79 rfl ?_
      refine x_iadd dX6_pushes_80 ?_
      obtain ⟨t4, ht4, h⟩ := x_let_e h
      refine x_istore t4 ht4 dX6_pushes_81 (Nat.le_of_ble_eq_true rfl) [(9, .int t4), (8, .int 0), (7, .int 0), (0, .ref (w.2.2 5 30 0 0)), (1, .int a1), (2, .int a2), (3, .int a3), (4, .int a4), (5, .int a5), (6, .ref (w.2.2 5 37 0 0))] rfl ?_
      refine x_sub (L1 := [(0, .ref (w.2.2 5 30 0 0)), (1, .int a1), (2, .int a2), (3, .int a3), (4, .int a4), (5, .int a5), (6, .ref (w.2.2 5 37 0 0)), (7, .int 0), (8, .int 0), (9, .int t4)]) [3, 4, 5, 6, 7, 8, 9, 2, 1, 0] rfl ?_
      exact TX6_pushes_83 hw _ _ _ _ _ h
    · have h := x_f hc h
      refine x_aload dX6_pushes_36 6 rfl ?_
      refine x_iload dX6_pushes_38 7 rfl ?_
      refine x_aload_n dX6_pushes_40 rfl 0 rfl ?_
      refine x_getR (d1 := 5) (K1 := 31) (p1 := 0) (r1 := 0) fl_X6_7 (ok_e30 hw) rfl dX6_pushes_41 ?_
      refine x_iconst (x := 3) dX6_pushes_44 rfl ?_
      refine x_iload_n dX6_pushes_45 rfl 3 rfl ?_
      refine x_imul dX6_pushes_46 ?_
      refine x_iload dX6_pushes_47 7 rfl ?_
      refine x_iconst (x := 3) dX6_pushes_49 rfl ?_
      refine x_idiv dX6_pushes_50 (by decide) ?_
      refine x_iadd dX6_pushes_51 ?_
      refine x_bipush (x := 6) dX6_pushes_52 rfl ?_
      refine x_iload dX6_pushes_54 7 rfl ?_
      refine x_iconst (x := 3) dX6_pushes_56 rfl ?_
      refine x_irem dX6_pushes_57 (by decide) ?_
      refine x_iadd dX6_pushes_58 ?_
      obtain ⟨z29, s29, h29, h⟩ := x_b_e h
      refine x_callS (As := [.int ((3 * a3) + (a7 / 3)), .int (6 + (a7 - a7 / 3 * 3))]) (st := [.ref (w.2.2 5 31 0 0), .int a7, .ref (w.2.2 5 37 0 0)]) (eX6_queue hw  h29) cs_X6_48 (Nat.le_of_ble_eq_true rfl) rfl (Nat.le_of_ble_eq_true rfl) _ rfl dX6_pushes_59 [.int z29, .ref (w.2.2 5 31 0 0), .int a7, .ref (w.2.2 5 37 0 0)] rfl ?_
      obtain ⟨hg30, h⟩ := x_g_e h
      refine x_iald 6464 z29.toNatClampNeg rfl rfl rfl rfl (ok_e31 hw) hg30 dX6_pushes_62 ?_
      obtain ⟨hg31, h⟩ := x_g_e h
      obtain ⟨s32, hs32, h⟩ := x_let_e h
      refine x_iast 9 a7.toNatClampNeg rfl s32 hs32 rfl rfl rfl (ok_e37 hw) hg31 dX6_pushes_63 ?_
      obtain ⟨t33, ht33, h⟩ := x_let_e h
      refine x_iinc t33 1 rfl ht33 dX6_pushes_64 7 rfl (Nat.le_of_ble_eq_true rfl) [(7, .int t33), (0, .ref (w.2.2 5 30 0 0)), (1, .int a1), (2, .int a2), (3, .int a3), (4, .int a4), (5, .int a5), (6, .ref (w.2.2 5 37 0 0))] rfl ?_
      refine x_goto (tgt := 29) dX6_pushes_67 rfl ?_
      refine x_sub (L1 := [(0, .ref (w.2.2 5 30 0 0)), (1, .int a1), (2, .int a2), (3, .int a3), (4, .int a4), (5, .int a5), (6, .ref (w.2.2 5 37 0 0)), (7, .int t33)]) [1, 2, 3, 4, 5, 6, 7, 0] rfl ?_
      exact ih _ _ h
set_option maxRecDepth 100000 in
set_option maxHeartbeats 4000000 in
theorem eX6_pushes {l : Launch} {w : xW} (hw : w.1.2 = true) {a1 : Int32} {a2 : Int32} {σ τ : xS} {r : Int32} (h : fX6_pushes a1 a2 σ = some (r, τ)) : xEV l w yX6_pushes mX6_pushes [.ref (w.2.2 5 30 0 0), .int a1, .int a2] σ (some (.int r)) τ := by
  rw [fX6_pushes] at h
  refine x_enter (by decide +kernel) rfl (Nat.le_of_ble_eq_true rfl) ?_
  refine x_sub (L1 := [(0, .ref (w.2.2 5 30 0 0)), (1, .int a1), (2, .int a2)]) [0, 1, 2] rfl ?_
  refine x_iload_n dX6_pushes_0 rfl 1 rfl ?_
  refine x_iconst (x := 3) dX6_pushes_1 rfl ?_
  refine x_idiv dX6_pushes_2 (by decide) ?_
  obtain ⟨t1, ht1, h⟩ := x_let_e h
  refine x_istore_n t1 ht1 dX6_pushes_3 rfl (Nat.le_of_ble_eq_true rfl) [(3, .int t1), (0, .ref (w.2.2 5 30 0 0)), (1, .int a1), (2, .int a2)] rfl ?_
  refine x_aload_n dX6_pushes_4 rfl 1 rfl ?_
  refine x_getR (d1 := 5) (K1 := 36) (p1 := 0) (r1 := 0) fl_X6_26 (ok_e30 hw) rfl dX6_pushes_5 ?_
  refine x_iconst (x := 1) dX6_pushes_8 rfl ?_
  refine x_iald 5 1 rfl rfl rfl rfl (ok_e36 hw) rfl dX6_pushes_9 ?_
  obtain ⟨t2, ht2, h⟩ := x_let_e h
  refine x_istore t2 ht2 dX6_pushes_10 (Nat.le_of_ble_eq_true rfl) [(4, .int t2), (3, .int t1), (0, .ref (w.2.2 5 30 0 0)), (1, .int a1), (2, .int a2)] rfl ?_
  refine x_aload_n dX6_pushes_12 rfl 2 rfl ?_
  refine x_getR (d1 := 5) (K1 := 36) (p1 := 0) (r1 := 0) fl_X6_26 (ok_e30 hw) rfl dX6_pushes_13 ?_
  refine x_iconst (x := 2) dX6_pushes_16 rfl ?_
  refine x_iald 5 2 rfl rfl rfl rfl (ok_e36 hw) rfl dX6_pushes_17 ?_
  obtain ⟨t3, ht3, h⟩ := x_let_e h
  refine x_istore t3 ht3 dX6_pushes_18 (Nat.le_of_ble_eq_true rfl) [(5, .int t3), (4, .int t2), (3, .int t1), (0, .ref (w.2.2 5 30 0 0)), (1, .int a1), (2, .int a2)] rfl ?_
  refine x_aload_n dX6_pushes_20 rfl 3 rfl ?_
  refine x_getR (d1 := 5) (K1 := 37) (p1 := 0) (r1 := 0) fl_X6_29 (ok_e30 hw) rfl dX6_pushes_21 ?_
  refine x_astore dX6_pushes_24 (Nat.le_of_ble_eq_true rfl) [(6, .ref (w.2.2 5 37 0 0)), (5, .int t3), (4, .int t2), (3, .int t1), (0, .ref (w.2.2 5 30 0 0)), (1, .int a1), (2, .int a2)] rfl ?_
  refine x_iconst (x := 0) dX6_pushes_26 rfl ?_
  refine x_istore 0 rfl dX6_pushes_27 (Nat.le_of_ble_eq_true rfl) [(7, .int 0), (6, .ref (w.2.2 5 37 0 0)), (5, .int t3), (4, .int t2), (3, .int t1), (0, .ref (w.2.2 5 30 0 0)), (1, .int a1), (2, .int a2)] rfl ?_
  refine x_sub (L1 := [(0, .ref (w.2.2 5 30 0 0)), (1, .int a1), (2, .int a2), (3, .int t1), (4, .int t2), (5, .int t3), (6, .ref (w.2.2 5 37 0 0)), (7, .int 0)]) [5, 6, 7, 4, 3, 2, 1, 0] rfl ?_
  exact TX6_pushes_29 hw _ _ _ h
set_option maxRecDepth 100000 in
set_option maxHeartbeats 4000000 in
theorem TX6_decides_93 {l : Launch} {w : xW} (hw : w.1.2 = true) {a1 : Int32} {a2 : Int32} {σ τ : xS} {r : Int32} (h : BX6_decides_93 a1 a2 σ = some (r, τ)) : xAt l w mX6_decides 93 [(0, .ref (w.2.2 5 30 0 0)), (1, .int a1), (2, .int a2)] [] σ (some (.int r)) τ := by
  rw [BX6_decides_93] at h
  refine x_aload_n dX6_decides_93 rfl 0 rfl ?_
  refine x_getR (d1 := 5) (K1 := 31) (p1 := 0) (r1 := 0) fl_X6_7 (ok_e30 hw) rfl dX6_decides_94 ?_
  refine x_iconst (x := 2) dX6_decides_97 rfl ?_
  refine x_iald 6464 2 rfl rfl rfl rfl (ok_e31 hw) rfl dX6_decides_98 ?_
  refine x_if_ne (tgt := 112) dX6_decides_99 rfl (fun hc => ?_) (fun hc => ?_)
  · have h := x_f hc h
    refine x_aload_n dX6_decides_112 rfl 0 rfl ?_
    refine x_iload_n dX6_decides_113 rfl 1 rfl ?_
    refine x_iload_n dX6_decides_114 rfl 2 rfl ?_
    obtain ⟨z12, s12, h12, h⟩ := x_b_e h
    refine x_callV (As := [.int a1, .int a2]) (st := []) (eX6_pushes hw  h12) cv_X6_119 (Nat.le_of_ble_eq_true rfl) (ok_e30 hw) rfl (Nat.le_of_ble_eq_true rfl) _ rfl dX6_decides_115 [.int z12] rfl ?_
    refine x_if_eq (tgt := 125) dX6_decides_118 rfl (fun hc => ?_) (fun hc => ?_)
    · have h := x_t hc h
      refine x_iconst (x := 0) dX6_decides_125 rfl ?_
      exact x_iretH rfl dX6_decides_126 h
    · have h := x_f hc h
      refine x_iconst (x := 4) dX6_decides_121 rfl ?_
      refine x_goto (tgt := 126) dX6_decides_122 rfl ?_
      exact x_iretH rfl dX6_decides_126 h
  · have h := x_t hc h
    refine x_aload_n dX6_decides_102 rfl 0 rfl ?_
    refine x_getR (d1 := 5) (K1 := 36) (p1 := 0) (r1 := 0) fl_X6_26 (ok_e30 hw) rfl dX6_decides_103 ?_
    refine x_iconst (x := 4) dX6_decides_106 rfl ?_
    refine x_bipush (x := 6) dX6_decides_107 rfl ?_
    obtain ⟨s13, hs13, h⟩ := x_let_e h
    refine x_iast 5 4 rfl s13 hs13 rfl rfl rfl (ok_e36 hw) rfl dX6_decides_109 ?_
    refine x_iconst (x := 0) dX6_decides_110 rfl ?_
    exact x_iretH rfl dX6_decides_111 h
set_option maxRecDepth 100000 in
set_option maxHeartbeats 4000000 in
theorem eX6_decides {l : Launch} {w : xW} (hw : w.1.2 = true) {a1 : Int32} {a2 : Int32} {σ τ : xS} {r : Int32} (h : fX6_decides a1 a2 σ = some (r, τ)) : xEV l w yX6_decides mX6_decides [.ref (w.2.2 5 30 0 0), .int a1, .int a2] σ (some (.int r)) τ := by
  rw [fX6_decides] at h
  refine x_enter (by decide +kernel) rfl (Nat.le_of_ble_eq_true rfl) ?_
  refine x_sub (L1 := [(0, .ref (w.2.2 5 30 0 0)), (1, .int a1), (2, .int a2)]) [0, 1, 2] rfl ?_
  refine x_aload_n dX6_decides_0 rfl 0 rfl ?_
  refine x_iload_n dX6_decides_1 rfl 1 rfl ?_
  refine x_iload_n dX6_decides_2 rfl 2 rfl ?_
  obtain ⟨z1, s1, h1, h⟩ := x_b_e h
  refine x_callV (As := [.int a1, .int a2]) (st := []) (eX6_early hw  h1) cv_X6_116 (Nat.le_of_ble_eq_true rfl) (ok_e30 hw) rfl (Nat.le_of_ble_eq_true rfl) _ rfl dX6_decides_3 [.int z1] rfl ?_
  refine x_istore_n z1 rfl dX6_decides_6 rfl (Nat.le_of_ble_eq_true rfl) [(3, .int z1), (0, .ref (w.2.2 5 30 0 0)), (1, .int a1), (2, .int a2)] rfl ?_
  refine x_iload_n dX6_decides_7 rfl 0 rfl ?_
  refine x_if_le (tgt := 13) dX6_decides_8 rfl (fun hc => ?_) (fun hc => ?_)
  · have h := x_t hc h
    refine x_iload_n dX6_decides_13 rfl 2 rfl ?_
    refine x_iconst (x := 3) dX6_decides_14 rfl ?_
    refine x_idiv dX6_decides_15 (by decide) ?_
    obtain ⟨t2, ht2, h⟩ := x_let_e h
    refine x_istore t2 ht2 dX6_decides_16 (Nat.le_of_ble_eq_true rfl) [(4, .int t2), (3, .int z1), (0, .ref (w.2.2 5 30 0 0)), (1, .int a1), (2, .int a2)] rfl ?_
    refine x_iload_n dX6_decides_18 rfl 4 rfl ?_
    refine x_iload_n dX6_decides_19 rfl 4 rfl ?_
    refine x_aload_n dX6_decides_20 rfl 2 rfl ?_
    refine x_iload dX6_decides_21 0 rfl ?_
    obtain ⟨z3, s3, h3, h⟩ := x_b_e h
    refine x_callV (As := [.int t2]) (st := [.int a2, .int a2]) (eX6_freeOf hw  h3) cv_X6_65 (Nat.le_of_ble_eq_true rfl) (ok_e30 hw) rfl (Nat.le_of_ble_eq_true rfl) _ rfl dX6_decides_23 [.int z3, .int a2, .int a2] rfl ?_
    obtain ⟨z4, s4, h4, h⟩ := x_b_e h
    refine x_callS (As := [.int a2, .int z3]) (st := [.int a2]) (eX6_least hw  h4) cs_X6_68 (Nat.le_of_ble_eq_true rfl) rfl (Nat.le_of_ble_eq_true rfl) _ rfl dX6_decides_26 [.int z4, .int a2] rfl ?_
    refine x_isub dX6_decides_29 ?_
    obtain ⟨t5, ht5, h⟩ := x_let_e h
    refine x_istore t5 ht5 dX6_decides_30 (Nat.le_of_ble_eq_true rfl) [(5, .int t5), (4, .int t2), (3, .int z1), (0, .ref (w.2.2 5 30 0 0)), (1, .int a1), (2, .int a2)] rfl ?_
    refine x_aload_n dX6_decides_32 rfl 3 rfl ?_
    refine x_getR (d1 := 5) (K1 := 31) (p1 := 0) (r1 := 0) fl_X6_7 (ok_e30 hw) rfl dX6_decides_33 ?_
    refine x_iload_n dX6_decides_36 rfl 4 rfl ?_
    refine x_bipush (x := 9) dX6_decides_37 rfl ?_
    obtain ⟨z6, s6, h6, h⟩ := x_b_e h
    refine x_callS (As := [.int a1, .int 9]) (st := [.ref (w.2.2 5 31 0 0)]) (eX6_queue hw  h6) cs_X6_48 (Nat.le_of_ble_eq_true rfl) rfl (Nat.le_of_ble_eq_true rfl) _ rfl dX6_decides_39 [.int z6, .ref (w.2.2 5 31 0 0)] rfl ?_
    obtain ⟨hg7, h⟩ := x_g_e h
    refine x_iald 6464 z6.toNatClampNeg rfl rfl rfl rfl (ok_e31 hw) hg7 dX6_decides_42 ?_
    refine x_if_ne (tgt := 56) dX6_decides_43 rfl (fun hc => ?_) (fun hc => ?_)
    · have h := x_f hc h
      refine x_iload dX6_decides_56 0 rfl ?_
      refine x_aload_n dX6_decides_58 rfl 3 rfl ?_
      refine x_getR (d1 := 5) (K1 := 31) (p1 := 0) (r1 := 0) fl_X6_7 (ok_e30 hw) rfl dX6_decides_59 ?_
      refine x_iload dX6_decides_62 1 rfl ?_
      refine x_iconst (x := 1) dX6_decides_64 rfl ?_
      obtain ⟨z8, s8, h8, h⟩ := x_b_e h
      refine x_callS (As := [.int t2, .int 1]) (st := [.ref (w.2.2 5 31 0 0), .int t5]) (eX6_port hw  h8) cs_X6_44 (Nat.le_of_ble_eq_true rfl) rfl (Nat.le_of_ble_eq_true rfl) _ rfl dX6_decides_65 [.int z8, .ref (w.2.2 5 31 0 0), .int t5] rfl ?_
      obtain ⟨hg9, h⟩ := x_g_e h
      refine x_iald 6464 z8.toNatClampNeg rfl rfl rfl rfl (ok_e31 hw) hg9 dX6_decides_68 ?_
      refine x_aload_n dX6_decides_69 rfl 3 rfl ?_
      refine x_iload dX6_decides_70 1 rfl ?_
      refine x_bipush (x := 8) dX6_decides_72 rfl ?_
      obtain ⟨z10, s10, h10, h⟩ := x_b_e h
      refine x_callV (As := [.int t2, .int 8]) (st := [.int (s8 5 31 0 0 z8.toNatClampNeg), .int t5]) (eX6_sum hw  h10) cv_X6_59 (Nat.le_of_ble_eq_true rfl) (ok_e30 hw) rfl (Nat.le_of_ble_eq_true rfl) _ rfl dX6_decides_74 [.int z10, .int (s8 5 31 0 0 z8.toNatClampNeg), .int t5] rfl ?_
      refine x_isub dX6_decides_77 ?_
      refine x_icmp_le (tgt := 91) dX6_decides_78 rfl (fun hc => ?_) (fun hc => ?_)
      · have h := x_t hc h
        refine x_iconst (x := 3) dX6_decides_91 rfl ?_
        exact x_iretH rfl dX6_decides_92 h
      · have h := x_f hc h
        refine x_aload_n dX6_decides_81 rfl 3 rfl ?_
        refine x_getR (d1 := 5) (K1 := 36) (p1 := 0) (r1 := 0) fl_X6_26 (ok_e30 hw) rfl dX6_decides_82 ?_
        refine x_iconst (x := 3) dX6_decides_85 rfl ?_
        refine x_iconst (x := 5) dX6_decides_86 rfl ?_
        obtain ⟨s11, hs11, h⟩ := x_let_e h
        refine x_iast 5 3 rfl s11 hs11 rfl rfl rfl (ok_e36 hw) rfl dX6_decides_87 ?_
        refine x_goto (tgt := 93) dX6_decides_88 rfl ?_
        refine x_sub (L1 := [(0, .ref (w.2.2 5 30 0 0)), (1, .int a1), (2, .int a2)]) [3, 4, 5] rfl ?_
        exact TX6_decides_93 hw  h
    · have h := x_t hc h
      refine x_aload_n dX6_decides_46 rfl 3 rfl ?_
      refine x_getR (d1 := 5) (K1 := 36) (p1 := 0) (r1 := 0) fl_X6_26 (ok_e30 hw) rfl dX6_decides_47 ?_
      refine x_iconst (x := 3) dX6_decides_50 rfl ?_
      refine x_iconst (x := 4) dX6_decides_51 rfl ?_
      obtain ⟨s14, hs14, h⟩ := x_let_e h
      refine x_iast 5 3 rfl s14 hs14 rfl rfl rfl (ok_e36 hw) rfl dX6_decides_52 ?_
      refine x_goto (tgt := 93) dX6_decides_53 rfl ?_
      refine x_sub (L1 := [(0, .ref (w.2.2 5 30 0 0)), (1, .int a1), (2, .int a2)]) [3, 4, 5] rfl ?_
      exact TX6_decides_93 hw  h
  · have h := x_f hc h
    refine x_iload_n dX6_decides_11 rfl 0 rfl ?_
    exact x_iretH rfl dX6_decides_12 h
set_option maxRecDepth 100000 in
set_option maxHeartbeats 4000000 in
theorem TX6_counts_65 {l : Launch} {w : xW} (hw : w.1.2 = true) {a1 : Int32} {a3 : Int32} {a4 : Int32} {a5 : Int32} {σ τ : xS} {r : Unit} (h : BX6_counts_65 a1 a3 a4 a5 σ = some (r, τ)) : xAt l w mX6_counts 65 [(0, .ref (w.2.2 5 30 0 0)), (1, .int a1), (3, .int a3), (4, .int a4), (5, .int a5)] [] σ none τ := by
  rw [BX6_counts_65] at h
  refine x_aload_n dX6_counts_65 rfl 0 rfl ?_
  refine x_getR (d1 := 5) (K1 := 31) (p1 := 0) (r1 := 0) fl_X6_7 (ok_e30 hw) rfl dX6_counts_66 ?_
  refine x_iload_n dX6_counts_69 rfl 1 rfl ?_
  refine x_bipush (x := 6) dX6_counts_70 rfl ?_
  obtain ⟨z4, s4, h4, h⟩ := x_b_e h
  refine x_callS (As := [.int a1, .int 6]) (st := [.ref (w.2.2 5 31 0 0)]) (eX6_queue hw  h4) cs_X6_48 (Nat.le_of_ble_eq_true rfl) rfl (Nat.le_of_ble_eq_true rfl) _ rfl dX6_counts_72 [.int z4, .ref (w.2.2 5 31 0 0)] rfl ?_
  refine x_dup2 dX6_counts_75 rfl rfl ?_
  obtain ⟨hg5, h⟩ := x_g_e h
  refine x_iald 6464 z4.toNatClampNeg rfl rfl rfl rfl (ok_e31 hw) hg5 dX6_counts_76 ?_
  refine x_iload dX6_counts_77 3 rfl ?_
  refine x_iadd dX6_counts_79 ?_
  obtain ⟨hg6, h⟩ := x_g_e h
  obtain ⟨s7, hs7, h⟩ := x_let_e h
  refine x_iast 6464 z4.toNatClampNeg rfl s7 hs7 rfl rfl rfl (ok_e31 hw) hg6 dX6_counts_80 ?_
  refine x_iload_n dX6_counts_81 rfl 2 rfl ?_
  refine x_iconst (x := 3) dX6_counts_82 rfl ?_
  refine x_icmp_ne (tgt := 144) dX6_counts_83 rfl (fun hc => ?_) (fun hc => ?_)
  · have h := x_f hc h
    refine x_aload_n dX6_counts_144 rfl 0 rfl ?_
    refine x_getR (d1 := 5) (K1 := 31) (p1 := 0) (r1 := 0) fl_X6_7 (ok_e30 hw) rfl dX6_counts_145 ?_
    refine x_iload_n dX6_counts_148 rfl 1 rfl ?_
    refine x_bipush (x := 7) dX6_counts_149 rfl ?_
    obtain ⟨z8, s8, h8, h⟩ := x_b_e h
    refine x_callS (As := [.int a1, .int 7]) (st := [.ref (w.2.2 5 31 0 0)]) (eX6_queue hw  h8) cs_X6_48 (Nat.le_of_ble_eq_true rfl) rfl (Nat.le_of_ble_eq_true rfl) _ rfl dX6_counts_151 [.int z8, .ref (w.2.2 5 31 0 0)] rfl ?_
    refine x_dup2 dX6_counts_154 rfl rfl ?_
    obtain ⟨hg9, h⟩ := x_g_e h
    refine x_iald 6464 z8.toNatClampNeg rfl rfl rfl rfl (ok_e31 hw) hg9 dX6_counts_155 ?_
    refine x_iload dX6_counts_156 4 rfl ?_
    refine x_iadd dX6_counts_158 ?_
    obtain ⟨hg10, h⟩ := x_g_e h
    obtain ⟨s11, hs11, h⟩ := x_let_e h
    refine x_iast 6464 z8.toNatClampNeg rfl s11 hs11 rfl rfl rfl (ok_e31 hw) hg10 dX6_counts_159 ?_
    exact x_vretH rfl dX6_counts_160 h
  · have h := x_t hc h
    refine x_aload_n dX6_counts_86 rfl 0 rfl ?_
    refine x_getR (d1 := 5) (K1 := 31) (p1 := 0) (r1 := 0) fl_X6_7 (ok_e30 hw) rfl dX6_counts_87 ?_
    refine x_iload_n dX6_counts_90 rfl 1 rfl ?_
    refine x_bipush (x := 8) dX6_counts_91 rfl ?_
    obtain ⟨z12, s12, h12, h⟩ := x_b_e h
    refine x_callS (As := [.int a1, .int 8]) (st := [.ref (w.2.2 5 31 0 0)]) (eX6_queue hw  h12) cs_X6_48 (Nat.le_of_ble_eq_true rfl) rfl (Nat.le_of_ble_eq_true rfl) _ rfl dX6_counts_93 [.int z12, .ref (w.2.2 5 31 0 0)] rfl ?_
    refine x_dup2 dX6_counts_96 rfl rfl ?_
    obtain ⟨hg13, h⟩ := x_g_e h
    refine x_iald 6464 z12.toNatClampNeg rfl rfl rfl rfl (ok_e31 hw) hg13 dX6_counts_97 ?_
    refine x_iload dX6_counts_98 4 rfl ?_
    refine x_iadd dX6_counts_100 ?_
    obtain ⟨hg14, h⟩ := x_g_e h
    obtain ⟨s15, hs15, h⟩ := x_let_e h
    refine x_iast 6464 z12.toNatClampNeg rfl s15 hs15 rfl rfl rfl (ok_e31 hw) hg14 dX6_counts_101 ?_
    refine x_aload_n dX6_counts_102 rfl 0 rfl ?_
    refine x_getR (d1 := 5) (K1 := 31) (p1 := 0) (r1 := 0) fl_X6_7 (ok_e30 hw) rfl dX6_counts_103 ?_
    refine x_iload_n dX6_counts_106 rfl 1 rfl ?_
    refine x_bipush (x := 11) dX6_counts_107 rfl ?_
    obtain ⟨z16, s16, h16, h⟩ := x_b_e h
    refine x_callS (As := [.int a1, .int 11]) (st := [.ref (w.2.2 5 31 0 0)]) (eX6_queue hw  h16) cs_X6_48 (Nat.le_of_ble_eq_true rfl) rfl (Nat.le_of_ble_eq_true rfl) _ rfl dX6_counts_109 [.int z16, .ref (w.2.2 5 31 0 0)] rfl ?_
    refine x_dup2 dX6_counts_112 rfl rfl ?_
    obtain ⟨hg17, h⟩ := x_g_e h
    refine x_iald 6464 z16.toNatClampNeg rfl rfl rfl rfl (ok_e31 hw) hg17 dX6_counts_113 ?_
    refine x_iconst (x := 1) dX6_counts_114 rfl ?_
    refine x_aload_n dX6_counts_115 rfl 0 rfl ?_
    refine x_getR (d1 := 5) (K1 := 31) (p1 := 0) (r1 := 0) fl_X6_7 (ok_e30 hw) rfl dX6_counts_116 ?_
    refine x_iload_n dX6_counts_119 rfl 1 rfl ?_
    refine x_bipush (x := 10) dX6_counts_120 rfl ?_
    obtain ⟨z18, s18, h18, h⟩ := x_b_e h
    refine x_callS (As := [.int a1, .int 10]) (st := [.ref (w.2.2 5 31 0 0), .int 1, .int (s16 5 31 0 0 z16.toNatClampNeg), .int z16, .ref (w.2.2 5 31 0 0)]) (eX6_queue hw  h18) cs_X6_48 (Nat.le_of_ble_eq_true rfl) rfl (Nat.le_of_ble_eq_true rfl) _ rfl dX6_counts_122 [.int z18, .ref (w.2.2 5 31 0 0), .int 1, .int (s16 5 31 0 0 z16.toNatClampNeg), .int z16, .ref (w.2.2 5 31 0 0)] rfl ?_
    obtain ⟨hg19, h⟩ := x_g_e h
    refine x_iald 6464 z18.toNatClampNeg rfl rfl rfl rfl (ok_e31 hw) hg19 dX6_counts_125 ?_
    refine x_isub dX6_counts_126 ?_
    refine x_iadd dX6_counts_127 ?_
    obtain ⟨hg20, h⟩ := x_g_e h
    obtain ⟨s21, hs21, h⟩ := x_let_e h
    refine x_iast 6464 z16.toNatClampNeg rfl s21 hs21 rfl rfl rfl (ok_e31 hw) hg20 dX6_counts_128 ?_
    refine x_aload_n dX6_counts_129 rfl 0 rfl ?_
    refine x_getR (d1 := 5) (K1 := 31) (p1 := 0) (r1 := 0) fl_X6_7 (ok_e30 hw) rfl dX6_counts_130 ?_
    refine x_iload_n dX6_counts_133 rfl 1 rfl ?_
    refine x_bipush (x := 10) dX6_counts_134 rfl ?_
    obtain ⟨z22, s22, h22, h⟩ := x_b_e h
    refine x_callS (As := [.int a1, .int 10]) (st := [.ref (w.2.2 5 31 0 0)]) (eX6_queue hw  h22) cs_X6_48 (Nat.le_of_ble_eq_true rfl) rfl (Nat.le_of_ble_eq_true rfl) _ rfl dX6_counts_136 [.int z22, .ref (w.2.2 5 31 0 0)] rfl ?_
    refine x_iconst (x := 1) dX6_counts_139 rfl ?_
    obtain ⟨hg23, h⟩ := x_g_e h
    obtain ⟨s24, hs24, h⟩ := x_let_e h
    refine x_iast 6464 z22.toNatClampNeg rfl s24 hs24 rfl rfl rfl (ok_e31 hw) hg23 dX6_counts_140 ?_
    refine x_goto (tgt := 160) dX6_counts_141 rfl ?_
    exact x_vretH rfl dX6_counts_160 h
set_option maxRecDepth 100000 in
set_option maxHeartbeats 4000000 in
theorem eX6_counts {l : Launch} {w : xW} (hw : w.1.2 = true) {a1 : Int32} {a2 : Int32} {a3 : Int32} {σ τ : xS} {r : Unit} (h : fX6_counts a1 a2 a3 σ = some (r, τ)) : xEV l w yX6_counts mX6_counts [.ref (w.2.2 5 30 0 0), .int a1, .int a2, .int a3] σ none τ := by
  rw [fX6_counts] at h
  refine x_enter (by decide +kernel) rfl (Nat.le_of_ble_eq_true rfl) ?_
  refine x_sub (L1 := [(0, .ref (w.2.2 5 30 0 0)), (1, .int a1), (2, .int a2), (3, .int a3)]) [0, 1, 2, 3] rfl ?_
  refine x_iload_n dX6_counts_0 rfl 2 rfl ?_
  refine x_aload_n dX6_counts_1 rfl 0 rfl ?_
  refine x_iload_n dX6_counts_2 rfl 1 rfl ?_
  refine x_iconst (x := 3) dX6_counts_3 rfl ?_
  refine x_idiv dX6_counts_4 (by decide) ?_
  obtain ⟨z1, s1, h1, h⟩ := x_b_e h
  refine x_callV (As := [.int (a1 / 3)]) (st := [.int a2]) (eX6_freeOf hw  h1) cv_X6_65 (Nat.le_of_ble_eq_true rfl) (ok_e30 hw) rfl (Nat.le_of_ble_eq_true rfl) _ rfl dX6_counts_5 [.int z1, .int a2] rfl ?_
  obtain ⟨z2, s2, h2, h⟩ := x_b_e h
  refine x_callS (As := [.int a2, .int z1]) (st := []) (eX6_least hw  h2) cs_X6_68 (Nat.le_of_ble_eq_true rfl) rfl (Nat.le_of_ble_eq_true rfl) _ rfl dX6_counts_8 [.int z2] rfl ?_
  refine x_istore z2 rfl dX6_counts_11 (Nat.le_of_ble_eq_true rfl) [(4, .int z2), (0, .ref (w.2.2 5 30 0 0)), (1, .int a1), (2, .int a2), (3, .int a3)] rfl ?_
  refine x_iload_n dX6_counts_13 rfl 3 rfl ?_
  refine x_iload dX6_counts_14 0 rfl ?_
  refine x_isub dX6_counts_16 ?_
  obtain ⟨t3, ht3, h⟩ := x_let_e h
  refine x_istore t3 ht3 dX6_counts_17 (Nat.le_of_ble_eq_true rfl) [(5, .int t3), (4, .int z2), (0, .ref (w.2.2 5 30 0 0)), (1, .int a1), (2, .int a2), (3, .int a3)] rfl ?_
  refine x_iload_n dX6_counts_19 rfl 5 rfl ?_
  refine x_iconst (x := 2) dX6_counts_20 rfl ?_
  refine x_icmp_ne (tgt := 65) dX6_counts_21 rfl (fun hc => ?_) (fun hc => ?_)
  · have h := x_f hc h
    refine x_sub (L1 := [(0, .ref (w.2.2 5 30 0 0)), (1, .int a1), (3, .int a3), (4, .int z2), (5, .int t3)]) [2, 3, 5, 1, 0] rfl ?_
    exact TX6_counts_65 hw  h
  · have h := x_t hc h
    refine x_aload_n dX6_counts_24 rfl 2 rfl ?_
    refine x_getR (d1 := 5) (K1 := 31) (p1 := 0) (r1 := 0) fl_X6_7 (ok_e30 hw) rfl dX6_counts_25 ?_
    refine x_iload_n dX6_counts_28 rfl 3 rfl ?_
    refine x_bipush (x := 7) dX6_counts_29 rfl ?_
    obtain ⟨z25, s25, h25, h⟩ := x_b_e h
    refine x_callS (As := [.int a1, .int 7]) (st := [.ref (w.2.2 5 31 0 0)]) (eX6_queue hw  h25) cs_X6_48 (Nat.le_of_ble_eq_true rfl) rfl (Nat.le_of_ble_eq_true rfl) _ rfl dX6_counts_31 [.int z25, .ref (w.2.2 5 31 0 0)] rfl ?_
    obtain ⟨hg26, h⟩ := x_g_e h
    refine x_iald 6464 z25.toNatClampNeg rfl rfl rfl rfl (ok_e31 hw) hg26 dX6_counts_34 ?_
    refine x_iload dX6_counts_35 0 rfl ?_
    refine x_iadd dX6_counts_37 ?_
    refine x_aload_n dX6_counts_38 rfl 2 rfl ?_
    refine x_iload_n dX6_counts_39 rfl 3 rfl ?_
    obtain ⟨z27, s27, h27, h⟩ := x_b_e h
    refine x_callV (As := [.int a1]) (st := [.int ((s25 5 31 0 0 z25.toNatClampNeg) + t3)]) (eX6_limit hw  h27) cv_X6_113 (Nat.le_of_ble_eq_true rfl) (ok_e30 hw) rfl (Nat.le_of_ble_eq_true rfl) _ rfl dX6_counts_40 [.int z27, .int ((s25 5 31 0 0 z25.toNatClampNeg) + t3)] rfl ?_
    refine x_isub dX6_counts_43 ?_
    obtain ⟨t28, ht28, h⟩ := x_let_e h
    refine x_istore t28 ht28 dX6_counts_44 (Nat.le_of_ble_eq_true rfl) [(6, .int t28), (5, .int t3), (4, .int z2), (0, .ref (w.2.2 5 30 0 0)), (1, .int a1), (2, .int a2), (3, .int a3)] rfl ?_
    refine x_aload_n dX6_counts_46 rfl 3 rfl ?_
    refine x_getR (d1 := 5) (K1 := 31) (p1 := 0) (r1 := 0) fl_X6_7 (ok_e30 hw) rfl dX6_counts_47 ?_
    refine x_iload_n dX6_counts_50 rfl 4 rfl ?_
    refine x_iconst (x := 3) dX6_counts_51 rfl ?_
    obtain ⟨z29, s29, h29, h⟩ := x_b_e h
    refine x_callS (As := [.int a1, .int 3]) (st := [.ref (w.2.2 5 31 0 0)]) (eX6_queue hw  h29) cs_X6_48 (Nat.le_of_ble_eq_true rfl) rfl (Nat.le_of_ble_eq_true rfl) _ rfl dX6_counts_52 [.int z29, .ref (w.2.2 5 31 0 0)] rfl ?_
    refine x_dup2 dX6_counts_55 rfl rfl ?_
    obtain ⟨hg30, h⟩ := x_g_e h
    refine x_iald 6464 z29.toNatClampNeg rfl rfl rfl rfl (ok_e31 hw) hg30 dX6_counts_56 ?_
    refine x_iconst (x := 0) dX6_counts_57 rfl ?_
    refine x_iload dX6_counts_58 0 rfl ?_
    obtain ⟨z31, s31, h31, h⟩ := x_b_e h
    refine x_callS (As := [.int 0, .int t28]) (st := [.int (s29 5 31 0 0 z29.toNatClampNeg), .int z29, .ref (w.2.2 5 31 0 0)]) (eX6_most hw  h31) cs_X6_129 (Nat.le_of_ble_eq_true rfl) rfl (Nat.le_of_ble_eq_true rfl) _ rfl dX6_counts_60 [.int z31, .int (s29 5 31 0 0 z29.toNatClampNeg), .int z29, .ref (w.2.2 5 31 0 0)] rfl ?_
    refine x_isub dX6_counts_63 ?_
    obtain ⟨hg32, h⟩ := x_g_e h
    obtain ⟨s33, hs33, h⟩ := x_let_e h
    refine x_iast 6464 z29.toNatClampNeg rfl s33 hs33 rfl rfl rfl (ok_e31 hw) hg32 dX6_counts_64 ?_
    refine x_sub (L1 := [(0, .ref (w.2.2 5 30 0 0)), (1, .int a1), (3, .int a3), (4, .int z2), (5, .int t3)]) [3, 4, 6, 2, 1] rfl ?_
    exact TX6_counts_65 hw  h
set_option maxRecDepth 100000 in
set_option maxHeartbeats 4000000 in
theorem TX6_removesVictims_17 {l : Launch} {w : xW} (hw : w.1.2 = true) {a1 : Int32} {a3 : Int32} {k13 : Int32 → Int32 → xS → Option (Unit × xS)} {τ : xS} {r : Unit} (hk13 : ∀ (a2 : Int32) (a3 : Int32) (σ1 : xS), k13 a2 a3 σ1 = some (r, τ) → xAt l w mX6_removesVictims 13 [(0, .ref (w.2.2 5 30 0 0)), (1, .int a1), (2, .int a2), (3, .int a3)] [] σ1 none τ) : ∀ (n : Nat) (a2 : Int32) (σ : xS), BX6_removesVictims_17 a1 a3 k13 n a2 σ = some (r, τ) → xAt l w mX6_removesVictims 17 [(0, .ref (w.2.2 5 30 0 0)), (1, .int a1), (2, .int a2), (3, .int a3)] [] σ none τ := by
  intro n
  induction n with
  | zero => intro a2 σ h; cases h
  | succ n ih =>
    intro a2 σ h
    rw [BX6_removesVictims_17] at h
    refine x_iload_n dX6_removesVictims_17 rfl 2 rfl ?_
    refine x_if_le (tgt := 77) dX6_removesVictims_18 rfl (fun hc => ?_) (fun hc => ?_)
    · have h := x_t hc h
      obtain ⟨t3, ht3, h⟩ := x_let_e h
      refine x_iinc t3 (-1) (by decide) ht3 dX6_removesVictims_77 3 rfl (Nat.le_of_ble_eq_true rfl) [(3, .int t3), (0, .ref (w.2.2 5 30 0 0)), (1, .int a1), (2, .int a2)] rfl ?_
      refine x_goto (tgt := 13) dX6_removesVictims_80 rfl ?_
      refine x_sub (L1 := [(0, .ref (w.2.2 5 30 0 0)), (1, .int a1), (2, .int a2), (3, .int t3)]) [1, 2, 3, 0] rfl ?_
      exact hk13 _ _ _ h
    · have h := x_f hc h
      refine x_aload_n dX6_removesVictims_21 rfl 0 rfl ?_
      refine x_getR (d1 := 5) (K1 := 31) (p1 := 0) (r1 := 0) fl_X6_7 (ok_e30 hw) rfl dX6_removesVictims_22 ?_
      refine x_iload_n dX6_removesVictims_25 rfl 3 rfl ?_
      refine x_bipush (x := 12) dX6_removesVictims_26 rfl ?_
      obtain ⟨z4, s4, h4, h⟩ := x_b_e h
      refine x_callS (As := [.int a3, .int 12]) (st := [.ref (w.2.2 5 31 0 0)]) (eX6_queue hw  h4) cs_X6_48 (Nat.le_of_ble_eq_true rfl) rfl (Nat.le_of_ble_eq_true rfl) _ rfl dX6_removesVictims_28 [.int z4, .ref (w.2.2 5 31 0 0)] rfl ?_
      obtain ⟨hg5, h⟩ := x_g_e h
      refine x_iald 6464 z4.toNatClampNeg rfl rfl rfl rfl (ok_e31 hw) hg5 dX6_removesVictims_31 ?_
      refine x_if_le (tgt := 77) dX6_removesVictims_32 rfl (fun hc => ?_) (fun hc => ?_)
      · have h := x_t hc h
        obtain ⟨t6, ht6, h⟩ := x_let_e h
        refine x_iinc t6 (-1) (by decide) ht6 dX6_removesVictims_77 3 rfl (Nat.le_of_ble_eq_true rfl) [(3, .int t6), (0, .ref (w.2.2 5 30 0 0)), (1, .int a1), (2, .int a2)] rfl ?_
        refine x_goto (tgt := 13) dX6_removesVictims_80 rfl ?_
        refine x_sub (L1 := [(0, .ref (w.2.2 5 30 0 0)), (1, .int a1), (2, .int a2), (3, .int t6)]) [1, 2, 3, 0] rfl ?_
        exact hk13 _ _ _ h
      · have h := x_f hc h
        refine x_aload_n dX6_removesVictims_35 rfl 0 rfl ?_
        refine x_iload_n dX6_removesVictims_36 rfl 3 rfl ?_
        refine x_aload_n dX6_removesVictims_37 rfl 0 rfl ?_
        refine x_getR (d1 := 5) (K1 := 31) (p1 := 0) (r1 := 0) fl_X6_7 (ok_e30 hw) rfl dX6_removesVictims_38 ?_
        refine x_iload_n dX6_removesVictims_41 rfl 3 rfl ?_
        refine x_bipush (x := 12) dX6_removesVictims_42 rfl ?_
        obtain ⟨z7, s7, h7, h⟩ := x_b_e h
        refine x_callS (As := [.int a3, .int 12]) (st := [.ref (w.2.2 5 31 0 0), .int a3, .ref (w.2.2 5 30 0 0)]) (eX6_queue hw  h7) cs_X6_48 (Nat.le_of_ble_eq_true rfl) rfl (Nat.le_of_ble_eq_true rfl) _ rfl dX6_removesVictims_44 [.int z7, .ref (w.2.2 5 31 0 0), .int a3, .ref (w.2.2 5 30 0 0)] rfl ?_
        obtain ⟨hg8, h⟩ := x_g_e h
        refine x_iald 6464 z7.toNatClampNeg rfl rfl rfl rfl (ok_e31 hw) hg8 dX6_removesVictims_47 ?_
        refine x_iconst (x := 1) dX6_removesVictims_48 rfl ?_
        refine x_isub dX6_removesVictims_49 ?_
        obtain ⟨z9, s9, h9, h⟩ := x_b_e h
        refine x_callV (As := [.int a3, .int ((s7 5 31 0 0 z7.toNatClampNeg) - 1)]) (st := []) (eX6_leaves hw  h9) cv_X6_132 (Nat.le_of_ble_eq_true rfl) (ok_e30 hw) rfl (Nat.le_of_ble_eq_true rfl) _ rfl dX6_removesVictims_50 [.int z9] rfl ?_
        refine x_istore z9 rfl dX6_removesVictims_53 (Nat.le_of_ble_eq_true rfl) [(4, .int z9), (0, .ref (w.2.2 5 30 0 0)), (1, .int a1), (2, .int a2), (3, .int a3)] rfl ?_
        refine x_aload_n dX6_removesVictims_55 rfl 1 rfl ?_
        refine x_iload_n dX6_removesVictims_56 rfl 4 rfl ?_
        obtain ⟨z10, s10, h10, h⟩ := x_b_e h
        refine x_callV (As := [.int a3]) (st := []) (eX6_settles hw  h10) cv_X6_135 (Nat.le_of_ble_eq_true rfl) (ok_e30 hw) rfl (Nat.le_of_ble_eq_true rfl) _ rfl dX6_removesVictims_57 [] rfl ?_
        refine x_aload_n dX6_removesVictims_60 rfl 1 rfl ?_
        refine x_iload_n dX6_removesVictims_61 rfl 2 rfl ?_
        refine x_iconst (x := 3) dX6_removesVictims_62 rfl ?_
        refine x_idiv dX6_removesVictims_63 (by decide) ?_
        refine x_bipush (x := 8) dX6_removesVictims_64 rfl ?_
        refine x_iload dX6_removesVictims_66 0 rfl ?_
        obtain ⟨z11, s11, h11, h⟩ := x_b_e h
        refine x_callV (As := [.int (a1 / 3), .int 8, .int z9]) (st := []) (eX6_loses hw  h11) cv_X6_138 (Nat.le_of_ble_eq_true rfl) (ok_e30 hw) rfl (Nat.le_of_ble_eq_true rfl) _ rfl dX6_removesVictims_68 [] rfl ?_
        obtain ⟨t12, ht12, h⟩ := x_let_e h
        refine x_iinc t12 (-1) (by decide) ht12 dX6_removesVictims_71 3 rfl (Nat.le_of_ble_eq_true rfl) [(2, .int t12), (4, .int z9), (0, .ref (w.2.2 5 30 0 0)), (1, .int a1), (3, .int a3)] rfl ?_
        refine x_goto (tgt := 17) dX6_removesVictims_74 rfl ?_
        refine x_sub (L1 := [(0, .ref (w.2.2 5 30 0 0)), (1, .int a1), (2, .int t12), (3, .int a3)]) [2, 3, 0, 4] rfl ?_
        exact ih _ _ h
set_option maxRecDepth 100000 in
set_option maxHeartbeats 4000000 in
theorem TX6_removesVictims_13 {l : Launch} {w : xW} (hw : w.1.2 = true) {a1 : Int32} {τ : xS} {r : Unit} : ∀ (n : Nat) (a2 : Int32) (a3 : Int32) (σ : xS), BX6_removesVictims_13 a1 n a2 a3 σ = some (r, τ) → xAt l w mX6_removesVictims 13 [(0, .ref (w.2.2 5 30 0 0)), (1, .int a1), (2, .int a2), (3, .int a3)] [] σ none τ := by
  intro n
  induction n with
  | zero => intro a2 a3 σ h; cases h
  | succ n ih =>
    intro a2 a3 σ h
    rw [BX6_removesVictims_13] at h
    refine x_iload_n dX6_removesVictims_13 rfl 2 rfl ?_
    refine x_if_le (tgt := 83) dX6_removesVictims_14 rfl (fun hc => ?_) (fun hc => ?_)
    · have h := x_t hc h
      exact x_vretH rfl dX6_removesVictims_83 h
    · have h := x_f hc h
      refine x_sub (L1 := [(0, .ref (w.2.2 5 30 0 0)), (1, .int a1), (2, .int a2), (3, .int a3)]) [0, 1, 2, 3] rfl ?_
      exact TX6_removesVictims_17 hw ih _ _ _ h
set_option maxRecDepth 100000 in
set_option maxHeartbeats 4000000 in
theorem eX6_removesVictims {l : Launch} {w : xW} (hw : w.1.2 = true) {a1 : Int32} {σ τ : xS} {r : Unit} (h : fX6_removesVictims a1 σ = some (r, τ)) : xEV l w yX6_removesVictims mX6_removesVictims [.ref (w.2.2 5 30 0 0), .int a1] σ none τ := by
  rw [fX6_removesVictims] at h
  refine x_enter (by decide +kernel) rfl (Nat.le_of_ble_eq_true rfl) ?_
  refine x_sub (L1 := [(0, .ref (w.2.2 5 30 0 0)), (1, .int a1)]) [0, 1] rfl ?_
  refine x_aload_n dX6_removesVictims_0 rfl 0 rfl ?_
  refine x_getI fl_X6_125 (ok_e30 hw) rfl dX6_removesVictims_1 ?_
  obtain ⟨t1, ht1, h⟩ := x_let_e h
  refine x_istore_n t1 ht1 dX6_removesVictims_4 rfl (Nat.le_of_ble_eq_true rfl) [(2, .int t1), (0, .ref (w.2.2 5 30 0 0)), (1, .int a1)] rfl ?_
  refine x_iconst (x := 3) dX6_removesVictims_5 rfl ?_
  refine x_iload_n dX6_removesVictims_6 rfl 2 rfl ?_
  refine x_iconst (x := 3) dX6_removesVictims_7 rfl ?_
  refine x_idiv dX6_removesVictims_8 (by decide) ?_
  refine x_imul dX6_removesVictims_9 ?_
  refine x_iconst (x := 2) dX6_removesVictims_10 rfl ?_
  refine x_iadd dX6_removesVictims_11 ?_
  obtain ⟨t2, ht2, h⟩ := x_let_e h
  refine x_istore_n t2 ht2 dX6_removesVictims_12 rfl (Nat.le_of_ble_eq_true rfl) [(3, .int t2), (2, .int t1), (0, .ref (w.2.2 5 30 0 0)), (1, .int a1)] rfl ?_
  refine x_sub (L1 := [(0, .ref (w.2.2 5 30 0 0)), (1, .int a1), (2, .int t1), (3, .int t2)]) [2, 3, 1, 0] rfl ?_
  exact TX6_removesVictims_13 hw _ _ _ _ h
set_option maxRecDepth 100000 in
set_option maxHeartbeats 4000000 in
theorem TX6_arrives_105 {l : Launch} {w : xW} (hw : w.1.2 = true) {a1 : Int32} {a2 : Int32} {a3 : Int32} {σ τ : xS} {r : Int32} (h : BX6_arrives_105 a1 a2 a3 σ = some (r, τ)) : xAt l w mX6_arrives 105 [(0, .ref (w.2.2 5 30 0 0)), (1, .int a1), (2, .int a2), (3, .int a3)] [] σ (some (.int r)) τ := by
  rw [BX6_arrives_105] at h
  refine x_aload_n dX6_arrives_105 rfl 0 rfl ?_
  refine x_iload_n dX6_arrives_106 rfl 1 rfl ?_
  refine x_iload_n dX6_arrives_107 rfl 2 rfl ?_
  refine x_iload_n dX6_arrives_108 rfl 3 rfl ?_
  obtain ⟨z2, s2, h2, h⟩ := x_b_e h
  refine x_callV (As := [.int a1, .int a2, .int a3]) (st := []) (eX6_counts hw  h2) cv_X6_148 (Nat.le_of_ble_eq_true rfl) (ok_e30 hw) rfl (Nat.le_of_ble_eq_true rfl) _ rfl dX6_arrives_109 [] rfl ?_
  refine x_aload_n dX6_arrives_112 rfl 0 rfl ?_
  refine x_iload_n dX6_arrives_113 rfl 1 rfl ?_
  refine x_iload_n dX6_arrives_114 rfl 2 rfl ?_
  obtain ⟨z3, s3, h3, h⟩ := x_b_e h
  refine x_callV (As := [.int a1, .int a2]) (st := []) (eX6_enters hw  h3) cv_X6_151 (Nat.le_of_ble_eq_true rfl) (ok_e30 hw) rfl (Nat.le_of_ble_eq_true rfl) _ rfl dX6_arrives_115 [] rfl ?_
  refine x_aload_n dX6_arrives_118 rfl 0 rfl ?_
  refine x_getR (d1 := 5) (K1 := 31) (p1 := 0) (r1 := 0) fl_X6_7 (ok_e30 hw) rfl dX6_arrives_119 ?_
  refine x_iconst (x := 4) dX6_arrives_122 rfl ?_
  refine x_iald 6464 4 rfl rfl rfl rfl (ok_e31 hw) rfl dX6_arrives_123 ?_
  refine x_iconst (x := 1) dX6_arrives_124 rfl ?_
  refine x_isub dX6_arrives_125 ?_
  exact x_iretH rfl dX6_arrives_126 h
set_option maxRecDepth 100000 in
set_option maxHeartbeats 4000000 in
theorem TX6_arrives_21 {l : Launch} {w : xW} (hw : w.1.2 = true) {a1 : Int32} {a2 : Int32} {τ : xS} {r : Int32} : ∀ (n : Nat) (a4 : Int32) (σ : xS), BX6_arrives_21 a1 a2 n a4 σ = some (r, τ) → xAt l w mX6_arrives 21 [(0, .ref (w.2.2 5 30 0 0)), (1, .int a1), (2, .int a2), (4, .int a4)] [] σ (some (.int r)) τ := by
  intro n
  induction n with
  | zero => intro a4 σ h; cases h
  | succ n ih =>
    intro a4 σ h
    rw [BX6_arrives_21] at h
    refine x_iload dX6_arrives_21 3 rfl ?_
    refine x_iconst (x := 4) dX6_arrives_23 rfl ?_
    refine x_icmp_ge (tgt := 52) dX6_arrives_24 rfl (fun hc => ?_) (fun hc => ?_)
    · have h := x_t hc h
      refine x_aload_n dX6_arrives_52 rfl 0 rfl ?_
      refine x_iload_n dX6_arrives_53 rfl 1 rfl ?_
      refine x_iconst (x := 3) dX6_arrives_54 rfl ?_
      refine x_idiv dX6_arrives_55 (by decide) ?_
      refine x_aload_n dX6_arrives_56 rfl 0 rfl ?_
      refine x_getR (d1 := 5) (K1 := 31) (p1 := 0) (r1 := 0) fl_X6_7 (ok_e30 hw) rfl dX6_arrives_57 ?_
      refine x_iload_n dX6_arrives_60 rfl 1 rfl ?_
      refine x_bipush (x := 9) dX6_arrives_61 rfl ?_
      obtain ⟨z7, s7, h7, h⟩ := x_b_e h
      refine x_callS (As := [.int a1, .int 9]) (st := [.ref (w.2.2 5 31 0 0), .int (a1 / 3), .ref (w.2.2 5 30 0 0)]) (eX6_queue hw  h7) cs_X6_48 (Nat.le_of_ble_eq_true rfl) rfl (Nat.le_of_ble_eq_true rfl) _ rfl dX6_arrives_63 [.int z7, .ref (w.2.2 5 31 0 0), .int (a1 / 3), .ref (w.2.2 5 30 0 0)] rfl ?_
      obtain ⟨hg8, h⟩ := x_g_e h
      refine x_iald 6464 z7.toNatClampNeg rfl rfl rfl rfl (ok_e31 hw) hg8 dX6_arrives_66 ?_
      refine x_iconst (x := 1) dX6_arrives_67 rfl ?_
      refine x_icmp_ne (tgt := 75) dX6_arrives_68 rfl (fun hc => ?_) (fun hc => ?_)
      · have h := x_f hc h
        refine x_aload_n dX6_arrives_75 rfl 0 rfl ?_
        refine x_getR (d1 := 5) (K1 := 36) (p1 := 0) (r1 := 0) fl_X6_26 (ok_e30 hw) rfl dX6_arrives_76 ?_
        refine x_iconst (x := 2) dX6_arrives_79 rfl ?_
        refine x_iald 5 2 rfl rfl rfl rfl (ok_e36 hw) rfl dX6_arrives_80 ?_
        refine x_iload_n dX6_arrives_81 rfl 2 rfl ?_
        obtain ⟨z9, s9, h9, h⟩ := x_b_e h
        refine x_callV (As := [.int (a1 / 3), .int (s7 5 36 0 0 2), .int a2]) (st := []) (eX6_loses hw  h9) cv_X6_138 (Nat.le_of_ble_eq_true rfl) (ok_e30 hw) rfl (Nat.le_of_ble_eq_true rfl) _ rfl dX6_arrives_82 [] rfl ?_
        refine x_bipush (x := (-6)) dX6_arrives_85 (by decide) ?_
        exact x_iretH rfl dX6_arrives_87 h
      · have h := x_t hc h
        refine x_iconst (x := 5) dX6_arrives_71 rfl ?_
        refine x_goto (tgt := 81) dX6_arrives_72 rfl ?_
        refine x_iload_n dX6_arrives_81 rfl 2 rfl ?_
        obtain ⟨z10, s10, h10, h⟩ := x_b_e h
        refine x_callV (As := [.int (a1 / 3), .int 5, .int a2]) (st := []) (eX6_loses hw  h10) cv_X6_138 (Nat.le_of_ble_eq_true rfl) (ok_e30 hw) rfl (Nat.le_of_ble_eq_true rfl) _ rfl dX6_arrives_82 [] rfl ?_
        refine x_bipush (x := (-6)) dX6_arrives_85 (by decide) ?_
        exact x_iretH rfl dX6_arrives_87 h
    · have h := x_f hc h
      refine x_aload_n dX6_arrives_27 rfl 0 rfl ?_
      refine x_getR (d1 := 5) (K1 := 31) (p1 := 0) (r1 := 0) fl_X6_7 (ok_e30 hw) rfl dX6_arrives_28 ?_
      refine x_bipush (x := 6) dX6_arrives_31 rfl ?_
      refine x_iload dX6_arrives_33 3 rfl ?_
      refine x_iadd dX6_arrives_35 ?_
      refine x_aload_n dX6_arrives_36 rfl 0 rfl ?_
      refine x_getR (d1 := 5) (K1 := 36) (p1 := 0) (r1 := 0) fl_X6_26 (ok_e30 hw) rfl dX6_arrives_37 ?_
      refine x_iconst (x := 4) dX6_arrives_40 rfl ?_
      refine x_iload dX6_arrives_41 3 rfl ?_
      refine x_isub dX6_arrives_43 ?_
      obtain ⟨t11, ht11, h⟩ := x_let_e h
      refine x_nm t11 ht11 ?_
      obtain ⟨hg12, h⟩ := x_g_e h
      refine x_iald 5 t11.toNatClampNeg rfl rfl rfl rfl (ok_e36 hw) hg12 dX6_arrives_44 ?_
      obtain ⟨t13, ht13, h⟩ := x_let_e h
      refine x_nm2 t13 ht13 ?_
      obtain ⟨hg14, h⟩ := x_g_e h
      obtain ⟨s15, hs15, h⟩ := x_let_e h
      refine x_iast 6464 t13.toNatClampNeg rfl s15 hs15 rfl rfl rfl (ok_e31 hw) hg14 dX6_arrives_45 ?_
      obtain ⟨t16, ht16, h⟩ := x_let_e h
      refine x_iinc t16 1 rfl ht16 dX6_arrives_46 3 rfl (Nat.le_of_ble_eq_true rfl) [(4, .int t16), (0, .ref (w.2.2 5 30 0 0)), (1, .int a1), (2, .int a2)] rfl ?_
      refine x_goto (tgt := 21) dX6_arrives_49 rfl ?_
      refine x_sub (L1 := [(0, .ref (w.2.2 5 30 0 0)), (1, .int a1), (2, .int a2), (4, .int t16)]) [1, 2, 3, 0] rfl ?_
      exact ih _ _ h
set_option maxRecDepth 100000 in
set_option maxHeartbeats 4000000 in
theorem eX6_arrives {l : Launch} {w : xW} (hw : w.1.2 = true) {a1 : Int32} {a2 : Int32} {σ τ : xS} {r : Int32} (h : fX6_arrives a1 a2 σ = some (r, τ)) : xEV l w yX6_arrives mX6_arrives [.ref (w.2.2 5 30 0 0), .int a1, .int a2] σ (some (.int r)) τ := by
  rw [fX6_arrives] at h
  refine x_enter (by decide +kernel) rfl (Nat.le_of_ble_eq_true rfl) ?_
  refine x_sub (L1 := [(0, .ref (w.2.2 5 30 0 0)), (1, .int a1), (2, .int a2)]) [0, 1, 2] rfl ?_
  refine x_aload_n dX6_arrives_0 rfl 0 rfl ?_
  refine x_iload_n dX6_arrives_1 rfl 1 rfl ?_
  refine x_iload_n dX6_arrives_2 rfl 2 rfl ?_
  obtain ⟨z1, s1, h1, h⟩ := x_b_e h
  refine x_callV (As := [.int a1, .int a2]) (st := []) (eX6_decides hw  h1) cv_X6_142 (Nat.le_of_ble_eq_true rfl) (ok_e30 hw) rfl (Nat.le_of_ble_eq_true rfl) _ rfl dX6_arrives_3 [.int z1] rfl ?_
  refine x_istore_n z1 rfl dX6_arrives_6 rfl (Nat.le_of_ble_eq_true rfl) [(3, .int z1), (0, .ref (w.2.2 5 30 0 0)), (1, .int a1), (2, .int a2)] rfl ?_
  refine x_iload_n dX6_arrives_7 rfl 0 rfl ?_
  refine x_if_ne (tgt := 88) dX6_arrives_8 rfl (fun hc => ?_) (fun hc => ?_)
  · have h := x_f hc h
    refine x_iload_n dX6_arrives_88 rfl 0 rfl ?_
    refine x_iconst (x := 4) dX6_arrives_89 rfl ?_
    refine x_icmp_ne (tgt := 105) dX6_arrives_90 rfl (fun hc => ?_) (fun hc => ?_)
    · have h := x_f hc h
      refine x_sub (L1 := [(0, .ref (w.2.2 5 30 0 0)), (1, .int a1), (2, .int a2), (3, .int z1)]) [1, 2, 3, 0] rfl ?_
      exact TX6_arrives_105 hw  h
    · have h := x_t hc h
      refine x_aload_n dX6_arrives_93 rfl 1 rfl ?_
      refine x_iload_n dX6_arrives_94 rfl 2 rfl ?_
      obtain ⟨z4, s4, h4, h⟩ := x_b_e h
      refine x_callV (As := [.int a1]) (st := []) (eX6_removesVictims hw  h4) cv_X6_145 (Nat.le_of_ble_eq_true rfl) (ok_e30 hw) rfl (Nat.le_of_ble_eq_true rfl) _ rfl dX6_arrives_95 [] rfl ?_
      refine x_aload_n dX6_arrives_98 rfl 1 rfl ?_
      refine x_iload_n dX6_arrives_99 rfl 2 rfl ?_
      refine x_iload_n dX6_arrives_100 rfl 3 rfl ?_
      obtain ⟨z5, s5, h5, h⟩ := x_b_e h
      refine x_callV (As := [.int a1, .int a2]) (st := []) (eX6_early hw  h5) cv_X6_116 (Nat.le_of_ble_eq_true rfl) (ok_e30 hw) rfl (Nat.le_of_ble_eq_true rfl) _ rfl dX6_arrives_101 [.int z5] rfl ?_
      refine x_istore_n z5 rfl dX6_arrives_104 rfl (Nat.le_of_ble_eq_true rfl) [(3, .int z5), (0, .ref (w.2.2 5 30 0 0)), (1, .int a1), (2, .int a2)] rfl ?_
      refine x_sub (L1 := [(0, .ref (w.2.2 5 30 0 0)), (1, .int a1), (2, .int a2), (3, .int z5)]) [1, 2, 3, 0] rfl ?_
      exact TX6_arrives_105 hw  h
  · have h := x_t hc h
    refine x_aload_n dX6_arrives_11 rfl 1 rfl ?_
    refine x_getR (d1 := 5) (K1 := 31) (p1 := 0) (r1 := 0) fl_X6_7 (ok_e30 hw) rfl dX6_arrives_12 ?_
    refine x_iconst (x := 5) dX6_arrives_15 rfl ?_
    refine x_iconst (x := 1) dX6_arrives_16 rfl ?_
    obtain ⟨s6, hs6, h⟩ := x_let_e h
    refine x_iast 6464 5 rfl s6 hs6 rfl rfl rfl (ok_e31 hw) rfl dX6_arrives_17 ?_
    refine x_iconst (x := 0) dX6_arrives_18 rfl ?_
    refine x_istore 0 rfl dX6_arrives_19 (Nat.le_of_ble_eq_true rfl) [(4, .int 0), (3, .int z1), (0, .ref (w.2.2 5 30 0 0)), (1, .int a1), (2, .int a2)] rfl ?_
    refine x_sub (L1 := [(0, .ref (w.2.2 5 30 0 0)), (1, .int a1), (2, .int a2), (4, .int 0)]) [2, 3, 4, 0] rfl ?_
    exact TX6_arrives_21 hw _ _ _ h
set_option maxRecDepth 100000 in
set_option maxHeartbeats 4000000 in
theorem eX6_arrive {l : Launch} {w : xW} (hw : w.1.2 = true) {a1 : Int32} {a2 : Int32} {a3 : Int32} {σ τ : xS} {r : Int32} (h : fX6_arrive a1 a2 a3 σ = some (r, τ)) : xEV l w yX6_arrive mX6_arrive [.ref (w.2.2 5 30 0 0), .int a1, .int a2, .int a3] σ (some (.int r)) τ := by
  rw [fX6_arrive] at h
  refine x_enter (by decide +kernel) rfl (Nat.le_of_ble_eq_true rfl) ?_
  refine x_sub (L1 := [(0, .ref (w.2.2 5 30 0 0)), (1, .int a1), (2, .int a2), (3, .int a3)]) [0, 1, 2, 3] rfl ?_
  refine x_aload_n dX6_arrive_0 rfl 0 rfl ?_
  refine x_iload_n dX6_arrive_1 rfl 1 rfl ?_
  refine x_iload_n dX6_arrive_2 rfl 2 rfl ?_
  obtain ⟨z1, s1, h1, h⟩ := x_b_e h
  refine x_callV (As := [.int a1, .int a2]) (st := []) (eX6_isQueue hw  h1) cv_X6_75 (Nat.le_of_ble_eq_true rfl) (ok_e30 hw) rfl (Nat.le_of_ble_eq_true rfl) _ rfl dX6_arrive_3 [.int z1] rfl ?_
  refine x_if_ne (tgt := 11) dX6_arrive_6 rfl (fun hc => ?_) (fun hc => ?_)
  · have h := x_f hc h
    refine x_iload_n dX6_arrive_11 rfl 3 rfl ?_
    refine x_iconst (x := 1) dX6_arrive_12 rfl ?_
    refine x_bipush (x := 12) dX6_arrive_13 rfl ?_
    obtain ⟨z2, s2, h2, h⟩ := x_b_e h
    refine x_callS (As := [.int a3, .int 1, .int 12]) (st := []) (eX6_in hw  h2) cs_X6_36 (Nat.le_of_ble_eq_true rfl) rfl (Nat.le_of_ble_eq_true rfl) _ rfl dX6_arrive_15 [.int z2] rfl ?_
    refine x_if_eq (tgt := 34) dX6_arrive_18 rfl (fun hc => ?_) (fun hc => ?_)
    · have h := x_t hc h
      refine x_bipush (x := (-2)) dX6_arrive_34 (by decide) ?_
      exact x_iretH rfl dX6_arrive_36 h
    · have h := x_f hc h
      refine x_aload_n dX6_arrive_21 rfl 0 rfl ?_
      refine x_iconst (x := 3) dX6_arrive_22 rfl ?_
      refine x_iload_n dX6_arrive_23 rfl 1 rfl ?_
      refine x_imul dX6_arrive_24 ?_
      refine x_iload_n dX6_arrive_25 rfl 2 rfl ?_
      refine x_iadd dX6_arrive_26 ?_
      refine x_iload_n dX6_arrive_27 rfl 3 rfl ?_
      obtain ⟨z3, s3, h3, h⟩ := x_b_e h
      refine x_callV (As := [.int ((3 * a1) + a2), .int a3]) (st := []) (eX6_arrives hw  h3) cv_X6_154 (Nat.le_of_ble_eq_true rfl) (ok_e30 hw) rfl (Nat.le_of_ble_eq_true rfl) _ rfl dX6_arrive_28 [.int z3] rfl ?_
      refine x_goto (tgt := 36) dX6_arrive_31 rfl ?_
      exact x_iretH rfl dX6_arrive_36 h
  · have h := x_t hc h
    refine x_iconst (x := (-1)) dX6_arrive_9 (by decide) ?_
    exact x_iretH rfl dX6_arrive_10 h
set_option maxRecDepth 100000 in
set_option maxHeartbeats 4000000 in
theorem eX6_firstSize {l : Launch} {w : xW} (hw : w.1.2 = true) {a1 : Int32} {σ τ : xS} {r : Int32} (h : fX6_firstSize a1 σ = some (r, τ)) : xEV l w yX6_firstSize mX6_firstSize [.ref (w.2.2 5 30 0 0), .int a1] σ (some (.int r)) τ := by
  rw [fX6_firstSize] at h
  refine x_enter (by decide +kernel) rfl (Nat.le_of_ble_eq_true rfl) ?_
  refine x_sub (L1 := [(0, .ref (w.2.2 5 30 0 0)), (1, .int a1)]) [0, 1] rfl ?_
  refine x_aload_n dX6_firstSize_0 rfl 0 rfl ?_
  refine x_getR (d1 := 5) (K1 := 31) (p1 := 0) (r1 := 0) fl_X6_7 (ok_e30 hw) rfl dX6_firstSize_1 ?_
  refine x_aload_n dX6_firstSize_4 rfl 0 rfl ?_
  refine x_getR (d1 := 5) (K1 := 31) (p1 := 0) (r1 := 0) fl_X6_7 (ok_e30 hw) rfl dX6_firstSize_5 ?_
  refine x_iload_n dX6_firstSize_8 rfl 1 rfl ?_
  refine x_iconst (x := 0) dX6_firstSize_9 rfl ?_
  obtain ⟨z1, s1, h1, h⟩ := x_b_e h
  refine x_callS (As := [.int a1, .int 0]) (st := [.ref (w.2.2 5 31 0 0), .ref (w.2.2 5 31 0 0)]) (eX6_entry hw  h1) cs_X6_107 (Nat.le_of_ble_eq_true rfl) rfl (Nat.le_of_ble_eq_true rfl) _ rfl dX6_firstSize_10 [.int z1, .ref (w.2.2 5 31 0 0), .ref (w.2.2 5 31 0 0)] rfl ?_
  obtain ⟨hg2, h⟩ := x_g_e h
  refine x_iald 6464 z1.toNatClampNeg rfl rfl rfl rfl (ok_e31 hw) hg2 dX6_firstSize_13 ?_
  refine x_iconst (x := 1) dX6_firstSize_14 rfl ?_
  obtain ⟨z3, s3, h3, h⟩ := x_b_e h
  refine x_callS (As := [.int (s1 5 31 0 0 z1.toNatClampNeg), .int 1]) (st := [.ref (w.2.2 5 31 0 0)]) (eX6_packet hw  h3) cs_X6_92 (Nat.le_of_ble_eq_true rfl) rfl (Nat.le_of_ble_eq_true rfl) _ rfl dX6_firstSize_15 [.int z3, .ref (w.2.2 5 31 0 0)] rfl ?_
  obtain ⟨hg4, h⟩ := x_g_e h
  refine x_iald 6464 z3.toNatClampNeg rfl rfl rfl rfl (ok_e31 hw) hg4 dX6_firstSize_18 ?_
  exact x_iretH rfl dX6_firstSize_19 h
set_option maxRecDepth 100000 in
set_option maxHeartbeats 4000000 in
theorem eX6_departs {l : Launch} {w : xW} (hw : w.1.2 = true) {a1 : Int32} {a2 : Int32} {σ τ : xS} {r : Unit} (h : fX6_departs a1 a2 σ = some (r, τ)) : xEV l w yX6_departs mX6_departs [.ref (w.2.2 5 30 0 0), .int a1, .int a2] σ none τ := by
  rw [fX6_departs] at h
  refine x_enter (by decide +kernel) rfl (Nat.le_of_ble_eq_true rfl) ?_
  refine x_sub (L1 := [(0, .ref (w.2.2 5 30 0 0)), (1, .int a1), (2, .int a2)]) [0, 1, 2] rfl ?_
  refine x_aload_n dX6_departs_0 rfl 0 rfl ?_
  refine x_iload_n dX6_departs_1 rfl 2 rfl ?_
  refine x_iconst (x := 0) dX6_departs_2 rfl ?_
  obtain ⟨z1, s1, h1, h⟩ := x_b_e h
  refine x_callV (As := [.int a2, .int 0]) (st := []) (eX6_leaves hw  h1) cv_X6_132 (Nat.le_of_ble_eq_true rfl) (ok_e30 hw) rfl (Nat.le_of_ble_eq_true rfl) _ rfl dX6_departs_3 [.int z1] rfl ?_
  refine x_istore_n z1 rfl dX6_departs_6 rfl (Nat.le_of_ble_eq_true rfl) [(3, .int z1), (0, .ref (w.2.2 5 30 0 0)), (1, .int a1), (2, .int a2)] rfl ?_
  refine x_aload_n dX6_departs_7 rfl 1 rfl ?_
  refine x_getR (d1 := 5) (K1 := 31) (p1 := 0) (r1 := 0) fl_X6_7 (ok_e30 hw) rfl dX6_departs_8 ?_
  refine x_iload_n dX6_departs_11 rfl 2 rfl ?_
  refine x_iconst (x := 4) dX6_departs_12 rfl ?_
  obtain ⟨z2, s2, h2, h⟩ := x_b_e h
  refine x_callS (As := [.int a1, .int 4]) (st := [.ref (w.2.2 5 31 0 0)]) (eX6_port hw  h2) cs_X6_44 (Nat.le_of_ble_eq_true rfl) rfl (Nat.le_of_ble_eq_true rfl) _ rfl dX6_departs_13 [.int z2, .ref (w.2.2 5 31 0 0)] rfl ?_
  refine x_dup2 dX6_departs_16 rfl rfl ?_
  obtain ⟨hg3, h⟩ := x_g_e h
  refine x_iald 6464 z2.toNatClampNeg rfl rfl rfl rfl (ok_e31 hw) hg3 dX6_departs_17 ?_
  refine x_iload_n dX6_departs_18 rfl 0 rfl ?_
  refine x_isub dX6_departs_19 ?_
  obtain ⟨hg4, h⟩ := x_g_e h
  obtain ⟨s5, hs5, h⟩ := x_let_e h
  refine x_iast 6464 z2.toNatClampNeg rfl s5 hs5 rfl rfl rfl (ok_e31 hw) hg4 dX6_departs_20 ?_
  refine x_aload_n dX6_departs_21 rfl 1 rfl ?_
  refine x_getR (d1 := 5) (K1 := 31) (p1 := 0) (r1 := 0) fl_X6_7 (ok_e30 hw) rfl dX6_departs_22 ?_
  refine x_iload_n dX6_departs_25 rfl 2 rfl ?_
  refine x_bipush (x := 9) dX6_departs_26 rfl ?_
  obtain ⟨z6, s6, h6, h⟩ := x_b_e h
  refine x_callS (As := [.int a1, .int 9]) (st := [.ref (w.2.2 5 31 0 0)]) (eX6_port hw  h6) cs_X6_44 (Nat.le_of_ble_eq_true rfl) rfl (Nat.le_of_ble_eq_true rfl) _ rfl dX6_departs_28 [.int z6, .ref (w.2.2 5 31 0 0)] rfl ?_
  refine x_dup2 dX6_departs_31 rfl rfl ?_
  obtain ⟨hg7, h⟩ := x_g_e h
  refine x_iald 6464 z6.toNatClampNeg rfl rfl rfl rfl (ok_e31 hw) hg7 dX6_departs_32 ?_
  refine x_iconst (x := 1) dX6_departs_33 rfl ?_
  refine x_iadd dX6_departs_34 ?_
  obtain ⟨hg8, h⟩ := x_g_e h
  obtain ⟨s9, hs9, h⟩ := x_let_e h
  refine x_iast 6464 z6.toNatClampNeg rfl s9 hs9 rfl rfl rfl (ok_e31 hw) hg8 dX6_departs_35 ?_
  exact x_vretH rfl dX6_departs_36 h
