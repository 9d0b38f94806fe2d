set_option maxRecDepth 100000 in
set_option maxHeartbeats 4000000 in
theorem TX5_checksum_109 {l : Launch} {w : xW} {d3 : Nat} (hd3 : d3 < 4) {τ : xS} {r : Int64} : ∀ (n : Nat) (g1 : Int64) (a4 : Int32) (σ : xS), BX5_checksum_109 d3 n g1 a4 σ = some (r, τ) → xAt l w mX5_checksum 109 [(1, .long g1), (3, .ref (w.2.2 d3 1 0 0)), (4, .int a4)] [] σ (some (.long r)) τ := by
  intro n
  induction n with
  | zero => intro g1 a4 σ h; cases h
  | succ n ih =>
    intro g1 a4 σ h
    rw [BX5_checksum_109] at h
    refine x_iload dX5_checksum_109 2 rfl ?_
    refine x_aload_n dX5_checksum_111 rfl 1 rfl ?_
    refine x_getI fl_X5_46 (ok_a (K := 1) (Nat.le_of_ble_eq_true rfl) hd3) rfl dX5_checksum_112 ?_
    refine x_icmp_ge (tgt := 157) dX5_checksum_115 rfl (fun hc => ?_) (fun hc => ?_)
    · have h := x_t hc h
      refine x_lload_n dX5_checksum_157 rfl 0 rfl ?_
      exact x_lretH rfl dX5_checksum_158 h
    · have h := x_f hc h
      refine x_aload_n dX5_checksum_118 rfl 1 rfl ?_
      refine x_iload dX5_checksum_119 2 rfl ?_
      obtain ⟨z7, s7, h7, h⟩ := x_b_e h
      refine x_callV (As := [.int a4]) (st := []) (eX1_startsRun hd3 h7) cv_X5_306 (Nat.le_of_ble_eq_true rfl) (ok_a (K := 1) (Nat.le_of_ble_eq_true rfl) hd3) rfl (Nat.le_of_ble_eq_true rfl) _ rfl dX5_checksum_121 [.int z7] rfl ?_
      refine x_if_eq (tgt := 151) dX5_checksum_124 rfl (fun hc => ?_) (fun hc => ?_)
      · have h := x_t hc h
        obtain ⟨t8, ht8, h⟩ := x_let_e h
        refine x_iinc t8 1 rfl ht8 dX5_checksum_151 2 rfl (Nat.le_of_ble_eq_true rfl) [(4, .int t8), (1, .long g1), (3, .ref (w.2.2 d3 1 0 0))] rfl ?_
        refine x_goto (tgt := 109) dX5_checksum_154 rfl ?_
        refine x_sub (L1 := [(1, .long g1), (3, .ref (w.2.2 d3 1 0 0)), (4, .int t8)]) [1, 2, 0] rfl ?_
        exact ih _ _ _ h
      · have h := x_f hc h
        refine x_ldc2 (x := 31) dX5_checksum_127 tk_X5_296 ?_
        refine x_lload_n dX5_checksum_130 rfl 0 rfl ?_
        refine x_lmul dX5_checksum_131 ?_
        refine x_iload dX5_checksum_132 2 rfl ?_
        refine x_i2l dX5_checksum_134 ?_
        refine x_ladd dX5_checksum_135 ?_
        obtain ⟨t9, ht9, h⟩ := x_let_e h
        refine x_lstore_n t9 ht9 dX5_checksum_136 rfl (Nat.le_of_ble_eq_true rfl) [(1, .long t9), (3, .ref (w.2.2 d3 1 0 0)), (4, .int a4)] rfl ?_
        refine x_ldc2 (x := 31) dX5_checksum_137 tk_X5_296 ?_
        refine x_lload_n dX5_checksum_140 rfl 0 rfl ?_
        refine x_lmul dX5_checksum_141 ?_
        refine x_aload_n dX5_checksum_142 rfl 1 rfl ?_
        refine x_iload dX5_checksum_143 2 rfl ?_
        obtain ⟨z10, s10, h10, h⟩ := x_b_e h
        refine x_callV (As := [.int a4]) (st := [.long (31 * t9)]) (eX1_freeLength hd3 h10) cv_X5_238 (Nat.le_of_ble_eq_true rfl) (ok_a (K := 1) (Nat.le_of_ble_eq_true rfl) hd3) rfl (Nat.le_of_ble_eq_true rfl) _ rfl dX5_checksum_145 [.int z10, .long (31 * t9)] rfl ?_
        refine x_i2l dX5_checksum_148 ?_
        refine x_ladd dX5_checksum_149 ?_
        obtain ⟨t11, ht11, h⟩ := x_let_e h
        refine x_lstore_n t11 ht11 dX5_checksum_150 rfl (Nat.le_of_ble_eq_true rfl) [(1, .long t11), (3, .ref (w.2.2 d3 1 0 0)), (4, .int a4)] rfl ?_
        obtain ⟨t12, ht12, h⟩ := x_let_e h
        refine x_iinc t12 1 rfl ht12 dX5_checksum_151 2 rfl (Nat.le_of_ble_eq_true rfl) [(4, .int t12), (1, .long t11), (3, .ref (w.2.2 d3 1 0 0))] rfl ?_
        refine x_goto (tgt := 109) dX5_checksum_154 rfl ?_
        refine x_sub (L1 := [(1, .long t11), (3, .ref (w.2.2 d3 1 0 0)), (4, .int t12)]) [1, 2, 0] rfl ?_
        exact ih _ _ _ h
set_option maxRecDepth 100000 in
set_option maxHeartbeats 4000000 in
theorem TX5_checksum_66 {l : Launch} {w : xW} {τ : xS} {r : Int64} : ∀ (n : Nat) (g1 : Int64) (a3 : Int32) (σ : xS), BX5_checksum_66 n g1 a3 σ = some (r, τ) → xAt l w mX5_checksum 66 [(0, .ref (w.2.2 4 20 0 0)), (1, .long g1), (3, .int a3)] [] σ (some (.long r)) τ := by
  intro n
  induction n with
  | zero => intro g1 a3 σ h; cases h
  | succ n ih =>
    intro g1 a3 σ h
    rw [BX5_checksum_66] at h
    refine x_iload_n dX5_checksum_66 rfl 2 rfl ?_
    refine x_aload_n dX5_checksum_67 rfl 0 rfl ?_
    refine x_getR (d1 := 0) (K1 := 0) (p1 := 0) (r1 := 0) fl_X5_10 ok_e20 rfl dX5_checksum_68 ?_
    refine x_getI fl_X5_140 (ok_a (K := 0) (Nat.le_of_ble_eq_true rfl) (Nat.le_of_ble_eq_true rfl)) rfl dX5_checksum_71 ?_
    refine x_icmp_ge (tgt := 98) dX5_checksum_74 rfl (fun hc => ?_) (fun hc => ?_)
    · have h := x_t hc h
      refine x_aload_n dX5_checksum_98 rfl 0 rfl ?_
      refine x_getR (d1 := 0) (K1 := 0) (p1 := 0) (r1 := 0) fl_X5_10 ok_e20 rfl dX5_checksum_99 ?_
      refine x_getR (d1 := 0) (K1 := 1) (p1 := 0) (r1 := 0) fl_X5_42 (ok_a (K := 0) (Nat.le_of_ble_eq_true rfl) (Nat.le_of_ble_eq_true rfl)) rfl dX5_checksum_102 ?_
      refine x_astore_n dX5_checksum_105 rfl (Nat.le_of_ble_eq_true rfl) [(3, .ref (w.2.2 0 1 0 0)), (0, .ref (w.2.2 4 20 0 0)), (1, .long g1)] rfl ?_
      refine x_iconst (x := 0) dX5_checksum_106 rfl ?_
      refine x_istore 0 rfl dX5_checksum_107 (Nat.le_of_ble_eq_true rfl) [(4, .int 0), (3, .ref (w.2.2 0 1 0 0)), (0, .ref (w.2.2 4 20 0 0)), (1, .long g1)] rfl ?_
      refine x_sub (L1 := [(1, .long g1), (3, .ref (w.2.2 0 1 0 0)), (4, .int 0)]) [3, 1, 0] rfl ?_
      exact TX5_checksum_109 (Nat.le_of_ble_eq_true rfl) _ _ _ _ h
    · have h := x_f hc h
      refine x_aload_n dX5_checksum_77 rfl 0 rfl ?_
      refine x_lload_n dX5_checksum_78 rfl 1 rfl ?_
      refine x_aload_n dX5_checksum_79 rfl 0 rfl ?_
      refine x_getR (d1 := 0) (K1 := 0) (p1 := 0) (r1 := 0) fl_X5_10 ok_e20 rfl dX5_checksum_80 ?_
      refine x_getR (d1 := 0) (K1 := 10) (p1 := 0) (r1 := 0) fl_X5_298 (ok_a (K := 0) (Nat.le_of_ble_eq_true rfl) (Nat.le_of_ble_eq_true rfl)) rfl dX5_checksum_83 ?_
      refine x_iload_n dX5_checksum_86 rfl 2 rfl ?_
      obtain ⟨hg13, h⟩ := x_g_e h
      refine x_aald (d1 := 0) (K1 := 13) (p1 := (a3.toNatClampNeg)) (r1 := 0) 6 a3.toNatClampNeg rfl 2 RX2 rfl rfl (Nat.le_of_ble_eq_true rfl) rfl rfl (ok_a (K := 10) (Nat.le_of_ble_eq_true rfl) (Nat.le_of_ble_eq_true rfl)) rfl hg13 dX5_checksum_87 ?_
      obtain ⟨z14, s14, h14, h⟩ := x_b_e h
      refine x_callV (As := [.long g1, .ref (w.2.2 0 13 (a3.toNatClampNeg) 0)]) (st := []) (eX5_mixPort (Nat.le_of_ble_eq_true rfl) (x_in_lt hg13) h14) cv_X5_302 (Nat.le_of_ble_eq_true rfl) ok_e20 rfl (Nat.le_of_ble_eq_true rfl) _ rfl dX5_checksum_88 [.long z14] rfl ?_
      refine x_lstore_n z14 rfl dX5_checksum_91 rfl (Nat.le_of_ble_eq_true rfl) [(1, .long z14), (0, .ref (w.2.2 4 20 0 0)), (3, .int a3)] rfl ?_
      obtain ⟨t15, ht15, h⟩ := x_let_e h
      refine x_iinc t15 1 rfl ht15 dX5_checksum_92 2 rfl (Nat.le_of_ble_eq_true rfl) [(3, .int t15), (1, .long z14), (0, .ref (w.2.2 4 20 0 0))] rfl ?_
      refine x_goto (tgt := 66) dX5_checksum_95 rfl ?_
      refine x_sub (L1 := [(0, .ref (w.2.2 4 20 0 0)), (1, .long z14), (3, .int t15)]) [2, 1, 0] rfl ?_
      exact ih _ _ _ h
set_option maxRecDepth 100000 in
set_option maxHeartbeats 4000000 in
theorem eX5_checksum {l : Launch} {w : xW} {σ τ : xS} {r : Int64} (h : fX5_checksum σ = some (r, τ)) : xEV l w yX5_checksum mX5_checksum [.ref (w.2.2 4 20 0 0)] σ (some (.long r)) τ := by
  rw [fX5_checksum] at h
  refine x_enter (by decide +kernel) rfl (Nat.le_of_ble_eq_true rfl) ?_
  refine x_sub (L1 := [(0, .ref (w.2.2 4 20 0 0))]) [0] rfl ?_
  refine x_ldc2 (x := 7) dX5_checksum_0 tk_X5_294 ?_
  refine x_lstore_n 7 rfl dX5_checksum_3 rfl (Nat.le_of_ble_eq_true rfl) [(1, .long 7), (0, .ref (w.2.2 4 20 0 0))] rfl ?_
  refine x_ldc2 (x := 31) dX5_checksum_4 tk_X5_296 ?_
  refine x_lload_n dX5_checksum_7 rfl 0 rfl ?_
  refine x_lmul dX5_checksum_8 ?_
  refine x_aload_n dX5_checksum_9 rfl 1 rfl ?_
  refine x_getR (d1 := 0) (K1 := 0) (p1 := 0) (r1 := 0) fl_X5_10 ok_e20 rfl dX5_checksum_10 ?_
  refine x_getI fl_X5_205 (ok_a (K := 0) (Nat.le_of_ble_eq_true rfl) (Nat.le_of_ble_eq_true rfl)) rfl dX5_checksum_13 ?_
  refine x_i2l dX5_checksum_16 ?_
  refine x_ladd dX5_checksum_17 ?_
  obtain ⟨t1, ht1, h⟩ := x_let_e h
  refine x_lstore_n t1 ht1 dX5_checksum_18 rfl (Nat.le_of_ble_eq_true rfl) [(1, .long t1), (0, .ref (w.2.2 4 20 0 0))] rfl ?_
  refine x_ldc2 (x := 31) dX5_checksum_19 tk_X5_296 ?_
  refine x_lload_n dX5_checksum_22 rfl 0 rfl ?_
  refine x_lmul dX5_checksum_23 ?_
  refine x_aload_n dX5_checksum_24 rfl 1 rfl ?_
  refine x_getR (d1 := 0) (K1 := 0) (p1 := 0) (r1 := 0) fl_X5_10 ok_e20 rfl dX5_checksum_25 ?_
  refine x_getI fl_X5_202 (ok_a (K := 0) (Nat.le_of_ble_eq_true rfl) (Nat.le_of_ble_eq_true rfl)) rfl dX5_checksum_28 ?_
  refine x_i2l dX5_checksum_31 ?_
  refine x_ladd dX5_checksum_32 ?_
  obtain ⟨t2, ht2, h⟩ := x_let_e h
  refine x_lstore_n t2 ht2 dX5_checksum_33 rfl (Nat.le_of_ble_eq_true rfl) [(1, .long t2), (0, .ref (w.2.2 4 20 0 0))] rfl ?_
  refine x_ldc2 (x := 31) dX5_checksum_34 tk_X5_296 ?_
  refine x_lload_n dX5_checksum_37 rfl 0 rfl ?_
  refine x_lmul dX5_checksum_38 ?_
  refine x_aload_n dX5_checksum_39 rfl 1 rfl ?_
  refine x_getR (d1 := 0) (K1 := 0) (p1 := 0) (r1 := 0) fl_X5_10 ok_e20 rfl dX5_checksum_40 ?_
  obtain ⟨z3, s3, h3, h⟩ := x_b_e h
  refine x_callV (As := []) (st := [.long (31 * t2)]) (eX0_sharedLeft (Nat.le_of_ble_eq_true rfl) h3) cv_X5_61 (Nat.le_of_ble_eq_true rfl) (ok_a (K := 0) (Nat.le_of_ble_eq_true rfl) (Nat.le_of_ble_eq_true rfl)) rfl (Nat.le_of_ble_eq_true rfl) _ rfl dX5_checksum_43 [.int z3, .long (31 * t2)] rfl ?_
  refine x_i2l dX5_checksum_46 ?_
  refine x_ladd dX5_checksum_47 ?_
  obtain ⟨t4, ht4, h⟩ := x_let_e h
  refine x_lstore_n t4 ht4 dX5_checksum_48 rfl (Nat.le_of_ble_eq_true rfl) [(1, .long t4), (0, .ref (w.2.2 4 20 0 0))] rfl ?_
  refine x_ldc2 (x := 31) dX5_checksum_49 tk_X5_296 ?_
  refine x_lload_n dX5_checksum_52 rfl 0 rfl ?_
  refine x_lmul dX5_checksum_53 ?_
  refine x_aload_n dX5_checksum_54 rfl 1 rfl ?_
  refine x_getR (d1 := 0) (K1 := 0) (p1 := 0) (r1 := 0) fl_X5_10 ok_e20 rfl dX5_checksum_55 ?_
  obtain ⟨z5, s5, h5, h⟩ := x_b_e h
  refine x_callV (As := []) (st := [.long (31 * t4)]) (eX0_poolSize (Nat.le_of_ble_eq_true rfl) h5) cv_X5_161 (Nat.le_of_ble_eq_true rfl) (ok_a (K := 0) (Nat.le_of_ble_eq_true rfl) (Nat.le_of_ble_eq_true rfl)) rfl (Nat.le_of_ble_eq_true rfl) _ rfl dX5_checksum_58 [.int z5, .long (31 * t4)] rfl ?_
  refine x_i2l dX5_checksum_61 ?_
  refine x_ladd dX5_checksum_62 ?_
  obtain ⟨t6, ht6, h⟩ := x_let_e h
  refine x_lstore_n t6 ht6 dX5_checksum_63 rfl (Nat.le_of_ble_eq_true rfl) [(1, .long t6), (0, .ref (w.2.2 4 20 0 0))] rfl ?_
  refine x_iconst (x := 0) dX5_checksum_64 rfl ?_
  refine x_istore_n 0 rfl dX5_checksum_65 rfl (Nat.le_of_ble_eq_true rfl) [(3, .int 0), (1, .long t6), (0, .ref (w.2.2 4 20 0 0))] rfl ?_
  refine x_sub (L1 := [(0, .ref (w.2.2 4 20 0 0)), (1, .long t6), (3, .int 0)]) [2, 1, 0] rfl ?_
  exact TX5_checksum_66 _ _ _ _ h
