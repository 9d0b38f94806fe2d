def BX5_traffic_58 (a2 : Int32) (a3 : Int32) (a4 : Int32) (a8 : Int32) (k49 : Int64 → Int32 → Int32 → xS → Option (Int32 × xS)) : Nat → Int64 → Int32 → Int32 → xS → Option (Int32 × xS)
  | 0, _, _, _, _ => none
  | n + 1, g5, a7, a9, σ => if a3 ≤ a9 then (x_b (fX0_passTick 0 σ) fun z5 s5 => x_let (a8 + 1) fun t6 => k49 g5 a7 t6 s5) else (x_let (((g5 * 1103515245) + 12345) - ((g5 * 1103515245) + 12345) / 2147483648 * 2147483648) fun t7 => x_let ((t7 / 65536).toInt32) fun t8 => if a4 = 0 then none else x_b (fX0_portAt 0 (t8 - t8 / a4 * a4) σ) fun z10 s10 => match z10 with | none => (if a4 = 0 then none else x_b (fX0_queueAt 0 (t8 - t8 / a4 * a4) ((t8 / 8) - (t8 / 8) / 3 * 3) s10) fun z12 s12 => match z12 with | none => (x_b (fX5_lossOfArrivals none none (((t8 / 32) - (t8 / 32) / 12 * 12) + 1) 1 s12) fun z13 s13 => x_let (a7 + z13) fun t14 => x_let (a9 + 1) fun t15 => (BX5_traffic_58 a2 a3 a4 a8 k49 n) t7 t14 t15 s13) | some t12 => x_g (ok3 t12) (x_b (fX5_lossOfArrivals none (some (t12.1, t12.2.1, t12.2.2)) (((t8 / 32) - (t8 / 32) / 12 * 12) + 1) 1 s12) fun z16 s16 => x_let (a7 + z16) fun t17 => x_let (a9 + 1) fun t18 => (BX5_traffic_58 a2 a3 a4 a8 k49 n) t7 t17 t18 s16)) | some t10 => x_g (ok2 t10) (if a4 = 0 then none else x_b (fX0_queueAt 0 (t8 - t8 / a4 * a4) ((t8 / 8) - (t8 / 8) / 3 * 3) s10) fun z20 s20 => match z20 with | none => (x_b (fX5_lossOfArrivals (some (t10.1, t10.2)) none (((t8 / 32) - (t8 / 32) / 12 * 12) + 1) 1 s20) fun z21 s21 => x_let (a7 + z21) fun t22 => x_let (a9 + 1) fun t23 => (BX5_traffic_58 a2 a3 a4 a8 k49 n) t7 t22 t23 s21) | some t20 => x_g (ok3 t20) (x_b (fX5_lossOfArrivals (some (t10.1, t10.2)) (some (t20.1, t20.2.1, t20.2.2)) (((t8 / 32) - (t8 / 32) / 12 * 12) + 1) 1 s20) fun z24 s24 => x_let (a7 + z24) fun t25 => x_let (a9 + 1) fun t26 => (BX5_traffic_58 a2 a3 a4 a8 k49 n) t7 t25 t26 s24)))
set_option maxRecDepth 100000 in
set_option maxHeartbeats 4000000 in
theorem TX5_traffic_58 {l : Launch} {w : xW} {a2 : Int32} {a3 : Int32} {a4 : Int32} {a8 : Int32} {k49 : Int64 → Int32 → Int32 → xS → Option (Int32 × xS)} {τ : xS} {r : Int32} (hk49 : ∀ (g5 : Int64) (a7 : Int32) (a8 : Int32) (σ1 : xS), k49 g5 a7 a8 σ1 = some (r, τ) → xAt l w mX5_traffic 49 [(0, .ref (w.2.2 4 20 0 0)), (2, .int a2), (3, .int a3), (4, .int a4), (5, .long g5), (7, .int a7), (8, .int a8)] [] σ1 (some (.int r)) τ) : ∀ (n : Nat) (g5 : Int64) (a7 : Int32) (a9 : Int32) (σ : xS), BX5_traffic_58 a2 a3 a4 a8 k49 n g5 a7 a9 σ = some (r, τ) → xAt l w mX5_traffic 58 [(0, .ref (w.2.2 4 20 0 0)), (2, .int a2), (3, .int a3), (4, .int a4), (5, .long g5), (7, .int a7), (8, .int a8), (9, .int a9)] [] σ (some (.int r)) τ := by
  intro n
  induction n with
  | zero => intro g5 a7 a9 σ h; cases h
  | succ n ih =>
    intro g5 a7 a9 σ h
    rw [BX5_traffic_58] at h
    refine x_iload dX5_traffic_58 7 rfl ?_
    refine x_iload_n dX5_traffic_60 rfl 2 rfl ?_
    refine x_icmp_ge (tgt := 154) dX5_traffic_61 rfl (fun hc => ?_) (fun hc => ?_)
    · have h := x_t hc h
      refine x_aload_n dX5_traffic_154 rfl 0 rfl ?_
      refine x_getR (d1 := 0) (K1 := 0) (p1 := 0) (r1 := 0) fl_X5_10 ok_e20 rfl dX5_traffic_155 ?_
      obtain ⟨z5, s5, h5, h⟩ := x_b_e h
      refine x_callV (As := []) (st := []) (eX0_passTick (Nat.le_of_ble_eq_true rfl) h5) cv_X5_133 (Nat.le_of_ble_eq_true rfl) (ok_a (K := 0) (Nat.le_of_ble_eq_true rfl) (Nat.le_of_ble_eq_true rfl)) rfl (Nat.le_of_ble_eq_true rfl) _ rfl dX5_traffic_158 [.int z5] rfl ?_
      refine x_pop dX5_traffic_161 rfl ?_
      obtain ⟨t6, ht6, h⟩ := x_let_e h
      refine x_iinc t6 1 rfl ht6 dX5_traffic_162 6 rfl (Nat.le_of_ble_eq_true rfl) [(8, .int t6), (0, .ref (w.2.2 4 20 0 0)), (2, .int a2), (3, .int a3), (4, .int a4), (5, .long g5), (7, .int a7), (9, .int a9)] rfl ?_
      refine x_goto (tgt := 49) dX5_traffic_165 rfl ?_
      refine x_sub (L1 := [(0, .ref (w.2.2 4 20 0 0)), (2, .int a2), (3, .int a3), (4, .int a4), (5, .long g5), (7, .int a7), (8, .int t6)]) [1, 2, 3, 4, 5, 6, 0] rfl ?_
      exact hk49 _ _ _ _ h
    · have h := x_f hc h
      refine x_lload dX5_traffic_64 4 rfl ?_
      refine x_ldc2 (x := 1103515245) dX5_traffic_66 tk_X5_149 ?_
      refine x_lmul dX5_traffic_69 ?_
      refine x_ldc2 (x := 12345) dX5_traffic_70 tk_X5_151 ?_
      refine x_ladd dX5_traffic_73 ?_
      refine x_ldc2 (x := 2147483648) dX5_traffic_74 tk_X5_153 ?_
      refine x_lrem dX5_traffic_77 (by decide) ?_
      obtain ⟨t7, ht7, h⟩ := x_let_e h
      refine x_lstore t7 ht7 dX5_traffic_78 (Nat.le_of_ble_eq_true rfl) [(5, .long t7), (0, .ref (w.2.2 4 20 0 0)), (2, .int a2), (3, .int a3), (4, .int a4), (7, .int a7), (8, .int a8), (9, .int a9)] rfl ?_
      refine x_lload dX5_traffic_80 0 rfl ?_
      refine x_ldc2 (x := 65536) dX5_traffic_82 tk_X5_155 ?_
      refine x_ldiv dX5_traffic_85 (by decide) ?_
      refine x_l2i dX5_traffic_86 ?_
      obtain ⟨t8, ht8, h⟩ := x_let_e h
      refine x_istore t8 ht8 dX5_traffic_87 (Nat.le_of_ble_eq_true rfl) [(10, .int t8), (5, .long t7), (0, .ref (w.2.2 4 20 0 0)), (2, .int a2), (3, .int a3), (4, .int a4), (7, .int a7), (8, .int a8), (9, .int a9)] rfl ?_
      refine x_aload_n dX5_traffic_89 rfl 2 rfl ?_
      refine x_getR (d1 := 0) (K1 := 0) (p1 := 0) (r1 := 0) fl_X5_10 ok_e20 rfl dX5_traffic_90 ?_
      refine x_iload dX5_traffic_93 0 rfl ?_
      refine x_iload dX5_traffic_95 5 rfl ?_
      obtain ⟨hg9, h⟩ := x_nz_e h
      refine x_irem dX5_traffic_97 hg9 ?_
      obtain ⟨z10, s10, h10, h⟩ := x_b_e h
      refine x_callV (As := [.int (t8 - t8 / a4 * a4)]) (st := []) (eX0_portAt (Nat.le_of_ble_eq_true rfl) h10) cv_X5_52 (Nat.le_of_ble_eq_true rfl) (ok_a (K := 0) (Nat.le_of_ble_eq_true rfl) (Nat.le_of_ble_eq_true rfl)) rfl (Nat.le_of_ble_eq_true rfl) _ rfl dX5_traffic_98 [x_nvP w z10] rfl ?_
      rcases z10 with _ | t10
      · refine x_st [.null] rfl ?_
        refine x_astoreN dX5_traffic_101 (Nat.le_of_ble_eq_true rfl) [(11, .null), (10, .int t8), (5, .long t7), (0, .ref (w.2.2 4 20 0 0)), (2, .int a2), (3, .int a3), (4, .int a4), (7, .int a7), (8, .int a8), (9, .int a9)] rfl ?_
        refine x_aload_n dX5_traffic_103 rfl 3 rfl ?_
        refine x_getR (d1 := 0) (K1 := 0) (p1 := 0) (r1 := 0) fl_X5_10 ok_e20 rfl dX5_traffic_104 ?_
        refine x_iload dX5_traffic_107 1 rfl ?_
        refine x_iload dX5_traffic_109 6 rfl ?_
        obtain ⟨hg11, h⟩ := x_nz_e h
        refine x_irem dX5_traffic_111 hg11 ?_
        refine x_iload dX5_traffic_112 1 rfl ?_
        refine x_bipush (x := 8) dX5_traffic_114 rfl ?_
        refine x_idiv dX5_traffic_116 (by decide) ?_
        refine x_iconst (x := 3) dX5_traffic_117 rfl ?_
        refine x_irem dX5_traffic_118 (by decide) ?_
        obtain ⟨z12, s12, h12, h⟩ := x_b_e h
        refine x_callV (As := [.int (t8 - t8 / a4 * a4), .int ((t8 / 8) - (t8 / 8) / 3 * 3)]) (st := []) (eX0_queueAt (Nat.le_of_ble_eq_true rfl) h12) cv_X5_74 (Nat.le_of_ble_eq_true rfl) (ok_a (K := 0) (Nat.le_of_ble_eq_true rfl) (Nat.le_of_ble_eq_true rfl)) rfl (Nat.le_of_ble_eq_true rfl) _ rfl dX5_traffic_119 [x_nvQ w z12] rfl ?_
        rcases z12 with _ | t12
        · refine x_st [.null] rfl ?_
          refine x_astoreN dX5_traffic_122 (Nat.le_of_ble_eq_true rfl) [(12, .null), (11, .null), (10, .int t8), (5, .long t7), (0, .ref (w.2.2 4 20 0 0)), (2, .int a2), (3, .int a3), (4, .int a4), (7, .int a7), (8, .int a8), (9, .int a9)] rfl ?_
          refine x_iload dX5_traffic_124 8 rfl ?_
          refine x_aload_n dX5_traffic_126 rfl 4 rfl ?_
          refine x_aloadN dX5_traffic_127 1 rfl ?_
          refine x_aloadN dX5_traffic_129 0 rfl ?_
          refine x_iload dX5_traffic_131 2 rfl ?_
          refine x_bipush (x := 32) dX5_traffic_133 rfl ?_
          refine x_idiv dX5_traffic_135 (by decide) ?_
          refine x_bipush (x := 12) dX5_traffic_136 rfl ?_
          refine x_irem dX5_traffic_138 (by decide) ?_
          refine x_iconst (x := 1) dX5_traffic_139 rfl ?_
          refine x_iadd dX5_traffic_140 ?_
          refine x_iconst (x := 1) dX5_traffic_141 rfl ?_
          obtain ⟨z13, s13, h13, h⟩ := x_b_e h
          refine x_callV (As := [.null, .null, .int (((t8 / 32) - (t8 / 32) / 12 * 12) + 1), .int 1]) (st := [.int a7]) (eX5_lossOfArrivals (o1 := none) (o2 := none)  h13) cv_X5_157 (Nat.le_of_ble_eq_true rfl) ok_e20 rfl (Nat.le_of_ble_eq_true rfl) _ rfl dX5_traffic_142 [.int z13, .int a7] rfl ?_
          refine x_iadd dX5_traffic_145 ?_
          obtain ⟨t14, ht14, h⟩ := x_let_e h
          refine x_istore t14 ht14 dX5_traffic_146 (Nat.le_of_ble_eq_true rfl) [(7, .int t14), (12, .null), (11, .null), (10, .int t8), (5, .long t7), (0, .ref (w.2.2 4 20 0 0)), (2, .int a2), (3, .int a3), (4, .int a4), (8, .int a8), (9, .int a9)] rfl ?_
          obtain ⟨t15, ht15, h⟩ := x_let_e h
          refine x_iinc t15 1 rfl ht15 dX5_traffic_148 10 rfl (Nat.le_of_ble_eq_true rfl) [(9, .int t15), (7, .int t14), (12, .null), (11, .null), (10, .int t8), (5, .long t7), (0, .ref (w.2.2 4 20 0 0)), (2, .int a2), (3, .int a3), (4, .int a4), (8, .int a8)] rfl ?_
          refine x_goto (tgt := 58) dX5_traffic_151 rfl ?_
          refine x_sub (L1 := [(0, .ref (w.2.2 4 20 0 0)), (2, .int a2), (3, .int a3), (4, .int a4), (5, .long t7), (7, .int t14), (8, .int a8), (9, .int t15)]) [6, 7, 8, 9, 5, 1, 10, 0] rfl ?_
          exact ih _ _ _ _ h
        · obtain ⟨hg12, h⟩ := x_g_e h
          refine x_st [.ref (w.2.2 t12.1 16 t12.2.1 t12.2.2)] rfl ?_
          refine x_astore dX5_traffic_122 (Nat.le_of_ble_eq_true rfl) [(12, .ref (w.2.2 t12.1 16 t12.2.1 t12.2.2)), (11, .null), (10, .int t8), (5, .long t7), (0, .ref (w.2.2 4 20 0 0)), (2, .int a2), (3, .int a3), (4, .int a4), (7, .int a7), (8, .int a8), (9, .int a9)] rfl ?_
          refine x_iload dX5_traffic_124 8 rfl ?_
          refine x_aload_n dX5_traffic_126 rfl 4 rfl ?_
          refine x_aloadN dX5_traffic_127 1 rfl ?_
          refine x_aload dX5_traffic_129 0 rfl ?_
          refine x_iload dX5_traffic_131 2 rfl ?_
          refine x_bipush (x := 32) dX5_traffic_133 rfl ?_
          refine x_idiv dX5_traffic_135 (by decide) ?_
          refine x_bipush (x := 12) dX5_traffic_136 rfl ?_
          refine x_irem dX5_traffic_138 (by decide) ?_
          refine x_iconst (x := 1) dX5_traffic_139 rfl ?_
          refine x_iadd dX5_traffic_140 ?_
          refine x_iconst (x := 1) dX5_traffic_141 rfl ?_
          obtain ⟨z16, s16, h16, h⟩ := x_b_e h
          refine x_callV (As := [.null, .ref (w.2.2 t12.1 16 t12.2.1 t12.2.2), .int (((t8 / 32) - (t8 / 32) / 12 * 12) + 1), .int 1]) (st := [.int a7]) (eX5_lossOfArrivals (o1 := none) (o2 := (some (t12.1, t12.2.1, t12.2.2)))  h16) cv_X5_157 (Nat.le_of_ble_eq_true rfl) ok_e20 rfl (Nat.le_of_ble_eq_true rfl) _ rfl dX5_traffic_142 [.int z16, .int a7] rfl ?_
          refine x_iadd dX5_traffic_145 ?_
          obtain ⟨t17, ht17, h⟩ := x_let_e h
          refine x_istore t17 ht17 dX5_traffic_146 (Nat.le_of_ble_eq_true rfl) [(7, .int t17), (12, .ref (w.2.2 t12.1 16 t12.2.1 t12.2.2)), (11, .null), (10, .int t8), (5, .long t7), (0, .ref (w.2.2 4 20 0 0)), (2, .int a2), (3, .int a3), (4, .int a4), (8, .int a8), (9, .int a9)] rfl ?_
          obtain ⟨t18, ht18, h⟩ := x_let_e h
          refine x_iinc t18 1 rfl ht18 dX5_traffic_148 10 rfl (Nat.le_of_ble_eq_true rfl) [(9, .int t18), (7, .int t17), (12, .ref (w.2.2 t12.1 16 t12.2.1 t12.2.2)), (11, .null), (10, .int t8), (5, .long t7), (0, .ref (w.2.2 4 20 0 0)), (2, .int a2), (3, .int a3), (4, .int a4), (8, .int a8)] rfl ?_
          refine x_goto (tgt := 58) dX5_traffic_151 rfl ?_
          refine x_sub (L1 := [(0, .ref (w.2.2 4 20 0 0)), (2, .int a2), (3, .int a3), (4, .int a4), (5, .long t7), (7, .int t17), (8, .int a8), (9, .int t18)]) [6, 7, 8, 9, 5, 1, 10, 0] rfl ?_
          exact ih _ _ _ _ h
      · obtain ⟨hg10, h⟩ := x_g_e h
        refine x_st [.ref (w.2.2 t10.1 13 t10.2 0)] rfl ?_
        refine x_astore dX5_traffic_101 (Nat.le_of_ble_eq_true rfl) [(11, .ref (w.2.2 t10.1 13 t10.2 0)), (10, .int t8), (5, .long t7), (0, .ref (w.2.2 4 20 0 0)), (2, .int a2), (3, .int a3), (4, .int a4), (7, .int a7), (8, .int a8), (9, .int a9)] rfl ?_
        refine x_aload_n dX5_traffic_103 rfl 3 rfl ?_
        refine x_getR (d1 := 0) (K1 := 0) (p1 := 0) (r1 := 0) fl_X5_10 ok_e20 rfl dX5_traffic_104 ?_
        refine x_iload dX5_traffic_107 1 rfl ?_
        refine x_iload dX5_traffic_109 6 rfl ?_
        obtain ⟨hg19, h⟩ := x_nz_e h
        refine x_irem dX5_traffic_111 hg19 ?_
        refine x_iload dX5_traffic_112 1 rfl ?_
        refine x_bipush (x := 8) dX5_traffic_114 rfl ?_
        refine x_idiv dX5_traffic_116 (by decide) ?_
        refine x_iconst (x := 3) dX5_traffic_117 rfl ?_
        refine x_irem dX5_traffic_118 (by decide) ?_
        obtain ⟨z20, s20, h20, h⟩ := x_b_e h
        refine x_callV (As := [.int (t8 - t8 / a4 * a4), .int ((t8 / 8) - (t8 / 8) / 3 * 3)]) (st := []) (eX0_queueAt (Nat.le_of_ble_eq_true rfl) h20) cv_X5_74 (Nat.le_of_ble_eq_true rfl) (ok_a (K := 0) (Nat.le_of_ble_eq_true rfl) (Nat.le_of_ble_eq_true rfl)) rfl (Nat.le_of_ble_eq_true rfl) _ rfl dX5_traffic_119 [x_nvQ w z20] rfl ?_
        rcases z20 with _ | t20
        · refine x_st [.null] rfl ?_
          refine x_astoreN dX5_traffic_122 (Nat.le_of_ble_eq_true rfl) [(12, .null), (11, .ref (w.2.2 t10.1 13 t10.2 0)), (10, .int t8), (5, .long t7), (0, .ref (w.2.2 4 20 0 0)), (2, .int a2), (3, .int a3), (4, .int a4), (7, .int a7), (8, .int a8), (9, .int a9)] rfl ?_
          refine x_iload dX5_traffic_124 8 rfl ?_
          refine x_aload_n dX5_traffic_126 rfl 4 rfl ?_
          refine x_aload dX5_traffic_127 1 rfl ?_
          refine x_aloadN dX5_traffic_129 0 rfl ?_
          refine x_iload dX5_traffic_131 2 rfl ?_
          refine x_bipush (x := 32) dX5_traffic_133 rfl ?_
          refine x_idiv dX5_traffic_135 (by decide) ?_
          refine x_bipush (x := 12) dX5_traffic_136 rfl ?_
          refine x_irem dX5_traffic_138 (by decide) ?_
          refine x_iconst (x := 1) dX5_traffic_139 rfl ?_
          refine x_iadd dX5_traffic_140 ?_
          refine x_iconst (x := 1) dX5_traffic_141 rfl ?_
          obtain ⟨z21, s21, h21, h⟩ := x_b_e h
          refine x_callV (As := [.ref (w.2.2 t10.1 13 t10.2 0), .null, .int (((t8 / 32) - (t8 / 32) / 12 * 12) + 1), .int 1]) (st := [.int a7]) (eX5_lossOfArrivals (o1 := (some (t10.1, t10.2))) (o2 := none)  h21) cv_X5_157 (Nat.le_of_ble_eq_true rfl) ok_e20 rfl (Nat.le_of_ble_eq_true rfl) _ rfl dX5_traffic_142 [.int z21, .int a7] rfl ?_
          refine x_iadd dX5_traffic_145 ?_
          obtain ⟨t22, ht22, h⟩ := x_let_e h
          refine x_istore t22 ht22 dX5_traffic_146 (Nat.le_of_ble_eq_true rfl) [(7, .int t22), (12, .null), (11, .ref (w.2.2 t10.1 13 t10.2 0)), (10, .int t8), (5, .long t7), (0, .ref (w.2.2 4 20 0 0)), (2, .int a2), (3, .int a3), (4, .int a4), (8, .int a8), (9, .int a9)] rfl ?_
          obtain ⟨t23, ht23, h⟩ := x_let_e h
          refine x_iinc t23 1 rfl ht23 dX5_traffic_148 10 rfl (Nat.le_of_ble_eq_true rfl) [(9, .int t23), (7, .int t22), (12, .null), (11, .ref (w.2.2 t10.1 13 t10.2 0)), (10, .int t8), (5, .long t7), (0, .ref (w.2.2 4 20 0 0)), (2, .int a2), (3, .int a3), (4, .int a4), (8, .int a8)] rfl ?_
          refine x_goto (tgt := 58) dX5_traffic_151 rfl ?_
          refine x_sub (L1 := [(0, .ref (w.2.2 4 20 0 0)), (2, .int a2), (3, .int a3), (4, .int a4), (5, .long t7), (7, .int t22), (8, .int a8), (9, .int t23)]) [6, 7, 8, 9, 5, 1, 10, 0] rfl ?_
          exact ih _ _ _ _ h
        · obtain ⟨hg20, h⟩ := x_g_e h
          refine x_st [.ref (w.2.2 t20.1 16 t20.2.1 t20.2.2)] rfl ?_
          refine x_astore dX5_traffic_122 (Nat.le_of_ble_eq_true rfl) [(12, .ref (w.2.2 t20.1 16 t20.2.1 t20.2.2)), (11, .ref (w.2.2 t10.1 13 t10.2 0)), (10, .int t8), (5, .long t7), (0, .ref (w.2.2 4 20 0 0)), (2, .int a2), (3, .int a3), (4, .int a4), (7, .int a7), (8, .int a8), (9, .int a9)] rfl ?_
          refine x_iload dX5_traffic_124 8 rfl ?_
          refine x_aload_n dX5_traffic_126 rfl 4 rfl ?_
          refine x_aload dX5_traffic_127 1 rfl ?_
          refine x_aload dX5_traffic_129 0 rfl ?_
          refine x_iload dX5_traffic_131 2 rfl ?_
          refine x_bipush (x := 32) dX5_traffic_133 rfl ?_
          refine x_idiv dX5_traffic_135 (by decide) ?_
          refine x_bipush (x := 12) dX5_traffic_136 rfl ?_
          refine x_irem dX5_traffic_138 (by decide) ?_
          refine x_iconst (x := 1) dX5_traffic_139 rfl ?_
          refine x_iadd dX5_traffic_140 ?_
          refine x_iconst (x := 1) dX5_traffic_141 rfl ?_
          obtain ⟨z24, s24, h24, h⟩ := x_b_e h
          refine x_callV (As := [.ref (w.2.2 t10.1 13 t10.2 0), .ref (w.2.2 t20.1 16 t20.2.1 t20.2.2), .int (((t8 / 32) - (t8 / 32) / 12 * 12) + 1), .int 1]) (st := [.int a7]) (eX5_lossOfArrivals (o1 := (some (t10.1, t10.2))) (o2 := (some (t20.1, t20.2.1, t20.2.2)))  h24) cv_X5_157 (Nat.le_of_ble_eq_true rfl) ok_e20 rfl (Nat.le_of_ble_eq_true rfl) _ rfl dX5_traffic_142 [.int z24, .int a7] rfl ?_
          refine x_iadd dX5_traffic_145 ?_
          obtain ⟨t25, ht25, h⟩ := x_let_e h
          refine x_istore t25 ht25 dX5_traffic_146 (Nat.le_of_ble_eq_true rfl) [(7, .int t25), (12, .ref (w.2.2 t20.1 16 t20.2.1 t20.2.2)), (11, .ref (w.2.2 t10.1 13 t10.2 0)), (10, .int t8), (5, .long t7), (0, .ref (w.2.2 4 20 0 0)), (2, .int a2), (3, .int a3), (4, .int a4), (8, .int a8), (9, .int a9)] rfl ?_
          obtain ⟨t26, ht26, h⟩ := x_let_e h
          refine x_iinc t26 1 rfl ht26 dX5_traffic_148 10 rfl (Nat.le_of_ble_eq_true rfl) [(9, .int t26), (7, .int t25), (12, .ref (w.2.2 t20.1 16 t20.2.1 t20.2.2)), (11, .ref (w.2.2 t10.1 13 t10.2 0)), (10, .int t8), (5, .long t7), (0, .ref (w.2.2 4 20 0 0)), (2, .int a2), (3, .int a3), (4, .int a4), (8, .int a8)] rfl ?_
          refine x_goto (tgt := 58) dX5_traffic_151 rfl ?_
          refine x_sub (L1 := [(0, .ref (w.2.2 4 20 0 0)), (2, .int a2), (3, .int a3), (4, .int a4), (5, .long t7), (7, .int t25), (8, .int a8), (9, .int t26)]) [6, 7, 8, 9, 5, 1, 10, 0] rfl ?_
          exact ih _ _ _ _ h
def BX5_traffic_49 (a2 : Int32) (a3 : Int32) (a4 : Int32) : Nat → Int64 → Int32 → Int32 → xS → Option (Int32 × xS)
  | 0, _, _, _, _ => none
  | n + 1, g5, a7, a8, σ => if a2 ≤ a8 then (some (a7, σ)) else (BX5_traffic_58 a2 a3 a4 a8 (BX5_traffic_49 a2 a3 a4 n) x_FU g5 a7 0 σ)
set_option maxRecDepth 100000 in
set_option maxHeartbeats 4000000 in
theorem TX5_traffic_49 {l : Launch} {w : xW} {a2 : Int32} {a3 : Int32} {a4 : Int32} {τ : xS} {r : Int32} : ∀ (n : Nat) (g5 : Int64) (a7 : Int32) (a8 : Int32) (σ : xS), BX5_traffic_49 a2 a3 a4 n g5 a7 a8 σ = some (r, τ) → xAt l w mX5_traffic 49 [(0, .ref (w.2.2 4 20 0 0)), (2, .int a2), (3, .int a3), (4, .int a4), (5, .long g5), (7, .int a7), (8, .int a8)] [] σ (some (.int r)) τ := by
  intro n
  induction n with
  | zero => intro g5 a7 a8 σ h; cases h
  | succ n ih =>
    intro g5 a7 a8 σ h
    rw [BX5_traffic_49] at h
    refine x_iload dX5_traffic_49 6 rfl ?_
    refine x_iload_n dX5_traffic_51 rfl 1 rfl ?_
    refine x_icmp_ge (tgt := 168) dX5_traffic_52 rfl (fun hc => ?_) (fun hc => ?_)
    · have h := x_t hc h
      refine x_iload dX5_traffic_168 5 rfl ?_
      exact x_iretH rfl dX5_traffic_170 h
    · have h := x_f hc h
      refine x_iconst (x := 0) dX5_traffic_55 rfl ?_
      refine x_istore 0 rfl dX5_traffic_56 (Nat.le_of_ble_eq_true rfl) [(9, .int 0), (0, .ref (w.2.2 4 20 0 0)), (2, .int a2), (3, .int a3), (4, .int a4), (5, .long g5), (7, .int a7), (8, .int a8)] rfl ?_
      refine x_sub (L1 := [(0, .ref (w.2.2 4 20 0 0)), (2, .int a2), (3, .int a3), (4, .int a4), (5, .long g5), (7, .int a7), (8, .int a8), (9, .int 0)]) [1, 2, 3, 4, 5, 6, 7, 0] rfl ?_
      exact TX5_traffic_58 ih _ _ _ _ _ h
def fX5_traffic (a1 : Int32) (a2 : Int32) (a3 : Int32) (σ : xS) : Option (Int32 × xS) :=
  if a1 < 0 then (some ((-2), σ)) else (x_b (fX5_isOutside a2 1 16 σ) fun z1 s1 => if z1 = 0 then (x_b (fX5_isOutside a3 1 3 s1) fun z2 s2 => if z2 = 0 then (x_let (i_max 1 (s2 0 0 0 0 2)) fun t3 => x_let a1.toInt64 fun t4 => BX5_traffic_49 a2 a3 t3 x_FU t4 0 0 s2) else (some ((-2), s2))) else (some ((-2), s1)))
set_option maxRecDepth 100000 in
set_option maxHeartbeats 4000000 in
theorem eX5_traffic {l : Launch} {w : xW} {a1 : Int32} {a2 : Int32} {a3 : Int32} {σ τ : xS} {r : Int32} (h : fX5_traffic a1 a2 a3 σ = some (r, τ)) : xEV l w yX5_traffic mX5_traffic [.ref (w.2.2 4 20 0 0), .int a1, .int a2, .int a3] σ (some (.int r)) τ := by
  rw [fX5_traffic] at h
  refine x_enter (by decide +kernel) rfl (Nat.le_of_ble_eq_true rfl) ?_
  refine x_sub (L1 := [(0, .ref (w.2.2 4 20 0 0)), (1, .int a1), (2, .int a2), (3, .int a3)]) [0, 1, 2, 3] rfl ?_
  refine x_iload_n dX5_traffic_0 rfl 1 rfl ?_
  refine x_if_lt (tgt := 23) dX5_traffic_1 rfl (fun hc => ?_) (fun hc => ?_)
  · have h := x_t hc h
    refine x_bipush (x := (-2)) dX5_traffic_23 (by decide) ?_
    exact x_iretH rfl dX5_traffic_25 h
  · have h := x_f hc h
    refine x_iload_n dX5_traffic_4 rfl 2 rfl ?_
    refine x_iconst (x := 1) dX5_traffic_5 rfl ?_
    refine x_bipush (x := 16) dX5_traffic_6 rfl ?_
    obtain ⟨z1, s1, h1, h⟩ := x_b_e h
    refine x_callS (As := [.int a2, .int 1, .int 16]) (st := []) (eX5_isOutside  h1) cs_X5_38 (Nat.le_of_ble_eq_true rfl) rfl (Nat.le_of_ble_eq_true rfl) _ rfl dX5_traffic_8 [.int z1] rfl ?_
    refine x_if_ne (tgt := 23) dX5_traffic_11 rfl (fun hc => ?_) (fun hc => ?_)
    · have h := x_f hc h
      refine x_bipush (x := (-2)) dX5_traffic_23 (by decide) ?_
      exact x_iretH rfl dX5_traffic_25 h
    · have h := x_t hc h
      refine x_iload_n dX5_traffic_14 rfl 3 rfl ?_
      refine x_iconst (x := 1) dX5_traffic_15 rfl ?_
      refine x_iconst (x := 3) dX5_traffic_16 rfl ?_
      obtain ⟨z2, s2, h2, h⟩ := x_b_e h
      refine x_callS (As := [.int a3, .int 1, .int 3]) (st := []) (eX5_isOutside  h2) cs_X5_38 (Nat.le_of_ble_eq_true rfl) rfl (Nat.le_of_ble_eq_true rfl) _ rfl dX5_traffic_17 [.int z2] rfl ?_
      refine x_if_eq (tgt := 26) dX5_traffic_20 rfl (fun hc => ?_) (fun hc => ?_)
      · have h := x_t hc h
        refine x_iconst (x := 1) dX5_traffic_26 rfl ?_
        refine x_aload_n dX5_traffic_27 rfl 0 rfl ?_
        refine x_getR (d1 := 0) (K1 := 0) (p1 := 0) (r1 := 0) fl_X5_10 ok_e20 rfl dX5_traffic_28 ?_
        refine x_getI fl_X5_140 (ok_a (K := 0) (Nat.le_of_ble_eq_true rfl) (Nat.le_of_ble_eq_true rfl)) rfl dX5_traffic_31 ?_
        refine x_max lk_X5_143 w_max (Nat.le_of_ble_eq_true rfl) (Nat.le_of_ble_eq_true rfl) dX5_traffic_34 ?_
        obtain ⟨t3, ht3, h⟩ := x_let_e h
        refine x_istore t3 ht3 dX5_traffic_37 (Nat.le_of_ble_eq_true rfl) [(4, .int t3), (0, .ref (w.2.2 4 20 0 0)), (1, .int a1), (2, .int a2), (3, .int a3)] rfl ?_
        refine x_iload_n dX5_traffic_39 rfl 2 rfl ?_
        refine x_i2l dX5_traffic_40 ?_
        obtain ⟨t4, ht4, h⟩ := x_let_e h
        refine x_lstore t4 ht4 dX5_traffic_41 (Nat.le_of_ble_eq_true rfl) [(5, .long t4), (4, .int t3), (0, .ref (w.2.2 4 20 0 0)), (1, .int a1), (2, .int a2), (3, .int a3)] rfl ?_
        refine x_iconst (x := 0) dX5_traffic_43 rfl ?_
        refine x_istore 0 rfl dX5_traffic_44 (Nat.le_of_ble_eq_true rfl) [(7, .int 0), (5, .long t4), (4, .int t3), (0, .ref (w.2.2 4 20 0 0)), (1, .int a1), (2, .int a2), (3, .int a3)] rfl ?_
        refine x_iconst (x := 0) dX5_traffic_46 rfl ?_
        refine x_istore 0 rfl dX5_traffic_47 (Nat.le_of_ble_eq_true rfl) [(8, .int 0), (7, .int 0), (5, .long t4), (4, .int t3), (0, .ref (w.2.2 4 20 0 0)), (1, .int a1), (2, .int a2), (3, .int a3)] rfl ?_
        refine x_sub (L1 := [(0, .ref (w.2.2 4 20 0 0)), (2, .int a2), (3, .int a3), (4, .int t3), (5, .long t4), (7, .int 0), (8, .int 0)]) [4, 6, 7, 3, 2, 1, 0] rfl ?_
        exact TX5_traffic_49 _ _ _ _ _ h
      · have h := x_f hc h
        refine x_bipush (x := (-2)) dX5_traffic_23 (by decide) ?_
        exact x_iretH rfl dX5_traffic_25 h
def fX5_freeShared (σ : xS) : Option (Int32 × xS) :=
  x_b (fX0_sharedLeft 0 σ) fun z1 s1 => some (z1, s1)
set_option maxRecDepth 100000 in
set_option maxHeartbeats 4000000 in
theorem eX5_freeShared {l : Launch} {w : xW} {σ τ : xS} {r : Int32} (h : fX5_freeShared σ = some (r, τ)) : xEV l w yX5_freeShared mX5_freeShared [.ref (w.2.2 4 20 0 0)] σ (some (.int r)) τ := by
  rw [fX5_freeShared] at h
  refine x_enter (by decide +kernel) rfl (Nat.le_of_ble_eq_true rfl) ?_
  refine x_sub (L1 := [(0, .ref (w.2.2 4 20 0 0))]) [0] rfl ?_
  refine x_aload_n dX5_freeShared_0 rfl 0 rfl ?_
  refine x_getR (d1 := 0) (K1 := 0) (p1 := 0) (r1 := 0) fl_X5_10 ok_e20 rfl dX5_freeShared_1 ?_
  obtain ⟨z1, s1, h1, h⟩ := x_b_e h
  refine x_callV (As := []) (st := []) (eX0_sharedLeft (Nat.le_of_ble_eq_true rfl) h1) cv_X5_61 (Nat.le_of_ble_eq_true rfl) (ok_a (K := 0) (Nat.le_of_ble_eq_true rfl) (Nat.le_of_ble_eq_true rfl)) rfl (Nat.le_of_ble_eq_true rfl) _ rfl dX5_freeShared_4 [.int z1] rfl ?_
  exact x_iretH rfl dX5_freeShared_7 h
def fX5_sharedPool (σ : xS) : Option (Int32 × xS) :=
  x_b (fX0_poolSize 0 σ) fun z1 s1 => some (z1, s1)
set_option maxRecDepth 100000 in
set_option maxHeartbeats 4000000 in
theorem eX5_sharedPool {l : Launch} {w : xW} {σ τ : xS} {r : Int32} (h : fX5_sharedPool σ = some (r, τ)) : xEV l w yX5_sharedPool mX5_sharedPool [.ref (w.2.2 4 20 0 0)] σ (some (.int r)) τ := by
  rw [fX5_sharedPool] at h
  refine x_enter (by decide +kernel) rfl (Nat.le_of_ble_eq_true rfl) ?_
  refine x_sub (L1 := [(0, .ref (w.2.2 4 20 0 0))]) [0] rfl ?_
  refine x_aload_n dX5_sharedPool_0 rfl 0 rfl ?_
  refine x_getR (d1 := 0) (K1 := 0) (p1 := 0) (r1 := 0) fl_X5_10 ok_e20 rfl dX5_sharedPool_1 ?_
  obtain ⟨z1, s1, h1, h⟩ := x_b_e h
  refine x_callV (As := []) (st := []) (eX0_poolSize (Nat.le_of_ble_eq_true rfl) h1) cv_X5_161 (Nat.le_of_ble_eq_true rfl) (ok_a (K := 0) (Nat.le_of_ble_eq_true rfl) (Nat.le_of_ble_eq_true rfl)) rfl (Nat.le_of_ble_eq_true rfl) _ rfl dX5_sharedPool_4 [.int z1] rfl ?_
  exact x_iretH rfl dX5_sharedPool_7 h
def fX5_freeGuarantee (a1 : Int32) (σ : xS) : Option (Int32 × xS) :=
  x_b (fX0_portAt 0 a1 σ) fun z1 s1 => match z1 with | none => (some ((-1), s1)) | some t1 => x_g (ok2 t1) (x_b (fX2_guaranteeLeft t1.1 t1.2 s1) fun z2 s2 => some (z2, s2))
set_option maxRecDepth 100000 in
set_option maxHeartbeats 4000000 in
theorem eX5_freeGuarantee {l : Launch} {w : xW} {a1 : Int32} {σ τ : xS} {r : Int32} (h : fX5_freeGuarantee a1 σ = some (r, τ)) : xEV l w yX5_freeGuarantee mX5_freeGuarantee [.ref (w.2.2 4 20 0 0), .int a1] σ (some (.int r)) τ := by
  rw [fX5_freeGuarantee] at h
  refine x_enter (by decide +kernel) rfl (Nat.le_of_ble_eq_true rfl) ?_
  refine x_sub (L1 := [(0, .ref (w.2.2 4 20 0 0)), (1, .int a1)]) [0, 1] rfl ?_
  refine x_aload_n dX5_freeGuarantee_0 rfl 0 rfl ?_
  refine x_getR (d1 := 0) (K1 := 0) (p1 := 0) (r1 := 0) fl_X5_10 ok_e20 rfl dX5_freeGuarantee_1 ?_
  refine x_iload_n dX5_freeGuarantee_4 rfl 1 rfl ?_
  obtain ⟨z1, s1, h1, h⟩ := x_b_e h
  refine x_callV (As := [.int a1]) (st := []) (eX0_portAt (Nat.le_of_ble_eq_true rfl) h1) cv_X5_52 (Nat.le_of_ble_eq_true rfl) (ok_a (K := 0) (Nat.le_of_ble_eq_true rfl) (Nat.le_of_ble_eq_true rfl)) rfl (Nat.le_of_ble_eq_true rfl) _ rfl dX5_freeGuarantee_5 [x_nvP w z1] rfl ?_
  rcases z1 with _ | t1
  · refine x_st [.null] rfl ?_
    refine x_astore_nN dX5_freeGuarantee_8 rfl (Nat.le_of_ble_eq_true rfl) [(2, .null), (0, .ref (w.2.2 4 20 0 0)), (1, .int a1)] rfl ?_
    refine x_aload_nN dX5_freeGuarantee_9 rfl 0 rfl ?_
    refine x_ifnonnullN dX5_freeGuarantee_10 ?_
    refine x_iconst (x := (-1)) dX5_freeGuarantee_13 (by decide) ?_
    refine x_goto (tgt := 21) dX5_freeGuarantee_14 rfl ?_
    exact x_iretH rfl dX5_freeGuarantee_21 h
  · obtain ⟨hg1, h⟩ := x_g_e h
    refine x_st [.ref (w.2.2 t1.1 13 t1.2 0)] rfl ?_
    refine x_astore_n dX5_freeGuarantee_8 rfl (Nat.le_of_ble_eq_true rfl) [(2, .ref (w.2.2 t1.1 13 t1.2 0)), (0, .ref (w.2.2 4 20 0 0)), (1, .int a1)] rfl ?_
    refine x_aload_n dX5_freeGuarantee_9 rfl 0 rfl ?_
    refine x_ifnonnullR (tgt := 17) dX5_freeGuarantee_10 rfl ?_
    refine x_aload_n dX5_freeGuarantee_17 rfl 0 rfl ?_
    obtain ⟨z2, s2, h2, h⟩ := x_b_e h
    refine x_callV (As := []) (st := []) (eX2_guaranteeLeft (ok2_d hg1) (ok2_p hg1) h2) cv_X5_164 (Nat.le_of_ble_eq_true rfl) (ok_b (K := 13) (Nat.le_of_ble_eq_true rfl) (Nat.le_of_ble_eq_true rfl) (ok2_d hg1) (ok2_p hg1)) rfl (Nat.le_of_ble_eq_true rfl) _ rfl dX5_freeGuarantee_18 [.int z2] rfl ?_
    exact x_iretH rfl dX5_freeGuarantee_21 h
def fX5_grantOf (a1 : Int32) (σ : xS) : Option (Int32 × xS) :=
  x_b (fX0_portAt 0 a1 σ) fun z1 s1 => match z1 with | none => (some ((-1), s1)) | some t1 => x_g (ok2 t1) (some ((s1 t1.1 13 t1.2 0 4), s1))
set_option maxRecDepth 100000 in
set_option maxHeartbeats 4000000 in
theorem eX5_grantOf {l : Launch} {w : xW} {a1 : Int32} {σ τ : xS} {r : Int32} (h : fX5_grantOf a1 σ = some (r, τ)) : xEV l w yX5_grantOf mX5_grantOf [.ref (w.2.2 4 20 0 0), .int a1] σ (some (.int r)) τ := by
  rw [fX5_grantOf] at h
  refine x_enter (by decide +kernel) rfl (Nat.le_of_ble_eq_true rfl) ?_
  refine x_sub (L1 := [(0, .ref (w.2.2 4 20 0 0)), (1, .int a1)]) [0, 1] rfl ?_
  refine x_aload_n dX5_grantOf_0 rfl 0 rfl ?_
  refine x_getR (d1 := 0) (K1 := 0) (p1 := 0) (r1 := 0) fl_X5_10 ok_e20 rfl dX5_grantOf_1 ?_
  refine x_iload_n dX5_grantOf_4 rfl 1 rfl ?_
  obtain ⟨z1, s1, h1, h⟩ := x_b_e h
  refine x_callV (As := [.int a1]) (st := []) (eX0_portAt (Nat.le_of_ble_eq_true rfl) h1) cv_X5_52 (Nat.le_of_ble_eq_true rfl) (ok_a (K := 0) (Nat.le_of_ble_eq_true rfl) (Nat.le_of_ble_eq_true rfl)) rfl (Nat.le_of_ble_eq_true rfl) _ rfl dX5_grantOf_5 [x_nvP w z1] rfl ?_
  rcases z1 with _ | t1
  · refine x_st [.null] rfl ?_
    refine x_astore_nN dX5_grantOf_8 rfl (Nat.le_of_ble_eq_true rfl) [(2, .null), (0, .ref (w.2.2 4 20 0 0)), (1, .int a1)] rfl ?_
    refine x_aload_nN dX5_grantOf_9 rfl 0 rfl ?_
    refine x_ifnonnullN dX5_grantOf_10 ?_
    refine x_iconst (x := (-1)) dX5_grantOf_13 (by decide) ?_
    refine x_goto (tgt := 21) dX5_grantOf_14 rfl ?_
    exact x_iretH rfl dX5_grantOf_21 h
  · obtain ⟨hg1, h⟩ := x_g_e h
    refine x_st [.ref (w.2.2 t1.1 13 t1.2 0)] rfl ?_
    refine x_astore_n dX5_grantOf_8 rfl (Nat.le_of_ble_eq_true rfl) [(2, .ref (w.2.2 t1.1 13 t1.2 0)), (0, .ref (w.2.2 4 20 0 0)), (1, .int a1)] rfl ?_
    refine x_aload_n dX5_grantOf_9 rfl 0 rfl ?_
    refine x_ifnonnullR (tgt := 17) dX5_grantOf_10 rfl ?_
    refine x_aload_n dX5_grantOf_17 rfl 0 rfl ?_
    refine x_getI fl_X5_122 (ok_b (K := 13) (Nat.le_of_ble_eq_true rfl) (Nat.le_of_ble_eq_true rfl) (ok2_d hg1) (ok2_p hg1)) rfl dX5_grantOf_18 ?_
    exact x_iretH rfl dX5_grantOf_21 h
def fX5_threshold (a1 : Int32) (a2 : Int32) (σ : xS) : Option (Int32 × xS) :=
  x_b (fX0_queueAt 0 a1 a2 σ) fun z1 s1 => match z1 with | none => (some ((-1), s1)) | some t1 => x_g (ok3 t1) (x_b (fX0_sharedLeft 0 s1) fun z2 s2 => x_b (fX3_limitWith t1.1 t1.2.1 t1.2.2 z2 s2) fun z3 s3 => some (z3, s3))
set_option maxRecDepth 100000 in
set_option maxHeartbeats 4000000 in
theorem eX5_threshold {l : Launch} {w : xW} {a1 : Int32} {a2 : Int32} {σ τ : xS} {r : Int32} (h : fX5_threshold a1 a2 σ = some (r, τ)) : xEV l w yX5_threshold mX5_threshold [.ref (w.2.2 4 20 0 0), .int a1, .int a2] σ (some (.int r)) τ := by
  rw [fX5_threshold] at h
  refine x_enter (by decide +kernel) rfl (Nat.le_of_ble_eq_true rfl) ?_
  refine x_sub (L1 := [(0, .ref (w.2.2 4 20 0 0)), (1, .int a1), (2, .int a2)]) [0, 1, 2] rfl ?_
  refine x_aload_n dX5_threshold_0 rfl 0 rfl ?_
  refine x_getR (d1 := 0) (K1 := 0) (p1 := 0) (r1 := 0) fl_X5_10 ok_e20 rfl dX5_threshold_1 ?_
  refine x_iload_n dX5_threshold_4 rfl 1 rfl ?_
  refine x_iload_n dX5_threshold_5 rfl 2 rfl ?_
  obtain ⟨z1, s1, h1, h⟩ := x_b_e h
  refine x_callV (As := [.int a1, .int a2]) (st := []) (eX0_queueAt (Nat.le_of_ble_eq_true rfl) h1) cv_X5_74 (Nat.le_of_ble_eq_true rfl) (ok_a (K := 0) (Nat.le_of_ble_eq_true rfl) (Nat.le_of_ble_eq_true rfl)) rfl (Nat.le_of_ble_eq_true rfl) _ rfl dX5_threshold_6 [x_nvQ w z1] rfl ?_
  rcases z1 with _ | t1
  · refine x_st [.null] rfl ?_
    refine x_astore_nN dX5_threshold_9 rfl (Nat.le_of_ble_eq_true rfl) [(3, .null), (0, .ref (w.2.2 4 20 0 0)), (1, .int a1), (2, .int a2)] rfl ?_
    refine x_aload_nN dX5_threshold_10 rfl 0 rfl ?_
    refine x_ifnonnullN dX5_threshold_11 ?_
    refine x_iconst (x := (-1)) dX5_threshold_14 (by decide) ?_
    refine x_goto (tgt := 29) dX5_threshold_15 rfl ?_
    exact x_iretH rfl dX5_threshold_29 h
  · obtain ⟨hg1, h⟩ := x_g_e h
    refine x_st [.ref (w.2.2 t1.1 16 t1.2.1 t1.2.2)] rfl ?_
    refine x_astore_n dX5_threshold_9 rfl (Nat.le_of_ble_eq_true rfl) [(3, .ref (w.2.2 t1.1 16 t1.2.1 t1.2.2)), (0, .ref (w.2.2 4 20 0 0)), (1, .int a1), (2, .int a2)] rfl ?_
    refine x_aload_n dX5_threshold_10 rfl 0 rfl ?_
    refine x_ifnonnullR (tgt := 18) dX5_threshold_11 rfl ?_
    refine x_aload_n dX5_threshold_18 rfl 0 rfl ?_
    refine x_aload_n dX5_threshold_19 rfl 1 rfl ?_
    refine x_getR (d1 := 0) (K1 := 0) (p1 := 0) (r1 := 0) fl_X5_10 ok_e20 rfl dX5_threshold_20 ?_
    obtain ⟨z2, s2, h2, h⟩ := x_b_e h
    refine x_callV (As := []) (st := [.ref (w.2.2 t1.1 16 t1.2.1 t1.2.2)]) (eX0_sharedLeft (Nat.le_of_ble_eq_true rfl) h2) cv_X5_61 (Nat.le_of_ble_eq_true rfl) (ok_a (K := 0) (Nat.le_of_ble_eq_true rfl) (Nat.le_of_ble_eq_true rfl)) rfl (Nat.le_of_ble_eq_true rfl) _ rfl dX5_threshold_23 [.int z2, .ref (w.2.2 t1.1 16 t1.2.1 t1.2.2)] rfl ?_
    obtain ⟨z3, s3, h3, h⟩ := x_b_e h
    refine x_callV (As := [.int z2]) (st := []) (eX3_limitWith (ok3_d hg1) (ok3_p hg1) (ok3_r hg1) h3) cv_X5_167 (Nat.le_of_ble_eq_true rfl) (ok_c (ok3_d hg1) (ok3_p hg1) (ok3_r hg1)) rfl (Nat.le_of_ble_eq_true rfl) _ rfl dX5_threshold_26 [.int z3] rfl ?_
    exact x_iretH rfl dX5_threshold_29 h
def fX5_guaranteedCells (a1 : Int32) (a2 : Int32) (σ : xS) : Option (Int32 × xS) :=
  x_b (fX0_queueAt 0 a1 a2 σ) fun z1 s1 => match z1 with | none => (some ((-1), s1)) | some t1 => x_g (ok3 t1) (some ((s1 t1.1 16 t1.2.1 t1.2.2 10), s1))
set_option maxRecDepth 100000 in
set_option maxHeartbeats 4000000 in
theorem eX5_guaranteedCells {l : Launch} {w : xW} {a1 : Int32} {a2 : Int32} {σ τ : xS} {r : Int32} (h : fX5_guaranteedCells a1 a2 σ = some (r, τ)) : xEV l w yX5_guaranteedCells mX5_guaranteedCells [.ref (w.2.2 4 20 0 0), .int a1, .int a2] σ (some (.int r)) τ := by
  rw [fX5_guaranteedCells] at h
  refine x_enter (by decide +kernel) rfl (Nat.le_of_ble_eq_true rfl) ?_
  refine x_sub (L1 := [(0, .ref (w.2.2 4 20 0 0)), (1, .int a1), (2, .int a2)]) [0, 1, 2] rfl ?_
  refine x_aload_n dX5_guaranteedCells_0 rfl 0 rfl ?_
  refine x_getR (d1 := 0) (K1 := 0) (p1 := 0) (r1 := 0) fl_X5_10 ok_e20 rfl dX5_guaranteedCells_1 ?_
  refine x_iload_n dX5_guaranteedCells_4 rfl 1 rfl ?_
  refine x_iload_n dX5_guaranteedCells_5 rfl 2 rfl ?_
  obtain ⟨z1, s1, h1, h⟩ := x_b_e h
  refine x_callV (As := [.int a1, .int a2]) (st := []) (eX0_queueAt (Nat.le_of_ble_eq_true rfl) h1) cv_X5_74 (Nat.le_of_ble_eq_true rfl) (ok_a (K := 0) (Nat.le_of_ble_eq_true rfl) (Nat.le_of_ble_eq_true rfl)) rfl (Nat.le_of_ble_eq_true rfl) _ rfl dX5_guaranteedCells_6 [x_nvQ w z1] rfl ?_
  rcases z1 with _ | t1
  · refine x_st [.null] rfl ?_
    refine x_astore_nN dX5_guaranteedCells_9 rfl (Nat.le_of_ble_eq_true rfl) [(3, .null), (0, .ref (w.2.2 4 20 0 0)), (1, .int a1), (2, .int a2)] rfl ?_
    refine x_aload_nN dX5_guaranteedCells_10 rfl 0 rfl ?_
    refine x_ifnonnullN dX5_guaranteedCells_11 ?_
    refine x_iconst (x := (-1)) dX5_guaranteedCells_14 (by decide) ?_
    refine x_goto (tgt := 22) dX5_guaranteedCells_15 rfl ?_
    exact x_iretH rfl dX5_guaranteedCells_22 h
  · obtain ⟨hg1, h⟩ := x_g_e h
    refine x_st [.ref (w.2.2 t1.1 16 t1.2.1 t1.2.2)] rfl ?_
    refine x_astore_n dX5_guaranteedCells_9 rfl (Nat.le_of_ble_eq_true rfl) [(3, .ref (w.2.2 t1.1 16 t1.2.1 t1.2.2)), (0, .ref (w.2.2 4 20 0 0)), (1, .int a1), (2, .int a2)] rfl ?_
    refine x_aload_n dX5_guaranteedCells_10 rfl 0 rfl ?_
    refine x_ifnonnullR (tgt := 18) dX5_guaranteedCells_11 rfl ?_
    refine x_aload_n dX5_guaranteedCells_18 rfl 0 rfl ?_
    refine x_getI fl_X5_171 (ok_c (ok3_d hg1) (ok3_p hg1) (ok3_r hg1)) rfl dX5_guaranteedCells_19 ?_
    exact x_iretH rfl dX5_guaranteedCells_22 h
def fX5_sharedCells (a1 : Int32) (a2 : Int32) (σ : xS) : Option (Int32 × xS) :=
  x_b (fX0_queueAt 0 a1 a2 σ) fun z1 s1 => match z1 with | none => (some ((-1), s1)) | some t1 => x_g (ok3 t1) (some ((s1 t1.1 16 t1.2.1 t1.2.2 11), s1))
set_option maxRecDepth 100000 in
set_option maxHeartbeats 4000000 in
theorem eX5_sharedCells {l : Launch} {w : xW} {a1 : Int32} {a2 : Int32} {σ τ : xS} {r : Int32} (h : fX5_sharedCells a1 a2 σ = some (r, τ)) : xEV l w yX5_sharedCells mX5_sharedCells [.ref (w.2.2 4 20 0 0), .int a1, .int a2] σ (some (.int r)) τ := by
  rw [fX5_sharedCells] at h
  refine x_enter (by decide +kernel) rfl (Nat.le_of_ble_eq_true rfl) ?_
  refine x_sub (L1 := [(0, .ref (w.2.2 4 20 0 0)), (1, .int a1), (2, .int a2)]) [0, 1, 2] rfl ?_
  refine x_aload_n dX5_sharedCells_0 rfl 0 rfl ?_
  refine x_getR (d1 := 0) (K1 := 0) (p1 := 0) (r1 := 0) fl_X5_10 ok_e20 rfl dX5_sharedCells_1 ?_
  refine x_iload_n dX5_sharedCells_4 rfl 1 rfl ?_
  refine x_iload_n dX5_sharedCells_5 rfl 2 rfl ?_
  obtain ⟨z1, s1, h1, h⟩ := x_b_e h
  refine x_callV (As := [.int a1, .int a2]) (st := []) (eX0_queueAt (Nat.le_of_ble_eq_true rfl) h1) cv_X5_74 (Nat.le_of_ble_eq_true rfl) (ok_a (K := 0) (Nat.le_of_ble_eq_true rfl) (Nat.le_of_ble_eq_true rfl)) rfl (Nat.le_of_ble_eq_true rfl) _ rfl dX5_sharedCells_6 [x_nvQ w z1] rfl ?_
  rcases z1 with _ | t1
  · refine x_st [.null] rfl ?_
    refine x_astore_nN dX5_sharedCells_9 rfl (Nat.le_of_ble_eq_true rfl) [(3, .null), (0, .ref (w.2.2 4 20 0 0)), (1, .int a1), (2, .int a2)] rfl ?_
    refine x_aload_nN dX5_sharedCells_10 rfl 0 rfl ?_
    refine x_ifnonnullN dX5_sharedCells_11 ?_
    refine x_iconst (x := (-1)) dX5_sharedCells_14 (by decide) ?_
    refine x_goto (tgt := 22) dX5_sharedCells_15 rfl ?_
    exact x_iretH rfl dX5_sharedCells_22 h
  · obtain ⟨hg1, h⟩ := x_g_e h
    refine x_st [.ref (w.2.2 t1.1 16 t1.2.1 t1.2.2)] rfl ?_
    refine x_astore_n dX5_sharedCells_9 rfl (Nat.le_of_ble_eq_true rfl) [(3, .ref (w.2.2 t1.1 16 t1.2.1 t1.2.2)), (0, .ref (w.2.2 4 20 0 0)), (1, .int a1), (2, .int a2)] rfl ?_
    refine x_aload_n dX5_sharedCells_10 rfl 0 rfl ?_
    refine x_ifnonnullR (tgt := 18) dX5_sharedCells_11 rfl ?_
    refine x_aload_n dX5_sharedCells_18 rfl 0 rfl ?_
    refine x_getI fl_X5_174 (ok_c (ok3_d hg1) (ok3_p hg1) (ok3_r hg1)) rfl dX5_sharedCells_19 ?_
    exact x_iretH rfl dX5_sharedCells_22 h
def fX5_headroomCells (a1 : Int32) (a2 : Int32) (σ : xS) : Option (Int32 × xS) :=
  x_b (fX0_queueAt 0 a1 a2 σ) fun z1 s1 => match z1 with | none => (some ((-1), s1)) | some t1 => x_g (ok3 t1) (some ((s1 t1.1 16 t1.2.1 t1.2.2 12), s1))
set_option maxRecDepth 100000 in
set_option maxHeartbeats 4000000 in
theorem eX5_headroomCells {l : Launch} {w : xW} {a1 : Int32} {a2 : Int32} {σ τ : xS} {r : Int32} (h : fX5_headroomCells a1 a2 σ = some (r, τ)) : xEV l w yX5_headroomCells mX5_headroomCells [.ref (w.2.2 4 20 0 0), .int a1, .int a2] σ (some (.int r)) τ := by
  rw [fX5_headroomCells] at h
  refine x_enter (by decide +kernel) rfl (Nat.le_of_ble_eq_true rfl) ?_
  refine x_sub (L1 := [(0, .ref (w.2.2 4 20 0 0)), (1, .int a1), (2, .int a2)]) [0, 1, 2] rfl ?_
  refine x_aload_n dX5_headroomCells_0 rfl 0 rfl ?_
  refine x_getR (d1 := 0) (K1 := 0) (p1 := 0) (r1 := 0) fl_X5_10 ok_e20 rfl dX5_headroomCells_1 ?_
  refine x_iload_n dX5_headroomCells_4 rfl 1 rfl ?_
  refine x_iload_n dX5_headroomCells_5 rfl 2 rfl ?_
  obtain ⟨z1, s1, h1, h⟩ := x_b_e h
  refine x_callV (As := [.int a1, .int a2]) (st := []) (eX0_queueAt (Nat.le_of_ble_eq_true rfl) h1) cv_X5_74 (Nat.le_of_ble_eq_true rfl) (ok_a (K := 0) (Nat.le_of_ble_eq_true rfl) (Nat.le_of_ble_eq_true rfl)) rfl (Nat.le_of_ble_eq_true rfl) _ rfl dX5_headroomCells_6 [x_nvQ w z1] rfl ?_
  rcases z1 with _ | t1
  · refine x_st [.null] rfl ?_
    refine x_astore_nN dX5_headroomCells_9 rfl (Nat.le_of_ble_eq_true rfl) [(3, .null), (0, .ref (w.2.2 4 20 0 0)), (1, .int a1), (2, .int a2)] rfl ?_
    refine x_aload_nN dX5_headroomCells_10 rfl 0 rfl ?_
    refine x_ifnonnullN dX5_headroomCells_11 ?_
    refine x_iconst (x := (-1)) dX5_headroomCells_14 (by decide) ?_
    refine x_goto (tgt := 22) dX5_headroomCells_15 rfl ?_
    exact x_iretH rfl dX5_headroomCells_22 h
  · obtain ⟨hg1, h⟩ := x_g_e h
    refine x_st [.ref (w.2.2 t1.1 16 t1.2.1 t1.2.2)] rfl ?_
    refine x_astore_n dX5_headroomCells_9 rfl (Nat.le_of_ble_eq_true rfl) [(3, .ref (w.2.2 t1.1 16 t1.2.1 t1.2.2)), (0, .ref (w.2.2 4 20 0 0)), (1, .int a1), (2, .int a2)] rfl ?_
    refine x_aload_n dX5_headroomCells_10 rfl 0 rfl ?_
    refine x_ifnonnullR (tgt := 18) dX5_headroomCells_11 rfl ?_
    refine x_aload_n dX5_headroomCells_18 rfl 0 rfl ?_
    refine x_getI fl_X5_92 (ok_c (ok3_d hg1) (ok3_p hg1) (ok3_r hg1)) rfl dX5_headroomCells_19 ?_
    exact x_iretH rfl dX5_headroomCells_22 h
def fX5_burstTank (a1 : Int32) (a2 : Int32) (σ : xS) : Option (Int32 × xS) :=
  x_b (fX0_queueAt 0 a1 a2 σ) fun z1 s1 => match z1 with | none => (some ((-1), s1)) | some t1 => x_g (ok3 t1) (some ((s1 t1.1 16 t1.2.1 t1.2.2 4), s1))
set_option maxRecDepth 100000 in
set_option maxHeartbeats 4000000 in
theorem eX5_burstTank {l : Launch} {w : xW} {a1 : Int32} {a2 : Int32} {σ τ : xS} {r : Int32} (h : fX5_burstTank a1 a2 σ = some (r, τ)) : xEV l w yX5_burstTank mX5_burstTank [.ref (w.2.2 4 20 0 0), .int a1, .int a2] σ (some (.int r)) τ := by
  rw [fX5_burstTank] at h
  refine x_enter (by decide +kernel) rfl (Nat.le_of_ble_eq_true rfl) ?_
  refine x_sub (L1 := [(0, .ref (w.2.2 4 20 0 0)), (1, .int a1), (2, .int a2)]) [0, 1, 2] rfl ?_
  refine x_aload_n dX5_burstTank_0 rfl 0 rfl ?_
  refine x_getR (d1 := 0) (K1 := 0) (p1 := 0) (r1 := 0) fl_X5_10 ok_e20 rfl dX5_burstTank_1 ?_
  refine x_iload_n dX5_burstTank_4 rfl 1 rfl ?_
  refine x_iload_n dX5_burstTank_5 rfl 2 rfl ?_
  obtain ⟨z1, s1, h1, h⟩ := x_b_e h
  refine x_callV (As := [.int a1, .int a2]) (st := []) (eX0_queueAt (Nat.le_of_ble_eq_true rfl) h1) cv_X5_74 (Nat.le_of_ble_eq_true rfl) (ok_a (K := 0) (Nat.le_of_ble_eq_true rfl) (Nat.le_of_ble_eq_true rfl)) rfl (Nat.le_of_ble_eq_true rfl) _ rfl dX5_burstTank_6 [x_nvQ w z1] rfl ?_
  rcases z1 with _ | t1
  · refine x_st [.null] rfl ?_
    refine x_astore_nN dX5_burstTank_9 rfl (Nat.le_of_ble_eq_true rfl) [(3, .null), (0, .ref (w.2.2 4 20 0 0)), (1, .int a1), (2, .int a2)] rfl ?_
    refine x_aload_nN dX5_burstTank_10 rfl 0 rfl ?_
    refine x_ifnonnullN dX5_burstTank_11 ?_
    refine x_iconst (x := (-1)) dX5_burstTank_14 (by decide) ?_
    refine x_goto (tgt := 22) dX5_burstTank_15 rfl ?_
    exact x_iretH rfl dX5_burstTank_22 h
  · obtain ⟨hg1, h⟩ := x_g_e h
    refine x_st [.ref (w.2.2 t1.1 16 t1.2.1 t1.2.2)] rfl ?_
    refine x_astore_n dX5_burstTank_9 rfl (Nat.le_of_ble_eq_true rfl) [(3, .ref (w.2.2 t1.1 16 t1.2.1 t1.2.2)), (0, .ref (w.2.2 4 20 0 0)), (1, .int a1), (2, .int a2)] rfl ?_
    refine x_aload_n dX5_burstTank_10 rfl 0 rfl ?_
    refine x_ifnonnullR (tgt := 18) dX5_burstTank_11 rfl ?_
    refine x_aload_n dX5_burstTank_18 rfl 0 rfl ?_
    refine x_getI fl_X5_83 (ok_c (ok3_d hg1) (ok3_p hg1) (ok3_r hg1)) rfl dX5_burstTank_19 ?_
    exact x_iretH rfl dX5_burstTank_22 h
def fX5_isPaused (a1 : Int32) (a2 : Int32) (σ : xS) : Option (Int32 × xS) :=
  x_b (fX0_queueAt 0 a1 a2 σ) fun z1 s1 => match z1 with | none => (some ((-1), s1)) | some t1 => x_g (ok3 t1) (x_b (fX5_asNumber (s1 t1.1 16 t1.2.1 t1.2.2 8) s1) fun z2 s2 => some (z2, s2))
set_option maxRecDepth 100000 in
set_option maxHeartbeats 4000000 in
theorem eX5_isPaused {l : Launch} {w : xW} {a1 : Int32} {a2 : Int32} {σ τ : xS} {r : Int32} (h : fX5_isPaused a1 a2 σ = some (r, τ)) : xEV l w yX5_isPaused mX5_isPaused [.ref (w.2.2 4 20 0 0), .int a1, .int a2] σ (some (.int r)) τ := by
  rw [fX5_isPaused] at h
  refine x_enter (by decide +kernel) rfl (Nat.le_of_ble_eq_true rfl) ?_
  refine x_sub (L1 := [(0, .ref (w.2.2 4 20 0 0)), (1, .int a1), (2, .int a2)]) [0, 1, 2] rfl ?_
  refine x_aload_n dX5_isPaused_0 rfl 0 rfl ?_
  refine x_getR (d1 := 0) (K1 := 0) (p1 := 0) (r1 := 0) fl_X5_10 ok_e20 rfl dX5_isPaused_1 ?_
  refine x_iload_n dX5_isPaused_4 rfl 1 rfl ?_
  refine x_iload_n dX5_isPaused_5 rfl 2 rfl ?_
  obtain ⟨z1, s1, h1, h⟩ := x_b_e h
  refine x_callV (As := [.int a1, .int a2]) (st := []) (eX0_queueAt (Nat.le_of_ble_eq_true rfl) h1) cv_X5_74 (Nat.le_of_ble_eq_true rfl) (ok_a (K := 0) (Nat.le_of_ble_eq_true rfl) (Nat.le_of_ble_eq_true rfl)) rfl (Nat.le_of_ble_eq_true rfl) _ rfl dX5_isPaused_6 [x_nvQ w z1] rfl ?_
  rcases z1 with _ | t1
  · refine x_st [.null] rfl ?_
    refine x_astore_nN dX5_isPaused_9 rfl (Nat.le_of_ble_eq_true rfl) [(3, .null), (0, .ref (w.2.2 4 20 0 0)), (1, .int a1), (2, .int a2)] rfl ?_
    refine x_aload_nN dX5_isPaused_10 rfl 0 rfl ?_
    refine x_ifnonnullN dX5_isPaused_11 ?_
    refine x_iconst (x := (-1)) dX5_isPaused_14 (by decide) ?_
    refine x_goto (tgt := 25) dX5_isPaused_15 rfl ?_
    exact x_iretH rfl dX5_isPaused_25 h
  · obtain ⟨hg1, h⟩ := x_g_e h
    refine x_st [.ref (w.2.2 t1.1 16 t1.2.1 t1.2.2)] rfl ?_
    refine x_astore_n dX5_isPaused_9 rfl (Nat.le_of_ble_eq_true rfl) [(3, .ref (w.2.2 t1.1 16 t1.2.1 t1.2.2)), (0, .ref (w.2.2 4 20 0 0)), (1, .int a1), (2, .int a2)] rfl ?_
    refine x_aload_n dX5_isPaused_10 rfl 0 rfl ?_
    refine x_ifnonnullR (tgt := 18) dX5_isPaused_11 rfl ?_
    refine x_aload_n dX5_isPaused_18 rfl 0 rfl ?_
    refine x_getI fl_X5_103 (ok_c (ok3_d hg1) (ok3_p hg1) (ok3_r hg1)) rfl dX5_isPaused_19 ?_
    obtain ⟨z2, s2, h2, h⟩ := x_b_e h
    refine x_callS (As := [.int (s1 t1.1 16 t1.2.1 t1.2.2 8)]) (st := []) (eX5_asNumber  h2) cs_X5_99 (Nat.le_of_ble_eq_true rfl) rfl (Nat.le_of_ble_eq_true rfl) _ rfl dX5_isPaused_22 [.int z2] rfl ?_
    exact x_iretH rfl dX5_isPaused_25 h
def fX5_pauses (a1 : Int32) (a2 : Int32) (σ : xS) : Option (Int32 × xS) :=
  x_b (fX0_queueAt 0 a1 a2 σ) fun z1 s1 => match z1 with | none => (some ((-1), s1)) | some t1 => x_g (ok3 t1) (some ((s1 t1.1 16 t1.2.1 t1.2.2 9), s1))
set_option maxRecDepth 100000 in
set_option maxHeartbeats 4000000 in
theorem eX5_pauses {l : Launch} {w : xW} {a1 : Int32} {a2 : Int32} {σ τ : xS} {r : Int32} (h : fX5_pauses a1 a2 σ = some (r, τ)) : xEV l w yX5_pauses mX5_pauses [.ref (w.2.2 4 20 0 0), .int a1, .int a2] σ (some (.int r)) τ := by
  rw [fX5_pauses] at h
  refine x_enter (by decide +kernel) rfl (Nat.le_of_ble_eq_true rfl) ?_
  refine x_sub (L1 := [(0, .ref (w.2.2 4 20 0 0)), (1, .int a1), (2, .int a2)]) [0, 1, 2] rfl ?_
  refine x_aload_n dX5_pauses_0 rfl 0 rfl ?_
  refine x_getR (d1 := 0) (K1 := 0) (p1 := 0) (r1 := 0) fl_X5_10 ok_e20 rfl dX5_pauses_1 ?_
  refine x_iload_n dX5_pauses_4 rfl 1 rfl ?_
  refine x_iload_n dX5_pauses_5 rfl 2 rfl ?_
  obtain ⟨z1, s1, h1, h⟩ := x_b_e h
  refine x_callV (As := [.int a1, .int a2]) (st := []) (eX0_queueAt (Nat.le_of_ble_eq_true rfl) h1) cv_X5_74 (Nat.le_of_ble_eq_true rfl) (ok_a (K := 0) (Nat.le_of_ble_eq_true rfl) (Nat.le_of_ble_eq_true rfl)) rfl (Nat.le_of_ble_eq_true rfl) _ rfl dX5_pauses_6 [x_nvQ w z1] rfl ?_
  rcases z1 with _ | t1
  · refine x_st [.null] rfl ?_
    refine x_astore_nN dX5_pauses_9 rfl (Nat.le_of_ble_eq_true rfl) [(3, .null), (0, .ref (w.2.2 4 20 0 0)), (1, .int a1), (2, .int a2)] rfl ?_
    refine x_aload_nN dX5_pauses_10 rfl 0 rfl ?_
    refine x_ifnonnullN dX5_pauses_11 ?_
    refine x_iconst (x := (-1)) dX5_pauses_14 (by decide) ?_
    refine x_goto (tgt := 22) dX5_pauses_15 rfl ?_
    exact x_iretH rfl dX5_pauses_22 h
  · obtain ⟨hg1, h⟩ := x_g_e h
    refine x_st [.ref (w.2.2 t1.1 16 t1.2.1 t1.2.2)] rfl ?_
    refine x_astore_n dX5_pauses_9 rfl (Nat.le_of_ble_eq_true rfl) [(3, .ref (w.2.2 t1.1 16 t1.2.1 t1.2.2)), (0, .ref (w.2.2 4 20 0 0)), (1, .int a1), (2, .int a2)] rfl ?_
    refine x_aload_n dX5_pauses_10 rfl 0 rfl ?_
    refine x_ifnonnullR (tgt := 18) dX5_pauses_11 rfl ?_
    refine x_aload_n dX5_pauses_18 rfl 0 rfl ?_
    refine x_getI fl_X5_177 (ok_c (ok3_d hg1) (ok3_p hg1) (ok3_r hg1)) rfl dX5_pauses_19 ?_
    exact x_iretH rfl dX5_pauses_22 h
def fX5_credit (a1 : Int32) (σ : xS) : Option (Int32 × xS) :=
  x_b (fX0_portAt 0 a1 σ) fun z1 s1 => match z1 with | none => (some ((-1), s1)) | some t1 => x_g (ok2 t1) (some ((s1 t1.1 13 t1.2 0 7), s1))
set_option maxRecDepth 100000 in
set_option maxHeartbeats 4000000 in
theorem eX5_credit {l : Launch} {w : xW} {a1 : Int32} {σ τ : xS} {r : Int32} (h : fX5_credit a1 σ = some (r, τ)) : xEV l w yX5_credit mX5_credit [.ref (w.2.2 4 20 0 0), .int a1] σ (some (.int r)) τ := by
  rw [fX5_credit] at h
  refine x_enter (by decide +kernel) rfl (Nat.le_of_ble_eq_true rfl) ?_
  refine x_sub (L1 := [(0, .ref (w.2.2 4 20 0 0)), (1, .int a1)]) [0, 1] rfl ?_
  refine x_aload_n dX5_credit_0 rfl 0 rfl ?_
  refine x_getR (d1 := 0) (K1 := 0) (p1 := 0) (r1 := 0) fl_X5_10 ok_e20 rfl dX5_credit_1 ?_
  refine x_iload_n dX5_credit_4 rfl 1 rfl ?_
  obtain ⟨z1, s1, h1, h⟩ := x_b_e h
  refine x_callV (As := [.int a1]) (st := []) (eX0_portAt (Nat.le_of_ble_eq_true rfl) h1) cv_X5_52 (Nat.le_of_ble_eq_true rfl) (ok_a (K := 0) (Nat.le_of_ble_eq_true rfl) (Nat.le_of_ble_eq_true rfl)) rfl (Nat.le_of_ble_eq_true rfl) _ rfl dX5_credit_5 [x_nvP w z1] rfl ?_
  rcases z1 with _ | t1
  · refine x_st [.null] rfl ?_
    refine x_astore_nN dX5_credit_8 rfl (Nat.le_of_ble_eq_true rfl) [(2, .null), (0, .ref (w.2.2 4 20 0 0)), (1, .int a1)] rfl ?_
    refine x_aload_nN dX5_credit_9 rfl 0 rfl ?_
    refine x_ifnonnullN dX5_credit_10 ?_
    refine x_iconst (x := (-1)) dX5_credit_13 (by decide) ?_
    refine x_goto (tgt := 21) dX5_credit_14 rfl ?_
    exact x_iretH rfl dX5_credit_21 h
  · obtain ⟨hg1, h⟩ := x_g_e h
    refine x_st [.ref (w.2.2 t1.1 13 t1.2 0)] rfl ?_
    refine x_astore_n dX5_credit_8 rfl (Nat.le_of_ble_eq_true rfl) [(2, .ref (w.2.2 t1.1 13 t1.2 0)), (0, .ref (w.2.2 4 20 0 0)), (1, .int a1)] rfl ?_
    refine x_aload_n dX5_credit_9 rfl 0 rfl ?_
    refine x_ifnonnullR (tgt := 17) dX5_credit_10 rfl ?_
    refine x_aload_n dX5_credit_17 rfl 0 rfl ?_
    refine x_getI fl_X5_180 (ok_b (K := 13) (Nat.le_of_ble_eq_true rfl) (Nat.le_of_ble_eq_true rfl) (ok2_d hg1) (ok2_p hg1)) rfl dX5_credit_18 ?_
    exact x_iretH rfl dX5_credit_21 h
def fX5_deficit (a1 : Int32) (a2 : Int32) (σ : xS) : Option (Int32 × xS) :=
  x_b (fX0_queueAt 0 a1 a2 σ) fun z1 s1 => match z1 with | none => (some ((-1), s1)) | some t1 => x_g (ok3 t1) (some ((s1 t1.1 16 t1.2.1 t1.2.2 6), s1))
set_option maxRecDepth 100000 in
set_option maxHeartbeats 4000000 in
theorem eX5_deficit {l : Launch} {w : xW} {a1 : Int32} {a2 : Int32} {σ τ : xS} {r : Int32} (h : fX5_deficit a1 a2 σ = some (r, τ)) : xEV l w yX5_deficit mX5_deficit [.ref (w.2.2 4 20 0 0), .int a1, .int a2] σ (some (.int r)) τ := by
  rw [fX5_deficit] at h
  refine x_enter (by decide +kernel) rfl (Nat.le_of_ble_eq_true rfl) ?_
  refine x_sub (L1 := [(0, .ref (w.2.2 4 20 0 0)), (1, .int a1), (2, .int a2)]) [0, 1, 2] rfl ?_
  refine x_aload_n dX5_deficit_0 rfl 0 rfl ?_
  refine x_getR (d1 := 0) (K1 := 0) (p1 := 0) (r1 := 0) fl_X5_10 ok_e20 rfl dX5_deficit_1 ?_
  refine x_iload_n dX5_deficit_4 rfl 1 rfl ?_
  refine x_iload_n dX5_deficit_5 rfl 2 rfl ?_
  obtain ⟨z1, s1, h1, h⟩ := x_b_e h
  refine x_callV (As := [.int a1, .int a2]) (st := []) (eX0_queueAt (Nat.le_of_ble_eq_true rfl) h1) cv_X5_74 (Nat.le_of_ble_eq_true rfl) (ok_a (K := 0) (Nat.le_of_ble_eq_true rfl) (Nat.le_of_ble_eq_true rfl)) rfl (Nat.le_of_ble_eq_true rfl) _ rfl dX5_deficit_6 [x_nvQ w z1] rfl ?_
  rcases z1 with _ | t1
  · refine x_st [.null] rfl ?_
    refine x_astore_nN dX5_deficit_9 rfl (Nat.le_of_ble_eq_true rfl) [(3, .null), (0, .ref (w.2.2 4 20 0 0)), (1, .int a1), (2, .int a2)] rfl ?_
    refine x_aload_nN dX5_deficit_10 rfl 0 rfl ?_
    refine x_ifnonnullN dX5_deficit_11 ?_
    refine x_iconst (x := (-1)) dX5_deficit_14 (by decide) ?_
    refine x_goto (tgt := 22) dX5_deficit_15 rfl ?_
    exact x_iretH rfl dX5_deficit_22 h
  · obtain ⟨hg1, h⟩ := x_g_e h
    refine x_st [.ref (w.2.2 t1.1 16 t1.2.1 t1.2.2)] rfl ?_
    refine x_astore_n dX5_deficit_9 rfl (Nat.le_of_ble_eq_true rfl) [(3, .ref (w.2.2 t1.1 16 t1.2.1 t1.2.2)), (0, .ref (w.2.2 4 20 0 0)), (1, .int a1), (2, .int a2)] rfl ?_
    refine x_aload_n dX5_deficit_10 rfl 0 rfl ?_
    refine x_ifnonnullR (tgt := 18) dX5_deficit_11 rfl ?_
    refine x_aload_n dX5_deficit_18 rfl 0 rfl ?_
    refine x_getI fl_X5_183 (ok_c (ok3_d hg1) (ok3_p hg1) (ok3_r hg1)) rfl dX5_deficit_19 ?_
    exact x_iretH rfl dX5_deficit_22 h
def fX5_losses (a1 : Int32) (a2 : Int32) (σ : xS) : Option (Int32 × xS) :=
  x_b (fX0_portAt 0 a1 σ) fun z1 s1 => match z1 with | none => (some ((-1), s1)) | some t1 => x_g (ok2 t1) (if a2 = 2 then (x_g (x_in a2 10) (some ((s1 t1.1 15 t1.2 0 a2.toNatClampNeg), s1))) else (if a2 = 3 then (x_g (x_in a2 10) (some ((s1 t1.1 15 t1.2 0 a2.toNatClampNeg), s1))) else (if a2 = 4 then (some ((-2), s1)) else (if a2 = 5 then (x_g (x_in a2 10) (some ((s1 t1.1 15 t1.2 0 a2.toNatClampNeg), s1))) else (if a2 = 6 then (some ((-2), s1)) else (if a2 = 7 then (some ((-2), s1)) else (if a2 = 8 then (x_g (x_in a2 10) (some ((s1 t1.1 15 t1.2 0 a2.toNatClampNeg), s1))) else (if a2 = 9 then (x_g (x_in a2 10) (some ((s1 t1.1 15 t1.2 0 a2.toNatClampNeg), s1))) else (some ((-2), s1))))))))))
set_option maxRecDepth 100000 in
set_option maxHeartbeats 4000000 in
theorem eX5_losses {l : Launch} {w : xW} {a1 : Int32} {a2 : Int32} {σ τ : xS} {r : Int32} (h : fX5_losses a1 a2 σ = some (r, τ)) : xEV l w yX5_losses mX5_losses [.ref (w.2.2 4 20 0 0), .int a1, .int a2] σ (some (.int r)) τ := by
  rw [fX5_losses] at h
  refine x_enter (by decide +kernel) rfl (Nat.le_of_ble_eq_true rfl) ?_
  refine x_sub (L1 := [(0, .ref (w.2.2 4 20 0 0)), (1, .int a1), (2, .int a2)]) [0, 1, 2] rfl ?_
  refine x_aload_n dX5_losses_0 rfl 0 rfl ?_
  refine x_getR (d1 := 0) (K1 := 0) (p1 := 0) (r1 := 0) fl_X5_10 ok_e20 rfl dX5_losses_1 ?_
  refine x_iload_n dX5_losses_4 rfl 1 rfl ?_
  obtain ⟨z1, s1, h1, h⟩ := x_b_e h
  refine x_callV (As := [.int a1]) (st := []) (eX0_portAt (Nat.le_of_ble_eq_true rfl) h1) cv_X5_52 (Nat.le_of_ble_eq_true rfl) (ok_a (K := 0) (Nat.le_of_ble_eq_true rfl) (Nat.le_of_ble_eq_true rfl)) rfl (Nat.le_of_ble_eq_true rfl) _ rfl dX5_losses_5 [x_nvP w z1] rfl ?_
  rcases z1 with _ | t1
  · refine x_st [.null] rfl ?_
    refine x_astore_nN dX5_losses_8 rfl (Nat.le_of_ble_eq_true rfl) [(3, .null), (0, .ref (w.2.2 4 20 0 0)), (1, .int a1), (2, .int a2)] rfl ?_
    refine x_aload_nN dX5_losses_9 rfl 0 rfl ?_
    refine x_ifnonnullN dX5_losses_10 ?_
    refine x_iconst (x := (-1)) dX5_losses_13 (by decide) ?_
    exact x_iretH rfl dX5_losses_14 h
  · obtain ⟨hg1, h⟩ := x_g_e h
    refine x_st [.ref (w.2.2 t1.1 13 t1.2 0)] rfl ?_
    refine x_astore_n dX5_losses_8 rfl (Nat.le_of_ble_eq_true rfl) [(3, .ref (w.2.2 t1.1 13 t1.2 0)), (0, .ref (w.2.2 4 20 0 0)), (1, .int a1), (2, .int a2)] rfl ?_
    refine x_aload_n dX5_losses_9 rfl 0 rfl ?_
    refine x_ifnonnullR (tgt := 15) dX5_losses_10 rfl ?_
    refine x_iload_n dX5_losses_15 rfl 3 rfl ?_
    by_cases hc2 : a2 = 2
    · have h := x_t hc2 h
      refine x_tableIn (off := 48) (tgt := 64) dX5_losses_16 (by rw [hc2]; decide) (by rw [hc2]; decide) (by rw [hc2]; first | done | rfl) rfl ?_
      refine x_aload_n dX5_losses_64 rfl 0 rfl ?_
      refine x_getR (d1 := t1.1) (K1 := 15) (p1 := t1.2) (r1 := 0) fl_X5_186 (ok_b (K := 13) (Nat.le_of_ble_eq_true rfl) (Nat.le_of_ble_eq_true rfl) (ok2_d hg1) (ok2_p hg1)) rfl dX5_losses_65 ?_
      refine x_iload_n dX5_losses_68 rfl 3 rfl ?_
      obtain ⟨hg2, h⟩ := x_g_e h
      refine x_iald 10 a2.toNatClampNeg rfl rfl rfl rfl (ok_b (K := 15) (Nat.le_of_ble_eq_true rfl) (Nat.le_of_ble_eq_true rfl) (ok2_d hg1) (ok2_p hg1)) hg2 dX5_losses_69 ?_
      exact x_iretH rfl dX5_losses_70 h
    · have h := x_f hc2 h
      by_cases hc3 : a2 = 3
      · have h := x_t hc3 h
        refine x_tableIn (off := 48) (tgt := 64) dX5_losses_16 (by rw [hc3]; decide) (by rw [hc3]; decide) (by rw [hc3]; first | done | rfl) rfl ?_
        refine x_aload_n dX5_losses_64 rfl 0 rfl ?_
        refine x_getR (d1 := t1.1) (K1 := 15) (p1 := t1.2) (r1 := 0) fl_X5_186 (ok_b (K := 13) (Nat.le_of_ble_eq_true rfl) (Nat.le_of_ble_eq_true rfl) (ok2_d hg1) (ok2_p hg1)) rfl dX5_losses_65 ?_
        refine x_iload_n dX5_losses_68 rfl 3 rfl ?_
        obtain ⟨hg3, h⟩ := x_g_e h
        refine x_iald 10 a2.toNatClampNeg rfl rfl rfl rfl (ok_b (K := 15) (Nat.le_of_ble_eq_true rfl) (Nat.le_of_ble_eq_true rfl) (ok2_d hg1) (ok2_p hg1)) hg3 dX5_losses_69 ?_
        exact x_iretH rfl dX5_losses_70 h
      · have h := x_f hc3 h
        by_cases hc4 : a2 = 4
        · have h := x_t hc4 h
          refine x_tableIn (off := 55) (tgt := 71) dX5_losses_16 (by rw [hc4]; decide) (by rw [hc4]; decide) (by rw [hc4]; first | done | rfl) rfl ?_
          refine x_bipush (x := (-2)) dX5_losses_71 (by decide) ?_
          exact x_iretH rfl dX5_losses_73 h
        · have h := x_f hc4 h
          by_cases hc5 : a2 = 5
          · have h := x_t hc5 h
            refine x_tableIn (off := 48) (tgt := 64) dX5_losses_16 (by rw [hc5]; decide) (by rw [hc5]; decide) (by rw [hc5]; first | done | rfl) rfl ?_
            refine x_aload_n dX5_losses_64 rfl 0 rfl ?_
            refine x_getR (d1 := t1.1) (K1 := 15) (p1 := t1.2) (r1 := 0) fl_X5_186 (ok_b (K := 13) (Nat.le_of_ble_eq_true rfl) (Nat.le_of_ble_eq_true rfl) (ok2_d hg1) (ok2_p hg1)) rfl dX5_losses_65 ?_
            refine x_iload_n dX5_losses_68 rfl 3 rfl ?_
            obtain ⟨hg4, h⟩ := x_g_e h
            refine x_iald 10 a2.toNatClampNeg rfl rfl rfl rfl (ok_b (K := 15) (Nat.le_of_ble_eq_true rfl) (Nat.le_of_ble_eq_true rfl) (ok2_d hg1) (ok2_p hg1)) hg4 dX5_losses_69 ?_
            exact x_iretH rfl dX5_losses_70 h
          · have h := x_f hc5 h
            by_cases hc6 : a2 = 6
            · have h := x_t hc6 h
              refine x_tableIn (off := 55) (tgt := 71) dX5_losses_16 (by rw [hc6]; decide) (by rw [hc6]; decide) (by rw [hc6]; first | done | rfl) rfl ?_
              refine x_bipush (x := (-2)) dX5_losses_71 (by decide) ?_
              exact x_iretH rfl dX5_losses_73 h
            · have h := x_f hc6 h
              by_cases hc7 : a2 = 7
              · have h := x_t hc7 h
                refine x_tableIn (off := 55) (tgt := 71) dX5_losses_16 (by rw [hc7]; decide) (by rw [hc7]; decide) (by rw [hc7]; first | done | rfl) rfl ?_
                refine x_bipush (x := (-2)) dX5_losses_71 (by decide) ?_
                exact x_iretH rfl dX5_losses_73 h
              · have h := x_f hc7 h
                by_cases hc8 : a2 = 8
                · have h := x_t hc8 h
                  refine x_tableIn (off := 48) (tgt := 64) dX5_losses_16 (by rw [hc8]; decide) (by rw [hc8]; decide) (by rw [hc8]; first | done | rfl) rfl ?_
                  refine x_aload_n dX5_losses_64 rfl 0 rfl ?_
                  refine x_getR (d1 := t1.1) (K1 := 15) (p1 := t1.2) (r1 := 0) fl_X5_186 (ok_b (K := 13) (Nat.le_of_ble_eq_true rfl) (Nat.le_of_ble_eq_true rfl) (ok2_d hg1) (ok2_p hg1)) rfl dX5_losses_65 ?_
                  refine x_iload_n dX5_losses_68 rfl 3 rfl ?_
                  obtain ⟨hg5, h⟩ := x_g_e h
                  refine x_iald 10 a2.toNatClampNeg rfl rfl rfl rfl (ok_b (K := 15) (Nat.le_of_ble_eq_true rfl) (Nat.le_of_ble_eq_true rfl) (ok2_d hg1) (ok2_p hg1)) hg5 dX5_losses_69 ?_
                  exact x_iretH rfl dX5_losses_70 h
                · have h := x_f hc8 h
                  by_cases hc9 : a2 = 9
                  · have h := x_t hc9 h
                    refine x_tableIn (off := 48) (tgt := 64) dX5_losses_16 (by rw [hc9]; decide) (by rw [hc9]; decide) (by rw [hc9]; first | done | rfl) rfl ?_
                    refine x_aload_n dX5_losses_64 rfl 0 rfl ?_
                    refine x_getR (d1 := t1.1) (K1 := 15) (p1 := t1.2) (r1 := 0) fl_X5_186 (ok_b (K := 13) (Nat.le_of_ble_eq_true rfl) (Nat.le_of_ble_eq_true rfl) (ok2_d hg1) (ok2_p hg1)) rfl dX5_losses_65 ?_
                    refine x_iload_n dX5_losses_68 rfl 3 rfl ?_
                    obtain ⟨hg6, h⟩ := x_g_e h
                    refine x_iald 10 a2.toNatClampNeg rfl rfl rfl rfl (ok_b (K := 15) (Nat.le_of_ble_eq_true rfl) (Nat.le_of_ble_eq_true rfl) (ok2_d hg1) (ok2_p hg1)) hg6 dX5_losses_69 ?_
                    exact x_iretH rfl dX5_losses_70 h
                  · have h := x_f hc9 h
                    refine x_tableOut (tgt := 71) dX5_losses_16 (by have q2 := x_ne_i 2 2 rfl hc2; have q3 := x_ne_i 3 3 rfl hc3; have q4 := x_ne_i 4 4 rfl hc4; have q5 := x_ne_i 5 5 rfl hc5; have q6 := x_ne_i 6 6 rfl hc6; have q7 := x_ne_i 7 7 rfl hc7; have q8 := x_ne_i 8 8 rfl hc8; have q9 := x_ne_i 9 9 rfl hc9; omega) rfl ?_
                    refine x_bipush (x := (-2)) dX5_losses_71 (by decide) ?_
                    exact x_iretH rfl dX5_losses_73 h
def fX5_lostCells (a1 : Int32) (σ : xS) : Option (Int32 × xS) :=
  x_b (fX0_portAt 0 a1 σ) fun z1 s1 => match z1 with | none => (some ((-1), s1)) | some t1 => x_g (ok2 t1) (some ((s1 t1.1 13 t1.2 0 10), s1))
set_option maxRecDepth 100000 in
set_option maxHeartbeats 4000000 in
theorem eX5_lostCells {l : Launch} {w : xW} {a1 : Int32} {σ τ : xS} {r : Int32} (h : fX5_lostCells a1 σ = some (r, τ)) : xEV l w yX5_lostCells mX5_lostCells [.ref (w.2.2 4 20 0 0), .int a1] σ (some (.int r)) τ := by
  rw [fX5_lostCells] at h
  refine x_enter (by decide +kernel) rfl (Nat.le_of_ble_eq_true rfl) ?_
  refine x_sub (L1 := [(0, .ref (w.2.2 4 20 0 0)), (1, .int a1)]) [0, 1] rfl ?_
  refine x_aload_n dX5_lostCells_0 rfl 0 rfl ?_
  refine x_getR (d1 := 0) (K1 := 0) (p1 := 0) (r1 := 0) fl_X5_10 ok_e20 rfl dX5_lostCells_1 ?_
  refine x_iload_n dX5_lostCells_4 rfl 1 rfl ?_
  obtain ⟨z1, s1, h1, h⟩ := x_b_e h
  refine x_callV (As := [.int a1]) (st := []) (eX0_portAt (Nat.le_of_ble_eq_true rfl) h1) cv_X5_52 (Nat.le_of_ble_eq_true rfl) (ok_a (K := 0) (Nat.le_of_ble_eq_true rfl) (Nat.le_of_ble_eq_true rfl)) rfl (Nat.le_of_ble_eq_true rfl) _ rfl dX5_lostCells_5 [x_nvP w z1] rfl ?_
  rcases z1 with _ | t1
  · refine x_st [.null] rfl ?_
    refine x_astore_nN dX5_lostCells_8 rfl (Nat.le_of_ble_eq_true rfl) [(2, .null), (0, .ref (w.2.2 4 20 0 0)), (1, .int a1)] rfl ?_
    refine x_aload_nN dX5_lostCells_9 rfl 0 rfl ?_
    refine x_ifnonnullN dX5_lostCells_10 ?_
    refine x_iconst (x := (-1)) dX5_lostCells_13 (by decide) ?_
    refine x_goto (tgt := 21) dX5_lostCells_14 rfl ?_
    exact x_iretH rfl dX5_lostCells_21 h
  · obtain ⟨hg1, h⟩ := x_g_e h
    refine x_st [.ref (w.2.2 t1.1 13 t1.2 0)] rfl ?_
    refine x_astore_n dX5_lostCells_8 rfl (Nat.le_of_ble_eq_true rfl) [(2, .ref (w.2.2 t1.1 13 t1.2 0)), (0, .ref (w.2.2 4 20 0 0)), (1, .int a1)] rfl ?_
    refine x_aload_n dX5_lostCells_9 rfl 0 rfl ?_
    refine x_ifnonnullR (tgt := 17) dX5_lostCells_10 rfl ?_
    refine x_aload_n dX5_lostCells_17 rfl 0 rfl ?_
    refine x_getI fl_X5_190 (ok_b (K := 13) (Nat.le_of_ble_eq_true rfl) (Nat.le_of_ble_eq_true rfl) (ok2_d hg1) (ok2_p hg1)) rfl dX5_lostCells_18 ?_
    exact x_iretH rfl dX5_lostCells_21 h
def fX5_lossCause (a1 : Int32) (σ : xS) : Option (Int32 × xS) :=
  x_b (fX5_isOutside a1 0 3 σ) fun z1 s1 => if z1 = 0 then (if (s1 0 0 0 0 9) = 0 then (some ((-5), s1)) else (x_let (3 - a1) fun t2 => x_g (x_in t2 4) (some ((s1 0 11 0 0 t2.toNatClampNeg), s1)))) else (some ((-1), s1))
set_option maxRecDepth 100000 in
set_option maxHeartbeats 4000000 in
theorem eX5_lossCause {l : Launch} {w : xW} {a1 : Int32} {σ τ : xS} {r : Int32} (h : fX5_lossCause a1 σ = some (r, τ)) : xEV l w yX5_lossCause mX5_lossCause [.ref (w.2.2 4 20 0 0), .int a1] σ (some (.int r)) τ := by
  rw [fX5_lossCause] at h
  refine x_enter (by decide +kernel) rfl (Nat.le_of_ble_eq_true rfl) ?_
  refine x_sub (L1 := [(0, .ref (w.2.2 4 20 0 0)), (1, .int a1)]) [0, 1] rfl ?_
  refine x_iload_n dX5_lossCause_0 rfl 1 rfl ?_
  refine x_iconst (x := 0) dX5_lossCause_1 rfl ?_
  refine x_iconst (x := 3) dX5_lossCause_2 rfl ?_
  obtain ⟨z1, s1, h1, h⟩ := x_b_e h
  refine x_callS (As := [.int a1, .int 0, .int 3]) (st := []) (eX5_isOutside  h1) cs_X5_38 (Nat.le_of_ble_eq_true rfl) rfl (Nat.le_of_ble_eq_true rfl) _ rfl dX5_lossCause_3 [.int z1] rfl ?_
  refine x_if_eq (tgt := 11) dX5_lossCause_6 rfl (fun hc => ?_) (fun hc => ?_)
  · have h := x_t hc h
    refine x_aload_n dX5_lossCause_11 rfl 0 rfl ?_
    refine x_getR (d1 := 0) (K1 := 0) (p1 := 0) (r1 := 0) fl_X5_10 ok_e20 rfl dX5_lossCause_12 ?_
    refine x_getI fl_X5_193 (ok_a (K := 0) (Nat.le_of_ble_eq_true rfl) (Nat.le_of_ble_eq_true rfl)) rfl dX5_lossCause_15 ?_
    refine x_if_eq (tgt := 35) dX5_lossCause_18 rfl (fun hc => ?_) (fun hc => ?_)
    · have h := x_t hc h
      refine x_bipush (x := (-5)) dX5_lossCause_35 (by decide) ?_
      exact x_iretH rfl dX5_lossCause_37 h
    · have h := x_f hc h
      refine x_aload_n dX5_lossCause_21 rfl 0 rfl ?_
      refine x_getR (d1 := 0) (K1 := 0) (p1 := 0) (r1 := 0) fl_X5_10 ok_e20 rfl dX5_lossCause_22 ?_
      refine x_getR (d1 := 0) (K1 := 11) (p1 := 0) (r1 := 0) fl_X5_196 (ok_a (K := 0) (Nat.le_of_ble_eq_true rfl) (Nat.le_of_ble_eq_true rfl)) rfl dX5_lossCause_25 ?_
      refine x_iconst (x := 3) dX5_lossCause_28 rfl ?_
      refine x_iload_n dX5_lossCause_29 rfl 1 rfl ?_
      refine x_isub dX5_lossCause_30 ?_
      obtain ⟨t2, ht2, h⟩ := x_let_e h
      refine x_nm t2 ht2 ?_
      obtain ⟨hg3, h⟩ := x_g_e h
      refine x_iald 4 t2.toNatClampNeg rfl rfl rfl rfl (ok_a (K := 11) (Nat.le_of_ble_eq_true rfl) (Nat.le_of_ble_eq_true rfl)) hg3 dX5_lossCause_31 ?_
      refine x_goto (tgt := 37) dX5_lossCause_32 rfl ?_
      exact x_iretH rfl dX5_lossCause_37 h
  · have h := x_f hc h
    refine x_iconst (x := (-1)) dX5_lossCause_9 (by decide) ?_
    exact x_iretH rfl dX5_lossCause_10 h
def fX5_departed (a1 : Int32) (σ : xS) : Option (Int32 × xS) :=
  x_b (fX0_portAt 0 a1 σ) fun z1 s1 => match z1 with | none => (some ((-1), s1)) | some t1 => x_g (ok2 t1) (some ((s1 t1.1 13 t1.2 0 11), s1))
set_option maxRecDepth 100000 in
set_option maxHeartbeats 4000000 in
theorem eX5_departed {l : Launch} {w : xW} {a1 : Int32} {σ τ : xS} {r : Int32} (h : fX5_departed a1 σ = some (r, τ)) : xEV l w yX5_departed mX5_departed [.ref (w.2.2 4 20 0 0), .int a1] σ (some (.int r)) τ := by
  rw [fX5_departed] at h
  refine x_enter (by decide +kernel) rfl (Nat.le_of_ble_eq_true rfl) ?_
  refine x_sub (L1 := [(0, .ref (w.2.2 4 20 0 0)), (1, .int a1)]) [0, 1] rfl ?_
  refine x_aload_n dX5_departed_0 rfl 0 rfl ?_
  refine x_getR (d1 := 0) (K1 := 0) (p1 := 0) (r1 := 0) fl_X5_10 ok_e20 rfl dX5_departed_1 ?_
  refine x_iload_n dX5_departed_4 rfl 1 rfl ?_
  obtain ⟨z1, s1, h1, h⟩ := x_b_e h
  refine x_callV (As := [.int a1]) (st := []) (eX0_portAt (Nat.le_of_ble_eq_true rfl) h1) cv_X5_52 (Nat.le_of_ble_eq_true rfl) (ok_a (K := 0) (Nat.le_of_ble_eq_true rfl) (Nat.le_of_ble_eq_true rfl)) rfl (Nat.le_of_ble_eq_true rfl) _ rfl dX5_departed_5 [x_nvP w z1] rfl ?_
  rcases z1 with _ | t1
  · refine x_st [.null] rfl ?_
    refine x_astore_nN dX5_departed_8 rfl (Nat.le_of_ble_eq_true rfl) [(2, .null), (0, .ref (w.2.2 4 20 0 0)), (1, .int a1)] rfl ?_
    refine x_aload_nN dX5_departed_9 rfl 0 rfl ?_
    refine x_ifnonnullN dX5_departed_10 ?_
    refine x_iconst (x := (-1)) dX5_departed_13 (by decide) ?_
    refine x_goto (tgt := 21) dX5_departed_14 rfl ?_
    exact x_iretH rfl dX5_departed_21 h
  · obtain ⟨hg1, h⟩ := x_g_e h
    refine x_st [.ref (w.2.2 t1.1 13 t1.2 0)] rfl ?_
    refine x_astore_n dX5_departed_8 rfl (Nat.le_of_ble_eq_true rfl) [(2, .ref (w.2.2 t1.1 13 t1.2 0)), (0, .ref (w.2.2 4 20 0 0)), (1, .int a1)] rfl ?_
    refine x_aload_n dX5_departed_9 rfl 0 rfl ?_
    refine x_ifnonnullR (tgt := 17) dX5_departed_10 rfl ?_
    refine x_aload_n dX5_departed_17 rfl 0 rfl ?_
    refine x_getI fl_X5_199 (ok_b (K := 13) (Nat.le_of_ble_eq_true rfl) (Nat.le_of_ble_eq_true rfl) (ok2_d hg1) (ok2_p hg1)) rfl dX5_departed_18 ?_
    exact x_iretH rfl dX5_departed_21 h
def fX5_admitted (σ : xS) : Option (Int32 × xS) :=
  some ((σ 0 0 0 0 5), σ)
set_option maxRecDepth 100000 in
set_option maxHeartbeats 4000000 in
theorem eX5_admitted {l : Launch} {w : xW} {σ τ : xS} {r : Int32} (h : fX5_admitted σ = some (r, τ)) : xEV l w yX5_admitted mX5_admitted [.ref (w.2.2 4 20 0 0)] σ (some (.int r)) τ := by
  rw [fX5_admitted] at h
  refine x_enter (by decide +kernel) rfl (Nat.le_of_ble_eq_true rfl) ?_
  refine x_sub (L1 := [(0, .ref (w.2.2 4 20 0 0))]) [0] rfl ?_
  refine x_aload_n dX5_admitted_0 rfl 0 rfl ?_
  refine x_getR (d1 := 0) (K1 := 0) (p1 := 0) (r1 := 0) fl_X5_10 ok_e20 rfl dX5_admitted_1 ?_
  refine x_getI fl_X5_202 (ok_a (K := 0) (Nat.le_of_ble_eq_true rfl) (Nat.le_of_ble_eq_true rfl)) rfl dX5_admitted_4 ?_
  exact x_iretH rfl dX5_admitted_7 h
def fX5_time (σ : xS) : Option (Int32 × xS) :=
  some ((σ 0 0 0 0 4), σ)
set_option maxRecDepth 100000 in
set_option maxHeartbeats 4000000 in
theorem eX5_time {l : Launch} {w : xW} {σ τ : xS} {r : Int32} (h : fX5_time σ = some (r, τ)) : xEV l w yX5_time mX5_time [.ref (w.2.2 4 20 0 0)] σ (some (.int r)) τ := by
  rw [fX5_time] at h
  refine x_enter (by decide +kernel) rfl (Nat.le_of_ble_eq_true rfl) ?_
  refine x_sub (L1 := [(0, .ref (w.2.2 4 20 0 0))]) [0] rfl ?_
  refine x_aload_n dX5_time_0 rfl 0 rfl ?_
  refine x_getR (d1 := 0) (K1 := 0) (p1 := 0) (r1 := 0) fl_X5_10 ok_e20 rfl dX5_time_1 ?_
  refine x_getI fl_X5_205 (ok_a (K := 0) (Nat.le_of_ble_eq_true rfl) (Nat.le_of_ble_eq_true rfl)) rfl dX5_time_4 ?_
  exact x_iretH rfl dX5_time_7 h
def fX5_queueLength (a1 : Int32) (a2 : Int32) (σ : xS) : Option (Int32 × xS) :=
  x_b (fX0_queueAt 0 a1 a2 σ) fun z1 s1 => match z1 with | none => (some ((-1), s1)) | some t1 => x_g (ok3 t1) (some ((s1 t1.1 16 t1.2.1 t1.2.2 15), s1))
set_option maxRecDepth 100000 in
set_option maxHeartbeats 4000000 in
theorem eX5_queueLength {l : Launch} {w : xW} {a1 : Int32} {a2 : Int32} {σ τ : xS} {r : Int32} (h : fX5_queueLength a1 a2 σ = some (r, τ)) : xEV l w yX5_queueLength mX5_queueLength [.ref (w.2.2 4 20 0 0), .int a1, .int a2] σ (some (.int r)) τ := by
  rw [fX5_queueLength] at h
  refine x_enter (by decide +kernel) rfl (Nat.le_of_ble_eq_true rfl) ?_
  refine x_sub (L1 := [(0, .ref (w.2.2 4 20 0 0)), (1, .int a1), (2, .int a2)]) [0, 1, 2] rfl ?_
  refine x_aload_n dX5_queueLength_0 rfl 0 rfl ?_
  refine x_getR (d1 := 0) (K1 := 0) (p1 := 0) (r1 := 0) fl_X5_10 ok_e20 rfl dX5_queueLength_1 ?_
  refine x_iload_n dX5_queueLength_4 rfl 1 rfl ?_
  refine x_iload_n dX5_queueLength_5 rfl 2 rfl ?_
  obtain ⟨z1, s1, h1, h⟩ := x_b_e h
  refine x_callV (As := [.int a1, .int a2]) (st := []) (eX0_queueAt (Nat.le_of_ble_eq_true rfl) h1) cv_X5_74 (Nat.le_of_ble_eq_true rfl) (ok_a (K := 0) (Nat.le_of_ble_eq_true rfl) (Nat.le_of_ble_eq_true rfl)) rfl (Nat.le_of_ble_eq_true rfl) _ rfl dX5_queueLength_6 [x_nvQ w z1] rfl ?_
  rcases z1 with _ | t1
  · refine x_st [.null] rfl ?_
    refine x_astore_nN dX5_queueLength_9 rfl (Nat.le_of_ble_eq_true rfl) [(3, .null), (0, .ref (w.2.2 4 20 0 0)), (1, .int a1), (2, .int a2)] rfl ?_
    refine x_aload_nN dX5_queueLength_10 rfl 0 rfl ?_
    refine x_ifnonnullN dX5_queueLength_11 ?_
    refine x_iconst (x := (-1)) dX5_queueLength_14 (by decide) ?_
    refine x_goto (tgt := 22) dX5_queueLength_15 rfl ?_
    exact x_iretH rfl dX5_queueLength_22 h
  · obtain ⟨hg1, h⟩ := x_g_e h
    refine x_st [.ref (w.2.2 t1.1 16 t1.2.1 t1.2.2)] rfl ?_
    refine x_astore_n dX5_queueLength_9 rfl (Nat.le_of_ble_eq_true rfl) [(3, .ref (w.2.2 t1.1 16 t1.2.1 t1.2.2)), (0, .ref (w.2.2 4 20 0 0)), (1, .int a1), (2, .int a2)] rfl ?_
    refine x_aload_n dX5_queueLength_10 rfl 0 rfl ?_
    refine x_ifnonnullR (tgt := 18) dX5_queueLength_11 rfl ?_
    refine x_aload_n dX5_queueLength_18 rfl 0 rfl ?_
    refine x_getI fl_X5_208 (ok_c (ok3_d hg1) (ok3_p hg1) (ok3_r hg1)) rfl dX5_queueLength_19 ?_
    exact x_iretH rfl dX5_queueLength_22 h
def BX5_packetAt_43 (a3 : Int32) : Nat → Int32 → Int32 → xS → Option (Int32 × xS)
  | 0, _, _, _ => none
  | n + 1, a5, a6, σ => if a3 ≤ a6 then (x_b (fX1_numberOf 0 a5 σ) fun z4 s4 => some (z4, s4)) else (x_b (fX1_packetBehind 0 a5 σ) fun z5 s5 => x_let (a6 + 1) fun t6 => (BX5_packetAt_43 a3 n) z5 t6 s5)
set_option maxRecDepth 100000 in
set_option maxHeartbeats 4000000 in
theorem TX5_packetAt_43 {l : Launch} {w : xW} {a3 : Int32} {τ : xS} {r : Int32} : ∀ (n : Nat) (a5 : Int32) (a6 : Int32) (σ : xS), BX5_packetAt_43 a3 n a5 a6 σ = some (r, τ) → xAt l w mX5_packetAt 43 [(0, .ref (w.2.2 4 20 0 0)), (3, .int a3), (5, .int a5), (6, .int a6)] [] σ (some (.int r)) τ := by
  intro n
  induction n with
  | zero => intro a5 a6 σ h; cases h
  | succ n ih =>
    intro a5 a6 σ h
    rw [BX5_packetAt_43] at h
    refine x_iload dX5_packetAt_43 3 rfl ?_
    refine x_iload_n dX5_packetAt_45 rfl 1 rfl ?_
    refine x_icmp_ge (tgt := 69) dX5_packetAt_46 rfl (fun hc => ?_) (fun hc => ?_)
    · have h := x_t hc h
      refine x_aload_n dX5_packetAt_69 rfl 0 rfl ?_
      refine x_getR (d1 := 0) (K1 := 0) (p1 := 0) (r1 := 0) fl_X5_10 ok_e20 rfl dX5_packetAt_70 ?_
      refine x_getR (d1 := 0) (K1 := 1) (p1 := 0) (r1 := 0) fl_X5_42 (ok_a (K := 0) (Nat.le_of_ble_eq_true rfl) (Nat.le_of_ble_eq_true rfl)) rfl dX5_packetAt_73 ?_
      refine x_iload dX5_packetAt_76 2 rfl ?_
      obtain ⟨z4, s4, h4, h⟩ := x_b_e h
      refine x_callV (As := [.int a5]) (st := []) (eX1_numberOf (Nat.le_of_ble_eq_true rfl) h4) cv_X5_217 (Nat.le_of_ble_eq_true rfl) (ok_a (K := 1) (Nat.le_of_ble_eq_true rfl) (Nat.le_of_ble_eq_true rfl)) rfl (Nat.le_of_ble_eq_true rfl) _ rfl dX5_packetAt_78 [.int z4] rfl ?_
      exact x_iretH rfl dX5_packetAt_81 h
    · have h := x_f hc h
      refine x_aload_n dX5_packetAt_49 rfl 0 rfl ?_
      refine x_getR (d1 := 0) (K1 := 0) (p1 := 0) (r1 := 0) fl_X5_10 ok_e20 rfl dX5_packetAt_50 ?_
      refine x_getR (d1 := 0) (K1 := 1) (p1 := 0) (r1 := 0) fl_X5_42 (ok_a (K := 0) (Nat.le_of_ble_eq_true rfl) (Nat.le_of_ble_eq_true rfl)) rfl dX5_packetAt_53 ?_
      refine x_iload dX5_packetAt_56 2 rfl ?_
      obtain ⟨z5, s5, h5, h⟩ := x_b_e h
      refine x_callV (As := [.int a5]) (st := []) (eX1_packetBehind (Nat.le_of_ble_eq_true rfl) h5) cv_X5_214 (Nat.le_of_ble_eq_true rfl) (ok_a (K := 1) (Nat.le_of_ble_eq_true rfl) (Nat.le_of_ble_eq_true rfl)) rfl (Nat.le_of_ble_eq_true rfl) _ rfl dX5_packetAt_58 [.int z5] rfl ?_
      refine x_istore z5 rfl dX5_packetAt_61 (Nat.le_of_ble_eq_true rfl) [(5, .int z5), (0, .ref (w.2.2 4 20 0 0)), (3, .int a3), (6, .int a6)] rfl ?_
      obtain ⟨t6, ht6, h⟩ := x_let_e h
      refine x_iinc t6 1 rfl ht6 dX5_packetAt_63 3 rfl (Nat.le_of_ble_eq_true rfl) [(6, .int t6), (5, .int z5), (0, .ref (w.2.2 4 20 0 0)), (3, .int a3)] rfl ?_
      refine x_goto (tgt := 43) dX5_packetAt_66 rfl ?_
      refine x_sub (L1 := [(0, .ref (w.2.2 4 20 0 0)), (3, .int a3), (5, .int z5), (6, .int t6)]) [2, 3, 1, 0] rfl ?_
      exact ih _ _ _ h
def fX5_packetAt (a1 : Int32) (a2 : Int32) (a3 : Int32) (σ : xS) : Option (Int32 × xS) :=
  x_b (fX0_queueAt 0 a1 a2 σ) fun z1 s1 => match z1 with | none => (some ((-1), s1)) | some t1 => x_g (ok3 t1) (x_b (fX5_isOutside a3 0 ((s1 t1.1 16 t1.2.1 t1.2.2 15) - 1) s1) fun z2 s2 => if z2 = 0 then (x_let (s2 t1.1 16 t1.2.1 t1.2.2 13) fun t3 => BX5_packetAt_43 a3 x_FU t3 0 s2) else (some ((-1), s2)))
set_option maxRecDepth 100000 in
set_option maxHeartbeats 4000000 in
theorem eX5_packetAt {l : Launch} {w : xW} {a1 : Int32} {a2 : Int32} {a3 : Int32} {σ τ : xS} {r : Int32} (h : fX5_packetAt a1 a2 a3 σ = some (r, τ)) : xEV l w yX5_packetAt mX5_packetAt [.ref (w.2.2 4 20 0 0), .int a1, .int a2, .int a3] σ (some (.int r)) τ := by
  rw [fX5_packetAt] at h
  refine x_enter (by decide +kernel) rfl (Nat.le_of_ble_eq_true rfl) ?_
  refine x_sub (L1 := [(0, .ref (w.2.2 4 20 0 0)), (1, .int a1), (2, .int a2), (3, .int a3)]) [0, 1, 2, 3] rfl ?_
  refine x_aload_n dX5_packetAt_0 rfl 0 rfl ?_
  refine x_getR (d1 := 0) (K1 := 0) (p1 := 0) (r1 := 0) fl_X5_10 ok_e20 rfl dX5_packetAt_1 ?_
  refine x_iload_n dX5_packetAt_4 rfl 1 rfl ?_
  refine x_iload_n dX5_packetAt_5 rfl 2 rfl ?_
  obtain ⟨z1, s1, h1, h⟩ := x_b_e h
  refine x_callV (As := [.int a1, .int a2]) (st := []) (eX0_queueAt (Nat.le_of_ble_eq_true rfl) h1) cv_X5_74 (Nat.le_of_ble_eq_true rfl) (ok_a (K := 0) (Nat.le_of_ble_eq_true rfl) (Nat.le_of_ble_eq_true rfl)) rfl (Nat.le_of_ble_eq_true rfl) _ rfl dX5_packetAt_6 [x_nvQ w z1] rfl ?_
  rcases z1 with _ | t1
  · refine x_st [.null] rfl ?_
    refine x_astoreN dX5_packetAt_9 (Nat.le_of_ble_eq_true rfl) [(4, .null), (0, .ref (w.2.2 4 20 0 0)), (1, .int a1), (2, .int a2), (3, .int a3)] rfl ?_
    refine x_aloadN dX5_packetAt_11 0 rfl ?_
    refine x_ifnullN (tgt := 31) dX5_packetAt_13 rfl ?_
    refine x_iconst (x := (-1)) dX5_packetAt_31 (by decide) ?_
    exact x_iretH rfl dX5_packetAt_32 h
  · obtain ⟨hg1, h⟩ := x_g_e h
    refine x_st [.ref (w.2.2 t1.1 16 t1.2.1 t1.2.2)] rfl ?_
    refine x_astore dX5_packetAt_9 (Nat.le_of_ble_eq_true rfl) [(4, .ref (w.2.2 t1.1 16 t1.2.1 t1.2.2)), (0, .ref (w.2.2 4 20 0 0)), (1, .int a1), (2, .int a2), (3, .int a3)] rfl ?_
    refine x_aload dX5_packetAt_11 0 rfl ?_
    refine x_ifnullR dX5_packetAt_13 ?_
    refine x_iload_n dX5_packetAt_16 rfl 4 rfl ?_
    refine x_iconst (x := 0) dX5_packetAt_17 rfl ?_
    refine x_aload dX5_packetAt_18 0 rfl ?_
    refine x_getI fl_X5_208 (ok_c (ok3_d hg1) (ok3_p hg1) (ok3_r hg1)) rfl dX5_packetAt_20 ?_
    refine x_iconst (x := 1) dX5_packetAt_23 rfl ?_
    refine x_isub dX5_packetAt_24 ?_
    obtain ⟨z2, s2, h2, h⟩ := x_b_e h
    refine x_callS (As := [.int a3, .int 0, .int ((s1 t1.1 16 t1.2.1 t1.2.2 15) - 1)]) (st := []) (eX5_isOutside  h2) cs_X5_38 (Nat.le_of_ble_eq_true rfl) rfl (Nat.le_of_ble_eq_true rfl) _ rfl dX5_packetAt_25 [.int z2] rfl ?_
    refine x_if_eq (tgt := 33) dX5_packetAt_28 rfl (fun hc => ?_) (fun hc => ?_)
    · have h := x_t hc h
      refine x_aload dX5_packetAt_33 0 rfl ?_
      refine x_getI fl_X5_211 (ok_c (ok3_d hg1) (ok3_p hg1) (ok3_r hg1)) rfl dX5_packetAt_35 ?_
      obtain ⟨t3, ht3, h⟩ := x_let_e h
      refine x_istore t3 ht3 dX5_packetAt_38 (Nat.le_of_ble_eq_true rfl) [(5, .int t3), (4, .ref (w.2.2 t1.1 16 t1.2.1 t1.2.2)), (0, .ref (w.2.2 4 20 0 0)), (1, .int a1), (2, .int a2), (3, .int a3)] rfl ?_
      refine x_iconst (x := 0) dX5_packetAt_40 rfl ?_
      refine x_istore 0 rfl dX5_packetAt_41 (Nat.le_of_ble_eq_true rfl) [(6, .int 0), (5, .int t3), (4, .ref (w.2.2 t1.1 16 t1.2.1 t1.2.2)), (0, .ref (w.2.2 4 20 0 0)), (1, .int a1), (2, .int a2), (3, .int a3)] rfl ?_
      refine x_sub (L1 := [(0, .ref (w.2.2 4 20 0 0)), (3, .int a3), (5, .int t3), (6, .int 0)]) [3, 6, 1, 0] rfl ?_
      exact TX5_packetAt_43 _ _ _ _ h
    · have h := x_f hc h
      refine x_iconst (x := (-1)) dX5_packetAt_31 (by decide) ?_
      exact x_iretH rfl dX5_packetAt_32 h
def fX5_fragments (a1 : Int32) (σ : xS) : Option (Int32 × xS) :=
  x_b (fX1_find 0 a1 σ) fun z1 s1 => if z1 = (-1) then (some ((-1), s1)) else (x_b (fX1_partsOf 0 z1 s1) fun z2 s2 => some (z2, s2))
set_option maxRecDepth 100000 in
set_option maxHeartbeats 4000000 in
theorem eX5_fragments {l : Launch} {w : xW} {a1 : Int32} {σ τ : xS} {r : Int32} (h : fX5_fragments a1 σ = some (r, τ)) : xEV l w yX5_fragments mX5_fragments [.ref (w.2.2 4 20 0 0), .int a1] σ (some (.int r)) τ := by
  rw [fX5_fragments] at h
  refine x_enter (by decide +kernel) rfl (Nat.le_of_ble_eq_true rfl) ?_
  refine x_sub (L1 := [(0, .ref (w.2.2 4 20 0 0)), (1, .int a1)]) [0, 1] rfl ?_
  refine x_aload_n dX5_fragments_0 rfl 0 rfl ?_
  refine x_getR (d1 := 0) (K1 := 0) (p1 := 0) (r1 := 0) fl_X5_10 ok_e20 rfl dX5_fragments_1 ?_
  refine x_getR (d1 := 0) (K1 := 1) (p1 := 0) (r1 := 0) fl_X5_42 (ok_a (K := 0) (Nat.le_of_ble_eq_true rfl) (Nat.le_of_ble_eq_true rfl)) rfl dX5_fragments_4 ?_
  refine x_iload_n dX5_fragments_7 rfl 1 rfl ?_
  obtain ⟨z1, s1, h1, h⟩ := x_b_e h
  refine x_callV (As := [.int a1]) (st := []) (eX1_find (Nat.le_of_ble_eq_true rfl) h1) cv_X5_220 (Nat.le_of_ble_eq_true rfl) (ok_a (K := 1) (Nat.le_of_ble_eq_true rfl) (Nat.le_of_ble_eq_true rfl)) rfl (Nat.le_of_ble_eq_true rfl) _ rfl dX5_fragments_8 [.int z1] rfl ?_
  refine x_istore_n z1 rfl dX5_fragments_11 rfl (Nat.le_of_ble_eq_true rfl) [(2, .int z1), (0, .ref (w.2.2 4 20 0 0)), (1, .int a1)] rfl ?_
  refine x_iload_n dX5_fragments_12 rfl 0 rfl ?_
  refine x_iconst (x := (-1)) dX5_fragments_13 (by decide) ?_
  refine x_icmp_ne (tgt := 21) dX5_fragments_14 rfl (fun hc => ?_) (fun hc => ?_)
  · have h := x_f hc h
    refine x_aload_n dX5_fragments_21 rfl 1 rfl ?_
    refine x_getR (d1 := 0) (K1 := 0) (p1 := 0) (r1 := 0) fl_X5_10 ok_e20 rfl dX5_fragments_22 ?_
    refine x_getR (d1 := 0) (K1 := 1) (p1 := 0) (r1 := 0) fl_X5_42 (ok_a (K := 0) (Nat.le_of_ble_eq_true rfl) (Nat.le_of_ble_eq_true rfl)) rfl dX5_fragments_25 ?_
    refine x_iload_n dX5_fragments_28 rfl 0 rfl ?_
    obtain ⟨z2, s2, h2, h⟩ := x_b_e h
    refine x_callV (As := [.int z1]) (st := []) (eX1_partsOf (Nat.le_of_ble_eq_true rfl) h2) cv_X5_223 (Nat.le_of_ble_eq_true rfl) (ok_a (K := 1) (Nat.le_of_ble_eq_true rfl) (Nat.le_of_ble_eq_true rfl)) rfl (Nat.le_of_ble_eq_true rfl) _ rfl dX5_fragments_29 [.int z2] rfl ?_
    exact x_iretH rfl dX5_fragments_32 h
  · have h := x_t hc h
    refine x_iconst (x := (-1)) dX5_fragments_17 (by decide) ?_
    refine x_goto (tgt := 32) dX5_fragments_18 rfl ?_
    exact x_iretH rfl dX5_fragments_32 h
def fX5_fragmentStart (a1 : Int32) (a2 : Int32) (σ : xS) : Option (Int32 × xS) :=
  x_b (fX1_find 0 a1 σ) fun z1 s1 => x_b (fX1_partStart 0 z1 a2 s1) fun z2 s2 => if z2 = (-1) then (some ((-1), s2)) else (some (z2, s2))
set_option maxRecDepth 100000 in
set_option maxHeartbeats 4000000 in
theorem eX5_fragmentStart {l : Launch} {w : xW} {a1 : Int32} {a2 : Int32} {σ τ : xS} {r : Int32} (h : fX5_fragmentStart a1 a2 σ = some (r, τ)) : xEV l w yX5_fragmentStart mX5_fragmentStart [.ref (w.2.2 4 20 0 0), .int a1, .int a2] σ (some (.int r)) τ := by
  rw [fX5_fragmentStart] at h
  refine x_enter (by decide +kernel) rfl (Nat.le_of_ble_eq_true rfl) ?_
  refine x_sub (L1 := [(0, .ref (w.2.2 4 20 0 0)), (1, .int a1), (2, .int a2)]) [0, 1, 2] rfl ?_
  refine x_aload_n dX5_fragmentStart_0 rfl 0 rfl ?_
  refine x_getR (d1 := 0) (K1 := 0) (p1 := 0) (r1 := 0) fl_X5_10 ok_e20 rfl dX5_fragmentStart_1 ?_
  refine x_getR (d1 := 0) (K1 := 1) (p1 := 0) (r1 := 0) fl_X5_42 (ok_a (K := 0) (Nat.le_of_ble_eq_true rfl) (Nat.le_of_ble_eq_true rfl)) rfl dX5_fragmentStart_4 ?_
  refine x_aload_n dX5_fragmentStart_7 rfl 0 rfl ?_
  refine x_getR (d1 := 0) (K1 := 0) (p1 := 0) (r1 := 0) fl_X5_10 ok_e20 rfl dX5_fragmentStart_8 ?_
  refine x_getR (d1 := 0) (K1 := 1) (p1 := 0) (r1 := 0) fl_X5_42 (ok_a (K := 0) (Nat.le_of_ble_eq_true rfl) (Nat.le_of_ble_eq_true rfl)) rfl dX5_fragmentStart_11 ?_
  refine x_iload_n dX5_fragmentStart_14 rfl 1 rfl ?_
  obtain ⟨z1, s1, h1, h⟩ := x_b_e h
  refine x_callV (As := [.int a1]) (st := [.ref (w.2.2 0 1 0 0)]) (eX1_find (Nat.le_of_ble_eq_true rfl) h1) cv_X5_220 (Nat.le_of_ble_eq_true rfl) (ok_a (K := 1) (Nat.le_of_ble_eq_true rfl) (Nat.le_of_ble_eq_true rfl)) rfl (Nat.le_of_ble_eq_true rfl) _ rfl dX5_fragmentStart_15 [.int z1, .ref (w.2.2 0 1 0 0)] rfl ?_
  refine x_iload_n dX5_fragmentStart_18 rfl 2 rfl ?_
  obtain ⟨z2, s2, h2, h⟩ := x_b_e h
  refine x_callV (As := [.int z1, .int a2]) (st := []) (eX1_partStart (Nat.le_of_ble_eq_true rfl) h2) cv_X5_226 (Nat.le_of_ble_eq_true rfl) (ok_a (K := 1) (Nat.le_of_ble_eq_true rfl) (Nat.le_of_ble_eq_true rfl)) rfl (Nat.le_of_ble_eq_true rfl) _ rfl dX5_fragmentStart_19 [.int z2] rfl ?_
  refine x_istore_n z2 rfl dX5_fragmentStart_22 rfl (Nat.le_of_ble_eq_true rfl) [(3, .int z2), (0, .ref (w.2.2 4 20 0 0)), (1, .int a1), (2, .int a2)] rfl ?_
  refine x_iload_n dX5_fragmentStart_23 rfl 0 rfl ?_
  refine x_iconst (x := (-1)) dX5_fragmentStart_24 (by decide) ?_
  refine x_icmp_ne (tgt := 32) dX5_fragmentStart_25 rfl (fun hc => ?_) (fun hc => ?_)
  · have h := x_f hc h
    refine x_iload_n dX5_fragmentStart_32 rfl 0 rfl ?_
    exact x_iretH rfl dX5_fragmentStart_33 h
  · have h := x_t hc h
    refine x_iconst (x := (-1)) dX5_fragmentStart_28 (by decide) ?_
    refine x_goto (tgt := 33) dX5_fragmentStart_29 rfl ?_
    exact x_iretH rfl dX5_fragmentStart_33 h
def fX5_fragmentLength (a1 : Int32) (a2 : Int32) (σ : xS) : Option (Int32 × xS) :=
  x_b (fX1_find 0 a1 σ) fun z1 s1 => x_b (fX1_partStart 0 z1 a2 s1) fun z2 s2 => if z2 = (-1) then (some ((-1), s2)) else (x_g (x_in z2 128) (some ((s2 0 3 0 0 z2.toNatClampNeg), s2)))
set_option maxRecDepth 100000 in
set_option maxHeartbeats 4000000 in
theorem eX5_fragmentLength {l : Launch} {w : xW} {a1 : Int32} {a2 : Int32} {σ τ : xS} {r : Int32} (h : fX5_fragmentLength a1 a2 σ = some (r, τ)) : xEV l w yX5_fragmentLength mX5_fragmentLength [.ref (w.2.2 4 20 0 0), .int a1, .int a2] σ (some (.int r)) τ := by
  rw [fX5_fragmentLength] at h
  refine x_enter (by decide +kernel) rfl (Nat.le_of_ble_eq_true rfl) ?_
  refine x_sub (L1 := [(0, .ref (w.2.2 4 20 0 0)), (1, .int a1), (2, .int a2)]) [0, 1, 2] rfl ?_
  refine x_aload_n dX5_fragmentLength_0 rfl 0 rfl ?_
  refine x_getR (d1 := 0) (K1 := 0) (p1 := 0) (r1 := 0) fl_X5_10 ok_e20 rfl dX5_fragmentLength_1 ?_
  refine x_getR (d1 := 0) (K1 := 1) (p1 := 0) (r1 := 0) fl_X5_42 (ok_a (K := 0) (Nat.le_of_ble_eq_true rfl) (Nat.le_of_ble_eq_true rfl)) rfl dX5_fragmentLength_4 ?_
  refine x_aload_n dX5_fragmentLength_7 rfl 0 rfl ?_
  refine x_getR (d1 := 0) (K1 := 0) (p1 := 0) (r1 := 0) fl_X5_10 ok_e20 rfl dX5_fragmentLength_8 ?_
  refine x_getR (d1 := 0) (K1 := 1) (p1 := 0) (r1 := 0) fl_X5_42 (ok_a (K := 0) (Nat.le_of_ble_eq_true rfl) (Nat.le_of_ble_eq_true rfl)) rfl dX5_fragmentLength_11 ?_
  refine x_iload_n dX5_fragmentLength_14 rfl 1 rfl ?_
  obtain ⟨z1, s1, h1, h⟩ := x_b_e h
  refine x_callV (As := [.int a1]) (st := [.ref (w.2.2 0 1 0 0)]) (eX1_find (Nat.le_of_ble_eq_true rfl) h1) cv_X5_220 (Nat.le_of_ble_eq_true rfl) (ok_a (K := 1) (Nat.le_of_ble_eq_true rfl) (Nat.le_of_ble_eq_true rfl)) rfl (Nat.le_of_ble_eq_true rfl) _ rfl dX5_fragmentLength_15 [.int z1, .ref (w.2.2 0 1 0 0)] rfl ?_
  refine x_iload_n dX5_fragmentLength_18 rfl 2 rfl ?_
  obtain ⟨z2, s2, h2, h⟩ := x_b_e h
  refine x_callV (As := [.int z1, .int a2]) (st := []) (eX1_partStart (Nat.le_of_ble_eq_true rfl) h2) cv_X5_226 (Nat.le_of_ble_eq_true rfl) (ok_a (K := 1) (Nat.le_of_ble_eq_true rfl) (Nat.le_of_ble_eq_true rfl)) rfl (Nat.le_of_ble_eq_true rfl) _ rfl dX5_fragmentLength_19 [.int z2] rfl ?_
  refine x_istore_n z2 rfl dX5_fragmentLength_22 rfl (Nat.le_of_ble_eq_true rfl) [(3, .int z2), (0, .ref (w.2.2 4 20 0 0)), (1, .int a1), (2, .int a2)] rfl ?_
  refine x_iload_n dX5_fragmentLength_23 rfl 0 rfl ?_
  refine x_iconst (x := (-1)) dX5_fragmentLength_24 (by decide) ?_
  refine x_icmp_ne (tgt := 32) dX5_fragmentLength_25 rfl (fun hc => ?_) (fun hc => ?_)
  · have h := x_f hc h
    refine x_aload_n dX5_fragmentLength_32 rfl 1 rfl ?_
    refine x_getR (d1 := 0) (K1 := 0) (p1 := 0) (r1 := 0) fl_X5_10 ok_e20 rfl dX5_fragmentLength_33 ?_
    refine x_getR (d1 := 0) (K1 := 1) (p1 := 0) (r1 := 0) fl_X5_42 (ok_a (K := 0) (Nat.le_of_ble_eq_true rfl) (Nat.le_of_ble_eq_true rfl)) rfl dX5_fragmentLength_36 ?_
    refine x_getR (d1 := 0) (K1 := 3) (p1 := 0) (r1 := 0) fl_X5_229 (ok_a (K := 1) (Nat.le_of_ble_eq_true rfl) (Nat.le_of_ble_eq_true rfl)) rfl dX5_fragmentLength_39 ?_
    refine x_iload_n dX5_fragmentLength_42 rfl 0 rfl ?_
    obtain ⟨hg3, h⟩ := x_g_e h
    refine x_iald 128 z2.toNatClampNeg rfl rfl rfl rfl (ok_a (K := 3) (Nat.le_of_ble_eq_true rfl) (Nat.le_of_ble_eq_true rfl)) hg3 dX5_fragmentLength_43 ?_
    exact x_iretH rfl dX5_fragmentLength_44 h
  · have h := x_t hc h
    refine x_iconst (x := (-1)) dX5_fragmentLength_28 (by decide) ?_
    refine x_goto (tgt := 44) dX5_fragmentLength_29 rfl ?_
    exact x_iretH rfl dX5_fragmentLength_44 h
def fX5_freeRuns (σ : xS) : Option (Int32 × xS) :=
  x_b (fX1_countRuns 0 σ) fun z1 s1 => some (z1, s1)
set_option maxRecDepth 100000 in
set_option maxHeartbeats 4000000 in
theorem eX5_freeRuns {l : Launch} {w : xW} {σ τ : xS} {r : Int32} (h : fX5_freeRuns σ = some (r, τ)) : xEV l w yX5_freeRuns mX5_freeRuns [.ref (w.2.2 4 20 0 0)] σ (some (.int r)) τ := by
  rw [fX5_freeRuns] at h
  refine x_enter (by decide +kernel) rfl (Nat.le_of_ble_eq_true rfl) ?_
  refine x_sub (L1 := [(0, .ref (w.2.2 4 20 0 0))]) [0] rfl ?_
  refine x_aload_n dX5_freeRuns_0 rfl 0 rfl ?_
  refine x_getR (d1 := 0) (K1 := 0) (p1 := 0) (r1 := 0) fl_X5_10 ok_e20 rfl dX5_freeRuns_1 ?_
  refine x_getR (d1 := 0) (K1 := 1) (p1 := 0) (r1 := 0) fl_X5_42 (ok_a (K := 0) (Nat.le_of_ble_eq_true rfl) (Nat.le_of_ble_eq_true rfl)) rfl dX5_freeRuns_4 ?_
  obtain ⟨z1, s1, h1, h⟩ := x_b_e h
  refine x_callV (As := []) (st := []) (eX1_countRuns (Nat.le_of_ble_eq_true rfl) h1) cv_X5_232 (Nat.le_of_ble_eq_true rfl) (ok_a (K := 1) (Nat.le_of_ble_eq_true rfl) (Nat.le_of_ble_eq_true rfl)) rfl (Nat.le_of_ble_eq_true rfl) _ rfl dX5_freeRuns_7 [.int z1] rfl ?_
  exact x_iretH rfl dX5_freeRuns_10 h
