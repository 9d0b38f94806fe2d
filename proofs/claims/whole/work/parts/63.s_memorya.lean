set_option maxRecDepth 100000 in
set_option maxHeartbeats 4000000 in
theorem TX1_startAnew_7 {l : Launch} {w : xW} {d0 : Nat} (hd0 : d0 < 4) {τ : xS} {r : Unit} : ∀ (n : Nat) (a2 : Int32) (σ : xS), BX1_startAnew_7 d0 n a2 σ = some (r, τ) → xAt l w mX1_startAnew 7 [(0, .ref (w.2.2 d0 1 0 0)), (2, .int a2)] [] σ none τ := by
  intro n
  induction n with
  | zero => intro a2 σ h; cases h
  | succ n ih =>
    intro a2 σ h
    rw [BX1_startAnew_7] at h
    refine x_iload_n dX1_startAnew_7 rfl 1 rfl ?_
    refine x_sipush (x := 128) dX1_startAnew_8 rfl ?_
    refine x_icmp_ge (tgt := 34) dX1_startAnew_11 rfl (fun hc => ?_) (fun hc => ?_)
    · have h := x_t hc h
      exact x_vretH rfl dX1_startAnew_34 h
    · have h := x_f hc h
      refine x_aload_n dX1_startAnew_14 rfl 0 rfl ?_
      refine x_getR (d1 := d0) (K1 := 2) (p1 := 0) (r1 := 0) fl_X1_9 (ok_a (K := 1) (Nat.le_of_ble_eq_true rfl) hd0) rfl dX1_startAnew_15 ?_
      refine x_iload_n dX1_startAnew_18 rfl 1 rfl ?_
      refine x_iconst (x := 0) dX1_startAnew_19 rfl ?_
      obtain ⟨hg2, h⟩ := x_g_e h
      obtain ⟨s3, hs3, h⟩ := x_let_e h
      refine x_zast 128 a2.toNatClampNeg rfl s3 hs3 rfl rfl rfl rfl (ok_a (K := 2) (Nat.le_of_ble_eq_true rfl) hd0) hg2 dX1_startAnew_20 ?_
      refine x_aload_n dX1_startAnew_21 rfl 0 rfl ?_
      refine x_getR (d1 := d0) (K1 := 5) (p1 := 0) (r1 := 0) fl_X1_22 (ok_a (K := 1) (Nat.le_of_ble_eq_true rfl) hd0) rfl dX1_startAnew_22 ?_
      refine x_iload_n dX1_startAnew_25 rfl 1 rfl ?_
      refine x_iconst (x := (-1)) dX1_startAnew_26 (by decide) ?_
      obtain ⟨hg4, h⟩ := x_g_e h
      obtain ⟨s5, hs5, h⟩ := x_let_e h
      refine x_iast 128 a2.toNatClampNeg rfl s5 hs5 rfl rfl rfl (ok_a (K := 5) (Nat.le_of_ble_eq_true rfl) hd0) hg4 dX1_startAnew_27 ?_
      obtain ⟨t6, ht6, h⟩ := x_let_e h
      refine x_iinc t6 1 rfl ht6 dX1_startAnew_28 1 rfl (Nat.le_of_ble_eq_true rfl) [(2, .int t6), (0, .ref (w.2.2 d0 1 0 0))] rfl ?_
      refine x_goto (tgt := 7) dX1_startAnew_31 rfl ?_
      refine x_sub (L1 := [(0, .ref (w.2.2 d0 1 0 0)), (2, .int t6)]) [1, 0] rfl ?_
      exact ih _ _ h
set_option maxRecDepth 100000 in
set_option maxHeartbeats 4000000 in
theorem eX1_startAnew {l : Launch} {w : xW} {d0 : Nat} {a1 : Int32} (hd0 : d0 < 4) {σ τ : xS} {r : Unit} (h : fX1_startAnew d0 a1 σ = some (r, τ)) : xEV l w yX1_startAnew mX1_startAnew [.ref (w.2.2 d0 1 0 0), .int a1] σ none τ := by
  rw [fX1_startAnew] at h
  refine x_enter (by decide +kernel) rfl (Nat.le_of_ble_eq_true rfl) ?_
  refine x_sub (L1 := [(0, .ref (w.2.2 d0 1 0 0)), (1, .int a1)]) [0, 1] rfl ?_
  refine x_aload_n dX1_startAnew_0 rfl 0 rfl ?_
  refine x_iload_n dX1_startAnew_1 rfl 1 rfl ?_
  obtain ⟨s1, hs1, h⟩ := x_let_e h
  refine x_putI s1 hs1 fp_X1_37 (ok_a (K := 1) (Nat.le_of_ble_eq_true rfl) hd0) rfl dX1_startAnew_2 ?_
  refine x_iconst (x := 0) dX1_startAnew_5 rfl ?_
  refine x_istore_n 0 rfl dX1_startAnew_6 rfl (Nat.le_of_ble_eq_true rfl) [(2, .int 0), (0, .ref (w.2.2 d0 1 0 0)), (1, .int a1)] rfl ?_
  refine x_sub (L1 := [(0, .ref (w.2.2 d0 1 0 0)), (2, .int 0)]) [1, 0] rfl ?_
  exact TX1_startAnew_7 hd0 _ _ _ h
set_option maxRecDepth 100000 in
set_option maxHeartbeats 4000000 in
theorem TX1_copyFrom_10 {l : Launch} {w : xW} {d0 : Nat} {d1 : Nat} (hd0 : d0 < 4) (hd1 : d1 < 4) {τ : xS} {r : Unit} : ∀ (n : Nat) (a2 : Int32) (σ : xS), BX1_copyFrom_10 d0 d1 n a2 σ = some (r, τ) → xAt l w mX1_copyFrom 10 [(0, .ref (w.2.2 d0 1 0 0)), (1, .ref (w.2.2 d1 1 0 0)), (2, .int a2)] [] σ none τ := by
  intro n
  induction n with
  | zero => intro a2 σ h; cases h
  | succ n ih =>
    intro a2 σ h
    rw [BX1_copyFrom_10] at h
    refine x_iload_n dX1_copyFrom_10 rfl 2 rfl ?_
    refine x_sipush (x := 128) dX1_copyFrom_11 rfl ?_
    refine x_icmp_ge (tgt := 35) dX1_copyFrom_14 rfl (fun hc => ?_) (fun hc => ?_)
    · have h := x_t hc h
      refine x_aload_n dX1_copyFrom_35 rfl 1 rfl ?_
      refine x_getR (d1 := d1) (K1 := 3) (p1 := 0) (r1 := 0) fl_X1_15 (ok_a (K := 1) (Nat.le_of_ble_eq_true rfl) hd1) rfl dX1_copyFrom_36 ?_
      refine x_iconst (x := 0) dX1_copyFrom_39 rfl ?_
      refine x_aload_n dX1_copyFrom_40 rfl 0 rfl ?_
      refine x_getR (d1 := d0) (K1 := 3) (p1 := 0) (r1 := 0) fl_X1_15 (ok_a (K := 1) (Nat.le_of_ble_eq_true rfl) hd0) rfl dX1_copyFrom_41 ?_
      refine x_iconst (x := 0) dX1_copyFrom_44 rfl ?_
      refine x_sipush (x := 128) dX1_copyFrom_45 rfl ?_
      obtain ⟨s2, hs2, h⟩ := x_let_e h
      refine x_copy 128 128 128 rfl s2 hs2 lk_X1_41 w_copy (Nat.le_of_ble_eq_true rfl) rfl rfl rfl rfl (ok_a (K := 3) (Nat.le_of_ble_eq_true rfl) hd1) rfl rfl rfl (ok_a (K := 3) (Nat.le_of_ble_eq_true rfl) hd0) (by decide) (Nat.le_of_ble_eq_true rfl) (Nat.le_of_ble_eq_true rfl) dX1_copyFrom_48 ?_
      refine x_aload_n dX1_copyFrom_51 rfl 1 rfl ?_
      refine x_getR (d1 := d1) (K1 := 4) (p1 := 0) (r1 := 0) fl_X1_19 (ok_a (K := 1) (Nat.le_of_ble_eq_true rfl) hd1) rfl dX1_copyFrom_52 ?_
      refine x_iconst (x := 0) dX1_copyFrom_55 rfl ?_
      refine x_aload_n dX1_copyFrom_56 rfl 0 rfl ?_
      refine x_getR (d1 := d0) (K1 := 4) (p1 := 0) (r1 := 0) fl_X1_19 (ok_a (K := 1) (Nat.le_of_ble_eq_true rfl) hd0) rfl dX1_copyFrom_57 ?_
      refine x_iconst (x := 0) dX1_copyFrom_60 rfl ?_
      refine x_sipush (x := 128) dX1_copyFrom_61 rfl ?_
      obtain ⟨s3, hs3, h⟩ := x_let_e h
      refine x_copy 128 128 128 rfl s3 hs3 lk_X1_41 w_copy (Nat.le_of_ble_eq_true rfl) rfl rfl rfl rfl (ok_a (K := 4) (Nat.le_of_ble_eq_true rfl) hd1) rfl rfl rfl (ok_a (K := 4) (Nat.le_of_ble_eq_true rfl) hd0) (by decide) (Nat.le_of_ble_eq_true rfl) (Nat.le_of_ble_eq_true rfl) dX1_copyFrom_64 ?_
      refine x_aload_n dX1_copyFrom_67 rfl 1 rfl ?_
      refine x_getR (d1 := d1) (K1 := 5) (p1 := 0) (r1 := 0) fl_X1_22 (ok_a (K := 1) (Nat.le_of_ble_eq_true rfl) hd1) rfl dX1_copyFrom_68 ?_
      refine x_iconst (x := 0) dX1_copyFrom_71 rfl ?_
      refine x_aload_n dX1_copyFrom_72 rfl 0 rfl ?_
      refine x_getR (d1 := d0) (K1 := 5) (p1 := 0) (r1 := 0) fl_X1_22 (ok_a (K := 1) (Nat.le_of_ble_eq_true rfl) hd0) rfl dX1_copyFrom_73 ?_
      refine x_iconst (x := 0) dX1_copyFrom_76 rfl ?_
      refine x_sipush (x := 128) dX1_copyFrom_77 rfl ?_
      obtain ⟨s4, hs4, h⟩ := x_let_e h
      refine x_copy 128 128 128 rfl s4 hs4 lk_X1_41 w_copy (Nat.le_of_ble_eq_true rfl) rfl rfl rfl rfl (ok_a (K := 5) (Nat.le_of_ble_eq_true rfl) hd1) rfl rfl rfl (ok_a (K := 5) (Nat.le_of_ble_eq_true rfl) hd0) (by decide) (Nat.le_of_ble_eq_true rfl) (Nat.le_of_ble_eq_true rfl) dX1_copyFrom_80 ?_
      refine x_aload_n dX1_copyFrom_83 rfl 1 rfl ?_
      refine x_getR (d1 := d1) (K1 := 6) (p1 := 0) (r1 := 0) fl_X1_25 (ok_a (K := 1) (Nat.le_of_ble_eq_true rfl) hd1) rfl dX1_copyFrom_84 ?_
      refine x_iconst (x := 0) dX1_copyFrom_87 rfl ?_
      refine x_aload_n dX1_copyFrom_88 rfl 0 rfl ?_
      refine x_getR (d1 := d0) (K1 := 6) (p1 := 0) (r1 := 0) fl_X1_25 (ok_a (K := 1) (Nat.le_of_ble_eq_true rfl) hd0) rfl dX1_copyFrom_89 ?_
      refine x_iconst (x := 0) dX1_copyFrom_92 rfl ?_
      refine x_sipush (x := 128) dX1_copyFrom_93 rfl ?_
      obtain ⟨s5, hs5, h⟩ := x_let_e h
      refine x_copy 128 128 128 rfl s5 hs5 lk_X1_41 w_copy (Nat.le_of_ble_eq_true rfl) rfl rfl rfl rfl (ok_a (K := 6) (Nat.le_of_ble_eq_true rfl) hd1) rfl rfl rfl (ok_a (K := 6) (Nat.le_of_ble_eq_true rfl) hd0) (by decide) (Nat.le_of_ble_eq_true rfl) (Nat.le_of_ble_eq_true rfl) dX1_copyFrom_96 ?_
      refine x_aload_n dX1_copyFrom_99 rfl 1 rfl ?_
      refine x_getR (d1 := d1) (K1 := 7) (p1 := 0) (r1 := 0) fl_X1_28 (ok_a (K := 1) (Nat.le_of_ble_eq_true rfl) hd1) rfl dX1_copyFrom_100 ?_
      refine x_iconst (x := 0) dX1_copyFrom_103 rfl ?_
      refine x_aload_n dX1_copyFrom_104 rfl 0 rfl ?_
      refine x_getR (d1 := d0) (K1 := 7) (p1 := 0) (r1 := 0) fl_X1_28 (ok_a (K := 1) (Nat.le_of_ble_eq_true rfl) hd0) rfl dX1_copyFrom_105 ?_
      refine x_iconst (x := 0) dX1_copyFrom_108 rfl ?_
      refine x_sipush (x := 128) dX1_copyFrom_109 rfl ?_
      obtain ⟨s6, hs6, h⟩ := x_let_e h
      refine x_copy 128 128 128 rfl s6 hs6 lk_X1_41 w_copy (Nat.le_of_ble_eq_true rfl) rfl rfl rfl rfl (ok_a (K := 7) (Nat.le_of_ble_eq_true rfl) hd1) rfl rfl rfl (ok_a (K := 7) (Nat.le_of_ble_eq_true rfl) hd0) (by decide) (Nat.le_of_ble_eq_true rfl) (Nat.le_of_ble_eq_true rfl) dX1_copyFrom_112 ?_
      refine x_aload_n dX1_copyFrom_115 rfl 1 rfl ?_
      refine x_getR (d1 := d1) (K1 := 8) (p1 := 0) (r1 := 0) fl_X1_31 (ok_a (K := 1) (Nat.le_of_ble_eq_true rfl) hd1) rfl dX1_copyFrom_116 ?_
      refine x_iconst (x := 0) dX1_copyFrom_119 rfl ?_
      refine x_aload_n dX1_copyFrom_120 rfl 0 rfl ?_
      refine x_getR (d1 := d0) (K1 := 8) (p1 := 0) (r1 := 0) fl_X1_31 (ok_a (K := 1) (Nat.le_of_ble_eq_true rfl) hd0) rfl dX1_copyFrom_121 ?_
      refine x_iconst (x := 0) dX1_copyFrom_124 rfl ?_
      refine x_sipush (x := 128) dX1_copyFrom_125 rfl ?_
      obtain ⟨s7, hs7, h⟩ := x_let_e h
      refine x_copy 128 128 128 rfl s7 hs7 lk_X1_41 w_copy (Nat.le_of_ble_eq_true rfl) rfl rfl rfl rfl (ok_a (K := 8) (Nat.le_of_ble_eq_true rfl) hd1) rfl rfl rfl (ok_a (K := 8) (Nat.le_of_ble_eq_true rfl) hd0) (by decide) (Nat.le_of_ble_eq_true rfl) (Nat.le_of_ble_eq_true rfl) dX1_copyFrom_128 ?_
      refine x_aload_n dX1_copyFrom_131 rfl 1 rfl ?_
      refine x_getR (d1 := d1) (K1 := 9) (p1 := 0) (r1 := 0) fl_X1_34 (ok_a (K := 1) (Nat.le_of_ble_eq_true rfl) hd1) rfl dX1_copyFrom_132 ?_
      refine x_iconst (x := 0) dX1_copyFrom_135 rfl ?_
      refine x_aload_n dX1_copyFrom_136 rfl 0 rfl ?_
      refine x_getR (d1 := d0) (K1 := 9) (p1 := 0) (r1 := 0) fl_X1_34 (ok_a (K := 1) (Nat.le_of_ble_eq_true rfl) hd0) rfl dX1_copyFrom_137 ?_
      refine x_iconst (x := 0) dX1_copyFrom_140 rfl ?_
      refine x_sipush (x := 128) dX1_copyFrom_141 rfl ?_
      obtain ⟨s8, hs8, h⟩ := x_let_e h
      refine x_copy 128 128 128 rfl s8 hs8 lk_X1_41 w_copy (Nat.le_of_ble_eq_true rfl) rfl rfl rfl rfl (ok_a (K := 9) (Nat.le_of_ble_eq_true rfl) hd1) rfl rfl rfl (ok_a (K := 9) (Nat.le_of_ble_eq_true rfl) hd0) (by decide) (Nat.le_of_ble_eq_true rfl) (Nat.le_of_ble_eq_true rfl) dX1_copyFrom_144 ?_
      exact x_vretH rfl dX1_copyFrom_147 h
    · have h := x_f hc h
      refine x_aload_n dX1_copyFrom_17 rfl 0 rfl ?_
      refine x_getR (d1 := d0) (K1 := 2) (p1 := 0) (r1 := 0) fl_X1_9 (ok_a (K := 1) (Nat.le_of_ble_eq_true rfl) hd0) rfl dX1_copyFrom_18 ?_
      refine x_iload_n dX1_copyFrom_21 rfl 2 rfl ?_
      refine x_aload_n dX1_copyFrom_22 rfl 1 rfl ?_
      refine x_getR (d1 := d1) (K1 := 2) (p1 := 0) (r1 := 0) fl_X1_9 (ok_a (K := 1) (Nat.le_of_ble_eq_true rfl) hd1) rfl dX1_copyFrom_23 ?_
      refine x_iload_n dX1_copyFrom_26 rfl 2 rfl ?_
      obtain ⟨hg9, h⟩ := x_g_e h
      refine x_zald 128 a2.toNatClampNeg rfl rfl rfl rfl (ok_a (K := 2) (Nat.le_of_ble_eq_true rfl) hd1) hg9 dX1_copyFrom_27 ?_
      obtain ⟨hg10, h⟩ := x_g_e h
      obtain ⟨hg11, h⟩ := x_g_e h
      obtain ⟨s12, hs12, h⟩ := x_let_e h
      refine x_zast 128 a2.toNatClampNeg rfl s12 hs12 hg11 rfl rfl rfl (ok_a (K := 2) (Nat.le_of_ble_eq_true rfl) hd0) hg10 dX1_copyFrom_28 ?_
      obtain ⟨t13, ht13, h⟩ := x_let_e h
      refine x_iinc t13 1 rfl ht13 dX1_copyFrom_29 2 rfl (Nat.le_of_ble_eq_true rfl) [(2, .int t13), (0, .ref (w.2.2 d0 1 0 0)), (1, .ref (w.2.2 d1 1 0 0))] rfl ?_
      refine x_goto (tgt := 10) dX1_copyFrom_32 rfl ?_
      refine x_sub (L1 := [(0, .ref (w.2.2 d0 1 0 0)), (1, .ref (w.2.2 d1 1 0 0)), (2, .int t13)]) [1, 2, 0] rfl ?_
      exact ih _ _ h
set_option maxRecDepth 100000 in
set_option maxHeartbeats 4000000 in
theorem eX1_copyFrom {l : Launch} {w : xW} {d0 : Nat} {d1 : Nat} (hd0 : d0 < 4) (hd1 : d1 < 4) {σ τ : xS} {r : Unit} (h : fX1_copyFrom d0 d1 σ = some (r, τ)) : xEV l w yX1_copyFrom mX1_copyFrom [.ref (w.2.2 d0 1 0 0), .ref (w.2.2 d1 1 0 0)] σ none τ := by
  rw [fX1_copyFrom] at h
  refine x_enter (by decide +kernel) rfl (Nat.le_of_ble_eq_true rfl) ?_
  refine x_sub (L1 := [(0, .ref (w.2.2 d0 1 0 0)), (1, .ref (w.2.2 d1 1 0 0))]) [0, 1] rfl ?_
  refine x_aload_n dX1_copyFrom_0 rfl 0 rfl ?_
  refine x_aload_n dX1_copyFrom_1 rfl 1 rfl ?_
  refine x_getI fl_X1_37 (ok_a (K := 1) (Nat.le_of_ble_eq_true rfl) hd1) rfl dX1_copyFrom_2 ?_
  obtain ⟨s1, hs1, h⟩ := x_let_e h
  refine x_putI s1 hs1 fp_X1_37 (ok_a (K := 1) (Nat.le_of_ble_eq_true rfl) hd0) rfl dX1_copyFrom_5 ?_
  refine x_iconst (x := 0) dX1_copyFrom_8 rfl ?_
  refine x_istore_n 0 rfl dX1_copyFrom_9 rfl (Nat.le_of_ble_eq_true rfl) [(2, .int 0), (0, .ref (w.2.2 d0 1 0 0)), (1, .ref (w.2.2 d1 1 0 0))] rfl ?_
  refine x_sub (L1 := [(0, .ref (w.2.2 d0 1 0 0)), (1, .ref (w.2.2 d1 1 0 0)), (2, .int 0)]) [1, 2, 0] rfl ?_
  exact TX1_copyFrom_10 hd0 hd1 _ _ _ h
set_option maxRecDepth 100000 in
set_option maxHeartbeats 4000000 in
theorem eX1_isCell {l : Launch} {w : xW} {d0 : Nat} {a1 : Int32} (hd0 : d0 < 4) {σ τ : xS} {r : Int32} (h : fX1_isCell d0 a1 σ = some (r, τ)) : xEV l w yX1_isCell mX1_isCell [.ref (w.2.2 d0 1 0 0), .int a1] σ (some (.int r)) τ := by
  rw [fX1_isCell] at h
  refine x_enter (by decide +kernel) rfl (Nat.le_of_ble_eq_true rfl) ?_
  refine x_sub (L1 := [(0, .ref (w.2.2 d0 1 0 0)), (1, .int a1)]) [0, 1] rfl ?_
  refine x_iload_n dX1_isCell_0 rfl 1 rfl ?_
  refine x_if_lt (tgt := 15) dX1_isCell_1 rfl (fun hc => ?_) (fun hc => ?_)
  · have h := x_t hc h
    refine x_iconst (x := 0) dX1_isCell_15 rfl ?_
    exact x_zretH rfl rfl dX1_isCell_16 h
  · have h := x_f hc h
    refine x_iload_n dX1_isCell_4 rfl 1 rfl ?_
    refine x_sipush (x := 128) dX1_isCell_5 rfl ?_
    refine x_icmp_ge (tgt := 15) dX1_isCell_8 rfl (fun hc => ?_) (fun hc => ?_)
    · have h := x_t hc h
      refine x_iconst (x := 0) dX1_isCell_15 rfl ?_
      exact x_zretH rfl rfl dX1_isCell_16 h
    · have h := x_f hc h
      refine x_iconst (x := 1) dX1_isCell_11 rfl ?_
      refine x_goto (tgt := 16) dX1_isCell_12 rfl ?_
      exact x_zretH rfl rfl dX1_isCell_16 h
set_option maxRecDepth 100000 in
set_option maxHeartbeats 4000000 in
theorem eX1_numberOf {l : Launch} {w : xW} {d0 : Nat} {a1 : Int32} (hd0 : d0 < 4) {σ τ : xS} {r : Int32} (h : fX1_numberOf d0 a1 σ = some (r, τ)) : xEV l w yX1_numberOf mX1_numberOf [.ref (w.2.2 d0 1 0 0), .int a1] σ (some (.int r)) τ := by
  rw [fX1_numberOf] at h
  refine x_enter (by decide +kernel) rfl (Nat.le_of_ble_eq_true rfl) ?_
  refine x_sub (L1 := [(0, .ref (w.2.2 d0 1 0 0)), (1, .int a1)]) [0, 1] rfl ?_
  refine x_aload_n dX1_numberOf_0 rfl 0 rfl ?_
  refine x_iload_n dX1_numberOf_1 rfl 1 rfl ?_
  obtain ⟨z1, s1, h1, h⟩ := x_b_e h
  refine x_callV (As := [.int a1]) (st := []) (eX1_isCell hd0 h1) cv_X1_47 (Nat.le_of_ble_eq_true rfl) (ok_a (K := 1) (Nat.le_of_ble_eq_true rfl) hd0) rfl (Nat.le_of_ble_eq_true rfl) _ rfl dX1_numberOf_2 [.int z1] rfl ?_
  refine x_if_eq (tgt := 17) dX1_numberOf_5 rfl (fun hc => ?_) (fun hc => ?_)
  · have h := x_t hc h
    refine x_iconst (x := (-1)) dX1_numberOf_17 (by decide) ?_
    exact x_iretH rfl dX1_numberOf_18 h
  · have h := x_f hc h
    refine x_aload_n dX1_numberOf_8 rfl 0 rfl ?_
    refine x_getR (d1 := d0) (K1 := 5) (p1 := 0) (r1 := 0) fl_X1_22 (ok_a (K := 1) (Nat.le_of_ble_eq_true rfl) hd0) rfl dX1_numberOf_9 ?_
    refine x_iload_n dX1_numberOf_12 rfl 1 rfl ?_
    obtain ⟨hg2, h⟩ := x_g_e h
    refine x_iald 128 a1.toNatClampNeg rfl rfl rfl rfl (ok_a (K := 5) (Nat.le_of_ble_eq_true rfl) hd0) hg2 dX1_numberOf_13 ?_
    refine x_goto (tgt := 18) dX1_numberOf_14 rfl ?_
    exact x_iretH rfl dX1_numberOf_18 h
set_option maxRecDepth 100000 in
set_option maxHeartbeats 4000000 in
theorem eX1_sizeOf {l : Launch} {w : xW} {d0 : Nat} {a1 : Int32} (hd0 : d0 < 4) {σ τ : xS} {r : Int32} (h : fX1_sizeOf d0 a1 σ = some (r, τ)) : xEV l w yX1_sizeOf mX1_sizeOf [.ref (w.2.2 d0 1 0 0), .int a1] σ (some (.int r)) τ := by
  rw [fX1_sizeOf] at h
  refine x_enter (by decide +kernel) rfl (Nat.le_of_ble_eq_true rfl) ?_
  refine x_sub (L1 := [(0, .ref (w.2.2 d0 1 0 0)), (1, .int a1)]) [0, 1] rfl ?_
  refine x_aload_n dX1_sizeOf_0 rfl 0 rfl ?_
  refine x_iload_n dX1_sizeOf_1 rfl 1 rfl ?_
  obtain ⟨z1, s1, h1, h⟩ := x_b_e h
  refine x_callV (As := [.int a1]) (st := []) (eX1_isCell hd0 h1) cv_X1_47 (Nat.le_of_ble_eq_true rfl) (ok_a (K := 1) (Nat.le_of_ble_eq_true rfl) hd0) rfl (Nat.le_of_ble_eq_true rfl) _ rfl dX1_sizeOf_2 [.int z1] rfl ?_
  refine x_if_eq (tgt := 17) dX1_sizeOf_5 rfl (fun hc => ?_) (fun hc => ?_)
  · have h := x_t hc h
    refine x_iconst (x := 0) dX1_sizeOf_17 rfl ?_
    exact x_iretH rfl dX1_sizeOf_18 h
  · have h := x_f hc h
    refine x_aload_n dX1_sizeOf_8 rfl 0 rfl ?_
    refine x_getR (d1 := d0) (K1 := 6) (p1 := 0) (r1 := 0) fl_X1_25 (ok_a (K := 1) (Nat.le_of_ble_eq_true rfl) hd0) rfl dX1_sizeOf_9 ?_
    refine x_iload_n dX1_sizeOf_12 rfl 1 rfl ?_
    obtain ⟨hg2, h⟩ := x_g_e h
    refine x_iald 128 a1.toNatClampNeg rfl rfl rfl rfl (ok_a (K := 6) (Nat.le_of_ble_eq_true rfl) hd0) hg2 dX1_sizeOf_13 ?_
    refine x_goto (tgt := 18) dX1_sizeOf_14 rfl ?_
    exact x_iretH rfl dX1_sizeOf_18 h
set_option maxRecDepth 100000 in
set_option maxHeartbeats 4000000 in
theorem eX1_partsOf {l : Launch} {w : xW} {d0 : Nat} {a1 : Int32} (hd0 : d0 < 4) {σ τ : xS} {r : Int32} (h : fX1_partsOf d0 a1 σ = some (r, τ)) : xEV l w yX1_partsOf mX1_partsOf [.ref (w.2.2 d0 1 0 0), .int a1] σ (some (.int r)) τ := by
  rw [fX1_partsOf] at h
  refine x_enter (by decide +kernel) rfl (Nat.le_of_ble_eq_true rfl) ?_
  refine x_sub (L1 := [(0, .ref (w.2.2 d0 1 0 0)), (1, .int a1)]) [0, 1] rfl ?_
  refine x_aload_n dX1_partsOf_0 rfl 0 rfl ?_
  refine x_iload_n dX1_partsOf_1 rfl 1 rfl ?_
  obtain ⟨z1, s1, h1, h⟩ := x_b_e h
  refine x_callV (As := [.int a1]) (st := []) (eX1_isCell hd0 h1) cv_X1_47 (Nat.le_of_ble_eq_true rfl) (ok_a (K := 1) (Nat.le_of_ble_eq_true rfl) hd0) rfl (Nat.le_of_ble_eq_true rfl) _ rfl dX1_partsOf_2 [.int z1] rfl ?_
  refine x_if_eq (tgt := 17) dX1_partsOf_5 rfl (fun hc => ?_) (fun hc => ?_)
  · have h := x_t hc h
    refine x_iconst (x := 0) dX1_partsOf_17 rfl ?_
    exact x_iretH rfl dX1_partsOf_18 h
  · have h := x_f hc h
    refine x_aload_n dX1_partsOf_8 rfl 0 rfl ?_
    refine x_getR (d1 := d0) (K1 := 7) (p1 := 0) (r1 := 0) fl_X1_28 (ok_a (K := 1) (Nat.le_of_ble_eq_true rfl) hd0) rfl dX1_partsOf_9 ?_
    refine x_iload_n dX1_partsOf_12 rfl 1 rfl ?_
    obtain ⟨hg2, h⟩ := x_g_e h
    refine x_iald 128 a1.toNatClampNeg rfl rfl rfl rfl (ok_a (K := 7) (Nat.le_of_ble_eq_true rfl) hd0) hg2 dX1_partsOf_13 ?_
    refine x_goto (tgt := 18) dX1_partsOf_14 rfl ?_
    exact x_iretH rfl dX1_partsOf_18 h
set_option maxRecDepth 100000 in
set_option maxHeartbeats 4000000 in
theorem eX1_packetAhead {l : Launch} {w : xW} {d0 : Nat} {a1 : Int32} (hd0 : d0 < 4) {σ τ : xS} {r : Int32} (h : fX1_packetAhead d0 a1 σ = some (r, τ)) : xEV l w yX1_packetAhead mX1_packetAhead [.ref (w.2.2 d0 1 0 0), .int a1] σ (some (.int r)) τ := by
  rw [fX1_packetAhead] at h
  refine x_enter (by decide +kernel) rfl (Nat.le_of_ble_eq_true rfl) ?_
  refine x_sub (L1 := [(0, .ref (w.2.2 d0 1 0 0)), (1, .int a1)]) [0, 1] rfl ?_
  refine x_aload_n dX1_packetAhead_0 rfl 0 rfl ?_
  refine x_iload_n dX1_packetAhead_1 rfl 1 rfl ?_
  obtain ⟨z1, s1, h1, h⟩ := x_b_e h
  refine x_callV (As := [.int a1]) (st := []) (eX1_isCell hd0 h1) cv_X1_47 (Nat.le_of_ble_eq_true rfl) (ok_a (K := 1) (Nat.le_of_ble_eq_true rfl) hd0) rfl (Nat.le_of_ble_eq_true rfl) _ rfl dX1_packetAhead_2 [.int z1] rfl ?_
  refine x_if_eq (tgt := 17) dX1_packetAhead_5 rfl (fun hc => ?_) (fun hc => ?_)
  · have h := x_t hc h
    refine x_iconst (x := (-1)) dX1_packetAhead_17 (by decide) ?_
    exact x_iretH rfl dX1_packetAhead_18 h
  · have h := x_f hc h
    refine x_aload_n dX1_packetAhead_8 rfl 0 rfl ?_
    refine x_getR (d1 := d0) (K1 := 8) (p1 := 0) (r1 := 0) fl_X1_31 (ok_a (K := 1) (Nat.le_of_ble_eq_true rfl) hd0) rfl dX1_packetAhead_9 ?_
    refine x_iload_n dX1_packetAhead_12 rfl 1 rfl ?_
    obtain ⟨hg2, h⟩ := x_g_e h
    refine x_iald 128 a1.toNatClampNeg rfl rfl rfl rfl (ok_a (K := 8) (Nat.le_of_ble_eq_true rfl) hd0) hg2 dX1_packetAhead_13 ?_
    refine x_goto (tgt := 18) dX1_packetAhead_14 rfl ?_
    exact x_iretH rfl dX1_packetAhead_18 h
set_option maxRecDepth 100000 in
set_option maxHeartbeats 4000000 in
theorem eX1_packetBehind {l : Launch} {w : xW} {d0 : Nat} {a1 : Int32} (hd0 : d0 < 4) {σ τ : xS} {r : Int32} (h : fX1_packetBehind d0 a1 σ = some (r, τ)) : xEV l w yX1_packetBehind mX1_packetBehind [.ref (w.2.2 d0 1 0 0), .int a1] σ (some (.int r)) τ := by
  rw [fX1_packetBehind] at h
  refine x_enter (by decide +kernel) rfl (Nat.le_of_ble_eq_true rfl) ?_
  refine x_sub (L1 := [(0, .ref (w.2.2 d0 1 0 0)), (1, .int a1)]) [0, 1] rfl ?_
  refine x_aload_n dX1_packetBehind_0 rfl 0 rfl ?_
  refine x_iload_n dX1_packetBehind_1 rfl 1 rfl ?_
  obtain ⟨z1, s1, h1, h⟩ := x_b_e h
  refine x_callV (As := [.int a1]) (st := []) (eX1_isCell hd0 h1) cv_X1_47 (Nat.le_of_ble_eq_true rfl) (ok_a (K := 1) (Nat.le_of_ble_eq_true rfl) hd0) rfl (Nat.le_of_ble_eq_true rfl) _ rfl dX1_packetBehind_2 [.int z1] rfl ?_
  refine x_if_eq (tgt := 17) dX1_packetBehind_5 rfl (fun hc => ?_) (fun hc => ?_)
  · have h := x_t hc h
    refine x_iconst (x := (-1)) dX1_packetBehind_17 (by decide) ?_
    exact x_iretH rfl dX1_packetBehind_18 h
  · have h := x_f hc h
    refine x_aload_n dX1_packetBehind_8 rfl 0 rfl ?_
    refine x_getR (d1 := d0) (K1 := 9) (p1 := 0) (r1 := 0) fl_X1_34 (ok_a (K := 1) (Nat.le_of_ble_eq_true rfl) hd0) rfl dX1_packetBehind_9 ?_
    refine x_iload_n dX1_packetBehind_12 rfl 1 rfl ?_
    obtain ⟨hg2, h⟩ := x_g_e h
    refine x_iald 128 a1.toNatClampNeg rfl rfl rfl rfl (ok_a (K := 9) (Nat.le_of_ble_eq_true rfl) hd0) hg2 dX1_packetBehind_13 ?_
    refine x_goto (tgt := 18) dX1_packetBehind_14 rfl ?_
    exact x_iretH rfl dX1_packetBehind_18 h
set_option maxRecDepth 100000 in
set_option maxHeartbeats 4000000 in
theorem eX1_partBehind {l : Launch} {w : xW} {d0 : Nat} {a1 : Int32} (hd0 : d0 < 4) {σ τ : xS} {r : Int32} (h : fX1_partBehind d0 a1 σ = some (r, τ)) : xEV l w yX1_partBehind mX1_partBehind [.ref (w.2.2 d0 1 0 0), .int a1] σ (some (.int r)) τ := by
  rw [fX1_partBehind] at h
  refine x_enter (by decide +kernel) rfl (Nat.le_of_ble_eq_true rfl) ?_
  refine x_sub (L1 := [(0, .ref (w.2.2 d0 1 0 0)), (1, .int a1)]) [0, 1] rfl ?_
  refine x_aload_n dX1_partBehind_0 rfl 0 rfl ?_
  refine x_iload_n dX1_partBehind_1 rfl 1 rfl ?_
  obtain ⟨z1, s1, h1, h⟩ := x_b_e h
  refine x_callV (As := [.int a1]) (st := []) (eX1_isCell hd0 h1) cv_X1_47 (Nat.le_of_ble_eq_true rfl) (ok_a (K := 1) (Nat.le_of_ble_eq_true rfl) hd0) rfl (Nat.le_of_ble_eq_true rfl) _ rfl dX1_partBehind_2 [.int z1] rfl ?_
  refine x_if_eq (tgt := 17) dX1_partBehind_5 rfl (fun hc => ?_) (fun hc => ?_)
  · have h := x_t hc h
    refine x_iconst (x := (-1)) dX1_partBehind_17 (by decide) ?_
    exact x_iretH rfl dX1_partBehind_18 h
  · have h := x_f hc h
    refine x_aload_n dX1_partBehind_8 rfl 0 rfl ?_
    refine x_getR (d1 := d0) (K1 := 4) (p1 := 0) (r1 := 0) fl_X1_19 (ok_a (K := 1) (Nat.le_of_ble_eq_true rfl) hd0) rfl dX1_partBehind_9 ?_
    refine x_iload_n dX1_partBehind_12 rfl 1 rfl ?_
    obtain ⟨hg2, h⟩ := x_g_e h
    refine x_iald 128 a1.toNatClampNeg rfl rfl rfl rfl (ok_a (K := 4) (Nat.le_of_ble_eq_true rfl) hd0) hg2 dX1_partBehind_13 ?_
    refine x_goto (tgt := 18) dX1_partBehind_14 rfl ?_
    exact x_iretH rfl dX1_partBehind_18 h
set_option maxRecDepth 100000 in
set_option maxHeartbeats 4000000 in
theorem TX1_find_8 {l : Launch} {w : xW} {d0 : Nat} {a1 : Int32} (hd0 : d0 < 4) {τ : xS} {r : Int32} : ∀ (n : Nat) (a2 : Int32) (σ : xS), BX1_find_8 d0 a1 n a2 σ = some (r, τ) → xAt l w mX1_find 8 [(0, .ref (w.2.2 d0 1 0 0)), (1, .int a1), (2, .int a2)] [] σ (some (.int r)) τ := by
  intro n
  induction n with
  | zero => intro a2 σ h; cases h
  | succ n ih =>
    intro a2 σ h
    rw [BX1_find_8] at h
    refine x_iload_n dX1_find_8 rfl 2 rfl ?_
    refine x_aload_n dX1_find_9 rfl 0 rfl ?_
    refine x_getI fl_X1_37 (ok_a (K := 1) (Nat.le_of_ble_eq_true rfl) hd0) rfl dX1_find_10 ?_
    refine x_icmp_ge (tgt := 34) dX1_find_13 rfl (fun hc => ?_) (fun hc => ?_)
    · have h := x_t hc h
      refine x_iconst (x := (-1)) dX1_find_34 (by decide) ?_
      exact x_iretH rfl dX1_find_35 h
    · have h := x_f hc h
      refine x_aload_n dX1_find_16 rfl 0 rfl ?_
      refine x_getR (d1 := d0) (K1 := 5) (p1 := 0) (r1 := 0) fl_X1_22 (ok_a (K := 1) (Nat.le_of_ble_eq_true rfl) hd0) rfl dX1_find_17 ?_
      refine x_iload_n dX1_find_20 rfl 2 rfl ?_
      obtain ⟨hg1, h⟩ := x_g_e h
      refine x_iald 128 a2.toNatClampNeg rfl rfl rfl rfl (ok_a (K := 5) (Nat.le_of_ble_eq_true rfl) hd0) hg1 dX1_find_21 ?_
      refine x_iload_n dX1_find_22 rfl 1 rfl ?_
      refine x_icmp_ne (tgt := 28) dX1_find_23 rfl (fun hc => ?_) (fun hc => ?_)
      · have h := x_f hc h
        obtain ⟨t2, ht2, h⟩ := x_let_e h
        refine x_iinc t2 1 rfl ht2 dX1_find_28 2 rfl (Nat.le_of_ble_eq_true rfl) [(2, .int t2), (0, .ref (w.2.2 d0 1 0 0)), (1, .int a1)] rfl ?_
        refine x_goto (tgt := 8) dX1_find_31 rfl ?_
        refine x_sub (L1 := [(0, .ref (w.2.2 d0 1 0 0)), (1, .int a1), (2, .int t2)]) [1, 2, 0] rfl ?_
        exact ih _ _ h
      · have h := x_t hc h
        refine x_iload_n dX1_find_26 rfl 2 rfl ?_
        exact x_iretH rfl dX1_find_27 h
set_option maxRecDepth 100000 in
set_option maxHeartbeats 4000000 in
theorem eX1_find {l : Launch} {w : xW} {d0 : Nat} {a1 : Int32} (hd0 : d0 < 4) {σ τ : xS} {r : Int32} (h : fX1_find d0 a1 σ = some (r, τ)) : xEV l w yX1_find mX1_find [.ref (w.2.2 d0 1 0 0), .int a1] σ (some (.int r)) τ := by
  rw [fX1_find] at h
  refine x_enter (by decide +kernel) rfl (Nat.le_of_ble_eq_true rfl) ?_
  refine x_sub (L1 := [(0, .ref (w.2.2 d0 1 0 0)), (1, .int a1)]) [0, 1] rfl ?_
  refine x_iload_n dX1_find_0 rfl 1 rfl ?_
  refine x_if_ge (tgt := 6) dX1_find_1 rfl (fun hc => ?_) (fun hc => ?_)
  · have h := x_t hc h
    refine x_iconst (x := 0) dX1_find_6 rfl ?_
    refine x_istore_n 0 rfl dX1_find_7 rfl (Nat.le_of_ble_eq_true rfl) [(2, .int 0), (0, .ref (w.2.2 d0 1 0 0)), (1, .int a1)] rfl ?_
    refine x_sub (L1 := [(0, .ref (w.2.2 d0 1 0 0)), (1, .int a1), (2, .int 0)]) [1, 2, 0] rfl ?_
    exact TX1_find_8 hd0 _ _ _ h
  · have h := x_f hc h
    refine x_iconst (x := (-1)) dX1_find_4 (by decide) ?_
    exact x_iretH rfl dX1_find_5 h
set_option maxRecDepth 100000 in
set_option maxHeartbeats 4000000 in
theorem TX1_partStart_20 {l : Launch} {w : xW} {d0 : Nat} {a2 : Int32} (hd0 : d0 < 4) {τ : xS} {r : Int32} : ∀ (n : Nat) (a3 : Int32) (a4 : Int32) (σ : xS), BX1_partStart_20 d0 a2 n a3 a4 σ = some (r, τ) → xAt l w mX1_partStart 20 [(0, .ref (w.2.2 d0 1 0 0)), (2, .int a2), (3, .int a3), (4, .int a4)] [] σ (some (.int r)) τ := by
  intro n
  induction n with
  | zero => intro a3 a4 σ h; cases h
  | succ n ih =>
    intro a3 a4 σ h
    rw [BX1_partStart_20] at h
    refine x_iload dX1_partStart_20 3 rfl ?_
    refine x_iload_n dX1_partStart_22 rfl 1 rfl ?_
    refine x_icmp_ge (tgt := 38) dX1_partStart_23 rfl (fun hc => ?_) (fun hc => ?_)
    · have h := x_t hc h
      refine x_aload_n dX1_partStart_38 rfl 0 rfl ?_
      refine x_iload_n dX1_partStart_39 rfl 2 rfl ?_
      obtain ⟨z2, s2, h2, h⟩ := x_b_e h
      refine x_callV (As := [.int a3]) (st := []) (eX1_isCell hd0 h2) cv_X1_47 (Nat.le_of_ble_eq_true rfl) (ok_a (K := 1) (Nat.le_of_ble_eq_true rfl) hd0) rfl (Nat.le_of_ble_eq_true rfl) _ rfl dX1_partStart_40 [.int z2] rfl ?_
      refine x_if_eq (tgt := 50) dX1_partStart_43 rfl (fun hc => ?_) (fun hc => ?_)
      · have h := x_t hc h
        refine x_iconst (x := (-1)) dX1_partStart_50 (by decide) ?_
        exact x_iretH rfl dX1_partStart_51 h
      · have h := x_f hc h
        refine x_iload_n dX1_partStart_46 rfl 2 rfl ?_
        refine x_goto (tgt := 51) dX1_partStart_47 rfl ?_
        exact x_iretH rfl dX1_partStart_51 h
    · have h := x_f hc h
      refine x_aload_n dX1_partStart_26 rfl 0 rfl ?_
      refine x_iload_n dX1_partStart_27 rfl 2 rfl ?_
      obtain ⟨z3, s3, h3, h⟩ := x_b_e h
      refine x_callV (As := [.int a3]) (st := []) (eX1_partBehind hd0 h3) cv_X1_55 (Nat.le_of_ble_eq_true rfl) (ok_a (K := 1) (Nat.le_of_ble_eq_true rfl) hd0) rfl (Nat.le_of_ble_eq_true rfl) _ rfl dX1_partStart_28 [.int z3] rfl ?_
      refine x_istore_n z3 rfl dX1_partStart_31 rfl (Nat.le_of_ble_eq_true rfl) [(3, .int z3), (0, .ref (w.2.2 d0 1 0 0)), (2, .int a2), (4, .int a4)] rfl ?_
      obtain ⟨t4, ht4, h⟩ := x_let_e h
      refine x_iinc t4 1 rfl ht4 dX1_partStart_32 3 rfl (Nat.le_of_ble_eq_true rfl) [(4, .int t4), (3, .int z3), (0, .ref (w.2.2 d0 1 0 0)), (2, .int a2)] rfl ?_
      refine x_goto (tgt := 20) dX1_partStart_35 rfl ?_
      refine x_sub (L1 := [(0, .ref (w.2.2 d0 1 0 0)), (2, .int a2), (3, .int z3), (4, .int t4)]) [2, 3, 1, 0] rfl ?_
      exact ih _ _ _ h
set_option maxRecDepth 100000 in
set_option maxHeartbeats 4000000 in
theorem eX1_partStart {l : Launch} {w : xW} {d0 : Nat} {a1 : Int32} {a2 : Int32} (hd0 : d0 < 4) {σ τ : xS} {r : Int32} (h : fX1_partStart d0 a1 a2 σ = some (r, τ)) : xEV l w yX1_partStart mX1_partStart [.ref (w.2.2 d0 1 0 0), .int a1, .int a2] σ (some (.int r)) τ := by
  rw [fX1_partStart] at h
  refine x_enter (by decide +kernel) rfl (Nat.le_of_ble_eq_true rfl) ?_
  refine x_sub (L1 := [(0, .ref (w.2.2 d0 1 0 0)), (1, .int a1), (2, .int a2)]) [0, 1, 2] rfl ?_
  refine x_iload_n dX1_partStart_0 rfl 2 rfl ?_
  refine x_if_lt (tgt := 13) dX1_partStart_1 rfl (fun hc => ?_) (fun hc => ?_)
  · have h := x_t hc h
    refine x_iconst (x := (-1)) dX1_partStart_13 (by decide) ?_
    exact x_iretH rfl dX1_partStart_14 h
  · have h := x_f hc h
    refine x_iload_n dX1_partStart_4 rfl 2 rfl ?_
    refine x_aload_n dX1_partStart_5 rfl 0 rfl ?_
    refine x_iload_n dX1_partStart_6 rfl 1 rfl ?_
    obtain ⟨z1, s1, h1, h⟩ := x_b_e h
    refine x_callV (As := [.int a1]) (st := [.int a2]) (eX1_partsOf hd0 h1) cv_X1_51 (Nat.le_of_ble_eq_true rfl) (ok_a (K := 1) (Nat.le_of_ble_eq_true rfl) hd0) rfl (Nat.le_of_ble_eq_true rfl) _ rfl dX1_partStart_7 [.int z1, .int a2] rfl ?_
    refine x_icmp_lt (tgt := 15) dX1_partStart_10 rfl (fun hc => ?_) (fun hc => ?_)
    · have h := x_t hc h
      refine x_iload_n dX1_partStart_15 rfl 1 rfl ?_
      refine x_istore_n a1 rfl dX1_partStart_16 rfl (Nat.le_of_ble_eq_true rfl) [(3, .int a1), (0, .ref (w.2.2 d0 1 0 0)), (1, .int a1), (2, .int a2)] rfl ?_
      refine x_iconst (x := 0) dX1_partStart_17 rfl ?_
      refine x_istore 0 rfl dX1_partStart_18 (Nat.le_of_ble_eq_true rfl) [(4, .int 0), (3, .int a1), (0, .ref (w.2.2 d0 1 0 0)), (1, .int a1), (2, .int a2)] rfl ?_
      refine x_sub (L1 := [(0, .ref (w.2.2 d0 1 0 0)), (2, .int a2), (3, .int a1), (4, .int 0)]) [2, 4, 1, 0] rfl ?_
      exact TX1_partStart_20 hd0 _ _ _ _ h
    · have h := x_f hc h
      refine x_iconst (x := (-1)) dX1_partStart_13 (by decide) ?_
      exact x_iretH rfl dX1_partStart_14 h
set_option maxRecDepth 100000 in
set_option maxHeartbeats 4000000 in
theorem eX1_startsRun {l : Launch} {w : xW} {d0 : Nat} {a1 : Int32} (hd0 : d0 < 4) {σ τ : xS} {r : Int32} (h : fX1_startsRun d0 a1 σ = some (r, τ)) : xEV l w yX1_startsRun mX1_startsRun [.ref (w.2.2 d0 1 0 0), .int a1] σ (some (.int r)) τ := by
  rw [fX1_startsRun] at h
  refine x_enter (by decide +kernel) rfl (Nat.le_of_ble_eq_true rfl) ?_
  refine x_sub (L1 := [(0, .ref (w.2.2 d0 1 0 0)), (1, .int a1)]) [0, 1] rfl ?_
  refine x_iload_n dX1_startsRun_0 rfl 1 rfl ?_
  refine x_if_lt (tgt := 40) dX1_startsRun_1 rfl (fun hc => ?_) (fun hc => ?_)
  · have h := x_t hc h
    refine x_iconst (x := 0) dX1_startsRun_40 rfl ?_
    exact x_zretH rfl rfl dX1_startsRun_41 h
  · have h := x_f hc h
    refine x_iload_n dX1_startsRun_4 rfl 1 rfl ?_
    refine x_aload_n dX1_startsRun_5 rfl 0 rfl ?_
    refine x_getI fl_X1_37 (ok_a (K := 1) (Nat.le_of_ble_eq_true rfl) hd0) rfl dX1_startsRun_6 ?_
    refine x_icmp_ge (tgt := 40) dX1_startsRun_9 rfl (fun hc => ?_) (fun hc => ?_)
    · have h := x_t hc h
      refine x_iconst (x := 0) dX1_startsRun_40 rfl ?_
      exact x_zretH rfl rfl dX1_startsRun_41 h
    · have h := x_f hc h
      refine x_aload_n dX1_startsRun_12 rfl 0 rfl ?_
      refine x_getR (d1 := d0) (K1 := 2) (p1 := 0) (r1 := 0) fl_X1_9 (ok_a (K := 1) (Nat.le_of_ble_eq_true rfl) hd0) rfl dX1_startsRun_13 ?_
      refine x_iload_n dX1_startsRun_16 rfl 1 rfl ?_
      obtain ⟨hg1, h⟩ := x_g_e h
      refine x_zald 128 a1.toNatClampNeg rfl rfl rfl rfl (ok_a (K := 2) (Nat.le_of_ble_eq_true rfl) hd0) hg1 dX1_startsRun_17 ?_
      refine x_if_ne (tgt := 40) dX1_startsRun_18 rfl (fun hc => ?_) (fun hc => ?_)
      · have h := x_f hc h
        refine x_iconst (x := 0) dX1_startsRun_40 rfl ?_
        exact x_zretH rfl rfl dX1_startsRun_41 h
      · have h := x_t hc h
        refine x_iload_n dX1_startsRun_21 rfl 1 rfl ?_
        refine x_if_eq (tgt := 36) dX1_startsRun_22 rfl (fun hc => ?_) (fun hc => ?_)
        · have h := x_t hc h
          refine x_iconst (x := 1) dX1_startsRun_36 rfl ?_
          refine x_goto (tgt := 41) dX1_startsRun_37 rfl ?_
          exact x_zretH rfl rfl dX1_startsRun_41 h
        · have h := x_f hc h
          refine x_aload_n dX1_startsRun_25 rfl 0 rfl ?_
          refine x_getR (d1 := d0) (K1 := 2) (p1 := 0) (r1 := 0) fl_X1_9 (ok_a (K := 1) (Nat.le_of_ble_eq_true rfl) hd0) rfl dX1_startsRun_26 ?_
          refine x_iload_n dX1_startsRun_29 rfl 1 rfl ?_
          refine x_iconst (x := 1) dX1_startsRun_30 rfl ?_
          refine x_isub dX1_startsRun_31 ?_
          obtain ⟨t2, ht2, h⟩ := x_let_e h
          refine x_nm t2 ht2 ?_
          obtain ⟨hg3, h⟩ := x_g_e h
          refine x_zald 128 t2.toNatClampNeg rfl rfl rfl rfl (ok_a (K := 2) (Nat.le_of_ble_eq_true rfl) hd0) hg3 dX1_startsRun_32 ?_
          refine x_if_eq (tgt := 40) dX1_startsRun_33 rfl (fun hc => ?_) (fun hc => ?_)
          · have h := x_t hc h
            refine x_iconst (x := 0) dX1_startsRun_40 rfl ?_
            exact x_zretH rfl rfl dX1_startsRun_41 h
          · have h := x_f hc h
            refine x_iconst (x := 1) dX1_startsRun_36 rfl ?_
            refine x_goto (tgt := 41) dX1_startsRun_37 rfl ?_
            exact x_zretH rfl rfl dX1_startsRun_41 h
set_option maxRecDepth 100000 in
set_option maxHeartbeats 4000000 in
theorem TX1_freeLength_8 {l : Launch} {w : xW} {d0 : Nat} (hd0 : d0 < 4) {τ : xS} {r : Int32} : ∀ (n : Nat) (a2 : Int32) (a3 : Int32) (σ : xS), BX1_freeLength_8 d0 n a2 a3 σ = some (r, τ) → xAt l w mX1_freeLength 8 [(0, .ref (w.2.2 d0 1 0 0)), (2, .int a2), (3, .int a3)] [] σ (some (.int r)) τ := by
  intro n
  induction n with
  | zero => intro a2 a3 σ h; cases h
  | succ n ih =>
    intro a2 a3 σ h
    rw [BX1_freeLength_8] at h
    refine x_iload_n dX1_freeLength_8 rfl 2 rfl ?_
    refine x_aload_n dX1_freeLength_9 rfl 0 rfl ?_
    refine x_getI fl_X1_37 (ok_a (K := 1) (Nat.le_of_ble_eq_true rfl) hd0) rfl dX1_freeLength_10 ?_
    refine x_icmp_ge (tgt := 34) dX1_freeLength_13 rfl (fun hc => ?_) (fun hc => ?_)
    · have h := x_t hc h
      refine x_iload_n dX1_freeLength_34 rfl 1 rfl ?_
      exact x_iretH rfl dX1_freeLength_35 h
    · have h := x_f hc h
      refine x_aload_n dX1_freeLength_16 rfl 0 rfl ?_
      refine x_getR (d1 := d0) (K1 := 2) (p1 := 0) (r1 := 0) fl_X1_9 (ok_a (K := 1) (Nat.le_of_ble_eq_true rfl) hd0) rfl dX1_freeLength_17 ?_
      refine x_iload_n dX1_freeLength_20 rfl 2 rfl ?_
      obtain ⟨hg2, h⟩ := x_g_e h
      refine x_zald 128 a3.toNatClampNeg rfl rfl rfl rfl (ok_a (K := 2) (Nat.le_of_ble_eq_true rfl) hd0) hg2 dX1_freeLength_21 ?_
      refine x_if_ne (tgt := 34) dX1_freeLength_22 rfl (fun hc => ?_) (fun hc => ?_)
      · have h := x_f hc h
        refine x_iload_n dX1_freeLength_34 rfl 1 rfl ?_
        exact x_iretH rfl dX1_freeLength_35 h
      · have h := x_t hc h
        obtain ⟨t3, ht3, h⟩ := x_let_e h
        refine x_iinc t3 1 rfl ht3 dX1_freeLength_25 1 rfl (Nat.le_of_ble_eq_true rfl) [(2, .int t3), (0, .ref (w.2.2 d0 1 0 0)), (3, .int a3)] rfl ?_
        obtain ⟨t4, ht4, h⟩ := x_let_e h
        refine x_iinc t4 1 rfl ht4 dX1_freeLength_28 2 rfl (Nat.le_of_ble_eq_true rfl) [(3, .int t4), (2, .int t3), (0, .ref (w.2.2 d0 1 0 0))] rfl ?_
        refine x_goto (tgt := 8) dX1_freeLength_31 rfl ?_
        refine x_sub (L1 := [(0, .ref (w.2.2 d0 1 0 0)), (2, .int t3), (3, .int t4)]) [2, 1, 0] rfl ?_
        exact ih _ _ _ h
set_option maxRecDepth 100000 in
set_option maxHeartbeats 4000000 in
theorem eX1_freeLength {l : Launch} {w : xW} {d0 : Nat} {a1 : Int32} (hd0 : d0 < 4) {σ τ : xS} {r : Int32} (h : fX1_freeLength d0 a1 σ = some (r, τ)) : xEV l w yX1_freeLength mX1_freeLength [.ref (w.2.2 d0 1 0 0), .int a1] σ (some (.int r)) τ := by
  rw [fX1_freeLength] at h
  refine x_enter (by decide +kernel) rfl (Nat.le_of_ble_eq_true rfl) ?_
  refine x_sub (L1 := [(0, .ref (w.2.2 d0 1 0 0)), (1, .int a1)]) [0, 1] rfl ?_
  refine x_iconst (x := 0) dX1_freeLength_0 rfl ?_
  refine x_istore_n 0 rfl dX1_freeLength_1 rfl (Nat.le_of_ble_eq_true rfl) [(2, .int 0), (0, .ref (w.2.2 d0 1 0 0)), (1, .int a1)] rfl ?_
  refine x_iconst (x := 0) dX1_freeLength_2 rfl ?_
  refine x_iload_n dX1_freeLength_3 rfl 2 rfl ?_
  refine x_max lk_X1_58 w_max (Nat.le_of_ble_eq_true rfl) (Nat.le_of_ble_eq_true rfl) dX1_freeLength_4 ?_
  obtain ⟨t1, ht1, h⟩ := x_let_e h
  refine x_istore_n t1 ht1 dX1_freeLength_7 rfl (Nat.le_of_ble_eq_true rfl) [(3, .int t1), (2, .int 0), (0, .ref (w.2.2 d0 1 0 0)), (1, .int a1)] rfl ?_
  refine x_sub (L1 := [(0, .ref (w.2.2 d0 1 0 0)), (2, .int 0), (3, .int t1)]) [2, 1, 0] rfl ?_
  exact TX1_freeLength_8 hd0 _ _ _ _ h
set_option maxRecDepth 100000 in
set_option maxHeartbeats 4000000 in
theorem TX1_countRuns_4 {l : Launch} {w : xW} {d0 : Nat} (hd0 : d0 < 4) {τ : xS} {r : Int32} : ∀ (n : Nat) (a1 : Int32) (a2 : Int32) (σ : xS), BX1_countRuns_4 d0 n a1 a2 σ = some (r, τ) → xAt l w mX1_countRuns 4 [(0, .ref (w.2.2 d0 1 0 0)), (1, .int a1), (2, .int a2)] [] σ (some (.int r)) τ := by
  intro n
  induction n with
  | zero => intro a1 a2 σ h; cases h
  | succ n ih =>
    intro a1 a2 σ h
    rw [BX1_countRuns_4] at h
    refine x_iload_n dX1_countRuns_4 rfl 2 rfl ?_
    refine x_aload_n dX1_countRuns_5 rfl 0 rfl ?_
    refine x_getI fl_X1_37 (ok_a (K := 1) (Nat.le_of_ble_eq_true rfl) hd0) rfl dX1_countRuns_6 ?_
    refine x_icmp_ge (tgt := 29) dX1_countRuns_9 rfl (fun hc => ?_) (fun hc => ?_)
    · have h := x_t hc h
      refine x_iload_n dX1_countRuns_29 rfl 1 rfl ?_
      exact x_iretH rfl dX1_countRuns_30 h
    · have h := x_f hc h
      refine x_aload_n dX1_countRuns_12 rfl 0 rfl ?_
      refine x_iload_n dX1_countRuns_13 rfl 2 rfl ?_
      obtain ⟨z1, s1, h1, h⟩ := x_b_e h
      refine x_callV (As := [.int a2]) (st := []) (eX1_startsRun hd0 h1) cv_X1_64 (Nat.le_of_ble_eq_true rfl) (ok_a (K := 1) (Nat.le_of_ble_eq_true rfl) hd0) rfl (Nat.le_of_ble_eq_true rfl) _ rfl dX1_countRuns_14 [.int z1] rfl ?_
      refine x_if_eq (tgt := 23) dX1_countRuns_17 rfl (fun hc => ?_) (fun hc => ?_)
      · have h := x_t hc h
        obtain ⟨t2, ht2, h⟩ := x_let_e h
        refine x_iinc t2 1 rfl ht2 dX1_countRuns_23 2 rfl (Nat.le_of_ble_eq_true rfl) [(2, .int t2), (0, .ref (w.2.2 d0 1 0 0)), (1, .int a1)] rfl ?_
        refine x_goto (tgt := 4) dX1_countRuns_26 rfl ?_
        refine x_sub (L1 := [(0, .ref (w.2.2 d0 1 0 0)), (1, .int a1), (2, .int t2)]) [1, 2, 0] rfl ?_
        exact ih _ _ _ h
      · have h := x_f hc h
        obtain ⟨t3, ht3, h⟩ := x_let_e h
        refine x_iinc t3 1 rfl ht3 dX1_countRuns_20 1 rfl (Nat.le_of_ble_eq_true rfl) [(1, .int t3), (0, .ref (w.2.2 d0 1 0 0)), (2, .int a2)] rfl ?_
        obtain ⟨t4, ht4, h⟩ := x_let_e h
        refine x_iinc t4 1 rfl ht4 dX1_countRuns_23 2 rfl (Nat.le_of_ble_eq_true rfl) [(2, .int t4), (1, .int t3), (0, .ref (w.2.2 d0 1 0 0))] rfl ?_
        refine x_goto (tgt := 4) dX1_countRuns_26 rfl ?_
        refine x_sub (L1 := [(0, .ref (w.2.2 d0 1 0 0)), (1, .int t3), (2, .int t4)]) [2, 1, 0] rfl ?_
        exact ih _ _ _ h
set_option maxRecDepth 100000 in
set_option maxHeartbeats 4000000 in
theorem eX1_countRuns {l : Launch} {w : xW} {d0 : Nat} (hd0 : d0 < 4) {σ τ : xS} {r : Int32} (h : fX1_countRuns d0 σ = some (r, τ)) : xEV l w yX1_countRuns mX1_countRuns [.ref (w.2.2 d0 1 0 0)] σ (some (.int r)) τ := by
  rw [fX1_countRuns] at h
  refine x_enter (by decide +kernel) rfl (Nat.le_of_ble_eq_true rfl) ?_
  refine x_sub (L1 := [(0, .ref (w.2.2 d0 1 0 0))]) [0] rfl ?_
  refine x_iconst (x := 0) dX1_countRuns_0 rfl ?_
  refine x_istore_n 0 rfl dX1_countRuns_1 rfl (Nat.le_of_ble_eq_true rfl) [(1, .int 0), (0, .ref (w.2.2 d0 1 0 0))] rfl ?_
  refine x_iconst (x := 0) dX1_countRuns_2 rfl ?_
  refine x_istore_n 0 rfl dX1_countRuns_3 rfl (Nat.le_of_ble_eq_true rfl) [(2, .int 0), (1, .int 0), (0, .ref (w.2.2 d0 1 0 0))] rfl ?_
  refine x_sub (L1 := [(0, .ref (w.2.2 d0 1 0 0)), (1, .int 0), (2, .int 0)]) [2, 1, 0] rfl ?_
  exact TX1_countRuns_4 hd0 _ _ _ _ h
set_option maxRecDepth 100000 in
set_option maxHeartbeats 4000000 in
theorem TX1_findRun_4 {l : Launch} {w : xW} {d0 : Nat} {a1 : Int32} (hd0 : d0 < 4) {τ : xS} {r : Int32} : ∀ (n : Nat) (a2 : Int32) (a3 : Int32) (σ : xS), BX1_findRun_4 d0 a1 n a2 a3 σ = some (r, τ) → xAt l w mX1_findRun 4 [(0, .ref (w.2.2 d0 1 0 0)), (1, .int a1), (2, .int a2), (3, .int a3)] [] σ (some (.int r)) τ := by
  intro n
  induction n with
  | zero => intro a2 a3 σ h; cases h
  | succ n ih =>
    intro a2 a3 σ h
    rw [BX1_findRun_4] at h
    refine x_iload_n dX1_findRun_4 rfl 3 rfl ?_
    refine x_aload_n dX1_findRun_5 rfl 0 rfl ?_
    refine x_getI fl_X1_37 (ok_a (K := 1) (Nat.le_of_ble_eq_true rfl) hd0) rfl dX1_findRun_6 ?_
    refine x_icmp_ge (tgt := 36) dX1_findRun_9 rfl (fun hc => ?_) (fun hc => ?_)
    · have h := x_t hc h
      refine x_iconst (x := (-1)) dX1_findRun_36 (by decide) ?_
      exact x_iretH rfl dX1_findRun_37 h
    · have h := x_f hc h
      refine x_aload_n dX1_findRun_12 rfl 0 rfl ?_
      refine x_iload_n dX1_findRun_13 rfl 3 rfl ?_
      obtain ⟨z1, s1, h1, h⟩ := x_b_e h
      refine x_callV (As := [.int a3]) (st := []) (eX1_startsRun hd0 h1) cv_X1_64 (Nat.le_of_ble_eq_true rfl) (ok_a (K := 1) (Nat.le_of_ble_eq_true rfl) hd0) rfl (Nat.le_of_ble_eq_true rfl) _ rfl dX1_findRun_14 [.int z1] rfl ?_
      refine x_if_eq (tgt := 30) dX1_findRun_17 rfl (fun hc => ?_) (fun hc => ?_)
      · have h := x_t hc h
        obtain ⟨t2, ht2, h⟩ := x_let_e h
        refine x_iinc t2 1 rfl ht2 dX1_findRun_30 3 rfl (Nat.le_of_ble_eq_true rfl) [(3, .int t2), (0, .ref (w.2.2 d0 1 0 0)), (1, .int a1), (2, .int a2)] rfl ?_
        refine x_goto (tgt := 4) dX1_findRun_33 rfl ?_
        refine x_sub (L1 := [(0, .ref (w.2.2 d0 1 0 0)), (1, .int a1), (2, .int a2), (3, .int t2)]) [1, 2, 3, 0] rfl ?_
        exact ih _ _ _ h
      · have h := x_f hc h
        refine x_iload_n dX1_findRun_20 rfl 2 rfl ?_
        refine x_iload_n dX1_findRun_21 rfl 1 rfl ?_
        refine x_icmp_ne (tgt := 27) dX1_findRun_22 rfl (fun hc => ?_) (fun hc => ?_)
        · have h := x_f hc h
          obtain ⟨t3, ht3, h⟩ := x_let_e h
          refine x_iinc t3 1 rfl ht3 dX1_findRun_27 2 rfl (Nat.le_of_ble_eq_true rfl) [(2, .int t3), (0, .ref (w.2.2 d0 1 0 0)), (1, .int a1), (3, .int a3)] rfl ?_
          obtain ⟨t4, ht4, h⟩ := x_let_e h
          refine x_iinc t4 1 rfl ht4 dX1_findRun_30 3 rfl (Nat.le_of_ble_eq_true rfl) [(3, .int t4), (2, .int t3), (0, .ref (w.2.2 d0 1 0 0)), (1, .int a1)] rfl ?_
          refine x_goto (tgt := 4) dX1_findRun_33 rfl ?_
          refine x_sub (L1 := [(0, .ref (w.2.2 d0 1 0 0)), (1, .int a1), (2, .int t3), (3, .int t4)]) [2, 3, 1, 0] rfl ?_
          exact ih _ _ _ h
        · have h := x_t hc h
          refine x_iload_n dX1_findRun_25 rfl 3 rfl ?_
          exact x_iretH rfl dX1_findRun_26 h
set_option maxRecDepth 100000 in
set_option maxHeartbeats 4000000 in
theorem eX1_findRun {l : Launch} {w : xW} {d0 : Nat} {a1 : Int32} (hd0 : d0 < 4) {σ τ : xS} {r : Int32} (h : fX1_findRun d0 a1 σ = some (r, τ)) : xEV l w yX1_findRun mX1_findRun [.ref (w.2.2 d0 1 0 0), .int a1] σ (some (.int r)) τ := by
  rw [fX1_findRun] at h
  refine x_enter (by decide +kernel) rfl (Nat.le_of_ble_eq_true rfl) ?_
  refine x_sub (L1 := [(0, .ref (w.2.2 d0 1 0 0)), (1, .int a1)]) [0, 1] rfl ?_
  refine x_iconst (x := 0) dX1_findRun_0 rfl ?_
  refine x_istore_n 0 rfl dX1_findRun_1 rfl (Nat.le_of_ble_eq_true rfl) [(2, .int 0), (0, .ref (w.2.2 d0 1 0 0)), (1, .int a1)] rfl ?_
  refine x_iconst (x := 0) dX1_findRun_2 rfl ?_
  refine x_istore_n 0 rfl dX1_findRun_3 rfl (Nat.le_of_ble_eq_true rfl) [(3, .int 0), (2, .int 0), (0, .ref (w.2.2 d0 1 0 0)), (1, .int a1)] rfl ?_
  refine x_sub (L1 := [(0, .ref (w.2.2 d0 1 0 0)), (1, .int a1), (2, .int 0), (3, .int 0)]) [2, 3, 1, 0] rfl ?_
  exact TX1_findRun_4 hd0 _ _ _ _ h
set_option maxRecDepth 100000 in
set_option maxHeartbeats 4000000 in
theorem eX1_suitsBetter {l : Launch} {w : xW} {a0 : Int32} {a1 : Int32} {a2 : Int32} {σ τ : xS} {r : Int32} (h : fX1_suitsBetter a0 a1 a2 σ = some (r, τ)) : xEV l w yX1_suitsBetter mX1_suitsBetter [.int a0, .int a1, .int a2] σ (some (.int r)) τ := by
  rw [fX1_suitsBetter] at h
  refine x_enter (by decide +kernel) rfl (Nat.le_of_ble_eq_true rfl) ?_
  refine x_sub (L1 := [(0, .int a0), (1, .int a1), (2, .int a2)]) [0, 1, 2] rfl ?_
  refine x_iload_n dX1_suitsBetter_0 rfl 1 rfl ?_
  refine x_iload_n dX1_suitsBetter_1 rfl 2 rfl ?_
  refine x_icmp_lt (tgt := 21) dX1_suitsBetter_2 rfl (fun hc => ?_) (fun hc => ?_)
  · have h := x_t hc h
    refine x_iload_n dX1_suitsBetter_21 rfl 0 rfl ?_
    refine x_iload_n dX1_suitsBetter_22 rfl 1 rfl ?_
    refine x_icmp_le (tgt := 30) dX1_suitsBetter_23 rfl (fun hc => ?_) (fun hc => ?_)
    · have h := x_t hc h
      refine x_iconst (x := 0) dX1_suitsBetter_30 rfl ?_
      exact x_zretH rfl rfl dX1_suitsBetter_31 h
    · have h := x_f hc h
      refine x_iconst (x := 1) dX1_suitsBetter_26 rfl ?_
      refine x_goto (tgt := 31) dX1_suitsBetter_27 rfl ?_
      exact x_zretH rfl rfl dX1_suitsBetter_31 h
  · have h := x_f hc h
    refine x_iload_n dX1_suitsBetter_5 rfl 0 rfl ?_
    refine x_iload_n dX1_suitsBetter_6 rfl 2 rfl ?_
    refine x_icmp_lt (tgt := 19) dX1_suitsBetter_7 rfl (fun hc => ?_) (fun hc => ?_)
    · have h := x_t hc h
      refine x_iconst (x := 0) dX1_suitsBetter_19 rfl ?_
      exact x_zretH rfl rfl dX1_suitsBetter_20 h
    · have h := x_f hc h
      refine x_iload_n dX1_suitsBetter_10 rfl 0 rfl ?_
      refine x_iload_n dX1_suitsBetter_11 rfl 1 rfl ?_
      refine x_icmp_ge (tgt := 19) dX1_suitsBetter_12 rfl (fun hc => ?_) (fun hc => ?_)
      · have h := x_t hc h
        refine x_iconst (x := 0) dX1_suitsBetter_19 rfl ?_
        exact x_zretH rfl rfl dX1_suitsBetter_20 h
      · have h := x_f hc h
        refine x_iconst (x := 1) dX1_suitsBetter_15 rfl ?_
        refine x_goto (tgt := 20) dX1_suitsBetter_16 rfl ?_
        exact x_zretH rfl rfl dX1_suitsBetter_20 h
set_option maxRecDepth 100000 in
set_option maxHeartbeats 4000000 in
theorem TX1_chooseRun_7 {l : Launch} {w : xW} {d0 : Nat} {a1 : Int32} (hd0 : d0 < 4) {τ : xS} {r : Int32} : ∀ (n : Nat) (a2 : Int32) (a3 : Int32) (a4 : Int32) (σ : xS), BX1_chooseRun_7 d0 a1 n a2 a3 a4 σ = some (r, τ) → xAt l w mX1_chooseRun 7 [(0, .ref (w.2.2 d0 1 0 0)), (1, .int a1), (2, .int a2), (3, .int a3), (4, .int a4)] [] σ (some (.int r)) τ := by
  intro n
  induction n with
  | zero => intro a2 a3 a4 σ h; cases h
  | succ n ih =>
    intro a2 a3 a4 σ h
    rw [BX1_chooseRun_7] at h
    refine x_iload dX1_chooseRun_7 4 rfl ?_
    refine x_aload_n dX1_chooseRun_9 rfl 0 rfl ?_
    refine x_getI fl_X1_37 (ok_a (K := 1) (Nat.le_of_ble_eq_true rfl) hd0) rfl dX1_chooseRun_10 ?_
    refine x_icmp_ge (tgt := 55) dX1_chooseRun_13 rfl (fun hc => ?_) (fun hc => ?_)
    · have h := x_t hc h
      refine x_iload_n dX1_chooseRun_55 rfl 2 rfl ?_
      exact x_iretH rfl dX1_chooseRun_56 h
    · have h := x_f hc h
      refine x_aload_n dX1_chooseRun_16 rfl 0 rfl ?_
      refine x_iload dX1_chooseRun_17 4 rfl ?_
      obtain ⟨z1, s1, h1, h⟩ := x_b_e h
      refine x_callV (As := [.int a4]) (st := []) (eX1_startsRun hd0 h1) cv_X1_64 (Nat.le_of_ble_eq_true rfl) (ok_a (K := 1) (Nat.le_of_ble_eq_true rfl) hd0) rfl (Nat.le_of_ble_eq_true rfl) _ rfl dX1_chooseRun_19 [.int z1] rfl ?_
      refine x_if_eq (tgt := 49) dX1_chooseRun_22 rfl (fun hc => ?_) (fun hc => ?_)
      · have h := x_t hc h
        obtain ⟨t2, ht2, h⟩ := x_let_e h
        refine x_iinc t2 1 rfl ht2 dX1_chooseRun_49 4 rfl (Nat.le_of_ble_eq_true rfl) [(4, .int t2), (0, .ref (w.2.2 d0 1 0 0)), (1, .int a1), (2, .int a2), (3, .int a3)] rfl ?_
        refine x_goto (tgt := 7) dX1_chooseRun_52 rfl ?_
        refine x_sub (L1 := [(0, .ref (w.2.2 d0 1 0 0)), (1, .int a1), (2, .int a2), (3, .int a3), (4, .int t2)]) [1, 2, 3, 4, 0] rfl ?_
        exact ih _ _ _ _ h
      · have h := x_f hc h
        refine x_aload_n dX1_chooseRun_25 rfl 0 rfl ?_
        refine x_iload dX1_chooseRun_26 4 rfl ?_
        obtain ⟨z3, s3, h3, h⟩ := x_b_e h
        refine x_callV (As := [.int a4]) (st := []) (eX1_freeLength hd0 h3) cv_X1_70 (Nat.le_of_ble_eq_true rfl) (ok_a (K := 1) (Nat.le_of_ble_eq_true rfl) hd0) rfl (Nat.le_of_ble_eq_true rfl) _ rfl dX1_chooseRun_28 [.int z3] rfl ?_
        refine x_istore z3 rfl dX1_chooseRun_31 (Nat.le_of_ble_eq_true rfl) [(5, .int z3), (0, .ref (w.2.2 d0 1 0 0)), (1, .int a1), (2, .int a2), (3, .int a3), (4, .int a4)] rfl ?_
        refine x_iload dX1_chooseRun_33 0 rfl ?_
        refine x_iload_n dX1_chooseRun_35 rfl 4 rfl ?_
        refine x_iload_n dX1_chooseRun_36 rfl 2 rfl ?_
        obtain ⟨z4, s4, h4, h⟩ := x_b_e h
        refine x_callS (As := [.int z3, .int a3, .int a1]) (st := []) (eX1_suitsBetter  h4) cs_X1_80 (Nat.le_of_ble_eq_true rfl) rfl (Nat.le_of_ble_eq_true rfl) _ rfl dX1_chooseRun_37 [.int z4] rfl ?_
        refine x_if_eq (tgt := 49) dX1_chooseRun_40 rfl (fun hc => ?_) (fun hc => ?_)
        · have h := x_t hc h
          obtain ⟨t5, ht5, h⟩ := x_let_e h
          refine x_iinc t5 1 rfl ht5 dX1_chooseRun_49 5 rfl (Nat.le_of_ble_eq_true rfl) [(4, .int t5), (5, .int z3), (0, .ref (w.2.2 d0 1 0 0)), (1, .int a1), (2, .int a2), (3, .int a3)] rfl ?_
          refine x_goto (tgt := 7) dX1_chooseRun_52 rfl ?_
          refine x_sub (L1 := [(0, .ref (w.2.2 d0 1 0 0)), (1, .int a1), (2, .int a2), (3, .int a3), (4, .int t5)]) [2, 3, 4, 5, 0] rfl ?_
          exact ih _ _ _ _ h
        · have h := x_f hc h
          refine x_iload dX1_chooseRun_43 5 rfl ?_
          refine x_istore_n a4 rfl dX1_chooseRun_45 rfl (Nat.le_of_ble_eq_true rfl) [(2, .int a4), (5, .int z3), (0, .ref (w.2.2 d0 1 0 0)), (1, .int a1), (3, .int a3), (4, .int a4)] rfl ?_
          refine x_iload dX1_chooseRun_46 1 rfl ?_
          refine x_istore_n z3 rfl dX1_chooseRun_48 rfl (Nat.le_of_ble_eq_true rfl) [(3, .int z3), (2, .int a4), (5, .int z3), (0, .ref (w.2.2 d0 1 0 0)), (1, .int a1), (4, .int a4)] rfl ?_
          obtain ⟨t6, ht6, h⟩ := x_let_e h
          refine x_iinc t6 1 rfl ht6 dX1_chooseRun_49 5 rfl (Nat.le_of_ble_eq_true rfl) [(4, .int t6), (3, .int z3), (2, .int a4), (5, .int z3), (0, .ref (w.2.2 d0 1 0 0)), (1, .int a1)] rfl ?_
          refine x_goto (tgt := 7) dX1_chooseRun_52 rfl ?_
          refine x_sub (L1 := [(0, .ref (w.2.2 d0 1 0 0)), (1, .int a1), (2, .int a4), (3, .int z3), (4, .int t6)]) [4, 5, 2, 1, 0] rfl ?_
          exact ih _ _ _ _ h
set_option maxRecDepth 100000 in
set_option maxHeartbeats 4000000 in
theorem eX1_chooseRun {l : Launch} {w : xW} {d0 : Nat} {a1 : Int32} (hd0 : d0 < 4) {σ τ : xS} {r : Int32} (h : fX1_chooseRun d0 a1 σ = some (r, τ)) : xEV l w yX1_chooseRun mX1_chooseRun [.ref (w.2.2 d0 1 0 0), .int a1] σ (some (.int r)) τ := by
  rw [fX1_chooseRun] at h
  refine x_enter (by decide +kernel) rfl (Nat.le_of_ble_eq_true rfl) ?_
  refine x_sub (L1 := [(0, .ref (w.2.2 d0 1 0 0)), (1, .int a1)]) [0, 1] rfl ?_
  refine x_iconst (x := (-1)) dX1_chooseRun_0 (by decide) ?_
  refine x_istore_n (-1) rfl dX1_chooseRun_1 rfl (Nat.le_of_ble_eq_true rfl) [(2, .int (-1)), (0, .ref (w.2.2 d0 1 0 0)), (1, .int a1)] rfl ?_
  refine x_iconst (x := 0) dX1_chooseRun_2 rfl ?_
  refine x_istore_n 0 rfl dX1_chooseRun_3 rfl (Nat.le_of_ble_eq_true rfl) [(3, .int 0), (2, .int (-1)), (0, .ref (w.2.2 d0 1 0 0)), (1, .int a1)] rfl ?_
  refine x_iconst (x := 0) dX1_chooseRun_4 rfl ?_
  refine x_istore 0 rfl dX1_chooseRun_5 (Nat.le_of_ble_eq_true rfl) [(4, .int 0), (3, .int 0), (2, .int (-1)), (0, .ref (w.2.2 d0 1 0 0)), (1, .int a1)] rfl ?_
  refine x_sub (L1 := [(0, .ref (w.2.2 d0 1 0 0)), (1, .int a1), (2, .int (-1)), (3, .int 0), (4, .int 0)]) [3, 4, 2, 1, 0] rfl ?_
  exact TX1_chooseRun_7 hd0 _ _ _ _ _ h
set_option maxRecDepth 100000 in
set_option maxHeartbeats 4000000 in
theorem TX1_occupy_2 {l : Launch} {w : xW} {d0 : Nat} {a1 : Int32} {a2 : Int32} (hd0 : d0 < 4) {τ : xS} {r : Unit} : ∀ (n : Nat) (a3 : Int32) (σ : xS), BX1_occupy_2 d0 a1 a2 n a3 σ = some (r, τ) → xAt l w mX1_occupy 2 [(0, .ref (w.2.2 d0 1 0 0)), (1, .int a1), (2, .int a2), (3, .int a3)] [] σ none τ := by
  intro n
  induction n with
  | zero => intro a3 σ h; cases h
  | succ n ih =>
    intro a3 σ h
    rw [BX1_occupy_2] at h
    refine x_iload_n dX1_occupy_2 rfl 3 rfl ?_
    refine x_iload_n dX1_occupy_3 rfl 1 rfl ?_
    refine x_iload_n dX1_occupy_4 rfl 2 rfl ?_
    refine x_iadd dX1_occupy_5 ?_
    refine x_icmp_ge (tgt := 29) dX1_occupy_6 rfl (fun hc => ?_) (fun hc => ?_)
    · have h := x_t hc h
      refine x_aload_n dX1_occupy_29 rfl 0 rfl ?_
      refine x_getR (d1 := d0) (K1 := 3) (p1 := 0) (r1 := 0) fl_X1_15 (ok_a (K := 1) (Nat.le_of_ble_eq_true rfl) hd0) rfl dX1_occupy_30 ?_
      refine x_iload_n dX1_occupy_33 rfl 1 rfl ?_
      refine x_iload_n dX1_occupy_34 rfl 2 rfl ?_
      obtain ⟨hg1, h⟩ := x_g_e h
      obtain ⟨s2, hs2, h⟩ := x_let_e h
      refine x_iast 128 a1.toNatClampNeg rfl s2 hs2 rfl rfl rfl (ok_a (K := 3) (Nat.le_of_ble_eq_true rfl) hd0) hg1 dX1_occupy_35 ?_
      refine x_aload_n dX1_occupy_36 rfl 0 rfl ?_
      refine x_getR (d1 := d0) (K1 := 4) (p1 := 0) (r1 := 0) fl_X1_19 (ok_a (K := 1) (Nat.le_of_ble_eq_true rfl) hd0) rfl dX1_occupy_37 ?_
      refine x_iload_n dX1_occupy_40 rfl 1 rfl ?_
      refine x_iconst (x := (-1)) dX1_occupy_41 (by decide) ?_
      obtain ⟨hg3, h⟩ := x_g_e h
      obtain ⟨s4, hs4, h⟩ := x_let_e h
      refine x_iast 128 a1.toNatClampNeg rfl s4 hs4 rfl rfl rfl (ok_a (K := 4) (Nat.le_of_ble_eq_true rfl) hd0) hg3 dX1_occupy_42 ?_
      exact x_vretH rfl dX1_occupy_43 h
    · have h := x_f hc h
      refine x_iload_n dX1_occupy_9 rfl 3 rfl ?_
      refine x_sipush (x := 128) dX1_occupy_10 rfl ?_
      refine x_icmp_ge (tgt := 29) dX1_occupy_13 rfl (fun hc => ?_) (fun hc => ?_)
      · have h := x_t hc h
        refine x_aload_n dX1_occupy_29 rfl 0 rfl ?_
        refine x_getR (d1 := d0) (K1 := 3) (p1 := 0) (r1 := 0) fl_X1_15 (ok_a (K := 1) (Nat.le_of_ble_eq_true rfl) hd0) rfl dX1_occupy_30 ?_
        refine x_iload_n dX1_occupy_33 rfl 1 rfl ?_
        refine x_iload_n dX1_occupy_34 rfl 2 rfl ?_
        obtain ⟨hg5, h⟩ := x_g_e h
        obtain ⟨s6, hs6, h⟩ := x_let_e h
        refine x_iast 128 a1.toNatClampNeg rfl s6 hs6 rfl rfl rfl (ok_a (K := 3) (Nat.le_of_ble_eq_true rfl) hd0) hg5 dX1_occupy_35 ?_
        refine x_aload_n dX1_occupy_36 rfl 0 rfl ?_
        refine x_getR (d1 := d0) (K1 := 4) (p1 := 0) (r1 := 0) fl_X1_19 (ok_a (K := 1) (Nat.le_of_ble_eq_true rfl) hd0) rfl dX1_occupy_37 ?_
        refine x_iload_n dX1_occupy_40 rfl 1 rfl ?_
        refine x_iconst (x := (-1)) dX1_occupy_41 (by decide) ?_
        obtain ⟨hg7, h⟩ := x_g_e h
        obtain ⟨s8, hs8, h⟩ := x_let_e h
        refine x_iast 128 a1.toNatClampNeg rfl s8 hs8 rfl rfl rfl (ok_a (K := 4) (Nat.le_of_ble_eq_true rfl) hd0) hg7 dX1_occupy_42 ?_
        exact x_vretH rfl dX1_occupy_43 h
      · have h := x_f hc h
        refine x_aload_n dX1_occupy_16 rfl 0 rfl ?_
        refine x_getR (d1 := d0) (K1 := 2) (p1 := 0) (r1 := 0) fl_X1_9 (ok_a (K := 1) (Nat.le_of_ble_eq_true rfl) hd0) rfl dX1_occupy_17 ?_
        refine x_iload_n dX1_occupy_20 rfl 3 rfl ?_
        refine x_iconst (x := 1) dX1_occupy_21 rfl ?_
        obtain ⟨hg9, h⟩ := x_g_e h
        obtain ⟨s10, hs10, h⟩ := x_let_e h
        refine x_zast 128 a3.toNatClampNeg rfl s10 hs10 rfl rfl rfl rfl (ok_a (K := 2) (Nat.le_of_ble_eq_true rfl) hd0) hg9 dX1_occupy_22 ?_
        obtain ⟨t11, ht11, h⟩ := x_let_e h
        refine x_iinc t11 1 rfl ht11 dX1_occupy_23 3 rfl (Nat.le_of_ble_eq_true rfl) [(3, .int t11), (0, .ref (w.2.2 d0 1 0 0)), (1, .int a1), (2, .int a2)] rfl ?_
        refine x_goto (tgt := 2) dX1_occupy_26 rfl ?_
        refine x_sub (L1 := [(0, .ref (w.2.2 d0 1 0 0)), (1, .int a1), (2, .int a2), (3, .int t11)]) [1, 2, 3, 0] rfl ?_
        exact ih _ _ h
set_option maxRecDepth 100000 in
set_option maxHeartbeats 4000000 in
theorem eX1_occupy {l : Launch} {w : xW} {d0 : Nat} {a1 : Int32} {a2 : Int32} (hd0 : d0 < 4) {σ τ : xS} {r : Unit} (h : fX1_occupy d0 a1 a2 σ = some (r, τ)) : xEV l w yX1_occupy mX1_occupy [.ref (w.2.2 d0 1 0 0), .int a1, .int a2] σ none τ := by
  rw [fX1_occupy] at h
  refine x_enter (by decide +kernel) rfl (Nat.le_of_ble_eq_true rfl) ?_
  refine x_sub (L1 := [(0, .ref (w.2.2 d0 1 0 0)), (1, .int a1), (2, .int a2)]) [0, 1, 2] rfl ?_
  refine x_iload_n dX1_occupy_0 rfl 1 rfl ?_
  refine x_istore_n a1 rfl dX1_occupy_1 rfl (Nat.le_of_ble_eq_true rfl) [(3, .int a1), (0, .ref (w.2.2 d0 1 0 0)), (1, .int a1), (2, .int a2)] rfl ?_
  refine x_sub (L1 := [(0, .ref (w.2.2 d0 1 0 0)), (1, .int a1), (2, .int a2), (3, .int a1)]) [1, 2, 3, 0] rfl ?_
  exact TX1_occupy_2 hd0 _ _ _ h
set_option maxRecDepth 100000 in
set_option maxHeartbeats 4000000 in
theorem TX1_place_111 {l : Launch} {w : xW} {d0 : Nat} {a1 : Int32} {a2 : Int32} {a3 : Int32} {a6 : Int32} (hd0 : d0 < 4) {σ τ : xS} {r : Int32} (h : BX1_place_111 d0 a1 a2 a3 a6 σ = some (r, τ)) : xAt l w mX1_place 111 [(0, .ref (w.2.2 d0 1 0 0)), (1, .int a1), (2, .int a2), (3, .int a3), (6, .int a6)] [] σ (some (.int r)) τ := by
  rw [BX1_place_111] at h
  refine x_aload_n dX1_place_111 rfl 0 rfl ?_
  refine x_iload_n dX1_place_112 rfl 3 rfl ?_
  obtain ⟨z1, s1, h1, h⟩ := x_b_e h
  refine x_callV (As := [.int a3]) (st := []) (eX1_isCell hd0 h1) cv_X1_47 (Nat.le_of_ble_eq_true rfl) (ok_a (K := 1) (Nat.le_of_ble_eq_true rfl) hd0) rfl (Nat.le_of_ble_eq_true rfl) _ rfl dX1_place_113 [.int z1] rfl ?_
  refine x_if_eq (tgt := 141) dX1_place_116 rfl (fun hc => ?_) (fun hc => ?_)
  · have h := x_t hc h
    refine x_iload_n dX1_place_141 rfl 3 rfl ?_
    exact x_iretH rfl dX1_place_142 h
  · have h := x_f hc h
    refine x_aload_n dX1_place_119 rfl 0 rfl ?_
    refine x_getR (d1 := d0) (K1 := 5) (p1 := 0) (r1 := 0) fl_X1_22 (ok_a (K := 1) (Nat.le_of_ble_eq_true rfl) hd0) rfl dX1_place_120 ?_
    refine x_iload_n dX1_place_123 rfl 3 rfl ?_
    refine x_iload_n dX1_place_124 rfl 1 rfl ?_
    obtain ⟨hg2, h⟩ := x_g_e h
    obtain ⟨s3, hs3, h⟩ := x_let_e h
    refine x_iast 128 a3.toNatClampNeg rfl s3 hs3 rfl rfl rfl (ok_a (K := 5) (Nat.le_of_ble_eq_true rfl) hd0) hg2 dX1_place_125 ?_
    refine x_aload_n dX1_place_126 rfl 0 rfl ?_
    refine x_getR (d1 := d0) (K1 := 6) (p1 := 0) (r1 := 0) fl_X1_25 (ok_a (K := 1) (Nat.le_of_ble_eq_true rfl) hd0) rfl dX1_place_127 ?_
    refine x_iload_n dX1_place_130 rfl 3 rfl ?_
    refine x_iload_n dX1_place_131 rfl 2 rfl ?_
    obtain ⟨hg4, h⟩ := x_g_e h
    obtain ⟨s5, hs5, h⟩ := x_let_e h
    refine x_iast 128 a3.toNatClampNeg rfl s5 hs5 rfl rfl rfl (ok_a (K := 6) (Nat.le_of_ble_eq_true rfl) hd0) hg4 dX1_place_132 ?_
    refine x_aload_n dX1_place_133 rfl 0 rfl ?_
    refine x_getR (d1 := d0) (K1 := 7) (p1 := 0) (r1 := 0) fl_X1_28 (ok_a (K := 1) (Nat.le_of_ble_eq_true rfl) hd0) rfl dX1_place_134 ?_
    refine x_iload_n dX1_place_137 rfl 3 rfl ?_
    refine x_iload dX1_place_138 4 rfl ?_
    obtain ⟨hg6, h⟩ := x_g_e h
    obtain ⟨s7, hs7, h⟩ := x_let_e h
    refine x_iast 128 a3.toNatClampNeg rfl s7 hs7 rfl rfl rfl (ok_a (K := 7) (Nat.le_of_ble_eq_true rfl) hd0) hg6 dX1_place_140 ?_
    refine x_iload_n dX1_place_141 rfl 3 rfl ?_
    exact x_iretH rfl dX1_place_142 h
set_option maxRecDepth 100000 in
set_option maxHeartbeats 4000000 in
theorem TX1_place_14 {l : Launch} {w : xW} {d0 : Nat} {a1 : Int32} {a2 : Int32} (hd0 : d0 < 4) {τ : xS} {r : Int32} : ∀ (n : Nat) (a3 : Int32) (a4 : Int32) (a5 : Int32) (a6 : Int32) (a7 : Int32) (σ : xS), BX1_place_14 d0 a1 a2 n a3 a4 a5 a6 a7 σ = some (r, τ) → xAt l w mX1_place 14 [(0, .ref (w.2.2 d0 1 0 0)), (1, .int a1), (2, .int a2), (3, .int a3), (4, .int a4), (5, .int a5), (6, .int a6), (7, .int a7)] [] σ (some (.int r)) τ := by
  intro n
  induction n with
  | zero => intro a3 a4 a5 a6 a7 σ h; cases h
  | succ n ih =>
    intro a3 a4 a5 a6 a7 σ h
    rw [BX1_place_14] at h
    refine x_iload dX1_place_14 7 rfl ?_
    refine x_bipush (x := 12) dX1_place_16 rfl ?_
    refine x_icmp_ge (tgt := 111) dX1_place_18 rfl (fun hc => ?_) (fun hc => ?_)
    · have h := x_t hc h
      refine x_sub (L1 := [(0, .ref (w.2.2 d0 1 0 0)), (1, .int a1), (2, .int a2), (3, .int a3), (6, .int a6)]) [0, 1, 2, 3, 6] rfl ?_
      exact TX1_place_111 hd0 h
    · have h := x_f hc h
      refine x_iload dX1_place_21 5 rfl ?_
      refine x_if_le (tgt := 111) dX1_place_23 rfl (fun hc => ?_) (fun hc => ?_)
      · have h := x_t hc h
        refine x_sub (L1 := [(0, .ref (w.2.2 d0 1 0 0)), (1, .int a1), (2, .int a2), (3, .int a3), (6, .int a6)]) [0, 1, 2, 3, 6] rfl ?_
        exact TX1_place_111 hd0 h
      · have h := x_f hc h
        refine x_aload_n dX1_place_26 rfl 0 rfl ?_
        refine x_iload dX1_place_27 5 rfl ?_
        obtain ⟨z8, s8, h8, h⟩ := x_b_e h
        refine x_callV (As := [.int a5]) (st := []) (eX1_chooseRun hd0 h8) cv_X1_67 (Nat.le_of_ble_eq_true rfl) (ok_a (K := 1) (Nat.le_of_ble_eq_true rfl) hd0) rfl (Nat.le_of_ble_eq_true rfl) _ rfl dX1_place_29 [.int z8] rfl ?_
        refine x_istore z8 rfl dX1_place_32 (Nat.le_of_ble_eq_true rfl) [(8, .int z8), (0, .ref (w.2.2 d0 1 0 0)), (1, .int a1), (2, .int a2), (3, .int a3), (4, .int a4), (5, .int a5), (6, .int a6), (7, .int a7)] rfl ?_
        refine x_aload_n dX1_place_34 rfl 1 rfl ?_
        refine x_iload dX1_place_35 0 rfl ?_
        obtain ⟨z9, s9, h9, h⟩ := x_b_e h
        refine x_callV (As := [.int z8]) (st := []) (eX1_isCell hd0 h9) cv_X1_47 (Nat.le_of_ble_eq_true rfl) (ok_a (K := 1) (Nat.le_of_ble_eq_true rfl) hd0) rfl (Nat.le_of_ble_eq_true rfl) _ rfl dX1_place_37 [.int z9] rfl ?_
        refine x_if_ne (tgt := 46) dX1_place_40 rfl (fun hc => ?_) (fun hc => ?_)
        · have h := x_f hc h
          refine x_iload dX1_place_46 6 rfl ?_
          refine x_aload_n dX1_place_48 rfl 1 rfl ?_
          refine x_iload dX1_place_49 0 rfl ?_
          obtain ⟨z10, s10, h10, h⟩ := x_b_e h
          refine x_callV (As := [.int z8]) (st := [.int a5]) (eX1_freeLength hd0 h10) cv_X1_70 (Nat.le_of_ble_eq_true rfl) (ok_a (K := 1) (Nat.le_of_ble_eq_true rfl) hd0) rfl (Nat.le_of_ble_eq_true rfl) _ rfl dX1_place_51 [.int z10, .int a5] rfl ?_
          refine x_min lk_X1_73 w_min (Nat.le_of_ble_eq_true rfl) (Nat.le_of_ble_eq_true rfl) dX1_place_54 ?_
          obtain ⟨t11, ht11, h⟩ := x_let_e h
          refine x_istore t11 ht11 dX1_place_57 (Nat.le_of_ble_eq_true rfl) [(9, .int t11), (8, .int z8), (0, .ref (w.2.2 d0 1 0 0)), (1, .int a1), (2, .int a2), (3, .int a3), (4, .int a4), (5, .int a5), (6, .int a6), (7, .int a7)] rfl ?_
          refine x_aload_n dX1_place_59 rfl 2 rfl ?_
          refine x_iload dX1_place_60 1 rfl ?_
          refine x_iload dX1_place_62 0 rfl ?_
          obtain ⟨z12, s12, h12, h⟩ := x_b_e h
          refine x_callV (As := [.int z8, .int t11]) (st := []) (eX1_occupy hd0 h12) cv_X1_76 (Nat.le_of_ble_eq_true rfl) (ok_a (K := 1) (Nat.le_of_ble_eq_true rfl) hd0) rfl (Nat.le_of_ble_eq_true rfl) _ rfl dX1_place_64 [] rfl ?_
          refine x_aload_n dX1_place_67 rfl 2 rfl ?_
          refine x_iload dX1_place_68 6 rfl ?_
          obtain ⟨z13, s13, h13, h⟩ := x_b_e h
          refine x_callV (As := [.int a4]) (st := []) (eX1_isCell hd0 h13) cv_X1_47 (Nat.le_of_ble_eq_true rfl) (ok_a (K := 1) (Nat.le_of_ble_eq_true rfl) hd0) rfl (Nat.le_of_ble_eq_true rfl) _ rfl dX1_place_70 [.int z13] rfl ?_
          refine x_if_eq (tgt := 88) dX1_place_73 rfl (fun hc => ?_) (fun hc => ?_)
          · have h := x_t hc h
            refine x_iload dX1_place_88 1 rfl ?_
            refine x_istore_n z8 rfl dX1_place_90 rfl (Nat.le_of_ble_eq_true rfl) [(3, .int z8), (9, .int t11), (8, .int z8), (0, .ref (w.2.2 d0 1 0 0)), (1, .int a1), (2, .int a2), (4, .int a4), (5, .int a5), (6, .int a6), (7, .int a7)] rfl ?_
            refine x_iload dX1_place_91 2 rfl ?_
            refine x_istore z8 rfl dX1_place_93 (Nat.le_of_ble_eq_true rfl) [(4, .int z8), (3, .int z8), (9, .int t11), (8, .int z8), (0, .ref (w.2.2 d0 1 0 0)), (1, .int a1), (2, .int a2), (5, .int a5), (6, .int a6), (7, .int a7)] rfl ?_
            refine x_iload dX1_place_95 7 rfl ?_
            refine x_iload dX1_place_97 2 rfl ?_
            refine x_isub dX1_place_99 ?_
            obtain ⟨t14, ht14, h⟩ := x_let_e h
            refine x_istore t14 ht14 dX1_place_100 (Nat.le_of_ble_eq_true rfl) [(5, .int t14), (4, .int z8), (3, .int z8), (9, .int t11), (8, .int z8), (0, .ref (w.2.2 d0 1 0 0)), (1, .int a1), (2, .int a2), (6, .int a6), (7, .int a7)] rfl ?_
            obtain ⟨t15, ht15, h⟩ := x_let_e h
            refine x_iinc t15 1 rfl ht15 dX1_place_102 8 rfl (Nat.le_of_ble_eq_true rfl) [(6, .int t15), (5, .int t14), (4, .int z8), (3, .int z8), (9, .int t11), (8, .int z8), (0, .ref (w.2.2 d0 1 0 0)), (1, .int a1), (2, .int a2), (7, .int a7)] rfl ?_
            obtain ⟨t16, ht16, h⟩ := x_let_e h
            refine x_iinc t16 1 rfl ht16 dX1_place_105 9 rfl (Nat.le_of_ble_eq_true rfl) [(7, .int t16), (6, .int t15), (5, .int t14), (4, .int z8), (3, .int z8), (9, .int t11), (8, .int z8), (0, .ref (w.2.2 d0 1 0 0)), (1, .int a1), (2, .int a2)] rfl ?_
            refine x_goto (tgt := 14) dX1_place_108 rfl ?_
            refine x_sub (L1 := [(0, .ref (w.2.2 d0 1 0 0)), (1, .int a1), (2, .int a2), (3, .int z8), (4, .int z8), (5, .int t14), (6, .int t15), (7, .int t16)]) [7, 8, 9, 4, 3, 2, 1, 0] rfl ?_
            exact ih _ _ _ _ _ _ h
          · have h := x_f hc h
            refine x_aload_n dX1_place_76 rfl 2 rfl ?_
            refine x_getR (d1 := d0) (K1 := 4) (p1 := 0) (r1 := 0) fl_X1_19 (ok_a (K := 1) (Nat.le_of_ble_eq_true rfl) hd0) rfl dX1_place_77 ?_
            refine x_iload dX1_place_80 6 rfl ?_
            refine x_iload dX1_place_82 1 rfl ?_
            obtain ⟨hg17, h⟩ := x_g_e h
            obtain ⟨s18, hs18, h⟩ := x_let_e h
            refine x_iast 128 a4.toNatClampNeg rfl s18 hs18 rfl rfl rfl (ok_a (K := 4) (Nat.le_of_ble_eq_true rfl) hd0) hg17 dX1_place_84 ?_
            refine x_goto (tgt := 91) dX1_place_85 rfl ?_
            refine x_iload dX1_place_91 1 rfl ?_
            refine x_istore z8 rfl dX1_place_93 (Nat.le_of_ble_eq_true rfl) [(4, .int z8), (9, .int t11), (8, .int z8), (0, .ref (w.2.2 d0 1 0 0)), (1, .int a1), (2, .int a2), (3, .int a3), (5, .int a5), (6, .int a6), (7, .int a7)] rfl ?_
            refine x_iload dX1_place_95 7 rfl ?_
            refine x_iload dX1_place_97 1 rfl ?_
            refine x_isub dX1_place_99 ?_
            obtain ⟨t19, ht19, h⟩ := x_let_e h
            refine x_istore t19 ht19 dX1_place_100 (Nat.le_of_ble_eq_true rfl) [(5, .int t19), (4, .int z8), (9, .int t11), (8, .int z8), (0, .ref (w.2.2 d0 1 0 0)), (1, .int a1), (2, .int a2), (3, .int a3), (6, .int a6), (7, .int a7)] rfl ?_
            obtain ⟨t20, ht20, h⟩ := x_let_e h
            refine x_iinc t20 1 rfl ht20 dX1_place_102 8 rfl (Nat.le_of_ble_eq_true rfl) [(6, .int t20), (5, .int t19), (4, .int z8), (9, .int t11), (8, .int z8), (0, .ref (w.2.2 d0 1 0 0)), (1, .int a1), (2, .int a2), (3, .int a3), (7, .int a7)] rfl ?_
            obtain ⟨t21, ht21, h⟩ := x_let_e h
            refine x_iinc t21 1 rfl ht21 dX1_place_105 9 rfl (Nat.le_of_ble_eq_true rfl) [(7, .int t21), (6, .int t20), (5, .int t19), (4, .int z8), (9, .int t11), (8, .int z8), (0, .ref (w.2.2 d0 1 0 0)), (1, .int a1), (2, .int a2), (3, .int a3)] rfl ?_
            refine x_goto (tgt := 14) dX1_place_108 rfl ?_
            refine x_sub (L1 := [(0, .ref (w.2.2 d0 1 0 0)), (1, .int a1), (2, .int a2), (3, .int a3), (4, .int z8), (5, .int t19), (6, .int t20), (7, .int t21)]) [6, 7, 8, 9, 3, 2, 1, 0] rfl ?_
            exact ih _ _ _ _ _ _ h
        · have h := x_t hc h
          refine x_goto (tgt := 111) dX1_place_43 rfl ?_
          refine x_sub (L1 := [(0, .ref (w.2.2 d0 1 0 0)), (1, .int a1), (2, .int a2), (3, .int a3), (6, .int a6)]) [1, 2, 3, 4, 7] rfl ?_
          exact TX1_place_111 hd0 h
set_option maxRecDepth 100000 in
set_option maxHeartbeats 4000000 in
theorem eX1_place {l : Launch} {w : xW} {d0 : Nat} {a1 : Int32} {a2 : Int32} (hd0 : d0 < 4) {σ τ : xS} {r : Int32} (h : fX1_place d0 a1 a2 σ = some (r, τ)) : xEV l w yX1_place mX1_place [.ref (w.2.2 d0 1 0 0), .int a1, .int a2] σ (some (.int r)) τ := by
  rw [fX1_place] at h
  refine x_enter (by decide +kernel) rfl (Nat.le_of_ble_eq_true rfl) ?_
  refine x_sub (L1 := [(0, .ref (w.2.2 d0 1 0 0)), (1, .int a1), (2, .int a2)]) [0, 1, 2] rfl ?_
  refine x_iconst (x := (-1)) dX1_place_0 (by decide) ?_
  refine x_istore_n (-1) rfl dX1_place_1 rfl (Nat.le_of_ble_eq_true rfl) [(3, .int (-1)), (0, .ref (w.2.2 d0 1 0 0)), (1, .int a1), (2, .int a2)] rfl ?_
  refine x_iconst (x := (-1)) dX1_place_2 (by decide) ?_
  refine x_istore (-1) rfl dX1_place_3 (Nat.le_of_ble_eq_true rfl) [(4, .int (-1)), (3, .int (-1)), (0, .ref (w.2.2 d0 1 0 0)), (1, .int a1), (2, .int a2)] rfl ?_
  refine x_iload_n dX1_place_5 rfl 4 rfl ?_
  refine x_istore a2 rfl dX1_place_6 (Nat.le_of_ble_eq_true rfl) [(5, .int a2), (4, .int (-1)), (3, .int (-1)), (0, .ref (w.2.2 d0 1 0 0)), (1, .int a1), (2, .int a2)] rfl ?_
  refine x_iconst (x := 0) dX1_place_8 rfl ?_
  refine x_istore 0 rfl dX1_place_9 (Nat.le_of_ble_eq_true rfl) [(6, .int 0), (5, .int a2), (4, .int (-1)), (3, .int (-1)), (0, .ref (w.2.2 d0 1 0 0)), (1, .int a1), (2, .int a2)] rfl ?_
  refine x_iconst (x := 0) dX1_place_11 rfl ?_
  refine x_istore 0 rfl dX1_place_12 (Nat.le_of_ble_eq_true rfl) [(7, .int 0), (6, .int 0), (5, .int a2), (4, .int (-1)), (3, .int (-1)), (0, .ref (w.2.2 d0 1 0 0)), (1, .int a1), (2, .int a2)] rfl ?_
  refine x_sub (L1 := [(0, .ref (w.2.2 d0 1 0 0)), (1, .int a1), (2, .int a2), (3, .int (-1)), (4, .int (-1)), (5, .int a2), (6, .int 0), (7, .int 0)]) [5, 6, 7, 4, 3, 2, 1, 0] rfl ?_
  exact TX1_place_14 hd0 _ _ _ _ _ _ _ h
set_option maxRecDepth 100000 in
set_option maxHeartbeats 4000000 in
theorem TX1_release_37 {l : Launch} {w : xW} {d0 : Nat} {a1 : Int32} {a2 : Int32} {a3 : Int32} {a4 : Int32} (hd0 : d0 < 4) {k4 : Int32 → Int32 → xS → Option (Unit × xS)} {τ : xS} {r : Unit} (hk4 : ∀ (a2 : Int32) (a3 : Int32) (σ1 : xS), k4 a2 a3 σ1 = some (r, τ) → xAt l w mX1_release 4 [(0, .ref (w.2.2 d0 1 0 0)), (1, .int a1), (2, .int a2), (3, .int a3)] [] σ1 none τ) : ∀ (n : Nat) (a5 : Int32) (σ : xS), BX1_release_37 d0 a1 a2 a3 a4 k4 n a5 σ = some (r, τ) → xAt l w mX1_release 37 [(0, .ref (w.2.2 d0 1 0 0)), (1, .int a1), (2, .int a2), (3, .int a3), (4, .int a4), (5, .int a5)] [] σ none τ := by
  intro n
  induction n with
  | zero => intro a5 σ h; cases h
  | succ n ih =>
    intro a5 σ h
    rw [BX1_release_37] at h
    refine x_iload dX1_release_37 5 rfl ?_
    refine x_iload dX1_release_39 4 rfl ?_
    refine x_icmp_ge (tgt := 58) dX1_release_41 rfl (fun hc => ?_) (fun hc => ?_)
    · have h := x_t hc h
      refine x_aload_n dX1_release_58 rfl 0 rfl ?_
      refine x_getR (d1 := d0) (K1 := 4) (p1 := 0) (r1 := 0) fl_X1_19 (ok_a (K := 1) (Nat.le_of_ble_eq_true rfl) hd0) rfl dX1_release_59 ?_
      refine x_iload_n dX1_release_62 rfl 2 rfl ?_
      obtain ⟨hg10, h⟩ := x_g_e h
      refine x_iald 128 a2.toNatClampNeg rfl rfl rfl rfl (ok_a (K := 4) (Nat.le_of_ble_eq_true rfl) hd0) hg10 dX1_release_63 ?_
      obtain ⟨t11, ht11, h⟩ := x_let_e h
      refine x_istore_n t11 ht11 dX1_release_64 rfl (Nat.le_of_ble_eq_true rfl) [(2, .int t11), (0, .ref (w.2.2 d0 1 0 0)), (1, .int a1), (3, .int a3), (4, .int a4), (5, .int a5)] rfl ?_
      obtain ⟨t12, ht12, h⟩ := x_let_e h
      refine x_iinc t12 1 rfl ht12 dX1_release_65 3 rfl (Nat.le_of_ble_eq_true rfl) [(3, .int t12), (2, .int t11), (0, .ref (w.2.2 d0 1 0 0)), (1, .int a1), (4, .int a4), (5, .int a5)] rfl ?_
      refine x_goto (tgt := 4) dX1_release_68 rfl ?_
      refine x_sub (L1 := [(0, .ref (w.2.2 d0 1 0 0)), (1, .int a1), (2, .int t11), (3, .int t12)]) [2, 3, 1, 0] rfl ?_
      exact hk4 _ _ _ h
    · have h := x_f hc h
      refine x_aload_n dX1_release_44 rfl 0 rfl ?_
      refine x_getR (d1 := d0) (K1 := 2) (p1 := 0) (r1 := 0) fl_X1_9 (ok_a (K := 1) (Nat.le_of_ble_eq_true rfl) hd0) rfl dX1_release_45 ?_
      refine x_iload dX1_release_48 5 rfl ?_
      refine x_iconst (x := 0) dX1_release_50 rfl ?_
      obtain ⟨hg13, h⟩ := x_g_e h
      obtain ⟨s14, hs14, h⟩ := x_let_e h
      refine x_zast 128 a5.toNatClampNeg rfl s14 hs14 rfl rfl rfl rfl (ok_a (K := 2) (Nat.le_of_ble_eq_true rfl) hd0) hg13 dX1_release_51 ?_
      obtain ⟨t15, ht15, h⟩ := x_let_e h
      refine x_iinc t15 1 rfl ht15 dX1_release_52 5 rfl (Nat.le_of_ble_eq_true rfl) [(5, .int t15), (0, .ref (w.2.2 d0 1 0 0)), (1, .int a1), (2, .int a2), (3, .int a3), (4, .int a4)] rfl ?_
      refine x_goto (tgt := 37) dX1_release_55 rfl ?_
      refine x_sub (L1 := [(0, .ref (w.2.2 d0 1 0 0)), (1, .int a1), (2, .int a2), (3, .int a3), (4, .int a4), (5, .int t15)]) [1, 2, 3, 4, 5, 0] rfl ?_
      exact ih _ _ h
set_option maxRecDepth 100000 in
set_option maxHeartbeats 4000000 in
theorem TX1_release_4 {l : Launch} {w : xW} {d0 : Nat} {a1 : Int32} (hd0 : d0 < 4) {τ : xS} {r : Unit} : ∀ (n : Nat) (a2 : Int32) (a3 : Int32) (σ : xS), BX1_release_4 d0 a1 n a2 a3 σ = some (r, τ) → xAt l w mX1_release 4 [(0, .ref (w.2.2 d0 1 0 0)), (1, .int a1), (2, .int a2), (3, .int a3)] [] σ none τ := by
  intro n
  induction n with
  | zero => intro a2 a3 σ h; cases h
  | succ n ih =>
    intro a2 a3 σ h
    rw [BX1_release_4] at h
    refine x_iload_n dX1_release_4 rfl 3 rfl ?_
    refine x_bipush (x := 12) dX1_release_5 rfl ?_
    refine x_icmp_ge (tgt := 71) dX1_release_7 rfl (fun hc => ?_) (fun hc => ?_)
    · have h := x_t hc h
      refine x_aload_n dX1_release_71 rfl 0 rfl ?_
      refine x_iload_n dX1_release_72 rfl 1 rfl ?_
      obtain ⟨z1, s1, h1, h⟩ := x_b_e h
      refine x_callV (As := [.int a1]) (st := []) (eX1_isCell hd0 h1) cv_X1_47 (Nat.le_of_ble_eq_true rfl) (ok_a (K := 1) (Nat.le_of_ble_eq_true rfl) hd0) rfl (Nat.le_of_ble_eq_true rfl) _ rfl dX1_release_73 [.int z1] rfl ?_
      refine x_if_eq (tgt := 86) dX1_release_76 rfl (fun hc => ?_) (fun hc => ?_)
      · have h := x_t hc h
        exact x_vretH rfl dX1_release_86 h
      · have h := x_f hc h
        refine x_aload_n dX1_release_79 rfl 0 rfl ?_
        refine x_getR (d1 := d0) (K1 := 5) (p1 := 0) (r1 := 0) fl_X1_22 (ok_a (K := 1) (Nat.le_of_ble_eq_true rfl) hd0) rfl dX1_release_80 ?_
        refine x_iload_n dX1_release_83 rfl 1 rfl ?_
        refine x_iconst (x := (-1)) dX1_release_84 (by decide) ?_
        obtain ⟨hg2, h⟩ := x_g_e h
        obtain ⟨s3, hs3, h⟩ := x_let_e h
        refine x_iast 128 a1.toNatClampNeg rfl s3 hs3 rfl rfl rfl (ok_a (K := 5) (Nat.le_of_ble_eq_true rfl) hd0) hg2 dX1_release_85 ?_
        exact x_vretH rfl dX1_release_86 h
    · have h := x_f hc h
      refine x_aload_n dX1_release_10 rfl 0 rfl ?_
      refine x_iload_n dX1_release_11 rfl 2 rfl ?_
      obtain ⟨z4, s4, h4, h⟩ := x_b_e h
      refine x_callV (As := [.int a2]) (st := []) (eX1_isCell hd0 h4) cv_X1_47 (Nat.le_of_ble_eq_true rfl) (ok_a (K := 1) (Nat.le_of_ble_eq_true rfl) hd0) rfl (Nat.le_of_ble_eq_true rfl) _ rfl dX1_release_12 [.int z4] rfl ?_
      refine x_if_eq (tgt := 71) dX1_release_15 rfl (fun hc => ?_) (fun hc => ?_)
      · have h := x_t hc h
        refine x_aload_n dX1_release_71 rfl 0 rfl ?_
        refine x_iload_n dX1_release_72 rfl 1 rfl ?_
        obtain ⟨z5, s5, h5, h⟩ := x_b_e h
        refine x_callV (As := [.int a1]) (st := []) (eX1_isCell hd0 h5) cv_X1_47 (Nat.le_of_ble_eq_true rfl) (ok_a (K := 1) (Nat.le_of_ble_eq_true rfl) hd0) rfl (Nat.le_of_ble_eq_true rfl) _ rfl dX1_release_73 [.int z5] rfl ?_
        refine x_if_eq (tgt := 86) dX1_release_76 rfl (fun hc => ?_) (fun hc => ?_)
        · have h := x_t hc h
          exact x_vretH rfl dX1_release_86 h
        · have h := x_f hc h
          refine x_aload_n dX1_release_79 rfl 0 rfl ?_
          refine x_getR (d1 := d0) (K1 := 5) (p1 := 0) (r1 := 0) fl_X1_22 (ok_a (K := 1) (Nat.le_of_ble_eq_true rfl) hd0) rfl dX1_release_80 ?_
          refine x_iload_n dX1_release_83 rfl 1 rfl ?_
          refine x_iconst (x := (-1)) dX1_release_84 (by decide) ?_
          obtain ⟨hg6, h⟩ := x_g_e h
          obtain ⟨s7, hs7, h⟩ := x_let_e h
          refine x_iast 128 a1.toNatClampNeg rfl s7 hs7 rfl rfl rfl (ok_a (K := 5) (Nat.le_of_ble_eq_true rfl) hd0) hg6 dX1_release_85 ?_
          exact x_vretH rfl dX1_release_86 h
      · have h := x_f hc h
        refine x_sipush (x := 128) dX1_release_18 rfl ?_
        refine x_iload_n dX1_release_21 rfl 2 rfl ?_
        refine x_aload_n dX1_release_22 rfl 0 rfl ?_
        refine x_getR (d1 := d0) (K1 := 3) (p1 := 0) (r1 := 0) fl_X1_15 (ok_a (K := 1) (Nat.le_of_ble_eq_true rfl) hd0) rfl dX1_release_23 ?_
        refine x_iload_n dX1_release_26 rfl 2 rfl ?_
        obtain ⟨hg8, h⟩ := x_g_e h
        refine x_iald 128 a2.toNatClampNeg rfl rfl rfl rfl (ok_a (K := 3) (Nat.le_of_ble_eq_true rfl) hd0) hg8 dX1_release_27 ?_
        refine x_iadd dX1_release_28 ?_
        refine x_min lk_X1_73 w_min (Nat.le_of_ble_eq_true rfl) (Nat.le_of_ble_eq_true rfl) dX1_release_29 ?_
        obtain ⟨t9, ht9, h⟩ := x_let_e h
        refine x_istore t9 ht9 dX1_release_32 (Nat.le_of_ble_eq_true rfl) [(4, .int t9), (0, .ref (w.2.2 d0 1 0 0)), (1, .int a1), (2, .int a2), (3, .int a3)] rfl ?_
        refine x_iload_n dX1_release_34 rfl 3 rfl ?_
        refine x_istore a2 rfl dX1_release_35 (Nat.le_of_ble_eq_true rfl) [(5, .int a2), (4, .int t9), (0, .ref (w.2.2 d0 1 0 0)), (1, .int a1), (2, .int a2), (3, .int a3)] rfl ?_
        refine x_sub (L1 := [(0, .ref (w.2.2 d0 1 0 0)), (1, .int a1), (2, .int a2), (3, .int a3), (4, .int t9), (5, .int a2)]) [2, 3, 4, 5, 1, 0] rfl ?_
        exact TX1_release_37 hd0 ih _ _ _ h
set_option maxRecDepth 100000 in
set_option maxHeartbeats 4000000 in
theorem eX1_release {l : Launch} {w : xW} {d0 : Nat} {a1 : Int32} (hd0 : d0 < 4) {σ τ : xS} {r : Unit} (h : fX1_release d0 a1 σ = some (r, τ)) : xEV l w yX1_release mX1_release [.ref (w.2.2 d0 1 0 0), .int a1] σ none τ := by
  rw [fX1_release] at h
  refine x_enter (by decide +kernel) rfl (Nat.le_of_ble_eq_true rfl) ?_
  refine x_sub (L1 := [(0, .ref (w.2.2 d0 1 0 0)), (1, .int a1)]) [0, 1] rfl ?_
  refine x_iload_n dX1_release_0 rfl 1 rfl ?_
  refine x_istore_n a1 rfl dX1_release_1 rfl (Nat.le_of_ble_eq_true rfl) [(2, .int a1), (0, .ref (w.2.2 d0 1 0 0)), (1, .int a1)] rfl ?_
  refine x_iconst (x := 0) dX1_release_2 rfl ?_
  refine x_istore_n 0 rfl dX1_release_3 rfl (Nat.le_of_ble_eq_true rfl) [(3, .int 0), (2, .int a1), (0, .ref (w.2.2 d0 1 0 0)), (1, .int a1)] rfl ?_
  refine x_sub (L1 := [(0, .ref (w.2.2 d0 1 0 0)), (1, .int a1), (2, .int a1), (3, .int 0)]) [2, 3, 1, 0] rfl ?_
  exact TX1_release_4 hd0 _ _ _ _ h
set_option maxRecDepth 100000 in
set_option maxHeartbeats 4000000 in
theorem eX1_joinQueue {l : Launch} {w : xW} {d0 : Nat} {d1 : Nat} {p1 : Nat} {r1 : Nat} {a2 : Int32} (hd0 : d0 < 4) (hd1 : d1 < 4) (hp1 : p1 < 6) (hr1 : r1 < 3) {σ τ : xS} {r : Unit} (h : fX1_joinQueue d0 d1 p1 r1 a2 σ = some (r, τ)) : xEV l w yX1_joinQueue mX1_joinQueue [.ref (w.2.2 d0 1 0 0), .ref (w.2.2 d1 16 p1 r1), .int a2] σ none τ := by
  rw [fX1_joinQueue] at h
  refine x_enter (by decide +kernel) rfl (Nat.le_of_ble_eq_true rfl) ?_
  refine x_sub (L1 := [(0, .ref (w.2.2 d0 1 0 0)), (1, .ref (w.2.2 d1 16 p1 r1)), (2, .int a2)]) [0, 1, 2] rfl ?_
  refine x_aload_n dX1_joinQueue_0 rfl 0 rfl ?_
  refine x_iload_n dX1_joinQueue_1 rfl 2 rfl ?_
  obtain ⟨z1, s1, h1, h⟩ := x_b_e h
  refine x_callV (As := [.int a2]) (st := []) (eX1_isCell hd0 h1) cv_X1_47 (Nat.le_of_ble_eq_true rfl) (ok_a (K := 1) (Nat.le_of_ble_eq_true rfl) hd0) rfl (Nat.le_of_ble_eq_true rfl) _ rfl dX1_joinQueue_2 [.int z1] rfl ?_
  refine x_if_ne (tgt := 9) dX1_joinQueue_5 rfl (fun hc => ?_) (fun hc => ?_)
  · have h := x_f hc h
    refine x_aload_n dX1_joinQueue_9 rfl 0 rfl ?_
    refine x_getR (d1 := d0) (K1 := 8) (p1 := 0) (r1 := 0) fl_X1_31 (ok_a (K := 1) (Nat.le_of_ble_eq_true rfl) hd0) rfl dX1_joinQueue_10 ?_
    refine x_iload_n dX1_joinQueue_13 rfl 2 rfl ?_
    refine x_aload_n dX1_joinQueue_14 rfl 1 rfl ?_
    refine x_getI fl_X1_84 (ok_c hd1 hp1 hr1) rfl dX1_joinQueue_15 ?_
    obtain ⟨hg2, h⟩ := x_g_e h
    obtain ⟨s3, hs3, h⟩ := x_let_e h
    refine x_iast 128 a2.toNatClampNeg rfl s3 hs3 rfl rfl rfl (ok_a (K := 8) (Nat.le_of_ble_eq_true rfl) hd0) hg2 dX1_joinQueue_18 ?_
    refine x_aload_n dX1_joinQueue_19 rfl 0 rfl ?_
    refine x_getR (d1 := d0) (K1 := 9) (p1 := 0) (r1 := 0) fl_X1_34 (ok_a (K := 1) (Nat.le_of_ble_eq_true rfl) hd0) rfl dX1_joinQueue_20 ?_
    refine x_iload_n dX1_joinQueue_23 rfl 2 rfl ?_
    refine x_iconst (x := (-1)) dX1_joinQueue_24 (by decide) ?_
    obtain ⟨hg4, h⟩ := x_g_e h
    obtain ⟨s5, hs5, h⟩ := x_let_e h
    refine x_iast 128 a2.toNatClampNeg rfl s5 hs5 rfl rfl rfl (ok_a (K := 9) (Nat.le_of_ble_eq_true rfl) hd0) hg4 dX1_joinQueue_25 ?_
    refine x_aload_n dX1_joinQueue_26 rfl 0 rfl ?_
    refine x_aload_n dX1_joinQueue_27 rfl 1 rfl ?_
    refine x_getI fl_X1_84 (ok_c hd1 hp1 hr1) rfl dX1_joinQueue_28 ?_
    obtain ⟨z6, s6, h6, h⟩ := x_b_e h
    refine x_callV (As := [.int (s5 d1 16 p1 r1 14)]) (st := []) (eX1_isCell hd0 h6) cv_X1_47 (Nat.le_of_ble_eq_true rfl) (ok_a (K := 1) (Nat.le_of_ble_eq_true rfl) hd0) rfl (Nat.le_of_ble_eq_true rfl) _ rfl dX1_joinQueue_31 [.int z6] rfl ?_
    refine x_if_eq (tgt := 50) dX1_joinQueue_34 rfl (fun hc => ?_) (fun hc => ?_)
    · have h := x_t hc h
      refine x_aload_n dX1_joinQueue_50 rfl 1 rfl ?_
      refine x_iload_n dX1_joinQueue_51 rfl 2 rfl ?_
      obtain ⟨s7, hs7, h⟩ := x_let_e h
      refine x_putI s7 hs7 fp_X1_89 (ok_c hd1 hp1 hr1) rfl dX1_joinQueue_52 ?_
      refine x_aload_n dX1_joinQueue_55 rfl 1 rfl ?_
      refine x_iload_n dX1_joinQueue_56 rfl 2 rfl ?_
      obtain ⟨s8, hs8, h⟩ := x_let_e h
      refine x_putI s8 hs8 fp_X1_84 (ok_c hd1 hp1 hr1) rfl dX1_joinQueue_57 ?_
      refine x_aload_n dX1_joinQueue_60 rfl 1 rfl ?_
      refine x_dup dX1_joinQueue_61 rfl ?_
      refine x_getI fl_X1_92 (ok_c hd1 hp1 hr1) rfl dX1_joinQueue_62 ?_
      refine x_iconst (x := 1) dX1_joinQueue_65 rfl ?_
      refine x_iadd dX1_joinQueue_66 ?_
      obtain ⟨s9, hs9, h⟩ := x_let_e h
      refine x_putI s9 hs9 fp_X1_92 (ok_c hd1 hp1 hr1) rfl dX1_joinQueue_67 ?_
      exact x_vretH rfl dX1_joinQueue_70 h
    · have h := x_f hc h
      refine x_aload_n dX1_joinQueue_37 rfl 0 rfl ?_
      refine x_getR (d1 := d0) (K1 := 9) (p1 := 0) (r1 := 0) fl_X1_34 (ok_a (K := 1) (Nat.le_of_ble_eq_true rfl) hd0) rfl dX1_joinQueue_38 ?_
      refine x_aload_n dX1_joinQueue_41 rfl 1 rfl ?_
      refine x_getI fl_X1_84 (ok_c hd1 hp1 hr1) rfl dX1_joinQueue_42 ?_
      refine x_iload_n dX1_joinQueue_45 rfl 2 rfl ?_
      obtain ⟨t10, ht10, h⟩ := x_let_e h
      refine x_nm2 t10 ht10 ?_
      obtain ⟨hg11, h⟩ := x_g_e h
      obtain ⟨s12, hs12, h⟩ := x_let_e h
      refine x_iast 128 t10.toNatClampNeg rfl s12 hs12 rfl rfl rfl (ok_a (K := 9) (Nat.le_of_ble_eq_true rfl) hd0) hg11 dX1_joinQueue_46 ?_
      refine x_goto (tgt := 55) dX1_joinQueue_47 rfl ?_
      refine x_aload_n dX1_joinQueue_55 rfl 1 rfl ?_
      refine x_iload_n dX1_joinQueue_56 rfl 2 rfl ?_
      obtain ⟨s13, hs13, h⟩ := x_let_e h
      refine x_putI s13 hs13 fp_X1_84 (ok_c hd1 hp1 hr1) rfl dX1_joinQueue_57 ?_
      refine x_aload_n dX1_joinQueue_60 rfl 1 rfl ?_
      refine x_dup dX1_joinQueue_61 rfl ?_
      refine x_getI fl_X1_92 (ok_c hd1 hp1 hr1) rfl dX1_joinQueue_62 ?_
      refine x_iconst (x := 1) dX1_joinQueue_65 rfl ?_
      refine x_iadd dX1_joinQueue_66 ?_
      obtain ⟨s14, hs14, h⟩ := x_let_e h
      refine x_putI s14 hs14 fp_X1_92 (ok_c hd1 hp1 hr1) rfl dX1_joinQueue_67 ?_
      exact x_vretH rfl dX1_joinQueue_70 h
  · have h := x_t hc h
    exact x_vretH rfl dX1_joinQueue_8 h
