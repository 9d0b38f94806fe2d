set_option maxRecDepth 100000 in
set_option maxHeartbeats 4000000 in
theorem TX0_startAnew_20 {l : Launch} {w : xW} {d0 : Nat} {a2 : Int32} {d3 : Nat} {a4 : Int32} (hd0 : d0 < 4) (hd3 : d3 < 4) {τ : xS} {r : Unit} : ∀ (n : Nat) (a5 : Int32) (σ : xS), BX0_startAnew_20 d0 a2 d3 a4 n a5 σ = some (r, τ) → xAt l w mX0_startAnew 20 [(0, .ref (w.2.2 d0 0 0 0)), (2, .int a2), (3, .ref (w.2.2 d3 10 0 0)), (4, .int a4), (5, .int a5)] [] σ none τ := by
  intro n
  induction n with
  | zero => intro a5 σ h; cases h
  | succ n ih =>
    intro a5 σ h
    rw [BX0_startAnew_20] at h
    refine x_iload dX0_startAnew_20 4 rfl ?_
    refine x_iload dX0_startAnew_22 3 rfl ?_
    refine x_icmp_ge (tgt := 44) dX0_startAnew_24 rfl (fun hc => ?_) (fun hc => ?_)
    · have h := x_t hc h
      refine x_aload_n dX0_startAnew_44 rfl 0 rfl ?_
      refine x_iload_n dX0_startAnew_45 rfl 1 rfl ?_
      obtain ⟨s2, hs2, h⟩ := x_let_e h
      refine x_putI s2 hs2 fp_X0_38 (ok_a (K := 0) (Nat.le_of_ble_eq_true rfl) hd0) rfl dX0_startAnew_46 ?_
      refine x_aload_n dX0_startAnew_49 rfl 0 rfl ?_
      refine x_iconst (x := 0) dX0_startAnew_50 rfl ?_
      obtain ⟨s3, hs3, h⟩ := x_let_e h
      refine x_putZ s3 hs3 rfl fp_X0_42 (ok_a (K := 0) (Nat.le_of_ble_eq_true rfl) hd0) rfl dX0_startAnew_51 ?_
      refine x_aload_n dX0_startAnew_54 rfl 0 rfl ?_
      refine x_iconst (x := 0) dX0_startAnew_55 rfl ?_
      obtain ⟨s4, hs4, h⟩ := x_let_e h
      refine x_putI s4 hs4 fp_X0_46 (ok_a (K := 0) (Nat.le_of_ble_eq_true rfl) hd0) rfl dX0_startAnew_56 ?_
      refine x_aload_n dX0_startAnew_59 rfl 0 rfl ?_
      refine x_iconst (x := 0) dX0_startAnew_60 rfl ?_
      obtain ⟨s5, hs5, h⟩ := x_let_e h
      refine x_putI s5 hs5 fp_X0_49 (ok_a (K := 0) (Nat.le_of_ble_eq_true rfl) hd0) rfl dX0_startAnew_61 ?_
      refine x_aload_n dX0_startAnew_64 rfl 0 rfl ?_
      refine x_iconst (x := (-1)) dX0_startAnew_65 (by decide) ?_
      obtain ⟨s6, hs6, h⟩ := x_let_e h
      refine x_putI s6 hs6 fp_X0_52 (ok_a (K := 0) (Nat.le_of_ble_eq_true rfl) hd0) rfl dX0_startAnew_66 ?_
      refine x_aload_n dX0_startAnew_69 rfl 0 rfl ?_
      refine x_iconst (x := (-1)) dX0_startAnew_70 (by decide) ?_
      obtain ⟨s7, hs7, h⟩ := x_let_e h
      refine x_putI s7 hs7 fp_X0_55 (ok_a (K := 0) (Nat.le_of_ble_eq_true rfl) hd0) rfl dX0_startAnew_71 ?_
      refine x_aload_n dX0_startAnew_74 rfl 0 rfl ?_
      refine x_iconst (x := 0) dX0_startAnew_75 rfl ?_
      obtain ⟨s8, hs8, h⟩ := x_let_e h
      refine x_putZ s8 hs8 rfl fp_X0_58 (ok_a (K := 0) (Nat.le_of_ble_eq_true rfl) hd0) rfl dX0_startAnew_76 ?_
      exact x_vretH rfl dX0_startAnew_79 h
    · have h := x_f hc h
      refine x_aload_n dX0_startAnew_27 rfl 2 rfl ?_
      refine x_iload dX0_startAnew_28 4 rfl ?_
      obtain ⟨hg9, h⟩ := x_g_e h
      refine x_aald (d1 := d3) (K1 := 13) (p1 := (a5.toNatClampNeg)) (r1 := 0) 6 a5.toNatClampNeg rfl 2 RX2 rfl rfl (Nat.le_of_ble_eq_true rfl) rfl rfl (ok_a (K := 10) (Nat.le_of_ble_eq_true rfl) hd3) rfl hg9 dX0_startAnew_30 ?_
      refine x_astore dX0_startAnew_31 (Nat.le_of_ble_eq_true rfl) [(6, .ref (w.2.2 d3 13 (a5.toNatClampNeg) 0)), (0, .ref (w.2.2 d0 0 0 0)), (2, .int a2), (3, .ref (w.2.2 d3 10 0 0)), (4, .int a4), (5, .int a5)] rfl ?_
      refine x_aload dX0_startAnew_33 0 rfl ?_
      obtain ⟨z10, s10, h10, h⟩ := x_b_e h
      refine x_callV (As := []) (st := []) (eX2_startAnew hd3 (x_in_lt hg9) h10) cv_X0_36 (Nat.le_of_ble_eq_true rfl) (ok_b (K := 13) (Nat.le_of_ble_eq_true rfl) (Nat.le_of_ble_eq_true rfl) hd3 (x_in_lt hg9)) rfl (Nat.le_of_ble_eq_true rfl) _ rfl dX0_startAnew_35 [] rfl ?_
      obtain ⟨t11, ht11, h⟩ := x_let_e h
      refine x_iinc t11 1 rfl ht11 dX0_startAnew_38 5 rfl (Nat.le_of_ble_eq_true rfl) [(5, .int t11), (6, .ref (w.2.2 d3 13 (a5.toNatClampNeg) 0)), (0, .ref (w.2.2 d0 0 0 0)), (2, .int a2), (3, .ref (w.2.2 d3 10 0 0)), (4, .int a4)] rfl ?_
      refine x_goto (tgt := 20) dX0_startAnew_41 rfl ?_
      refine x_sub (L1 := [(0, .ref (w.2.2 d0 0 0 0)), (2, .int a2), (3, .ref (w.2.2 d3 10 0 0)), (4, .int a4), (5, .int t11)]) [2, 3, 4, 5, 0] rfl ?_
      exact ih _ _ h
set_option maxRecDepth 100000 in
set_option maxHeartbeats 4000000 in
theorem eX0_startAnew {l : Launch} {w : xW} {d0 : Nat} {a1 : Int32} {a2 : Int32} (hd0 : d0 < 4) {σ τ : xS} {r : Unit} (h : fX0_startAnew d0 a1 a2 σ = some (r, τ)) : xEV l w yX0_startAnew mX0_startAnew [.ref (w.2.2 d0 0 0 0), .int a1, .int a2] σ none τ := by
  rw [fX0_startAnew] at h
  refine x_enter (by decide +kernel) rfl (Nat.le_of_ble_eq_true rfl) ?_
  refine x_sub (L1 := [(0, .ref (w.2.2 d0 0 0 0)), (1, .int a1), (2, .int a2)]) [0, 1, 2] rfl ?_
  refine x_aload_n dX0_startAnew_0 rfl 0 rfl ?_
  refine x_getR (d1 := d0) (K1 := 1) (p1 := 0) (r1 := 0) fl_X0_12 (ok_a (K := 0) (Nat.le_of_ble_eq_true rfl) hd0) rfl dX0_startAnew_1 ?_
  refine x_iload_n dX0_startAnew_4 rfl 1 rfl ?_
  obtain ⟨z1, s1, h1, h⟩ := x_b_e h
  refine x_callV (As := [.int a1]) (st := []) (eX1_startAnew hd0 h1) cv_X0_32 (Nat.le_of_ble_eq_true rfl) (ok_a (K := 1) (Nat.le_of_ble_eq_true rfl) hd0) rfl (Nat.le_of_ble_eq_true rfl) _ rfl dX0_startAnew_5 [] rfl ?_
  refine x_aload_n dX0_startAnew_8 rfl 0 rfl ?_
  refine x_getR (d1 := d0) (K1 := 10) (p1 := 0) (r1 := 0) fl_X0_20 (ok_a (K := 0) (Nat.le_of_ble_eq_true rfl) hd0) rfl dX0_startAnew_9 ?_
  refine x_astore_n dX0_startAnew_12 rfl (Nat.le_of_ble_eq_true rfl) [(3, .ref (w.2.2 d0 10 0 0)), (0, .ref (w.2.2 d0 0 0 0)), (1, .int a1), (2, .int a2)] rfl ?_
  refine x_aload_n dX0_startAnew_13 rfl 0 rfl ?_
  refine x_alen 6 rfl (Nat.le_of_ble_eq_true rfl) rfl (ok_a (K := 10) (Nat.le_of_ble_eq_true rfl) hd0) dX0_startAnew_14 ?_
  refine x_istore 6 rfl dX0_startAnew_15 (Nat.le_of_ble_eq_true rfl) [(4, .int 6), (3, .ref (w.2.2 d0 10 0 0)), (0, .ref (w.2.2 d0 0 0 0)), (1, .int a1), (2, .int a2)] rfl ?_
  refine x_iconst (x := 0) dX0_startAnew_17 rfl ?_
  refine x_istore 0 rfl dX0_startAnew_18 (Nat.le_of_ble_eq_true rfl) [(5, .int 0), (4, .int 6), (3, .ref (w.2.2 d0 10 0 0)), (0, .ref (w.2.2 d0 0 0 0)), (1, .int a1), (2, .int a2)] rfl ?_
  refine x_sub (L1 := [(0, .ref (w.2.2 d0 0 0 0)), (2, .int a2), (3, .ref (w.2.2 d0 10 0 0)), (4, .int 6), (5, .int 0)]) [3, 5, 2, 1, 0] rfl ?_
  exact TX0_startAnew_20 hd0 hd0 _ _ _ h
set_option maxRecDepth 100000 in
set_option maxHeartbeats 4000000 in
theorem TX0_copyFrom_13 {l : Launch} {w : xW} {d0 : Nat} {d1 : Nat} (hd0 : d0 < 4) (hd1 : d1 < 4) {τ : xS} {r : Unit} : ∀ (n : Nat) (a2 : Int32) (σ : xS), BX0_copyFrom_13 d0 d1 n a2 σ = some (r, τ) → xAt l w mX0_copyFrom 13 [(0, .ref (w.2.2 d0 0 0 0)), (1, .ref (w.2.2 d1 0 0 0)), (2, .int a2)] [] σ none τ := by
  intro n
  induction n with
  | zero => intro a2 σ h; cases h
  | succ n ih =>
    intro a2 σ h
    rw [BX0_copyFrom_13] at h
    refine x_iload_n dX0_copyFrom_13 rfl 2 rfl ?_
    refine x_bipush (x := 6) dX0_copyFrom_14 rfl ?_
    refine x_icmp_ge (tgt := 40) dX0_copyFrom_16 rfl (fun hc => ?_) (fun hc => ?_)
    · have h := x_t hc h
      refine x_aload_n dX0_copyFrom_40 rfl 0 rfl ?_
      refine x_aload_n dX0_copyFrom_41 rfl 1 rfl ?_
      refine x_getI fl_X0_38 (ok_a (K := 0) (Nat.le_of_ble_eq_true rfl) hd1) rfl dX0_copyFrom_42 ?_
      obtain ⟨s2, hs2, h⟩ := x_let_e h
      refine x_putI s2 hs2 fp_X0_38 (ok_a (K := 0) (Nat.le_of_ble_eq_true rfl) hd0) rfl dX0_copyFrom_45 ?_
      refine x_aload_n dX0_copyFrom_48 rfl 0 rfl ?_
      refine x_aload_n dX0_copyFrom_49 rfl 1 rfl ?_
      refine x_getI fl_X0_42 (ok_a (K := 0) (Nat.le_of_ble_eq_true rfl) hd1) rfl dX0_copyFrom_50 ?_
      obtain ⟨hg4, h⟩ := x_g_e h
      obtain ⟨s3, hs3, h⟩ := x_let_e h
      refine x_putZ s3 hs3 hg4 fp_X0_42 (ok_a (K := 0) (Nat.le_of_ble_eq_true rfl) hd0) rfl dX0_copyFrom_53 ?_
      refine x_aload_n dX0_copyFrom_56 rfl 0 rfl ?_
      refine x_aload_n dX0_copyFrom_57 rfl 1 rfl ?_
      refine x_getI fl_X0_46 (ok_a (K := 0) (Nat.le_of_ble_eq_true rfl) hd1) rfl dX0_copyFrom_58 ?_
      obtain ⟨s5, hs5, h⟩ := x_let_e h
      refine x_putI s5 hs5 fp_X0_46 (ok_a (K := 0) (Nat.le_of_ble_eq_true rfl) hd0) rfl dX0_copyFrom_61 ?_
      refine x_aload_n dX0_copyFrom_64 rfl 0 rfl ?_
      refine x_aload_n dX0_copyFrom_65 rfl 1 rfl ?_
      refine x_getI fl_X0_49 (ok_a (K := 0) (Nat.le_of_ble_eq_true rfl) hd1) rfl dX0_copyFrom_66 ?_
      obtain ⟨s6, hs6, h⟩ := x_let_e h
      refine x_putI s6 hs6 fp_X0_49 (ok_a (K := 0) (Nat.le_of_ble_eq_true rfl) hd0) rfl dX0_copyFrom_69 ?_
      refine x_aload_n dX0_copyFrom_72 rfl 0 rfl ?_
      refine x_aload_n dX0_copyFrom_73 rfl 1 rfl ?_
      refine x_getI fl_X0_52 (ok_a (K := 0) (Nat.le_of_ble_eq_true rfl) hd1) rfl dX0_copyFrom_74 ?_
      obtain ⟨s7, hs7, h⟩ := x_let_e h
      refine x_putI s7 hs7 fp_X0_52 (ok_a (K := 0) (Nat.le_of_ble_eq_true rfl) hd0) rfl dX0_copyFrom_77 ?_
      refine x_aload_n dX0_copyFrom_80 rfl 0 rfl ?_
      refine x_aload_n dX0_copyFrom_81 rfl 1 rfl ?_
      refine x_getI fl_X0_55 (ok_a (K := 0) (Nat.le_of_ble_eq_true rfl) hd1) rfl dX0_copyFrom_82 ?_
      obtain ⟨s8, hs8, h⟩ := x_let_e h
      refine x_putI s8 hs8 fp_X0_55 (ok_a (K := 0) (Nat.le_of_ble_eq_true rfl) hd0) rfl dX0_copyFrom_85 ?_
      refine x_aload_n dX0_copyFrom_88 rfl 1 rfl ?_
      refine x_getR (d1 := d1) (K1 := 11) (p1 := 0) (r1 := 0) fl_X0_25 (ok_a (K := 0) (Nat.le_of_ble_eq_true rfl) hd1) rfl dX0_copyFrom_89 ?_
      refine x_iconst (x := 0) dX0_copyFrom_92 rfl ?_
      refine x_aload_n dX0_copyFrom_93 rfl 0 rfl ?_
      refine x_getR (d1 := d0) (K1 := 11) (p1 := 0) (r1 := 0) fl_X0_25 (ok_a (K := 0) (Nat.le_of_ble_eq_true rfl) hd0) rfl dX0_copyFrom_94 ?_
      refine x_iconst (x := 0) dX0_copyFrom_97 rfl ?_
      refine x_iconst (x := 4) dX0_copyFrom_98 rfl ?_
      obtain ⟨s9, hs9, h⟩ := x_let_e h
      refine x_copy 4 4 4 rfl s9 hs9 lk_X0_68 w_copy (Nat.le_of_ble_eq_true rfl) rfl rfl rfl rfl (ok_a (K := 11) (Nat.le_of_ble_eq_true rfl) hd1) rfl rfl rfl (ok_a (K := 11) (Nat.le_of_ble_eq_true rfl) hd0) (by decide) (Nat.le_of_ble_eq_true rfl) (Nat.le_of_ble_eq_true rfl) dX0_copyFrom_99 ?_
      refine x_aload_n dX0_copyFrom_102 rfl 0 rfl ?_
      refine x_aload_n dX0_copyFrom_103 rfl 1 rfl ?_
      refine x_getI fl_X0_58 (ok_a (K := 0) (Nat.le_of_ble_eq_true rfl) hd1) rfl dX0_copyFrom_104 ?_
      obtain ⟨hg11, h⟩ := x_g_e h
      obtain ⟨s10, hs10, h⟩ := x_let_e h
      refine x_putZ s10 hs10 hg11 fp_X0_58 (ok_a (K := 0) (Nat.le_of_ble_eq_true rfl) hd0) rfl dX0_copyFrom_107 ?_
      exact x_vretH rfl dX0_copyFrom_110 h
    · have h := x_f hc h
      refine x_aload_n dX0_copyFrom_19 rfl 0 rfl ?_
      refine x_getR (d1 := d0) (K1 := 10) (p1 := 0) (r1 := 0) fl_X0_20 (ok_a (K := 0) (Nat.le_of_ble_eq_true rfl) hd0) rfl dX0_copyFrom_20 ?_
      refine x_iload_n dX0_copyFrom_23 rfl 2 rfl ?_
      obtain ⟨hg12, h⟩ := x_g_e h
      refine x_aald (d1 := d0) (K1 := 13) (p1 := (a2.toNatClampNeg)) (r1 := 0) 6 a2.toNatClampNeg rfl 2 RX2 rfl rfl (Nat.le_of_ble_eq_true rfl) rfl rfl (ok_a (K := 10) (Nat.le_of_ble_eq_true rfl) hd0) rfl hg12 dX0_copyFrom_24 ?_
      refine x_aload_n dX0_copyFrom_25 rfl 1 rfl ?_
      refine x_getR (d1 := d1) (K1 := 10) (p1 := 0) (r1 := 0) fl_X0_20 (ok_a (K := 0) (Nat.le_of_ble_eq_true rfl) hd1) rfl dX0_copyFrom_26 ?_
      refine x_iload_n dX0_copyFrom_29 rfl 2 rfl ?_
      obtain ⟨hg13, h⟩ := x_g_e h
      refine x_aald (d1 := d1) (K1 := 13) (p1 := (a2.toNatClampNeg)) (r1 := 0) 6 a2.toNatClampNeg rfl 2 RX2 rfl rfl (Nat.le_of_ble_eq_true rfl) rfl rfl (ok_a (K := 10) (Nat.le_of_ble_eq_true rfl) hd1) rfl hg13 dX0_copyFrom_30 ?_
      obtain ⟨z14, s14, h14, h⟩ := x_b_e h
      refine x_callV (As := [.ref (w.2.2 d1 13 (a2.toNatClampNeg) 0)]) (st := []) (eX2_copyFrom hd0 (x_in_lt hg12) hd1 (x_in_lt hg13) h14) cv_X0_65 (Nat.le_of_ble_eq_true rfl) (ok_b (K := 13) (Nat.le_of_ble_eq_true rfl) (Nat.le_of_ble_eq_true rfl) hd0 (x_in_lt hg12)) rfl (Nat.le_of_ble_eq_true rfl) _ rfl dX0_copyFrom_31 [] rfl ?_
      obtain ⟨t15, ht15, h⟩ := x_let_e h
      refine x_iinc t15 1 rfl ht15 dX0_copyFrom_34 2 rfl (Nat.le_of_ble_eq_true rfl) [(2, .int t15), (0, .ref (w.2.2 d0 0 0 0)), (1, .ref (w.2.2 d1 0 0 0))] rfl ?_
      refine x_goto (tgt := 13) dX0_copyFrom_37 rfl ?_
      refine x_sub (L1 := [(0, .ref (w.2.2 d0 0 0 0)), (1, .ref (w.2.2 d1 0 0 0)), (2, .int t15)]) [1, 2, 0] rfl ?_
      exact ih _ _ h
set_option maxRecDepth 100000 in
set_option maxHeartbeats 4000000 in
theorem eX0_copyFrom {l : Launch} {w : xW} {d0 : Nat} {d1 : Nat} (hd0 : d0 < 4) (hd1 : d1 < 4) {σ τ : xS} {r : Unit} (h : fX0_copyFrom d0 d1 σ = some (r, τ)) : xEV l w yX0_copyFrom mX0_copyFrom [.ref (w.2.2 d0 0 0 0), .ref (w.2.2 d1 0 0 0)] σ none τ := by
  rw [fX0_copyFrom] at h
  refine x_enter (by decide +kernel) rfl (Nat.le_of_ble_eq_true rfl) ?_
  refine x_sub (L1 := [(0, .ref (w.2.2 d0 0 0 0)), (1, .ref (w.2.2 d1 0 0 0))]) [0, 1] rfl ?_
  refine x_aload_n dX0_copyFrom_0 rfl 0 rfl ?_
  refine x_getR (d1 := d0) (K1 := 1) (p1 := 0) (r1 := 0) fl_X0_12 (ok_a (K := 0) (Nat.le_of_ble_eq_true rfl) hd0) rfl dX0_copyFrom_1 ?_
  refine x_aload_n dX0_copyFrom_4 rfl 1 rfl ?_
  refine x_getR (d1 := d1) (K1 := 1) (p1 := 0) (r1 := 0) fl_X0_12 (ok_a (K := 0) (Nat.le_of_ble_eq_true rfl) hd1) rfl dX0_copyFrom_5 ?_
  obtain ⟨z1, s1, h1, h⟩ := x_b_e h
  refine x_callV (As := [.ref (w.2.2 d1 1 0 0)]) (st := []) (eX1_copyFrom hd0 hd1 h1) cv_X0_61 (Nat.le_of_ble_eq_true rfl) (ok_a (K := 1) (Nat.le_of_ble_eq_true rfl) hd0) rfl (Nat.le_of_ble_eq_true rfl) _ rfl dX0_copyFrom_8 [] rfl ?_
  refine x_iconst (x := 0) dX0_copyFrom_11 rfl ?_
  refine x_istore_n 0 rfl dX0_copyFrom_12 rfl (Nat.le_of_ble_eq_true rfl) [(2, .int 0), (0, .ref (w.2.2 d0 0 0 0)), (1, .ref (w.2.2 d1 0 0 0))] rfl ?_
  refine x_sub (L1 := [(0, .ref (w.2.2 d0 0 0 0)), (1, .ref (w.2.2 d1 0 0 0)), (2, .int 0)]) [1, 2, 0] rfl ?_
  exact TX0_copyFrom_13 hd0 hd1 _ _ _ h
set_option maxRecDepth 100000 in
set_option maxHeartbeats 4000000 in
theorem eX0_portAt {l : Launch} {w : xW} {d0 : Nat} {a1 : Int32} (hd0 : d0 < 4) {σ τ : xS} {r : Option (Nat × Nat)} (h : fX0_portAt d0 a1 σ = some (r, τ)) : xEV l w yX0_portAt mX0_portAt [.ref (w.2.2 d0 0 0 0), .int a1] σ (some (x_nvP w r)) τ := by
  rw [fX0_portAt] at h
  refine x_enter (by decide +kernel) rfl (Nat.le_of_ble_eq_true rfl) ?_
  refine x_sub (L1 := [(0, .ref (w.2.2 d0 0 0 0)), (1, .int a1)]) [0, 1] rfl ?_
  refine x_iload_n dX0_portAt_0 rfl 1 rfl ?_
  refine x_if_lt (tgt := 21) dX0_portAt_1 rfl (fun hc => ?_) (fun hc => ?_)
  · have h := x_t hc h
    refine x_null dX0_portAt_21 ?_
    exact x_aretP (q := none) rfl rfl dX0_portAt_22 h
  · have h := x_f hc h
    refine x_iload_n dX0_portAt_4 rfl 1 rfl ?_
    refine x_aload_n dX0_portAt_5 rfl 0 rfl ?_
    refine x_getI fl_X0_38 (ok_a (K := 0) (Nat.le_of_ble_eq_true rfl) hd0) rfl dX0_portAt_6 ?_
    refine x_icmp_ge (tgt := 21) dX0_portAt_9 rfl (fun hc => ?_) (fun hc => ?_)
    · have h := x_t hc h
      refine x_null dX0_portAt_21 ?_
      exact x_aretP (q := none) rfl rfl dX0_portAt_22 h
    · have h := x_f hc h
      refine x_aload_n dX0_portAt_12 rfl 0 rfl ?_
      refine x_getR (d1 := d0) (K1 := 10) (p1 := 0) (r1 := 0) fl_X0_20 (ok_a (K := 0) (Nat.le_of_ble_eq_true rfl) hd0) rfl dX0_portAt_13 ?_
      refine x_iload_n dX0_portAt_16 rfl 1 rfl ?_
      obtain ⟨hg1, h⟩ := x_g_e h
      refine x_aald (d1 := d0) (K1 := 13) (p1 := (a1.toNatClampNeg)) (r1 := 0) 6 a1.toNatClampNeg rfl 2 RX2 rfl rfl (Nat.le_of_ble_eq_true rfl) rfl rfl (ok_a (K := 10) (Nat.le_of_ble_eq_true rfl) hd0) rfl hg1 dX0_portAt_17 ?_
      refine x_goto (tgt := 22) dX0_portAt_18 rfl ?_
      exact x_aretP (q := (some (d0, (a1.toNatClampNeg)))) rfl rfl dX0_portAt_22 h
set_option maxRecDepth 100000 in
set_option maxHeartbeats 4000000 in
theorem eX0_queueAt {l : Launch} {w : xW} {d0 : Nat} {a1 : Int32} {a2 : Int32} (hd0 : d0 < 4) {σ τ : xS} {r : Option (Nat × Nat × Nat)} (h : fX0_queueAt d0 a1 a2 σ = some (r, τ)) : xEV l w yX0_queueAt mX0_queueAt [.ref (w.2.2 d0 0 0 0), .int a1, .int a2] σ (some (x_nvQ w r)) τ := by
  rw [fX0_queueAt] at h
  refine x_enter (by decide +kernel) rfl (Nat.le_of_ble_eq_true rfl) ?_
  refine x_sub (L1 := [(0, .ref (w.2.2 d0 0 0 0)), (1, .int a1), (2, .int a2)]) [0, 1, 2] rfl ?_
  refine x_iload_n dX0_queueAt_0 rfl 1 rfl ?_
  refine x_if_lt (tgt := 21) dX0_queueAt_1 rfl (fun hc => ?_) (fun hc => ?_)
  · have h := x_t hc h
    refine x_null dX0_queueAt_21 ?_
    exact x_aretQ (q := none) rfl rfl dX0_queueAt_22 h
  · have h := x_f hc h
    refine x_iload_n dX0_queueAt_4 rfl 1 rfl ?_
    refine x_aload_n dX0_queueAt_5 rfl 0 rfl ?_
    refine x_getI fl_X0_38 (ok_a (K := 0) (Nat.le_of_ble_eq_true rfl) hd0) rfl dX0_queueAt_6 ?_
    refine x_icmp_ge (tgt := 21) dX0_queueAt_9 rfl (fun hc => ?_) (fun hc => ?_)
    · have h := x_t hc h
      refine x_null dX0_queueAt_21 ?_
      exact x_aretQ (q := none) rfl rfl dX0_queueAt_22 h
    · have h := x_f hc h
      refine x_iload_n dX0_queueAt_12 rfl 2 rfl ?_
      refine x_if_lt (tgt := 21) dX0_queueAt_13 rfl (fun hc => ?_) (fun hc => ?_)
      · have h := x_t hc h
        refine x_null dX0_queueAt_21 ?_
        exact x_aretQ (q := none) rfl rfl dX0_queueAt_22 h
      · have h := x_f hc h
        refine x_iload_n dX0_queueAt_16 rfl 2 rfl ?_
        refine x_iconst (x := 3) dX0_queueAt_17 rfl ?_
        refine x_icmp_lt (tgt := 23) dX0_queueAt_18 rfl (fun hc => ?_) (fun hc => ?_)
        · have h := x_t hc h
          refine x_aload_n dX0_queueAt_23 rfl 0 rfl ?_
          refine x_getR (d1 := d0) (K1 := 10) (p1 := 0) (r1 := 0) fl_X0_20 (ok_a (K := 0) (Nat.le_of_ble_eq_true rfl) hd0) rfl dX0_queueAt_24 ?_
          refine x_iload_n dX0_queueAt_27 rfl 1 rfl ?_
          obtain ⟨hg1, h⟩ := x_g_e h
          refine x_aald (d1 := d0) (K1 := 13) (p1 := (a1.toNatClampNeg)) (r1 := 0) 6 a1.toNatClampNeg rfl 2 RX2 rfl rfl (Nat.le_of_ble_eq_true rfl) rfl rfl (ok_a (K := 10) (Nat.le_of_ble_eq_true rfl) hd0) rfl hg1 dX0_queueAt_28 ?_
          refine x_getR (d1 := d0) (K1 := 14) (p1 := (a1.toNatClampNeg)) (r1 := 0) fl_X0_74 (ok_b (K := 13) (Nat.le_of_ble_eq_true rfl) (Nat.le_of_ble_eq_true rfl) hd0 (x_in_lt hg1)) rfl dX0_queueAt_29 ?_
          refine x_iload_n dX0_queueAt_32 rfl 2 rfl ?_
          obtain ⟨hg2, h⟩ := x_g_e h
          refine x_aald (d1 := d0) (K1 := 16) (p1 := (a1.toNatClampNeg)) (r1 := (a2.toNatClampNeg)) 3 a2.toNatClampNeg rfl 3 RX3 rfl rfl (Nat.le_of_ble_eq_true rfl) rfl rfl (ok_b (K := 14) (Nat.le_of_ble_eq_true rfl) (Nat.le_of_ble_eq_true rfl) hd0 (x_in_lt hg1)) rfl hg2 dX0_queueAt_33 ?_
          exact x_aretQ (q := (some (d0, (a1.toNatClampNeg), (a2.toNatClampNeg)))) rfl rfl dX0_queueAt_34 h
        · have h := x_f hc h
          refine x_null dX0_queueAt_21 ?_
          exact x_aretQ (q := none) rfl rfl dX0_queueAt_22 h
set_option maxRecDepth 100000 in
set_option maxHeartbeats 4000000 in
theorem TX0_poolSize_10 {l : Launch} {w : xW} {d0 : Nat} (hd0 : d0 < 4) {τ : xS} {r : Int32} : ∀ (n : Nat) (a1 : Int32) (a2 : Int32) (σ : xS), BX0_poolSize_10 d0 n a1 a2 σ = some (r, τ) → xAt l w mX0_poolSize 10 [(0, .ref (w.2.2 d0 0 0 0)), (1, .int a1), (2, .int a2)] [] σ (some (.int r)) τ := by
  intro n
  induction n with
  | zero => intro a1 a2 σ h; cases h
  | succ n ih =>
    intro a1 a2 σ h
    rw [BX0_poolSize_10] at h
    refine x_iload_n dX0_poolSize_10 rfl 2 rfl ?_
    refine x_aload_n dX0_poolSize_11 rfl 0 rfl ?_
    refine x_getI fl_X0_38 (ok_a (K := 0) (Nat.le_of_ble_eq_true rfl) hd0) rfl dX0_poolSize_12 ?_
    refine x_icmp_ge (tgt := 48) dX0_poolSize_15 rfl (fun hc => ?_) (fun hc => ?_)
    · have h := x_t hc h
      refine x_iload_n dX0_poolSize_48 rfl 1 rfl ?_
      exact x_iretH rfl dX0_poolSize_49 h
    · have h := x_f hc h
      refine x_aload_n dX0_poolSize_18 rfl 0 rfl ?_
      refine x_getR (d1 := d0) (K1 := 10) (p1 := 0) (r1 := 0) fl_X0_20 (ok_a (K := 0) (Nat.le_of_ble_eq_true rfl) hd0) rfl dX0_poolSize_19 ?_
      refine x_iload_n dX0_poolSize_22 rfl 2 rfl ?_
      obtain ⟨hg2, h⟩ := x_g_e h
      refine x_aald (d1 := d0) (K1 := 13) (p1 := (a2.toNatClampNeg)) (r1 := 0) 6 a2.toNatClampNeg rfl 2 RX2 rfl rfl (Nat.le_of_ble_eq_true rfl) rfl rfl (ok_a (K := 10) (Nat.le_of_ble_eq_true rfl) hd0) rfl hg2 dX0_poolSize_23 ?_
      refine x_astore_n dX0_poolSize_24 rfl (Nat.le_of_ble_eq_true rfl) [(3, .ref (w.2.2 d0 13 (a2.toNatClampNeg) 0)), (0, .ref (w.2.2 d0 0 0 0)), (1, .int a1), (2, .int a2)] rfl ?_
      refine x_iload_n dX0_poolSize_25 rfl 2 rfl ?_
      refine x_aload_n dX0_poolSize_26 rfl 0 rfl ?_
      refine x_getI fl_X0_81 (ok_b (K := 13) (Nat.le_of_ble_eq_true rfl) (Nat.le_of_ble_eq_true rfl) hd0 (x_in_lt hg2)) rfl dX0_poolSize_27 ?_
      refine x_aload_n dX0_poolSize_30 rfl 0 rfl ?_
      refine x_getI fl_X0_84 (ok_b (K := 13) (Nat.le_of_ble_eq_true rfl) (Nat.le_of_ble_eq_true rfl) hd0 (x_in_lt hg2)) rfl dX0_poolSize_31 ?_
      refine x_iadd dX0_poolSize_34 ?_
      refine x_aload_n dX0_poolSize_35 rfl 0 rfl ?_
      refine x_getI fl_X0_87 (ok_b (K := 13) (Nat.le_of_ble_eq_true rfl) (Nat.le_of_ble_eq_true rfl) hd0 (x_in_lt hg2)) rfl dX0_poolSize_36 ?_
      refine x_iadd dX0_poolSize_39 ?_
      refine x_isub dX0_poolSize_40 ?_
      obtain ⟨t3, ht3, h⟩ := x_let_e h
      refine x_istore_n t3 ht3 dX0_poolSize_41 rfl (Nat.le_of_ble_eq_true rfl) [(1, .int t3), (3, .ref (w.2.2 d0 13 (a2.toNatClampNeg) 0)), (0, .ref (w.2.2 d0 0 0 0)), (2, .int a2)] rfl ?_
      obtain ⟨t4, ht4, h⟩ := x_let_e h
      refine x_iinc t4 1 rfl ht4 dX0_poolSize_42 3 rfl (Nat.le_of_ble_eq_true rfl) [(2, .int t4), (1, .int t3), (3, .ref (w.2.2 d0 13 (a2.toNatClampNeg) 0)), (0, .ref (w.2.2 d0 0 0 0))] rfl ?_
      refine x_goto (tgt := 10) dX0_poolSize_45 rfl ?_
      refine x_sub (L1 := [(0, .ref (w.2.2 d0 0 0 0)), (1, .int t3), (2, .int t4)]) [3, 1, 0] rfl ?_
      exact ih _ _ _ h
set_option maxRecDepth 100000 in
set_option maxHeartbeats 4000000 in
theorem eX0_poolSize {l : Launch} {w : xW} {d0 : Nat} (hd0 : d0 < 4) {σ τ : xS} {r : Int32} (h : fX0_poolSize d0 σ = some (r, τ)) : xEV l w yX0_poolSize mX0_poolSize [.ref (w.2.2 d0 0 0 0)] σ (some (.int r)) τ := by
  rw [fX0_poolSize] at h
  refine x_enter (by decide +kernel) rfl (Nat.le_of_ble_eq_true rfl) ?_
  refine x_sub (L1 := [(0, .ref (w.2.2 d0 0 0 0))]) [0] rfl ?_
  refine x_aload_n dX0_poolSize_0 rfl 0 rfl ?_
  refine x_getR (d1 := d0) (K1 := 1) (p1 := 0) (r1 := 0) fl_X0_12 (ok_a (K := 0) (Nat.le_of_ble_eq_true rfl) hd0) rfl dX0_poolSize_1 ?_
  refine x_getI fl_X0_78 (ok_a (K := 1) (Nat.le_of_ble_eq_true rfl) hd0) rfl dX0_poolSize_4 ?_
  obtain ⟨t1, ht1, h⟩ := x_let_e h
  refine x_istore_n t1 ht1 dX0_poolSize_7 rfl (Nat.le_of_ble_eq_true rfl) [(1, .int t1), (0, .ref (w.2.2 d0 0 0 0))] rfl ?_
  refine x_iconst (x := 0) dX0_poolSize_8 rfl ?_
  refine x_istore_n 0 rfl dX0_poolSize_9 rfl (Nat.le_of_ble_eq_true rfl) [(2, .int 0), (1, .int t1), (0, .ref (w.2.2 d0 0 0 0))] rfl ?_
  refine x_sub (L1 := [(0, .ref (w.2.2 d0 0 0 0)), (1, .int t1), (2, .int 0)]) [2, 1, 0] rfl ?_
  exact TX0_poolSize_10 hd0 _ _ _ _ h
set_option maxRecDepth 100000 in
set_option maxHeartbeats 4000000 in
theorem TX0_sharedLeft_7 {l : Launch} {w : xW} {d0 : Nat} (hd0 : d0 < 4) {τ : xS} {r : Int32} : ∀ (n : Nat) (a1 : Int32) (a2 : Int32) (σ : xS), BX0_sharedLeft_7 d0 n a1 a2 σ = some (r, τ) → xAt l w mX0_sharedLeft 7 [(0, .ref (w.2.2 d0 0 0 0)), (1, .int a1), (2, .int a2)] [] σ (some (.int r)) τ := by
  intro n
  induction n with
  | zero => intro a1 a2 σ h; cases h
  | succ n ih =>
    intro a1 a2 σ h
    rw [BX0_sharedLeft_7] at h
    refine x_iload_n dX0_sharedLeft_7 rfl 2 rfl ?_
    refine x_aload_n dX0_sharedLeft_8 rfl 0 rfl ?_
    refine x_getI fl_X0_38 (ok_a (K := 0) (Nat.le_of_ble_eq_true rfl) hd0) rfl dX0_sharedLeft_9 ?_
    refine x_icmp_ge (tgt := 33) dX0_sharedLeft_12 rfl (fun hc => ?_) (fun hc => ?_)
    · have h := x_t hc h
      refine x_iload_n dX0_sharedLeft_33 rfl 1 rfl ?_
      exact x_iretH rfl dX0_sharedLeft_34 h
    · have h := x_f hc h
      refine x_iload_n dX0_sharedLeft_15 rfl 1 rfl ?_
      refine x_aload_n dX0_sharedLeft_16 rfl 0 rfl ?_
      refine x_getR (d1 := d0) (K1 := 10) (p1 := 0) (r1 := 0) fl_X0_20 (ok_a (K := 0) (Nat.le_of_ble_eq_true rfl) hd0) rfl dX0_sharedLeft_17 ?_
      refine x_iload_n dX0_sharedLeft_20 rfl 2 rfl ?_
      obtain ⟨hg2, h⟩ := x_g_e h
      refine x_aald (d1 := d0) (K1 := 13) (p1 := (a2.toNatClampNeg)) (r1 := 0) 6 a2.toNatClampNeg rfl 2 RX2 rfl rfl (Nat.le_of_ble_eq_true rfl) rfl rfl (ok_a (K := 10) (Nat.le_of_ble_eq_true rfl) hd0) rfl hg2 dX0_sharedLeft_21 ?_
      obtain ⟨z3, s3, h3, h⟩ := x_b_e h
      refine x_callV (As := []) (st := [.int a1]) (eX2_sharedInUse hd0 (x_in_lt hg2) h3) cv_X0_94 (Nat.le_of_ble_eq_true rfl) (ok_b (K := 13) (Nat.le_of_ble_eq_true rfl) (Nat.le_of_ble_eq_true rfl) hd0 (x_in_lt hg2)) rfl (Nat.le_of_ble_eq_true rfl) _ rfl dX0_sharedLeft_22 [.int z3, .int a1] rfl ?_
      refine x_isub dX0_sharedLeft_25 ?_
      obtain ⟨t4, ht4, h⟩ := x_let_e h
      refine x_istore_n t4 ht4 dX0_sharedLeft_26 rfl (Nat.le_of_ble_eq_true rfl) [(1, .int t4), (0, .ref (w.2.2 d0 0 0 0)), (2, .int a2)] rfl ?_
      obtain ⟨t5, ht5, h⟩ := x_let_e h
      refine x_iinc t5 1 rfl ht5 dX0_sharedLeft_27 2 rfl (Nat.le_of_ble_eq_true rfl) [(2, .int t5), (1, .int t4), (0, .ref (w.2.2 d0 0 0 0))] rfl ?_
      refine x_goto (tgt := 7) dX0_sharedLeft_30 rfl ?_
      refine x_sub (L1 := [(0, .ref (w.2.2 d0 0 0 0)), (1, .int t4), (2, .int t5)]) [2, 1, 0] rfl ?_
      exact ih _ _ _ h
set_option maxRecDepth 100000 in
set_option maxHeartbeats 4000000 in
theorem eX0_sharedLeft {l : Launch} {w : xW} {d0 : Nat} (hd0 : d0 < 4) {σ τ : xS} {r : Int32} (h : fX0_sharedLeft d0 σ = some (r, τ)) : xEV l w yX0_sharedLeft mX0_sharedLeft [.ref (w.2.2 d0 0 0 0)] σ (some (.int r)) τ := by
  rw [fX0_sharedLeft] at h
  refine x_enter (by decide +kernel) rfl (Nat.le_of_ble_eq_true rfl) ?_
  refine x_sub (L1 := [(0, .ref (w.2.2 d0 0 0 0))]) [0] rfl ?_
  refine x_aload_n dX0_sharedLeft_0 rfl 0 rfl ?_
  obtain ⟨z1, s1, h1, h⟩ := x_b_e h
  refine x_callV (As := []) (st := []) (eX0_poolSize hd0 h1) cv_X0_90 (Nat.le_of_ble_eq_true rfl) (ok_a (K := 0) (Nat.le_of_ble_eq_true rfl) hd0) rfl (Nat.le_of_ble_eq_true rfl) _ rfl dX0_sharedLeft_1 [.int z1] rfl ?_
  refine x_istore_n z1 rfl dX0_sharedLeft_4 rfl (Nat.le_of_ble_eq_true rfl) [(1, .int z1), (0, .ref (w.2.2 d0 0 0 0))] rfl ?_
  refine x_iconst (x := 0) dX0_sharedLeft_5 rfl ?_
  refine x_istore_n 0 rfl dX0_sharedLeft_6 rfl (Nat.le_of_ble_eq_true rfl) [(2, .int 0), (1, .int z1), (0, .ref (w.2.2 d0 0 0 0))] rfl ?_
  refine x_sub (L1 := [(0, .ref (w.2.2 d0 0 0 0)), (1, .int z1), (2, .int 0)]) [2, 1, 0] rfl ?_
  exact TX0_sharedLeft_7 hd0 _ _ _ _ h
set_option maxRecDepth 100000 in
set_option maxHeartbeats 4000000 in
theorem eX0_endGrant {l : Launch} {w : xW} {d0 : Nat} {d1 : Nat} {p1 : Nat} {a2 : Int32} (hd0 : d0 < 4) (hd1 : d1 < 4) (hp1 : p1 < 6) {σ τ : xS} {r : Unit} (h : fX0_endGrant d0 d1 p1 a2 σ = some (r, τ)) : xEV l w yX0_endGrant mX0_endGrant [.ref (w.2.2 d0 0 0 0), .ref (w.2.2 d1 13 p1 0), .int a2] σ none τ := by
  rw [fX0_endGrant] at h
  refine x_enter (by decide +kernel) rfl (Nat.le_of_ble_eq_true rfl) ?_
  refine x_sub (L1 := [(0, .ref (w.2.2 d0 0 0 0)), (1, .ref (w.2.2 d1 13 p1 0)), (2, .int a2)]) [0, 1, 2] rfl ?_
  refine x_aload_n dX0_endGrant_0 rfl 1 rfl ?_
  refine x_iconst (x := 0) dX0_endGrant_1 rfl ?_
  obtain ⟨s1, hs1, h⟩ := x_let_e h
  refine x_putI s1 hs1 fp_X0_84 (ok_b (K := 13) (Nat.le_of_ble_eq_true rfl) (Nat.le_of_ble_eq_true rfl) hd1 hp1) rfl dX0_endGrant_2 ?_
  refine x_aload_n dX0_endGrant_5 rfl 1 rfl ?_
  obtain ⟨z2, s2, h2, h⟩ := x_b_e h
  refine x_callV (As := []) (st := []) (eX2_shareBeyondGuarantee hd1 hp1 h2) cv_X0_120 (Nat.le_of_ble_eq_true rfl) (ok_b (K := 13) (Nat.le_of_ble_eq_true rfl) (Nat.le_of_ble_eq_true rfl) hd1 hp1) rfl (Nat.le_of_ble_eq_true rfl) _ rfl dX0_endGrant_6 [] rfl ?_
  refine x_aload_n dX0_endGrant_9 rfl 0 rfl ?_
  refine x_getI fl_X0_52 (ok_a (K := 0) (Nat.le_of_ble_eq_true rfl) hd0) rfl dX0_endGrant_10 ?_
  refine x_iload_n dX0_endGrant_13 rfl 2 rfl ?_
  refine x_icmp_ne (tgt := 25) dX0_endGrant_14 rfl (fun hc => ?_) (fun hc => ?_)
  · have h := x_f hc h
    refine x_aload_n dX0_endGrant_25 rfl 0 rfl ?_
    refine x_iconst (x := (-1)) dX0_endGrant_26 (by decide) ?_
    obtain ⟨s3, hs3, h⟩ := x_let_e h
    refine x_putI s3 hs3 fp_X0_55 (ok_a (K := 0) (Nat.le_of_ble_eq_true rfl) hd0) rfl dX0_endGrant_27 ?_
    exact x_vretH rfl dX0_endGrant_30 h
  · have h := x_t hc h
    refine x_aload_n dX0_endGrant_17 rfl 0 rfl ?_
    refine x_aload_n dX0_endGrant_18 rfl 0 rfl ?_
    refine x_getI fl_X0_55 (ok_a (K := 0) (Nat.le_of_ble_eq_true rfl) hd0) rfl dX0_endGrant_19 ?_
    obtain ⟨s4, hs4, h⟩ := x_let_e h
    refine x_putI s4 hs4 fp_X0_52 (ok_a (K := 0) (Nat.le_of_ble_eq_true rfl) hd0) rfl dX0_endGrant_22 ?_
    refine x_aload_n dX0_endGrant_25 rfl 0 rfl ?_
    refine x_iconst (x := (-1)) dX0_endGrant_26 (by decide) ?_
    obtain ⟨s5, hs5, h⟩ := x_let_e h
    refine x_putI s5 hs5 fp_X0_55 (ok_a (K := 0) (Nat.le_of_ble_eq_true rfl) hd0) rfl dX0_endGrant_27 ?_
    exact x_vretH rfl dX0_endGrant_30 h
set_option maxRecDepth 100000 in
set_option maxHeartbeats 4000000 in
theorem eX0_rememberGrant {l : Launch} {w : xW} {d0 : Nat} {a1 : Int32} (hd0 : d0 < 4) {σ τ : xS} {r : Unit} (h : fX0_rememberGrant d0 a1 σ = some (r, τ)) : xEV l w yX0_rememberGrant mX0_rememberGrant [.ref (w.2.2 d0 0 0 0), .int a1] σ none τ := by
  rw [fX0_rememberGrant] at h
  refine x_enter (by decide +kernel) rfl (Nat.le_of_ble_eq_true rfl) ?_
  refine x_sub (L1 := [(0, .ref (w.2.2 d0 0 0 0)), (1, .int a1)]) [0, 1] rfl ?_
  refine x_aload_n dX0_rememberGrant_0 rfl 0 rfl ?_
  refine x_getI fl_X0_52 (ok_a (K := 0) (Nat.le_of_ble_eq_true rfl) hd0) rfl dX0_rememberGrant_1 ?_
  refine x_iconst (x := (-1)) dX0_rememberGrant_4 (by decide) ?_
  refine x_icmp_ne (tgt := 16) dX0_rememberGrant_5 rfl (fun hc => ?_) (fun hc => ?_)
  · have h := x_f hc h
    refine x_aload_n dX0_rememberGrant_16 rfl 0 rfl ?_
    refine x_iload_n dX0_rememberGrant_17 rfl 1 rfl ?_
    obtain ⟨s1, hs1, h⟩ := x_let_e h
    refine x_putI s1 hs1 fp_X0_55 (ok_a (K := 0) (Nat.le_of_ble_eq_true rfl) hd0) rfl dX0_rememberGrant_18 ?_
    exact x_vretH rfl dX0_rememberGrant_21 h
  · have h := x_t hc h
    refine x_aload_n dX0_rememberGrant_8 rfl 0 rfl ?_
    refine x_iload_n dX0_rememberGrant_9 rfl 1 rfl ?_
    obtain ⟨s2, hs2, h⟩ := x_let_e h
    refine x_putI s2 hs2 fp_X0_52 (ok_a (K := 0) (Nat.le_of_ble_eq_true rfl) hd0) rfl dX0_rememberGrant_10 ?_
    refine x_goto (tgt := 21) dX0_rememberGrant_13 rfl ?_
    exact x_vretH rfl dX0_rememberGrant_21 h
set_option maxRecDepth 100000 in
set_option maxHeartbeats 4000000 in
theorem TX0_giveGrant_97 {l : Launch} {w : xW} {d0 : Nat} {d1 : Nat} {p1 : Nat} {a2 : Int32} {a3 : Int32} {a4 : Int32} {o5 : Option (Nat × Nat)} (hd0 : d0 < 4) (hd1 : d1 < 4) (hp1 : p1 < 6) {σ τ : xS} {r : Int32} (h : BX0_giveGrant_97 d0 d1 p1 a2 a3 a4 o5 σ = some (r, τ)) : xAt l w mX0_giveGrant 97 [(0, .ref (w.2.2 d0 0 0 0)), (1, .ref (w.2.2 d1 13 p1 0)), (2, .int a2), (3, .int a3), (4, .int a4), (5, x_nvP w o5)] [] σ (some (.int r)) τ := by
  rw [BX0_giveGrant_97.eq_def] at h
  rcases o5 with _ | w5
  · refine x_sub (L1 := [(0, .ref (w.2.2 d0 0 0 0)), (1, .ref (w.2.2 d1 13 p1 0)), (2, .int a2), (3, .int a3), (4, .int a4), (5, .null)]) [0, 1, 2, 3, 4, 5] rfl ?_
    refine x_aload_n dX0_giveGrant_97 rfl 1 rfl ?_
    refine x_getI fl_X0_84 (ok_b (K := 13) (Nat.le_of_ble_eq_true rfl) (Nat.le_of_ble_eq_true rfl) hd1 hp1) rfl dX0_giveGrant_98 ?_
    refine x_if_ne (tgt := 109) dX0_giveGrant_101 rfl (fun hc => ?_) (fun hc => ?_)
    · have h := x_f hc h
      refine x_aload_n dX0_giveGrant_109 rfl 1 rfl ?_
      refine x_iload_n dX0_giveGrant_110 rfl 3 rfl ?_
      obtain ⟨s3, hs3, h⟩ := x_let_e h
      refine x_putI s3 hs3 fp_X0_84 (ok_b (K := 13) (Nat.le_of_ble_eq_true rfl) (Nat.le_of_ble_eq_true rfl) hd1 hp1) rfl dX0_giveGrant_111 ?_
      refine x_aload_n dX0_giveGrant_114 rfl 1 rfl ?_
      obtain ⟨z4, s4, h4, h⟩ := x_b_e h
      refine x_callV (As := []) (st := []) (eX2_shareBeyondGuarantee hd1 hp1 h4) cv_X0_120 (Nat.le_of_ble_eq_true rfl) (ok_b (K := 13) (Nat.le_of_ble_eq_true rfl) (Nat.le_of_ble_eq_true rfl) hd1 hp1) rfl (Nat.le_of_ble_eq_true rfl) _ rfl dX0_giveGrant_115 [] rfl ?_
      refine x_aloadN dX0_giveGrant_118 5 rfl ?_
      refine x_ifnonnullN dX0_giveGrant_120 ?_
      refine x_bipush (x := (-5)) dX0_giveGrant_123 (by decide) ?_
      refine x_goto (tgt := 130) dX0_giveGrant_125 rfl ?_
      exact x_iretH rfl dX0_giveGrant_130 h
    · have h := x_t hc h
      refine x_aload_n dX0_giveGrant_104 rfl 0 rfl ?_
      refine x_iload_n dX0_giveGrant_105 rfl 2 rfl ?_
      obtain ⟨z5, s5, h5, h⟩ := x_b_e h
      refine x_callV (As := [.int a2]) (st := []) (eX0_rememberGrant hd0 h5) cv_X0_117 (Nat.le_of_ble_eq_true rfl) (ok_a (K := 0) (Nat.le_of_ble_eq_true rfl) hd0) rfl (Nat.le_of_ble_eq_true rfl) _ rfl dX0_giveGrant_106 [] rfl ?_
      refine x_aload_n dX0_giveGrant_109 rfl 1 rfl ?_
      refine x_iload_n dX0_giveGrant_110 rfl 3 rfl ?_
      obtain ⟨s6, hs6, h⟩ := x_let_e h
      refine x_putI s6 hs6 fp_X0_84 (ok_b (K := 13) (Nat.le_of_ble_eq_true rfl) (Nat.le_of_ble_eq_true rfl) hd1 hp1) rfl dX0_giveGrant_111 ?_
      refine x_aload_n dX0_giveGrant_114 rfl 1 rfl ?_
      obtain ⟨z7, s7, h7, h⟩ := x_b_e h
      refine x_callV (As := []) (st := []) (eX2_shareBeyondGuarantee hd1 hp1 h7) cv_X0_120 (Nat.le_of_ble_eq_true rfl) (ok_b (K := 13) (Nat.le_of_ble_eq_true rfl) (Nat.le_of_ble_eq_true rfl) hd1 hp1) rfl (Nat.le_of_ble_eq_true rfl) _ rfl dX0_giveGrant_115 [] rfl ?_
      refine x_aloadN dX0_giveGrant_118 5 rfl ?_
      refine x_ifnonnullN dX0_giveGrant_120 ?_
      refine x_bipush (x := (-5)) dX0_giveGrant_123 (by decide) ?_
      refine x_goto (tgt := 130) dX0_giveGrant_125 rfl ?_
      exact x_iretH rfl dX0_giveGrant_130 h
  · obtain ⟨hw5, h⟩ := x_g_e h
    refine x_sub (L1 := [(0, .ref (w.2.2 d0 0 0 0)), (1, .ref (w.2.2 d1 13 p1 0)), (2, .int a2), (3, .int a3), (4, .int a4), (5, .ref (w.2.2 w5.1 13 w5.2 0))]) [0, 1, 2, 3, 4, 5] rfl ?_
    refine x_aload_n dX0_giveGrant_97 rfl 1 rfl ?_
    refine x_getI fl_X0_84 (ok_b (K := 13) (Nat.le_of_ble_eq_true rfl) (Nat.le_of_ble_eq_true rfl) hd1 hp1) rfl dX0_giveGrant_98 ?_
    refine x_if_ne (tgt := 109) dX0_giveGrant_101 rfl (fun hc => ?_) (fun hc => ?_)
    · have h := x_f hc h
      refine x_aload_n dX0_giveGrant_109 rfl 1 rfl ?_
      refine x_iload_n dX0_giveGrant_110 rfl 3 rfl ?_
      obtain ⟨s8, hs8, h⟩ := x_let_e h
      refine x_putI s8 hs8 fp_X0_84 (ok_b (K := 13) (Nat.le_of_ble_eq_true rfl) (Nat.le_of_ble_eq_true rfl) hd1 hp1) rfl dX0_giveGrant_111 ?_
      refine x_aload_n dX0_giveGrant_114 rfl 1 rfl ?_
      obtain ⟨z9, s9, h9, h⟩ := x_b_e h
      refine x_callV (As := []) (st := []) (eX2_shareBeyondGuarantee hd1 hp1 h9) cv_X0_120 (Nat.le_of_ble_eq_true rfl) (ok_b (K := 13) (Nat.le_of_ble_eq_true rfl) (Nat.le_of_ble_eq_true rfl) hd1 hp1) rfl (Nat.le_of_ble_eq_true rfl) _ rfl dX0_giveGrant_115 [] rfl ?_
      refine x_aload dX0_giveGrant_118 5 rfl ?_
      refine x_ifnonnullR (tgt := 128) dX0_giveGrant_120 rfl ?_
      refine x_iload dX0_giveGrant_128 4 rfl ?_
      exact x_iretH rfl dX0_giveGrant_130 h
    · have h := x_t hc h
      refine x_aload_n dX0_giveGrant_104 rfl 0 rfl ?_
      refine x_iload_n dX0_giveGrant_105 rfl 2 rfl ?_
      obtain ⟨z10, s10, h10, h⟩ := x_b_e h
      refine x_callV (As := [.int a2]) (st := []) (eX0_rememberGrant hd0 h10) cv_X0_117 (Nat.le_of_ble_eq_true rfl) (ok_a (K := 0) (Nat.le_of_ble_eq_true rfl) hd0) rfl (Nat.le_of_ble_eq_true rfl) _ rfl dX0_giveGrant_106 [] rfl ?_
      refine x_aload_n dX0_giveGrant_109 rfl 1 rfl ?_
      refine x_iload_n dX0_giveGrant_110 rfl 3 rfl ?_
      obtain ⟨s11, hs11, h⟩ := x_let_e h
      refine x_putI s11 hs11 fp_X0_84 (ok_b (K := 13) (Nat.le_of_ble_eq_true rfl) (Nat.le_of_ble_eq_true rfl) hd1 hp1) rfl dX0_giveGrant_111 ?_
      refine x_aload_n dX0_giveGrant_114 rfl 1 rfl ?_
      obtain ⟨z12, s12, h12, h⟩ := x_b_e h
      refine x_callV (As := []) (st := []) (eX2_shareBeyondGuarantee hd1 hp1 h12) cv_X0_120 (Nat.le_of_ble_eq_true rfl) (ok_b (K := 13) (Nat.le_of_ble_eq_true rfl) (Nat.le_of_ble_eq_true rfl) hd1 hp1) rfl (Nat.le_of_ble_eq_true rfl) _ rfl dX0_giveGrant_115 [] rfl ?_
      refine x_aload dX0_giveGrant_118 5 rfl ?_
      refine x_ifnonnullR (tgt := 128) dX0_giveGrant_120 rfl ?_
      refine x_iload dX0_giveGrant_128 4 rfl ?_
      exact x_iretH rfl dX0_giveGrant_130 h
set_option maxRecDepth 100000 in
set_option maxHeartbeats 4000000 in
theorem TX0_giveGrant_70 {l : Launch} {w : xW} {d0 : Nat} {d1 : Nat} {p1 : Nat} {a2 : Int32} {a3 : Int32} {a4 : Int32} {o5 : Option (Nat × Nat)} {a6 : Int32} (hd0 : d0 < 4) (hd1 : d1 < 4) (hp1 : p1 < 6) {σ τ : xS} {r : Int32} (h : BX0_giveGrant_70 d0 d1 p1 a2 a3 a4 o5 a6 σ = some (r, τ)) : xAt l w mX0_giveGrant 70 [(0, .ref (w.2.2 d0 0 0 0)), (1, .ref (w.2.2 d1 13 p1 0)), (2, .int a2), (3, .int a3), (4, .int a4), (5, x_nvP w o5), (6, .int a6)] [] σ (some (.int r)) τ := by
  rw [BX0_giveGrant_70.eq_def] at h
  rcases o5 with _ | w5
  · refine x_sub (L1 := [(0, .ref (w.2.2 d0 0 0 0)), (1, .ref (w.2.2 d1 13 p1 0)), (2, .int a2), (3, .int a3), (4, .int a4), (5, .null), (6, .int a6)]) [0, 1, 2, 3, 4, 5, 6] rfl ?_
    refine x_iload_n dX0_giveGrant_70 rfl 3 rfl ?_
    refine x_aload_n dX0_giveGrant_71 rfl 1 rfl ?_
    refine x_getI fl_X0_84 (ok_b (K := 13) (Nat.le_of_ble_eq_true rfl) (Nat.le_of_ble_eq_true rfl) hd1 hp1) rfl dX0_giveGrant_72 ?_
    refine x_isub dX0_giveGrant_75 ?_
    refine x_iload dX0_giveGrant_76 6 rfl ?_
    refine x_icmp_le (tgt := 84) dX0_giveGrant_78 rfl (fun hc => ?_) (fun hc => ?_)
    · have h := x_t hc h
      refine x_aloadN dX0_giveGrant_84 5 rfl ?_
      refine x_ifnullN (tgt := 97) dX0_giveGrant_86 rfl ?_
      refine x_sub (L1 := [(0, .ref (w.2.2 d0 0 0 0)), (1, .ref (w.2.2 d1 13 p1 0)), (2, .int a2), (3, .int a3), (4, .int a4), (5, .null)]) [0, 1, 2, 3, 4, 5] rfl ?_
      exact TX0_giveGrant_97 (o5 := none) hd0 hd1 hp1 h
    · have h := x_f hc h
      refine x_bipush (x := (-3)) dX0_giveGrant_81 (by decide) ?_
      exact x_iretH rfl dX0_giveGrant_83 h
  · obtain ⟨hw5, h⟩ := x_g_e h
    refine x_sub (L1 := [(0, .ref (w.2.2 d0 0 0 0)), (1, .ref (w.2.2 d1 13 p1 0)), (2, .int a2), (3, .int a3), (4, .int a4), (5, .ref (w.2.2 w5.1 13 w5.2 0)), (6, .int a6)]) [0, 1, 2, 3, 4, 5, 6] rfl ?_
    refine x_iload_n dX0_giveGrant_70 rfl 3 rfl ?_
    refine x_aload_n dX0_giveGrant_71 rfl 1 rfl ?_
    refine x_getI fl_X0_84 (ok_b (K := 13) (Nat.le_of_ble_eq_true rfl) (Nat.le_of_ble_eq_true rfl) hd1 hp1) rfl dX0_giveGrant_72 ?_
    refine x_isub dX0_giveGrant_75 ?_
    refine x_iload dX0_giveGrant_76 6 rfl ?_
    refine x_icmp_le (tgt := 84) dX0_giveGrant_78 rfl (fun hc => ?_) (fun hc => ?_)
    · have h := x_t hc h
      refine x_aload dX0_giveGrant_84 5 rfl ?_
      refine x_ifnullR dX0_giveGrant_86 ?_
      refine x_aload_n dX0_giveGrant_89 rfl 0 rfl ?_
      refine x_aload dX0_giveGrant_90 5 rfl ?_
      refine x_iload dX0_giveGrant_92 4 rfl ?_
      obtain ⟨z13, s13, h13, h⟩ := x_b_e h
      refine x_callV (As := [.ref (w.2.2 w5.1 13 w5.2 0), .int a4]) (st := []) (eX0_endGrant hd0 (ok2_d hw5) (ok2_p hw5) h13) cv_X0_113 (Nat.le_of_ble_eq_true rfl) (ok_a (K := 0) (Nat.le_of_ble_eq_true rfl) hd0) rfl (Nat.le_of_ble_eq_true rfl) _ rfl dX0_giveGrant_94 [] rfl ?_
      refine x_sub (L1 := [(0, .ref (w.2.2 d0 0 0 0)), (1, .ref (w.2.2 d1 13 p1 0)), (2, .int a2), (3, .int a3), (4, .int a4), (5, .ref (w.2.2 w5.1 13 w5.2 0))]) [0, 1, 2, 3, 4, 5] rfl ?_
      exact TX0_giveGrant_97 (o5 := (some (w5.1, w5.2))) hd0 hd1 hp1 h
    · have h := x_f hc h
      refine x_bipush (x := (-3)) dX0_giveGrant_81 (by decide) ?_
      exact x_iretH rfl dX0_giveGrant_83 h
set_option maxRecDepth 100000 in
set_option maxHeartbeats 4000000 in
theorem TX0_giveGrant_23 {l : Launch} {w : xW} {d0 : Nat} {d1 : Nat} {p1 : Nat} {a2 : Int32} {a3 : Int32} {as0 : Int32} (hd0 : d0 < 4) (hd1 : d1 < 4) (hp1 : p1 < 6) {σ τ : xS} {r : Int32} (h : BX0_giveGrant_23 d0 d1 p1 a2 a3 as0 σ = some (r, τ)) : xAt l w mX0_giveGrant 23 [(0, .ref (w.2.2 d0 0 0 0)), (1, .ref (w.2.2 d1 13 p1 0)), (2, .int a2), (3, .int a3)] [.int as0] σ (some (.int r)) τ := by
  rw [BX0_giveGrant_23] at h
  refine x_istore as0 rfl dX0_giveGrant_23 (Nat.le_of_ble_eq_true rfl) [(4, .int as0), (0, .ref (w.2.2 d0 0 0 0)), (1, .ref (w.2.2 d1 13 p1 0)), (2, .int a2), (3, .int a3)] rfl ?_
  refine x_aload_n dX0_giveGrant_25 rfl 1 rfl ?_
  refine x_iload dX0_giveGrant_26 0 rfl ?_
  obtain ⟨z1, s1, h1, h⟩ := x_b_e h
  refine x_callV (As := [.int as0]) (st := []) (eX0_portAt hd0 h1) cv_X0_97 (Nat.le_of_ble_eq_true rfl) (ok_a (K := 0) (Nat.le_of_ble_eq_true rfl) hd0) rfl (Nat.le_of_ble_eq_true rfl) _ rfl dX0_giveGrant_28 [x_nvP w z1] rfl ?_
  rcases z1 with _ | t1
  · refine x_st [.null] rfl ?_
    refine x_astoreN dX0_giveGrant_31 (Nat.le_of_ble_eq_true rfl) [(5, .null), (4, .int as0), (0, .ref (w.2.2 d0 0 0 0)), (1, .ref (w.2.2 d1 13 p1 0)), (2, .int a2), (3, .int a3)] rfl ?_
    refine x_aload_n dX0_giveGrant_33 rfl 2 rfl ?_
    obtain ⟨z2, s2, h2, h⟩ := x_b_e h
    refine x_callV (As := []) (st := []) (eX0_sharedLeft hd0 h2) cv_X0_101 (Nat.le_of_ble_eq_true rfl) (ok_a (K := 0) (Nat.le_of_ble_eq_true rfl) hd0) rfl (Nat.le_of_ble_eq_true rfl) _ rfl dX0_giveGrant_34 [.int z2] rfl ?_
    refine x_istore z2 rfl dX0_giveGrant_37 (Nat.le_of_ble_eq_true rfl) [(6, .int z2), (5, .null), (4, .int as0), (0, .ref (w.2.2 d0 0 0 0)), (1, .ref (w.2.2 d1 13 p1 0)), (2, .int a2), (3, .int a3)] rfl ?_
    refine x_aloadN dX0_giveGrant_39 1 rfl ?_
    refine x_ifnullN (tgt := 70) dX0_giveGrant_41 rfl ?_
    refine x_sub (L1 := [(0, .ref (w.2.2 d0 0 0 0)), (1, .ref (w.2.2 d1 13 p1 0)), (2, .int a2), (3, .int a3), (4, .int as0), (5, .null), (6, .int z2)]) [3, 4, 5, 6, 2, 1, 0] rfl ?_
    exact TX0_giveGrant_70 (o5 := none) hd0 hd1 hp1 h
  · obtain ⟨hg1, h⟩ := x_g_e h
    refine x_st [.ref (w.2.2 t1.1 13 t1.2 0)] rfl ?_
    refine x_astore dX0_giveGrant_31 (Nat.le_of_ble_eq_true rfl) [(5, .ref (w.2.2 t1.1 13 t1.2 0)), (4, .int as0), (0, .ref (w.2.2 d0 0 0 0)), (1, .ref (w.2.2 d1 13 p1 0)), (2, .int a2), (3, .int a3)] rfl ?_
    refine x_aload_n dX0_giveGrant_33 rfl 2 rfl ?_
    obtain ⟨z14, s14, h14, h⟩ := x_b_e h
    refine x_callV (As := []) (st := []) (eX0_sharedLeft hd0 h14) cv_X0_101 (Nat.le_of_ble_eq_true rfl) (ok_a (K := 0) (Nat.le_of_ble_eq_true rfl) hd0) rfl (Nat.le_of_ble_eq_true rfl) _ rfl dX0_giveGrant_34 [.int z14] rfl ?_
    refine x_istore z14 rfl dX0_giveGrant_37 (Nat.le_of_ble_eq_true rfl) [(6, .int z14), (5, .ref (w.2.2 t1.1 13 t1.2 0)), (4, .int as0), (0, .ref (w.2.2 d0 0 0 0)), (1, .ref (w.2.2 d1 13 p1 0)), (2, .int a2), (3, .int a3)] rfl ?_
    refine x_aload dX0_giveGrant_39 1 rfl ?_
    refine x_ifnullR dX0_giveGrant_41 ?_
    refine x_iload dX0_giveGrant_44 0 rfl ?_
    refine x_aload dX0_giveGrant_46 1 rfl ?_
    refine x_getI fl_X0_84 (ok_b (K := 13) (Nat.le_of_ble_eq_true rfl) (Nat.le_of_ble_eq_true rfl) (ok2_d hg1) (ok2_p hg1)) rfl dX0_giveGrant_48 ?_
    refine x_iconst (x := 0) dX0_giveGrant_51 rfl ?_
    refine x_aload dX0_giveGrant_52 1 rfl ?_
    obtain ⟨z15, s15, h15, h⟩ := x_b_e h
    refine x_callV (As := []) (st := [.int 0, .int (s14 t1.1 13 t1.2 0 4), .int z14]) (eX2_guaranteedInUse (ok2_d hg1) (ok2_p hg1) h15) cv_X0_104 (Nat.le_of_ble_eq_true rfl) (ok_b (K := 13) (Nat.le_of_ble_eq_true rfl) (Nat.le_of_ble_eq_true rfl) (ok2_d hg1) (ok2_p hg1)) rfl (Nat.le_of_ble_eq_true rfl) _ rfl dX0_giveGrant_54 [.int z15, .int 0, .int (s14 t1.1 13 t1.2 0 4), .int z14] rfl ?_
    refine x_aload dX0_giveGrant_57 1 rfl ?_
    refine x_getI fl_X0_81 (ok_b (K := 13) (Nat.le_of_ble_eq_true rfl) (Nat.le_of_ble_eq_true rfl) (ok2_d hg1) (ok2_p hg1)) rfl dX0_giveGrant_59 ?_
    refine x_isub dX0_giveGrant_62 ?_
    refine x_max lk_X0_107 w_max (Nat.le_of_ble_eq_true rfl) (Nat.le_of_ble_eq_true rfl) dX0_giveGrant_63 ?_
    refine x_isub dX0_giveGrant_66 ?_
    refine x_iadd dX0_giveGrant_67 ?_
    obtain ⟨t16, ht16, h⟩ := x_let_e h
    refine x_istore t16 ht16 dX0_giveGrant_68 (Nat.le_of_ble_eq_true rfl) [(6, .int t16), (5, .ref (w.2.2 t1.1 13 t1.2 0)), (4, .int as0), (0, .ref (w.2.2 d0 0 0 0)), (1, .ref (w.2.2 d1 13 p1 0)), (2, .int a2), (3, .int a3)] rfl ?_
    refine x_sub (L1 := [(0, .ref (w.2.2 d0 0 0 0)), (1, .ref (w.2.2 d1 13 p1 0)), (2, .int a2), (3, .int a3), (4, .int as0), (5, .ref (w.2.2 t1.1 13 t1.2 0)), (6, .int t16)]) [3, 4, 5, 6, 2, 1, 0] rfl ?_
    exact TX0_giveGrant_70 (o5 := (some (t1.1, t1.2))) hd0 hd1 hp1 h
set_option maxRecDepth 100000 in
set_option maxHeartbeats 4000000 in
theorem eX0_giveGrant {l : Launch} {w : xW} {d0 : Nat} {d1 : Nat} {p1 : Nat} {a2 : Int32} {a3 : Int32} (hd0 : d0 < 4) (hd1 : d1 < 4) (hp1 : p1 < 6) {σ τ : xS} {r : Int32} (h : fX0_giveGrant d0 d1 p1 a2 a3 σ = some (r, τ)) : xEV l w yX0_giveGrant mX0_giveGrant [.ref (w.2.2 d0 0 0 0), .ref (w.2.2 d1 13 p1 0), .int a2, .int a3] σ (some (.int r)) τ := by
  rw [fX0_giveGrant] at h
  refine x_enter (by decide +kernel) rfl (Nat.le_of_ble_eq_true rfl) ?_
  refine x_sub (L1 := [(0, .ref (w.2.2 d0 0 0 0)), (1, .ref (w.2.2 d1 13 p1 0)), (2, .int a2), (3, .int a3)]) [0, 1, 2, 3] rfl ?_
  refine x_aload_n dX0_giveGrant_0 rfl 1 rfl ?_
  refine x_getI fl_X0_84 (ok_b (K := 13) (Nat.le_of_ble_eq_true rfl) (Nat.le_of_ble_eq_true rfl) hd1 hp1) rfl dX0_giveGrant_1 ?_
  refine x_if_ne (tgt := 22) dX0_giveGrant_4 rfl (fun hc => ?_) (fun hc => ?_)
  · have h := x_f hc h
    refine x_iconst (x := (-1)) dX0_giveGrant_22 (by decide) ?_
    refine x_sub (L1 := [(0, .ref (w.2.2 d0 0 0 0)), (1, .ref (w.2.2 d1 13 p1 0)), (2, .int a2), (3, .int a3)]) [0, 1, 2, 3] rfl ?_
    exact TX0_giveGrant_23 hd0 hd1 hp1 h
  · have h := x_t hc h
    refine x_aload_n dX0_giveGrant_7 rfl 0 rfl ?_
    refine x_getI fl_X0_55 (ok_a (K := 0) (Nat.le_of_ble_eq_true rfl) hd0) rfl dX0_giveGrant_8 ?_
    refine x_iconst (x := (-1)) dX0_giveGrant_11 (by decide) ?_
    refine x_icmp_eq (tgt := 22) dX0_giveGrant_12 rfl (fun hc => ?_) (fun hc => ?_)
    · have h := x_t hc h
      refine x_iconst (x := (-1)) dX0_giveGrant_22 (by decide) ?_
      refine x_sub (L1 := [(0, .ref (w.2.2 d0 0 0 0)), (1, .ref (w.2.2 d1 13 p1 0)), (2, .int a2), (3, .int a3)]) [0, 1, 2, 3] rfl ?_
      exact TX0_giveGrant_23 hd0 hd1 hp1 h
    · have h := x_f hc h
      refine x_aload_n dX0_giveGrant_15 rfl 0 rfl ?_
      refine x_getI fl_X0_52 (ok_a (K := 0) (Nat.le_of_ble_eq_true rfl) hd0) rfl dX0_giveGrant_16 ?_
      refine x_goto (tgt := 23) dX0_giveGrant_19 rfl ?_
      refine x_sub (L1 := [(0, .ref (w.2.2 d0 0 0 0)), (1, .ref (w.2.2 d1 13 p1 0)), (2, .int a2), (3, .int a3)]) [0, 1, 2, 3] rfl ?_
      exact TX0_giveGrant_23 hd0 hd1 hp1 h
set_option maxRecDepth 100000 in
set_option maxHeartbeats 4000000 in
theorem eX0_headroomRefusal {l : Launch} {w : xW} {d0 : Nat} {p0 : Nat} {d1 : Nat} {p1 : Nat} {r1 : Nat} {a2 : Int32} (hd0 : d0 < 4) (hp0 : p0 < 6) (hd1 : d1 < 4) (hp1 : p1 < 6) (hr1 : r1 < 3) {σ τ : xS} {r : Int32} (h : fX0_headroomRefusal d0 p0 d1 p1 r1 a2 σ = some (r, τ)) : xEV l w yX0_headroomRefusal mX0_headroomRefusal [.ref (w.2.2 d0 13 p0 0), .ref (w.2.2 d1 16 p1 r1), .int a2] σ (some (.int r)) τ := by
  rw [fX0_headroomRefusal] at h
  refine x_enter (by decide +kernel) rfl (Nat.le_of_ble_eq_true rfl) ?_
  refine x_sub (L1 := [(0, .ref (w.2.2 d0 13 p0 0)), (1, .ref (w.2.2 d1 16 p1 r1)), (2, .int a2)]) [0, 1, 2] rfl ?_
  refine x_aload_n dX0_headroomRefusal_0 rfl 1 rfl ?_
  refine x_getI fl_X0_148 (ok_c hd1 hp1 hr1) rfl dX0_headroomRefusal_1 ?_
  refine x_if_ne (tgt := 9) dX0_headroomRefusal_4 rfl (fun hc => ?_) (fun hc => ?_)
  · have h := x_f hc h
    refine x_iload_n dX0_headroomRefusal_9 rfl 2 rfl ?_
    refine x_aload_n dX0_headroomRefusal_10 rfl 0 rfl ?_
    refine x_getI fl_X0_87 (ok_b (K := 13) (Nat.le_of_ble_eq_true rfl) (Nat.le_of_ble_eq_true rfl) hd0 hp0) rfl dX0_headroomRefusal_11 ?_
    refine x_aload_n dX0_headroomRefusal_14 rfl 0 rfl ?_
    obtain ⟨z1, s1, h1, h⟩ := x_b_e h
    refine x_callV (As := []) (st := [.int (σ d0 13 p0 0 3), .int a2]) (eX2_headroomInUse hd0 hp0 h1) cv_X0_151 (Nat.le_of_ble_eq_true rfl) (ok_b (K := 13) (Nat.le_of_ble_eq_true rfl) (Nat.le_of_ble_eq_true rfl) hd0 hp0) rfl (Nat.le_of_ble_eq_true rfl) _ rfl dX0_headroomRefusal_15 [.int z1, .int (σ d0 13 p0 0 3), .int a2] rfl ?_
    refine x_isub dX0_headroomRefusal_18 ?_
    refine x_icmp_le (tgt := 26) dX0_headroomRefusal_19 rfl (fun hc => ?_) (fun hc => ?_)
    · have h := x_t hc h
      refine x_iconst (x := 0) dX0_headroomRefusal_26 rfl ?_
      exact x_iretH rfl dX0_headroomRefusal_27 h
    · have h := x_f hc h
      refine x_iconst (x := 5) dX0_headroomRefusal_22 rfl ?_
      refine x_goto (tgt := 27) dX0_headroomRefusal_23 rfl ?_
      exact x_iretH rfl dX0_headroomRefusal_27 h
  · have h := x_t hc h
    refine x_iconst (x := 4) dX0_headroomRefusal_7 rfl ?_
    exact x_iretH rfl dX0_headroomRefusal_8 h
set_option maxRecDepth 100000 in
set_option maxHeartbeats 4000000 in
theorem TX0_victimsNeeded_56 {l : Launch} {w : xW} {d0 : Nat} {d1 : Nat} {p1 : Nat} {d2 : Nat} {p2 : Nat} {r2 : Nat} {a3 : Int32} {a9 : Int32} {d10 : Nat} {p10 : Nat} {r10 : Nat} (hd0 : d0 < 4) (hd1 : d1 < 4) (hp1 : p1 < 6) (hd2 : d2 < 4) (hp2 : p2 < 6) (hr2 : r2 < 3) (hd10 : d10 < 4) (hp10 : p10 < 6) (hr10 : r10 < 3) {k14 : Int32 → Int32 → Int32 → Int32 → xS → Option (Int32 × xS)} {τ : xS} {r : Int32} (hk14 : ∀ (a6 : Int32) (a7 : Int32) (a8 : Int32) (a9 : Int32) (σ1 : xS), k14 a6 a7 a8 a9 σ1 = some (r, τ) → xAt l w mX0_victimsNeeded 14 [(0, .ref (w.2.2 d0 0 0 0)), (1, .ref (w.2.2 d1 13 p1 0)), (2, .ref (w.2.2 d2 16 p2 r2)), (3, .int a3), (6, .int a6), (7, .int a7), (8, .int a8), (9, .int a9)] [] σ1 (some (.int r)) τ) : ∀ (n : Nat) (a6 : Int32) (a7 : Int32) (a8 : Int32) (a11 : Int32) (a12 : Int32) (a13 : Int32) (a14 : Int32) (σ : xS), BX0_victimsNeeded_56 d0 d1 p1 d2 p2 r2 a3 a9 d10 p10 r10 k14 n a6 a7 a8 a11 a12 a13 a14 σ = some (r, τ) → xAt l w mX0_victimsNeeded 56 [(0, .ref (w.2.2 d0 0 0 0)), (1, .ref (w.2.2 d1 13 p1 0)), (2, .ref (w.2.2 d2 16 p2 r2)), (3, .int a3), (6, .int a6), (7, .int a7), (8, .int a8), (9, .int a9), (10, .ref (w.2.2 d10 16 p10 r10)), (11, .int a11), (12, .int a12), (13, .int a13), (14, .int a14)] [] σ (some (.int r)) τ := by
  intro n
  induction n with
  | zero => intro a6 a7 a8 a11 a12 a13 a14 σ h; cases h
  | succ n ih =>
    intro a6 a7 a8 a11 a12 a13 a14 σ h
    rw [BX0_victimsNeeded_56] at h
    refine x_iload dX0_victimsNeeded_56 12 rfl ?_
    refine x_aload dX0_victimsNeeded_58 8 rfl ?_
    refine x_getI fl_X0_166 (ok_c hd10 hp10 hr10) rfl dX0_victimsNeeded_60 ?_
    refine x_icmp_ge (tgt := 186) dX0_victimsNeeded_63 rfl (fun hc => ?_) (fun hc => ?_)
    · have h := x_t hc h
      obtain ⟨t5, ht5, h⟩ := x_let_e h
      refine x_iinc t5 (-1) (by decide) ht5 dX0_victimsNeeded_186 7 rfl (Nat.le_of_ble_eq_true rfl) [(9, .int t5), (0, .ref (w.2.2 d0 0 0 0)), (1, .ref (w.2.2 d1 13 p1 0)), (2, .ref (w.2.2 d2 16 p2 r2)), (3, .int a3), (6, .int a6), (7, .int a7), (8, .int a8), (10, .ref (w.2.2 d10 16 p10 r10)), (11, .int a11), (12, .int a12), (13, .int a13), (14, .int a14)] rfl ?_
      refine x_goto (tgt := 14) dX0_victimsNeeded_189 rfl ?_
      refine x_sub (L1 := [(0, .ref (w.2.2 d0 0 0 0)), (1, .ref (w.2.2 d1 13 p1 0)), (2, .ref (w.2.2 d2 16 p2 r2)), (3, .int a3), (6, .int a6), (7, .int a7), (8, .int a8), (9, .int t5)]) [1, 2, 3, 4, 5, 6, 7, 0] rfl ?_
      exact hk14 _ _ _ _ _ h
    · have h := x_f hc h
      refine x_aload_n dX0_victimsNeeded_66 rfl 0 rfl ?_
      refine x_getR (d1 := d0) (K1 := 1) (p1 := 0) (r1 := 0) fl_X0_12 (ok_a (K := 0) (Nat.le_of_ble_eq_true rfl) hd0) rfl dX0_victimsNeeded_67 ?_
      refine x_iload dX0_victimsNeeded_70 11 rfl ?_
      obtain ⟨z6, s6, h6, h⟩ := x_b_e h
      refine x_callV (As := [.int a13]) (st := []) (eX1_sizeOf hd0 h6) cv_X0_169 (Nat.le_of_ble_eq_true rfl) (ok_a (K := 1) (Nat.le_of_ble_eq_true rfl) hd0) rfl (Nat.le_of_ble_eq_true rfl) _ rfl dX0_victimsNeeded_72 [.int z6] rfl ?_
      refine x_istore z6 rfl dX0_victimsNeeded_75 (Nat.le_of_ble_eq_true rfl) [(15, .int z6), (0, .ref (w.2.2 d0 0 0 0)), (1, .ref (w.2.2 d1 13 p1 0)), (2, .ref (w.2.2 d2 16 p2 r2)), (3, .int a3), (6, .int a6), (7, .int a7), (8, .int a8), (9, .int a9), (10, .ref (w.2.2 d10 16 p10 r10)), (11, .int a11), (12, .int a12), (13, .int a13), (14, .int a14)] rfl ?_
      refine x_iload dX0_victimsNeeded_77 0 rfl ?_
      refine x_iload dX0_victimsNeeded_79 10 rfl ?_
      refine x_min lk_X0_126 w_min (Nat.le_of_ble_eq_true rfl) (Nat.le_of_ble_eq_true rfl) dX0_victimsNeeded_81 ?_
      obtain ⟨t7, ht7, h⟩ := x_let_e h
      refine x_istore t7 ht7 dX0_victimsNeeded_84 (Nat.le_of_ble_eq_true rfl) [(16, .int t7), (15, .int z6), (0, .ref (w.2.2 d0 0 0 0)), (1, .ref (w.2.2 d1 13 p1 0)), (2, .ref (w.2.2 d2 16 p2 r2)), (3, .int a3), (6, .int a6), (7, .int a7), (8, .int a8), (9, .int a9), (10, .ref (w.2.2 d10 16 p10 r10)), (11, .int a11), (12, .int a12), (13, .int a13), (14, .int a14)] rfl ?_
      refine x_iload dX0_victimsNeeded_86 11 rfl ?_
      refine x_iload dX0_victimsNeeded_88 0 rfl ?_
      refine x_isub dX0_victimsNeeded_90 ?_
      obtain ⟨t8, ht8, h⟩ := x_let_e h
      refine x_istore t8 ht8 dX0_victimsNeeded_91 (Nat.le_of_ble_eq_true rfl) [(11, .int t8), (16, .int t7), (15, .int z6), (0, .ref (w.2.2 d0 0 0 0)), (1, .ref (w.2.2 d1 13 p1 0)), (2, .ref (w.2.2 d2 16 p2 r2)), (3, .int a3), (6, .int a6), (7, .int a7), (8, .int a8), (9, .int a9), (10, .ref (w.2.2 d10 16 p10 r10)), (12, .int a12), (13, .int a13), (14, .int a14)] rfl ?_
      refine x_iload dX0_victimsNeeded_93 2 rfl ?_
      refine x_iload dX0_victimsNeeded_95 1 rfl ?_
      refine x_isub dX0_victimsNeeded_97 ?_
      obtain ⟨t9, ht9, h⟩ := x_let_e h
      refine x_istore t9 ht9 dX0_victimsNeeded_98 (Nat.le_of_ble_eq_true rfl) [(15, .int t9), (11, .int t8), (16, .int t7), (0, .ref (w.2.2 d0 0 0 0)), (1, .ref (w.2.2 d1 13 p1 0)), (2, .ref (w.2.2 d2 16 p2 r2)), (3, .int a3), (6, .int a6), (7, .int a7), (8, .int a8), (9, .int a9), (10, .ref (w.2.2 d10 16 p10 r10)), (12, .int a12), (13, .int a13), (14, .int a14)] rfl ?_
      refine x_iload dX0_victimsNeeded_100 0 rfl ?_
      refine x_iload dX0_victimsNeeded_102 12 rfl ?_
      refine x_min lk_X0_126 w_min (Nat.le_of_ble_eq_true rfl) (Nat.le_of_ble_eq_true rfl) dX0_victimsNeeded_104 ?_
      obtain ⟨t10, ht10, h⟩ := x_let_e h
      refine x_istore t10 ht10 dX0_victimsNeeded_107 (Nat.le_of_ble_eq_true rfl) [(16, .int t10), (15, .int t9), (11, .int t8), (0, .ref (w.2.2 d0 0 0 0)), (1, .ref (w.2.2 d1 13 p1 0)), (2, .ref (w.2.2 d2 16 p2 r2)), (3, .int a3), (6, .int a6), (7, .int a7), (8, .int a8), (9, .int a9), (10, .ref (w.2.2 d10 16 p10 r10)), (12, .int a12), (13, .int a13), (14, .int a14)] rfl ?_
      refine x_iload dX0_victimsNeeded_109 12 rfl ?_
      refine x_iload dX0_victimsNeeded_111 0 rfl ?_
      refine x_isub dX0_victimsNeeded_113 ?_
      obtain ⟨t11, ht11, h⟩ := x_let_e h
      refine x_istore t11 ht11 dX0_victimsNeeded_114 (Nat.le_of_ble_eq_true rfl) [(12, .int t11), (16, .int t10), (15, .int t9), (11, .int t8), (0, .ref (w.2.2 d0 0 0 0)), (1, .ref (w.2.2 d1 13 p1 0)), (2, .ref (w.2.2 d2 16 p2 r2)), (3, .int a3), (6, .int a6), (7, .int a7), (8, .int a8), (9, .int a9), (10, .ref (w.2.2 d10 16 p10 r10)), (13, .int a13), (14, .int a14)] rfl ?_
      refine x_iload dX0_victimsNeeded_116 2 rfl ?_
      refine x_iload dX0_victimsNeeded_118 1 rfl ?_
      refine x_isub dX0_victimsNeeded_120 ?_
      obtain ⟨t12, ht12, h⟩ := x_let_e h
      refine x_istore t12 ht12 dX0_victimsNeeded_121 (Nat.le_of_ble_eq_true rfl) [(15, .int t12), (12, .int t11), (16, .int t10), (11, .int t8), (0, .ref (w.2.2 d0 0 0 0)), (1, .ref (w.2.2 d1 13 p1 0)), (2, .ref (w.2.2 d2 16 p2 r2)), (3, .int a3), (6, .int a6), (7, .int a7), (8, .int a8), (9, .int a9), (10, .ref (w.2.2 d10 16 p10 r10)), (13, .int a13), (14, .int a14)] rfl ?_
      refine x_iload dX0_victimsNeeded_123 9 rfl ?_
      refine x_iload dX0_victimsNeeded_125 2 rfl ?_
      refine x_iadd dX0_victimsNeeded_127 ?_
      obtain ⟨t13, ht13, h⟩ := x_let_e h
      refine x_istore t13 ht13 dX0_victimsNeeded_128 (Nat.le_of_ble_eq_true rfl) [(7, .int t13), (15, .int t12), (12, .int t11), (16, .int t10), (11, .int t8), (0, .ref (w.2.2 d0 0 0 0)), (1, .ref (w.2.2 d1 13 p1 0)), (2, .ref (w.2.2 d2 16 p2 r2)), (3, .int a3), (6, .int a6), (8, .int a8), (9, .int a9), (10, .ref (w.2.2 d10 16 p10 r10)), (13, .int a13), (14, .int a14)] rfl ?_
      refine x_iload dX0_victimsNeeded_130 9 rfl ?_
      refine x_iload dX0_victimsNeeded_132 1 rfl ?_
      refine x_iadd dX0_victimsNeeded_134 ?_
      obtain ⟨t14, ht14, h⟩ := x_let_e h
      refine x_istore t14 ht14 dX0_victimsNeeded_135 (Nat.le_of_ble_eq_true rfl) [(6, .int t14), (7, .int t13), (15, .int t12), (12, .int t11), (16, .int t10), (11, .int t8), (0, .ref (w.2.2 d0 0 0 0)), (1, .ref (w.2.2 d1 13 p1 0)), (2, .ref (w.2.2 d2 16 p2 r2)), (3, .int a3), (8, .int a8), (9, .int a9), (10, .ref (w.2.2 d10 16 p10 r10)), (13, .int a13), (14, .int a14)] rfl ?_
      obtain ⟨t15, ht15, h⟩ := x_let_e h
      refine x_iinc t15 1 rfl ht15 dX0_victimsNeeded_137 10 rfl (Nat.le_of_ble_eq_true rfl) [(8, .int t15), (6, .int t14), (7, .int t13), (15, .int t12), (12, .int t11), (16, .int t10), (11, .int t8), (0, .ref (w.2.2 d0 0 0 0)), (1, .ref (w.2.2 d1 13 p1 0)), (2, .ref (w.2.2 d2 16 p2 r2)), (3, .int a3), (9, .int a9), (10, .ref (w.2.2 d10 16 p10 r10)), (13, .int a13), (14, .int a14)] rfl ?_
      refine x_iload_n dX0_victimsNeeded_140 rfl 10 rfl ?_
      refine x_iload_n dX0_victimsNeeded_141 rfl 10 rfl ?_
      refine x_iload dX0_victimsNeeded_142 1 rfl ?_
      refine x_min lk_X0_126 w_min (Nat.le_of_ble_eq_true rfl) (Nat.le_of_ble_eq_true rfl) dX0_victimsNeeded_144 ?_
      refine x_isub dX0_victimsNeeded_147 ?_
      obtain ⟨t16, ht16, h⟩ := x_let_e h
      refine x_istore t16 ht16 dX0_victimsNeeded_148 (Nat.le_of_ble_eq_true rfl) [(17, .int t16), (8, .int t15), (6, .int t14), (7, .int t13), (15, .int t12), (12, .int t11), (16, .int t10), (11, .int t8), (0, .ref (w.2.2 d0 0 0 0)), (1, .ref (w.2.2 d1 13 p1 0)), (2, .ref (w.2.2 d2 16 p2 r2)), (3, .int a3), (9, .int a9), (10, .ref (w.2.2 d10 16 p10 r10)), (13, .int a13), (14, .int a14)] rfl ?_
      refine x_iload dX0_victimsNeeded_150 0 rfl ?_
      refine x_if_eq (tgt := 166) dX0_victimsNeeded_152 rfl (fun hc => ?_) (fun hc => ?_)
      · have h := x_t hc h
        refine x_iload dX0_victimsNeeded_166 1 rfl ?_
        exact x_iretH rfl dX0_victimsNeeded_168 h
      · have h := x_f hc h
        refine x_aload_n dX0_victimsNeeded_155 rfl 10 rfl ?_
        refine x_iload dX0_victimsNeeded_156 0 rfl ?_
        refine x_iload dX0_victimsNeeded_158 3 rfl ?_
        obtain ⟨z17, s17, h17, h⟩ := x_b_e h
        refine x_callV (As := [.int t16, .int t13]) (st := []) (eX3_poolRefusal hd2 hp2 hr2 h17) cv_X0_135 (Nat.le_of_ble_eq_true rfl) (ok_c hd2 hp2 hr2) rfl (Nat.le_of_ble_eq_true rfl) _ rfl dX0_victimsNeeded_160 [.int z17] rfl ?_
        refine x_if_ne (tgt := 169) dX0_victimsNeeded_163 rfl (fun hc => ?_) (fun hc => ?_)
        · have h := x_f hc h
          refine x_aload_n dX0_victimsNeeded_169 rfl 8 rfl ?_
          refine x_getR (d1 := d0) (K1 := 1) (p1 := 0) (r1 := 0) fl_X0_12 (ok_a (K := 0) (Nat.le_of_ble_eq_true rfl) hd0) rfl dX0_victimsNeeded_170 ?_
          refine x_iload dX0_victimsNeeded_173 14 rfl ?_
          obtain ⟨z18, s18, h18, h⟩ := x_b_e h
          refine x_callV (As := [.int a13]) (st := []) (eX1_packetAhead hd0 h18) cv_X0_173 (Nat.le_of_ble_eq_true rfl) (ok_a (K := 1) (Nat.le_of_ble_eq_true rfl) hd0) rfl (Nat.le_of_ble_eq_true rfl) _ rfl dX0_victimsNeeded_175 [.int z18] rfl ?_
          refine x_istore z18 rfl dX0_victimsNeeded_178 (Nat.le_of_ble_eq_true rfl) [(13, .int z18), (17, .int t16), (8, .int t15), (6, .int t14), (7, .int t13), (15, .int t12), (12, .int t11), (16, .int t10), (11, .int t8), (0, .ref (w.2.2 d0 0 0 0)), (1, .ref (w.2.2 d1 13 p1 0)), (2, .ref (w.2.2 d2 16 p2 r2)), (3, .int a3), (9, .int a9), (10, .ref (w.2.2 d10 16 p10 r10)), (14, .int a14)] rfl ?_
          obtain ⟨t19, ht19, h⟩ := x_let_e h
          refine x_iinc t19 1 rfl ht19 dX0_victimsNeeded_180 15 rfl (Nat.le_of_ble_eq_true rfl) [(14, .int t19), (13, .int z18), (17, .int t16), (8, .int t15), (6, .int t14), (7, .int t13), (15, .int t12), (12, .int t11), (16, .int t10), (11, .int t8), (0, .ref (w.2.2 d0 0 0 0)), (1, .ref (w.2.2 d1 13 p1 0)), (2, .ref (w.2.2 d2 16 p2 r2)), (3, .int a3), (9, .int a9), (10, .ref (w.2.2 d10 16 p10 r10))] rfl ?_
          refine x_goto (tgt := 56) dX0_victimsNeeded_183 rfl ?_
          refine x_sub (L1 := [(0, .ref (w.2.2 d0 0 0 0)), (1, .ref (w.2.2 d1 13 p1 0)), (2, .ref (w.2.2 d2 16 p2 r2)), (3, .int a3), (6, .int t14), (7, .int t13), (8, .int t15), (9, .int a9), (10, .ref (w.2.2 d10 16 p10 r10)), (11, .int t8), (12, .int t11), (13, .int z18), (14, .int t19)]) [10, 11, 12, 13, 4, 5, 3, 14, 15, 9, 7, 1, 0] rfl ?_
          exact ih _ _ _ _ _ _ _ _ h
        · have h := x_t hc h
          refine x_iload dX0_victimsNeeded_166 1 rfl ?_
          exact x_iretH rfl dX0_victimsNeeded_168 h
set_option maxRecDepth 100000 in
set_option maxHeartbeats 4000000 in
theorem TX0_victimsNeeded_14 {l : Launch} {w : xW} {d0 : Nat} {d1 : Nat} {p1 : Nat} {d2 : Nat} {p2 : Nat} {r2 : Nat} {a3 : Int32} (hd0 : d0 < 4) (hd1 : d1 < 4) (hp1 : p1 < 6) (hd2 : d2 < 4) (hp2 : p2 < 6) (hr2 : r2 < 3) {τ : xS} {r : Int32} : ∀ (n : Nat) (a6 : Int32) (a7 : Int32) (a8 : Int32) (a9 : Int32) (σ : xS), BX0_victimsNeeded_14 d0 d1 p1 d2 p2 r2 a3 n a6 a7 a8 a9 σ = some (r, τ) → xAt l w mX0_victimsNeeded 14 [(0, .ref (w.2.2 d0 0 0 0)), (1, .ref (w.2.2 d1 13 p1 0)), (2, .ref (w.2.2 d2 16 p2 r2)), (3, .int a3), (6, .int a6), (7, .int a7), (8, .int a8), (9, .int a9)] [] σ (some (.int r)) τ := by
  intro n
  induction n with
  | zero => intro a6 a7 a8 a9 σ h; cases h
  | succ n ih =>
    intro a6 a7 a8 a9 σ h
    rw [BX0_victimsNeeded_14] at h
    refine x_iload dX0_victimsNeeded_14 7 rfl ?_
    refine x_aload_n dX0_victimsNeeded_16 rfl 2 rfl ?_
    refine x_getI fl_X0_154 (ok_c hd2 hp2 hr2) rfl dX0_victimsNeeded_17 ?_
    refine x_icmp_le (tgt := 192) dX0_victimsNeeded_20 rfl (fun hc => ?_) (fun hc => ?_)
    · have h := x_t hc h
      refine x_iconst (x := 0) dX0_victimsNeeded_192 rfl ?_
      exact x_iretH rfl dX0_victimsNeeded_193 h
    · have h := x_f hc h
      refine x_aload_n dX0_victimsNeeded_23 rfl 1 rfl ?_
      refine x_getR (d1 := d1) (K1 := 14) (p1 := p1) (r1 := 0) fl_X0_74 (ok_b (K := 13) (Nat.le_of_ble_eq_true rfl) (Nat.le_of_ble_eq_true rfl) hd1 hp1) rfl dX0_victimsNeeded_24 ?_
      refine x_iload dX0_victimsNeeded_27 7 rfl ?_
      obtain ⟨hg1, h⟩ := x_g_e h
      refine x_aald (d1 := d1) (K1 := 16) (p1 := p1) (r1 := (a9.toNatClampNeg)) 3 a9.toNatClampNeg rfl 3 RX3 rfl rfl (Nat.le_of_ble_eq_true rfl) rfl rfl (ok_b (K := 14) (Nat.le_of_ble_eq_true rfl) (Nat.le_of_ble_eq_true rfl) hd1 hp1) rfl hg1 dX0_victimsNeeded_29 ?_
      refine x_astore dX0_victimsNeeded_30 (Nat.le_of_ble_eq_true rfl) [(10, .ref (w.2.2 d1 16 p1 (a9.toNatClampNeg))), (0, .ref (w.2.2 d0 0 0 0)), (1, .ref (w.2.2 d1 13 p1 0)), (2, .ref (w.2.2 d2 16 p2 r2)), (3, .int a3), (6, .int a6), (7, .int a7), (8, .int a8), (9, .int a9)] rfl ?_
      refine x_aload dX0_victimsNeeded_32 0 rfl ?_
      refine x_getI fl_X0_157 (ok_c hd1 hp1 (x_in_lt hg1)) rfl dX0_victimsNeeded_34 ?_
      obtain ⟨t2, ht2, h⟩ := x_let_e h
      refine x_istore t2 ht2 dX0_victimsNeeded_37 (Nat.le_of_ble_eq_true rfl) [(11, .int t2), (10, .ref (w.2.2 d1 16 p1 (a9.toNatClampNeg))), (0, .ref (w.2.2 d0 0 0 0)), (1, .ref (w.2.2 d1 13 p1 0)), (2, .ref (w.2.2 d2 16 p2 r2)), (3, .int a3), (6, .int a6), (7, .int a7), (8, .int a8), (9, .int a9)] rfl ?_
      refine x_aload dX0_victimsNeeded_39 1 rfl ?_
      refine x_getI fl_X0_160 (ok_c hd1 hp1 (x_in_lt hg1)) rfl dX0_victimsNeeded_41 ?_
      obtain ⟨t3, ht3, h⟩ := x_let_e h
      refine x_istore t3 ht3 dX0_victimsNeeded_44 (Nat.le_of_ble_eq_true rfl) [(12, .int t3), (11, .int t2), (10, .ref (w.2.2 d1 16 p1 (a9.toNatClampNeg))), (0, .ref (w.2.2 d0 0 0 0)), (1, .ref (w.2.2 d1 13 p1 0)), (2, .ref (w.2.2 d2 16 p2 r2)), (3, .int a3), (6, .int a6), (7, .int a7), (8, .int a8), (9, .int a9)] rfl ?_
      refine x_aload dX0_victimsNeeded_46 2 rfl ?_
      refine x_getI fl_X0_163 (ok_c hd1 hp1 (x_in_lt hg1)) rfl dX0_victimsNeeded_48 ?_
      obtain ⟨t4, ht4, h⟩ := x_let_e h
      refine x_istore t4 ht4 dX0_victimsNeeded_51 (Nat.le_of_ble_eq_true rfl) [(13, .int t4), (12, .int t3), (11, .int t2), (10, .ref (w.2.2 d1 16 p1 (a9.toNatClampNeg))), (0, .ref (w.2.2 d0 0 0 0)), (1, .ref (w.2.2 d1 13 p1 0)), (2, .ref (w.2.2 d2 16 p2 r2)), (3, .int a3), (6, .int a6), (7, .int a7), (8, .int a8), (9, .int a9)] rfl ?_
      refine x_iconst (x := 0) dX0_victimsNeeded_53 rfl ?_
      refine x_istore 0 rfl dX0_victimsNeeded_54 (Nat.le_of_ble_eq_true rfl) [(14, .int 0), (13, .int t4), (12, .int t3), (11, .int t2), (10, .ref (w.2.2 d1 16 p1 (a9.toNatClampNeg))), (0, .ref (w.2.2 d0 0 0 0)), (1, .ref (w.2.2 d1 13 p1 0)), (2, .ref (w.2.2 d2 16 p2 r2)), (3, .int a3), (6, .int a6), (7, .int a7), (8, .int a8), (9, .int a9)] rfl ?_
      refine x_sub (L1 := [(0, .ref (w.2.2 d0 0 0 0)), (1, .ref (w.2.2 d1 13 p1 0)), (2, .ref (w.2.2 d2 16 p2 r2)), (3, .int a3), (6, .int a6), (7, .int a7), (8, .int a8), (9, .int a9), (10, .ref (w.2.2 d1 16 p1 (a9.toNatClampNeg))), (11, .int t2), (12, .int t3), (13, .int t4), (14, .int 0)]) [5, 6, 7, 8, 9, 10, 11, 12, 4, 3, 2, 1, 0] rfl ?_
      exact TX0_victimsNeeded_56 hd0 hd1 hp1 hd2 hp2 hr2 hd1 hp1 (x_in_lt hg1) ih _ _ _ _ _ _ _ _ _ h
set_option maxRecDepth 100000 in
set_option maxHeartbeats 4000000 in
theorem eX0_victimsNeeded {l : Launch} {w : xW} {d0 : Nat} {d1 : Nat} {p1 : Nat} {d2 : Nat} {p2 : Nat} {r2 : Nat} {a3 : Int32} {a4 : Int32} {a5 : Int32} (hd0 : d0 < 4) (hd1 : d1 < 4) (hp1 : p1 < 6) (hd2 : d2 < 4) (hp2 : p2 < 6) (hr2 : r2 < 3) {σ τ : xS} {r : Int32} (h : fX0_victimsNeeded d0 d1 p1 d2 p2 r2 a3 a4 a5 σ = some (r, τ)) : xEV l w yX0_victimsNeeded mX0_victimsNeeded [.ref (w.2.2 d0 0 0 0), .ref (w.2.2 d1 13 p1 0), .ref (w.2.2 d2 16 p2 r2), .int a3, .int a4, .int a5] σ (some (.int r)) τ := by
  rw [fX0_victimsNeeded] at h
  refine x_enter (by decide +kernel) rfl (Nat.le_of_ble_eq_true rfl) ?_
  refine x_sub (L1 := [(0, .ref (w.2.2 d0 0 0 0)), (1, .ref (w.2.2 d1 13 p1 0)), (2, .ref (w.2.2 d2 16 p2 r2)), (3, .int a3), (4, .int a4), (5, .int a5)]) [0, 1, 2, 3, 4, 5] rfl ?_
  refine x_iload dX0_victimsNeeded_0 4 rfl ?_
  refine x_istore a4 rfl dX0_victimsNeeded_2 (Nat.le_of_ble_eq_true rfl) [(6, .int a4), (0, .ref (w.2.2 d0 0 0 0)), (1, .ref (w.2.2 d1 13 p1 0)), (2, .ref (w.2.2 d2 16 p2 r2)), (3, .int a3), (4, .int a4), (5, .int a5)] rfl ?_
  refine x_iload dX0_victimsNeeded_4 6 rfl ?_
  refine x_istore a5 rfl dX0_victimsNeeded_6 (Nat.le_of_ble_eq_true rfl) [(7, .int a5), (6, .int a4), (0, .ref (w.2.2 d0 0 0 0)), (1, .ref (w.2.2 d1 13 p1 0)), (2, .ref (w.2.2 d2 16 p2 r2)), (3, .int a3), (4, .int a4), (5, .int a5)] rfl ?_
  refine x_iconst (x := 0) dX0_victimsNeeded_8 rfl ?_
  refine x_istore 0 rfl dX0_victimsNeeded_9 (Nat.le_of_ble_eq_true rfl) [(8, .int 0), (7, .int a5), (6, .int a4), (0, .ref (w.2.2 d0 0 0 0)), (1, .ref (w.2.2 d1 13 p1 0)), (2, .ref (w.2.2 d2 16 p2 r2)), (3, .int a3), (4, .int a4), (5, .int a5)] rfl ?_
  refine x_iconst (x := 2) dX0_victimsNeeded_11 rfl ?_
  refine x_istore 2 rfl dX0_victimsNeeded_12 (Nat.le_of_ble_eq_true rfl) [(9, .int 2), (8, .int 0), (7, .int a5), (6, .int a4), (0, .ref (w.2.2 d0 0 0 0)), (1, .ref (w.2.2 d1 13 p1 0)), (2, .ref (w.2.2 d2 16 p2 r2)), (3, .int a3), (4, .int a4), (5, .int a5)] rfl ?_
  refine x_sub (L1 := [(0, .ref (w.2.2 d0 0 0 0)), (1, .ref (w.2.2 d1 13 p1 0)), (2, .ref (w.2.2 d2 16 p2 r2)), (3, .int a3), (6, .int a4), (7, .int a5), (8, .int 0), (9, .int 2)]) [4, 5, 6, 7, 3, 2, 1, 0] rfl ?_
  exact TX0_victimsNeeded_14 hd0 hd1 hp1 hd2 hp2 hr2 _ _ _ _ _ _ h
set_option maxRecDepth 100000 in
set_option maxHeartbeats 4000000 in
theorem TX0_judge_41 {l : Launch} {w : xW} {d0 : Nat} {d1 : Nat} {p1 : Nat} {d2 : Nat} {p2 : Nat} {r2 : Nat} {a3 : Int32} {a4 : Int32} {a5 : Int32} {as0 : Int32} {as1 : Int32} {ds2 : Nat} (hd0 : d0 < 4) (hd1 : d1 < 4) (hp1 : p1 < 6) (hd2 : d2 < 4) (hp2 : p2 < 6) (hr2 : r2 < 3) (hds2 : ds2 < 4) {σ τ : xS} {r : Unit} (h : BX0_judge_41 d0 d1 p1 d2 p2 r2 a3 a4 a5 as0 as1 ds2 σ = some (r, τ)) : xAt l w mX0_judge 41 [(0, .ref (w.2.2 d0 0 0 0)), (1, .ref (w.2.2 d1 13 p1 0)), (2, .ref (w.2.2 d2 16 p2 r2)), (3, .int a3), (4, .int a4), (5, .int a5)] [.int as0, .int as1, .ref (w.2.2 ds2 12 0 0)] σ none τ := by
  rw [BX0_judge_41] at h
  obtain ⟨hg5, h⟩ := x_g_e h
  obtain ⟨s6, hs6, h⟩ := x_let_e h
  refine x_iast 4 as1.toNatClampNeg rfl s6 hs6 rfl rfl rfl (ok_a (K := 12) (Nat.le_of_ble_eq_true rfl) hds2) hg5 dX0_judge_41 ?_
  refine x_aload_n dX0_judge_42 rfl 0 rfl ?_
  refine x_getR (d1 := d0) (K1 := 12) (p1 := 0) (r1 := 0) fl_X0_29 (ok_a (K := 0) (Nat.le_of_ble_eq_true rfl) hd0) rfl dX0_judge_43 ?_
  refine x_iconst (x := 0) dX0_judge_46 rfl ?_
  refine x_iald 4 0 rfl rfl rfl rfl (ok_a (K := 12) (Nat.le_of_ble_eq_true rfl) hd0) rfl dX0_judge_47 ?_
  refine x_if_ne (tgt := 57) dX0_judge_48 rfl (fun hc => ?_) (fun hc => ?_)
  · have h := x_f hc h
    refine x_aload_n dX0_judge_57 rfl 0 rfl ?_
    obtain ⟨z7, s7, h7, h⟩ := x_b_e h
    refine x_callV (As := []) (st := []) (eX0_sharedLeft hd0 h7) cv_X0_101 (Nat.le_of_ble_eq_true rfl) (ok_a (K := 0) (Nat.le_of_ble_eq_true rfl) hd0) rfl (Nat.le_of_ble_eq_true rfl) _ rfl dX0_judge_58 [.int z7] rfl ?_
    refine x_istore z7 rfl dX0_judge_61 (Nat.le_of_ble_eq_true rfl) [(6, .int z7), (0, .ref (w.2.2 d0 0 0 0)), (1, .ref (w.2.2 d1 13 p1 0)), (2, .ref (w.2.2 d2 16 p2 r2)), (3, .int a3), (4, .int a4), (5, .int a5)] rfl ?_
    refine x_aload_n dX0_judge_63 rfl 1 rfl ?_
    refine x_getR (d1 := d0) (K1 := 12) (p1 := 0) (r1 := 0) fl_X0_29 (ok_a (K := 0) (Nat.le_of_ble_eq_true rfl) hd0) rfl dX0_judge_64 ?_
    refine x_iconst (x := 1) dX0_judge_67 rfl ?_
    refine x_aload_n dX0_judge_68 rfl 3 rfl ?_
    refine x_iload dX0_judge_69 6 rfl ?_
    refine x_iload dX0_judge_71 0 rfl ?_
    obtain ⟨z8, s8, h8, h⟩ := x_b_e h
    refine x_callV (As := [.int a5, .int z7]) (st := [.int 1, .ref (w.2.2 d0 12 0 0)]) (eX3_poolRefusal hd2 hp2 hr2 h8) cv_X0_135 (Nat.le_of_ble_eq_true rfl) (ok_c hd2 hp2 hr2) rfl (Nat.le_of_ble_eq_true rfl) _ rfl dX0_judge_73 [.int z8, .int 1, .ref (w.2.2 d0 12 0 0)] rfl ?_
    obtain ⟨s9, hs9, h⟩ := x_let_e h
    refine x_iast 4 1 rfl s9 hs9 rfl rfl rfl (ok_a (K := 12) (Nat.le_of_ble_eq_true rfl) hd0) rfl dX0_judge_76 ?_
    refine x_aload_n dX0_judge_77 rfl 1 rfl ?_
    refine x_getR (d1 := d0) (K1 := 12) (p1 := 0) (r1 := 0) fl_X0_29 (ok_a (K := 0) (Nat.le_of_ble_eq_true rfl) hd0) rfl dX0_judge_78 ?_
    refine x_iconst (x := 1) dX0_judge_81 rfl ?_
    refine x_iald 4 1 rfl rfl rfl rfl (ok_a (K := 12) (Nat.le_of_ble_eq_true rfl) hd0) rfl dX0_judge_82 ?_
    refine x_if_ne (tgt := 92) dX0_judge_83 rfl (fun hc => ?_) (fun hc => ?_)
    · have h := x_f hc h
      refine x_aload_n dX0_judge_92 rfl 1 rfl ?_
      refine x_getR (d1 := d0) (K1 := 12) (p1 := 0) (r1 := 0) fl_X0_29 (ok_a (K := 0) (Nat.le_of_ble_eq_true rfl) hd0) rfl dX0_judge_93 ?_
      refine x_iconst (x := 2) dX0_judge_96 rfl ?_
      refine x_aload_n dX0_judge_97 rfl 2 rfl ?_
      refine x_aload_n dX0_judge_98 rfl 3 rfl ?_
      refine x_iload dX0_judge_99 6 rfl ?_
      obtain ⟨z10, s10, h10, h⟩ := x_b_e h
      refine x_callS (As := [.ref (w.2.2 d1 13 p1 0), .ref (w.2.2 d2 16 p2 r2), .int a5]) (st := [.int 2, .ref (w.2.2 d0 12 0 0)]) (eX0_headroomRefusal hd1 hp1 hd2 hp2 hr2 h10) cs_X0_140 (Nat.le_of_ble_eq_true rfl) rfl (Nat.le_of_ble_eq_true rfl) _ rfl dX0_judge_101 [.int z10, .int 2, .ref (w.2.2 d0 12 0 0)] rfl ?_
      obtain ⟨s11, hs11, h⟩ := x_let_e h
      refine x_iast 4 2 rfl s11 hs11 rfl rfl rfl (ok_a (K := 12) (Nat.le_of_ble_eq_true rfl) hd0) rfl dX0_judge_104 ?_
      refine x_aload_n dX0_judge_105 rfl 1 rfl ?_
      refine x_getR (d1 := d0) (K1 := 12) (p1 := 0) (r1 := 0) fl_X0_29 (ok_a (K := 0) (Nat.le_of_ble_eq_true rfl) hd0) rfl dX0_judge_106 ?_
      refine x_iconst (x := 2) dX0_judge_109 rfl ?_
      refine x_iald 4 2 rfl rfl rfl rfl (ok_a (K := 12) (Nat.le_of_ble_eq_true rfl) hd0) rfl dX0_judge_110 ?_
      refine x_if_ne (tgt := 120) dX0_judge_111 rfl (fun hc => ?_) (fun hc => ?_)
      · have h := x_f hc h
        refine x_aload_n dX0_judge_120 rfl 1 rfl ?_
        refine x_getR (d1 := d0) (K1 := 12) (p1 := 0) (r1 := 0) fl_X0_29 (ok_a (K := 0) (Nat.le_of_ble_eq_true rfl) hd0) rfl dX0_judge_121 ?_
        refine x_iconst (x := 3) dX0_judge_124 rfl ?_
        refine x_bipush (x := 6) dX0_judge_125 rfl ?_
        obtain ⟨s12, hs12, h⟩ := x_let_e h
        refine x_iast 4 3 rfl s12 hs12 rfl rfl rfl (ok_a (K := 12) (Nat.le_of_ble_eq_true rfl) hd0) rfl dX0_judge_127 ?_
        refine x_aload_n dX0_judge_128 rfl 1 rfl ?_
        refine x_getI fl_X0_42 (ok_a (K := 0) (Nat.le_of_ble_eq_true rfl) hd0) rfl dX0_judge_129 ?_
        refine x_if_eq (tgt := 158) dX0_judge_132 rfl (fun hc => ?_) (fun hc => ?_)
        · have h := x_t hc h
          refine x_aload_n dX0_judge_158 rfl 1 rfl ?_
          refine x_getI fl_X0_132 (ok_a (K := 0) (Nat.le_of_ble_eq_true rfl) hd0) rfl dX0_judge_159 ?_
          refine x_if_le (tgt := 170) dX0_judge_162 rfl (fun hc => ?_) (fun hc => ?_)
          · have h := x_t hc h
            exact x_vretH rfl dX0_judge_170 h
          · have h := x_f hc h
            refine x_aload_n dX0_judge_165 rfl 1 rfl ?_
            refine x_iconst (x := 4) dX0_judge_166 rfl ?_
            obtain ⟨s13, hs13, h⟩ := x_let_e h
            refine x_putI s13 hs13 fp_X0_129 (ok_a (K := 0) (Nat.le_of_ble_eq_true rfl) hd0) rfl dX0_judge_167 ?_
            exact x_vretH rfl dX0_judge_170 h
        · have h := x_f hc h
          refine x_aload_n dX0_judge_135 rfl 1 rfl ?_
          refine x_aload_n dX0_judge_136 rfl 1 rfl ?_
          refine x_aload_n dX0_judge_137 rfl 2 rfl ?_
          refine x_aload_n dX0_judge_138 rfl 3 rfl ?_
          refine x_iload_n dX0_judge_139 rfl 4 rfl ?_
          refine x_iload dX0_judge_140 5 rfl ?_
          refine x_iload dX0_judge_142 0 rfl ?_
          obtain ⟨z14, s14, h14, h⟩ := x_b_e h
          refine x_callV (As := [.ref (w.2.2 d1 13 p1 0), .ref (w.2.2 d2 16 p2 r2), .int a3, .int a4, .int z7]) (st := [.ref (w.2.2 d0 0 0 0)]) (eX0_victimsNeeded hd0 hd1 hp1 hd2 hp2 hr2 h14) cv_X0_144 (Nat.le_of_ble_eq_true rfl) (ok_a (K := 0) (Nat.le_of_ble_eq_true rfl) hd0) rfl (Nat.le_of_ble_eq_true rfl) _ rfl dX0_judge_144 [.int z14, .ref (w.2.2 d0 0 0 0)] rfl ?_
          obtain ⟨s15, hs15, h⟩ := x_let_e h
          refine x_putI s15 hs15 fp_X0_132 (ok_a (K := 0) (Nat.le_of_ble_eq_true rfl) hd0) rfl dX0_judge_147 ?_
          refine x_aload_n dX0_judge_150 rfl 1 rfl ?_
          refine x_getR (d1 := d0) (K1 := 12) (p1 := 0) (r1 := 0) fl_X0_29 (ok_a (K := 0) (Nat.le_of_ble_eq_true rfl) hd0) rfl dX0_judge_151 ?_
          refine x_iconst (x := 3) dX0_judge_154 rfl ?_
          refine x_bipush (x := 7) dX0_judge_155 rfl ?_
          obtain ⟨s16, hs16, h⟩ := x_let_e h
          refine x_iast 4 3 rfl s16 hs16 rfl rfl rfl (ok_a (K := 12) (Nat.le_of_ble_eq_true rfl) hd0) rfl dX0_judge_157 ?_
          refine x_aload_n dX0_judge_158 rfl 1 rfl ?_
          refine x_getI fl_X0_132 (ok_a (K := 0) (Nat.le_of_ble_eq_true rfl) hd0) rfl dX0_judge_159 ?_
          refine x_if_le (tgt := 170) dX0_judge_162 rfl (fun hc => ?_) (fun hc => ?_)
          · have h := x_t hc h
            exact x_vretH rfl dX0_judge_170 h
          · have h := x_f hc h
            refine x_aload_n dX0_judge_165 rfl 1 rfl ?_
            refine x_iconst (x := 4) dX0_judge_166 rfl ?_
            obtain ⟨s17, hs17, h⟩ := x_let_e h
            refine x_putI s17 hs17 fp_X0_129 (ok_a (K := 0) (Nat.le_of_ble_eq_true rfl) hd0) rfl dX0_judge_167 ?_
            exact x_vretH rfl dX0_judge_170 h
      · have h := x_t hc h
        refine x_aload_n dX0_judge_114 rfl 1 rfl ?_
        refine x_iconst (x := 3) dX0_judge_115 rfl ?_
        obtain ⟨s18, hs18, h⟩ := x_let_e h
        refine x_putI s18 hs18 fp_X0_129 (ok_a (K := 0) (Nat.le_of_ble_eq_true rfl) hd0) rfl dX0_judge_116 ?_
        exact x_vretH rfl dX0_judge_119 h
    · have h := x_t hc h
      refine x_aload_n dX0_judge_86 rfl 1 rfl ?_
      refine x_iconst (x := 2) dX0_judge_87 rfl ?_
      obtain ⟨s19, hs19, h⟩ := x_let_e h
      refine x_putI s19 hs19 fp_X0_129 (ok_a (K := 0) (Nat.le_of_ble_eq_true rfl) hd0) rfl dX0_judge_88 ?_
      exact x_vretH rfl dX0_judge_91 h
  · have h := x_t hc h
    refine x_aload_n dX0_judge_51 rfl 0 rfl ?_
    refine x_iconst (x := 1) dX0_judge_52 rfl ?_
    obtain ⟨s20, hs20, h⟩ := x_let_e h
    refine x_putI s20 hs20 fp_X0_129 (ok_a (K := 0) (Nat.le_of_ble_eq_true rfl) hd0) rfl dX0_judge_53 ?_
    exact x_vretH rfl dX0_judge_56 h
set_option maxRecDepth 100000 in
set_option maxHeartbeats 4000000 in
theorem eX0_judge {l : Launch} {w : xW} {d0 : Nat} {d1 : Nat} {p1 : Nat} {d2 : Nat} {p2 : Nat} {r2 : Nat} {a3 : Int32} (hd0 : d0 < 4) (hd1 : d1 < 4) (hp1 : p1 < 6) (hd2 : d2 < 4) (hp2 : p2 < 6) (hr2 : r2 < 3) {σ τ : xS} {r : Unit} (h : fX0_judge d0 d1 p1 d2 p2 r2 a3 σ = some (r, τ)) : xEV l w yX0_judge mX0_judge [.ref (w.2.2 d0 0 0 0), .ref (w.2.2 d1 13 p1 0), .ref (w.2.2 d2 16 p2 r2), .int a3] σ none τ := by
  rw [fX0_judge] at h
  refine x_enter (by decide +kernel) rfl (Nat.le_of_ble_eq_true rfl) ?_
  refine x_sub (L1 := [(0, .ref (w.2.2 d0 0 0 0)), (1, .ref (w.2.2 d1 13 p1 0)), (2, .ref (w.2.2 d2 16 p2 r2)), (3, .int a3)]) [0, 1, 2, 3] rfl ?_
  refine x_aload_n dX0_judge_0 rfl 1 rfl ?_
  obtain ⟨z1, s1, h1, h⟩ := x_b_e h
  refine x_callV (As := []) (st := []) (eX2_guaranteeLeft hd1 hp1 h1) cv_X0_123 (Nat.le_of_ble_eq_true rfl) (ok_b (K := 13) (Nat.le_of_ble_eq_true rfl) (Nat.le_of_ble_eq_true rfl) hd1 hp1) rfl (Nat.le_of_ble_eq_true rfl) _ rfl dX0_judge_1 [.int z1] rfl ?_
  refine x_istore z1 rfl dX0_judge_4 (Nat.le_of_ble_eq_true rfl) [(4, .int z1), (0, .ref (w.2.2 d0 0 0 0)), (1, .ref (w.2.2 d1 13 p1 0)), (2, .ref (w.2.2 d2 16 p2 r2)), (3, .int a3)] rfl ?_
  refine x_iload_n dX0_judge_6 rfl 4 rfl ?_
  refine x_iload_n dX0_judge_7 rfl 4 rfl ?_
  refine x_iload dX0_judge_8 0 rfl ?_
  refine x_min lk_X0_126 w_min (Nat.le_of_ble_eq_true rfl) (Nat.le_of_ble_eq_true rfl) dX0_judge_10 ?_
  refine x_isub dX0_judge_13 ?_
  obtain ⟨t2, ht2, h⟩ := x_let_e h
  refine x_istore t2 ht2 dX0_judge_14 (Nat.le_of_ble_eq_true rfl) [(5, .int t2), (4, .int z1), (0, .ref (w.2.2 d0 0 0 0)), (1, .ref (w.2.2 d1 13 p1 0)), (2, .ref (w.2.2 d2 16 p2 r2)), (3, .int a3)] rfl ?_
  refine x_aload_n dX0_judge_16 rfl 2 rfl ?_
  refine x_iconst (x := 0) dX0_judge_17 rfl ?_
  obtain ⟨s3, hs3, h⟩ := x_let_e h
  refine x_putI s3 hs3 fp_X0_129 (ok_a (K := 0) (Nat.le_of_ble_eq_true rfl) hd0) rfl dX0_judge_18 ?_
  refine x_aload_n dX0_judge_21 rfl 2 rfl ?_
  refine x_iconst (x := 0) dX0_judge_22 rfl ?_
  obtain ⟨s4, hs4, h⟩ := x_let_e h
  refine x_putI s4 hs4 fp_X0_132 (ok_a (K := 0) (Nat.le_of_ble_eq_true rfl) hd0) rfl dX0_judge_23 ?_
  refine x_aload_n dX0_judge_26 rfl 2 rfl ?_
  refine x_getR (d1 := d0) (K1 := 12) (p1 := 0) (r1 := 0) fl_X0_29 (ok_a (K := 0) (Nat.le_of_ble_eq_true rfl) hd0) rfl dX0_judge_27 ?_
  refine x_iconst (x := 0) dX0_judge_30 rfl ?_
  refine x_iload dX0_judge_31 0 rfl ?_
  refine x_if_ne (tgt := 40) dX0_judge_33 rfl (fun hc => ?_) (fun hc => ?_)
  · have h := x_f hc h
    refine x_iconst (x := 1) dX0_judge_40 rfl ?_
    refine x_sub (L1 := [(0, .ref (w.2.2 d0 0 0 0)), (1, .ref (w.2.2 d1 13 p1 0)), (2, .ref (w.2.2 d2 16 p2 r2)), (3, .int a3), (4, .int z1), (5, .int t2)]) [2, 3, 4, 5, 1, 0] rfl ?_
    exact TX0_judge_41 hd0 hd1 hp1 hd2 hp2 hr2 hd0 h
  · have h := x_t hc h
    refine x_iconst (x := 0) dX0_judge_36 rfl ?_
    refine x_goto (tgt := 41) dX0_judge_37 rfl ?_
    refine x_sub (L1 := [(0, .ref (w.2.2 d0 0 0 0)), (1, .ref (w.2.2 d1 13 p1 0)), (2, .ref (w.2.2 d2 16 p2 r2)), (3, .int a3), (4, .int z1), (5, .int t2)]) [2, 3, 4, 5, 1, 0] rfl ?_
    exact TX0_judge_41 hd0 hd1 hp1 hd2 hp2 hr2 hd0 h
set_option maxRecDepth 100000 in
set_option maxHeartbeats 4000000 in
theorem eX0_takeOut {l : Launch} {w : xW} {d0 : Nat} {d1 : Nat} {p1 : Nat} {d2 : Nat} {p2 : Nat} {r2 : Nat} {a3 : Int32} (hd0 : d0 < 4) (hd1 : d1 < 4) (hp1 : p1 < 6) (hd2 : d2 < 4) (hp2 : p2 < 6) (hr2 : r2 < 3) {σ τ : xS} {r : Unit} (h : fX0_takeOut d0 d1 p1 d2 p2 r2 a3 σ = some (r, τ)) : xEV l w yX0_takeOut mX0_takeOut [.ref (w.2.2 d0 0 0 0), .ref (w.2.2 d1 13 p1 0), .ref (w.2.2 d2 16 p2 r2), .int a3] σ none τ := by
  rw [fX0_takeOut] at h
  refine x_enter (by decide +kernel) rfl (Nat.le_of_ble_eq_true rfl) ?_
  refine x_sub (L1 := [(0, .ref (w.2.2 d0 0 0 0)), (1, .ref (w.2.2 d1 13 p1 0)), (2, .ref (w.2.2 d2 16 p2 r2)), (3, .int a3)]) [0, 1, 2, 3] rfl ?_
  refine x_aload_n dX0_takeOut_0 rfl 2 rfl ?_
  refine x_aload_n dX0_takeOut_1 rfl 0 rfl ?_
  refine x_getR (d1 := d0) (K1 := 1) (p1 := 0) (r1 := 0) fl_X0_12 (ok_a (K := 0) (Nat.le_of_ble_eq_true rfl) hd0) rfl dX0_takeOut_2 ?_
  refine x_iload_n dX0_takeOut_5 rfl 3 rfl ?_
  obtain ⟨z1, s1, h1, h⟩ := x_b_e h
  refine x_callV (As := [.int a3]) (st := [.ref (w.2.2 d2 16 p2 r2)]) (eX1_sizeOf hd0 h1) cv_X0_169 (Nat.le_of_ble_eq_true rfl) (ok_a (K := 1) (Nat.le_of_ble_eq_true rfl) hd0) rfl (Nat.le_of_ble_eq_true rfl) _ rfl dX0_takeOut_6 [.int z1, .ref (w.2.2 d2 16 p2 r2)] rfl ?_
  obtain ⟨z2, s2, h2, h⟩ := x_b_e h
  refine x_callV (As := [.int z1]) (st := []) (eX3_giveBack hd2 hp2 hr2 h2) cv_X0_209 (Nat.le_of_ble_eq_true rfl) (ok_c hd2 hp2 hr2) rfl (Nat.le_of_ble_eq_true rfl) _ rfl dX0_takeOut_9 [] rfl ?_
  refine x_aload_n dX0_takeOut_12 rfl 0 rfl ?_
  refine x_getR (d1 := d0) (K1 := 1) (p1 := 0) (r1 := 0) fl_X0_12 (ok_a (K := 0) (Nat.le_of_ble_eq_true rfl) hd0) rfl dX0_takeOut_13 ?_
  refine x_aload_n dX0_takeOut_16 rfl 2 rfl ?_
  refine x_iload_n dX0_takeOut_17 rfl 3 rfl ?_
  obtain ⟨z3, s3, h3, h⟩ := x_b_e h
  refine x_callV (As := [.ref (w.2.2 d2 16 p2 r2), .int a3]) (st := []) (eX1_leaveQueue hd0 hd2 hp2 hr2 h3) cv_X0_212 (Nat.le_of_ble_eq_true rfl) (ok_a (K := 1) (Nat.le_of_ble_eq_true rfl) hd0) rfl (Nat.le_of_ble_eq_true rfl) _ rfl dX0_takeOut_18 [] rfl ?_
  refine x_aload_n dX0_takeOut_21 rfl 0 rfl ?_
  refine x_getR (d1 := d0) (K1 := 1) (p1 := 0) (r1 := 0) fl_X0_12 (ok_a (K := 0) (Nat.le_of_ble_eq_true rfl) hd0) rfl dX0_takeOut_22 ?_
  refine x_iload_n dX0_takeOut_25 rfl 3 rfl ?_
  obtain ⟨z4, s4, h4, h⟩ := x_b_e h
  refine x_callV (As := [.int a3]) (st := []) (eX1_release hd0 h4) cv_X0_215 (Nat.le_of_ble_eq_true rfl) (ok_a (K := 1) (Nat.le_of_ble_eq_true rfl) hd0) rfl (Nat.le_of_ble_eq_true rfl) _ rfl dX0_takeOut_26 [] rfl ?_
  refine x_aload_n dX0_takeOut_29 rfl 2 rfl ?_
  refine x_getI fl_X0_166 (ok_c hd2 hp2 hr2) rfl dX0_takeOut_30 ?_
  refine x_if_ne (tgt := 41) dX0_takeOut_33 rfl (fun hc => ?_) (fun hc => ?_)
  · have h := x_f hc h
    refine x_aload_n dX0_takeOut_41 rfl 1 rfl ?_
    obtain ⟨z5, s5, h5, h⟩ := x_b_e h
    refine x_callV (As := []) (st := []) (eX2_isIdle hd1 hp1 h5) cv_X0_221 (Nat.le_of_ble_eq_true rfl) (ok_b (K := 13) (Nat.le_of_ble_eq_true rfl) (Nat.le_of_ble_eq_true rfl) hd1 hp1) rfl (Nat.le_of_ble_eq_true rfl) _ rfl dX0_takeOut_42 [.int z5] rfl ?_
    refine x_if_eq (tgt := 52) dX0_takeOut_45 rfl (fun hc => ?_) (fun hc => ?_)
    · have h := x_t hc h
      exact x_vretH rfl dX0_takeOut_52 h
    · have h := x_f hc h
      refine x_aload_n dX0_takeOut_48 rfl 1 rfl ?_
      obtain ⟨z6, s6, h6, h⟩ := x_b_e h
      refine x_callV (As := []) (st := []) (eX2_restartSending hd1 hp1 h6) cv_X0_225 (Nat.le_of_ble_eq_true rfl) (ok_b (K := 13) (Nat.le_of_ble_eq_true rfl) (Nat.le_of_ble_eq_true rfl) hd1 hp1) rfl (Nat.le_of_ble_eq_true rfl) _ rfl dX0_takeOut_49 [] rfl ?_
      exact x_vretH rfl dX0_takeOut_52 h
  · have h := x_t hc h
    refine x_aload_n dX0_takeOut_36 rfl 2 rfl ?_
    refine x_iconst (x := 0) dX0_takeOut_37 rfl ?_
    obtain ⟨s7, hs7, h⟩ := x_let_e h
    refine x_putI s7 hs7 fp_X0_218 (ok_c hd2 hp2 hr2) rfl dX0_takeOut_38 ?_
    refine x_aload_n dX0_takeOut_41 rfl 1 rfl ?_
    obtain ⟨z8, s8, h8, h⟩ := x_b_e h
    refine x_callV (As := []) (st := []) (eX2_isIdle hd1 hp1 h8) cv_X0_221 (Nat.le_of_ble_eq_true rfl) (ok_b (K := 13) (Nat.le_of_ble_eq_true rfl) (Nat.le_of_ble_eq_true rfl) hd1 hp1) rfl (Nat.le_of_ble_eq_true rfl) _ rfl dX0_takeOut_42 [.int z8] rfl ?_
    refine x_if_eq (tgt := 52) dX0_takeOut_45 rfl (fun hc => ?_) (fun hc => ?_)
    · have h := x_t hc h
      exact x_vretH rfl dX0_takeOut_52 h
    · have h := x_f hc h
      refine x_aload_n dX0_takeOut_48 rfl 1 rfl ?_
      obtain ⟨z9, s9, h9, h⟩ := x_b_e h
      refine x_callV (As := []) (st := []) (eX2_restartSending hd1 hp1 h9) cv_X0_225 (Nat.le_of_ble_eq_true rfl) (ok_b (K := 13) (Nat.le_of_ble_eq_true rfl) (Nat.le_of_ble_eq_true rfl) hd1 hp1) rfl (Nat.le_of_ble_eq_true rfl) _ rfl dX0_takeOut_49 [] rfl ?_
      exact x_vretH rfl dX0_takeOut_52 h
