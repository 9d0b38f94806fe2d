set_option maxRecDepth 100000 in
set_option maxHeartbeats 4000000 in
theorem eX3_startAnew {l : Launch} {w : xW} {d0 : Nat} {p0 : Nat} {r0 : Nat} (hd0 : d0 < 4) (hp0 : p0 < 6) (hr0 : r0 < 3) {σ τ : xS} {r : Unit} (h : fX3_startAnew d0 p0 r0 σ = some (r, τ)) : xEV l w yX3_startAnew mX3_startAnew [.ref (w.2.2 d0 16 p0 r0)] σ none τ := by
  rw [fX3_startAnew] at h
  refine x_enter (by decide +kernel) rfl (Nat.le_of_ble_eq_true rfl) ?_
  refine x_sub (L1 := [(0, .ref (w.2.2 d0 16 p0 r0))]) [0] rfl ?_
  refine x_aload_n dX3_startAnew_0 rfl 0 rfl ?_
  refine x_bipush (x := 8) dX3_startAnew_1 rfl ?_
  obtain ⟨s1, hs1, h⟩ := x_let_e h
  refine x_putI s1 hs1 fp_X3_15 (ok_c hd0 hp0 hr0) rfl dX3_startAnew_3 ?_
  refine x_aload_n dX3_startAnew_6 rfl 0 rfl ?_
  refine x_iconst (x := 0) dX3_startAnew_7 rfl ?_
  obtain ⟨s2, hs2, h⟩ := x_let_e h
  refine x_putI s2 hs2 fp_X3_18 (ok_c hd0 hp0 hr0) rfl dX3_startAnew_8 ?_
  refine x_aload_n dX3_startAnew_11 rfl 0 rfl ?_
  refine x_iconst (x := 0) dX3_startAnew_12 rfl ?_
  obtain ⟨s3, hs3, h⟩ := x_let_e h
  refine x_putI s3 hs3 fp_X3_21 (ok_c hd0 hp0 hr0) rfl dX3_startAnew_13 ?_
  refine x_aload_n dX3_startAnew_16 rfl 0 rfl ?_
  refine x_iconst (x := 0) dX3_startAnew_17 rfl ?_
  obtain ⟨s4, hs4, h⟩ := x_let_e h
  refine x_putI s4 hs4 fp_X3_24 (ok_c hd0 hp0 hr0) rfl dX3_startAnew_18 ?_
  refine x_aload_n dX3_startAnew_21 rfl 0 rfl ?_
  refine x_iconst (x := 4) dX3_startAnew_22 rfl ?_
  obtain ⟨s5, hs5, h⟩ := x_let_e h
  refine x_putI s5 hs5 fp_X3_27 (ok_c hd0 hp0 hr0) rfl dX3_startAnew_23 ?_
  refine x_aload_n dX3_startAnew_26 rfl 0 rfl ?_
  refine x_iconst (x := 0) dX3_startAnew_27 rfl ?_
  obtain ⟨s6, hs6, h⟩ := x_let_e h
  refine x_putI s6 hs6 fp_X3_30 (ok_c hd0 hp0 hr0) rfl dX3_startAnew_28 ?_
  refine x_aload_n dX3_startAnew_31 rfl 0 rfl ?_
  refine x_iconst (x := 0) dX3_startAnew_32 rfl ?_
  obtain ⟨s7, hs7, h⟩ := x_let_e h
  refine x_putZ s7 hs7 rfl fp_X3_33 (ok_c hd0 hp0 hr0) rfl dX3_startAnew_33 ?_
  refine x_aload_n dX3_startAnew_36 rfl 0 rfl ?_
  refine x_iconst (x := 0) dX3_startAnew_37 rfl ?_
  obtain ⟨s8, hs8, h⟩ := x_let_e h
  refine x_putZ s8 hs8 rfl fp_X3_37 (ok_c hd0 hp0 hr0) rfl dX3_startAnew_38 ?_
  refine x_aload_n dX3_startAnew_41 rfl 0 rfl ?_
  refine x_iconst (x := 0) dX3_startAnew_42 rfl ?_
  obtain ⟨s9, hs9, h⟩ := x_let_e h
  refine x_putI s9 hs9 fp_X3_40 (ok_c hd0 hp0 hr0) rfl dX3_startAnew_43 ?_
  refine x_aload_n dX3_startAnew_46 rfl 0 rfl ?_
  refine x_iconst (x := 0) dX3_startAnew_47 rfl ?_
  obtain ⟨s10, hs10, h⟩ := x_let_e h
  refine x_putI s10 hs10 fp_X3_43 (ok_c hd0 hp0 hr0) rfl dX3_startAnew_48 ?_
  refine x_aload_n dX3_startAnew_51 rfl 0 rfl ?_
  refine x_iconst (x := 0) dX3_startAnew_52 rfl ?_
  obtain ⟨s11, hs11, h⟩ := x_let_e h
  refine x_putI s11 hs11 fp_X3_46 (ok_c hd0 hp0 hr0) rfl dX3_startAnew_53 ?_
  refine x_aload_n dX3_startAnew_56 rfl 0 rfl ?_
  refine x_iconst (x := 0) dX3_startAnew_57 rfl ?_
  obtain ⟨s12, hs12, h⟩ := x_let_e h
  refine x_putI s12 hs12 fp_X3_49 (ok_c hd0 hp0 hr0) rfl dX3_startAnew_58 ?_
  refine x_aload_n dX3_startAnew_61 rfl 0 rfl ?_
  refine x_iconst (x := (-1)) dX3_startAnew_62 (by decide) ?_
  obtain ⟨s13, hs13, h⟩ := x_let_e h
  refine x_putI s13 hs13 fp_X3_52 (ok_c hd0 hp0 hr0) rfl dX3_startAnew_63 ?_
  refine x_aload_n dX3_startAnew_66 rfl 0 rfl ?_
  refine x_iconst (x := (-1)) dX3_startAnew_67 (by decide) ?_
  obtain ⟨s14, hs14, h⟩ := x_let_e h
  refine x_putI s14 hs14 fp_X3_55 (ok_c hd0 hp0 hr0) rfl dX3_startAnew_68 ?_
  refine x_aload_n dX3_startAnew_71 rfl 0 rfl ?_
  refine x_iconst (x := 0) dX3_startAnew_72 rfl ?_
  obtain ⟨s15, hs15, h⟩ := x_let_e h
  refine x_putI s15 hs15 fp_X3_58 (ok_c hd0 hp0 hr0) rfl dX3_startAnew_73 ?_
  exact x_vretH rfl dX3_startAnew_76 h
set_option maxRecDepth 100000 in
set_option maxHeartbeats 4000000 in
theorem eX3_copyFrom {l : Launch} {w : xW} {d0 : Nat} {p0 : Nat} {r0 : Nat} {d1 : Nat} {p1 : Nat} {r1 : Nat} (hd0 : d0 < 4) (hp0 : p0 < 6) (hr0 : r0 < 3) (hd1 : d1 < 4) (hp1 : p1 < 6) (hr1 : r1 < 3) {σ τ : xS} {r : Unit} (h : fX3_copyFrom d0 p0 r0 d1 p1 r1 σ = some (r, τ)) : xEV l w yX3_copyFrom mX3_copyFrom [.ref (w.2.2 d0 16 p0 r0), .ref (w.2.2 d1 16 p1 r1)] σ none τ := by
  rw [fX3_copyFrom] at h
  refine x_enter (by decide +kernel) rfl (Nat.le_of_ble_eq_true rfl) ?_
  refine x_sub (L1 := [(0, .ref (w.2.2 d0 16 p0 r0)), (1, .ref (w.2.2 d1 16 p1 r1))]) [0, 1] rfl ?_
  refine x_aload_n dX3_copyFrom_0 rfl 0 rfl ?_
  refine x_aload_n dX3_copyFrom_1 rfl 1 rfl ?_
  refine x_getI fl_X3_15 (ok_c hd1 hp1 hr1) rfl dX3_copyFrom_2 ?_
  obtain ⟨s1, hs1, h⟩ := x_let_e h
  refine x_putI s1 hs1 fp_X3_15 (ok_c hd0 hp0 hr0) rfl dX3_copyFrom_5 ?_
  refine x_aload_n dX3_copyFrom_8 rfl 0 rfl ?_
  refine x_aload_n dX3_copyFrom_9 rfl 1 rfl ?_
  refine x_getI fl_X3_18 (ok_c hd1 hp1 hr1) rfl dX3_copyFrom_10 ?_
  obtain ⟨s2, hs2, h⟩ := x_let_e h
  refine x_putI s2 hs2 fp_X3_18 (ok_c hd0 hp0 hr0) rfl dX3_copyFrom_13 ?_
  refine x_aload_n dX3_copyFrom_16 rfl 0 rfl ?_
  refine x_aload_n dX3_copyFrom_17 rfl 1 rfl ?_
  refine x_getI fl_X3_21 (ok_c hd1 hp1 hr1) rfl dX3_copyFrom_18 ?_
  obtain ⟨s3, hs3, h⟩ := x_let_e h
  refine x_putI s3 hs3 fp_X3_21 (ok_c hd0 hp0 hr0) rfl dX3_copyFrom_21 ?_
  refine x_aload_n dX3_copyFrom_24 rfl 0 rfl ?_
  refine x_aload_n dX3_copyFrom_25 rfl 1 rfl ?_
  refine x_getI fl_X3_24 (ok_c hd1 hp1 hr1) rfl dX3_copyFrom_26 ?_
  obtain ⟨s4, hs4, h⟩ := x_let_e h
  refine x_putI s4 hs4 fp_X3_24 (ok_c hd0 hp0 hr0) rfl dX3_copyFrom_29 ?_
  refine x_aload_n dX3_copyFrom_32 rfl 0 rfl ?_
  refine x_aload_n dX3_copyFrom_33 rfl 1 rfl ?_
  refine x_getI fl_X3_27 (ok_c hd1 hp1 hr1) rfl dX3_copyFrom_34 ?_
  obtain ⟨s5, hs5, h⟩ := x_let_e h
  refine x_putI s5 hs5 fp_X3_27 (ok_c hd0 hp0 hr0) rfl dX3_copyFrom_37 ?_
  refine x_aload_n dX3_copyFrom_40 rfl 0 rfl ?_
  refine x_aload_n dX3_copyFrom_41 rfl 1 rfl ?_
  refine x_getI fl_X3_30 (ok_c hd1 hp1 hr1) rfl dX3_copyFrom_42 ?_
  obtain ⟨s6, hs6, h⟩ := x_let_e h
  refine x_putI s6 hs6 fp_X3_30 (ok_c hd0 hp0 hr0) rfl dX3_copyFrom_45 ?_
  refine x_aload_n dX3_copyFrom_48 rfl 0 rfl ?_
  refine x_aload_n dX3_copyFrom_49 rfl 1 rfl ?_
  refine x_getI fl_X3_33 (ok_c hd1 hp1 hr1) rfl dX3_copyFrom_50 ?_
  obtain ⟨hg8, h⟩ := x_g_e h
  obtain ⟨s7, hs7, h⟩ := x_let_e h
  refine x_putZ s7 hs7 hg8 fp_X3_33 (ok_c hd0 hp0 hr0) rfl dX3_copyFrom_53 ?_
  refine x_aload_n dX3_copyFrom_56 rfl 0 rfl ?_
  refine x_aload_n dX3_copyFrom_57 rfl 1 rfl ?_
  refine x_getI fl_X3_37 (ok_c hd1 hp1 hr1) rfl dX3_copyFrom_58 ?_
  obtain ⟨hg10, h⟩ := x_g_e h
  obtain ⟨s9, hs9, h⟩ := x_let_e h
  refine x_putZ s9 hs9 hg10 fp_X3_37 (ok_c hd0 hp0 hr0) rfl dX3_copyFrom_61 ?_
  refine x_aload_n dX3_copyFrom_64 rfl 0 rfl ?_
  refine x_aload_n dX3_copyFrom_65 rfl 1 rfl ?_
  refine x_getI fl_X3_40 (ok_c hd1 hp1 hr1) rfl dX3_copyFrom_66 ?_
  obtain ⟨s11, hs11, h⟩ := x_let_e h
  refine x_putI s11 hs11 fp_X3_40 (ok_c hd0 hp0 hr0) rfl dX3_copyFrom_69 ?_
  refine x_aload_n dX3_copyFrom_72 rfl 0 rfl ?_
  refine x_aload_n dX3_copyFrom_73 rfl 1 rfl ?_
  refine x_getI fl_X3_43 (ok_c hd1 hp1 hr1) rfl dX3_copyFrom_74 ?_
  obtain ⟨s12, hs12, h⟩ := x_let_e h
  refine x_putI s12 hs12 fp_X3_43 (ok_c hd0 hp0 hr0) rfl dX3_copyFrom_77 ?_
  refine x_aload_n dX3_copyFrom_80 rfl 0 rfl ?_
  refine x_aload_n dX3_copyFrom_81 rfl 1 rfl ?_
  refine x_getI fl_X3_46 (ok_c hd1 hp1 hr1) rfl dX3_copyFrom_82 ?_
  obtain ⟨s13, hs13, h⟩ := x_let_e h
  refine x_putI s13 hs13 fp_X3_46 (ok_c hd0 hp0 hr0) rfl dX3_copyFrom_85 ?_
  refine x_aload_n dX3_copyFrom_88 rfl 0 rfl ?_
  refine x_aload_n dX3_copyFrom_89 rfl 1 rfl ?_
  refine x_getI fl_X3_49 (ok_c hd1 hp1 hr1) rfl dX3_copyFrom_90 ?_
  obtain ⟨s14, hs14, h⟩ := x_let_e h
  refine x_putI s14 hs14 fp_X3_49 (ok_c hd0 hp0 hr0) rfl dX3_copyFrom_93 ?_
  refine x_aload_n dX3_copyFrom_96 rfl 0 rfl ?_
  refine x_aload_n dX3_copyFrom_97 rfl 1 rfl ?_
  refine x_getI fl_X3_52 (ok_c hd1 hp1 hr1) rfl dX3_copyFrom_98 ?_
  obtain ⟨s15, hs15, h⟩ := x_let_e h
  refine x_putI s15 hs15 fp_X3_52 (ok_c hd0 hp0 hr0) rfl dX3_copyFrom_101 ?_
  refine x_aload_n dX3_copyFrom_104 rfl 0 rfl ?_
  refine x_aload_n dX3_copyFrom_105 rfl 1 rfl ?_
  refine x_getI fl_X3_55 (ok_c hd1 hp1 hr1) rfl dX3_copyFrom_106 ?_
  obtain ⟨s16, hs16, h⟩ := x_let_e h
  refine x_putI s16 hs16 fp_X3_55 (ok_c hd0 hp0 hr0) rfl dX3_copyFrom_109 ?_
  refine x_aload_n dX3_copyFrom_112 rfl 0 rfl ?_
  refine x_aload_n dX3_copyFrom_113 rfl 1 rfl ?_
  refine x_getI fl_X3_58 (ok_c hd1 hp1 hr1) rfl dX3_copyFrom_114 ?_
  obtain ⟨s17, hs17, h⟩ := x_let_e h
  refine x_putI s17 hs17 fp_X3_58 (ok_c hd0 hp0 hr0) rfl dX3_copyFrom_117 ?_
  exact x_vretH rfl dX3_copyFrom_120 h
set_option maxRecDepth 100000 in
set_option maxHeartbeats 4000000 in
theorem eX3_limitWith {l : Launch} {w : xW} {d0 : Nat} {p0 : Nat} {r0 : Nat} {a1 : Int32} (hd0 : d0 < 4) (hp0 : p0 < 6) (hr0 : r0 < 3) {σ τ : xS} {r : Int32} (h : fX3_limitWith d0 p0 r0 a1 σ = some (r, τ)) : xEV l w yX3_limitWith mX3_limitWith [.ref (w.2.2 d0 16 p0 r0), .int a1] σ (some (.int r)) τ := by
  rw [fX3_limitWith] at h
  refine x_enter (by decide +kernel) rfl (Nat.le_of_ble_eq_true rfl) ?_
  refine x_sub (L1 := [(0, .ref (w.2.2 d0 16 p0 r0)), (1, .int a1)]) [0, 1] rfl ?_
  refine x_aload_n dX3_limitWith_0 rfl 0 rfl ?_
  refine x_getI fl_X3_15 (ok_c hd0 hp0 hr0) rfl dX3_limitWith_1 ?_
  refine x_iload_n dX3_limitWith_4 rfl 1 rfl ?_
  refine x_imul dX3_limitWith_5 ?_
  refine x_bipush (x := 8) dX3_limitWith_6 rfl ?_
  refine x_idiv dX3_limitWith_8 (by decide) ?_
  exact x_iretH rfl dX3_limitWith_9 h
set_option maxRecDepth 100000 in
set_option maxHeartbeats 4000000 in
theorem eX3_poolRefusal {l : Launch} {w : xW} {d0 : Nat} {p0 : Nat} {r0 : Nat} {a1 : Int32} {a2 : Int32} (hd0 : d0 < 4) (hp0 : p0 < 6) (hr0 : r0 < 3) {σ τ : xS} {r : Int32} (h : fX3_poolRefusal d0 p0 r0 a1 a2 σ = some (r, τ)) : xEV l w yX3_poolRefusal mX3_poolRefusal [.ref (w.2.2 d0 16 p0 r0), .int a1, .int a2] σ (some (.int r)) τ := by
  rw [fX3_poolRefusal] at h
  refine x_enter (by decide +kernel) rfl (Nat.le_of_ble_eq_true rfl) ?_
  refine x_sub (L1 := [(0, .ref (w.2.2 d0 16 p0 r0)), (1, .int a1), (2, .int a2)]) [0, 1, 2] rfl ?_
  refine x_iload_n dX3_poolRefusal_0 rfl 1 rfl ?_
  refine x_iload_n dX3_poolRefusal_1 rfl 2 rfl ?_
  refine x_icmp_le (tgt := 7) dX3_poolRefusal_2 rfl (fun hc => ?_) (fun hc => ?_)
  · have h := x_t hc h
    refine x_aload_n dX3_poolRefusal_7 rfl 0 rfl ?_
    refine x_getI fl_X3_46 (ok_c hd0 hp0 hr0) rfl dX3_poolRefusal_8 ?_
    refine x_iload_n dX3_poolRefusal_11 rfl 1 rfl ?_
    refine x_iadd dX3_poolRefusal_12 ?_
    refine x_aload_n dX3_poolRefusal_13 rfl 0 rfl ?_
    refine x_iload_n dX3_poolRefusal_14 rfl 2 rfl ?_
    obtain ⟨z1, s1, h1, h⟩ := x_b_e h
    refine x_callV (As := [.int a2]) (st := [.int ((σ d0 16 p0 r0 11) + a1)]) (eX3_limitWith hd0 hp0 hr0 h1) cv_X3_61 (Nat.le_of_ble_eq_true rfl) (ok_c hd0 hp0 hr0) rfl (Nat.le_of_ble_eq_true rfl) _ rfl dX3_poolRefusal_15 [.int z1, .int ((σ d0 16 p0 r0 11) + a1)] rfl ?_
    refine x_isub dX3_poolRefusal_18 ?_
    refine x_aload_n dX3_poolRefusal_19 rfl 0 rfl ?_
    refine x_getI fl_X3_24 (ok_c hd0 hp0 hr0) rfl dX3_poolRefusal_20 ?_
    refine x_icmp_gt (tgt := 30) dX3_poolRefusal_23 rfl (fun hc => ?_) (fun hc => ?_)
    · have h := x_t hc h
      refine x_iconst (x := 3) dX3_poolRefusal_30 rfl ?_
      exact x_iretH rfl dX3_poolRefusal_31 h
    · have h := x_f hc h
      refine x_iconst (x := 0) dX3_poolRefusal_26 rfl ?_
      refine x_goto (tgt := 31) dX3_poolRefusal_27 rfl ?_
      exact x_iretH rfl dX3_poolRefusal_31 h
  · have h := x_f hc h
    refine x_iconst (x := 2) dX3_poolRefusal_5 rfl ?_
    exact x_iretH rfl dX3_poolRefusal_6 h
set_option maxRecDepth 100000 in
set_option maxHeartbeats 4000000 in
theorem eX3_addShared {l : Launch} {w : xW} {d0 : Nat} {p0 : Nat} {r0 : Nat} {a1 : Int32} {a2 : Int32} (hd0 : d0 < 4) (hp0 : p0 < 6) (hr0 : r0 < 3) {σ τ : xS} {r : Unit} (h : fX3_addShared d0 p0 r0 a1 a2 σ = some (r, τ)) : xEV l w yX3_addShared mX3_addShared [.ref (w.2.2 d0 16 p0 r0), .int a1, .int a2] σ none τ := by
  rw [fX3_addShared] at h
  refine x_enter (by decide +kernel) rfl (Nat.le_of_ble_eq_true rfl) ?_
  refine x_sub (L1 := [(0, .ref (w.2.2 d0 16 p0 r0)), (1, .int a1), (2, .int a2)]) [0, 1, 2] rfl ?_
  refine x_aload_n dX3_addShared_0 rfl 0 rfl ?_
  refine x_dup dX3_addShared_1 rfl ?_
  refine x_getI fl_X3_24 (ok_c hd0 hp0 hr0) rfl dX3_addShared_2 ?_
  refine x_iconst (x := 0) dX3_addShared_5 rfl ?_
  refine x_aload_n dX3_addShared_6 rfl 0 rfl ?_
  refine x_getI fl_X3_46 (ok_c hd0 hp0 hr0) rfl dX3_addShared_7 ?_
  refine x_iload_n dX3_addShared_10 rfl 1 rfl ?_
  refine x_iadd dX3_addShared_11 ?_
  refine x_aload_n dX3_addShared_12 rfl 0 rfl ?_
  refine x_iload_n dX3_addShared_13 rfl 2 rfl ?_
  obtain ⟨z1, s1, h1, h⟩ := x_b_e h
  refine x_callV (As := [.int a2]) (st := [.int ((σ d0 16 p0 r0 11) + a1), .int 0, .int (σ d0 16 p0 r0 4), .ref (w.2.2 d0 16 p0 r0)]) (eX3_limitWith hd0 hp0 hr0 h1) cv_X3_61 (Nat.le_of_ble_eq_true rfl) (ok_c hd0 hp0 hr0) rfl (Nat.le_of_ble_eq_true rfl) _ rfl dX3_addShared_14 [.int z1, .int ((σ d0 16 p0 r0 11) + a1), .int 0, .int (σ d0 16 p0 r0 4), .ref (w.2.2 d0 16 p0 r0)] rfl ?_
  refine x_isub dX3_addShared_17 ?_
  refine x_max lk_X3_65 w_max (Nat.le_of_ble_eq_true rfl) (Nat.le_of_ble_eq_true rfl) dX3_addShared_18 ?_
  refine x_isub dX3_addShared_21 ?_
  obtain ⟨s2, hs2, h⟩ := x_let_e h
  refine x_putI s2 hs2 fp_X3_24 (ok_c hd0 hp0 hr0) rfl dX3_addShared_22 ?_
  refine x_aload_n dX3_addShared_25 rfl 0 rfl ?_
  refine x_dup dX3_addShared_26 rfl ?_
  refine x_getI fl_X3_46 (ok_c hd0 hp0 hr0) rfl dX3_addShared_27 ?_
  refine x_iload_n dX3_addShared_30 rfl 1 rfl ?_
  refine x_iadd dX3_addShared_31 ?_
  obtain ⟨s3, hs3, h⟩ := x_let_e h
  refine x_putI s3 hs3 fp_X3_46 (ok_c hd0 hp0 hr0) rfl dX3_addShared_32 ?_
  exact x_vretH rfl dX3_addShared_35 h
set_option maxRecDepth 100000 in
set_option maxHeartbeats 4000000 in
theorem eX3_pause {l : Launch} {w : xW} {d0 : Nat} {p0 : Nat} {r0 : Nat} (hd0 : d0 < 4) (hp0 : p0 < 6) (hr0 : r0 < 3) {σ τ : xS} {r : Unit} (h : fX3_pause d0 p0 r0 σ = some (r, τ)) : xEV l w yX3_pause mX3_pause [.ref (w.2.2 d0 16 p0 r0)] σ none τ := by
  rw [fX3_pause] at h
  refine x_enter (by decide +kernel) rfl (Nat.le_of_ble_eq_true rfl) ?_
  refine x_sub (L1 := [(0, .ref (w.2.2 d0 16 p0 r0))]) [0] rfl ?_
  refine x_aload_n dX3_pause_0 rfl 0 rfl ?_
  refine x_getI fl_X3_37 (ok_c hd0 hp0 hr0) rfl dX3_pause_1 ?_
  refine x_if_ne (tgt := 22) dX3_pause_4 rfl (fun hc => ?_) (fun hc => ?_)
  · have h := x_f hc h
    exact x_vretH rfl dX3_pause_22 h
  · have h := x_t hc h
    refine x_aload_n dX3_pause_7 rfl 0 rfl ?_
    refine x_iconst (x := 1) dX3_pause_8 rfl ?_
    obtain ⟨s1, hs1, h⟩ := x_let_e h
    refine x_putZ s1 hs1 rfl fp_X3_37 (ok_c hd0 hp0 hr0) rfl dX3_pause_9 ?_
    refine x_aload_n dX3_pause_12 rfl 0 rfl ?_
    refine x_dup dX3_pause_13 rfl ?_
    refine x_getI fl_X3_40 (ok_c hd0 hp0 hr0) rfl dX3_pause_14 ?_
    refine x_iconst (x := 1) dX3_pause_17 rfl ?_
    refine x_iadd dX3_pause_18 ?_
    obtain ⟨s2, hs2, h⟩ := x_let_e h
    refine x_putI s2 hs2 fp_X3_40 (ok_c hd0 hp0 hr0) rfl dX3_pause_19 ?_
    exact x_vretH rfl dX3_pause_22 h
set_option maxRecDepth 100000 in
set_option maxHeartbeats 4000000 in
theorem eX3_giveBack {l : Launch} {w : xW} {d0 : Nat} {p0 : Nat} {r0 : Nat} {a1 : Int32} (hd0 : d0 < 4) (hp0 : p0 < 6) (hr0 : r0 < 3) {σ τ : xS} {r : Unit} (h : fX3_giveBack d0 p0 r0 a1 σ = some (r, τ)) : xEV l w yX3_giveBack mX3_giveBack [.ref (w.2.2 d0 16 p0 r0), .int a1] σ none τ := by
  rw [fX3_giveBack] at h
  refine x_enter (by decide +kernel) rfl (Nat.le_of_ble_eq_true rfl) ?_
  refine x_sub (L1 := [(0, .ref (w.2.2 d0 16 p0 r0)), (1, .int a1)]) [0, 1] rfl ?_
  refine x_iload_n dX3_giveBack_0 rfl 1 rfl ?_
  refine x_istore_n a1 rfl dX3_giveBack_1 rfl (Nat.le_of_ble_eq_true rfl) [(2, .int a1), (0, .ref (w.2.2 d0 16 p0 r0)), (1, .int a1)] rfl ?_
  refine x_iload_n dX3_giveBack_2 rfl 0 rfl ?_
  refine x_aload_n dX3_giveBack_3 rfl 1 rfl ?_
  refine x_getI fl_X3_49 (ok_c hd0 hp0 hr0) rfl dX3_giveBack_4 ?_
  refine x_min lk_X3_71 w_min (Nat.le_of_ble_eq_true rfl) (Nat.le_of_ble_eq_true rfl) dX3_giveBack_7 ?_
  obtain ⟨t1, ht1, h⟩ := x_let_e h
  refine x_istore_n t1 ht1 dX3_giveBack_10 rfl (Nat.le_of_ble_eq_true rfl) [(3, .int t1), (2, .int a1), (0, .ref (w.2.2 d0 16 p0 r0)), (1, .int a1)] rfl ?_
  refine x_aload_n dX3_giveBack_11 rfl 2 rfl ?_
  refine x_dup dX3_giveBack_12 rfl ?_
  refine x_getI fl_X3_49 (ok_c hd0 hp0 hr0) rfl dX3_giveBack_13 ?_
  refine x_iload_n dX3_giveBack_16 rfl 0 rfl ?_
  refine x_isub dX3_giveBack_17 ?_
  obtain ⟨s2, hs2, h⟩ := x_let_e h
  refine x_putI s2 hs2 fp_X3_49 (ok_c hd0 hp0 hr0) rfl dX3_giveBack_18 ?_
  refine x_iload_n dX3_giveBack_21 rfl 1 rfl ?_
  refine x_iload_n dX3_giveBack_22 rfl 0 rfl ?_
  refine x_isub dX3_giveBack_23 ?_
  obtain ⟨t3, ht3, h⟩ := x_let_e h
  refine x_istore_n t3 ht3 dX3_giveBack_24 rfl (Nat.le_of_ble_eq_true rfl) [(2, .int t3), (3, .int t1), (0, .ref (w.2.2 d0 16 p0 r0)), (1, .int a1)] rfl ?_
  refine x_iload_n dX3_giveBack_25 rfl 0 rfl ?_
  refine x_aload_n dX3_giveBack_26 rfl 2 rfl ?_
  refine x_getI fl_X3_46 (ok_c hd0 hp0 hr0) rfl dX3_giveBack_27 ?_
  refine x_min lk_X3_71 w_min (Nat.le_of_ble_eq_true rfl) (Nat.le_of_ble_eq_true rfl) dX3_giveBack_30 ?_
  obtain ⟨t4, ht4, h⟩ := x_let_e h
  refine x_istore_n t4 ht4 dX3_giveBack_33 rfl (Nat.le_of_ble_eq_true rfl) [(3, .int t4), (2, .int t3), (0, .ref (w.2.2 d0 16 p0 r0)), (1, .int a1)] rfl ?_
  refine x_aload_n dX3_giveBack_34 rfl 2 rfl ?_
  refine x_dup dX3_giveBack_35 rfl ?_
  refine x_getI fl_X3_46 (ok_c hd0 hp0 hr0) rfl dX3_giveBack_36 ?_
  refine x_iload_n dX3_giveBack_39 rfl 0 rfl ?_
  refine x_isub dX3_giveBack_40 ?_
  obtain ⟨s5, hs5, h⟩ := x_let_e h
  refine x_putI s5 hs5 fp_X3_46 (ok_c hd0 hp0 hr0) rfl dX3_giveBack_41 ?_
  refine x_iload_n dX3_giveBack_44 rfl 1 rfl ?_
  refine x_iload_n dX3_giveBack_45 rfl 0 rfl ?_
  refine x_isub dX3_giveBack_46 ?_
  obtain ⟨t6, ht6, h⟩ := x_let_e h
  refine x_istore_n t6 ht6 dX3_giveBack_47 rfl (Nat.le_of_ble_eq_true rfl) [(2, .int t6), (3, .int t4), (0, .ref (w.2.2 d0 16 p0 r0)), (1, .int a1)] rfl ?_
  refine x_aload_n dX3_giveBack_48 rfl 2 rfl ?_
  refine x_dup dX3_giveBack_49 rfl ?_
  refine x_getI fl_X3_43 (ok_c hd0 hp0 hr0) rfl dX3_giveBack_50 ?_
  refine x_iload_n dX3_giveBack_53 rfl 0 rfl ?_
  refine x_isub dX3_giveBack_54 ?_
  obtain ⟨s7, hs7, h⟩ := x_let_e h
  refine x_putI s7 hs7 fp_X3_43 (ok_c hd0 hp0 hr0) rfl dX3_giveBack_55 ?_
  exact x_vretH rfl dX3_giveBack_58 h
