set_option maxRecDepth 100000 in
set_option maxHeartbeats 4000000 in
theorem eX5_isOutside {l : Launch} {w : xW} {a0 : Int32} {a1 : Int32} {a2 : Int32} {σ τ : xS} {r : Int32} (h : fX5_isOutside a0 a1 a2 σ = some (r, τ)) : xEV l w yX5_isOutside mX5_isOutside [.int a0, .int a1, .int a2] σ (some (.int r)) τ := by
  rw [fX5_isOutside] at h
  refine x_enter (by decide +kernel) rfl (Nat.le_of_ble_eq_true rfl) ?_
  refine x_sub (L1 := [(0, .int a0), (1, .int a1), (2, .int a2)]) [0, 1, 2] rfl ?_
  refine x_iload_n dX5_isOutside_0 rfl 0 rfl ?_
  refine x_iload_n dX5_isOutside_1 rfl 1 rfl ?_
  refine x_icmp_lt (tgt := 10) dX5_isOutside_2 rfl (fun hc => ?_) (fun hc => ?_)
  · have h := x_t hc h
    refine x_iconst (x := 1) dX5_isOutside_10 rfl ?_
    refine x_goto (tgt := 15) dX5_isOutside_11 rfl ?_
    exact x_zretH rfl rfl dX5_isOutside_15 h
  · have h := x_f hc h
    refine x_iload_n dX5_isOutside_5 rfl 0 rfl ?_
    refine x_iload_n dX5_isOutside_6 rfl 2 rfl ?_
    refine x_icmp_le (tgt := 14) dX5_isOutside_7 rfl (fun hc => ?_) (fun hc => ?_)
    · have h := x_t hc h
      refine x_iconst (x := 0) dX5_isOutside_14 rfl ?_
      exact x_zretH rfl rfl dX5_isOutside_15 h
    · have h := x_f hc h
      refine x_iconst (x := 1) dX5_isOutside_10 rfl ?_
      refine x_goto (tgt := 15) dX5_isOutside_11 rfl ?_
      exact x_zretH rfl rfl dX5_isOutside_15 h
set_option maxRecDepth 100000 in
set_option maxHeartbeats 4000000 in
theorem eX5_reset {l : Launch} {w : xW} {a1 : Int32} {a2 : Int32} {σ τ : xS} {r : Int32} (h : fX5_reset a1 a2 σ = some (r, τ)) : xEV l w yX5_reset mX5_reset [.ref (w.2.2 4 20 0 0), .int a1, .int a2] σ (some (.int r)) τ := by
  rw [fX5_reset] at h
  refine x_enter (by decide +kernel) rfl (Nat.le_of_ble_eq_true rfl) ?_
  refine x_sub (L1 := [(0, .ref (w.2.2 4 20 0 0)), (1, .int a1), (2, .int a2)]) [0, 1, 2] rfl ?_
  refine x_iload_n dX5_reset_0 rfl 1 rfl ?_
  refine x_bipush (x := 16) dX5_reset_1 rfl ?_
  refine x_sipush (x := 128) dX5_reset_3 rfl ?_
  obtain ⟨z1, s1, h1, h⟩ := x_b_e h
  refine x_callS (As := [.int a1, .int 16, .int 128]) (st := []) (eX5_isOutside  h1) cs_X5_38 (Nat.le_of_ble_eq_true rfl) rfl (Nat.le_of_ble_eq_true rfl) _ rfl dX5_reset_6 [.int z1] rfl ?_
  refine x_if_ne (tgt := 22) dX5_reset_9 rfl (fun hc => ?_) (fun hc => ?_)
  · have h := x_f hc h
    refine x_bipush (x := (-2)) dX5_reset_22 (by decide) ?_
    exact x_iretH rfl dX5_reset_24 h
  · have h := x_t hc h
    refine x_iload_n dX5_reset_12 rfl 2 rfl ?_
    refine x_iconst (x := 1) dX5_reset_13 rfl ?_
    refine x_bipush (x := 6) dX5_reset_14 rfl ?_
    obtain ⟨z2, s2, h2, h⟩ := x_b_e h
    refine x_callS (As := [.int a2, .int 1, .int 6]) (st := []) (eX5_isOutside  h2) cs_X5_38 (Nat.le_of_ble_eq_true rfl) rfl (Nat.le_of_ble_eq_true rfl) _ rfl dX5_reset_16 [.int z2] rfl ?_
    refine x_if_eq (tgt := 25) dX5_reset_19 rfl (fun hc => ?_) (fun hc => ?_)
    · have h := x_t hc h
      refine x_aload_n dX5_reset_25 rfl 0 rfl ?_
      refine x_getR (d1 := 0) (K1 := 0) (p1 := 0) (r1 := 0) fl_X5_10 ok_e20 rfl dX5_reset_26 ?_
      refine x_getR (d1 := 0) (K1 := 1) (p1 := 0) (r1 := 0) fl_X5_42 (ok_a (K := 0) (Nat.le_of_ble_eq_true rfl) (Nat.le_of_ble_eq_true rfl)) rfl dX5_reset_29 ?_
      refine x_getI fl_X5_46 (ok_a (K := 1) (Nat.le_of_ble_eq_true rfl) (Nat.le_of_ble_eq_true rfl)) rfl dX5_reset_32 ?_
      obtain ⟨t3, ht3, h⟩ := x_let_e h
      refine x_istore_n t3 ht3 dX5_reset_35 rfl (Nat.le_of_ble_eq_true rfl) [(3, .int t3), (0, .ref (w.2.2 4 20 0 0)), (1, .int a1), (2, .int a2)] rfl ?_
      refine x_aload_n dX5_reset_36 rfl 1 rfl ?_
      refine x_getR (d1 := 0) (K1 := 0) (p1 := 0) (r1 := 0) fl_X5_10 ok_e20 rfl dX5_reset_37 ?_
      refine x_iload_n dX5_reset_40 rfl 2 rfl ?_
      refine x_iload_n dX5_reset_41 rfl 3 rfl ?_
      obtain ⟨z4, s4, h4, h⟩ := x_b_e h
      refine x_callV (As := [.int a1, .int a2]) (st := []) (eX0_startAnew (Nat.le_of_ble_eq_true rfl) h4) cv_X5_34 (Nat.le_of_ble_eq_true rfl) (ok_a (K := 0) (Nat.le_of_ble_eq_true rfl) (Nat.le_of_ble_eq_true rfl)) rfl (Nat.le_of_ble_eq_true rfl) _ rfl dX5_reset_42 [] rfl ?_
      refine x_iload_n dX5_reset_45 rfl 0 rfl ?_
      exact x_iretH rfl dX5_reset_46 h
    · have h := x_f hc h
      refine x_bipush (x := (-2)) dX5_reset_22 (by decide) ?_
      exact x_iretH rfl dX5_reset_24 h
set_option maxRecDepth 100000 in
set_option maxHeartbeats 4000000 in
theorem eX5_setReserve {l : Launch} {w : xW} {a1 : Int32} {a2 : Int32} {σ τ : xS} {r : Int32} (h : fX5_setReserve a1 a2 σ = some (r, τ)) : xEV l w yX5_setReserve mX5_setReserve [.ref (w.2.2 4 20 0 0), .int a1, .int a2] σ (some (.int r)) τ := by
  rw [fX5_setReserve] at h
  refine x_enter (by decide +kernel) rfl (Nat.le_of_ble_eq_true rfl) ?_
  refine x_sub (L1 := [(0, .ref (w.2.2 4 20 0 0)), (1, .int a1), (2, .int a2)]) [0, 1, 2] rfl ?_
  refine x_aload_n dX5_setReserve_0 rfl 0 rfl ?_
  refine x_getR (d1 := 0) (K1 := 0) (p1 := 0) (r1 := 0) fl_X5_10 ok_e20 rfl dX5_setReserve_1 ?_
  refine x_iload_n dX5_setReserve_4 rfl 1 rfl ?_
  obtain ⟨z1, s1, h1, h⟩ := x_b_e h
  refine x_callV (As := [.int a1]) (st := []) (eX0_portAt (Nat.le_of_ble_eq_true rfl) h1) cv_X5_52 (Nat.le_of_ble_eq_true rfl) (ok_a (K := 0) (Nat.le_of_ble_eq_true rfl) (Nat.le_of_ble_eq_true rfl)) rfl (Nat.le_of_ble_eq_true rfl) _ rfl dX5_setReserve_5 [x_nvP w z1] rfl ?_
  rcases z1 with _ | t1
  · refine x_st [.null] rfl ?_
    refine x_astore_nN dX5_setReserve_8 rfl (Nat.le_of_ble_eq_true rfl) [(3, .null), (0, .ref (w.2.2 4 20 0 0)), (1, .int a1), (2, .int a2)] rfl ?_
    refine x_aload_nN dX5_setReserve_9 rfl 0 rfl ?_
    refine x_ifnonnullN dX5_setReserve_10 ?_
    refine x_iconst (x := (-1)) dX5_setReserve_13 (by decide) ?_
    exact x_iretH rfl dX5_setReserve_14 h
  · obtain ⟨hg1, h⟩ := x_g_e h
    refine x_st [.ref (w.2.2 t1.1 13 t1.2 0)] rfl ?_
    refine x_astore_n dX5_setReserve_8 rfl (Nat.le_of_ble_eq_true rfl) [(3, .ref (w.2.2 t1.1 13 t1.2 0)), (0, .ref (w.2.2 4 20 0 0)), (1, .int a1), (2, .int a2)] rfl ?_
    refine x_aload_n dX5_setReserve_9 rfl 0 rfl ?_
    refine x_ifnonnullR (tgt := 15) dX5_setReserve_10 rfl ?_
    refine x_iload_n dX5_setReserve_15 rfl 3 rfl ?_
    refine x_iconst (x := 0) dX5_setReserve_16 rfl ?_
    refine x_bipush (x := 64) dX5_setReserve_17 rfl ?_
    obtain ⟨z2, s2, h2, h⟩ := x_b_e h
    refine x_callS (As := [.int a2, .int 0, .int 64]) (st := []) (eX5_isOutside  h2) cs_X5_38 (Nat.le_of_ble_eq_true rfl) rfl (Nat.le_of_ble_eq_true rfl) _ rfl dX5_setReserve_19 [.int z2] rfl ?_
    refine x_if_eq (tgt := 28) dX5_setReserve_22 rfl (fun hc => ?_) (fun hc => ?_)
    · have h := x_t hc h
      refine x_aload_n dX5_setReserve_28 rfl 0 rfl ?_
      refine x_getI fl_X5_56 (ok_b (K := 13) (Nat.le_of_ble_eq_true rfl) (Nat.le_of_ble_eq_true rfl) (ok2_d hg1) (ok2_p hg1)) rfl dX5_setReserve_29 ?_
      obtain ⟨t3, ht3, h⟩ := x_let_e h
      refine x_istore t3 ht3 dX5_setReserve_32 (Nat.le_of_ble_eq_true rfl) [(4, .int t3), (3, .ref (w.2.2 t1.1 13 t1.2 0)), (0, .ref (w.2.2 4 20 0 0)), (1, .int a1), (2, .int a2)] rfl ?_
      refine x_iload_n dX5_setReserve_34 rfl 4 rfl ?_
      refine x_iload dX5_setReserve_35 0 rfl ?_
      refine x_isub dX5_setReserve_37 ?_
      refine x_aload_n dX5_setReserve_38 rfl 2 rfl ?_
      refine x_getR (d1 := 0) (K1 := 0) (p1 := 0) (r1 := 0) fl_X5_10 ok_e20 rfl dX5_setReserve_39 ?_
      obtain ⟨z4, s4, h4, h⟩ := x_b_e h
      refine x_callV (As := []) (st := [.int (a2 - t3)]) (eX0_sharedLeft (Nat.le_of_ble_eq_true rfl) h4) cv_X5_61 (Nat.le_of_ble_eq_true rfl) (ok_a (K := 0) (Nat.le_of_ble_eq_true rfl) (Nat.le_of_ble_eq_true rfl)) rfl (Nat.le_of_ble_eq_true rfl) _ rfl dX5_setReserve_42 [.int z4, .int (a2 - t3)] rfl ?_
      refine x_icmp_le (tgt := 51) dX5_setReserve_45 rfl (fun hc => ?_) (fun hc => ?_)
      · have h := x_t hc h
        refine x_aload_n dX5_setReserve_51 rfl 1 rfl ?_
        refine x_iload_n dX5_setReserve_52 rfl 4 rfl ?_
        obtain ⟨s5, hs5, h⟩ := x_let_e h
        refine x_putI s5 hs5 fp_X5_56 (ok_b (K := 13) (Nat.le_of_ble_eq_true rfl) (Nat.le_of_ble_eq_true rfl) (ok2_d hg1) (ok2_p hg1)) rfl dX5_setReserve_53 ?_
        refine x_aload_n dX5_setReserve_56 rfl 1 rfl ?_
        obtain ⟨z6, s6, h6, h⟩ := x_b_e h
        refine x_callV (As := []) (st := []) (eX2_shareBeyondGuarantee (ok2_d hg1) (ok2_p hg1) h6) cv_X5_65 (Nat.le_of_ble_eq_true rfl) (ok_b (K := 13) (Nat.le_of_ble_eq_true rfl) (Nat.le_of_ble_eq_true rfl) (ok2_d hg1) (ok2_p hg1)) rfl (Nat.le_of_ble_eq_true rfl) _ rfl dX5_setReserve_57 [] rfl ?_
        refine x_iload dX5_setReserve_60 0 rfl ?_
        exact x_iretH rfl dX5_setReserve_62 h
      · have h := x_f hc h
        refine x_bipush (x := (-3)) dX5_setReserve_48 (by decide) ?_
        exact x_iretH rfl dX5_setReserve_50 h
    · have h := x_f hc h
      refine x_bipush (x := (-2)) dX5_setReserve_25 (by decide) ?_
      exact x_iretH rfl dX5_setReserve_27 h
set_option maxRecDepth 100000 in
set_option maxHeartbeats 4000000 in
theorem eX5_setHeadroom {l : Launch} {w : xW} {a1 : Int32} {a2 : Int32} {σ τ : xS} {r : Int32} (h : fX5_setHeadroom a1 a2 σ = some (r, τ)) : xEV l w yX5_setHeadroom mX5_setHeadroom [.ref (w.2.2 4 20 0 0), .int a1, .int a2] σ (some (.int r)) τ := by
  rw [fX5_setHeadroom] at h
  refine x_enter (by decide +kernel) rfl (Nat.le_of_ble_eq_true rfl) ?_
  refine x_sub (L1 := [(0, .ref (w.2.2 4 20 0 0)), (1, .int a1), (2, .int a2)]) [0, 1, 2] rfl ?_
  refine x_aload_n dX5_setHeadroom_0 rfl 0 rfl ?_
  refine x_getR (d1 := 0) (K1 := 0) (p1 := 0) (r1 := 0) fl_X5_10 ok_e20 rfl dX5_setHeadroom_1 ?_
  refine x_iload_n dX5_setHeadroom_4 rfl 1 rfl ?_
  obtain ⟨z1, s1, h1, h⟩ := x_b_e h
  refine x_callV (As := [.int a1]) (st := []) (eX0_portAt (Nat.le_of_ble_eq_true rfl) h1) cv_X5_52 (Nat.le_of_ble_eq_true rfl) (ok_a (K := 0) (Nat.le_of_ble_eq_true rfl) (Nat.le_of_ble_eq_true rfl)) rfl (Nat.le_of_ble_eq_true rfl) _ rfl dX5_setHeadroom_5 [x_nvP w z1] rfl ?_
  rcases z1 with _ | t1
  · refine x_st [.null] rfl ?_
    refine x_astore_nN dX5_setHeadroom_8 rfl (Nat.le_of_ble_eq_true rfl) [(3, .null), (0, .ref (w.2.2 4 20 0 0)), (1, .int a1), (2, .int a2)] rfl ?_
    refine x_aload_nN dX5_setHeadroom_9 rfl 0 rfl ?_
    refine x_ifnonnullN dX5_setHeadroom_10 ?_
    refine x_iconst (x := (-1)) dX5_setHeadroom_13 (by decide) ?_
    exact x_iretH rfl dX5_setHeadroom_14 h
  · obtain ⟨hg1, h⟩ := x_g_e h
    refine x_st [.ref (w.2.2 t1.1 13 t1.2 0)] rfl ?_
    refine x_astore_n dX5_setHeadroom_8 rfl (Nat.le_of_ble_eq_true rfl) [(3, .ref (w.2.2 t1.1 13 t1.2 0)), (0, .ref (w.2.2 4 20 0 0)), (1, .int a1), (2, .int a2)] rfl ?_
    refine x_aload_n dX5_setHeadroom_9 rfl 0 rfl ?_
    refine x_ifnonnullR (tgt := 15) dX5_setHeadroom_10 rfl ?_
    refine x_iload_n dX5_setHeadroom_15 rfl 3 rfl ?_
    refine x_iconst (x := 0) dX5_setHeadroom_16 rfl ?_
    refine x_bipush (x := 64) dX5_setHeadroom_17 rfl ?_
    obtain ⟨z2, s2, h2, h⟩ := x_b_e h
    refine x_callS (As := [.int a2, .int 0, .int 64]) (st := []) (eX5_isOutside  h2) cs_X5_38 (Nat.le_of_ble_eq_true rfl) rfl (Nat.le_of_ble_eq_true rfl) _ rfl dX5_setHeadroom_19 [.int z2] rfl ?_
    refine x_if_eq (tgt := 28) dX5_setHeadroom_22 rfl (fun hc => ?_) (fun hc => ?_)
    · have h := x_t hc h
      refine x_aload_n dX5_setHeadroom_28 rfl 0 rfl ?_
      obtain ⟨z3, s3, h3, h⟩ := x_b_e h
      refine x_callV (As := []) (st := []) (eX2_headroomInUse (ok2_d hg1) (ok2_p hg1) h3) cv_X5_68 (Nat.le_of_ble_eq_true rfl) (ok_b (K := 13) (Nat.le_of_ble_eq_true rfl) (Nat.le_of_ble_eq_true rfl) (ok2_d hg1) (ok2_p hg1)) rfl (Nat.le_of_ble_eq_true rfl) _ rfl dX5_setHeadroom_29 [.int z3] rfl ?_
      refine x_iload_n dX5_setHeadroom_32 rfl 3 rfl ?_
      refine x_icmp_le (tgt := 39) dX5_setHeadroom_33 rfl (fun hc => ?_) (fun hc => ?_)
      · have h := x_t hc h
        refine x_aload_n dX5_setHeadroom_39 rfl 0 rfl ?_
        refine x_getI fl_X5_71 (ok_b (K := 13) (Nat.le_of_ble_eq_true rfl) (Nat.le_of_ble_eq_true rfl) (ok2_d hg1) (ok2_p hg1)) rfl dX5_setHeadroom_40 ?_
        obtain ⟨t4, ht4, h⟩ := x_let_e h
        refine x_istore t4 ht4 dX5_setHeadroom_43 (Nat.le_of_ble_eq_true rfl) [(4, .int t4), (3, .ref (w.2.2 t1.1 13 t1.2 0)), (0, .ref (w.2.2 4 20 0 0)), (1, .int a1), (2, .int a2)] rfl ?_
        refine x_iload_n dX5_setHeadroom_45 rfl 4 rfl ?_
        refine x_iload dX5_setHeadroom_46 0 rfl ?_
        refine x_isub dX5_setHeadroom_48 ?_
        refine x_aload_n dX5_setHeadroom_49 rfl 2 rfl ?_
        refine x_getR (d1 := 0) (K1 := 0) (p1 := 0) (r1 := 0) fl_X5_10 ok_e20 rfl dX5_setHeadroom_50 ?_
        obtain ⟨z5, s5, h5, h⟩ := x_b_e h
        refine x_callV (As := []) (st := [.int (a2 - t4)]) (eX0_sharedLeft (Nat.le_of_ble_eq_true rfl) h5) cv_X5_61 (Nat.le_of_ble_eq_true rfl) (ok_a (K := 0) (Nat.le_of_ble_eq_true rfl) (Nat.le_of_ble_eq_true rfl)) rfl (Nat.le_of_ble_eq_true rfl) _ rfl dX5_setHeadroom_53 [.int z5, .int (a2 - t4)] rfl ?_
        refine x_icmp_le (tgt := 62) dX5_setHeadroom_56 rfl (fun hc => ?_) (fun hc => ?_)
        · have h := x_t hc h
          refine x_aload_n dX5_setHeadroom_62 rfl 1 rfl ?_
          refine x_iload_n dX5_setHeadroom_63 rfl 4 rfl ?_
          obtain ⟨s6, hs6, h⟩ := x_let_e h
          refine x_putI s6 hs6 fp_X5_71 (ok_b (K := 13) (Nat.le_of_ble_eq_true rfl) (Nat.le_of_ble_eq_true rfl) (ok2_d hg1) (ok2_p hg1)) rfl dX5_setHeadroom_64 ?_
          refine x_iload dX5_setHeadroom_67 0 rfl ?_
          exact x_iretH rfl dX5_setHeadroom_69 h
        · have h := x_f hc h
          refine x_bipush (x := (-3)) dX5_setHeadroom_59 (by decide) ?_
          exact x_iretH rfl dX5_setHeadroom_61 h
      · have h := x_f hc h
        refine x_bipush (x := (-4)) dX5_setHeadroom_36 (by decide) ?_
        exact x_iretH rfl dX5_setHeadroom_38 h
    · have h := x_f hc h
      refine x_bipush (x := (-2)) dX5_setHeadroom_25 (by decide) ?_
      exact x_iretH rfl dX5_setHeadroom_27 h
set_option maxRecDepth 100000 in
set_option maxHeartbeats 4000000 in
theorem eX5_setAlpha {l : Launch} {w : xW} {a1 : Int32} {a2 : Int32} {a3 : Int32} {σ τ : xS} {r : Int32} (h : fX5_setAlpha a1 a2 a3 σ = some (r, τ)) : xEV l w yX5_setAlpha mX5_setAlpha [.ref (w.2.2 4 20 0 0), .int a1, .int a2, .int a3] σ (some (.int r)) τ := by
  rw [fX5_setAlpha] at h
  refine x_enter (by decide +kernel) rfl (Nat.le_of_ble_eq_true rfl) ?_
  refine x_sub (L1 := [(0, .ref (w.2.2 4 20 0 0)), (1, .int a1), (2, .int a2), (3, .int a3)]) [0, 1, 2, 3] rfl ?_
  refine x_aload_n dX5_setAlpha_0 rfl 0 rfl ?_
  refine x_getR (d1 := 0) (K1 := 0) (p1 := 0) (r1 := 0) fl_X5_10 ok_e20 rfl dX5_setAlpha_1 ?_
  refine x_iload_n dX5_setAlpha_4 rfl 1 rfl ?_
  refine x_iload_n dX5_setAlpha_5 rfl 2 rfl ?_
  obtain ⟨z1, s1, h1, h⟩ := x_b_e h
  refine x_callV (As := [.int a1, .int a2]) (st := []) (eX0_queueAt (Nat.le_of_ble_eq_true rfl) h1) cv_X5_74 (Nat.le_of_ble_eq_true rfl) (ok_a (K := 0) (Nat.le_of_ble_eq_true rfl) (Nat.le_of_ble_eq_true rfl)) rfl (Nat.le_of_ble_eq_true rfl) _ rfl dX5_setAlpha_6 [x_nvQ w z1] rfl ?_
  rcases z1 with _ | t1
  · refine x_st [.null] rfl ?_
    refine x_astoreN dX5_setAlpha_9 (Nat.le_of_ble_eq_true rfl) [(4, .null), (0, .ref (w.2.2 4 20 0 0)), (1, .int a1), (2, .int a2), (3, .int a3)] rfl ?_
    refine x_aloadN dX5_setAlpha_11 0 rfl ?_
    refine x_ifnonnullN dX5_setAlpha_13 ?_
    refine x_iconst (x := (-1)) dX5_setAlpha_16 (by decide) ?_
    exact x_iretH rfl dX5_setAlpha_17 h
  · obtain ⟨hg1, h⟩ := x_g_e h
    refine x_st [.ref (w.2.2 t1.1 16 t1.2.1 t1.2.2)] rfl ?_
    refine x_astore dX5_setAlpha_9 (Nat.le_of_ble_eq_true rfl) [(4, .ref (w.2.2 t1.1 16 t1.2.1 t1.2.2)), (0, .ref (w.2.2 4 20 0 0)), (1, .int a1), (2, .int a2), (3, .int a3)] rfl ?_
    refine x_aload dX5_setAlpha_11 0 rfl ?_
    refine x_ifnonnullR (tgt := 18) dX5_setAlpha_13 rfl ?_
    refine x_iload_n dX5_setAlpha_18 rfl 4 rfl ?_
    refine x_iconst (x := 0) dX5_setAlpha_19 rfl ?_
    refine x_bipush (x := 64) dX5_setAlpha_20 rfl ?_
    obtain ⟨z2, s2, h2, h⟩ := x_b_e h
    refine x_callS (As := [.int a3, .int 0, .int 64]) (st := []) (eX5_isOutside  h2) cs_X5_38 (Nat.le_of_ble_eq_true rfl) rfl (Nat.le_of_ble_eq_true rfl) _ rfl dX5_setAlpha_22 [.int z2] rfl ?_
    refine x_if_eq (tgt := 31) dX5_setAlpha_25 rfl (fun hc => ?_) (fun hc => ?_)
    · have h := x_t hc h
      refine x_aload dX5_setAlpha_31 0 rfl ?_
      refine x_getI fl_X5_78 (ok_c (ok3_d hg1) (ok3_p hg1) (ok3_r hg1)) rfl dX5_setAlpha_33 ?_
      obtain ⟨t3, ht3, h⟩ := x_let_e h
      refine x_istore t3 ht3 dX5_setAlpha_36 (Nat.le_of_ble_eq_true rfl) [(5, .int t3), (4, .ref (w.2.2 t1.1 16 t1.2.1 t1.2.2)), (0, .ref (w.2.2 4 20 0 0)), (1, .int a1), (2, .int a2), (3, .int a3)] rfl ?_
      refine x_aload dX5_setAlpha_38 1 rfl ?_
      refine x_iload_n dX5_setAlpha_40 rfl 5 rfl ?_
      obtain ⟨s4, hs4, h⟩ := x_let_e h
      refine x_putI s4 hs4 fp_X5_78 (ok_c (ok3_d hg1) (ok3_p hg1) (ok3_r hg1)) rfl dX5_setAlpha_41 ?_
      refine x_iload dX5_setAlpha_44 0 rfl ?_
      exact x_iretH rfl dX5_setAlpha_46 h
    · have h := x_f hc h
      refine x_bipush (x := (-2)) dX5_setAlpha_28 (by decide) ?_
      exact x_iretH rfl dX5_setAlpha_30 h
set_option maxRecDepth 100000 in
set_option maxHeartbeats 4000000 in
theorem eX5_setBurst {l : Launch} {w : xW} {a1 : Int32} {a2 : Int32} {a3 : Int32} {a4 : Int32} {σ τ : xS} {r : Int32} (h : fX5_setBurst a1 a2 a3 a4 σ = some (r, τ)) : xEV l w yX5_setBurst mX5_setBurst [.ref (w.2.2 4 20 0 0), .int a1, .int a2, .int a3, .int a4] σ (some (.int r)) τ := by
  rw [fX5_setBurst] at h
  refine x_enter (by decide +kernel) rfl (Nat.le_of_ble_eq_true rfl) ?_
  refine x_sub (L1 := [(0, .ref (w.2.2 4 20 0 0)), (1, .int a1), (2, .int a2), (3, .int a3), (4, .int a4)]) [0, 1, 2, 3, 4] rfl ?_
  refine x_aload_n dX5_setBurst_0 rfl 0 rfl ?_
  refine x_getR (d1 := 0) (K1 := 0) (p1 := 0) (r1 := 0) fl_X5_10 ok_e20 rfl dX5_setBurst_1 ?_
  refine x_iload_n dX5_setBurst_4 rfl 1 rfl ?_
  refine x_iload_n dX5_setBurst_5 rfl 2 rfl ?_
  obtain ⟨z1, s1, h1, h⟩ := x_b_e h
  refine x_callV (As := [.int a1, .int a2]) (st := []) (eX0_queueAt (Nat.le_of_ble_eq_true rfl) h1) cv_X5_74 (Nat.le_of_ble_eq_true rfl) (ok_a (K := 0) (Nat.le_of_ble_eq_true rfl) (Nat.le_of_ble_eq_true rfl)) rfl (Nat.le_of_ble_eq_true rfl) _ rfl dX5_setBurst_6 [x_nvQ w z1] rfl ?_
  rcases z1 with _ | t1
  · refine x_st [.null] rfl ?_
    refine x_astoreN dX5_setBurst_9 (Nat.le_of_ble_eq_true rfl) [(5, .null), (0, .ref (w.2.2 4 20 0 0)), (1, .int a1), (2, .int a2), (3, .int a3), (4, .int a4)] rfl ?_
    refine x_aloadN dX5_setBurst_11 0 rfl ?_
    refine x_ifnonnullN dX5_setBurst_13 ?_
    refine x_iconst (x := (-1)) dX5_setBurst_16 (by decide) ?_
    exact x_iretH rfl dX5_setBurst_17 h
  · obtain ⟨hg1, h⟩ := x_g_e h
    refine x_st [.ref (w.2.2 t1.1 16 t1.2.1 t1.2.2)] rfl ?_
    refine x_astore dX5_setBurst_9 (Nat.le_of_ble_eq_true rfl) [(5, .ref (w.2.2 t1.1 16 t1.2.1 t1.2.2)), (0, .ref (w.2.2 4 20 0 0)), (1, .int a1), (2, .int a2), (3, .int a3), (4, .int a4)] rfl ?_
    refine x_aload dX5_setBurst_11 0 rfl ?_
    refine x_ifnonnullR (tgt := 18) dX5_setBurst_13 rfl ?_
    refine x_iload_n dX5_setBurst_18 rfl 4 rfl ?_
    refine x_iconst (x := 0) dX5_setBurst_19 rfl ?_
    refine x_bipush (x := 32) dX5_setBurst_20 rfl ?_
    obtain ⟨z2, s2, h2, h⟩ := x_b_e h
    refine x_callS (As := [.int a3, .int 0, .int 32]) (st := []) (eX5_isOutside  h2) cs_X5_38 (Nat.le_of_ble_eq_true rfl) rfl (Nat.le_of_ble_eq_true rfl) _ rfl dX5_setBurst_22 [.int z2] rfl ?_
    refine x_if_ne (tgt := 39) dX5_setBurst_25 rfl (fun hc => ?_) (fun hc => ?_)
    · have h := x_f hc h
      refine x_bipush (x := (-2)) dX5_setBurst_39 (by decide) ?_
      exact x_iretH rfl dX5_setBurst_41 h
    · have h := x_t hc h
      refine x_iload dX5_setBurst_28 5 rfl ?_
      refine x_iconst (x := 0) dX5_setBurst_30 rfl ?_
      refine x_bipush (x := 8) dX5_setBurst_31 rfl ?_
      obtain ⟨z3, s3, h3, h⟩ := x_b_e h
      refine x_callS (As := [.int a4, .int 0, .int 8]) (st := []) (eX5_isOutside  h3) cs_X5_38 (Nat.le_of_ble_eq_true rfl) rfl (Nat.le_of_ble_eq_true rfl) _ rfl dX5_setBurst_33 [.int z3] rfl ?_
      refine x_if_eq (tgt := 42) dX5_setBurst_36 rfl (fun hc => ?_) (fun hc => ?_)
      · have h := x_t hc h
        refine x_aload dX5_setBurst_42 0 rfl ?_
        refine x_getI fl_X5_83 (ok_c (ok3_d hg1) (ok3_p hg1) (ok3_r hg1)) rfl dX5_setBurst_44 ?_
        obtain ⟨t4, ht4, h⟩ := x_let_e h
        refine x_istore t4 ht4 dX5_setBurst_47 (Nat.le_of_ble_eq_true rfl) [(6, .int t4), (5, .ref (w.2.2 t1.1 16 t1.2.1 t1.2.2)), (0, .ref (w.2.2 4 20 0 0)), (1, .int a1), (2, .int a2), (3, .int a3), (4, .int a4)] rfl ?_
        refine x_aload dX5_setBurst_49 1 rfl ?_
        refine x_iload_n dX5_setBurst_51 rfl 5 rfl ?_
        obtain ⟨s5, hs5, h⟩ := x_let_e h
        refine x_putI s5 hs5 fp_X5_86 (ok_c (ok3_d hg1) (ok3_p hg1) (ok3_r hg1)) rfl dX5_setBurst_52 ?_
        refine x_aload dX5_setBurst_55 1 rfl ?_
        refine x_iload dX5_setBurst_57 6 rfl ?_
        obtain ⟨s6, hs6, h⟩ := x_let_e h
        refine x_putI s6 hs6 fp_X5_89 (ok_c (ok3_d hg1) (ok3_p hg1) (ok3_r hg1)) rfl dX5_setBurst_59 ?_
        refine x_aload dX5_setBurst_62 1 rfl ?_
        refine x_iload_n dX5_setBurst_64 rfl 5 rfl ?_
        obtain ⟨s7, hs7, h⟩ := x_let_e h
        refine x_putI s7 hs7 fp_X5_83 (ok_c (ok3_d hg1) (ok3_p hg1) (ok3_r hg1)) rfl dX5_setBurst_65 ?_
        refine x_iload dX5_setBurst_68 0 rfl ?_
        exact x_iretH rfl dX5_setBurst_70 h
      · have h := x_f hc h
        refine x_bipush (x := (-2)) dX5_setBurst_39 (by decide) ?_
        exact x_iretH rfl dX5_setBurst_41 h
set_option maxRecDepth 100000 in
set_option maxHeartbeats 4000000 in
theorem eX5_asNumber {l : Launch} {w : xW} {a0 : Int32} {σ τ : xS} {r : Int32} (h : fX5_asNumber a0 σ = some (r, τ)) : xEV l w yX5_asNumber mX5_asNumber [.int a0] σ (some (.int r)) τ := by
  rw [fX5_asNumber] at h
  refine x_enter (by decide +kernel) rfl (Nat.le_of_ble_eq_true rfl) ?_
  refine x_sub (L1 := [(0, .int a0)]) [0] rfl ?_
  refine x_iload_n dX5_asNumber_0 rfl 0 rfl ?_
  refine x_if_eq (tgt := 8) dX5_asNumber_1 rfl (fun hc => ?_) (fun hc => ?_)
  · have h := x_t hc h
    refine x_iconst (x := 0) dX5_asNumber_8 rfl ?_
    exact x_iretH rfl dX5_asNumber_9 h
  · have h := x_f hc h
    refine x_iconst (x := 1) dX5_asNumber_4 rfl ?_
    refine x_goto (tgt := 9) dX5_asNumber_5 rfl ?_
    exact x_iretH rfl dX5_asNumber_9 h
set_option maxRecDepth 100000 in
set_option maxHeartbeats 4000000 in
theorem TX5_setLossless_33 {l : Launch} {w : xW} {a3 : Int32} {d4 : Nat} {p4 : Nat} {r4 : Nat} (hd4 : d4 < 4) (hp4 : p4 < 6) (hr4 : r4 < 3) {σ τ : xS} {r : Int32} (h : BX5_setLossless_33 a3 d4 p4 r4 σ = some (r, τ)) : xAt l w mX5_setLossless 33 [(3, .int a3), (4, .ref (w.2.2 d4 16 p4 r4))] [] σ (some (.int r)) τ := by
  rw [BX5_setLossless_33] at h
  refine x_aload dX5_setLossless_33 1 rfl ?_
  refine x_getI fl_X5_95 (ok_c hd4 hp4 hr4) rfl dX5_setLossless_35 ?_
  obtain ⟨z2, s2, h2, h⟩ := x_b_e h
  refine x_callS (As := [.int (σ d4 16 p4 r4 7)]) (st := []) (eX5_asNumber  h2) cs_X5_99 (Nat.le_of_ble_eq_true rfl) rfl (Nat.le_of_ble_eq_true rfl) _ rfl dX5_setLossless_38 [.int z2] rfl ?_
  refine x_istore z2 rfl dX5_setLossless_41 (Nat.le_of_ble_eq_true rfl) [(5, .int z2), (3, .int a3), (4, .ref (w.2.2 d4 16 p4 r4))] rfl ?_
  refine x_aload dX5_setLossless_43 2 rfl ?_
  refine x_iload_n dX5_setLossless_45 rfl 1 rfl ?_
  obtain ⟨hg4, h⟩ := x_g_e h
  obtain ⟨s3, hs3, h⟩ := x_let_e h
  refine x_putZ s3 hs3 hg4 fp_X5_95 (ok_c hd4 hp4 hr4) rfl dX5_setLossless_46 ?_
  refine x_iload_n dX5_setLossless_49 rfl 1 rfl ?_
  refine x_if_ne (tgt := 59) dX5_setLossless_50 rfl (fun hc => ?_) (fun hc => ?_)
  · have h := x_f hc h
    refine x_iload dX5_setLossless_59 0 rfl ?_
    exact x_iretH rfl dX5_setLossless_61 h
  · have h := x_t hc h
    refine x_aload dX5_setLossless_53 2 rfl ?_
    refine x_iconst (x := 0) dX5_setLossless_55 rfl ?_
    obtain ⟨s5, hs5, h⟩ := x_let_e h
    refine x_putZ s5 hs5 rfl fp_X5_103 (ok_c hd4 hp4 hr4) rfl dX5_setLossless_56 ?_
    refine x_iload dX5_setLossless_59 0 rfl ?_
    exact x_iretH rfl dX5_setLossless_61 h
set_option maxRecDepth 100000 in
set_option maxHeartbeats 4000000 in
theorem eX5_setLossless {l : Launch} {w : xW} {a1 : Int32} {a2 : Int32} {a3 : Int32} {σ τ : xS} {r : Int32} (h : fX5_setLossless a1 a2 a3 σ = some (r, τ)) : xEV l w yX5_setLossless mX5_setLossless [.ref (w.2.2 4 20 0 0), .int a1, .int a2, .int a3] σ (some (.int r)) τ := by
  rw [fX5_setLossless] at h
  refine x_enter (by decide +kernel) rfl (Nat.le_of_ble_eq_true rfl) ?_
  refine x_sub (L1 := [(0, .ref (w.2.2 4 20 0 0)), (1, .int a1), (2, .int a2), (3, .int a3)]) [0, 1, 2, 3] rfl ?_
  refine x_aload_n dX5_setLossless_0 rfl 0 rfl ?_
  refine x_getR (d1 := 0) (K1 := 0) (p1 := 0) (r1 := 0) fl_X5_10 ok_e20 rfl dX5_setLossless_1 ?_
  refine x_iload_n dX5_setLossless_4 rfl 1 rfl ?_
  refine x_iload_n dX5_setLossless_5 rfl 2 rfl ?_
  obtain ⟨z1, s1, h1, h⟩ := x_b_e h
  refine x_callV (As := [.int a1, .int a2]) (st := []) (eX0_queueAt (Nat.le_of_ble_eq_true rfl) h1) cv_X5_74 (Nat.le_of_ble_eq_true rfl) (ok_a (K := 0) (Nat.le_of_ble_eq_true rfl) (Nat.le_of_ble_eq_true rfl)) rfl (Nat.le_of_ble_eq_true rfl) _ rfl dX5_setLossless_6 [x_nvQ w z1] rfl ?_
  rcases z1 with _ | t1
  · refine x_st [.null] rfl ?_
    refine x_astoreN dX5_setLossless_9 (Nat.le_of_ble_eq_true rfl) [(4, .null), (0, .ref (w.2.2 4 20 0 0)), (1, .int a1), (2, .int a2), (3, .int a3)] rfl ?_
    refine x_aloadN dX5_setLossless_11 0 rfl ?_
    refine x_ifnonnullN dX5_setLossless_13 ?_
    refine x_iconst (x := (-1)) dX5_setLossless_16 (by decide) ?_
    exact x_iretH rfl dX5_setLossless_17 h
  · obtain ⟨hg1, h⟩ := x_g_e h
    refine x_st [.ref (w.2.2 t1.1 16 t1.2.1 t1.2.2)] rfl ?_
    refine x_astore dX5_setLossless_9 (Nat.le_of_ble_eq_true rfl) [(4, .ref (w.2.2 t1.1 16 t1.2.1 t1.2.2)), (0, .ref (w.2.2 4 20 0 0)), (1, .int a1), (2, .int a2), (3, .int a3)] rfl ?_
    refine x_aload dX5_setLossless_11 0 rfl ?_
    refine x_ifnonnullR (tgt := 18) dX5_setLossless_13 rfl ?_
    refine x_iload_n dX5_setLossless_18 rfl 4 rfl ?_
    refine x_if_ne (tgt := 33) dX5_setLossless_19 rfl (fun hc => ?_) (fun hc => ?_)
    · have h := x_f hc h
      refine x_sub (L1 := [(3, .int a3), (4, .ref (w.2.2 t1.1 16 t1.2.1 t1.2.2))]) [4, 0] rfl ?_
      exact TX5_setLossless_33 (ok3_d hg1) (ok3_p hg1) (ok3_r hg1) h
    · have h := x_t hc h
      refine x_aload dX5_setLossless_22 0 rfl ?_
      refine x_getI fl_X5_92 (ok_c (ok3_d hg1) (ok3_p hg1) (ok3_r hg1)) rfl dX5_setLossless_24 ?_
      refine x_if_le (tgt := 33) dX5_setLossless_27 rfl (fun hc => ?_) (fun hc => ?_)
      · have h := x_t hc h
        refine x_sub (L1 := [(3, .int a3), (4, .ref (w.2.2 t1.1 16 t1.2.1 t1.2.2))]) [4, 0] rfl ?_
        exact TX5_setLossless_33 (ok3_d hg1) (ok3_p hg1) (ok3_r hg1) h
      · have h := x_f hc h
        refine x_bipush (x := (-4)) dX5_setLossless_30 (by decide) ?_
        exact x_iretH rfl dX5_setLossless_32 h
set_option maxRecDepth 100000 in
set_option maxHeartbeats 4000000 in
theorem eX5_setScheduler {l : Launch} {w : xW} {a1 : Int32} {a2 : Int32} {a3 : Int32} {σ τ : xS} {r : Int32} (h : fX5_setScheduler a1 a2 a3 σ = some (r, τ)) : xEV l w yX5_setScheduler mX5_setScheduler [.ref (w.2.2 4 20 0 0), .int a1, .int a2, .int a3] σ (some (.int r)) τ := by
  rw [fX5_setScheduler] at h
  refine x_enter (by decide +kernel) rfl (Nat.le_of_ble_eq_true rfl) ?_
  refine x_sub (L1 := [(0, .ref (w.2.2 4 20 0 0)), (1, .int a1), (2, .int a2), (3, .int a3)]) [0, 1, 2, 3] rfl ?_
  refine x_aload_n dX5_setScheduler_0 rfl 0 rfl ?_
  refine x_getR (d1 := 0) (K1 := 0) (p1 := 0) (r1 := 0) fl_X5_10 ok_e20 rfl dX5_setScheduler_1 ?_
  refine x_iload_n dX5_setScheduler_4 rfl 1 rfl ?_
  obtain ⟨z1, s1, h1, h⟩ := x_b_e h
  refine x_callV (As := [.int a1]) (st := []) (eX0_portAt (Nat.le_of_ble_eq_true rfl) h1) cv_X5_52 (Nat.le_of_ble_eq_true rfl) (ok_a (K := 0) (Nat.le_of_ble_eq_true rfl) (Nat.le_of_ble_eq_true rfl)) rfl (Nat.le_of_ble_eq_true rfl) _ rfl dX5_setScheduler_5 [x_nvP w z1] rfl ?_
  rcases z1 with _ | t1
  · refine x_st [.null] rfl ?_
    refine x_astoreN dX5_setScheduler_8 (Nat.le_of_ble_eq_true rfl) [(4, .null), (0, .ref (w.2.2 4 20 0 0)), (1, .int a1), (2, .int a2), (3, .int a3)] rfl ?_
    refine x_aloadN dX5_setScheduler_10 0 rfl ?_
    refine x_ifnonnullN dX5_setScheduler_12 ?_
    refine x_iconst (x := (-1)) dX5_setScheduler_15 (by decide) ?_
    exact x_iretH rfl dX5_setScheduler_16 h
  · obtain ⟨hg1, h⟩ := x_g_e h
    refine x_st [.ref (w.2.2 t1.1 13 t1.2 0)] rfl ?_
    refine x_astore dX5_setScheduler_8 (Nat.le_of_ble_eq_true rfl) [(4, .ref (w.2.2 t1.1 13 t1.2 0)), (0, .ref (w.2.2 4 20 0 0)), (1, .int a1), (2, .int a2), (3, .int a3)] rfl ?_
    refine x_aload dX5_setScheduler_10 0 rfl ?_
    refine x_ifnonnullR (tgt := 17) dX5_setScheduler_12 rfl ?_
    refine x_iload_n dX5_setScheduler_17 rfl 4 rfl ?_
    refine x_iconst (x := 0) dX5_setScheduler_18 rfl ?_
    refine x_bipush (x := 16) dX5_setScheduler_19 rfl ?_
    obtain ⟨z2, s2, h2, h⟩ := x_b_e h
    refine x_callS (As := [.int a3, .int 0, .int 16]) (st := []) (eX5_isOutside  h2) cs_X5_38 (Nat.le_of_ble_eq_true rfl) rfl (Nat.le_of_ble_eq_true rfl) _ rfl dX5_setScheduler_21 [.int z2] rfl ?_
    refine x_if_eq (tgt := 30) dX5_setScheduler_24 rfl (fun hc => ?_) (fun hc => ?_)
    · have h := x_t hc h
      refine x_aload dX5_setScheduler_30 0 rfl ?_
      refine x_getI fl_X5_106 (ok_b (K := 13) (Nat.le_of_ble_eq_true rfl) (Nat.le_of_ble_eq_true rfl) (ok2_d hg1) (ok2_p hg1)) rfl dX5_setScheduler_32 ?_
      obtain ⟨t3, ht3, h⟩ := x_let_e h
      refine x_istore t3 ht3 dX5_setScheduler_35 (Nat.le_of_ble_eq_true rfl) [(5, .int t3), (4, .ref (w.2.2 t1.1 13 t1.2 0)), (0, .ref (w.2.2 4 20 0 0)), (1, .int a1), (2, .int a2), (3, .int a3)] rfl ?_
      refine x_aload dX5_setScheduler_37 1 rfl ?_
      refine x_iload_n dX5_setScheduler_39 rfl 4 rfl ?_
      obtain ⟨hg5, h⟩ := x_g_e h
      obtain ⟨s4, hs4, h⟩ := x_let_e h
      refine x_putZ s4 hs4 hg5 fp_X5_109 (ok_b (K := 13) (Nat.le_of_ble_eq_true rfl) (Nat.le_of_ble_eq_true rfl) (ok2_d hg1) (ok2_p hg1)) rfl dX5_setScheduler_40 ?_
      refine x_aload dX5_setScheduler_43 1 rfl ?_
      refine x_iload_n dX5_setScheduler_45 rfl 5 rfl ?_
      obtain ⟨s6, hs6, h⟩ := x_let_e h
      refine x_putI s6 hs6 fp_X5_106 (ok_b (K := 13) (Nat.le_of_ble_eq_true rfl) (Nat.le_of_ble_eq_true rfl) (ok2_d hg1) (ok2_p hg1)) rfl dX5_setScheduler_46 ?_
      refine x_iload dX5_setScheduler_49 0 rfl ?_
      exact x_iretH rfl dX5_setScheduler_51 h
    · have h := x_f hc h
      refine x_bipush (x := (-2)) dX5_setScheduler_27 (by decide) ?_
      exact x_iretH rfl dX5_setScheduler_29 h
set_option maxRecDepth 100000 in
set_option maxHeartbeats 4000000 in
theorem eX5_setQuantum {l : Launch} {w : xW} {a1 : Int32} {a2 : Int32} {a3 : Int32} {σ τ : xS} {r : Int32} (h : fX5_setQuantum a1 a2 a3 σ = some (r, τ)) : xEV l w yX5_setQuantum mX5_setQuantum [.ref (w.2.2 4 20 0 0), .int a1, .int a2, .int a3] σ (some (.int r)) τ := by
  rw [fX5_setQuantum] at h
  refine x_enter (by decide +kernel) rfl (Nat.le_of_ble_eq_true rfl) ?_
  refine x_sub (L1 := [(0, .ref (w.2.2 4 20 0 0)), (1, .int a1), (2, .int a2), (3, .int a3)]) [0, 1, 2, 3] rfl ?_
  refine x_aload_n dX5_setQuantum_0 rfl 0 rfl ?_
  refine x_getR (d1 := 0) (K1 := 0) (p1 := 0) (r1 := 0) fl_X5_10 ok_e20 rfl dX5_setQuantum_1 ?_
  refine x_iload_n dX5_setQuantum_4 rfl 1 rfl ?_
  refine x_iload_n dX5_setQuantum_5 rfl 2 rfl ?_
  obtain ⟨z1, s1, h1, h⟩ := x_b_e h
  refine x_callV (As := [.int a1, .int a2]) (st := []) (eX0_queueAt (Nat.le_of_ble_eq_true rfl) h1) cv_X5_74 (Nat.le_of_ble_eq_true rfl) (ok_a (K := 0) (Nat.le_of_ble_eq_true rfl) (Nat.le_of_ble_eq_true rfl)) rfl (Nat.le_of_ble_eq_true rfl) _ rfl dX5_setQuantum_6 [x_nvQ w z1] rfl ?_
  rcases z1 with _ | t1
  · refine x_st [.null] rfl ?_
    refine x_astoreN dX5_setQuantum_9 (Nat.le_of_ble_eq_true rfl) [(4, .null), (0, .ref (w.2.2 4 20 0 0)), (1, .int a1), (2, .int a2), (3, .int a3)] rfl ?_
    refine x_aloadN dX5_setQuantum_11 0 rfl ?_
    refine x_ifnonnullN dX5_setQuantum_13 ?_
    refine x_iconst (x := (-1)) dX5_setQuantum_16 (by decide) ?_
    exact x_iretH rfl dX5_setQuantum_17 h
  · obtain ⟨hg1, h⟩ := x_g_e h
    refine x_st [.ref (w.2.2 t1.1 16 t1.2.1 t1.2.2)] rfl ?_
    refine x_astore dX5_setQuantum_9 (Nat.le_of_ble_eq_true rfl) [(4, .ref (w.2.2 t1.1 16 t1.2.1 t1.2.2)), (0, .ref (w.2.2 4 20 0 0)), (1, .int a1), (2, .int a2), (3, .int a3)] rfl ?_
    refine x_aload dX5_setQuantum_11 0 rfl ?_
    refine x_ifnonnullR (tgt := 18) dX5_setQuantum_13 rfl ?_
    refine x_iload_n dX5_setQuantum_18 rfl 4 rfl ?_
    refine x_iconst (x := 1) dX5_setQuantum_19 rfl ?_
    refine x_bipush (x := 16) dX5_setQuantum_20 rfl ?_
    obtain ⟨z2, s2, h2, h⟩ := x_b_e h
    refine x_callS (As := [.int a3, .int 1, .int 16]) (st := []) (eX5_isOutside  h2) cs_X5_38 (Nat.le_of_ble_eq_true rfl) rfl (Nat.le_of_ble_eq_true rfl) _ rfl dX5_setQuantum_22 [.int z2] rfl ?_
    refine x_if_eq (tgt := 31) dX5_setQuantum_25 rfl (fun hc => ?_) (fun hc => ?_)
    · have h := x_t hc h
      refine x_aload dX5_setQuantum_31 0 rfl ?_
      refine x_getI fl_X5_112 (ok_c (ok3_d hg1) (ok3_p hg1) (ok3_r hg1)) rfl dX5_setQuantum_33 ?_
      obtain ⟨t3, ht3, h⟩ := x_let_e h
      refine x_istore t3 ht3 dX5_setQuantum_36 (Nat.le_of_ble_eq_true rfl) [(5, .int t3), (4, .ref (w.2.2 t1.1 16 t1.2.1 t1.2.2)), (0, .ref (w.2.2 4 20 0 0)), (1, .int a1), (2, .int a2), (3, .int a3)] rfl ?_
      refine x_aload dX5_setQuantum_38 1 rfl ?_
      refine x_iload_n dX5_setQuantum_40 rfl 5 rfl ?_
      obtain ⟨s4, hs4, h⟩ := x_let_e h
      refine x_putI s4 hs4 fp_X5_112 (ok_c (ok3_d hg1) (ok3_p hg1) (ok3_r hg1)) rfl dX5_setQuantum_41 ?_
      refine x_iload dX5_setQuantum_44 0 rfl ?_
      exact x_iretH rfl dX5_setQuantum_46 h
    · have h := x_f hc h
      refine x_bipush (x := (-2)) dX5_setQuantum_28 (by decide) ?_
      exact x_iretH rfl dX5_setQuantum_30 h
set_option maxRecDepth 100000 in
set_option maxHeartbeats 4000000 in
theorem eX5_setPushOut {l : Launch} {w : xW} {a1 : Int32} {σ τ : xS} {r : Int32} (h : fX5_setPushOut a1 σ = some (r, τ)) : xEV l w yX5_setPushOut mX5_setPushOut [.ref (w.2.2 4 20 0 0), .int a1] σ (some (.int r)) τ := by
  rw [fX5_setPushOut] at h
  refine x_enter (by decide +kernel) rfl (Nat.le_of_ble_eq_true rfl) ?_
  refine x_sub (L1 := [(0, .ref (w.2.2 4 20 0 0)), (1, .int a1)]) [0, 1] rfl ?_
  refine x_aload_n dX5_setPushOut_0 rfl 0 rfl ?_
  refine x_getR (d1 := 0) (K1 := 0) (p1 := 0) (r1 := 0) fl_X5_10 ok_e20 rfl dX5_setPushOut_1 ?_
  refine x_getI fl_X5_115 (ok_a (K := 0) (Nat.le_of_ble_eq_true rfl) (Nat.le_of_ble_eq_true rfl)) rfl dX5_setPushOut_4 ?_
  obtain ⟨z1, s1, h1, h⟩ := x_b_e h
  refine x_callS (As := [.int (σ 0 0 0 0 3)]) (st := []) (eX5_asNumber  h1) cs_X5_99 (Nat.le_of_ble_eq_true rfl) rfl (Nat.le_of_ble_eq_true rfl) _ rfl dX5_setPushOut_7 [.int z1] rfl ?_
  refine x_istore_n z1 rfl dX5_setPushOut_10 rfl (Nat.le_of_ble_eq_true rfl) [(2, .int z1), (0, .ref (w.2.2 4 20 0 0)), (1, .int a1)] rfl ?_
  refine x_aload_n dX5_setPushOut_11 rfl 1 rfl ?_
  refine x_getR (d1 := 0) (K1 := 0) (p1 := 0) (r1 := 0) fl_X5_10 ok_e20 rfl dX5_setPushOut_12 ?_
  refine x_iload_n dX5_setPushOut_15 rfl 2 rfl ?_
  obtain ⟨hg3, h⟩ := x_g_e h
  obtain ⟨s2, hs2, h⟩ := x_let_e h
  refine x_putZ s2 hs2 hg3 fp_X5_115 (ok_a (K := 0) (Nat.le_of_ble_eq_true rfl) (Nat.le_of_ble_eq_true rfl)) rfl dX5_setPushOut_16 ?_
  refine x_iload_n dX5_setPushOut_19 rfl 0 rfl ?_
  exact x_iretH rfl dX5_setPushOut_20 h
set_option maxRecDepth 100000 in
set_option maxHeartbeats 4000000 in
theorem eX5_grant {l : Launch} {w : xW} {a1 : Int32} {a2 : Int32} {σ τ : xS} {r : Int32} (h : fX5_grant a1 a2 σ = some (r, τ)) : xEV l w yX5_grant mX5_grant [.ref (w.2.2 4 20 0 0), .int a1, .int a2] σ (some (.int r)) τ := by
  rw [fX5_grant] at h
  refine x_enter (by decide +kernel) rfl (Nat.le_of_ble_eq_true rfl) ?_
  refine x_sub (L1 := [(0, .ref (w.2.2 4 20 0 0)), (1, .int a1), (2, .int a2)]) [0, 1, 2] rfl ?_
  refine x_aload_n dX5_grant_0 rfl 0 rfl ?_
  refine x_getR (d1 := 0) (K1 := 0) (p1 := 0) (r1 := 0) fl_X5_10 ok_e20 rfl dX5_grant_1 ?_
  refine x_iload_n dX5_grant_4 rfl 1 rfl ?_
  obtain ⟨z1, s1, h1, h⟩ := x_b_e h
  refine x_callV (As := [.int a1]) (st := []) (eX0_portAt (Nat.le_of_ble_eq_true rfl) h1) cv_X5_52 (Nat.le_of_ble_eq_true rfl) (ok_a (K := 0) (Nat.le_of_ble_eq_true rfl) (Nat.le_of_ble_eq_true rfl)) rfl (Nat.le_of_ble_eq_true rfl) _ rfl dX5_grant_5 [x_nvP w z1] rfl ?_
  rcases z1 with _ | t1
  · refine x_st [.null] rfl ?_
    refine x_astore_nN dX5_grant_8 rfl (Nat.le_of_ble_eq_true rfl) [(3, .null), (0, .ref (w.2.2 4 20 0 0)), (1, .int a1), (2, .int a2)] rfl ?_
    refine x_aload_nN dX5_grant_9 rfl 0 rfl ?_
    refine x_ifnonnullN dX5_grant_10 ?_
    refine x_iconst (x := (-1)) dX5_grant_13 (by decide) ?_
    exact x_iretH rfl dX5_grant_14 h
  · obtain ⟨hg1, h⟩ := x_g_e h
    refine x_st [.ref (w.2.2 t1.1 13 t1.2 0)] rfl ?_
    refine x_astore_n dX5_grant_8 rfl (Nat.le_of_ble_eq_true rfl) [(3, .ref (w.2.2 t1.1 13 t1.2 0)), (0, .ref (w.2.2 4 20 0 0)), (1, .int a1), (2, .int a2)] rfl ?_
    refine x_aload_n dX5_grant_9 rfl 0 rfl ?_
    refine x_ifnonnullR (tgt := 15) dX5_grant_10 rfl ?_
    refine x_iload_n dX5_grant_15 rfl 3 rfl ?_
    refine x_iconst (x := 1) dX5_grant_16 rfl ?_
    refine x_bipush (x := 32) dX5_grant_17 rfl ?_
    obtain ⟨z2, s2, h2, h⟩ := x_b_e h
    refine x_callS (As := [.int a2, .int 1, .int 32]) (st := []) (eX5_isOutside  h2) cs_X5_38 (Nat.le_of_ble_eq_true rfl) rfl (Nat.le_of_ble_eq_true rfl) _ rfl dX5_grant_19 [.int z2] rfl ?_
    refine x_if_eq (tgt := 28) dX5_grant_22 rfl (fun hc => ?_) (fun hc => ?_)
    · have h := x_t hc h
      refine x_aload_n dX5_grant_28 rfl 1 rfl ?_
      refine x_getR (d1 := 0) (K1 := 0) (p1 := 0) (r1 := 0) fl_X5_10 ok_e20 rfl dX5_grant_29 ?_
      refine x_aload_n dX5_grant_32 rfl 0 rfl ?_
      refine x_iload_n dX5_grant_33 rfl 2 rfl ?_
      refine x_iload_n dX5_grant_34 rfl 3 rfl ?_
      obtain ⟨z3, s3, h3, h⟩ := x_b_e h
      refine x_callV (As := [.ref (w.2.2 t1.1 13 t1.2 0), .int a1, .int a2]) (st := []) (eX0_giveGrant (Nat.le_of_ble_eq_true rfl) (ok2_d hg1) (ok2_p hg1) h3) cv_X5_118 (Nat.le_of_ble_eq_true rfl) (ok_a (K := 0) (Nat.le_of_ble_eq_true rfl) (Nat.le_of_ble_eq_true rfl)) rfl (Nat.le_of_ble_eq_true rfl) _ rfl dX5_grant_35 [.int z3] rfl ?_
      exact x_iretH rfl dX5_grant_38 h
    · have h := x_f hc h
      refine x_bipush (x := (-2)) dX5_grant_25 (by decide) ?_
      exact x_iretH rfl dX5_grant_27 h
set_option maxRecDepth 100000 in
set_option maxHeartbeats 4000000 in
theorem eX5_withdraw {l : Launch} {w : xW} {a1 : Int32} {σ τ : xS} {r : Int32} (h : fX5_withdraw a1 σ = some (r, τ)) : xEV l w yX5_withdraw mX5_withdraw [.ref (w.2.2 4 20 0 0), .int a1] σ (some (.int r)) τ := by
  rw [fX5_withdraw] at h
  refine x_enter (by decide +kernel) rfl (Nat.le_of_ble_eq_true rfl) ?_
  refine x_sub (L1 := [(0, .ref (w.2.2 4 20 0 0)), (1, .int a1)]) [0, 1] rfl ?_
  refine x_aload_n dX5_withdraw_0 rfl 0 rfl ?_
  refine x_getR (d1 := 0) (K1 := 0) (p1 := 0) (r1 := 0) fl_X5_10 ok_e20 rfl dX5_withdraw_1 ?_
  refine x_iload_n dX5_withdraw_4 rfl 1 rfl ?_
  obtain ⟨z1, s1, h1, h⟩ := x_b_e h
  refine x_callV (As := [.int a1]) (st := []) (eX0_portAt (Nat.le_of_ble_eq_true rfl) h1) cv_X5_52 (Nat.le_of_ble_eq_true rfl) (ok_a (K := 0) (Nat.le_of_ble_eq_true rfl) (Nat.le_of_ble_eq_true rfl)) rfl (Nat.le_of_ble_eq_true rfl) _ rfl dX5_withdraw_5 [x_nvP w z1] rfl ?_
  rcases z1 with _ | t1
  · refine x_st [.null] rfl ?_
    refine x_astore_nN dX5_withdraw_8 rfl (Nat.le_of_ble_eq_true rfl) [(2, .null), (0, .ref (w.2.2 4 20 0 0)), (1, .int a1)] rfl ?_
    refine x_aload_nN dX5_withdraw_9 rfl 0 rfl ?_
    refine x_ifnonnullN dX5_withdraw_10 ?_
    refine x_iconst (x := (-1)) dX5_withdraw_13 (by decide) ?_
    exact x_iretH rfl dX5_withdraw_14 h
  · obtain ⟨hg1, h⟩ := x_g_e h
    refine x_st [.ref (w.2.2 t1.1 13 t1.2 0)] rfl ?_
    refine x_astore_n dX5_withdraw_8 rfl (Nat.le_of_ble_eq_true rfl) [(2, .ref (w.2.2 t1.1 13 t1.2 0)), (0, .ref (w.2.2 4 20 0 0)), (1, .int a1)] rfl ?_
    refine x_aload_n dX5_withdraw_9 rfl 0 rfl ?_
    refine x_ifnonnullR (tgt := 15) dX5_withdraw_10 rfl ?_
    refine x_aload_n dX5_withdraw_15 rfl 0 rfl ?_
    refine x_getI fl_X5_122 (ok_b (K := 13) (Nat.le_of_ble_eq_true rfl) (Nat.le_of_ble_eq_true rfl) (ok2_d hg1) (ok2_p hg1)) rfl dX5_withdraw_16 ?_
    refine x_if_ne (tgt := 25) dX5_withdraw_19 rfl (fun hc => ?_) (fun hc => ?_)
    · have h := x_f hc h
      refine x_aload_n dX5_withdraw_25 rfl 0 rfl ?_
      refine x_getI fl_X5_122 (ok_b (K := 13) (Nat.le_of_ble_eq_true rfl) (Nat.le_of_ble_eq_true rfl) (ok2_d hg1) (ok2_p hg1)) rfl dX5_withdraw_26 ?_
      obtain ⟨t2, ht2, h⟩ := x_let_e h
      refine x_istore_n t2 ht2 dX5_withdraw_29 rfl (Nat.le_of_ble_eq_true rfl) [(3, .int t2), (2, .ref (w.2.2 t1.1 13 t1.2 0)), (0, .ref (w.2.2 4 20 0 0)), (1, .int a1)] rfl ?_
      refine x_aload_n dX5_withdraw_30 rfl 2 rfl ?_
      refine x_getR (d1 := 0) (K1 := 0) (p1 := 0) (r1 := 0) fl_X5_10 ok_e20 rfl dX5_withdraw_31 ?_
      refine x_aload_n dX5_withdraw_34 rfl 1 rfl ?_
      refine x_iload_n dX5_withdraw_35 rfl 3 rfl ?_
      obtain ⟨z3, s3, h3, h⟩ := x_b_e h
      refine x_callV (As := [.ref (w.2.2 t1.1 13 t1.2 0), .int a1]) (st := []) (eX0_endGrant (Nat.le_of_ble_eq_true rfl) (ok2_d hg1) (ok2_p hg1) h3) cv_X5_125 (Nat.le_of_ble_eq_true rfl) (ok_a (K := 0) (Nat.le_of_ble_eq_true rfl) (Nat.le_of_ble_eq_true rfl)) rfl (Nat.le_of_ble_eq_true rfl) _ rfl dX5_withdraw_36 [] rfl ?_
      refine x_iload_n dX5_withdraw_39 rfl 0 rfl ?_
      exact x_iretH rfl dX5_withdraw_40 h
    · have h := x_t hc h
      refine x_bipush (x := (-5)) dX5_withdraw_22 (by decide) ?_
      exact x_iretH rfl dX5_withdraw_24 h
set_option maxRecDepth 100000 in
set_option maxHeartbeats 4000000 in
theorem eX5_arrive {l : Launch} {w : xW} {a1 : Int32} {a2 : Int32} {a3 : Int32} {σ τ : xS} {r : Int32} (h : fX5_arrive a1 a2 a3 σ = some (r, τ)) : xEV l w yX5_arrive mX5_arrive [.ref (w.2.2 4 20 0 0), .int a1, .int a2, .int a3] σ (some (.int r)) τ := by
  rw [fX5_arrive] at h
  refine x_enter (by decide +kernel) rfl (Nat.le_of_ble_eq_true rfl) ?_
  refine x_sub (L1 := [(0, .ref (w.2.2 4 20 0 0)), (1, .int a1), (2, .int a2), (3, .int a3)]) [0, 1, 2, 3] rfl ?_
  refine x_aload_n dX5_arrive_0 rfl 0 rfl ?_
  refine x_getR (d1 := 0) (K1 := 0) (p1 := 0) (r1 := 0) fl_X5_10 ok_e20 rfl dX5_arrive_1 ?_
  refine x_iload_n dX5_arrive_4 rfl 1 rfl ?_
  obtain ⟨z1, s1, h1, h⟩ := x_b_e h
  refine x_callV (As := [.int a1]) (st := []) (eX0_portAt (Nat.le_of_ble_eq_true rfl) h1) cv_X5_52 (Nat.le_of_ble_eq_true rfl) (ok_a (K := 0) (Nat.le_of_ble_eq_true rfl) (Nat.le_of_ble_eq_true rfl)) rfl (Nat.le_of_ble_eq_true rfl) _ rfl dX5_arrive_5 [x_nvP w z1] rfl ?_
  rcases z1 with _ | t1
  · refine x_st [.null] rfl ?_
    refine x_astoreN dX5_arrive_8 (Nat.le_of_ble_eq_true rfl) [(4, .null), (0, .ref (w.2.2 4 20 0 0)), (1, .int a1), (2, .int a2), (3, .int a3)] rfl ?_
    refine x_aload_n dX5_arrive_10 rfl 1 rfl ?_
    refine x_getR (d1 := 0) (K1 := 0) (p1 := 0) (r1 := 0) fl_X5_10 ok_e20 rfl dX5_arrive_11 ?_
    refine x_iload_n dX5_arrive_14 rfl 2 rfl ?_
    refine x_iload_n dX5_arrive_15 rfl 3 rfl ?_
    obtain ⟨z2, s2, h2, h⟩ := x_b_e h
    refine x_callV (As := [.int a1, .int a2]) (st := []) (eX0_queueAt (Nat.le_of_ble_eq_true rfl) h2) cv_X5_74 (Nat.le_of_ble_eq_true rfl) (ok_a (K := 0) (Nat.le_of_ble_eq_true rfl) (Nat.le_of_ble_eq_true rfl)) rfl (Nat.le_of_ble_eq_true rfl) _ rfl dX5_arrive_16 [x_nvQ w z2] rfl ?_
    rcases z2 with _ | t2
    · refine x_st [.null] rfl ?_
      refine x_astoreN dX5_arrive_19 (Nat.le_of_ble_eq_true rfl) [(5, .null), (4, .null), (0, .ref (w.2.2 4 20 0 0)), (1, .int a1), (2, .int a2), (3, .int a3)] rfl ?_
      refine x_aloadN dX5_arrive_21 1 rfl ?_
      refine x_ifnullN (tgt := 31) dX5_arrive_23 rfl ?_
      refine x_iconst (x := (-1)) dX5_arrive_31 (by decide) ?_
      exact x_iretH rfl dX5_arrive_32 h
    · obtain ⟨hg2, h⟩ := x_g_e h
      refine x_st [.ref (w.2.2 t2.1 16 t2.2.1 t2.2.2)] rfl ?_
      refine x_astore dX5_arrive_19 (Nat.le_of_ble_eq_true rfl) [(5, .ref (w.2.2 t2.1 16 t2.2.1 t2.2.2)), (4, .null), (0, .ref (w.2.2 4 20 0 0)), (1, .int a1), (2, .int a2), (3, .int a3)] rfl ?_
      refine x_aloadN dX5_arrive_21 1 rfl ?_
      refine x_ifnullN (tgt := 31) dX5_arrive_23 rfl ?_
      refine x_iconst (x := (-1)) dX5_arrive_31 (by decide) ?_
      exact x_iretH rfl dX5_arrive_32 h
  · obtain ⟨hg1, h⟩ := x_g_e h
    refine x_st [.ref (w.2.2 t1.1 13 t1.2 0)] rfl ?_
    refine x_astore dX5_arrive_8 (Nat.le_of_ble_eq_true rfl) [(4, .ref (w.2.2 t1.1 13 t1.2 0)), (0, .ref (w.2.2 4 20 0 0)), (1, .int a1), (2, .int a2), (3, .int a3)] rfl ?_
    refine x_aload_n dX5_arrive_10 rfl 1 rfl ?_
    refine x_getR (d1 := 0) (K1 := 0) (p1 := 0) (r1 := 0) fl_X5_10 ok_e20 rfl dX5_arrive_11 ?_
    refine x_iload_n dX5_arrive_14 rfl 2 rfl ?_
    refine x_iload_n dX5_arrive_15 rfl 3 rfl ?_
    obtain ⟨z3, s3, h3, h⟩ := x_b_e h
    refine x_callV (As := [.int a1, .int a2]) (st := []) (eX0_queueAt (Nat.le_of_ble_eq_true rfl) h3) cv_X5_74 (Nat.le_of_ble_eq_true rfl) (ok_a (K := 0) (Nat.le_of_ble_eq_true rfl) (Nat.le_of_ble_eq_true rfl)) rfl (Nat.le_of_ble_eq_true rfl) _ rfl dX5_arrive_16 [x_nvQ w z3] rfl ?_
    rcases z3 with _ | t3
    · refine x_st [.null] rfl ?_
      refine x_astoreN dX5_arrive_19 (Nat.le_of_ble_eq_true rfl) [(5, .null), (4, .ref (w.2.2 t1.1 13 t1.2 0)), (0, .ref (w.2.2 4 20 0 0)), (1, .int a1), (2, .int a2), (3, .int a3)] rfl ?_
      refine x_aload dX5_arrive_21 1 rfl ?_
      refine x_ifnullR dX5_arrive_23 ?_
      refine x_aloadN dX5_arrive_26 0 rfl ?_
      refine x_ifnonnullN dX5_arrive_28 ?_
      refine x_iconst (x := (-1)) dX5_arrive_31 (by decide) ?_
      exact x_iretH rfl dX5_arrive_32 h
    · obtain ⟨hg3, h⟩ := x_g_e h
      refine x_st [.ref (w.2.2 t3.1 16 t3.2.1 t3.2.2)] rfl ?_
      refine x_astore dX5_arrive_19 (Nat.le_of_ble_eq_true rfl) [(5, .ref (w.2.2 t3.1 16 t3.2.1 t3.2.2)), (4, .ref (w.2.2 t1.1 13 t1.2 0)), (0, .ref (w.2.2 4 20 0 0)), (1, .int a1), (2, .int a2), (3, .int a3)] rfl ?_
      refine x_aload dX5_arrive_21 1 rfl ?_
      refine x_ifnullR dX5_arrive_23 ?_
      refine x_aload dX5_arrive_26 0 rfl ?_
      refine x_ifnonnullR (tgt := 33) dX5_arrive_28 rfl ?_
      refine x_iload_n dX5_arrive_33 rfl 5 rfl ?_
      refine x_iconst (x := 1) dX5_arrive_34 rfl ?_
      refine x_bipush (x := 12) dX5_arrive_35 rfl ?_
      obtain ⟨z4, s4, h4, h⟩ := x_b_e h
      refine x_callS (As := [.int a3, .int 1, .int 12]) (st := []) (eX5_isOutside  h4) cs_X5_38 (Nat.le_of_ble_eq_true rfl) rfl (Nat.le_of_ble_eq_true rfl) _ rfl dX5_arrive_37 [.int z4] rfl ?_
      refine x_if_eq (tgt := 46) dX5_arrive_40 rfl (fun hc => ?_) (fun hc => ?_)
      · have h := x_t hc h
        refine x_aload_n dX5_arrive_46 rfl 2 rfl ?_
        refine x_getR (d1 := 0) (K1 := 0) (p1 := 0) (r1 := 0) fl_X5_10 ok_e20 rfl dX5_arrive_47 ?_
        refine x_aload dX5_arrive_50 1 rfl ?_
        refine x_aload dX5_arrive_52 0 rfl ?_
        refine x_iload_n dX5_arrive_54 rfl 5 rfl ?_
        obtain ⟨z5, s5, h5, h⟩ := x_b_e h
        refine x_callV (As := [.ref (w.2.2 t1.1 13 t1.2 0), .ref (w.2.2 t3.1 16 t3.2.1 t3.2.2), .int a3]) (st := []) (eX0_receive (Nat.le_of_ble_eq_true rfl) (ok2_d hg1) (ok2_p hg1) (ok3_d hg3) (ok3_p hg3) (ok3_r hg3) h5) cv_X5_129 (Nat.le_of_ble_eq_true rfl) (ok_a (K := 0) (Nat.le_of_ble_eq_true rfl) (Nat.le_of_ble_eq_true rfl)) rfl (Nat.le_of_ble_eq_true rfl) _ rfl dX5_arrive_55 [.int z5] rfl ?_
        exact x_iretH rfl dX5_arrive_58 h
      · have h := x_f hc h
        refine x_bipush (x := (-2)) dX5_arrive_43 (by decide) ?_
        exact x_iretH rfl dX5_arrive_45 h
set_option maxRecDepth 100000 in
set_option maxHeartbeats 4000000 in
theorem TX5_ticks_17 {l : Launch} {w : xW} {a1 : Int32} {τ : xS} {r : Int32} : ∀ (n : Nat) (a2 : Int32) (a3 : Int32) (σ : xS), BX5_ticks_17 a1 n a2 a3 σ = some (r, τ) → xAt l w mX5_ticks 17 [(0, .ref (w.2.2 4 20 0 0)), (1, .int a1), (2, .int a2), (3, .int a3)] [] σ (some (.int r)) τ := by
  intro n
  induction n with
  | zero => intro a2 a3 σ h; cases h
  | succ n ih =>
    intro a2 a3 σ h
    rw [BX5_ticks_17] at h
    refine x_iload_n dX5_ticks_17 rfl 3 rfl ?_
    refine x_iload_n dX5_ticks_18 rfl 1 rfl ?_
    refine x_icmp_ge (tgt := 38) dX5_ticks_19 rfl (fun hc => ?_) (fun hc => ?_)
    · have h := x_t hc h
      refine x_iload_n dX5_ticks_38 rfl 2 rfl ?_
      exact x_iretH rfl dX5_ticks_39 h
    · have h := x_f hc h
      refine x_iload_n dX5_ticks_22 rfl 2 rfl ?_
      refine x_aload_n dX5_ticks_23 rfl 0 rfl ?_
      refine x_getR (d1 := 0) (K1 := 0) (p1 := 0) (r1 := 0) fl_X5_10 ok_e20 rfl dX5_ticks_24 ?_
      obtain ⟨z2, s2, h2, h⟩ := x_b_e h
      refine x_callV (As := []) (st := [.int a2]) (eX0_passTick (Nat.le_of_ble_eq_true rfl) h2) cv_X5_133 (Nat.le_of_ble_eq_true rfl) (ok_a (K := 0) (Nat.le_of_ble_eq_true rfl) (Nat.le_of_ble_eq_true rfl)) rfl (Nat.le_of_ble_eq_true rfl) _ rfl dX5_ticks_27 [.int z2, .int a2] rfl ?_
      refine x_iadd dX5_ticks_30 ?_
      obtain ⟨t3, ht3, h⟩ := x_let_e h
      refine x_istore_n t3 ht3 dX5_ticks_31 rfl (Nat.le_of_ble_eq_true rfl) [(2, .int t3), (0, .ref (w.2.2 4 20 0 0)), (1, .int a1), (3, .int a3)] rfl ?_
      obtain ⟨t4, ht4, h⟩ := x_let_e h
      refine x_iinc t4 1 rfl ht4 dX5_ticks_32 3 rfl (Nat.le_of_ble_eq_true rfl) [(3, .int t4), (2, .int t3), (0, .ref (w.2.2 4 20 0 0)), (1, .int a1)] rfl ?_
      refine x_goto (tgt := 17) dX5_ticks_35 rfl ?_
      refine x_sub (L1 := [(0, .ref (w.2.2 4 20 0 0)), (1, .int a1), (2, .int t3), (3, .int t4)]) [2, 3, 1, 0] rfl ?_
      exact ih _ _ _ h
set_option maxRecDepth 100000 in
set_option maxHeartbeats 4000000 in
theorem eX5_ticks {l : Launch} {w : xW} {a1 : Int32} {σ τ : xS} {r : Int32} (h : fX5_ticks a1 σ = some (r, τ)) : xEV l w yX5_ticks mX5_ticks [.ref (w.2.2 4 20 0 0), .int a1] σ (some (.int r)) τ := by
  rw [fX5_ticks] at h
  refine x_enter (by decide +kernel) rfl (Nat.le_of_ble_eq_true rfl) ?_
  refine x_sub (L1 := [(0, .ref (w.2.2 4 20 0 0)), (1, .int a1)]) [0, 1] rfl ?_
  refine x_iload_n dX5_ticks_0 rfl 1 rfl ?_
  refine x_iconst (x := 1) dX5_ticks_1 rfl ?_
  refine x_bipush (x := 20) dX5_ticks_2 rfl ?_
  obtain ⟨z1, s1, h1, h⟩ := x_b_e h
  refine x_callS (As := [.int a1, .int 1, .int 20]) (st := []) (eX5_isOutside  h1) cs_X5_38 (Nat.le_of_ble_eq_true rfl) rfl (Nat.le_of_ble_eq_true rfl) _ rfl dX5_ticks_4 [.int z1] rfl ?_
  refine x_if_eq (tgt := 13) dX5_ticks_7 rfl (fun hc => ?_) (fun hc => ?_)
  · have h := x_t hc h
    refine x_iconst (x := 0) dX5_ticks_13 rfl ?_
    refine x_istore_n 0 rfl dX5_ticks_14 rfl (Nat.le_of_ble_eq_true rfl) [(2, .int 0), (0, .ref (w.2.2 4 20 0 0)), (1, .int a1)] rfl ?_
    refine x_iconst (x := 0) dX5_ticks_15 rfl ?_
    refine x_istore_n 0 rfl dX5_ticks_16 rfl (Nat.le_of_ble_eq_true rfl) [(3, .int 0), (2, .int 0), (0, .ref (w.2.2 4 20 0 0)), (1, .int a1)] rfl ?_
    refine x_sub (L1 := [(0, .ref (w.2.2 4 20 0 0)), (1, .int a1), (2, .int 0), (3, .int 0)]) [2, 3, 1, 0] rfl ?_
    exact TX5_ticks_17 _ _ _ _ h
  · have h := x_f hc h
    refine x_bipush (x := (-2)) dX5_ticks_10 (by decide) ?_
    exact x_iretH rfl dX5_ticks_12 h
set_option maxRecDepth 100000 in
set_option maxHeartbeats 4000000 in
theorem eX5_flush {l : Launch} {w : xW} {a1 : Int32} {σ τ : xS} {r : Int32} (h : fX5_flush a1 σ = some (r, τ)) : xEV l w yX5_flush mX5_flush [.ref (w.2.2 4 20 0 0), .int a1] σ (some (.int r)) τ := by
  rw [fX5_flush] at h
  refine x_enter (by decide +kernel) rfl (Nat.le_of_ble_eq_true rfl) ?_
  refine x_sub (L1 := [(0, .ref (w.2.2 4 20 0 0)), (1, .int a1)]) [0, 1] rfl ?_
  refine x_aload_n dX5_flush_0 rfl 0 rfl ?_
  refine x_getR (d1 := 0) (K1 := 0) (p1 := 0) (r1 := 0) fl_X5_10 ok_e20 rfl dX5_flush_1 ?_
  refine x_iload_n dX5_flush_4 rfl 1 rfl ?_
  obtain ⟨z1, s1, h1, h⟩ := x_b_e h
  refine x_callV (As := [.int a1]) (st := []) (eX0_portAt (Nat.le_of_ble_eq_true rfl) h1) cv_X5_52 (Nat.le_of_ble_eq_true rfl) (ok_a (K := 0) (Nat.le_of_ble_eq_true rfl) (Nat.le_of_ble_eq_true rfl)) rfl (Nat.le_of_ble_eq_true rfl) _ rfl dX5_flush_5 [x_nvP w z1] rfl ?_
  rcases z1 with _ | t1
  · refine x_st [.null] rfl ?_
    refine x_astore_nN dX5_flush_8 rfl (Nat.le_of_ble_eq_true rfl) [(2, .null), (0, .ref (w.2.2 4 20 0 0)), (1, .int a1)] rfl ?_
    refine x_aload_nN dX5_flush_9 rfl 0 rfl ?_
    refine x_ifnonnullN dX5_flush_10 ?_
    refine x_iconst (x := (-1)) dX5_flush_13 (by decide) ?_
    exact x_iretH rfl dX5_flush_14 h
  · obtain ⟨hg1, h⟩ := x_g_e h
    refine x_st [.ref (w.2.2 t1.1 13 t1.2 0)] rfl ?_
    refine x_astore_n dX5_flush_8 rfl (Nat.le_of_ble_eq_true rfl) [(2, .ref (w.2.2 t1.1 13 t1.2 0)), (0, .ref (w.2.2 4 20 0 0)), (1, .int a1)] rfl ?_
    refine x_aload_n dX5_flush_9 rfl 0 rfl ?_
    refine x_ifnonnullR (tgt := 15) dX5_flush_10 rfl ?_
    refine x_aload_n dX5_flush_15 rfl 1 rfl ?_
    refine x_getR (d1 := 0) (K1 := 0) (p1 := 0) (r1 := 0) fl_X5_10 ok_e20 rfl dX5_flush_16 ?_
    refine x_aload_n dX5_flush_19 rfl 0 rfl ?_
    obtain ⟨z2, s2, h2, h⟩ := x_b_e h
    refine x_callV (As := [.ref (w.2.2 t1.1 13 t1.2 0)]) (st := []) (eX0_discardAll (Nat.le_of_ble_eq_true rfl) (ok2_d hg1) (ok2_p hg1) h2) cv_X5_136 (Nat.le_of_ble_eq_true rfl) (ok_a (K := 0) (Nat.le_of_ble_eq_true rfl) (Nat.le_of_ble_eq_true rfl)) rfl (Nat.le_of_ble_eq_true rfl) _ rfl dX5_flush_20 [.int z2] rfl ?_
    exact x_iretH rfl dX5_flush_23 h
set_option maxRecDepth 100000 in
set_option maxHeartbeats 4000000 in
theorem TX5_lossOfArrivals_16 {l : Launch} {w : xW} {d1 : Nat} {p1 : Nat} {d2 : Nat} {p2 : Nat} {r2 : Nat} {a3 : Int32} {a4 : Int32} (hd1 : d1 < 4) (hp1 : p1 < 6) (hd2 : d2 < 4) (hp2 : p2 < 6) (hr2 : r2 < 3) {τ : xS} {r : Int32} : ∀ (n : Nat) (a5 : Int32) (a6 : Int32) (σ : xS), BX5_lossOfArrivals_16 d1 p1 d2 p2 r2 a3 a4 n a5 a6 σ = some (r, τ) → xAt l w mX5_lossOfArrivals 16 [(0, .ref (w.2.2 4 20 0 0)), (1, .ref (w.2.2 d1 13 p1 0)), (2, .ref (w.2.2 d2 16 p2 r2)), (3, .int a3), (4, .int a4), (5, .int a5), (6, .int a6)] [] σ (some (.int r)) τ := by
  intro n
  induction n with
  | zero => intro a5 a6 σ h; cases h
  | succ n ih =>
    intro a5 a6 σ h
    rw [BX5_lossOfArrivals_16] at h
    refine x_iload dX5_lossOfArrivals_16 6 rfl ?_
    refine x_iload dX5_lossOfArrivals_18 4 rfl ?_
    refine x_icmp_ge (tgt := 47) dX5_lossOfArrivals_20 rfl (fun hc => ?_) (fun hc => ?_)
    · have h := x_t hc h
      refine x_iload dX5_lossOfArrivals_47 5 rfl ?_
      exact x_iretH rfl dX5_lossOfArrivals_49 h
    · have h := x_f hc h
      refine x_aload_n dX5_lossOfArrivals_23 rfl 0 rfl ?_
      refine x_getR (d1 := 0) (K1 := 0) (p1 := 0) (r1 := 0) fl_X5_10 ok_e20 rfl dX5_lossOfArrivals_24 ?_
      refine x_aload_n dX5_lossOfArrivals_27 rfl 1 rfl ?_
      refine x_aload_n dX5_lossOfArrivals_28 rfl 2 rfl ?_
      refine x_iload_n dX5_lossOfArrivals_29 rfl 3 rfl ?_
      obtain ⟨z1, s1, h1, h⟩ := x_b_e h
      refine x_callV (As := [.ref (w.2.2 d1 13 p1 0), .ref (w.2.2 d2 16 p2 r2), .int a3]) (st := []) (eX0_receive (Nat.le_of_ble_eq_true rfl) hd1 hp1 hd2 hp2 hr2 h1) cv_X5_129 (Nat.le_of_ble_eq_true rfl) (ok_a (K := 0) (Nat.le_of_ble_eq_true rfl) (Nat.le_of_ble_eq_true rfl)) rfl (Nat.le_of_ble_eq_true rfl) _ rfl dX5_lossOfArrivals_30 [.int z1] rfl ?_
      refine x_bipush (x := (-6)) dX5_lossOfArrivals_33 (by decide) ?_
      refine x_icmp_ne (tgt := 41) dX5_lossOfArrivals_35 rfl (fun hc => ?_) (fun hc => ?_)
      · have h := x_f hc h
        obtain ⟨t2, ht2, h⟩ := x_let_e h
        refine x_iinc t2 1 rfl ht2 dX5_lossOfArrivals_41 6 rfl (Nat.le_of_ble_eq_true rfl) [(6, .int t2), (0, .ref (w.2.2 4 20 0 0)), (1, .ref (w.2.2 d1 13 p1 0)), (2, .ref (w.2.2 d2 16 p2 r2)), (3, .int a3), (4, .int a4), (5, .int a5)] rfl ?_
        refine x_goto (tgt := 16) dX5_lossOfArrivals_44 rfl ?_
        refine x_sub (L1 := [(0, .ref (w.2.2 4 20 0 0)), (1, .ref (w.2.2 d1 13 p1 0)), (2, .ref (w.2.2 d2 16 p2 r2)), (3, .int a3), (4, .int a4), (5, .int a5), (6, .int t2)]) [1, 2, 3, 4, 5, 6, 0] rfl ?_
        exact ih _ _ _ h
      · have h := x_t hc h
        obtain ⟨t3, ht3, h⟩ := x_let_e h
        refine x_iinc t3 1 rfl ht3 dX5_lossOfArrivals_38 5 rfl (Nat.le_of_ble_eq_true rfl) [(5, .int t3), (0, .ref (w.2.2 4 20 0 0)), (1, .ref (w.2.2 d1 13 p1 0)), (2, .ref (w.2.2 d2 16 p2 r2)), (3, .int a3), (4, .int a4), (6, .int a6)] rfl ?_
        obtain ⟨t4, ht4, h⟩ := x_let_e h
        refine x_iinc t4 1 rfl ht4 dX5_lossOfArrivals_41 6 rfl (Nat.le_of_ble_eq_true rfl) [(6, .int t4), (5, .int t3), (0, .ref (w.2.2 4 20 0 0)), (1, .ref (w.2.2 d1 13 p1 0)), (2, .ref (w.2.2 d2 16 p2 r2)), (3, .int a3), (4, .int a4)] rfl ?_
        refine x_goto (tgt := 16) dX5_lossOfArrivals_44 rfl ?_
        refine x_sub (L1 := [(0, .ref (w.2.2 4 20 0 0)), (1, .ref (w.2.2 d1 13 p1 0)), (2, .ref (w.2.2 d2 16 p2 r2)), (3, .int a3), (4, .int a4), (5, .int t3), (6, .int t4)]) [2, 3, 4, 5, 6, 1, 0] rfl ?_
        exact ih _ _ _ h
set_option maxRecDepth 100000 in
set_option maxHeartbeats 4000000 in
theorem eX5_lossOfArrivals {l : Launch} {w : xW} {o1 : Option (Nat × Nat)} {o2 : Option (Nat × Nat × Nat)} {a3 : Int32} {a4 : Int32} {σ τ : xS} {r : Int32} (h : fX5_lossOfArrivals o1 o2 a3 a4 σ = some (r, τ)) : xEV l w yX5_lossOfArrivals mX5_lossOfArrivals [.ref (w.2.2 4 20 0 0), x_nvP w o1, x_nvQ w o2, .int a3, .int a4] σ (some (.int r)) τ := by
  rw [fX5_lossOfArrivals.eq_def] at h
  rcases o1 with _ | w1
  · skip
    rcases o2 with _ | w2
    · skip
      refine x_enter (by decide +kernel) rfl (Nat.le_of_ble_eq_true rfl) ?_
      refine x_sub (L1 := [(0, .ref (w.2.2 4 20 0 0)), (1, .null), (2, .null), (3, .int a3), (4, .int a4)]) [0, 1, 2, 3, 4] rfl ?_
      refine x_aload_nN dX5_lossOfArrivals_0 rfl 1 rfl ?_
      refine x_ifnullN (tgt := 8) dX5_lossOfArrivals_1 rfl ?_
      refine x_iconst (x := 0) dX5_lossOfArrivals_8 rfl ?_
      exact x_iretH rfl dX5_lossOfArrivals_9 h
    · obtain ⟨hw2, h⟩ := x_g_e h
      refine x_enter (by decide +kernel) rfl (Nat.le_of_ble_eq_true rfl) ?_
      refine x_sub (L1 := [(0, .ref (w.2.2 4 20 0 0)), (1, .null), (2, .ref (w.2.2 w2.1 16 w2.2.1 w2.2.2)), (3, .int a3), (4, .int a4)]) [0, 1, 2, 3, 4] rfl ?_
      refine x_aload_nN dX5_lossOfArrivals_0 rfl 1 rfl ?_
      refine x_ifnullN (tgt := 8) dX5_lossOfArrivals_1 rfl ?_
      refine x_iconst (x := 0) dX5_lossOfArrivals_8 rfl ?_
      exact x_iretH rfl dX5_lossOfArrivals_9 h
  · obtain ⟨hw1, h⟩ := x_g_e h
    rcases o2 with _ | w2
    · skip
      refine x_enter (by decide +kernel) rfl (Nat.le_of_ble_eq_true rfl) ?_
      refine x_sub (L1 := [(0, .ref (w.2.2 4 20 0 0)), (1, .ref (w.2.2 w1.1 13 w1.2 0)), (2, .null), (3, .int a3), (4, .int a4)]) [0, 1, 2, 3, 4] rfl ?_
      refine x_aload_n dX5_lossOfArrivals_0 rfl 1 rfl ?_
      refine x_ifnullR dX5_lossOfArrivals_1 ?_
      refine x_aload_nN dX5_lossOfArrivals_4 rfl 2 rfl ?_
      refine x_ifnonnullN dX5_lossOfArrivals_5 ?_
      refine x_iconst (x := 0) dX5_lossOfArrivals_8 rfl ?_
      exact x_iretH rfl dX5_lossOfArrivals_9 h
    · obtain ⟨hw2, h⟩ := x_g_e h
      refine x_enter (by decide +kernel) rfl (Nat.le_of_ble_eq_true rfl) ?_
      refine x_sub (L1 := [(0, .ref (w.2.2 4 20 0 0)), (1, .ref (w.2.2 w1.1 13 w1.2 0)), (2, .ref (w.2.2 w2.1 16 w2.2.1 w2.2.2)), (3, .int a3), (4, .int a4)]) [0, 1, 2, 3, 4] rfl ?_
      refine x_aload_n dX5_lossOfArrivals_0 rfl 1 rfl ?_
      refine x_ifnullR dX5_lossOfArrivals_1 ?_
      refine x_aload_n dX5_lossOfArrivals_4 rfl 2 rfl ?_
      refine x_ifnonnullR (tgt := 10) dX5_lossOfArrivals_5 rfl ?_
      refine x_iconst (x := 0) dX5_lossOfArrivals_10 rfl ?_
      refine x_istore 0 rfl dX5_lossOfArrivals_11 (Nat.le_of_ble_eq_true rfl) [(5, .int 0), (0, .ref (w.2.2 4 20 0 0)), (1, .ref (w.2.2 w1.1 13 w1.2 0)), (2, .ref (w.2.2 w2.1 16 w2.2.1 w2.2.2)), (3, .int a3), (4, .int a4)] rfl ?_
      refine x_iconst (x := 0) dX5_lossOfArrivals_13 rfl ?_
      refine x_istore 0 rfl dX5_lossOfArrivals_14 (Nat.le_of_ble_eq_true rfl) [(6, .int 0), (5, .int 0), (0, .ref (w.2.2 4 20 0 0)), (1, .ref (w.2.2 w1.1 13 w1.2 0)), (2, .ref (w.2.2 w2.1 16 w2.2.1 w2.2.2)), (3, .int a3), (4, .int a4)] rfl ?_
      refine x_sub (L1 := [(0, .ref (w.2.2 4 20 0 0)), (1, .ref (w.2.2 w1.1 13 w1.2 0)), (2, .ref (w.2.2 w2.1 16 w2.2.1 w2.2.2)), (3, .int a3), (4, .int a4), (5, .int 0), (6, .int 0)]) [2, 3, 4, 5, 6, 1, 0] rfl ?_
      exact TX5_lossOfArrivals_16 (ok2_d hw1) (ok2_p hw1) (ok3_d hw2) (ok3_p hw2) (ok3_r hw2) _ _ _ _ h
set_option maxRecDepth 100000 in
set_option maxHeartbeats 4000000 in
theorem TX5_traffic_58 {l : Launch} {w : xW} {a2 : Int32} {a3 : Int32} {a4 : Int32} {a8 : Int32} {k49 : Int64 → Int32 → Int32 → xS → Option (Int32 × xS)} {τ : xS} {r : Int32} (hk49 : ∀ (g5 : Int64) (a7 : Int32) (a8 : Int32) (σ1 : xS), k49 g5 a7 a8 σ1 = some (r, τ) → xAt l w mX5_traffic 49 [(0, .ref (w.2.2 4 20 0 0)), (2, .int a2), (3, .int a3), (4, .int a4), (5, .long g5), (7, .int a7), (8, .int a8)] [] σ1 (some (.int r)) τ) : ∀ (n : Nat) (g5 : Int64) (a7 : Int32) (a9 : Int32) (σ : xS), BX5_traffic_58 a2 a3 a4 a8 k49 n g5 a7 a9 σ = some (r, τ) → xAt l w mX5_traffic 58 [(0, .ref (w.2.2 4 20 0 0)), (2, .int a2), (3, .int a3), (4, .int a4), (5, .long g5), (7, .int a7), (8, .int a8), (9, .int a9)] [] σ (some (.int r)) τ := by
  intro n
  induction n with
  | zero => intro g5 a7 a9 σ h; cases h
  | succ n ih =>
    intro g5 a7 a9 σ h
    rw [BX5_traffic_58] at h
    refine x_iload dX5_traffic_58 7 rfl ?_
    refine x_iload_n dX5_traffic_60 rfl 2 rfl ?_
    refine x_icmp_ge (tgt := 154) dX5_traffic_61 rfl (fun hc => ?_) (fun hc => ?_)
    · have h := x_t hc h
      refine x_aload_n dX5_traffic_154 rfl 0 rfl ?_
      refine x_getR (d1 := 0) (K1 := 0) (p1 := 0) (r1 := 0) fl_X5_10 ok_e20 rfl dX5_traffic_155 ?_
      obtain ⟨z5, s5, h5, h⟩ := x_b_e h
      refine x_callV (As := []) (st := []) (eX0_passTick (Nat.le_of_ble_eq_true rfl) h5) cv_X5_133 (Nat.le_of_ble_eq_true rfl) (ok_a (K := 0) (Nat.le_of_ble_eq_true rfl) (Nat.le_of_ble_eq_true rfl)) rfl (Nat.le_of_ble_eq_true rfl) _ rfl dX5_traffic_158 [.int z5] rfl ?_
      refine x_pop dX5_traffic_161 rfl ?_
      obtain ⟨t6, ht6, h⟩ := x_let_e h
      refine x_iinc t6 1 rfl ht6 dX5_traffic_162 6 rfl (Nat.le_of_ble_eq_true rfl) [(8, .int t6), (0, .ref (w.2.2 4 20 0 0)), (2, .int a2), (3, .int a3), (4, .int a4), (5, .long g5), (7, .int a7), (9, .int a9)] rfl ?_
      refine x_goto (tgt := 49) dX5_traffic_165 rfl ?_
      refine x_sub (L1 := [(0, .ref (w.2.2 4 20 0 0)), (2, .int a2), (3, .int a3), (4, .int a4), (5, .long g5), (7, .int a7), (8, .int t6)]) [1, 2, 3, 4, 5, 6, 0] rfl ?_
      exact hk49 _ _ _ _ h
    · have h := x_f hc h
      refine x_lload dX5_traffic_64 4 rfl ?_
      refine x_ldc2 (x := 1103515245) dX5_traffic_66 tk_X5_149 ?_
      refine x_lmul dX5_traffic_69 ?_
      refine x_ldc2 (x := 12345) dX5_traffic_70 tk_X5_151 ?_
      refine x_ladd dX5_traffic_73 ?_
      refine x_ldc2 (x := 2147483648) dX5_traffic_74 tk_X5_153 ?_
      refine x_lrem dX5_traffic_77 (by decide) ?_
      obtain ⟨t7, ht7, h⟩ := x_let_e h
      refine x_lstore t7 ht7 dX5_traffic_78 (Nat.le_of_ble_eq_true rfl) [(5, .long t7), (0, .ref (w.2.2 4 20 0 0)), (2, .int a2), (3, .int a3), (4, .int a4), (7, .int a7), (8, .int a8), (9, .int a9)] rfl ?_
      refine x_lload dX5_traffic_80 0 rfl ?_
      refine x_ldc2 (x := 65536) dX5_traffic_82 tk_X5_155 ?_
      refine x_ldiv dX5_traffic_85 (by decide) ?_
      refine x_l2i dX5_traffic_86 ?_
      obtain ⟨t8, ht8, h⟩ := x_let_e h
      refine x_istore t8 ht8 dX5_traffic_87 (Nat.le_of_ble_eq_true rfl) [(10, .int t8), (5, .long t7), (0, .ref (w.2.2 4 20 0 0)), (2, .int a2), (3, .int a3), (4, .int a4), (7, .int a7), (8, .int a8), (9, .int a9)] rfl ?_
      refine x_aload_n dX5_traffic_89 rfl 2 rfl ?_
      refine x_getR (d1 := 0) (K1 := 0) (p1 := 0) (r1 := 0) fl_X5_10 ok_e20 rfl dX5_traffic_90 ?_
      refine x_iload dX5_traffic_93 0 rfl ?_
      refine x_iload dX5_traffic_95 5 rfl ?_
      obtain ⟨hg9, h⟩ := x_nz_e h
      refine x_irem dX5_traffic_97 hg9 ?_
      obtain ⟨z10, s10, h10, h⟩ := x_b_e h
      refine x_callV (As := [.int (t8 - t8 / a4 * a4)]) (st := []) (eX0_portAt (Nat.le_of_ble_eq_true rfl) h10) cv_X5_52 (Nat.le_of_ble_eq_true rfl) (ok_a (K := 0) (Nat.le_of_ble_eq_true rfl) (Nat.le_of_ble_eq_true rfl)) rfl (Nat.le_of_ble_eq_true rfl) _ rfl dX5_traffic_98 [x_nvP w z10] rfl ?_
      rcases z10 with _ | t10
      · refine x_st [.null] rfl ?_
        refine x_astoreN dX5_traffic_101 (Nat.le_of_ble_eq_true rfl) [(11, .null), (10, .int t8), (5, .long t7), (0, .ref (w.2.2 4 20 0 0)), (2, .int a2), (3, .int a3), (4, .int a4), (7, .int a7), (8, .int a8), (9, .int a9)] rfl ?_
        refine x_aload_n dX5_traffic_103 rfl 3 rfl ?_
        refine x_getR (d1 := 0) (K1 := 0) (p1 := 0) (r1 := 0) fl_X5_10 ok_e20 rfl dX5_traffic_104 ?_
        refine x_iload dX5_traffic_107 1 rfl ?_
        refine x_iload dX5_traffic_109 6 rfl ?_
        obtain ⟨hg11, h⟩ := x_nz_e h
        refine x_irem dX5_traffic_111 hg11 ?_
        refine x_iload dX5_traffic_112 1 rfl ?_
        refine x_bipush (x := 8) dX5_traffic_114 rfl ?_
        refine x_idiv dX5_traffic_116 (by decide) ?_
        refine x_iconst (x := 3) dX5_traffic_117 rfl ?_
        refine x_irem dX5_traffic_118 (by decide) ?_
        obtain ⟨z12, s12, h12, h⟩ := x_b_e h
        refine x_callV (As := [.int (t8 - t8 / a4 * a4), .int ((t8 / 8) - (t8 / 8) / 3 * 3)]) (st := []) (eX0_queueAt (Nat.le_of_ble_eq_true rfl) h12) cv_X5_74 (Nat.le_of_ble_eq_true rfl) (ok_a (K := 0) (Nat.le_of_ble_eq_true rfl) (Nat.le_of_ble_eq_true rfl)) rfl (Nat.le_of_ble_eq_true rfl) _ rfl dX5_traffic_119 [x_nvQ w z12] rfl ?_
        rcases z12 with _ | t12
        · refine x_st [.null] rfl ?_
          refine x_astoreN dX5_traffic_122 (Nat.le_of_ble_eq_true rfl) [(12, .null), (11, .null), (10, .int t8), (5, .long t7), (0, .ref (w.2.2 4 20 0 0)), (2, .int a2), (3, .int a3), (4, .int a4), (7, .int a7), (8, .int a8), (9, .int a9)] rfl ?_
          refine x_iload dX5_traffic_124 8 rfl ?_
          refine x_aload_n dX5_traffic_126 rfl 4 rfl ?_
          refine x_aloadN dX5_traffic_127 1 rfl ?_
          refine x_aloadN dX5_traffic_129 0 rfl ?_
          refine x_iload dX5_traffic_131 2 rfl ?_
          refine x_bipush (x := 32) dX5_traffic_133 rfl ?_
          refine x_idiv dX5_traffic_135 (by decide) ?_
          refine x_bipush (x := 12) dX5_traffic_136 rfl ?_
          refine x_irem dX5_traffic_138 (by decide) ?_
          refine x_iconst (x := 1) dX5_traffic_139 rfl ?_
          refine x_iadd dX5_traffic_140 ?_
          refine x_iconst (x := 1) dX5_traffic_141 rfl ?_
          obtain ⟨z13, s13, h13, h⟩ := x_b_e h
          refine x_callV (As := [.null, .null, .int (((t8 / 32) - (t8 / 32) / 12 * 12) + 1), .int 1]) (st := [.int a7]) (eX5_lossOfArrivals (o1 := none) (o2 := none)  h13) cv_X5_157 (Nat.le_of_ble_eq_true rfl) ok_e20 rfl (Nat.le_of_ble_eq_true rfl) _ rfl dX5_traffic_142 [.int z13, .int a7] rfl ?_
          refine x_iadd dX5_traffic_145 ?_
          obtain ⟨t14, ht14, h⟩ := x_let_e h
          refine x_istore t14 ht14 dX5_traffic_146 (Nat.le_of_ble_eq_true rfl) [(7, .int t14), (12, .null), (11, .null), (10, .int t8), (5, .long t7), (0, .ref (w.2.2 4 20 0 0)), (2, .int a2), (3, .int a3), (4, .int a4), (8, .int a8), (9, .int a9)] rfl ?_
          obtain ⟨t15, ht15, h⟩ := x_let_e h
          refine x_iinc t15 1 rfl ht15 dX5_traffic_148 10 rfl (Nat.le_of_ble_eq_true rfl) [(9, .int t15), (7, .int t14), (12, .null), (11, .null), (10, .int t8), (5, .long t7), (0, .ref (w.2.2 4 20 0 0)), (2, .int a2), (3, .int a3), (4, .int a4), (8, .int a8)] rfl ?_
          refine x_goto (tgt := 58) dX5_traffic_151 rfl ?_
          refine x_sub (L1 := [(0, .ref (w.2.2 4 20 0 0)), (2, .int a2), (3, .int a3), (4, .int a4), (5, .long t7), (7, .int t14), (8, .int a8), (9, .int t15)]) [6, 7, 8, 9, 5, 1, 10, 0] rfl ?_
          exact ih _ _ _ _ h
        · obtain ⟨hg12, h⟩ := x_g_e h
          refine x_st [.ref (w.2.2 t12.1 16 t12.2.1 t12.2.2)] rfl ?_
          refine x_astore dX5_traffic_122 (Nat.le_of_ble_eq_true rfl) [(12, .ref (w.2.2 t12.1 16 t12.2.1 t12.2.2)), (11, .null), (10, .int t8), (5, .long t7), (0, .ref (w.2.2 4 20 0 0)), (2, .int a2), (3, .int a3), (4, .int a4), (7, .int a7), (8, .int a8), (9, .int a9)] rfl ?_
          refine x_iload dX5_traffic_124 8 rfl ?_
          refine x_aload_n dX5_traffic_126 rfl 4 rfl ?_
          refine x_aloadN dX5_traffic_127 1 rfl ?_
          refine x_aload dX5_traffic_129 0 rfl ?_
          refine x_iload dX5_traffic_131 2 rfl ?_
          refine x_bipush (x := 32) dX5_traffic_133 rfl ?_
          refine x_idiv dX5_traffic_135 (by decide) ?_
          refine x_bipush (x := 12) dX5_traffic_136 rfl ?_
          refine x_irem dX5_traffic_138 (by decide) ?_
          refine x_iconst (x := 1) dX5_traffic_139 rfl ?_
          refine x_iadd dX5_traffic_140 ?_
          refine x_iconst (x := 1) dX5_traffic_141 rfl ?_
          obtain ⟨z16, s16, h16, h⟩ := x_b_e h
          refine x_callV (As := [.null, .ref (w.2.2 t12.1 16 t12.2.1 t12.2.2), .int (((t8 / 32) - (t8 / 32) / 12 * 12) + 1), .int 1]) (st := [.int a7]) (eX5_lossOfArrivals (o1 := none) (o2 := (some (t12.1, t12.2.1, t12.2.2)))  h16) cv_X5_157 (Nat.le_of_ble_eq_true rfl) ok_e20 rfl (Nat.le_of_ble_eq_true rfl) _ rfl dX5_traffic_142 [.int z16, .int a7] rfl ?_
          refine x_iadd dX5_traffic_145 ?_
          obtain ⟨t17, ht17, h⟩ := x_let_e h
          refine x_istore t17 ht17 dX5_traffic_146 (Nat.le_of_ble_eq_true rfl) [(7, .int t17), (12, .ref (w.2.2 t12.1 16 t12.2.1 t12.2.2)), (11, .null), (10, .int t8), (5, .long t7), (0, .ref (w.2.2 4 20 0 0)), (2, .int a2), (3, .int a3), (4, .int a4), (8, .int a8), (9, .int a9)] rfl ?_
          obtain ⟨t18, ht18, h⟩ := x_let_e h
          refine x_iinc t18 1 rfl ht18 dX5_traffic_148 10 rfl (Nat.le_of_ble_eq_true rfl) [(9, .int t18), (7, .int t17), (12, .ref (w.2.2 t12.1 16 t12.2.1 t12.2.2)), (11, .null), (10, .int t8), (5, .long t7), (0, .ref (w.2.2 4 20 0 0)), (2, .int a2), (3, .int a3), (4, .int a4), (8, .int a8)] rfl ?_
          refine x_goto (tgt := 58) dX5_traffic_151 rfl ?_
          refine x_sub (L1 := [(0, .ref (w.2.2 4 20 0 0)), (2, .int a2), (3, .int a3), (4, .int a4), (5, .long t7), (7, .int t17), (8, .int a8), (9, .int t18)]) [6, 7, 8, 9, 5, 1, 10, 0] rfl ?_
          exact ih _ _ _ _ h
      · obtain ⟨hg10, h⟩ := x_g_e h
        refine x_st [.ref (w.2.2 t10.1 13 t10.2 0)] rfl ?_
        refine x_astore dX5_traffic_101 (Nat.le_of_ble_eq_true rfl) [(11, .ref (w.2.2 t10.1 13 t10.2 0)), (10, .int t8), (5, .long t7), (0, .ref (w.2.2 4 20 0 0)), (2, .int a2), (3, .int a3), (4, .int a4), (7, .int a7), (8, .int a8), (9, .int a9)] rfl ?_
        refine x_aload_n dX5_traffic_103 rfl 3 rfl ?_
        refine x_getR (d1 := 0) (K1 := 0) (p1 := 0) (r1 := 0) fl_X5_10 ok_e20 rfl dX5_traffic_104 ?_
        refine x_iload dX5_traffic_107 1 rfl ?_
        refine x_iload dX5_traffic_109 6 rfl ?_
        obtain ⟨hg19, h⟩ := x_nz_e h
        refine x_irem dX5_traffic_111 hg19 ?_
        refine x_iload dX5_traffic_112 1 rfl ?_
        refine x_bipush (x := 8) dX5_traffic_114 rfl ?_
        refine x_idiv dX5_traffic_116 (by decide) ?_
        refine x_iconst (x := 3) dX5_traffic_117 rfl ?_
        refine x_irem dX5_traffic_118 (by decide) ?_
        obtain ⟨z20, s20, h20, h⟩ := x_b_e h
        refine x_callV (As := [.int (t8 - t8 / a4 * a4), .int ((t8 / 8) - (t8 / 8) / 3 * 3)]) (st := []) (eX0_queueAt (Nat.le_of_ble_eq_true rfl) h20) cv_X5_74 (Nat.le_of_ble_eq_true rfl) (ok_a (K := 0) (Nat.le_of_ble_eq_true rfl) (Nat.le_of_ble_eq_true rfl)) rfl (Nat.le_of_ble_eq_true rfl) _ rfl dX5_traffic_119 [x_nvQ w z20] rfl ?_
        rcases z20 with _ | t20
        · refine x_st [.null] rfl ?_
          refine x_astoreN dX5_traffic_122 (Nat.le_of_ble_eq_true rfl) [(12, .null), (11, .ref (w.2.2 t10.1 13 t10.2 0)), (10, .int t8), (5, .long t7), (0, .ref (w.2.2 4 20 0 0)), (2, .int a2), (3, .int a3), (4, .int a4), (7, .int a7), (8, .int a8), (9, .int a9)] rfl ?_
          refine x_iload dX5_traffic_124 8 rfl ?_
          refine x_aload_n dX5_traffic_126 rfl 4 rfl ?_
          refine x_aload dX5_traffic_127 1 rfl ?_
          refine x_aloadN dX5_traffic_129 0 rfl ?_
          refine x_iload dX5_traffic_131 2 rfl ?_
          refine x_bipush (x := 32) dX5_traffic_133 rfl ?_
          refine x_idiv dX5_traffic_135 (by decide) ?_
          refine x_bipush (x := 12) dX5_traffic_136 rfl ?_
          refine x_irem dX5_traffic_138 (by decide) ?_
          refine x_iconst (x := 1) dX5_traffic_139 rfl ?_
          refine x_iadd dX5_traffic_140 ?_
          refine x_iconst (x := 1) dX5_traffic_141 rfl ?_
          obtain ⟨z21, s21, h21, h⟩ := x_b_e h
          refine x_callV (As := [.ref (w.2.2 t10.1 13 t10.2 0), .null, .int (((t8 / 32) - (t8 / 32) / 12 * 12) + 1), .int 1]) (st := [.int a7]) (eX5_lossOfArrivals (o1 := (some (t10.1, t10.2))) (o2 := none)  h21) cv_X5_157 (Nat.le_of_ble_eq_true rfl) ok_e20 rfl (Nat.le_of_ble_eq_true rfl) _ rfl dX5_traffic_142 [.int z21, .int a7] rfl ?_
          refine x_iadd dX5_traffic_145 ?_
          obtain ⟨t22, ht22, h⟩ := x_let_e h
          refine x_istore t22 ht22 dX5_traffic_146 (Nat.le_of_ble_eq_true rfl) [(7, .int t22), (12, .null), (11, .ref (w.2.2 t10.1 13 t10.2 0)), (10, .int t8), (5, .long t7), (0, .ref (w.2.2 4 20 0 0)), (2, .int a2), (3, .int a3), (4, .int a4), (8, .int a8), (9, .int a9)] rfl ?_
          obtain ⟨t23, ht23, h⟩ := x_let_e h
          refine x_iinc t23 1 rfl ht23 dX5_traffic_148 10 rfl (Nat.le_of_ble_eq_true rfl) [(9, .int t23), (7, .int t22), (12, .null), (11, .ref (w.2.2 t10.1 13 t10.2 0)), (10, .int t8), (5, .long t7), (0, .ref (w.2.2 4 20 0 0)), (2, .int a2), (3, .int a3), (4, .int a4), (8, .int a8)] rfl ?_
          refine x_goto (tgt := 58) dX5_traffic_151 rfl ?_
          refine x_sub (L1 := [(0, .ref (w.2.2 4 20 0 0)), (2, .int a2), (3, .int a3), (4, .int a4), (5, .long t7), (7, .int t22), (8, .int a8), (9, .int t23)]) [6, 7, 8, 9, 5, 1, 10, 0] rfl ?_
          exact ih _ _ _ _ h
        · obtain ⟨hg20, h⟩ := x_g_e h
          refine x_st [.ref (w.2.2 t20.1 16 t20.2.1 t20.2.2)] rfl ?_
          refine x_astore dX5_traffic_122 (Nat.le_of_ble_eq_true rfl) [(12, .ref (w.2.2 t20.1 16 t20.2.1 t20.2.2)), (11, .ref (w.2.2 t10.1 13 t10.2 0)), (10, .int t8), (5, .long t7), (0, .ref (w.2.2 4 20 0 0)), (2, .int a2), (3, .int a3), (4, .int a4), (7, .int a7), (8, .int a8), (9, .int a9)] rfl ?_
          refine x_iload dX5_traffic_124 8 rfl ?_
          refine x_aload_n dX5_traffic_126 rfl 4 rfl ?_
          refine x_aload dX5_traffic_127 1 rfl ?_
          refine x_aload dX5_traffic_129 0 rfl ?_
          refine x_iload dX5_traffic_131 2 rfl ?_
          refine x_bipush (x := 32) dX5_traffic_133 rfl ?_
          refine x_idiv dX5_traffic_135 (by decide) ?_
          refine x_bipush (x := 12) dX5_traffic_136 rfl ?_
          refine x_irem dX5_traffic_138 (by decide) ?_
          refine x_iconst (x := 1) dX5_traffic_139 rfl ?_
          refine x_iadd dX5_traffic_140 ?_
          refine x_iconst (x := 1) dX5_traffic_141 rfl ?_
          obtain ⟨z24, s24, h24, h⟩ := x_b_e h
          refine x_callV (As := [.ref (w.2.2 t10.1 13 t10.2 0), .ref (w.2.2 t20.1 16 t20.2.1 t20.2.2), .int (((t8 / 32) - (t8 / 32) / 12 * 12) + 1), .int 1]) (st := [.int a7]) (eX5_lossOfArrivals (o1 := (some (t10.1, t10.2))) (o2 := (some (t20.1, t20.2.1, t20.2.2)))  h24) cv_X5_157 (Nat.le_of_ble_eq_true rfl) ok_e20 rfl (Nat.le_of_ble_eq_true rfl) _ rfl dX5_traffic_142 [.int z24, .int a7] rfl ?_
          refine x_iadd dX5_traffic_145 ?_
          obtain ⟨t25, ht25, h⟩ := x_let_e h
          refine x_istore t25 ht25 dX5_traffic_146 (Nat.le_of_ble_eq_true rfl) [(7, .int t25), (12, .ref (w.2.2 t20.1 16 t20.2.1 t20.2.2)), (11, .ref (w.2.2 t10.1 13 t10.2 0)), (10, .int t8), (5, .long t7), (0, .ref (w.2.2 4 20 0 0)), (2, .int a2), (3, .int a3), (4, .int a4), (8, .int a8), (9, .int a9)] rfl ?_
          obtain ⟨t26, ht26, h⟩ := x_let_e h
          refine x_iinc t26 1 rfl ht26 dX5_traffic_148 10 rfl (Nat.le_of_ble_eq_true rfl) [(9, .int t26), (7, .int t25), (12, .ref (w.2.2 t20.1 16 t20.2.1 t20.2.2)), (11, .ref (w.2.2 t10.1 13 t10.2 0)), (10, .int t8), (5, .long t7), (0, .ref (w.2.2 4 20 0 0)), (2, .int a2), (3, .int a3), (4, .int a4), (8, .int a8)] rfl ?_
          refine x_goto (tgt := 58) dX5_traffic_151 rfl ?_
          refine x_sub (L1 := [(0, .ref (w.2.2 4 20 0 0)), (2, .int a2), (3, .int a3), (4, .int a4), (5, .long t7), (7, .int t25), (8, .int a8), (9, .int t26)]) [6, 7, 8, 9, 5, 1, 10, 0] rfl ?_
          exact ih _ _ _ _ h
set_option maxRecDepth 100000 in
set_option maxHeartbeats 4000000 in
theorem TX5_traffic_49 {l : Launch} {w : xW} {a2 : Int32} {a3 : Int32} {a4 : Int32} {τ : xS} {r : Int32} : ∀ (n : Nat) (g5 : Int64) (a7 : Int32) (a8 : Int32) (σ : xS), BX5_traffic_49 a2 a3 a4 n g5 a7 a8 σ = some (r, τ) → xAt l w mX5_traffic 49 [(0, .ref (w.2.2 4 20 0 0)), (2, .int a2), (3, .int a3), (4, .int a4), (5, .long g5), (7, .int a7), (8, .int a8)] [] σ (some (.int r)) τ := by
  intro n
  induction n with
  | zero => intro g5 a7 a8 σ h; cases h
  | succ n ih =>
    intro g5 a7 a8 σ h
    rw [BX5_traffic_49] at h
    refine x_iload dX5_traffic_49 6 rfl ?_
    refine x_iload_n dX5_traffic_51 rfl 1 rfl ?_
    refine x_icmp_ge (tgt := 168) dX5_traffic_52 rfl (fun hc => ?_) (fun hc => ?_)
    · have h := x_t hc h
      refine x_iload dX5_traffic_168 5 rfl ?_
      exact x_iretH rfl dX5_traffic_170 h
    · have h := x_f hc h
      refine x_iconst (x := 0) dX5_traffic_55 rfl ?_
      refine x_istore 0 rfl dX5_traffic_56 (Nat.le_of_ble_eq_true rfl) [(9, .int 0), (0, .ref (w.2.2 4 20 0 0)), (2, .int a2), (3, .int a3), (4, .int a4), (5, .long g5), (7, .int a7), (8, .int a8)] rfl ?_
      refine x_sub (L1 := [(0, .ref (w.2.2 4 20 0 0)), (2, .int a2), (3, .int a3), (4, .int a4), (5, .long g5), (7, .int a7), (8, .int a8), (9, .int 0)]) [1, 2, 3, 4, 5, 6, 7, 0] rfl ?_
      exact TX5_traffic_58 ih _ _ _ _ _ h
set_option maxRecDepth 100000 in
set_option maxHeartbeats 4000000 in
theorem eX5_traffic {l : Launch} {w : xW} {a1 : Int32} {a2 : Int32} {a3 : Int32} {σ τ : xS} {r : Int32} (h : fX5_traffic a1 a2 a3 σ = some (r, τ)) : xEV l w yX5_traffic mX5_traffic [.ref (w.2.2 4 20 0 0), .int a1, .int a2, .int a3] σ (some (.int r)) τ := by
  rw [fX5_traffic] at h
  refine x_enter (by decide +kernel) rfl (Nat.le_of_ble_eq_true rfl) ?_
  refine x_sub (L1 := [(0, .ref (w.2.2 4 20 0 0)), (1, .int a1), (2, .int a2), (3, .int a3)]) [0, 1, 2, 3] rfl ?_
  refine x_iload_n dX5_traffic_0 rfl 1 rfl ?_
  refine x_if_lt (tgt := 23) dX5_traffic_1 rfl (fun hc => ?_) (fun hc => ?_)
  · have h := x_t hc h
    refine x_bipush (x := (-2)) dX5_traffic_23 (by decide) ?_
    exact x_iretH rfl dX5_traffic_25 h
  · have h := x_f hc h
    refine x_iload_n dX5_traffic_4 rfl 2 rfl ?_
    refine x_iconst (x := 1) dX5_traffic_5 rfl ?_
    refine x_bipush (x := 16) dX5_traffic_6 rfl ?_
    obtain ⟨z1, s1, h1, h⟩ := x_b_e h
    refine x_callS (As := [.int a2, .int 1, .int 16]) (st := []) (eX5_isOutside  h1) cs_X5_38 (Nat.le_of_ble_eq_true rfl) rfl (Nat.le_of_ble_eq_true rfl) _ rfl dX5_traffic_8 [.int z1] rfl ?_
    refine x_if_ne (tgt := 23) dX5_traffic_11 rfl (fun hc => ?_) (fun hc => ?_)
    · have h := x_f hc h
      refine x_bipush (x := (-2)) dX5_traffic_23 (by decide) ?_
      exact x_iretH rfl dX5_traffic_25 h
    · have h := x_t hc h
      refine x_iload_n dX5_traffic_14 rfl 3 rfl ?_
      refine x_iconst (x := 1) dX5_traffic_15 rfl ?_
      refine x_iconst (x := 3) dX5_traffic_16 rfl ?_
      obtain ⟨z2, s2, h2, h⟩ := x_b_e h
      refine x_callS (As := [.int a3, .int 1, .int 3]) (st := []) (eX5_isOutside  h2) cs_X5_38 (Nat.le_of_ble_eq_true rfl) rfl (Nat.le_of_ble_eq_true rfl) _ rfl dX5_traffic_17 [.int z2] rfl ?_
      refine x_if_eq (tgt := 26) dX5_traffic_20 rfl (fun hc => ?_) (fun hc => ?_)
      · have h := x_t hc h
        refine x_iconst (x := 1) dX5_traffic_26 rfl ?_
        refine x_aload_n dX5_traffic_27 rfl 0 rfl ?_
        refine x_getR (d1 := 0) (K1 := 0) (p1 := 0) (r1 := 0) fl_X5_10 ok_e20 rfl dX5_traffic_28 ?_
        refine x_getI fl_X5_140 (ok_a (K := 0) (Nat.le_of_ble_eq_true rfl) (Nat.le_of_ble_eq_true rfl)) rfl dX5_traffic_31 ?_
        refine x_max lk_X5_143 w_max (Nat.le_of_ble_eq_true rfl) (Nat.le_of_ble_eq_true rfl) dX5_traffic_34 ?_
        obtain ⟨t3, ht3, h⟩ := x_let_e h
        refine x_istore t3 ht3 dX5_traffic_37 (Nat.le_of_ble_eq_true rfl) [(4, .int t3), (0, .ref (w.2.2 4 20 0 0)), (1, .int a1), (2, .int a2), (3, .int a3)] rfl ?_
        refine x_iload_n dX5_traffic_39 rfl 2 rfl ?_
        refine x_i2l dX5_traffic_40 ?_
        obtain ⟨t4, ht4, h⟩ := x_let_e h
        refine x_lstore t4 ht4 dX5_traffic_41 (Nat.le_of_ble_eq_true rfl) [(5, .long t4), (4, .int t3), (0, .ref (w.2.2 4 20 0 0)), (1, .int a1), (2, .int a2), (3, .int a3)] rfl ?_
        refine x_iconst (x := 0) dX5_traffic_43 rfl ?_
        refine x_istore 0 rfl dX5_traffic_44 (Nat.le_of_ble_eq_true rfl) [(7, .int 0), (5, .long t4), (4, .int t3), (0, .ref (w.2.2 4 20 0 0)), (1, .int a1), (2, .int a2), (3, .int a3)] rfl ?_
        refine x_iconst (x := 0) dX5_traffic_46 rfl ?_
        refine x_istore 0 rfl dX5_traffic_47 (Nat.le_of_ble_eq_true rfl) [(8, .int 0), (7, .int 0), (5, .long t4), (4, .int t3), (0, .ref (w.2.2 4 20 0 0)), (1, .int a1), (2, .int a2), (3, .int a3)] rfl ?_
        refine x_sub (L1 := [(0, .ref (w.2.2 4 20 0 0)), (2, .int a2), (3, .int a3), (4, .int t3), (5, .long t4), (7, .int 0), (8, .int 0)]) [4, 6, 7, 3, 2, 1, 0] rfl ?_
        exact TX5_traffic_49 _ _ _ _ _ h
      · have h := x_f hc h
        refine x_bipush (x := (-2)) dX5_traffic_23 (by decide) ?_
        exact x_iretH rfl dX5_traffic_25 h
set_option maxRecDepth 100000 in
set_option maxHeartbeats 4000000 in
theorem eX5_freeShared {l : Launch} {w : xW} {σ τ : xS} {r : Int32} (h : fX5_freeShared σ = some (r, τ)) : xEV l w yX5_freeShared mX5_freeShared [.ref (w.2.2 4 20 0 0)] σ (some (.int r)) τ := by
  rw [fX5_freeShared] at h
  refine x_enter (by decide +kernel) rfl (Nat.le_of_ble_eq_true rfl) ?_
  refine x_sub (L1 := [(0, .ref (w.2.2 4 20 0 0))]) [0] rfl ?_
  refine x_aload_n dX5_freeShared_0 rfl 0 rfl ?_
  refine x_getR (d1 := 0) (K1 := 0) (p1 := 0) (r1 := 0) fl_X5_10 ok_e20 rfl dX5_freeShared_1 ?_
  obtain ⟨z1, s1, h1, h⟩ := x_b_e h
  refine x_callV (As := []) (st := []) (eX0_sharedLeft (Nat.le_of_ble_eq_true rfl) h1) cv_X5_61 (Nat.le_of_ble_eq_true rfl) (ok_a (K := 0) (Nat.le_of_ble_eq_true rfl) (Nat.le_of_ble_eq_true rfl)) rfl (Nat.le_of_ble_eq_true rfl) _ rfl dX5_freeShared_4 [.int z1] rfl ?_
  exact x_iretH rfl dX5_freeShared_7 h
set_option maxRecDepth 100000 in
set_option maxHeartbeats 4000000 in
theorem eX5_sharedPool {l : Launch} {w : xW} {σ τ : xS} {r : Int32} (h : fX5_sharedPool σ = some (r, τ)) : xEV l w yX5_sharedPool mX5_sharedPool [.ref (w.2.2 4 20 0 0)] σ (some (.int r)) τ := by
  rw [fX5_sharedPool] at h
  refine x_enter (by decide +kernel) rfl (Nat.le_of_ble_eq_true rfl) ?_
  refine x_sub (L1 := [(0, .ref (w.2.2 4 20 0 0))]) [0] rfl ?_
  refine x_aload_n dX5_sharedPool_0 rfl 0 rfl ?_
  refine x_getR (d1 := 0) (K1 := 0) (p1 := 0) (r1 := 0) fl_X5_10 ok_e20 rfl dX5_sharedPool_1 ?_
  obtain ⟨z1, s1, h1, h⟩ := x_b_e h
  refine x_callV (As := []) (st := []) (eX0_poolSize (Nat.le_of_ble_eq_true rfl) h1) cv_X5_161 (Nat.le_of_ble_eq_true rfl) (ok_a (K := 0) (Nat.le_of_ble_eq_true rfl) (Nat.le_of_ble_eq_true rfl)) rfl (Nat.le_of_ble_eq_true rfl) _ rfl dX5_sharedPool_4 [.int z1] rfl ?_
  exact x_iretH rfl dX5_sharedPool_7 h
set_option maxRecDepth 100000 in
set_option maxHeartbeats 4000000 in
theorem eX5_freeGuarantee {l : Launch} {w : xW} {a1 : Int32} {σ τ : xS} {r : Int32} (h : fX5_freeGuarantee a1 σ = some (r, τ)) : xEV l w yX5_freeGuarantee mX5_freeGuarantee [.ref (w.2.2 4 20 0 0), .int a1] σ (some (.int r)) τ := by
  rw [fX5_freeGuarantee] at h
  refine x_enter (by decide +kernel) rfl (Nat.le_of_ble_eq_true rfl) ?_
  refine x_sub (L1 := [(0, .ref (w.2.2 4 20 0 0)), (1, .int a1)]) [0, 1] rfl ?_
  refine x_aload_n dX5_freeGuarantee_0 rfl 0 rfl ?_
  refine x_getR (d1 := 0) (K1 := 0) (p1 := 0) (r1 := 0) fl_X5_10 ok_e20 rfl dX5_freeGuarantee_1 ?_
  refine x_iload_n dX5_freeGuarantee_4 rfl 1 rfl ?_
  obtain ⟨z1, s1, h1, h⟩ := x_b_e h
  refine x_callV (As := [.int a1]) (st := []) (eX0_portAt (Nat.le_of_ble_eq_true rfl) h1) cv_X5_52 (Nat.le_of_ble_eq_true rfl) (ok_a (K := 0) (Nat.le_of_ble_eq_true rfl) (Nat.le_of_ble_eq_true rfl)) rfl (Nat.le_of_ble_eq_true rfl) _ rfl dX5_freeGuarantee_5 [x_nvP w z1] rfl ?_
  rcases z1 with _ | t1
  · refine x_st [.null] rfl ?_
    refine x_astore_nN dX5_freeGuarantee_8 rfl (Nat.le_of_ble_eq_true rfl) [(2, .null), (0, .ref (w.2.2 4 20 0 0)), (1, .int a1)] rfl ?_
    refine x_aload_nN dX5_freeGuarantee_9 rfl 0 rfl ?_
    refine x_ifnonnullN dX5_freeGuarantee_10 ?_
    refine x_iconst (x := (-1)) dX5_freeGuarantee_13 (by decide) ?_
    refine x_goto (tgt := 21) dX5_freeGuarantee_14 rfl ?_
    exact x_iretH rfl dX5_freeGuarantee_21 h
  · obtain ⟨hg1, h⟩ := x_g_e h
    refine x_st [.ref (w.2.2 t1.1 13 t1.2 0)] rfl ?_
    refine x_astore_n dX5_freeGuarantee_8 rfl (Nat.le_of_ble_eq_true rfl) [(2, .ref (w.2.2 t1.1 13 t1.2 0)), (0, .ref (w.2.2 4 20 0 0)), (1, .int a1)] rfl ?_
    refine x_aload_n dX5_freeGuarantee_9 rfl 0 rfl ?_
    refine x_ifnonnullR (tgt := 17) dX5_freeGuarantee_10 rfl ?_
    refine x_aload_n dX5_freeGuarantee_17 rfl 0 rfl ?_
    obtain ⟨z2, s2, h2, h⟩ := x_b_e h
    refine x_callV (As := []) (st := []) (eX2_guaranteeLeft (ok2_d hg1) (ok2_p hg1) h2) cv_X5_164 (Nat.le_of_ble_eq_true rfl) (ok_b (K := 13) (Nat.le_of_ble_eq_true rfl) (Nat.le_of_ble_eq_true rfl) (ok2_d hg1) (ok2_p hg1)) rfl (Nat.le_of_ble_eq_true rfl) _ rfl dX5_freeGuarantee_18 [.int z2] rfl ?_
    exact x_iretH rfl dX5_freeGuarantee_21 h
set_option maxRecDepth 100000 in
set_option maxHeartbeats 4000000 in
theorem eX5_grantOf {l : Launch} {w : xW} {a1 : Int32} {σ τ : xS} {r : Int32} (h : fX5_grantOf a1 σ = some (r, τ)) : xEV l w yX5_grantOf mX5_grantOf [.ref (w.2.2 4 20 0 0), .int a1] σ (some (.int r)) τ := by
  rw [fX5_grantOf] at h
  refine x_enter (by decide +kernel) rfl (Nat.le_of_ble_eq_true rfl) ?_
  refine x_sub (L1 := [(0, .ref (w.2.2 4 20 0 0)), (1, .int a1)]) [0, 1] rfl ?_
  refine x_aload_n dX5_grantOf_0 rfl 0 rfl ?_
  refine x_getR (d1 := 0) (K1 := 0) (p1 := 0) (r1 := 0) fl_X5_10 ok_e20 rfl dX5_grantOf_1 ?_
  refine x_iload_n dX5_grantOf_4 rfl 1 rfl ?_
  obtain ⟨z1, s1, h1, h⟩ := x_b_e h
  refine x_callV (As := [.int a1]) (st := []) (eX0_portAt (Nat.le_of_ble_eq_true rfl) h1) cv_X5_52 (Nat.le_of_ble_eq_true rfl) (ok_a (K := 0) (Nat.le_of_ble_eq_true rfl) (Nat.le_of_ble_eq_true rfl)) rfl (Nat.le_of_ble_eq_true rfl) _ rfl dX5_grantOf_5 [x_nvP w z1] rfl ?_
  rcases z1 with _ | t1
  · refine x_st [.null] rfl ?_
    refine x_astore_nN dX5_grantOf_8 rfl (Nat.le_of_ble_eq_true rfl) [(2, .null), (0, .ref (w.2.2 4 20 0 0)), (1, .int a1)] rfl ?_
    refine x_aload_nN dX5_grantOf_9 rfl 0 rfl ?_
    refine x_ifnonnullN dX5_grantOf_10 ?_
    refine x_iconst (x := (-1)) dX5_grantOf_13 (by decide) ?_
    refine x_goto (tgt := 21) dX5_grantOf_14 rfl ?_
    exact x_iretH rfl dX5_grantOf_21 h
  · obtain ⟨hg1, h⟩ := x_g_e h
    refine x_st [.ref (w.2.2 t1.1 13 t1.2 0)] rfl ?_
    refine x_astore_n dX5_grantOf_8 rfl (Nat.le_of_ble_eq_true rfl) [(2, .ref (w.2.2 t1.1 13 t1.2 0)), (0, .ref (w.2.2 4 20 0 0)), (1, .int a1)] rfl ?_
    refine x_aload_n dX5_grantOf_9 rfl 0 rfl ?_
    refine x_ifnonnullR (tgt := 17) dX5_grantOf_10 rfl ?_
    refine x_aload_n dX5_grantOf_17 rfl 0 rfl ?_
    refine x_getI fl_X5_122 (ok_b (K := 13) (Nat.le_of_ble_eq_true rfl) (Nat.le_of_ble_eq_true rfl) (ok2_d hg1) (ok2_p hg1)) rfl dX5_grantOf_18 ?_
    exact x_iretH rfl dX5_grantOf_21 h
