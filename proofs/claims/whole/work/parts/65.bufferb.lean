set_option maxRecDepth 100000 in
set_option maxHeartbeats 4000000 in
theorem eX5_threshold {l : Launch} {w : xW} {a1 : Int32} {a2 : Int32} {σ τ : xS} {r : Int32} (h : fX5_threshold a1 a2 σ = some (r, τ)) : xEV l w yX5_threshold mX5_threshold [.ref (w.2.2 4 20 0 0), .int a1, .int a2] σ (some (.int r)) τ := by
  rw [fX5_threshold] at h
  refine x_enter (by decide +kernel) rfl (Nat.le_of_ble_eq_true rfl) ?_
  refine x_sub (L1 := [(0, .ref (w.2.2 4 20 0 0)), (1, .int a1), (2, .int a2)]) [0, 1, 2] rfl ?_
  refine x_aload_n dX5_threshold_0 rfl 0 rfl ?_
  refine x_getR (d1 := 0) (K1 := 0) (p1 := 0) (r1 := 0) fl_X5_10 ok_e20 rfl dX5_threshold_1 ?_
  refine x_iload_n dX5_threshold_4 rfl 1 rfl ?_
  refine x_iload_n dX5_threshold_5 rfl 2 rfl ?_
  obtain ⟨z1, s1, h1, h⟩ := x_b_e h
  refine x_callV (As := [.int a1, .int a2]) (st := []) (eX0_queueAt (Nat.le_of_ble_eq_true rfl) h1) cv_X5_74 (Nat.le_of_ble_eq_true rfl) (ok_a (K := 0) (Nat.le_of_ble_eq_true rfl) (Nat.le_of_ble_eq_true rfl)) rfl (Nat.le_of_ble_eq_true rfl) _ rfl dX5_threshold_6 [x_nvQ w z1] rfl ?_
  rcases z1 with _ | t1
  · refine x_st [.null] rfl ?_
    refine x_astore_nN dX5_threshold_9 rfl (Nat.le_of_ble_eq_true rfl) [(3, .null), (0, .ref (w.2.2 4 20 0 0)), (1, .int a1), (2, .int a2)] rfl ?_
    refine x_aload_nN dX5_threshold_10 rfl 0 rfl ?_
    refine x_ifnonnullN dX5_threshold_11 ?_
    refine x_iconst (x := (-1)) dX5_threshold_14 (by decide) ?_
    refine x_goto (tgt := 29) dX5_threshold_15 rfl ?_
    exact x_iretH rfl dX5_threshold_29 h
  · obtain ⟨hg1, h⟩ := x_g_e h
    refine x_st [.ref (w.2.2 t1.1 16 t1.2.1 t1.2.2)] rfl ?_
    refine x_astore_n dX5_threshold_9 rfl (Nat.le_of_ble_eq_true rfl) [(3, .ref (w.2.2 t1.1 16 t1.2.1 t1.2.2)), (0, .ref (w.2.2 4 20 0 0)), (1, .int a1), (2, .int a2)] rfl ?_
    refine x_aload_n dX5_threshold_10 rfl 0 rfl ?_
    refine x_ifnonnullR (tgt := 18) dX5_threshold_11 rfl ?_
    refine x_aload_n dX5_threshold_18 rfl 0 rfl ?_
    refine x_aload_n dX5_threshold_19 rfl 1 rfl ?_
    refine x_getR (d1 := 0) (K1 := 0) (p1 := 0) (r1 := 0) fl_X5_10 ok_e20 rfl dX5_threshold_20 ?_
    obtain ⟨z2, s2, h2, h⟩ := x_b_e h
    refine x_callV (As := []) (st := [.ref (w.2.2 t1.1 16 t1.2.1 t1.2.2)]) (eX0_sharedLeft (Nat.le_of_ble_eq_true rfl) h2) cv_X5_61 (Nat.le_of_ble_eq_true rfl) (ok_a (K := 0) (Nat.le_of_ble_eq_true rfl) (Nat.le_of_ble_eq_true rfl)) rfl (Nat.le_of_ble_eq_true rfl) _ rfl dX5_threshold_23 [.int z2, .ref (w.2.2 t1.1 16 t1.2.1 t1.2.2)] rfl ?_
    obtain ⟨z3, s3, h3, h⟩ := x_b_e h
    refine x_callV (As := [.int z2]) (st := []) (eX3_limitWith (ok3_d hg1) (ok3_p hg1) (ok3_r hg1) h3) cv_X5_167 (Nat.le_of_ble_eq_true rfl) (ok_c (ok3_d hg1) (ok3_p hg1) (ok3_r hg1)) rfl (Nat.le_of_ble_eq_true rfl) _ rfl dX5_threshold_26 [.int z3] rfl ?_
    exact x_iretH rfl dX5_threshold_29 h
set_option maxRecDepth 100000 in
set_option maxHeartbeats 4000000 in
theorem eX5_guaranteedCells {l : Launch} {w : xW} {a1 : Int32} {a2 : Int32} {σ τ : xS} {r : Int32} (h : fX5_guaranteedCells a1 a2 σ = some (r, τ)) : xEV l w yX5_guaranteedCells mX5_guaranteedCells [.ref (w.2.2 4 20 0 0), .int a1, .int a2] σ (some (.int r)) τ := by
  rw [fX5_guaranteedCells] at h
  refine x_enter (by decide +kernel) rfl (Nat.le_of_ble_eq_true rfl) ?_
  refine x_sub (L1 := [(0, .ref (w.2.2 4 20 0 0)), (1, .int a1), (2, .int a2)]) [0, 1, 2] rfl ?_
  refine x_aload_n dX5_guaranteedCells_0 rfl 0 rfl ?_
  refine x_getR (d1 := 0) (K1 := 0) (p1 := 0) (r1 := 0) fl_X5_10 ok_e20 rfl dX5_guaranteedCells_1 ?_
  refine x_iload_n dX5_guaranteedCells_4 rfl 1 rfl ?_
  refine x_iload_n dX5_guaranteedCells_5 rfl 2 rfl ?_
  obtain ⟨z1, s1, h1, h⟩ := x_b_e h
  refine x_callV (As := [.int a1, .int a2]) (st := []) (eX0_queueAt (Nat.le_of_ble_eq_true rfl) h1) cv_X5_74 (Nat.le_of_ble_eq_true rfl) (ok_a (K := 0) (Nat.le_of_ble_eq_true rfl) (Nat.le_of_ble_eq_true rfl)) rfl (Nat.le_of_ble_eq_true rfl) _ rfl dX5_guaranteedCells_6 [x_nvQ w z1] rfl ?_
  rcases z1 with _ | t1
  · refine x_st [.null] rfl ?_
    refine x_astore_nN dX5_guaranteedCells_9 rfl (Nat.le_of_ble_eq_true rfl) [(3, .null), (0, .ref (w.2.2 4 20 0 0)), (1, .int a1), (2, .int a2)] rfl ?_
    refine x_aload_nN dX5_guaranteedCells_10 rfl 0 rfl ?_
    refine x_ifnonnullN dX5_guaranteedCells_11 ?_
    refine x_iconst (x := (-1)) dX5_guaranteedCells_14 (by decide) ?_
    refine x_goto (tgt := 22) dX5_guaranteedCells_15 rfl ?_
    exact x_iretH rfl dX5_guaranteedCells_22 h
  · obtain ⟨hg1, h⟩ := x_g_e h
    refine x_st [.ref (w.2.2 t1.1 16 t1.2.1 t1.2.2)] rfl ?_
    refine x_astore_n dX5_guaranteedCells_9 rfl (Nat.le_of_ble_eq_true rfl) [(3, .ref (w.2.2 t1.1 16 t1.2.1 t1.2.2)), (0, .ref (w.2.2 4 20 0 0)), (1, .int a1), (2, .int a2)] rfl ?_
    refine x_aload_n dX5_guaranteedCells_10 rfl 0 rfl ?_
    refine x_ifnonnullR (tgt := 18) dX5_guaranteedCells_11 rfl ?_
    refine x_aload_n dX5_guaranteedCells_18 rfl 0 rfl ?_
    refine x_getI fl_X5_171 (ok_c (ok3_d hg1) (ok3_p hg1) (ok3_r hg1)) rfl dX5_guaranteedCells_19 ?_
    exact x_iretH rfl dX5_guaranteedCells_22 h
set_option maxRecDepth 100000 in
set_option maxHeartbeats 4000000 in
theorem eX5_sharedCells {l : Launch} {w : xW} {a1 : Int32} {a2 : Int32} {σ τ : xS} {r : Int32} (h : fX5_sharedCells a1 a2 σ = some (r, τ)) : xEV l w yX5_sharedCells mX5_sharedCells [.ref (w.2.2 4 20 0 0), .int a1, .int a2] σ (some (.int r)) τ := by
  rw [fX5_sharedCells] at h
  refine x_enter (by decide +kernel) rfl (Nat.le_of_ble_eq_true rfl) ?_
  refine x_sub (L1 := [(0, .ref (w.2.2 4 20 0 0)), (1, .int a1), (2, .int a2)]) [0, 1, 2] rfl ?_
  refine x_aload_n dX5_sharedCells_0 rfl 0 rfl ?_
  refine x_getR (d1 := 0) (K1 := 0) (p1 := 0) (r1 := 0) fl_X5_10 ok_e20 rfl dX5_sharedCells_1 ?_
  refine x_iload_n dX5_sharedCells_4 rfl 1 rfl ?_
  refine x_iload_n dX5_sharedCells_5 rfl 2 rfl ?_
  obtain ⟨z1, s1, h1, h⟩ := x_b_e h
  refine x_callV (As := [.int a1, .int a2]) (st := []) (eX0_queueAt (Nat.le_of_ble_eq_true rfl) h1) cv_X5_74 (Nat.le_of_ble_eq_true rfl) (ok_a (K := 0) (Nat.le_of_ble_eq_true rfl) (Nat.le_of_ble_eq_true rfl)) rfl (Nat.le_of_ble_eq_true rfl) _ rfl dX5_sharedCells_6 [x_nvQ w z1] rfl ?_
  rcases z1 with _ | t1
  · refine x_st [.null] rfl ?_
    refine x_astore_nN dX5_sharedCells_9 rfl (Nat.le_of_ble_eq_true rfl) [(3, .null), (0, .ref (w.2.2 4 20 0 0)), (1, .int a1), (2, .int a2)] rfl ?_
    refine x_aload_nN dX5_sharedCells_10 rfl 0 rfl ?_
    refine x_ifnonnullN dX5_sharedCells_11 ?_
    refine x_iconst (x := (-1)) dX5_sharedCells_14 (by decide) ?_
    refine x_goto (tgt := 22) dX5_sharedCells_15 rfl ?_
    exact x_iretH rfl dX5_sharedCells_22 h
  · obtain ⟨hg1, h⟩ := x_g_e h
    refine x_st [.ref (w.2.2 t1.1 16 t1.2.1 t1.2.2)] rfl ?_
    refine x_astore_n dX5_sharedCells_9 rfl (Nat.le_of_ble_eq_true rfl) [(3, .ref (w.2.2 t1.1 16 t1.2.1 t1.2.2)), (0, .ref (w.2.2 4 20 0 0)), (1, .int a1), (2, .int a2)] rfl ?_
    refine x_aload_n dX5_sharedCells_10 rfl 0 rfl ?_
    refine x_ifnonnullR (tgt := 18) dX5_sharedCells_11 rfl ?_
    refine x_aload_n dX5_sharedCells_18 rfl 0 rfl ?_
    refine x_getI fl_X5_174 (ok_c (ok3_d hg1) (ok3_p hg1) (ok3_r hg1)) rfl dX5_sharedCells_19 ?_
    exact x_iretH rfl dX5_sharedCells_22 h
set_option maxRecDepth 100000 in
set_option maxHeartbeats 4000000 in
theorem eX5_headroomCells {l : Launch} {w : xW} {a1 : Int32} {a2 : Int32} {σ τ : xS} {r : Int32} (h : fX5_headroomCells a1 a2 σ = some (r, τ)) : xEV l w yX5_headroomCells mX5_headroomCells [.ref (w.2.2 4 20 0 0), .int a1, .int a2] σ (some (.int r)) τ := by
  rw [fX5_headroomCells] at h
  refine x_enter (by decide +kernel) rfl (Nat.le_of_ble_eq_true rfl) ?_
  refine x_sub (L1 := [(0, .ref (w.2.2 4 20 0 0)), (1, .int a1), (2, .int a2)]) [0, 1, 2] rfl ?_
  refine x_aload_n dX5_headroomCells_0 rfl 0 rfl ?_
  refine x_getR (d1 := 0) (K1 := 0) (p1 := 0) (r1 := 0) fl_X5_10 ok_e20 rfl dX5_headroomCells_1 ?_
  refine x_iload_n dX5_headroomCells_4 rfl 1 rfl ?_
  refine x_iload_n dX5_headroomCells_5 rfl 2 rfl ?_
  obtain ⟨z1, s1, h1, h⟩ := x_b_e h
  refine x_callV (As := [.int a1, .int a2]) (st := []) (eX0_queueAt (Nat.le_of_ble_eq_true rfl) h1) cv_X5_74 (Nat.le_of_ble_eq_true rfl) (ok_a (K := 0) (Nat.le_of_ble_eq_true rfl) (Nat.le_of_ble_eq_true rfl)) rfl (Nat.le_of_ble_eq_true rfl) _ rfl dX5_headroomCells_6 [x_nvQ w z1] rfl ?_
  rcases z1 with _ | t1
  · refine x_st [.null] rfl ?_
    refine x_astore_nN dX5_headroomCells_9 rfl (Nat.le_of_ble_eq_true rfl) [(3, .null), (0, .ref (w.2.2 4 20 0 0)), (1, .int a1), (2, .int a2)] rfl ?_
    refine x_aload_nN dX5_headroomCells_10 rfl 0 rfl ?_
    refine x_ifnonnullN dX5_headroomCells_11 ?_
    refine x_iconst (x := (-1)) dX5_headroomCells_14 (by decide) ?_
    refine x_goto (tgt := 22) dX5_headroomCells_15 rfl ?_
    exact x_iretH rfl dX5_headroomCells_22 h
  · obtain ⟨hg1, h⟩ := x_g_e h
    refine x_st [.ref (w.2.2 t1.1 16 t1.2.1 t1.2.2)] rfl ?_
    refine x_astore_n dX5_headroomCells_9 rfl (Nat.le_of_ble_eq_true rfl) [(3, .ref (w.2.2 t1.1 16 t1.2.1 t1.2.2)), (0, .ref (w.2.2 4 20 0 0)), (1, .int a1), (2, .int a2)] rfl ?_
    refine x_aload_n dX5_headroomCells_10 rfl 0 rfl ?_
    refine x_ifnonnullR (tgt := 18) dX5_headroomCells_11 rfl ?_
    refine x_aload_n dX5_headroomCells_18 rfl 0 rfl ?_
    refine x_getI fl_X5_92 (ok_c (ok3_d hg1) (ok3_p hg1) (ok3_r hg1)) rfl dX5_headroomCells_19 ?_
    exact x_iretH rfl dX5_headroomCells_22 h
set_option maxRecDepth 100000 in
set_option maxHeartbeats 4000000 in
theorem eX5_burstTank {l : Launch} {w : xW} {a1 : Int32} {a2 : Int32} {σ τ : xS} {r : Int32} (h : fX5_burstTank a1 a2 σ = some (r, τ)) : xEV l w yX5_burstTank mX5_burstTank [.ref (w.2.2 4 20 0 0), .int a1, .int a2] σ (some (.int r)) τ := by
  rw [fX5_burstTank] at h
  refine x_enter (by decide +kernel) rfl (Nat.le_of_ble_eq_true rfl) ?_
  refine x_sub (L1 := [(0, .ref (w.2.2 4 20 0 0)), (1, .int a1), (2, .int a2)]) [0, 1, 2] rfl ?_
  refine x_aload_n dX5_burstTank_0 rfl 0 rfl ?_
  refine x_getR (d1 := 0) (K1 := 0) (p1 := 0) (r1 := 0) fl_X5_10 ok_e20 rfl dX5_burstTank_1 ?_
  refine x_iload_n dX5_burstTank_4 rfl 1 rfl ?_
  refine x_iload_n dX5_burstTank_5 rfl 2 rfl ?_
  obtain ⟨z1, s1, h1, h⟩ := x_b_e h
  refine x_callV (As := [.int a1, .int a2]) (st := []) (eX0_queueAt (Nat.le_of_ble_eq_true rfl) h1) cv_X5_74 (Nat.le_of_ble_eq_true rfl) (ok_a (K := 0) (Nat.le_of_ble_eq_true rfl) (Nat.le_of_ble_eq_true rfl)) rfl (Nat.le_of_ble_eq_true rfl) _ rfl dX5_burstTank_6 [x_nvQ w z1] rfl ?_
  rcases z1 with _ | t1
  · refine x_st [.null] rfl ?_
    refine x_astore_nN dX5_burstTank_9 rfl (Nat.le_of_ble_eq_true rfl) [(3, .null), (0, .ref (w.2.2 4 20 0 0)), (1, .int a1), (2, .int a2)] rfl ?_
    refine x_aload_nN dX5_burstTank_10 rfl 0 rfl ?_
    refine x_ifnonnullN dX5_burstTank_11 ?_
    refine x_iconst (x := (-1)) dX5_burstTank_14 (by decide) ?_
    refine x_goto (tgt := 22) dX5_burstTank_15 rfl ?_
    exact x_iretH rfl dX5_burstTank_22 h
  · obtain ⟨hg1, h⟩ := x_g_e h
    refine x_st [.ref (w.2.2 t1.1 16 t1.2.1 t1.2.2)] rfl ?_
    refine x_astore_n dX5_burstTank_9 rfl (Nat.le_of_ble_eq_true rfl) [(3, .ref (w.2.2 t1.1 16 t1.2.1 t1.2.2)), (0, .ref (w.2.2 4 20 0 0)), (1, .int a1), (2, .int a2)] rfl ?_
    refine x_aload_n dX5_burstTank_10 rfl 0 rfl ?_
    refine x_ifnonnullR (tgt := 18) dX5_burstTank_11 rfl ?_
    refine x_aload_n dX5_burstTank_18 rfl 0 rfl ?_
    refine x_getI fl_X5_83 (ok_c (ok3_d hg1) (ok3_p hg1) (ok3_r hg1)) rfl dX5_burstTank_19 ?_
    exact x_iretH rfl dX5_burstTank_22 h
set_option maxRecDepth 100000 in
set_option maxHeartbeats 4000000 in
theorem eX5_isPaused {l : Launch} {w : xW} {a1 : Int32} {a2 : Int32} {σ τ : xS} {r : Int32} (h : fX5_isPaused a1 a2 σ = some (r, τ)) : xEV l w yX5_isPaused mX5_isPaused [.ref (w.2.2 4 20 0 0), .int a1, .int a2] σ (some (.int r)) τ := by
  rw [fX5_isPaused] at h
  refine x_enter (by decide +kernel) rfl (Nat.le_of_ble_eq_true rfl) ?_
  refine x_sub (L1 := [(0, .ref (w.2.2 4 20 0 0)), (1, .int a1), (2, .int a2)]) [0, 1, 2] rfl ?_
  refine x_aload_n dX5_isPaused_0 rfl 0 rfl ?_
  refine x_getR (d1 := 0) (K1 := 0) (p1 := 0) (r1 := 0) fl_X5_10 ok_e20 rfl dX5_isPaused_1 ?_
  refine x_iload_n dX5_isPaused_4 rfl 1 rfl ?_
  refine x_iload_n dX5_isPaused_5 rfl 2 rfl ?_
  obtain ⟨z1, s1, h1, h⟩ := x_b_e h
  refine x_callV (As := [.int a1, .int a2]) (st := []) (eX0_queueAt (Nat.le_of_ble_eq_true rfl) h1) cv_X5_74 (Nat.le_of_ble_eq_true rfl) (ok_a (K := 0) (Nat.le_of_ble_eq_true rfl) (Nat.le_of_ble_eq_true rfl)) rfl (Nat.le_of_ble_eq_true rfl) _ rfl dX5_isPaused_6 [x_nvQ w z1] rfl ?_
  rcases z1 with _ | t1
  · refine x_st [.null] rfl ?_
    refine x_astore_nN dX5_isPaused_9 rfl (Nat.le_of_ble_eq_true rfl) [(3, .null), (0, .ref (w.2.2 4 20 0 0)), (1, .int a1), (2, .int a2)] rfl ?_
    refine x_aload_nN dX5_isPaused_10 rfl 0 rfl ?_
    refine x_ifnonnullN dX5_isPaused_11 ?_
    refine x_iconst (x := (-1)) dX5_isPaused_14 (by decide) ?_
    refine x_goto (tgt := 25) dX5_isPaused_15 rfl ?_
    exact x_iretH rfl dX5_isPaused_25 h
  · obtain ⟨hg1, h⟩ := x_g_e h
    refine x_st [.ref (w.2.2 t1.1 16 t1.2.1 t1.2.2)] rfl ?_
    refine x_astore_n dX5_isPaused_9 rfl (Nat.le_of_ble_eq_true rfl) [(3, .ref (w.2.2 t1.1 16 t1.2.1 t1.2.2)), (0, .ref (w.2.2 4 20 0 0)), (1, .int a1), (2, .int a2)] rfl ?_
    refine x_aload_n dX5_isPaused_10 rfl 0 rfl ?_
    refine x_ifnonnullR (tgt := 18) dX5_isPaused_11 rfl ?_
    refine x_aload_n dX5_isPaused_18 rfl 0 rfl ?_
    refine x_getI fl_X5_103 (ok_c (ok3_d hg1) (ok3_p hg1) (ok3_r hg1)) rfl dX5_isPaused_19 ?_
    obtain ⟨z2, s2, h2, h⟩ := x_b_e h
    refine x_callS (As := [.int (s1 t1.1 16 t1.2.1 t1.2.2 8)]) (st := []) (eX5_asNumber  h2) cs_X5_99 (Nat.le_of_ble_eq_true rfl) rfl (Nat.le_of_ble_eq_true rfl) _ rfl dX5_isPaused_22 [.int z2] rfl ?_
    exact x_iretH rfl dX5_isPaused_25 h
set_option maxRecDepth 100000 in
set_option maxHeartbeats 4000000 in
theorem eX5_pauses {l : Launch} {w : xW} {a1 : Int32} {a2 : Int32} {σ τ : xS} {r : Int32} (h : fX5_pauses a1 a2 σ = some (r, τ)) : xEV l w yX5_pauses mX5_pauses [.ref (w.2.2 4 20 0 0), .int a1, .int a2] σ (some (.int r)) τ := by
  rw [fX5_pauses] at h
  refine x_enter (by decide +kernel) rfl (Nat.le_of_ble_eq_true rfl) ?_
  refine x_sub (L1 := [(0, .ref (w.2.2 4 20 0 0)), (1, .int a1), (2, .int a2)]) [0, 1, 2] rfl ?_
  refine x_aload_n dX5_pauses_0 rfl 0 rfl ?_
  refine x_getR (d1 := 0) (K1 := 0) (p1 := 0) (r1 := 0) fl_X5_10 ok_e20 rfl dX5_pauses_1 ?_
  refine x_iload_n dX5_pauses_4 rfl 1 rfl ?_
  refine x_iload_n dX5_pauses_5 rfl 2 rfl ?_
  obtain ⟨z1, s1, h1, h⟩ := x_b_e h
  refine x_callV (As := [.int a1, .int a2]) (st := []) (eX0_queueAt (Nat.le_of_ble_eq_true rfl) h1) cv_X5_74 (Nat.le_of_ble_eq_true rfl) (ok_a (K := 0) (Nat.le_of_ble_eq_true rfl) (Nat.le_of_ble_eq_true rfl)) rfl (Nat.le_of_ble_eq_true rfl) _ rfl dX5_pauses_6 [x_nvQ w z1] rfl ?_
  rcases z1 with _ | t1
  · refine x_st [.null] rfl ?_
    refine x_astore_nN dX5_pauses_9 rfl (Nat.le_of_ble_eq_true rfl) [(3, .null), (0, .ref (w.2.2 4 20 0 0)), (1, .int a1), (2, .int a2)] rfl ?_
    refine x_aload_nN dX5_pauses_10 rfl 0 rfl ?_
    refine x_ifnonnullN dX5_pauses_11 ?_
    refine x_iconst (x := (-1)) dX5_pauses_14 (by decide) ?_
    refine x_goto (tgt := 22) dX5_pauses_15 rfl ?_
    exact x_iretH rfl dX5_pauses_22 h
  · obtain ⟨hg1, h⟩ := x_g_e h
    refine x_st [.ref (w.2.2 t1.1 16 t1.2.1 t1.2.2)] rfl ?_
    refine x_astore_n dX5_pauses_9 rfl (Nat.le_of_ble_eq_true rfl) [(3, .ref (w.2.2 t1.1 16 t1.2.1 t1.2.2)), (0, .ref (w.2.2 4 20 0 0)), (1, .int a1), (2, .int a2)] rfl ?_
    refine x_aload_n dX5_pauses_10 rfl 0 rfl ?_
    refine x_ifnonnullR (tgt := 18) dX5_pauses_11 rfl ?_
    refine x_aload_n dX5_pauses_18 rfl 0 rfl ?_
    refine x_getI fl_X5_177 (ok_c (ok3_d hg1) (ok3_p hg1) (ok3_r hg1)) rfl dX5_pauses_19 ?_
    exact x_iretH rfl dX5_pauses_22 h
set_option maxRecDepth 100000 in
set_option maxHeartbeats 4000000 in
theorem eX5_credit {l : Launch} {w : xW} {a1 : Int32} {σ τ : xS} {r : Int32} (h : fX5_credit a1 σ = some (r, τ)) : xEV l w yX5_credit mX5_credit [.ref (w.2.2 4 20 0 0), .int a1] σ (some (.int r)) τ := by
  rw [fX5_credit] at h
  refine x_enter (by decide +kernel) rfl (Nat.le_of_ble_eq_true rfl) ?_
  refine x_sub (L1 := [(0, .ref (w.2.2 4 20 0 0)), (1, .int a1)]) [0, 1] rfl ?_
  refine x_aload_n dX5_credit_0 rfl 0 rfl ?_
  refine x_getR (d1 := 0) (K1 := 0) (p1 := 0) (r1 := 0) fl_X5_10 ok_e20 rfl dX5_credit_1 ?_
  refine x_iload_n dX5_credit_4 rfl 1 rfl ?_
  obtain ⟨z1, s1, h1, h⟩ := x_b_e h
  refine x_callV (As := [.int a1]) (st := []) (eX0_portAt (Nat.le_of_ble_eq_true rfl) h1) cv_X5_52 (Nat.le_of_ble_eq_true rfl) (ok_a (K := 0) (Nat.le_of_ble_eq_true rfl) (Nat.le_of_ble_eq_true rfl)) rfl (Nat.le_of_ble_eq_true rfl) _ rfl dX5_credit_5 [x_nvP w z1] rfl ?_
  rcases z1 with _ | t1
  · refine x_st [.null] rfl ?_
    refine x_astore_nN dX5_credit_8 rfl (Nat.le_of_ble_eq_true rfl) [(2, .null), (0, .ref (w.2.2 4 20 0 0)), (1, .int a1)] rfl ?_
    refine x_aload_nN dX5_credit_9 rfl 0 rfl ?_
    refine x_ifnonnullN dX5_credit_10 ?_
    refine x_iconst (x := (-1)) dX5_credit_13 (by decide) ?_
    refine x_goto (tgt := 21) dX5_credit_14 rfl ?_
    exact x_iretH rfl dX5_credit_21 h
  · obtain ⟨hg1, h⟩ := x_g_e h
    refine x_st [.ref (w.2.2 t1.1 13 t1.2 0)] rfl ?_
    refine x_astore_n dX5_credit_8 rfl (Nat.le_of_ble_eq_true rfl) [(2, .ref (w.2.2 t1.1 13 t1.2 0)), (0, .ref (w.2.2 4 20 0 0)), (1, .int a1)] rfl ?_
    refine x_aload_n dX5_credit_9 rfl 0 rfl ?_
    refine x_ifnonnullR (tgt := 17) dX5_credit_10 rfl ?_
    refine x_aload_n dX5_credit_17 rfl 0 rfl ?_
    refine x_getI fl_X5_180 (ok_b (K := 13) (Nat.le_of_ble_eq_true rfl) (Nat.le_of_ble_eq_true rfl) (ok2_d hg1) (ok2_p hg1)) rfl dX5_credit_18 ?_
    exact x_iretH rfl dX5_credit_21 h
set_option maxRecDepth 100000 in
set_option maxHeartbeats 4000000 in
theorem eX5_deficit {l : Launch} {w : xW} {a1 : Int32} {a2 : Int32} {σ τ : xS} {r : Int32} (h : fX5_deficit a1 a2 σ = some (r, τ)) : xEV l w yX5_deficit mX5_deficit [.ref (w.2.2 4 20 0 0), .int a1, .int a2] σ (some (.int r)) τ := by
  rw [fX5_deficit] at h
  refine x_enter (by decide +kernel) rfl (Nat.le_of_ble_eq_true rfl) ?_
  refine x_sub (L1 := [(0, .ref (w.2.2 4 20 0 0)), (1, .int a1), (2, .int a2)]) [0, 1, 2] rfl ?_
  refine x_aload_n dX5_deficit_0 rfl 0 rfl ?_
  refine x_getR (d1 := 0) (K1 := 0) (p1 := 0) (r1 := 0) fl_X5_10 ok_e20 rfl dX5_deficit_1 ?_
  refine x_iload_n dX5_deficit_4 rfl 1 rfl ?_
  refine x_iload_n dX5_deficit_5 rfl 2 rfl ?_
  obtain ⟨z1, s1, h1, h⟩ := x_b_e h
  refine x_callV (As := [.int a1, .int a2]) (st := []) (eX0_queueAt (Nat.le_of_ble_eq_true rfl) h1) cv_X5_74 (Nat.le_of_ble_eq_true rfl) (ok_a (K := 0) (Nat.le_of_ble_eq_true rfl) (Nat.le_of_ble_eq_true rfl)) rfl (Nat.le_of_ble_eq_true rfl) _ rfl dX5_deficit_6 [x_nvQ w z1] rfl ?_
  rcases z1 with _ | t1
  · refine x_st [.null] rfl ?_
    refine x_astore_nN dX5_deficit_9 rfl (Nat.le_of_ble_eq_true rfl) [(3, .null), (0, .ref (w.2.2 4 20 0 0)), (1, .int a1), (2, .int a2)] rfl ?_
    refine x_aload_nN dX5_deficit_10 rfl 0 rfl ?_
    refine x_ifnonnullN dX5_deficit_11 ?_
    refine x_iconst (x := (-1)) dX5_deficit_14 (by decide) ?_
    refine x_goto (tgt := 22) dX5_deficit_15 rfl ?_
    exact x_iretH rfl dX5_deficit_22 h
  · obtain ⟨hg1, h⟩ := x_g_e h
    refine x_st [.ref (w.2.2 t1.1 16 t1.2.1 t1.2.2)] rfl ?_
    refine x_astore_n dX5_deficit_9 rfl (Nat.le_of_ble_eq_true rfl) [(3, .ref (w.2.2 t1.1 16 t1.2.1 t1.2.2)), (0, .ref (w.2.2 4 20 0 0)), (1, .int a1), (2, .int a2)] rfl ?_
    refine x_aload_n dX5_deficit_10 rfl 0 rfl ?_
    refine x_ifnonnullR (tgt := 18) dX5_deficit_11 rfl ?_
    refine x_aload_n dX5_deficit_18 rfl 0 rfl ?_
    refine x_getI fl_X5_183 (ok_c (ok3_d hg1) (ok3_p hg1) (ok3_r hg1)) rfl dX5_deficit_19 ?_
    exact x_iretH rfl dX5_deficit_22 h
set_option maxRecDepth 100000 in
set_option maxHeartbeats 4000000 in
theorem eX5_losses {l : Launch} {w : xW} {a1 : Int32} {a2 : Int32} {σ τ : xS} {r : Int32} (h : fX5_losses a1 a2 σ = some (r, τ)) : xEV l w yX5_losses mX5_losses [.ref (w.2.2 4 20 0 0), .int a1, .int a2] σ (some (.int r)) τ := by
  rw [fX5_losses] at h
  refine x_enter (by decide +kernel) rfl (Nat.le_of_ble_eq_true rfl) ?_
  refine x_sub (L1 := [(0, .ref (w.2.2 4 20 0 0)), (1, .int a1), (2, .int a2)]) [0, 1, 2] rfl ?_
  refine x_aload_n dX5_losses_0 rfl 0 rfl ?_
  refine x_getR (d1 := 0) (K1 := 0) (p1 := 0) (r1 := 0) fl_X5_10 ok_e20 rfl dX5_losses_1 ?_
  refine x_iload_n dX5_losses_4 rfl 1 rfl ?_
  obtain ⟨z1, s1, h1, h⟩ := x_b_e h
  refine x_callV (As := [.int a1]) (st := []) (eX0_portAt (Nat.le_of_ble_eq_true rfl) h1) cv_X5_52 (Nat.le_of_ble_eq_true rfl) (ok_a (K := 0) (Nat.le_of_ble_eq_true rfl) (Nat.le_of_ble_eq_true rfl)) rfl (Nat.le_of_ble_eq_true rfl) _ rfl dX5_losses_5 [x_nvP w z1] rfl ?_
  rcases z1 with _ | t1
  · refine x_st [.null] rfl ?_
    refine x_astore_nN dX5_losses_8 rfl (Nat.le_of_ble_eq_true rfl) [(3, .null), (0, .ref (w.2.2 4 20 0 0)), (1, .int a1), (2, .int a2)] rfl ?_
    refine x_aload_nN dX5_losses_9 rfl 0 rfl ?_
    refine x_ifnonnullN dX5_losses_10 ?_
    refine x_iconst (x := (-1)) dX5_losses_13 (by decide) ?_
    exact x_iretH rfl dX5_losses_14 h
  · obtain ⟨hg1, h⟩ := x_g_e h
    refine x_st [.ref (w.2.2 t1.1 13 t1.2 0)] rfl ?_
    refine x_astore_n dX5_losses_8 rfl (Nat.le_of_ble_eq_true rfl) [(3, .ref (w.2.2 t1.1 13 t1.2 0)), (0, .ref (w.2.2 4 20 0 0)), (1, .int a1), (2, .int a2)] rfl ?_
    refine x_aload_n dX5_losses_9 rfl 0 rfl ?_
    refine x_ifnonnullR (tgt := 15) dX5_losses_10 rfl ?_
    refine x_iload_n dX5_losses_15 rfl 3 rfl ?_
    by_cases hc2 : a2 = 2
    · have h := x_t hc2 h
      refine x_tableIn (off := 48) (tgt := 64) dX5_losses_16 (by rw [hc2]; decide) (by rw [hc2]; decide) (by rw [hc2]; first | done | rfl) rfl ?_
      refine x_aload_n dX5_losses_64 rfl 0 rfl ?_
      refine x_getR (d1 := t1.1) (K1 := 15) (p1 := t1.2) (r1 := 0) fl_X5_186 (ok_b (K := 13) (Nat.le_of_ble_eq_true rfl) (Nat.le_of_ble_eq_true rfl) (ok2_d hg1) (ok2_p hg1)) rfl dX5_losses_65 ?_
      refine x_iload_n dX5_losses_68 rfl 3 rfl ?_
      obtain ⟨hg2, h⟩ := x_g_e h
      refine x_iald 10 a2.toNatClampNeg rfl rfl rfl rfl (ok_b (K := 15) (Nat.le_of_ble_eq_true rfl) (Nat.le_of_ble_eq_true rfl) (ok2_d hg1) (ok2_p hg1)) hg2 dX5_losses_69 ?_
      exact x_iretH rfl dX5_losses_70 h
    · have h := x_f hc2 h
      by_cases hc3 : a2 = 3
      · have h := x_t hc3 h
        refine x_tableIn (off := 48) (tgt := 64) dX5_losses_16 (by rw [hc3]; decide) (by rw [hc3]; decide) (by rw [hc3]; first | done | rfl) rfl ?_
        refine x_aload_n dX5_losses_64 rfl 0 rfl ?_
        refine x_getR (d1 := t1.1) (K1 := 15) (p1 := t1.2) (r1 := 0) fl_X5_186 (ok_b (K := 13) (Nat.le_of_ble_eq_true rfl) (Nat.le_of_ble_eq_true rfl) (ok2_d hg1) (ok2_p hg1)) rfl dX5_losses_65 ?_
        refine x_iload_n dX5_losses_68 rfl 3 rfl ?_
        obtain ⟨hg3, h⟩ := x_g_e h
        refine x_iald 10 a2.toNatClampNeg rfl rfl rfl rfl (ok_b (K := 15) (Nat.le_of_ble_eq_true rfl) (Nat.le_of_ble_eq_true rfl) (ok2_d hg1) (ok2_p hg1)) hg3 dX5_losses_69 ?_
        exact x_iretH rfl dX5_losses_70 h
      · have h := x_f hc3 h
        by_cases hc4 : a2 = 4
        · have h := x_t hc4 h
          refine x_tableIn (off := 55) (tgt := 71) dX5_losses_16 (by rw [hc4]; decide) (by rw [hc4]; decide) (by rw [hc4]; first | done | rfl) rfl ?_
          refine x_bipush (x := (-2)) dX5_losses_71 (by decide) ?_
          exact x_iretH rfl dX5_losses_73 h
        · have h := x_f hc4 h
          by_cases hc5 : a2 = 5
          · have h := x_t hc5 h
            refine x_tableIn (off := 48) (tgt := 64) dX5_losses_16 (by rw [hc5]; decide) (by rw [hc5]; decide) (by rw [hc5]; first | done | rfl) rfl ?_
            refine x_aload_n dX5_losses_64 rfl 0 rfl ?_
            refine x_getR (d1 := t1.1) (K1 := 15) (p1 := t1.2) (r1 := 0) fl_X5_186 (ok_b (K := 13) (Nat.le_of_ble_eq_true rfl) (Nat.le_of_ble_eq_true rfl) (ok2_d hg1) (ok2_p hg1)) rfl dX5_losses_65 ?_
            refine x_iload_n dX5_losses_68 rfl 3 rfl ?_
            obtain ⟨hg4, h⟩ := x_g_e h
            refine x_iald 10 a2.toNatClampNeg rfl rfl rfl rfl (ok_b (K := 15) (Nat.le_of_ble_eq_true rfl) (Nat.le_of_ble_eq_true rfl) (ok2_d hg1) (ok2_p hg1)) hg4 dX5_losses_69 ?_
            exact x_iretH rfl dX5_losses_70 h
          · have h := x_f hc5 h
            by_cases hc6 : a2 = 6
            · have h := x_t hc6 h
              refine x_tableIn (off := 55) (tgt := 71) dX5_losses_16 (by rw [hc6]; decide) (by rw [hc6]; decide) (by rw [hc6]; first | done | rfl) rfl ?_
              refine x_bipush (x := (-2)) dX5_losses_71 (by decide) ?_
              exact x_iretH rfl dX5_losses_73 h
            · have h := x_f hc6 h
              by_cases hc7 : a2 = 7
              · have h := x_t hc7 h
                refine x_tableIn (off := 55) (tgt := 71) dX5_losses_16 (by rw [hc7]; decide) (by rw [hc7]; decide) (by rw [hc7]; first | done | rfl) rfl ?_
                refine x_bipush (x := (-2)) dX5_losses_71 (by decide) ?_
                exact x_iretH rfl dX5_losses_73 h
              · have h := x_f hc7 h
                by_cases hc8 : a2 = 8
                · have h := x_t hc8 h
                  refine x_tableIn (off := 48) (tgt := 64) dX5_losses_16 (by rw [hc8]; decide) (by rw [hc8]; decide) (by rw [hc8]; first | done | rfl) rfl ?_
                  refine x_aload_n dX5_losses_64 rfl 0 rfl ?_
                  refine x_getR (d1 := t1.1) (K1 := 15) (p1 := t1.2) (r1 := 0) fl_X5_186 (ok_b (K := 13) (Nat.le_of_ble_eq_true rfl) (Nat.le_of_ble_eq_true rfl) (ok2_d hg1) (ok2_p hg1)) rfl dX5_losses_65 ?_
                  refine x_iload_n dX5_losses_68 rfl 3 rfl ?_
                  obtain ⟨hg5, h⟩ := x_g_e h
                  refine x_iald 10 a2.toNatClampNeg rfl rfl rfl rfl (ok_b (K := 15) (Nat.le_of_ble_eq_true rfl) (Nat.le_of_ble_eq_true rfl) (ok2_d hg1) (ok2_p hg1)) hg5 dX5_losses_69 ?_
                  exact x_iretH rfl dX5_losses_70 h
                · have h := x_f hc8 h
                  by_cases hc9 : a2 = 9
                  · have h := x_t hc9 h
                    refine x_tableIn (off := 48) (tgt := 64) dX5_losses_16 (by rw [hc9]; decide) (by rw [hc9]; decide) (by rw [hc9]; first | done | rfl) rfl ?_
                    refine x_aload_n dX5_losses_64 rfl 0 rfl ?_
                    refine x_getR (d1 := t1.1) (K1 := 15) (p1 := t1.2) (r1 := 0) fl_X5_186 (ok_b (K := 13) (Nat.le_of_ble_eq_true rfl) (Nat.le_of_ble_eq_true rfl) (ok2_d hg1) (ok2_p hg1)) rfl dX5_losses_65 ?_
                    refine x_iload_n dX5_losses_68 rfl 3 rfl ?_
                    obtain ⟨hg6, h⟩ := x_g_e h
                    refine x_iald 10 a2.toNatClampNeg rfl rfl rfl rfl (ok_b (K := 15) (Nat.le_of_ble_eq_true rfl) (Nat.le_of_ble_eq_true rfl) (ok2_d hg1) (ok2_p hg1)) hg6 dX5_losses_69 ?_
                    exact x_iretH rfl dX5_losses_70 h
                  · have h := x_f hc9 h
                    refine x_tableOut (tgt := 71) dX5_losses_16 (by have q2 := x_ne_i 2 2 rfl hc2; have q3 := x_ne_i 3 3 rfl hc3; have q4 := x_ne_i 4 4 rfl hc4; have q5 := x_ne_i 5 5 rfl hc5; have q6 := x_ne_i 6 6 rfl hc6; have q7 := x_ne_i 7 7 rfl hc7; have q8 := x_ne_i 8 8 rfl hc8; have q9 := x_ne_i 9 9 rfl hc9; omega) rfl ?_
                    refine x_bipush (x := (-2)) dX5_losses_71 (by decide) ?_
                    exact x_iretH rfl dX5_losses_73 h
set_option maxRecDepth 100000 in
set_option maxHeartbeats 4000000 in
theorem eX5_lostCells {l : Launch} {w : xW} {a1 : Int32} {σ τ : xS} {r : Int32} (h : fX5_lostCells a1 σ = some (r, τ)) : xEV l w yX5_lostCells mX5_lostCells [.ref (w.2.2 4 20 0 0), .int a1] σ (some (.int r)) τ := by
  rw [fX5_lostCells] at h
  refine x_enter (by decide +kernel) rfl (Nat.le_of_ble_eq_true rfl) ?_
  refine x_sub (L1 := [(0, .ref (w.2.2 4 20 0 0)), (1, .int a1)]) [0, 1] rfl ?_
  refine x_aload_n dX5_lostCells_0 rfl 0 rfl ?_
  refine x_getR (d1 := 0) (K1 := 0) (p1 := 0) (r1 := 0) fl_X5_10 ok_e20 rfl dX5_lostCells_1 ?_
  refine x_iload_n dX5_lostCells_4 rfl 1 rfl ?_
  obtain ⟨z1, s1, h1, h⟩ := x_b_e h
  refine x_callV (As := [.int a1]) (st := []) (eX0_portAt (Nat.le_of_ble_eq_true rfl) h1) cv_X5_52 (Nat.le_of_ble_eq_true rfl) (ok_a (K := 0) (Nat.le_of_ble_eq_true rfl) (Nat.le_of_ble_eq_true rfl)) rfl (Nat.le_of_ble_eq_true rfl) _ rfl dX5_lostCells_5 [x_nvP w z1] rfl ?_
  rcases z1 with _ | t1
  · refine x_st [.null] rfl ?_
    refine x_astore_nN dX5_lostCells_8 rfl (Nat.le_of_ble_eq_true rfl) [(2, .null), (0, .ref (w.2.2 4 20 0 0)), (1, .int a1)] rfl ?_
    refine x_aload_nN dX5_lostCells_9 rfl 0 rfl ?_
    refine x_ifnonnullN dX5_lostCells_10 ?_
    refine x_iconst (x := (-1)) dX5_lostCells_13 (by decide) ?_
    refine x_goto (tgt := 21) dX5_lostCells_14 rfl ?_
    exact x_iretH rfl dX5_lostCells_21 h
  · obtain ⟨hg1, h⟩ := x_g_e h
    refine x_st [.ref (w.2.2 t1.1 13 t1.2 0)] rfl ?_
    refine x_astore_n dX5_lostCells_8 rfl (Nat.le_of_ble_eq_true rfl) [(2, .ref (w.2.2 t1.1 13 t1.2 0)), (0, .ref (w.2.2 4 20 0 0)), (1, .int a1)] rfl ?_
    refine x_aload_n dX5_lostCells_9 rfl 0 rfl ?_
    refine x_ifnonnullR (tgt := 17) dX5_lostCells_10 rfl ?_
    refine x_aload_n dX5_lostCells_17 rfl 0 rfl ?_
    refine x_getI fl_X5_190 (ok_b (K := 13) (Nat.le_of_ble_eq_true rfl) (Nat.le_of_ble_eq_true rfl) (ok2_d hg1) (ok2_p hg1)) rfl dX5_lostCells_18 ?_
    exact x_iretH rfl dX5_lostCells_21 h
set_option maxRecDepth 100000 in
set_option maxHeartbeats 4000000 in
theorem eX5_lossCause {l : Launch} {w : xW} {a1 : Int32} {σ τ : xS} {r : Int32} (h : fX5_lossCause a1 σ = some (r, τ)) : xEV l w yX5_lossCause mX5_lossCause [.ref (w.2.2 4 20 0 0), .int a1] σ (some (.int r)) τ := by
  rw [fX5_lossCause] at h
  refine x_enter (by decide +kernel) rfl (Nat.le_of_ble_eq_true rfl) ?_
  refine x_sub (L1 := [(0, .ref (w.2.2 4 20 0 0)), (1, .int a1)]) [0, 1] rfl ?_
  refine x_iload_n dX5_lossCause_0 rfl 1 rfl ?_
  refine x_iconst (x := 0) dX5_lossCause_1 rfl ?_
  refine x_iconst (x := 3) dX5_lossCause_2 rfl ?_
  obtain ⟨z1, s1, h1, h⟩ := x_b_e h
  refine x_callS (As := [.int a1, .int 0, .int 3]) (st := []) (eX5_isOutside  h1) cs_X5_38 (Nat.le_of_ble_eq_true rfl) rfl (Nat.le_of_ble_eq_true rfl) _ rfl dX5_lossCause_3 [.int z1] rfl ?_
  refine x_if_eq (tgt := 11) dX5_lossCause_6 rfl (fun hc => ?_) (fun hc => ?_)
  · have h := x_t hc h
    refine x_aload_n dX5_lossCause_11 rfl 0 rfl ?_
    refine x_getR (d1 := 0) (K1 := 0) (p1 := 0) (r1 := 0) fl_X5_10 ok_e20 rfl dX5_lossCause_12 ?_
    refine x_getI fl_X5_193 (ok_a (K := 0) (Nat.le_of_ble_eq_true rfl) (Nat.le_of_ble_eq_true rfl)) rfl dX5_lossCause_15 ?_
    refine x_if_eq (tgt := 35) dX5_lossCause_18 rfl (fun hc => ?_) (fun hc => ?_)
    · have h := x_t hc h
      refine x_bipush (x := (-5)) dX5_lossCause_35 (by decide) ?_
      exact x_iretH rfl dX5_lossCause_37 h
    · have h := x_f hc h
      refine x_aload_n dX5_lossCause_21 rfl 0 rfl ?_
      refine x_getR (d1 := 0) (K1 := 0) (p1 := 0) (r1 := 0) fl_X5_10 ok_e20 rfl dX5_lossCause_22 ?_
      refine x_getR (d1 := 0) (K1 := 11) (p1 := 0) (r1 := 0) fl_X5_196 (ok_a (K := 0) (Nat.le_of_ble_eq_true rfl) (Nat.le_of_ble_eq_true rfl)) rfl dX5_lossCause_25 ?_
      refine x_iconst (x := 3) dX5_lossCause_28 rfl ?_
      refine x_iload_n dX5_lossCause_29 rfl 1 rfl ?_
      refine x_isub dX5_lossCause_30 ?_
      obtain ⟨t2, ht2, h⟩ := x_let_e h
      refine x_nm t2 ht2 ?_
      obtain ⟨hg3, h⟩ := x_g_e h
      refine x_iald 4 t2.toNatClampNeg rfl rfl rfl rfl (ok_a (K := 11) (Nat.le_of_ble_eq_true rfl) (Nat.le_of_ble_eq_true rfl)) hg3 dX5_lossCause_31 ?_
      refine x_goto (tgt := 37) dX5_lossCause_32 rfl ?_
      exact x_iretH rfl dX5_lossCause_37 h
  · have h := x_f hc h
    refine x_iconst (x := (-1)) dX5_lossCause_9 (by decide) ?_
    exact x_iretH rfl dX5_lossCause_10 h
set_option maxRecDepth 100000 in
set_option maxHeartbeats 4000000 in
theorem eX5_departed {l : Launch} {w : xW} {a1 : Int32} {σ τ : xS} {r : Int32} (h : fX5_departed a1 σ = some (r, τ)) : xEV l w yX5_departed mX5_departed [.ref (w.2.2 4 20 0 0), .int a1] σ (some (.int r)) τ := by
  rw [fX5_departed] at h
  refine x_enter (by decide +kernel) rfl (Nat.le_of_ble_eq_true rfl) ?_
  refine x_sub (L1 := [(0, .ref (w.2.2 4 20 0 0)), (1, .int a1)]) [0, 1] rfl ?_
  refine x_aload_n dX5_departed_0 rfl 0 rfl ?_
  refine x_getR (d1 := 0) (K1 := 0) (p1 := 0) (r1 := 0) fl_X5_10 ok_e20 rfl dX5_departed_1 ?_
  refine x_iload_n dX5_departed_4 rfl 1 rfl ?_
  obtain ⟨z1, s1, h1, h⟩ := x_b_e h
  refine x_callV (As := [.int a1]) (st := []) (eX0_portAt (Nat.le_of_ble_eq_true rfl) h1) cv_X5_52 (Nat.le_of_ble_eq_true rfl) (ok_a (K := 0) (Nat.le_of_ble_eq_true rfl) (Nat.le_of_ble_eq_true rfl)) rfl (Nat.le_of_ble_eq_true rfl) _ rfl dX5_departed_5 [x_nvP w z1] rfl ?_
  rcases z1 with _ | t1
  · refine x_st [.null] rfl ?_
    refine x_astore_nN dX5_departed_8 rfl (Nat.le_of_ble_eq_true rfl) [(2, .null), (0, .ref (w.2.2 4 20 0 0)), (1, .int a1)] rfl ?_
    refine x_aload_nN dX5_departed_9 rfl 0 rfl ?_
    refine x_ifnonnullN dX5_departed_10 ?_
    refine x_iconst (x := (-1)) dX5_departed_13 (by decide) ?_
    refine x_goto (tgt := 21) dX5_departed_14 rfl ?_
    exact x_iretH rfl dX5_departed_21 h
  · obtain ⟨hg1, h⟩ := x_g_e h
    refine x_st [.ref (w.2.2 t1.1 13 t1.2 0)] rfl ?_
    refine x_astore_n dX5_departed_8 rfl (Nat.le_of_ble_eq_true rfl) [(2, .ref (w.2.2 t1.1 13 t1.2 0)), (0, .ref (w.2.2 4 20 0 0)), (1, .int a1)] rfl ?_
    refine x_aload_n dX5_departed_9 rfl 0 rfl ?_
    refine x_ifnonnullR (tgt := 17) dX5_departed_10 rfl ?_
    refine x_aload_n dX5_departed_17 rfl 0 rfl ?_
    refine x_getI fl_X5_199 (ok_b (K := 13) (Nat.le_of_ble_eq_true rfl) (Nat.le_of_ble_eq_true rfl) (ok2_d hg1) (ok2_p hg1)) rfl dX5_departed_18 ?_
    exact x_iretH rfl dX5_departed_21 h
set_option maxRecDepth 100000 in
set_option maxHeartbeats 4000000 in
theorem eX5_admitted {l : Launch} {w : xW} {σ τ : xS} {r : Int32} (h : fX5_admitted σ = some (r, τ)) : xEV l w yX5_admitted mX5_admitted [.ref (w.2.2 4 20 0 0)] σ (some (.int r)) τ := by
  rw [fX5_admitted] at h
  refine x_enter (by decide +kernel) rfl (Nat.le_of_ble_eq_true rfl) ?_
  refine x_sub (L1 := [(0, .ref (w.2.2 4 20 0 0))]) [0] rfl ?_
  refine x_aload_n dX5_admitted_0 rfl 0 rfl ?_
  refine x_getR (d1 := 0) (K1 := 0) (p1 := 0) (r1 := 0) fl_X5_10 ok_e20 rfl dX5_admitted_1 ?_
  refine x_getI fl_X5_202 (ok_a (K := 0) (Nat.le_of_ble_eq_true rfl) (Nat.le_of_ble_eq_true rfl)) rfl dX5_admitted_4 ?_
  exact x_iretH rfl dX5_admitted_7 h
set_option maxRecDepth 100000 in
set_option maxHeartbeats 4000000 in
theorem eX5_time {l : Launch} {w : xW} {σ τ : xS} {r : Int32} (h : fX5_time σ = some (r, τ)) : xEV l w yX5_time mX5_time [.ref (w.2.2 4 20 0 0)] σ (some (.int r)) τ := by
  rw [fX5_time] at h
  refine x_enter (by decide +kernel) rfl (Nat.le_of_ble_eq_true rfl) ?_
  refine x_sub (L1 := [(0, .ref (w.2.2 4 20 0 0))]) [0] rfl ?_
  refine x_aload_n dX5_time_0 rfl 0 rfl ?_
  refine x_getR (d1 := 0) (K1 := 0) (p1 := 0) (r1 := 0) fl_X5_10 ok_e20 rfl dX5_time_1 ?_
  refine x_getI fl_X5_205 (ok_a (K := 0) (Nat.le_of_ble_eq_true rfl) (Nat.le_of_ble_eq_true rfl)) rfl dX5_time_4 ?_
  exact x_iretH rfl dX5_time_7 h
set_option maxRecDepth 100000 in
set_option maxHeartbeats 4000000 in
theorem eX5_queueLength {l : Launch} {w : xW} {a1 : Int32} {a2 : Int32} {σ τ : xS} {r : Int32} (h : fX5_queueLength a1 a2 σ = some (r, τ)) : xEV l w yX5_queueLength mX5_queueLength [.ref (w.2.2 4 20 0 0), .int a1, .int a2] σ (some (.int r)) τ := by
  rw [fX5_queueLength] at h
  refine x_enter (by decide +kernel) rfl (Nat.le_of_ble_eq_true rfl) ?_
  refine x_sub (L1 := [(0, .ref (w.2.2 4 20 0 0)), (1, .int a1), (2, .int a2)]) [0, 1, 2] rfl ?_
  refine x_aload_n dX5_queueLength_0 rfl 0 rfl ?_
  refine x_getR (d1 := 0) (K1 := 0) (p1 := 0) (r1 := 0) fl_X5_10 ok_e20 rfl dX5_queueLength_1 ?_
  refine x_iload_n dX5_queueLength_4 rfl 1 rfl ?_
  refine x_iload_n dX5_queueLength_5 rfl 2 rfl ?_
  obtain ⟨z1, s1, h1, h⟩ := x_b_e h
  refine x_callV (As := [.int a1, .int a2]) (st := []) (eX0_queueAt (Nat.le_of_ble_eq_true rfl) h1) cv_X5_74 (Nat.le_of_ble_eq_true rfl) (ok_a (K := 0) (Nat.le_of_ble_eq_true rfl) (Nat.le_of_ble_eq_true rfl)) rfl (Nat.le_of_ble_eq_true rfl) _ rfl dX5_queueLength_6 [x_nvQ w z1] rfl ?_
  rcases z1 with _ | t1
  · refine x_st [.null] rfl ?_
    refine x_astore_nN dX5_queueLength_9 rfl (Nat.le_of_ble_eq_true rfl) [(3, .null), (0, .ref (w.2.2 4 20 0 0)), (1, .int a1), (2, .int a2)] rfl ?_
    refine x_aload_nN dX5_queueLength_10 rfl 0 rfl ?_
    refine x_ifnonnullN dX5_queueLength_11 ?_
    refine x_iconst (x := (-1)) dX5_queueLength_14 (by decide) ?_
    refine x_goto (tgt := 22) dX5_queueLength_15 rfl ?_
    exact x_iretH rfl dX5_queueLength_22 h
  · obtain ⟨hg1, h⟩ := x_g_e h
    refine x_st [.ref (w.2.2 t1.1 16 t1.2.1 t1.2.2)] rfl ?_
    refine x_astore_n dX5_queueLength_9 rfl (Nat.le_of_ble_eq_true rfl) [(3, .ref (w.2.2 t1.1 16 t1.2.1 t1.2.2)), (0, .ref (w.2.2 4 20 0 0)), (1, .int a1), (2, .int a2)] rfl ?_
    refine x_aload_n dX5_queueLength_10 rfl 0 rfl ?_
    refine x_ifnonnullR (tgt := 18) dX5_queueLength_11 rfl ?_
    refine x_aload_n dX5_queueLength_18 rfl 0 rfl ?_
    refine x_getI fl_X5_208 (ok_c (ok3_d hg1) (ok3_p hg1) (ok3_r hg1)) rfl dX5_queueLength_19 ?_
    exact x_iretH rfl dX5_queueLength_22 h
set_option maxRecDepth 100000 in
set_option maxHeartbeats 4000000 in
theorem TX5_packetAt_43 {l : Launch} {w : xW} {a3 : Int32} {τ : xS} {r : Int32} : ∀ (n : Nat) (a5 : Int32) (a6 : Int32) (σ : xS), BX5_packetAt_43 a3 n a5 a6 σ = some (r, τ) → xAt l w mX5_packetAt 43 [(0, .ref (w.2.2 4 20 0 0)), (3, .int a3), (5, .int a5), (6, .int a6)] [] σ (some (.int r)) τ := by
  intro n
  induction n with
  | zero => intro a5 a6 σ h; cases h
  | succ n ih =>
    intro a5 a6 σ h
    rw [BX5_packetAt_43] at h
    refine x_iload dX5_packetAt_43 3 rfl ?_
    refine x_iload_n dX5_packetAt_45 rfl 1 rfl ?_
    refine x_icmp_ge (tgt := 69) dX5_packetAt_46 rfl (fun hc => ?_) (fun hc => ?_)
    · have h := x_t hc h
      refine x_aload_n dX5_packetAt_69 rfl 0 rfl ?_
      refine x_getR (d1 := 0) (K1 := 0) (p1 := 0) (r1 := 0) fl_X5_10 ok_e20 rfl dX5_packetAt_70 ?_
      refine x_getR (d1 := 0) (K1 := 1) (p1 := 0) (r1 := 0) fl_X5_42 (ok_a (K := 0) (Nat.le_of_ble_eq_true rfl) (Nat.le_of_ble_eq_true rfl)) rfl dX5_packetAt_73 ?_
      refine x_iload dX5_packetAt_76 2 rfl ?_
      obtain ⟨z4, s4, h4, h⟩ := x_b_e h
      refine x_callV (As := [.int a5]) (st := []) (eX1_numberOf (Nat.le_of_ble_eq_true rfl) h4) cv_X5_217 (Nat.le_of_ble_eq_true rfl) (ok_a (K := 1) (Nat.le_of_ble_eq_true rfl) (Nat.le_of_ble_eq_true rfl)) rfl (Nat.le_of_ble_eq_true rfl) _ rfl dX5_packetAt_78 [.int z4] rfl ?_
      exact x_iretH rfl dX5_packetAt_81 h
    · have h := x_f hc h
      refine x_aload_n dX5_packetAt_49 rfl 0 rfl ?_
      refine x_getR (d1 := 0) (K1 := 0) (p1 := 0) (r1 := 0) fl_X5_10 ok_e20 rfl dX5_packetAt_50 ?_
      refine x_getR (d1 := 0) (K1 := 1) (p1 := 0) (r1 := 0) fl_X5_42 (ok_a (K := 0) (Nat.le_of_ble_eq_true rfl) (Nat.le_of_ble_eq_true rfl)) rfl dX5_packetAt_53 ?_
      refine x_iload dX5_packetAt_56 2 rfl ?_
      obtain ⟨z5, s5, h5, h⟩ := x_b_e h
      refine x_callV (As := [.int a5]) (st := []) (eX1_packetBehind (Nat.le_of_ble_eq_true rfl) h5) cv_X5_214 (Nat.le_of_ble_eq_true rfl) (ok_a (K := 1) (Nat.le_of_ble_eq_true rfl) (Nat.le_of_ble_eq_true rfl)) rfl (Nat.le_of_ble_eq_true rfl) _ rfl dX5_packetAt_58 [.int z5] rfl ?_
      refine x_istore z5 rfl dX5_packetAt_61 (Nat.le_of_ble_eq_true rfl) [(5, .int z5), (0, .ref (w.2.2 4 20 0 0)), (3, .int a3), (6, .int a6)] rfl ?_
      obtain ⟨t6, ht6, h⟩ := x_let_e h
      refine x_iinc t6 1 rfl ht6 dX5_packetAt_63 3 rfl (Nat.le_of_ble_eq_true rfl) [(6, .int t6), (5, .int z5), (0, .ref (w.2.2 4 20 0 0)), (3, .int a3)] rfl ?_
      refine x_goto (tgt := 43) dX5_packetAt_66 rfl ?_
      refine x_sub (L1 := [(0, .ref (w.2.2 4 20 0 0)), (3, .int a3), (5, .int z5), (6, .int t6)]) [2, 3, 1, 0] rfl ?_
      exact ih _ _ _ h
set_option maxRecDepth 100000 in
set_option maxHeartbeats 4000000 in
theorem eX5_packetAt {l : Launch} {w : xW} {a1 : Int32} {a2 : Int32} {a3 : Int32} {σ τ : xS} {r : Int32} (h : fX5_packetAt a1 a2 a3 σ = some (r, τ)) : xEV l w yX5_packetAt mX5_packetAt [.ref (w.2.2 4 20 0 0), .int a1, .int a2, .int a3] σ (some (.int r)) τ := by
  rw [fX5_packetAt] at h
  refine x_enter (by decide +kernel) rfl (Nat.le_of_ble_eq_true rfl) ?_
  refine x_sub (L1 := [(0, .ref (w.2.2 4 20 0 0)), (1, .int a1), (2, .int a2), (3, .int a3)]) [0, 1, 2, 3] rfl ?_
  refine x_aload_n dX5_packetAt_0 rfl 0 rfl ?_
  refine x_getR (d1 := 0) (K1 := 0) (p1 := 0) (r1 := 0) fl_X5_10 ok_e20 rfl dX5_packetAt_1 ?_
  refine x_iload_n dX5_packetAt_4 rfl 1 rfl ?_
  refine x_iload_n dX5_packetAt_5 rfl 2 rfl ?_
  obtain ⟨z1, s1, h1, h⟩ := x_b_e h
  refine x_callV (As := [.int a1, .int a2]) (st := []) (eX0_queueAt (Nat.le_of_ble_eq_true rfl) h1) cv_X5_74 (Nat.le_of_ble_eq_true rfl) (ok_a (K := 0) (Nat.le_of_ble_eq_true rfl) (Nat.le_of_ble_eq_true rfl)) rfl (Nat.le_of_ble_eq_true rfl) _ rfl dX5_packetAt_6 [x_nvQ w z1] rfl ?_
  rcases z1 with _ | t1
  · refine x_st [.null] rfl ?_
    refine x_astoreN dX5_packetAt_9 (Nat.le_of_ble_eq_true rfl) [(4, .null), (0, .ref (w.2.2 4 20 0 0)), (1, .int a1), (2, .int a2), (3, .int a3)] rfl ?_
    refine x_aloadN dX5_packetAt_11 0 rfl ?_
    refine x_ifnullN (tgt := 31) dX5_packetAt_13 rfl ?_
    refine x_iconst (x := (-1)) dX5_packetAt_31 (by decide) ?_
    exact x_iretH rfl dX5_packetAt_32 h
  · obtain ⟨hg1, h⟩ := x_g_e h
    refine x_st [.ref (w.2.2 t1.1 16 t1.2.1 t1.2.2)] rfl ?_
    refine x_astore dX5_packetAt_9 (Nat.le_of_ble_eq_true rfl) [(4, .ref (w.2.2 t1.1 16 t1.2.1 t1.2.2)), (0, .ref (w.2.2 4 20 0 0)), (1, .int a1), (2, .int a2), (3, .int a3)] rfl ?_
    refine x_aload dX5_packetAt_11 0 rfl ?_
    refine x_ifnullR dX5_packetAt_13 ?_
    refine x_iload_n dX5_packetAt_16 rfl 4 rfl ?_
    refine x_iconst (x := 0) dX5_packetAt_17 rfl ?_
    refine x_aload dX5_packetAt_18 0 rfl ?_
    refine x_getI fl_X5_208 (ok_c (ok3_d hg1) (ok3_p hg1) (ok3_r hg1)) rfl dX5_packetAt_20 ?_
    refine x_iconst (x := 1) dX5_packetAt_23 rfl ?_
    refine x_isub dX5_packetAt_24 ?_
    obtain ⟨z2, s2, h2, h⟩ := x_b_e h
    refine x_callS (As := [.int a3, .int 0, .int ((s1 t1.1 16 t1.2.1 t1.2.2 15) - 1)]) (st := []) (eX5_isOutside  h2) cs_X5_38 (Nat.le_of_ble_eq_true rfl) rfl (Nat.le_of_ble_eq_true rfl) _ rfl dX5_packetAt_25 [.int z2] rfl ?_
    refine x_if_eq (tgt := 33) dX5_packetAt_28 rfl (fun hc => ?_) (fun hc => ?_)
    · have h := x_t hc h
      refine x_aload dX5_packetAt_33 0 rfl ?_
      refine x_getI fl_X5_211 (ok_c (ok3_d hg1) (ok3_p hg1) (ok3_r hg1)) rfl dX5_packetAt_35 ?_
      obtain ⟨t3, ht3, h⟩ := x_let_e h
      refine x_istore t3 ht3 dX5_packetAt_38 (Nat.le_of_ble_eq_true rfl) [(5, .int t3), (4, .ref (w.2.2 t1.1 16 t1.2.1 t1.2.2)), (0, .ref (w.2.2 4 20 0 0)), (1, .int a1), (2, .int a2), (3, .int a3)] rfl ?_
      refine x_iconst (x := 0) dX5_packetAt_40 rfl ?_
      refine x_istore 0 rfl dX5_packetAt_41 (Nat.le_of_ble_eq_true rfl) [(6, .int 0), (5, .int t3), (4, .ref (w.2.2 t1.1 16 t1.2.1 t1.2.2)), (0, .ref (w.2.2 4 20 0 0)), (1, .int a1), (2, .int a2), (3, .int a3)] rfl ?_
      refine x_sub (L1 := [(0, .ref (w.2.2 4 20 0 0)), (3, .int a3), (5, .int t3), (6, .int 0)]) [3, 6, 1, 0] rfl ?_
      exact TX5_packetAt_43 _ _ _ _ h
    · have h := x_f hc h
      refine x_iconst (x := (-1)) dX5_packetAt_31 (by decide) ?_
      exact x_iretH rfl dX5_packetAt_32 h
set_option maxRecDepth 100000 in
set_option maxHeartbeats 4000000 in
theorem eX5_fragments {l : Launch} {w : xW} {a1 : Int32} {σ τ : xS} {r : Int32} (h : fX5_fragments a1 σ = some (r, τ)) : xEV l w yX5_fragments mX5_fragments [.ref (w.2.2 4 20 0 0), .int a1] σ (some (.int r)) τ := by
  rw [fX5_fragments] at h
  refine x_enter (by decide +kernel) rfl (Nat.le_of_ble_eq_true rfl) ?_
  refine x_sub (L1 := [(0, .ref (w.2.2 4 20 0 0)), (1, .int a1)]) [0, 1] rfl ?_
  refine x_aload_n dX5_fragments_0 rfl 0 rfl ?_
  refine x_getR (d1 := 0) (K1 := 0) (p1 := 0) (r1 := 0) fl_X5_10 ok_e20 rfl dX5_fragments_1 ?_
  refine x_getR (d1 := 0) (K1 := 1) (p1 := 0) (r1 := 0) fl_X5_42 (ok_a (K := 0) (Nat.le_of_ble_eq_true rfl) (Nat.le_of_ble_eq_true rfl)) rfl dX5_fragments_4 ?_
  refine x_iload_n dX5_fragments_7 rfl 1 rfl ?_
  obtain ⟨z1, s1, h1, h⟩ := x_b_e h
  refine x_callV (As := [.int a1]) (st := []) (eX1_find (Nat.le_of_ble_eq_true rfl) h1) cv_X5_220 (Nat.le_of_ble_eq_true rfl) (ok_a (K := 1) (Nat.le_of_ble_eq_true rfl) (Nat.le_of_ble_eq_true rfl)) rfl (Nat.le_of_ble_eq_true rfl) _ rfl dX5_fragments_8 [.int z1] rfl ?_
  refine x_istore_n z1 rfl dX5_fragments_11 rfl (Nat.le_of_ble_eq_true rfl) [(2, .int z1), (0, .ref (w.2.2 4 20 0 0)), (1, .int a1)] rfl ?_
  refine x_iload_n dX5_fragments_12 rfl 0 rfl ?_
  refine x_iconst (x := (-1)) dX5_fragments_13 (by decide) ?_
  refine x_icmp_ne (tgt := 21) dX5_fragments_14 rfl (fun hc => ?_) (fun hc => ?_)
  · have h := x_f hc h
    refine x_aload_n dX5_fragments_21 rfl 1 rfl ?_
    refine x_getR (d1 := 0) (K1 := 0) (p1 := 0) (r1 := 0) fl_X5_10 ok_e20 rfl dX5_fragments_22 ?_
    refine x_getR (d1 := 0) (K1 := 1) (p1 := 0) (r1 := 0) fl_X5_42 (ok_a (K := 0) (Nat.le_of_ble_eq_true rfl) (Nat.le_of_ble_eq_true rfl)) rfl dX5_fragments_25 ?_
    refine x_iload_n dX5_fragments_28 rfl 0 rfl ?_
    obtain ⟨z2, s2, h2, h⟩ := x_b_e h
    refine x_callV (As := [.int z1]) (st := []) (eX1_partsOf (Nat.le_of_ble_eq_true rfl) h2) cv_X5_223 (Nat.le_of_ble_eq_true rfl) (ok_a (K := 1) (Nat.le_of_ble_eq_true rfl) (Nat.le_of_ble_eq_true rfl)) rfl (Nat.le_of_ble_eq_true rfl) _ rfl dX5_fragments_29 [.int z2] rfl ?_
    exact x_iretH rfl dX5_fragments_32 h
  · have h := x_t hc h
    refine x_iconst (x := (-1)) dX5_fragments_17 (by decide) ?_
    refine x_goto (tgt := 32) dX5_fragments_18 rfl ?_
    exact x_iretH rfl dX5_fragments_32 h
set_option maxRecDepth 100000 in
set_option maxHeartbeats 4000000 in
theorem eX5_fragmentStart {l : Launch} {w : xW} {a1 : Int32} {a2 : Int32} {σ τ : xS} {r : Int32} (h : fX5_fragmentStart a1 a2 σ = some (r, τ)) : xEV l w yX5_fragmentStart mX5_fragmentStart [.ref (w.2.2 4 20 0 0), .int a1, .int a2] σ (some (.int r)) τ := by
  rw [fX5_fragmentStart] at h
  refine x_enter (by decide +kernel) rfl (Nat.le_of_ble_eq_true rfl) ?_
  refine x_sub (L1 := [(0, .ref (w.2.2 4 20 0 0)), (1, .int a1), (2, .int a2)]) [0, 1, 2] rfl ?_
  refine x_aload_n dX5_fragmentStart_0 rfl 0 rfl ?_
  refine x_getR (d1 := 0) (K1 := 0) (p1 := 0) (r1 := 0) fl_X5_10 ok_e20 rfl dX5_fragmentStart_1 ?_
  refine x_getR (d1 := 0) (K1 := 1) (p1 := 0) (r1 := 0) fl_X5_42 (ok_a (K := 0) (Nat.le_of_ble_eq_true rfl) (Nat.le_of_ble_eq_true rfl)) rfl dX5_fragmentStart_4 ?_
  refine x_aload_n dX5_fragmentStart_7 rfl 0 rfl ?_
  refine x_getR (d1 := 0) (K1 := 0) (p1 := 0) (r1 := 0) fl_X5_10 ok_e20 rfl dX5_fragmentStart_8 ?_
  refine x_getR (d1 := 0) (K1 := 1) (p1 := 0) (r1 := 0) fl_X5_42 (ok_a (K := 0) (Nat.le_of_ble_eq_true rfl) (Nat.le_of_ble_eq_true rfl)) rfl dX5_fragmentStart_11 ?_
  refine x_iload_n dX5_fragmentStart_14 rfl 1 rfl ?_
  obtain ⟨z1, s1, h1, h⟩ := x_b_e h
  refine x_callV (As := [.int a1]) (st := [.ref (w.2.2 0 1 0 0)]) (eX1_find (Nat.le_of_ble_eq_true rfl) h1) cv_X5_220 (Nat.le_of_ble_eq_true rfl) (ok_a (K := 1) (Nat.le_of_ble_eq_true rfl) (Nat.le_of_ble_eq_true rfl)) rfl (Nat.le_of_ble_eq_true rfl) _ rfl dX5_fragmentStart_15 [.int z1, .ref (w.2.2 0 1 0 0)] rfl ?_
  refine x_iload_n dX5_fragmentStart_18 rfl 2 rfl ?_
  obtain ⟨z2, s2, h2, h⟩ := x_b_e h
  refine x_callV (As := [.int z1, .int a2]) (st := []) (eX1_partStart (Nat.le_of_ble_eq_true rfl) h2) cv_X5_226 (Nat.le_of_ble_eq_true rfl) (ok_a (K := 1) (Nat.le_of_ble_eq_true rfl) (Nat.le_of_ble_eq_true rfl)) rfl (Nat.le_of_ble_eq_true rfl) _ rfl dX5_fragmentStart_19 [.int z2] rfl ?_
  refine x_istore_n z2 rfl dX5_fragmentStart_22 rfl (Nat.le_of_ble_eq_true rfl) [(3, .int z2), (0, .ref (w.2.2 4 20 0 0)), (1, .int a1), (2, .int a2)] rfl ?_
  refine x_iload_n dX5_fragmentStart_23 rfl 0 rfl ?_
  refine x_iconst (x := (-1)) dX5_fragmentStart_24 (by decide) ?_
  refine x_icmp_ne (tgt := 32) dX5_fragmentStart_25 rfl (fun hc => ?_) (fun hc => ?_)
  · have h := x_f hc h
    refine x_iload_n dX5_fragmentStart_32 rfl 0 rfl ?_
    exact x_iretH rfl dX5_fragmentStart_33 h
  · have h := x_t hc h
    refine x_iconst (x := (-1)) dX5_fragmentStart_28 (by decide) ?_
    refine x_goto (tgt := 33) dX5_fragmentStart_29 rfl ?_
    exact x_iretH rfl dX5_fragmentStart_33 h
set_option maxRecDepth 100000 in
set_option maxHeartbeats 4000000 in
theorem eX5_fragmentLength {l : Launch} {w : xW} {a1 : Int32} {a2 : Int32} {σ τ : xS} {r : Int32} (h : fX5_fragmentLength a1 a2 σ = some (r, τ)) : xEV l w yX5_fragmentLength mX5_fragmentLength [.ref (w.2.2 4 20 0 0), .int a1, .int a2] σ (some (.int r)) τ := by
  rw [fX5_fragmentLength] at h
  refine x_enter (by decide +kernel) rfl (Nat.le_of_ble_eq_true rfl) ?_
  refine x_sub (L1 := [(0, .ref (w.2.2 4 20 0 0)), (1, .int a1), (2, .int a2)]) [0, 1, 2] rfl ?_
  refine x_aload_n dX5_fragmentLength_0 rfl 0 rfl ?_
  refine x_getR (d1 := 0) (K1 := 0) (p1 := 0) (r1 := 0) fl_X5_10 ok_e20 rfl dX5_fragmentLength_1 ?_
  refine x_getR (d1 := 0) (K1 := 1) (p1 := 0) (r1 := 0) fl_X5_42 (ok_a (K := 0) (Nat.le_of_ble_eq_true rfl) (Nat.le_of_ble_eq_true rfl)) rfl dX5_fragmentLength_4 ?_
  refine x_aload_n dX5_fragmentLength_7 rfl 0 rfl ?_
  refine x_getR (d1 := 0) (K1 := 0) (p1 := 0) (r1 := 0) fl_X5_10 ok_e20 rfl dX5_fragmentLength_8 ?_
  refine x_getR (d1 := 0) (K1 := 1) (p1 := 0) (r1 := 0) fl_X5_42 (ok_a (K := 0) (Nat.le_of_ble_eq_true rfl) (Nat.le_of_ble_eq_true rfl)) rfl dX5_fragmentLength_11 ?_
  refine x_iload_n dX5_fragmentLength_14 rfl 1 rfl ?_
  obtain ⟨z1, s1, h1, h⟩ := x_b_e h
  refine x_callV (As := [.int a1]) (st := [.ref (w.2.2 0 1 0 0)]) (eX1_find (Nat.le_of_ble_eq_true rfl) h1) cv_X5_220 (Nat.le_of_ble_eq_true rfl) (ok_a (K := 1) (Nat.le_of_ble_eq_true rfl) (Nat.le_of_ble_eq_true rfl)) rfl (Nat.le_of_ble_eq_true rfl) _ rfl dX5_fragmentLength_15 [.int z1, .ref (w.2.2 0 1 0 0)] rfl ?_
  refine x_iload_n dX5_fragmentLength_18 rfl 2 rfl ?_
  obtain ⟨z2, s2, h2, h⟩ := x_b_e h
  refine x_callV (As := [.int z1, .int a2]) (st := []) (eX1_partStart (Nat.le_of_ble_eq_true rfl) h2) cv_X5_226 (Nat.le_of_ble_eq_true rfl) (ok_a (K := 1) (Nat.le_of_ble_eq_true rfl) (Nat.le_of_ble_eq_true rfl)) rfl (Nat.le_of_ble_eq_true rfl) _ rfl dX5_fragmentLength_19 [.int z2] rfl ?_
  refine x_istore_n z2 rfl dX5_fragmentLength_22 rfl (Nat.le_of_ble_eq_true rfl) [(3, .int z2), (0, .ref (w.2.2 4 20 0 0)), (1, .int a1), (2, .int a2)] rfl ?_
  refine x_iload_n dX5_fragmentLength_23 rfl 0 rfl ?_
  refine x_iconst (x := (-1)) dX5_fragmentLength_24 (by decide) ?_
  refine x_icmp_ne (tgt := 32) dX5_fragmentLength_25 rfl (fun hc => ?_) (fun hc => ?_)
  · have h := x_f hc h
    refine x_aload_n dX5_fragmentLength_32 rfl 1 rfl ?_
    refine x_getR (d1 := 0) (K1 := 0) (p1 := 0) (r1 := 0) fl_X5_10 ok_e20 rfl dX5_fragmentLength_33 ?_
    refine x_getR (d1 := 0) (K1 := 1) (p1 := 0) (r1 := 0) fl_X5_42 (ok_a (K := 0) (Nat.le_of_ble_eq_true rfl) (Nat.le_of_ble_eq_true rfl)) rfl dX5_fragmentLength_36 ?_
    refine x_getR (d1 := 0) (K1 := 3) (p1 := 0) (r1 := 0) fl_X5_229 (ok_a (K := 1) (Nat.le_of_ble_eq_true rfl) (Nat.le_of_ble_eq_true rfl)) rfl dX5_fragmentLength_39 ?_
    refine x_iload_n dX5_fragmentLength_42 rfl 0 rfl ?_
    obtain ⟨hg3, h⟩ := x_g_e h
    refine x_iald 128 z2.toNatClampNeg rfl rfl rfl rfl (ok_a (K := 3) (Nat.le_of_ble_eq_true rfl) (Nat.le_of_ble_eq_true rfl)) hg3 dX5_fragmentLength_43 ?_
    exact x_iretH rfl dX5_fragmentLength_44 h
  · have h := x_t hc h
    refine x_iconst (x := (-1)) dX5_fragmentLength_28 (by decide) ?_
    refine x_goto (tgt := 44) dX5_fragmentLength_29 rfl ?_
    exact x_iretH rfl dX5_fragmentLength_44 h
set_option maxRecDepth 100000 in
set_option maxHeartbeats 4000000 in
theorem eX5_freeRuns {l : Launch} {w : xW} {σ τ : xS} {r : Int32} (h : fX5_freeRuns σ = some (r, τ)) : xEV l w yX5_freeRuns mX5_freeRuns [.ref (w.2.2 4 20 0 0)] σ (some (.int r)) τ := by
  rw [fX5_freeRuns] at h
  refine x_enter (by decide +kernel) rfl (Nat.le_of_ble_eq_true rfl) ?_
  refine x_sub (L1 := [(0, .ref (w.2.2 4 20 0 0))]) [0] rfl ?_
  refine x_aload_n dX5_freeRuns_0 rfl 0 rfl ?_
  refine x_getR (d1 := 0) (K1 := 0) (p1 := 0) (r1 := 0) fl_X5_10 ok_e20 rfl dX5_freeRuns_1 ?_
  refine x_getR (d1 := 0) (K1 := 1) (p1 := 0) (r1 := 0) fl_X5_42 (ok_a (K := 0) (Nat.le_of_ble_eq_true rfl) (Nat.le_of_ble_eq_true rfl)) rfl dX5_freeRuns_4 ?_
  obtain ⟨z1, s1, h1, h⟩ := x_b_e h
  refine x_callV (As := []) (st := []) (eX1_countRuns (Nat.le_of_ble_eq_true rfl) h1) cv_X5_232 (Nat.le_of_ble_eq_true rfl) (ok_a (K := 1) (Nat.le_of_ble_eq_true rfl) (Nat.le_of_ble_eq_true rfl)) rfl (Nat.le_of_ble_eq_true rfl) _ rfl dX5_freeRuns_7 [.int z1] rfl ?_
  exact x_iretH rfl dX5_freeRuns_10 h
set_option maxRecDepth 100000 in
set_option maxHeartbeats 4000000 in
theorem eX5_runStart {l : Launch} {w : xW} {a1 : Int32} {σ τ : xS} {r : Int32} (h : fX5_runStart a1 σ = some (r, τ)) : xEV l w yX5_runStart mX5_runStart [.ref (w.2.2 4 20 0 0), .int a1] σ (some (.int r)) τ := by
  rw [fX5_runStart] at h
  refine x_enter (by decide +kernel) rfl (Nat.le_of_ble_eq_true rfl) ?_
  refine x_sub (L1 := [(0, .ref (w.2.2 4 20 0 0)), (1, .int a1)]) [0, 1] rfl ?_
  refine x_aload_n dX5_runStart_0 rfl 0 rfl ?_
  refine x_getR (d1 := 0) (K1 := 0) (p1 := 0) (r1 := 0) fl_X5_10 ok_e20 rfl dX5_runStart_1 ?_
  refine x_getR (d1 := 0) (K1 := 1) (p1 := 0) (r1 := 0) fl_X5_42 (ok_a (K := 0) (Nat.le_of_ble_eq_true rfl) (Nat.le_of_ble_eq_true rfl)) rfl dX5_runStart_4 ?_
  refine x_iload_n dX5_runStart_7 rfl 1 rfl ?_
  obtain ⟨z1, s1, h1, h⟩ := x_b_e h
  refine x_callV (As := [.int a1]) (st := []) (eX1_findRun (Nat.le_of_ble_eq_true rfl) h1) cv_X5_235 (Nat.le_of_ble_eq_true rfl) (ok_a (K := 1) (Nat.le_of_ble_eq_true rfl) (Nat.le_of_ble_eq_true rfl)) rfl (Nat.le_of_ble_eq_true rfl) _ rfl dX5_runStart_8 [.int z1] rfl ?_
  refine x_istore_n z1 rfl dX5_runStart_11 rfl (Nat.le_of_ble_eq_true rfl) [(2, .int z1), (0, .ref (w.2.2 4 20 0 0)), (1, .int a1)] rfl ?_
  refine x_iload_n dX5_runStart_12 rfl 0 rfl ?_
  refine x_iconst (x := (-1)) dX5_runStart_13 (by decide) ?_
  refine x_icmp_ne (tgt := 21) dX5_runStart_14 rfl (fun hc => ?_) (fun hc => ?_)
  · have h := x_f hc h
    refine x_iload_n dX5_runStart_21 rfl 0 rfl ?_
    exact x_iretH rfl dX5_runStart_22 h
  · have h := x_t hc h
    refine x_iconst (x := (-1)) dX5_runStart_17 (by decide) ?_
    refine x_goto (tgt := 22) dX5_runStart_18 rfl ?_
    exact x_iretH rfl dX5_runStart_22 h
set_option maxRecDepth 100000 in
set_option maxHeartbeats 4000000 in
theorem eX5_runLength {l : Launch} {w : xW} {a1 : Int32} {σ τ : xS} {r : Int32} (h : fX5_runLength a1 σ = some (r, τ)) : xEV l w yX5_runLength mX5_runLength [.ref (w.2.2 4 20 0 0), .int a1] σ (some (.int r)) τ := by
  rw [fX5_runLength] at h
  refine x_enter (by decide +kernel) rfl (Nat.le_of_ble_eq_true rfl) ?_
  refine x_sub (L1 := [(0, .ref (w.2.2 4 20 0 0)), (1, .int a1)]) [0, 1] rfl ?_
  refine x_aload_n dX5_runLength_0 rfl 0 rfl ?_
  refine x_getR (d1 := 0) (K1 := 0) (p1 := 0) (r1 := 0) fl_X5_10 ok_e20 rfl dX5_runLength_1 ?_
  refine x_getR (d1 := 0) (K1 := 1) (p1 := 0) (r1 := 0) fl_X5_42 (ok_a (K := 0) (Nat.le_of_ble_eq_true rfl) (Nat.le_of_ble_eq_true rfl)) rfl dX5_runLength_4 ?_
  refine x_iload_n dX5_runLength_7 rfl 1 rfl ?_
  obtain ⟨z1, s1, h1, h⟩ := x_b_e h
  refine x_callV (As := [.int a1]) (st := []) (eX1_findRun (Nat.le_of_ble_eq_true rfl) h1) cv_X5_235 (Nat.le_of_ble_eq_true rfl) (ok_a (K := 1) (Nat.le_of_ble_eq_true rfl) (Nat.le_of_ble_eq_true rfl)) rfl (Nat.le_of_ble_eq_true rfl) _ rfl dX5_runLength_8 [.int z1] rfl ?_
  refine x_istore_n z1 rfl dX5_runLength_11 rfl (Nat.le_of_ble_eq_true rfl) [(2, .int z1), (0, .ref (w.2.2 4 20 0 0)), (1, .int a1)] rfl ?_
  refine x_iload_n dX5_runLength_12 rfl 0 rfl ?_
  refine x_iconst (x := (-1)) dX5_runLength_13 (by decide) ?_
  refine x_icmp_ne (tgt := 21) dX5_runLength_14 rfl (fun hc => ?_) (fun hc => ?_)
  · have h := x_f hc h
    refine x_aload_n dX5_runLength_21 rfl 1 rfl ?_
    refine x_getR (d1 := 0) (K1 := 0) (p1 := 0) (r1 := 0) fl_X5_10 ok_e20 rfl dX5_runLength_22 ?_
    refine x_getR (d1 := 0) (K1 := 1) (p1 := 0) (r1 := 0) fl_X5_42 (ok_a (K := 0) (Nat.le_of_ble_eq_true rfl) (Nat.le_of_ble_eq_true rfl)) rfl dX5_runLength_25 ?_
    refine x_iload_n dX5_runLength_28 rfl 0 rfl ?_
    obtain ⟨z2, s2, h2, h⟩ := x_b_e h
    refine x_callV (As := [.int z1]) (st := []) (eX1_freeLength (Nat.le_of_ble_eq_true rfl) h2) cv_X5_238 (Nat.le_of_ble_eq_true rfl) (ok_a (K := 1) (Nat.le_of_ble_eq_true rfl) (Nat.le_of_ble_eq_true rfl)) rfl (Nat.le_of_ble_eq_true rfl) _ rfl dX5_runLength_29 [.int z2] rfl ?_
    exact x_iretH rfl dX5_runLength_32 h
  · have h := x_t hc h
    refine x_iconst (x := (-1)) dX5_runLength_17 (by decide) ?_
    refine x_goto (tgt := 32) dX5_runLength_18 rfl ?_
    exact x_iretH rfl dX5_runLength_32 h
set_option maxRecDepth 100000 in
set_option maxHeartbeats 4000000 in
theorem eX5_stageFor {l : Launch} {w : xW} {a1 : Int32} {a2 : Int32} {a3 : Int32} {σ τ : xS} {r : Int32} (h : fX5_stageFor a1 a2 a3 σ = some (r, τ)) : xEV l w yX5_stageFor mX5_stageFor [.ref (w.2.2 4 20 0 0), .int a1, .int a2, .int a3] σ (some (.int r)) τ := by
  rw [fX5_stageFor] at h
  refine x_enter (by decide +kernel) rfl (Nat.le_of_ble_eq_true rfl) ?_
  refine x_sub (L1 := [(0, .ref (w.2.2 4 20 0 0)), (1, .int a1), (2, .int a2), (3, .int a3)]) [0, 1, 2, 3] rfl ?_
  refine x_aload_n dX5_stageFor_0 rfl 0 rfl ?_
  refine x_getR (d1 := 0) (K1 := 0) (p1 := 0) (r1 := 0) fl_X5_10 ok_e20 rfl dX5_stageFor_1 ?_
  refine x_iload_n dX5_stageFor_4 rfl 1 rfl ?_
  obtain ⟨z1, s1, h1, h⟩ := x_b_e h
  refine x_callV (As := [.int a1]) (st := []) (eX0_portAt (Nat.le_of_ble_eq_true rfl) h1) cv_X5_52 (Nat.le_of_ble_eq_true rfl) (ok_a (K := 0) (Nat.le_of_ble_eq_true rfl) (Nat.le_of_ble_eq_true rfl)) rfl (Nat.le_of_ble_eq_true rfl) _ rfl dX5_stageFor_5 [x_nvP w z1] rfl ?_
  rcases z1 with _ | t1
  · refine x_st [.null] rfl ?_
    refine x_astoreN dX5_stageFor_8 (Nat.le_of_ble_eq_true rfl) [(4, .null), (0, .ref (w.2.2 4 20 0 0)), (1, .int a1), (2, .int a2), (3, .int a3)] rfl ?_
    refine x_aload_n dX5_stageFor_10 rfl 1 rfl ?_
    refine x_getR (d1 := 0) (K1 := 0) (p1 := 0) (r1 := 0) fl_X5_10 ok_e20 rfl dX5_stageFor_11 ?_
    refine x_iload_n dX5_stageFor_14 rfl 2 rfl ?_
    refine x_iload_n dX5_stageFor_15 rfl 3 rfl ?_
    obtain ⟨z2, s2, h2, h⟩ := x_b_e h
    refine x_callV (As := [.int a1, .int a2]) (st := []) (eX0_queueAt (Nat.le_of_ble_eq_true rfl) h2) cv_X5_74 (Nat.le_of_ble_eq_true rfl) (ok_a (K := 0) (Nat.le_of_ble_eq_true rfl) (Nat.le_of_ble_eq_true rfl)) rfl (Nat.le_of_ble_eq_true rfl) _ rfl dX5_stageFor_16 [x_nvQ w z2] rfl ?_
    rcases z2 with _ | t2
    · refine x_st [.null] rfl ?_
      refine x_astoreN dX5_stageFor_19 (Nat.le_of_ble_eq_true rfl) [(5, .null), (4, .null), (0, .ref (w.2.2 4 20 0 0)), (1, .int a1), (2, .int a2), (3, .int a3)] rfl ?_
      refine x_aloadN dX5_stageFor_21 1 rfl ?_
      refine x_ifnullN (tgt := 31) dX5_stageFor_23 rfl ?_
      refine x_iconst (x := (-1)) dX5_stageFor_31 (by decide) ?_
      exact x_iretH rfl dX5_stageFor_32 h
    · obtain ⟨hg2, h⟩ := x_g_e h
      refine x_st [.ref (w.2.2 t2.1 16 t2.2.1 t2.2.2)] rfl ?_
      refine x_astore dX5_stageFor_19 (Nat.le_of_ble_eq_true rfl) [(5, .ref (w.2.2 t2.1 16 t2.2.1 t2.2.2)), (4, .null), (0, .ref (w.2.2 4 20 0 0)), (1, .int a1), (2, .int a2), (3, .int a3)] rfl ?_
      refine x_aloadN dX5_stageFor_21 1 rfl ?_
      refine x_ifnullN (tgt := 31) dX5_stageFor_23 rfl ?_
      refine x_iconst (x := (-1)) dX5_stageFor_31 (by decide) ?_
      exact x_iretH rfl dX5_stageFor_32 h
  · obtain ⟨hg1, h⟩ := x_g_e h
    refine x_st [.ref (w.2.2 t1.1 13 t1.2 0)] rfl ?_
    refine x_astore dX5_stageFor_8 (Nat.le_of_ble_eq_true rfl) [(4, .ref (w.2.2 t1.1 13 t1.2 0)), (0, .ref (w.2.2 4 20 0 0)), (1, .int a1), (2, .int a2), (3, .int a3)] rfl ?_
    refine x_aload_n dX5_stageFor_10 rfl 1 rfl ?_
    refine x_getR (d1 := 0) (K1 := 0) (p1 := 0) (r1 := 0) fl_X5_10 ok_e20 rfl dX5_stageFor_11 ?_
    refine x_iload_n dX5_stageFor_14 rfl 2 rfl ?_
    refine x_iload_n dX5_stageFor_15 rfl 3 rfl ?_
    obtain ⟨z3, s3, h3, h⟩ := x_b_e h
    refine x_callV (As := [.int a1, .int a2]) (st := []) (eX0_queueAt (Nat.le_of_ble_eq_true rfl) h3) cv_X5_74 (Nat.le_of_ble_eq_true rfl) (ok_a (K := 0) (Nat.le_of_ble_eq_true rfl) (Nat.le_of_ble_eq_true rfl)) rfl (Nat.le_of_ble_eq_true rfl) _ rfl dX5_stageFor_16 [x_nvQ w z3] rfl ?_
    rcases z3 with _ | t3
    · refine x_st [.null] rfl ?_
      refine x_astoreN dX5_stageFor_19 (Nat.le_of_ble_eq_true rfl) [(5, .null), (4, .ref (w.2.2 t1.1 13 t1.2 0)), (0, .ref (w.2.2 4 20 0 0)), (1, .int a1), (2, .int a2), (3, .int a3)] rfl ?_
      refine x_aload dX5_stageFor_21 1 rfl ?_
      refine x_ifnullR dX5_stageFor_23 ?_
      refine x_aloadN dX5_stageFor_26 0 rfl ?_
      refine x_ifnonnullN dX5_stageFor_28 ?_
      refine x_iconst (x := (-1)) dX5_stageFor_31 (by decide) ?_
      exact x_iretH rfl dX5_stageFor_32 h
    · obtain ⟨hg3, h⟩ := x_g_e h
      refine x_st [.ref (w.2.2 t3.1 16 t3.2.1 t3.2.2)] rfl ?_
      refine x_astore dX5_stageFor_19 (Nat.le_of_ble_eq_true rfl) [(5, .ref (w.2.2 t3.1 16 t3.2.1 t3.2.2)), (4, .ref (w.2.2 t1.1 13 t1.2 0)), (0, .ref (w.2.2 4 20 0 0)), (1, .int a1), (2, .int a2), (3, .int a3)] rfl ?_
      refine x_aload dX5_stageFor_21 1 rfl ?_
      refine x_ifnullR dX5_stageFor_23 ?_
      refine x_aload dX5_stageFor_26 0 rfl ?_
      refine x_ifnonnullR (tgt := 33) dX5_stageFor_28 rfl ?_
      refine x_iload_n dX5_stageFor_33 rfl 5 rfl ?_
      refine x_iconst (x := 1) dX5_stageFor_34 rfl ?_
      refine x_bipush (x := 12) dX5_stageFor_35 rfl ?_
      obtain ⟨z4, s4, h4, h⟩ := x_b_e h
      refine x_callS (As := [.int a3, .int 1, .int 12]) (st := []) (eX5_isOutside  h4) cs_X5_38 (Nat.le_of_ble_eq_true rfl) rfl (Nat.le_of_ble_eq_true rfl) _ rfl dX5_stageFor_37 [.int z4] rfl ?_
      refine x_if_eq (tgt := 46) dX5_stageFor_40 rfl (fun hc => ?_) (fun hc => ?_)
      · have h := x_t hc h
        refine x_aload_n dX5_stageFor_46 rfl 2 rfl ?_
        refine x_getR (d1 := 0) (K1 := 0) (p1 := 0) (r1 := 0) fl_X5_10 ok_e20 rfl dX5_stageFor_47 ?_
        refine x_aload dX5_stageFor_50 1 rfl ?_
        refine x_aload dX5_stageFor_52 0 rfl ?_
        refine x_iload_n dX5_stageFor_54 rfl 5 rfl ?_
        obtain ⟨z5, s5, h5, h⟩ := x_b_e h
        refine x_callV (As := [.ref (w.2.2 t1.1 13 t1.2 0), .ref (w.2.2 t3.1 16 t3.2.1 t3.2.2), .int a3]) (st := []) (eX0_judge (Nat.le_of_ble_eq_true rfl) (ok2_d hg1) (ok2_p hg1) (ok3_d hg3) (ok3_p hg3) (ok3_r hg3) h5) cv_X5_241 (Nat.le_of_ble_eq_true rfl) (ok_a (K := 0) (Nat.le_of_ble_eq_true rfl) (Nat.le_of_ble_eq_true rfl)) rfl (Nat.le_of_ble_eq_true rfl) _ rfl dX5_stageFor_55 [] rfl ?_
        refine x_aload_n dX5_stageFor_58 rfl 2 rfl ?_
        refine x_getR (d1 := 0) (K1 := 0) (p1 := 0) (r1 := 0) fl_X5_10 ok_e20 rfl dX5_stageFor_59 ?_
        refine x_getI fl_X5_245 (ok_a (K := 0) (Nat.le_of_ble_eq_true rfl) (Nat.le_of_ble_eq_true rfl)) rfl dX5_stageFor_62 ?_
        refine x_if_ne (tgt := 73) dX5_stageFor_65 rfl (fun hc => ?_) (fun hc => ?_)
        · have h := x_f hc h
          refine x_aload_n dX5_stageFor_73 rfl 2 rfl ?_
          refine x_getR (d1 := 0) (K1 := 0) (p1 := 0) (r1 := 0) fl_X5_10 ok_e20 rfl dX5_stageFor_74 ?_
          refine x_getI fl_X5_245 (ok_a (K := 0) (Nat.le_of_ble_eq_true rfl) (Nat.le_of_ble_eq_true rfl)) rfl dX5_stageFor_77 ?_
          exact x_iretH rfl dX5_stageFor_80 h
        · have h := x_t hc h
          refine x_bipush (x := (-6)) dX5_stageFor_68 (by decide) ?_
          refine x_goto (tgt := 80) dX5_stageFor_70 rfl ?_
          exact x_iretH rfl dX5_stageFor_80 h
      · have h := x_f hc h
        refine x_bipush (x := (-2)) dX5_stageFor_43 (by decide) ?_
        exact x_iretH rfl dX5_stageFor_45 h
set_option maxRecDepth 100000 in
set_option maxHeartbeats 4000000 in
theorem TX5_largestAdmissible_35 {l : Launch} {w : xW} {d3 : Nat} {p3 : Nat} {d4 : Nat} {p4 : Nat} {r4 : Nat} (hd3 : d3 < 4) (hp3 : p3 < 6) (hd4 : d4 < 4) (hp4 : p4 < 6) (hr4 : r4 < 3) {τ : xS} {r : Int32} : ∀ (n : Nat) (a5 : Int32) (σ : xS), BX5_largestAdmissible_35 d3 p3 d4 p4 r4 n a5 σ = some (r, τ) → xAt l w mX5_largestAdmissible 35 [(0, .ref (w.2.2 4 20 0 0)), (3, .ref (w.2.2 d3 13 p3 0)), (4, .ref (w.2.2 d4 16 p4 r4)), (5, .int a5)] [] σ (some (.int r)) τ := by
  intro n
  induction n with
  | zero => intro a5 σ h; cases h
  | succ n ih =>
    intro a5 σ h
    rw [BX5_largestAdmissible_35] at h
    refine x_iload dX5_largestAdmissible_35 3 rfl ?_
    refine x_iconst (x := 1) dX5_largestAdmissible_37 rfl ?_
    refine x_icmp_lt (tgt := 72) dX5_largestAdmissible_38 rfl (fun hc => ?_) (fun hc => ?_)
    · have h := x_t hc h
      refine x_iconst (x := 0) dX5_largestAdmissible_72 rfl ?_
      exact x_iretH rfl dX5_largestAdmissible_73 h
    · have h := x_f hc h
      refine x_aload_n dX5_largestAdmissible_41 rfl 0 rfl ?_
      refine x_getR (d1 := 0) (K1 := 0) (p1 := 0) (r1 := 0) fl_X5_10 ok_e20 rfl dX5_largestAdmissible_42 ?_
      refine x_aload_n dX5_largestAdmissible_45 rfl 1 rfl ?_
      refine x_aload dX5_largestAdmissible_46 2 rfl ?_
      refine x_iload dX5_largestAdmissible_48 3 rfl ?_
      obtain ⟨z4, s4, h4, h⟩ := x_b_e h
      refine x_callV (As := [.ref (w.2.2 d3 13 p3 0), .ref (w.2.2 d4 16 p4 r4), .int a5]) (st := []) (eX0_judge (Nat.le_of_ble_eq_true rfl) hd3 hp3 hd4 hp4 hr4 h4) cv_X5_241 (Nat.le_of_ble_eq_true rfl) (ok_a (K := 0) (Nat.le_of_ble_eq_true rfl) (Nat.le_of_ble_eq_true rfl)) rfl (Nat.le_of_ble_eq_true rfl) _ rfl dX5_largestAdmissible_50 [] rfl ?_
      refine x_aload_n dX5_largestAdmissible_53 rfl 0 rfl ?_
      refine x_getR (d1 := 0) (K1 := 0) (p1 := 0) (r1 := 0) fl_X5_10 ok_e20 rfl dX5_largestAdmissible_54 ?_
      refine x_getI fl_X5_245 (ok_a (K := 0) (Nat.le_of_ble_eq_true rfl) (Nat.le_of_ble_eq_true rfl)) rfl dX5_largestAdmissible_57 ?_
      refine x_if_eq (tgt := 66) dX5_largestAdmissible_60 rfl (fun hc => ?_) (fun hc => ?_)
      · have h := x_t hc h
        obtain ⟨t5, ht5, h⟩ := x_let_e h
        refine x_iinc t5 (-1) (by decide) ht5 dX5_largestAdmissible_66 3 rfl (Nat.le_of_ble_eq_true rfl) [(5, .int t5), (0, .ref (w.2.2 4 20 0 0)), (3, .ref (w.2.2 d3 13 p3 0)), (4, .ref (w.2.2 d4 16 p4 r4))] rfl ?_
        refine x_goto (tgt := 35) dX5_largestAdmissible_69 rfl ?_
        refine x_sub (L1 := [(0, .ref (w.2.2 4 20 0 0)), (3, .ref (w.2.2 d3 13 p3 0)), (4, .ref (w.2.2 d4 16 p4 r4)), (5, .int t5)]) [1, 2, 3, 0] rfl ?_
        exact ih _ _ h
      · have h := x_f hc h
        refine x_iload dX5_largestAdmissible_63 3 rfl ?_
        exact x_iretH rfl dX5_largestAdmissible_65 h
set_option maxRecDepth 100000 in
set_option maxHeartbeats 4000000 in
theorem eX5_largestAdmissible {l : Launch} {w : xW} {a1 : Int32} {a2 : Int32} {σ τ : xS} {r : Int32} (h : fX5_largestAdmissible a1 a2 σ = some (r, τ)) : xEV l w yX5_largestAdmissible mX5_largestAdmissible [.ref (w.2.2 4 20 0 0), .int a1, .int a2] σ (some (.int r)) τ := by
  rw [fX5_largestAdmissible] at h
  refine x_enter (by decide +kernel) rfl (Nat.le_of_ble_eq_true rfl) ?_
  refine x_sub (L1 := [(0, .ref (w.2.2 4 20 0 0)), (1, .int a1), (2, .int a2)]) [0, 1, 2] rfl ?_
  refine x_aload_n dX5_largestAdmissible_0 rfl 0 rfl ?_
  refine x_getR (d1 := 0) (K1 := 0) (p1 := 0) (r1 := 0) fl_X5_10 ok_e20 rfl dX5_largestAdmissible_1 ?_
  refine x_iload_n dX5_largestAdmissible_4 rfl 1 rfl ?_
  obtain ⟨z1, s1, h1, h⟩ := x_b_e h
  refine x_callV (As := [.int a1]) (st := []) (eX0_portAt (Nat.le_of_ble_eq_true rfl) h1) cv_X5_52 (Nat.le_of_ble_eq_true rfl) (ok_a (K := 0) (Nat.le_of_ble_eq_true rfl) (Nat.le_of_ble_eq_true rfl)) rfl (Nat.le_of_ble_eq_true rfl) _ rfl dX5_largestAdmissible_5 [x_nvP w z1] rfl ?_
  rcases z1 with _ | t1
  · refine x_st [.null] rfl ?_
    refine x_astore_nN dX5_largestAdmissible_8 rfl (Nat.le_of_ble_eq_true rfl) [(3, .null), (0, .ref (w.2.2 4 20 0 0)), (1, .int a1), (2, .int a2)] rfl ?_
    refine x_aload_n dX5_largestAdmissible_9 rfl 1 rfl ?_
    refine x_getR (d1 := 0) (K1 := 0) (p1 := 0) (r1 := 0) fl_X5_10 ok_e20 rfl dX5_largestAdmissible_10 ?_
    refine x_iload_n dX5_largestAdmissible_13 rfl 2 rfl ?_
    refine x_iload_n dX5_largestAdmissible_14 rfl 3 rfl ?_
    obtain ⟨z2, s2, h2, h⟩ := x_b_e h
    refine x_callV (As := [.int a1, .int a2]) (st := []) (eX0_queueAt (Nat.le_of_ble_eq_true rfl) h2) cv_X5_74 (Nat.le_of_ble_eq_true rfl) (ok_a (K := 0) (Nat.le_of_ble_eq_true rfl) (Nat.le_of_ble_eq_true rfl)) rfl (Nat.le_of_ble_eq_true rfl) _ rfl dX5_largestAdmissible_15 [x_nvQ w z2] rfl ?_
    rcases z2 with _ | t2
    · refine x_st [.null] rfl ?_
      refine x_astoreN dX5_largestAdmissible_18 (Nat.le_of_ble_eq_true rfl) [(4, .null), (3, .null), (0, .ref (w.2.2 4 20 0 0)), (1, .int a1), (2, .int a2)] rfl ?_
      refine x_aload_nN dX5_largestAdmissible_20 rfl 1 rfl ?_
      refine x_ifnullN (tgt := 29) dX5_largestAdmissible_21 rfl ?_
      refine x_iconst (x := (-1)) dX5_largestAdmissible_29 (by decide) ?_
      exact x_iretH rfl dX5_largestAdmissible_30 h
    · obtain ⟨hg2, h⟩ := x_g_e h
      refine x_st [.ref (w.2.2 t2.1 16 t2.2.1 t2.2.2)] rfl ?_
      refine x_astore dX5_largestAdmissible_18 (Nat.le_of_ble_eq_true rfl) [(4, .ref (w.2.2 t2.1 16 t2.2.1 t2.2.2)), (3, .null), (0, .ref (w.2.2 4 20 0 0)), (1, .int a1), (2, .int a2)] rfl ?_
      refine x_aload_nN dX5_largestAdmissible_20 rfl 1 rfl ?_
      refine x_ifnullN (tgt := 29) dX5_largestAdmissible_21 rfl ?_
      refine x_iconst (x := (-1)) dX5_largestAdmissible_29 (by decide) ?_
      exact x_iretH rfl dX5_largestAdmissible_30 h
  · obtain ⟨hg1, h⟩ := x_g_e h
    refine x_st [.ref (w.2.2 t1.1 13 t1.2 0)] rfl ?_
    refine x_astore_n dX5_largestAdmissible_8 rfl (Nat.le_of_ble_eq_true rfl) [(3, .ref (w.2.2 t1.1 13 t1.2 0)), (0, .ref (w.2.2 4 20 0 0)), (1, .int a1), (2, .int a2)] rfl ?_
    refine x_aload_n dX5_largestAdmissible_9 rfl 1 rfl ?_
    refine x_getR (d1 := 0) (K1 := 0) (p1 := 0) (r1 := 0) fl_X5_10 ok_e20 rfl dX5_largestAdmissible_10 ?_
    refine x_iload_n dX5_largestAdmissible_13 rfl 2 rfl ?_
    refine x_iload_n dX5_largestAdmissible_14 rfl 3 rfl ?_
    obtain ⟨z3, s3, h3, h⟩ := x_b_e h
    refine x_callV (As := [.int a1, .int a2]) (st := []) (eX0_queueAt (Nat.le_of_ble_eq_true rfl) h3) cv_X5_74 (Nat.le_of_ble_eq_true rfl) (ok_a (K := 0) (Nat.le_of_ble_eq_true rfl) (Nat.le_of_ble_eq_true rfl)) rfl (Nat.le_of_ble_eq_true rfl) _ rfl dX5_largestAdmissible_15 [x_nvQ w z3] rfl ?_
    rcases z3 with _ | t3
    · refine x_st [.null] rfl ?_
      refine x_astoreN dX5_largestAdmissible_18 (Nat.le_of_ble_eq_true rfl) [(4, .null), (3, .ref (w.2.2 t1.1 13 t1.2 0)), (0, .ref (w.2.2 4 20 0 0)), (1, .int a1), (2, .int a2)] rfl ?_
      refine x_aload_n dX5_largestAdmissible_20 rfl 1 rfl ?_
      refine x_ifnullR dX5_largestAdmissible_21 ?_
      refine x_aloadN dX5_largestAdmissible_24 0 rfl ?_
      refine x_ifnonnullN dX5_largestAdmissible_26 ?_
      refine x_iconst (x := (-1)) dX5_largestAdmissible_29 (by decide) ?_
      exact x_iretH rfl dX5_largestAdmissible_30 h
    · obtain ⟨hg3, h⟩ := x_g_e h
      refine x_st [.ref (w.2.2 t3.1 16 t3.2.1 t3.2.2)] rfl ?_
      refine x_astore dX5_largestAdmissible_18 (Nat.le_of_ble_eq_true rfl) [(4, .ref (w.2.2 t3.1 16 t3.2.1 t3.2.2)), (3, .ref (w.2.2 t1.1 13 t1.2 0)), (0, .ref (w.2.2 4 20 0 0)), (1, .int a1), (2, .int a2)] rfl ?_
      refine x_aload_n dX5_largestAdmissible_20 rfl 1 rfl ?_
      refine x_ifnullR dX5_largestAdmissible_21 ?_
      refine x_aload dX5_largestAdmissible_24 0 rfl ?_
      refine x_ifnonnullR (tgt := 31) dX5_largestAdmissible_26 rfl ?_
      refine x_bipush (x := 12) dX5_largestAdmissible_31 rfl ?_
      refine x_istore 12 rfl dX5_largestAdmissible_33 (Nat.le_of_ble_eq_true rfl) [(5, .int 12), (4, .ref (w.2.2 t3.1 16 t3.2.1 t3.2.2)), (3, .ref (w.2.2 t1.1 13 t1.2 0)), (0, .ref (w.2.2 4 20 0 0)), (1, .int a1), (2, .int a2)] rfl ?_
      refine x_sub (L1 := [(0, .ref (w.2.2 4 20 0 0)), (3, .ref (w.2.2 t1.1 13 t1.2 0)), (4, .ref (w.2.2 t3.1 16 t3.2.1 t3.2.2)), (5, .int 12)]) [3, 2, 1, 0] rfl ?_
      exact TX5_largestAdmissible_35 (ok2_d hg1) (ok2_p hg1) (ok3_d hg3) (ok3_p hg3) (ok3_r hg3) _ _ _ h
set_option maxRecDepth 100000 in
set_option maxHeartbeats 4000000 in
theorem TX5_burstCapacity_82 {l : Launch} {w : xW} {a3 : Int32} {d4 : Nat} {p4 : Nat} {d5 : Nat} {p5 : Nat} {r5 : Nat} (hd4 : d4 < 4) (hp4 : p4 < 6) (hd5 : d5 < 4) (hp5 : p5 < 6) (hr5 : r5 < 3) {τ : xS} {r : Int32} : ∀ (n : Nat) (a6 : Int32) (σ : xS), BX5_burstCapacity_82 a3 d4 p4 d5 p5 r5 n a6 σ = some (r, τ) → xAt l w mX5_burstCapacity 82 [(0, .ref (w.2.2 4 20 0 0)), (3, .int a3), (4, .ref (w.2.2 d4 13 p4 0)), (5, .ref (w.2.2 d5 16 p5 r5)), (6, .int a6)] [] σ (some (.int r)) τ := by
  intro n
  induction n with
  | zero => intro a6 σ h; cases h
  | succ n ih =>
    intro a6 σ h
    rw [BX5_burstCapacity_82] at h
    refine x_iload dX5_burstCapacity_82 4 rfl ?_
    refine x_sipush (x := 128) dX5_burstCapacity_84 rfl ?_
    refine x_icmp_ge (tgt := 116) dX5_burstCapacity_87 rfl (fun hc => ?_) (fun hc => ?_)
    · have h := x_t hc h
      refine x_sipush (x := 128) dX5_burstCapacity_116 rfl ?_
      exact x_iretH rfl dX5_burstCapacity_119 h
    · have h := x_f hc h
      refine x_aload_n dX5_burstCapacity_90 rfl 0 rfl ?_
      refine x_getR (d1 := 1) (K1 := 0) (p1 := 0) (r1 := 0) fl_X5_16 ok_e20 rfl dX5_burstCapacity_91 ?_
      refine x_aload dX5_burstCapacity_94 2 rfl ?_
      refine x_aload dX5_burstCapacity_96 3 rfl ?_
      refine x_iload_n dX5_burstCapacity_98 rfl 1 rfl ?_
      obtain ⟨z8, s8, h8, h⟩ := x_b_e h
      refine x_callV (As := [.ref (w.2.2 d4 13 p4 0), .ref (w.2.2 d5 16 p5 r5), .int a3]) (st := []) (eX0_receive (Nat.le_of_ble_eq_true rfl) hd4 hp4 hd5 hp5 hr5 h8) cv_X5_129 (Nat.le_of_ble_eq_true rfl) (ok_a (K := 0) (Nat.le_of_ble_eq_true rfl) (Nat.le_of_ble_eq_true rfl)) rfl (Nat.le_of_ble_eq_true rfl) _ rfl dX5_burstCapacity_99 [.int z8] rfl ?_
      refine x_bipush (x := (-6)) dX5_burstCapacity_102 (by decide) ?_
      refine x_icmp_ne (tgt := 110) dX5_burstCapacity_104 rfl (fun hc => ?_) (fun hc => ?_)
      · have h := x_f hc h
        obtain ⟨t9, ht9, h⟩ := x_let_e h
        refine x_iinc t9 1 rfl ht9 dX5_burstCapacity_110 4 rfl (Nat.le_of_ble_eq_true rfl) [(6, .int t9), (0, .ref (w.2.2 4 20 0 0)), (3, .int a3), (4, .ref (w.2.2 d4 13 p4 0)), (5, .ref (w.2.2 d5 16 p5 r5))] rfl ?_
        refine x_goto (tgt := 82) dX5_burstCapacity_113 rfl ?_
        refine x_sub (L1 := [(0, .ref (w.2.2 4 20 0 0)), (3, .int a3), (4, .ref (w.2.2 d4 13 p4 0)), (5, .ref (w.2.2 d5 16 p5 r5)), (6, .int t9)]) [1, 2, 3, 4, 0] rfl ?_
        exact ih _ _ h
      · have h := x_t hc h
        refine x_iload dX5_burstCapacity_107 4 rfl ?_
        exact x_iretH rfl dX5_burstCapacity_109 h
set_option maxRecDepth 100000 in
set_option maxHeartbeats 4000000 in
theorem eX5_burstCapacity {l : Launch} {w : xW} {a1 : Int32} {a2 : Int32} {a3 : Int32} {σ τ : xS} {r : Int32} (h : fX5_burstCapacity a1 a2 a3 σ = some (r, τ)) : xEV l w yX5_burstCapacity mX5_burstCapacity [.ref (w.2.2 4 20 0 0), .int a1, .int a2, .int a3] σ (some (.int r)) τ := by
  rw [fX5_burstCapacity] at h
  refine x_enter (by decide +kernel) rfl (Nat.le_of_ble_eq_true rfl) ?_
  refine x_sub (L1 := [(0, .ref (w.2.2 4 20 0 0)), (1, .int a1), (2, .int a2), (3, .int a3)]) [0, 1, 2, 3] rfl ?_
  refine x_aload_n dX5_burstCapacity_0 rfl 0 rfl ?_
  refine x_getR (d1 := 0) (K1 := 0) (p1 := 0) (r1 := 0) fl_X5_10 ok_e20 rfl dX5_burstCapacity_1 ?_
  refine x_iload_n dX5_burstCapacity_4 rfl 1 rfl ?_
  refine x_iload_n dX5_burstCapacity_5 rfl 2 rfl ?_
  obtain ⟨z1, s1, h1, h⟩ := x_b_e h
  refine x_callV (As := [.int a1, .int a2]) (st := []) (eX0_queueAt (Nat.le_of_ble_eq_true rfl) h1) cv_X5_74 (Nat.le_of_ble_eq_true rfl) (ok_a (K := 0) (Nat.le_of_ble_eq_true rfl) (Nat.le_of_ble_eq_true rfl)) rfl (Nat.le_of_ble_eq_true rfl) _ rfl dX5_burstCapacity_6 [x_nvQ w z1] rfl ?_
  rcases z1 with _ | t1
  · refine x_st [.null] rfl ?_
    refine x_ifnonnullN dX5_burstCapacity_9 ?_
    refine x_iconst (x := (-1)) dX5_burstCapacity_12 (by decide) ?_
    exact x_iretH rfl dX5_burstCapacity_13 h
  · obtain ⟨hg1, h⟩ := x_g_e h
    refine x_st [.ref (w.2.2 t1.1 16 t1.2.1 t1.2.2)] rfl ?_
    refine x_ifnonnullR (tgt := 14) dX5_burstCapacity_9 rfl ?_
    refine x_iload_n dX5_burstCapacity_14 rfl 3 rfl ?_
    refine x_iconst (x := 1) dX5_burstCapacity_15 rfl ?_
    refine x_bipush (x := 12) dX5_burstCapacity_16 rfl ?_
    obtain ⟨z2, s2, h2, h⟩ := x_b_e h
    refine x_callS (As := [.int a3, .int 1, .int 12]) (st := []) (eX5_isOutside  h2) cs_X5_38 (Nat.le_of_ble_eq_true rfl) rfl (Nat.le_of_ble_eq_true rfl) _ rfl dX5_burstCapacity_18 [.int z2] rfl ?_
    refine x_if_eq (tgt := 27) dX5_burstCapacity_21 rfl (fun hc => ?_) (fun hc => ?_)
    · have h := x_t hc h
      refine x_aload_n dX5_burstCapacity_27 rfl 0 rfl ?_
      refine x_getR (d1 := 1) (K1 := 0) (p1 := 0) (r1 := 0) fl_X5_16 ok_e20 rfl dX5_burstCapacity_28 ?_
      refine x_aload_n dX5_burstCapacity_31 rfl 0 rfl ?_
      refine x_getR (d1 := 0) (K1 := 0) (p1 := 0) (r1 := 0) fl_X5_10 ok_e20 rfl dX5_burstCapacity_32 ?_
      obtain ⟨z3, s3, h3, h⟩ := x_b_e h
      refine x_callV (As := [.ref (w.2.2 0 0 0 0)]) (st := []) (eX0_copyFrom (Nat.le_of_ble_eq_true rfl) (Nat.le_of_ble_eq_true rfl) h3) cv_X5_248 (Nat.le_of_ble_eq_true rfl) (ok_a (K := 0) (Nat.le_of_ble_eq_true rfl) (Nat.le_of_ble_eq_true rfl)) rfl (Nat.le_of_ble_eq_true rfl) _ rfl dX5_burstCapacity_35 [] rfl ?_
      refine x_aload_n dX5_burstCapacity_38 rfl 0 rfl ?_
      refine x_getR (d1 := 1) (K1 := 0) (p1 := 0) (r1 := 0) fl_X5_16 ok_e20 rfl dX5_burstCapacity_39 ?_
      refine x_iconst (x := 0) dX5_burstCapacity_42 rfl ?_
      obtain ⟨s4, hs4, h⟩ := x_let_e h
      refine x_putZ s4 hs4 rfl fp_X5_115 (ok_a (K := 0) (Nat.le_of_ble_eq_true rfl) (Nat.le_of_ble_eq_true rfl)) rfl dX5_burstCapacity_43 ?_
      refine x_aload_n dX5_burstCapacity_46 rfl 0 rfl ?_
      refine x_getR (d1 := 1) (K1 := 0) (p1 := 0) (r1 := 0) fl_X5_16 ok_e20 rfl dX5_burstCapacity_47 ?_
      refine x_iload_n dX5_burstCapacity_50 rfl 1 rfl ?_
      obtain ⟨z5, s5, h5, h⟩ := x_b_e h
      refine x_callV (As := [.int a1]) (st := []) (eX0_portAt (Nat.le_of_ble_eq_true rfl) h5) cv_X5_52 (Nat.le_of_ble_eq_true rfl) (ok_a (K := 0) (Nat.le_of_ble_eq_true rfl) (Nat.le_of_ble_eq_true rfl)) rfl (Nat.le_of_ble_eq_true rfl) _ rfl dX5_burstCapacity_51 [x_nvP w z5] rfl ?_
      rcases z5 with _ | t5
      · refine x_st [.null] rfl ?_
        refine x_astoreN dX5_burstCapacity_54 (Nat.le_of_ble_eq_true rfl) [(4, .null), (0, .ref (w.2.2 4 20 0 0)), (1, .int a1), (2, .int a2), (3, .int a3)] rfl ?_
        refine x_aload_n dX5_burstCapacity_56 rfl 1 rfl ?_
        refine x_getR (d1 := 1) (K1 := 0) (p1 := 0) (r1 := 0) fl_X5_16 ok_e20 rfl dX5_burstCapacity_57 ?_
        refine x_iload_n dX5_burstCapacity_60 rfl 2 rfl ?_
        refine x_iload_n dX5_burstCapacity_61 rfl 3 rfl ?_
        obtain ⟨z6, s6, h6, h⟩ := x_b_e h
        refine x_callV (As := [.int a1, .int a2]) (st := []) (eX0_queueAt (Nat.le_of_ble_eq_true rfl) h6) cv_X5_74 (Nat.le_of_ble_eq_true rfl) (ok_a (K := 0) (Nat.le_of_ble_eq_true rfl) (Nat.le_of_ble_eq_true rfl)) rfl (Nat.le_of_ble_eq_true rfl) _ rfl dX5_burstCapacity_62 [x_nvQ w z6] rfl ?_
        rcases z6 with _ | t6
        · refine x_st [.null] rfl ?_
          refine x_astoreN dX5_burstCapacity_65 (Nat.le_of_ble_eq_true rfl) [(5, .null), (4, .null), (0, .ref (w.2.2 4 20 0 0)), (1, .int a1), (2, .int a2), (3, .int a3)] rfl ?_
          refine x_aloadN dX5_burstCapacity_67 1 rfl ?_
          refine x_ifnullN (tgt := 77) dX5_burstCapacity_69 rfl ?_
          refine x_iconst (x := (-1)) dX5_burstCapacity_77 (by decide) ?_
          exact x_iretH rfl dX5_burstCapacity_78 h
        · obtain ⟨hg6, h⟩ := x_g_e h
          refine x_st [.ref (w.2.2 t6.1 16 t6.2.1 t6.2.2)] rfl ?_
          refine x_astore dX5_burstCapacity_65 (Nat.le_of_ble_eq_true rfl) [(5, .ref (w.2.2 t6.1 16 t6.2.1 t6.2.2)), (4, .null), (0, .ref (w.2.2 4 20 0 0)), (1, .int a1), (2, .int a2), (3, .int a3)] rfl ?_
          refine x_aloadN dX5_burstCapacity_67 1 rfl ?_
          refine x_ifnullN (tgt := 77) dX5_burstCapacity_69 rfl ?_
          refine x_iconst (x := (-1)) dX5_burstCapacity_77 (by decide) ?_
          exact x_iretH rfl dX5_burstCapacity_78 h
      · obtain ⟨hg5, h⟩ := x_g_e h
        refine x_st [.ref (w.2.2 t5.1 13 t5.2 0)] rfl ?_
        refine x_astore dX5_burstCapacity_54 (Nat.le_of_ble_eq_true rfl) [(4, .ref (w.2.2 t5.1 13 t5.2 0)), (0, .ref (w.2.2 4 20 0 0)), (1, .int a1), (2, .int a2), (3, .int a3)] rfl ?_
        refine x_aload_n dX5_burstCapacity_56 rfl 1 rfl ?_
        refine x_getR (d1 := 1) (K1 := 0) (p1 := 0) (r1 := 0) fl_X5_16 ok_e20 rfl dX5_burstCapacity_57 ?_
        refine x_iload_n dX5_burstCapacity_60 rfl 2 rfl ?_
        refine x_iload_n dX5_burstCapacity_61 rfl 3 rfl ?_
        obtain ⟨z7, s7, h7, h⟩ := x_b_e h
        refine x_callV (As := [.int a1, .int a2]) (st := []) (eX0_queueAt (Nat.le_of_ble_eq_true rfl) h7) cv_X5_74 (Nat.le_of_ble_eq_true rfl) (ok_a (K := 0) (Nat.le_of_ble_eq_true rfl) (Nat.le_of_ble_eq_true rfl)) rfl (Nat.le_of_ble_eq_true rfl) _ rfl dX5_burstCapacity_62 [x_nvQ w z7] rfl ?_
        rcases z7 with _ | t7
        · refine x_st [.null] rfl ?_
          refine x_astoreN dX5_burstCapacity_65 (Nat.le_of_ble_eq_true rfl) [(5, .null), (4, .ref (w.2.2 t5.1 13 t5.2 0)), (0, .ref (w.2.2 4 20 0 0)), (1, .int a1), (2, .int a2), (3, .int a3)] rfl ?_
          refine x_aload dX5_burstCapacity_67 1 rfl ?_
          refine x_ifnullR dX5_burstCapacity_69 ?_
          refine x_aloadN dX5_burstCapacity_72 0 rfl ?_
          refine x_ifnonnullN dX5_burstCapacity_74 ?_
          refine x_iconst (x := (-1)) dX5_burstCapacity_77 (by decide) ?_
          exact x_iretH rfl dX5_burstCapacity_78 h
        · obtain ⟨hg7, h⟩ := x_g_e h
          refine x_st [.ref (w.2.2 t7.1 16 t7.2.1 t7.2.2)] rfl ?_
          refine x_astore dX5_burstCapacity_65 (Nat.le_of_ble_eq_true rfl) [(5, .ref (w.2.2 t7.1 16 t7.2.1 t7.2.2)), (4, .ref (w.2.2 t5.1 13 t5.2 0)), (0, .ref (w.2.2 4 20 0 0)), (1, .int a1), (2, .int a2), (3, .int a3)] rfl ?_
          refine x_aload dX5_burstCapacity_67 1 rfl ?_
          refine x_ifnullR dX5_burstCapacity_69 ?_
          refine x_aload dX5_burstCapacity_72 0 rfl ?_
          refine x_ifnonnullR (tgt := 79) dX5_burstCapacity_74 rfl ?_
          refine x_iconst (x := 0) dX5_burstCapacity_79 rfl ?_
          refine x_istore 0 rfl dX5_burstCapacity_80 (Nat.le_of_ble_eq_true rfl) [(6, .int 0), (5, .ref (w.2.2 t7.1 16 t7.2.1 t7.2.2)), (4, .ref (w.2.2 t5.1 13 t5.2 0)), (0, .ref (w.2.2 4 20 0 0)), (1, .int a1), (2, .int a2), (3, .int a3)] rfl ?_
          refine x_sub (L1 := [(0, .ref (w.2.2 4 20 0 0)), (3, .int a3), (4, .ref (w.2.2 t5.1 13 t5.2 0)), (5, .ref (w.2.2 t7.1 16 t7.2.1 t7.2.2)), (6, .int 0)]) [3, 6, 2, 1, 0] rfl ?_
          exact TX5_burstCapacity_82 (ok2_d hg5) (ok2_p hg5) (ok3_d hg7) (ok3_p hg7) (ok3_r hg7) _ _ _ h
    · have h := x_f hc h
      refine x_bipush (x := (-2)) dX5_burstCapacity_24 (by decide) ?_
      exact x_iretH rfl dX5_burstCapacity_26 h
