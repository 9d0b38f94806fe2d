set_option maxRecDepth 100000 in
set_option maxHeartbeats 4000000 in
theorem eX6_lossCause {l : Launch} {w : xW} (hw : w.1.2 = true) {a1 : Int32} {σ τ : xS} {r : Int32} (h : fX6_lossCause a1 σ = some (r, τ)) : xEV l w yX6_lossCause mX6_lossCause [.ref (w.2.2 5 30 0 0), .int a1] σ (some (.int r)) τ := by
  rw [fX6_lossCause] at h
  refine x_enter (by decide +kernel) rfl (Nat.le_of_ble_eq_true rfl) ?_
  refine x_sub (L1 := [(0, .ref (w.2.2 5 30 0 0)), (1, .int a1)]) [0, 1] rfl ?_
  refine x_iload_n dX6_lossCause_0 rfl 1 rfl ?_
  refine x_iconst (x := 0) dX6_lossCause_1 rfl ?_
  refine x_iconst (x := 3) dX6_lossCause_2 rfl ?_
  obtain ⟨z1, s1, h1, h⟩ := x_b_e h
  refine x_callS (As := [.int a1, .int 0, .int 3]) (st := []) (eX6_in hw  h1) cs_X6_36 (Nat.le_of_ble_eq_true rfl) rfl (Nat.le_of_ble_eq_true rfl) _ rfl dX6_lossCause_3 [.int z1] rfl ?_
  refine x_if_ne (tgt := 11) dX6_lossCause_6 rfl (fun hc => ?_) (fun hc => ?_)
  · have h := x_f hc h
    refine x_aload_n dX6_lossCause_11 rfl 0 rfl ?_
    refine x_getR (d1 := 5) (K1 := 31) (p1 := 0) (r1 := 0) fl_X6_7 (ok_e30 hw) rfl dX6_lossCause_12 ?_
    refine x_iconst (x := 5) dX6_lossCause_15 rfl ?_
    refine x_iald 6464 5 rfl rfl rfl rfl (ok_e31 hw) rfl dX6_lossCause_16 ?_
    refine x_iconst (x := 1) dX6_lossCause_17 rfl ?_
    refine x_icmp_ne (tgt := 33) dX6_lossCause_18 rfl (fun hc => ?_) (fun hc => ?_)
    · have h := x_f hc h
      refine x_bipush (x := (-5)) dX6_lossCause_33 (by decide) ?_
      exact x_iretH rfl dX6_lossCause_35 h
    · have h := x_t hc h
      refine x_aload_n dX6_lossCause_21 rfl 0 rfl ?_
      refine x_getR (d1 := 5) (K1 := 31) (p1 := 0) (r1 := 0) fl_X6_7 (ok_e30 hw) rfl dX6_lossCause_22 ?_
      refine x_bipush (x := 6) dX6_lossCause_25 rfl ?_
      refine x_iload_n dX6_lossCause_27 rfl 1 rfl ?_
      refine x_iadd dX6_lossCause_28 ?_
      obtain ⟨t2, ht2, h⟩ := x_let_e h
      refine x_nm t2 ht2 ?_
      obtain ⟨hg3, h⟩ := x_g_e h
      refine x_iald 6464 t2.toNatClampNeg rfl rfl rfl rfl (ok_e31 hw) hg3 dX6_lossCause_29 ?_
      refine x_goto (tgt := 35) dX6_lossCause_30 rfl ?_
      exact x_iretH rfl dX6_lossCause_35 h
  · have h := x_t hc h
    refine x_iconst (x := (-1)) dX6_lossCause_9 (by decide) ?_
    exact x_iretH rfl dX6_lossCause_10 h
set_option maxRecDepth 100000 in
set_option maxHeartbeats 4000000 in
theorem eX6_departed {l : Launch} {w : xW} (hw : w.1.2 = true) {a1 : Int32} {σ τ : xS} {r : Int32} (h : fX6_departed a1 σ = some (r, τ)) : xEV l w yX6_departed mX6_departed [.ref (w.2.2 5 30 0 0), .int a1] σ (some (.int r)) τ := by
  rw [fX6_departed] at h
  refine x_enter (by decide +kernel) rfl (Nat.le_of_ble_eq_true rfl) ?_
  refine x_sub (L1 := [(0, .ref (w.2.2 5 30 0 0)), (1, .int a1)]) [0, 1] rfl ?_
  refine x_aload_n dX6_departed_0 rfl 0 rfl ?_
  refine x_iload_n dX6_departed_1 rfl 1 rfl ?_
  refine x_bipush (x := 9) dX6_departed_2 rfl ?_
  obtain ⟨z1, s1, h1, h⟩ := x_b_e h
  refine x_callV (As := [.int a1, .int 9]) (st := []) (eX6_ofPort hw  h1) cv_X6_183 (Nat.le_of_ble_eq_true rfl) (ok_e30 hw) rfl (Nat.le_of_ble_eq_true rfl) _ rfl dX6_departed_4 [.int z1] rfl ?_
  exact x_iretH rfl dX6_departed_7 h
set_option maxRecDepth 100000 in
set_option maxHeartbeats 4000000 in
theorem eX6_admitted {l : Launch} {w : xW} (hw : w.1.2 = true) {σ τ : xS} {r : Int32} (h : fX6_admitted σ = some (r, τ)) : xEV l w yX6_admitted mX6_admitted [.ref (w.2.2 5 30 0 0)] σ (some (.int r)) τ := by
  rw [fX6_admitted] at h
  refine x_enter (by decide +kernel) rfl (Nat.le_of_ble_eq_true rfl) ?_
  refine x_sub (L1 := [(0, .ref (w.2.2 5 30 0 0))]) [0] rfl ?_
  refine x_aload_n dX6_admitted_0 rfl 0 rfl ?_
  refine x_getR (d1 := 5) (K1 := 31) (p1 := 0) (r1 := 0) fl_X6_7 (ok_e30 hw) rfl dX6_admitted_1 ?_
  refine x_iconst (x := 4) dX6_admitted_4 rfl ?_
  refine x_iald 6464 4 rfl rfl rfl rfl (ok_e31 hw) rfl dX6_admitted_5 ?_
  exact x_iretH rfl dX6_admitted_6 h
set_option maxRecDepth 100000 in
set_option maxHeartbeats 4000000 in
theorem eX6_time {l : Launch} {w : xW} (hw : w.1.2 = true) {σ τ : xS} {r : Int32} (h : fX6_time σ = some (r, τ)) : xEV l w yX6_time mX6_time [.ref (w.2.2 5 30 0 0)] σ (some (.int r)) τ := by
  rw [fX6_time] at h
  refine x_enter (by decide +kernel) rfl (Nat.le_of_ble_eq_true rfl) ?_
  refine x_sub (L1 := [(0, .ref (w.2.2 5 30 0 0))]) [0] rfl ?_
  refine x_aload_n dX6_time_0 rfl 0 rfl ?_
  refine x_getR (d1 := 5) (K1 := 31) (p1 := 0) (r1 := 0) fl_X6_7 (ok_e30 hw) rfl dX6_time_1 ?_
  refine x_iconst (x := 3) dX6_time_4 rfl ?_
  refine x_iald 6464 3 rfl rfl rfl rfl (ok_e31 hw) rfl dX6_time_5 ?_
  exact x_iretH rfl dX6_time_6 h
set_option maxRecDepth 100000 in
set_option maxHeartbeats 4000000 in
theorem eX6_queueLength {l : Launch} {w : xW} (hw : w.1.2 = true) {a1 : Int32} {a2 : Int32} {σ τ : xS} {r : Int32} (h : fX6_queueLength a1 a2 σ = some (r, τ)) : xEV l w yX6_queueLength mX6_queueLength [.ref (w.2.2 5 30 0 0), .int a1, .int a2] σ (some (.int r)) τ := by
  rw [fX6_queueLength] at h
  refine x_enter (by decide +kernel) rfl (Nat.le_of_ble_eq_true rfl) ?_
  refine x_sub (L1 := [(0, .ref (w.2.2 5 30 0 0)), (1, .int a1), (2, .int a2)]) [0, 1, 2] rfl ?_
  refine x_aload_n dX6_queueLength_0 rfl 0 rfl ?_
  refine x_iload_n dX6_queueLength_1 rfl 1 rfl ?_
  refine x_iload_n dX6_queueLength_2 rfl 2 rfl ?_
  refine x_bipush (x := 12) dX6_queueLength_3 rfl ?_
  obtain ⟨z1, s1, h1, h⟩ := x_b_e h
  refine x_callV (As := [.int a1, .int a2, .int 12]) (st := []) (eX6_ofQueue hw  h1) cv_X6_186 (Nat.le_of_ble_eq_true rfl) (ok_e30 hw) rfl (Nat.le_of_ble_eq_true rfl) _ rfl dX6_queueLength_5 [.int z1] rfl ?_
  exact x_iretH rfl dX6_queueLength_8 h
set_option maxRecDepth 100000 in
set_option maxHeartbeats 4000000 in
theorem eX6_packetAt {l : Launch} {w : xW} (hw : w.1.2 = true) {a1 : Int32} {a2 : Int32} {a3 : Int32} {σ τ : xS} {r : Int32} (h : fX6_packetAt a1 a2 a3 σ = some (r, τ)) : xEV l w yX6_packetAt mX6_packetAt [.ref (w.2.2 5 30 0 0), .int a1, .int a2, .int a3] σ (some (.int r)) τ := by
  rw [fX6_packetAt] at h
  refine x_enter (by decide +kernel) rfl (Nat.le_of_ble_eq_true rfl) ?_
  refine x_sub (L1 := [(0, .ref (w.2.2 5 30 0 0)), (1, .int a1), (2, .int a2), (3, .int a3)]) [0, 1, 2, 3] rfl ?_
  refine x_aload_n dX6_packetAt_0 rfl 0 rfl ?_
  refine x_iload_n dX6_packetAt_1 rfl 1 rfl ?_
  refine x_iload_n dX6_packetAt_2 rfl 2 rfl ?_
  obtain ⟨z1, s1, h1, h⟩ := x_b_e h
  refine x_callV (As := [.int a1, .int a2]) (st := []) (eX6_isQueue hw  h1) cv_X6_75 (Nat.le_of_ble_eq_true rfl) (ok_e30 hw) rfl (Nat.le_of_ble_eq_true rfl) _ rfl dX6_packetAt_3 [.int z1] rfl ?_
  refine x_if_eq (tgt := 34) dX6_packetAt_6 rfl (fun hc => ?_) (fun hc => ?_)
  · have h := x_t hc h
    refine x_iconst (x := (-1)) dX6_packetAt_34 (by decide) ?_
    exact x_iretH rfl dX6_packetAt_35 h
  · have h := x_f hc h
    refine x_iload_n dX6_packetAt_9 rfl 3 rfl ?_
    refine x_iconst (x := 0) dX6_packetAt_10 rfl ?_
    refine x_aload_n dX6_packetAt_11 rfl 0 rfl ?_
    refine x_getR (d1 := 5) (K1 := 31) (p1 := 0) (r1 := 0) fl_X6_7 (ok_e30 hw) rfl dX6_packetAt_12 ?_
    refine x_iconst (x := 3) dX6_packetAt_15 rfl ?_
    refine x_iload_n dX6_packetAt_16 rfl 1 rfl ?_
    refine x_imul dX6_packetAt_17 ?_
    refine x_iload_n dX6_packetAt_18 rfl 2 rfl ?_
    refine x_iadd dX6_packetAt_19 ?_
    refine x_bipush (x := 12) dX6_packetAt_20 rfl ?_
    obtain ⟨z2, s2, h2, h⟩ := x_b_e h
    refine x_callS (As := [.int ((3 * a1) + a2), .int 12]) (st := [.ref (w.2.2 5 31 0 0), .int 0, .int a3]) (eX6_queue hw  h2) cs_X6_48 (Nat.le_of_ble_eq_true rfl) rfl (Nat.le_of_ble_eq_true rfl) _ rfl dX6_packetAt_22 [.int z2, .ref (w.2.2 5 31 0 0), .int 0, .int a3] rfl ?_
    obtain ⟨hg3, h⟩ := x_g_e h
    refine x_iald 6464 z2.toNatClampNeg rfl rfl rfl rfl (ok_e31 hw) hg3 dX6_packetAt_25 ?_
    refine x_iconst (x := 1) dX6_packetAt_26 rfl ?_
    refine x_isub dX6_packetAt_27 ?_
    obtain ⟨z4, s4, h4, h⟩ := x_b_e h
    refine x_callS (As := [.int a3, .int 0, .int ((s2 5 31 0 0 z2.toNatClampNeg) - 1)]) (st := []) (eX6_in hw  h4) cs_X6_36 (Nat.le_of_ble_eq_true rfl) rfl (Nat.le_of_ble_eq_true rfl) _ rfl dX6_packetAt_28 [.int z4] rfl ?_
    refine x_if_ne (tgt := 36) dX6_packetAt_31 rfl (fun hc => ?_) (fun hc => ?_)
    · have h := x_f hc h
      refine x_aload_n dX6_packetAt_36 rfl 0 rfl ?_
      refine x_getR (d1 := 5) (K1 := 31) (p1 := 0) (r1 := 0) fl_X6_7 (ok_e30 hw) rfl dX6_packetAt_37 ?_
      refine x_aload_n dX6_packetAt_40 rfl 0 rfl ?_
      refine x_getR (d1 := 5) (K1 := 31) (p1 := 0) (r1 := 0) fl_X6_7 (ok_e30 hw) rfl dX6_packetAt_41 ?_
      refine x_iconst (x := 3) dX6_packetAt_44 rfl ?_
      refine x_iload_n dX6_packetAt_45 rfl 1 rfl ?_
      refine x_imul dX6_packetAt_46 ?_
      refine x_iload_n dX6_packetAt_47 rfl 2 rfl ?_
      refine x_iadd dX6_packetAt_48 ?_
      refine x_iload_n dX6_packetAt_49 rfl 3 rfl ?_
      obtain ⟨z5, s5, h5, h⟩ := x_b_e h
      refine x_callS (As := [.int ((3 * a1) + a2), .int a3]) (st := [.ref (w.2.2 5 31 0 0), .ref (w.2.2 5 31 0 0)]) (eX6_entry hw  h5) cs_X6_107 (Nat.le_of_ble_eq_true rfl) rfl (Nat.le_of_ble_eq_true rfl) _ rfl dX6_packetAt_50 [.int z5, .ref (w.2.2 5 31 0 0), .ref (w.2.2 5 31 0 0)] rfl ?_
      obtain ⟨hg6, h⟩ := x_g_e h
      refine x_iald 6464 z5.toNatClampNeg rfl rfl rfl rfl (ok_e31 hw) hg6 dX6_packetAt_53 ?_
      refine x_iconst (x := 0) dX6_packetAt_54 rfl ?_
      obtain ⟨z7, s7, h7, h⟩ := x_b_e h
      refine x_callS (As := [.int (s5 5 31 0 0 z5.toNatClampNeg), .int 0]) (st := [.ref (w.2.2 5 31 0 0)]) (eX6_packet hw  h7) cs_X6_92 (Nat.le_of_ble_eq_true rfl) rfl (Nat.le_of_ble_eq_true rfl) _ rfl dX6_packetAt_55 [.int z7, .ref (w.2.2 5 31 0 0)] rfl ?_
      obtain ⟨hg8, h⟩ := x_g_e h
      refine x_iald 6464 z7.toNatClampNeg rfl rfl rfl rfl (ok_e31 hw) hg8 dX6_packetAt_58 ?_
      exact x_iretH rfl dX6_packetAt_59 h
    · have h := x_t hc h
      refine x_iconst (x := (-1)) dX6_packetAt_34 (by decide) ?_
      exact x_iretH rfl dX6_packetAt_35 h
set_option maxRecDepth 100000 in
set_option maxHeartbeats 4000000 in
theorem eX6_fragments {l : Launch} {w : xW} (hw : w.1.2 = true) {a1 : Int32} {σ τ : xS} {r : Int32} (h : fX6_fragments a1 σ = some (r, τ)) : xEV l w yX6_fragments mX6_fragments [.ref (w.2.2 5 30 0 0), .int a1] σ (some (.int r)) τ := by
  rw [fX6_fragments] at h
  refine x_enter (by decide +kernel) rfl (Nat.le_of_ble_eq_true rfl) ?_
  refine x_sub (L1 := [(0, .ref (w.2.2 5 30 0 0)), (1, .int a1)]) [0, 1] rfl ?_
  refine x_aload_n dX6_fragments_0 rfl 0 rfl ?_
  refine x_iload_n dX6_fragments_1 rfl 1 rfl ?_
  obtain ⟨z1, s1, h1, h⟩ := x_b_e h
  refine x_callV (As := [.int a1]) (st := []) (eX6_slotOf hw  h1) cv_X6_190 (Nat.le_of_ble_eq_true rfl) (ok_e30 hw) rfl (Nat.le_of_ble_eq_true rfl) _ rfl dX6_fragments_2 [.int z1] rfl ?_
  refine x_istore_n z1 rfl dX6_fragments_5 rfl (Nat.le_of_ble_eq_true rfl) [(2, .int z1), (0, .ref (w.2.2 5 30 0 0)), (1, .int a1)] rfl ?_
  refine x_iload_n dX6_fragments_6 rfl 0 rfl ?_
  refine x_if_ge (tgt := 14) dX6_fragments_7 rfl (fun hc => ?_) (fun hc => ?_)
  · have h := x_t hc h
    refine x_aload_n dX6_fragments_14 rfl 1 rfl ?_
    refine x_getR (d1 := 5) (K1 := 31) (p1 := 0) (r1 := 0) fl_X6_7 (ok_e30 hw) rfl dX6_fragments_15 ?_
    refine x_iload_n dX6_fragments_18 rfl 0 rfl ?_
    refine x_iconst (x := 2) dX6_fragments_19 rfl ?_
    obtain ⟨z2, s2, h2, h⟩ := x_b_e h
    refine x_callS (As := [.int z1, .int 2]) (st := [.ref (w.2.2 5 31 0 0)]) (eX6_packet hw  h2) cs_X6_92 (Nat.le_of_ble_eq_true rfl) rfl (Nat.le_of_ble_eq_true rfl) _ rfl dX6_fragments_20 [.int z2, .ref (w.2.2 5 31 0 0)] rfl ?_
    obtain ⟨hg3, h⟩ := x_g_e h
    refine x_iald 6464 z2.toNatClampNeg rfl rfl rfl rfl (ok_e31 hw) hg3 dX6_fragments_23 ?_
    exact x_iretH rfl dX6_fragments_24 h
  · have h := x_f hc h
    refine x_iconst (x := (-1)) dX6_fragments_10 (by decide) ?_
    refine x_goto (tgt := 24) dX6_fragments_11 rfl ?_
    exact x_iretH rfl dX6_fragments_24 h
set_option maxRecDepth 100000 in
set_option maxHeartbeats 4000000 in
theorem eX6_ofFragment {l : Launch} {w : xW} (hw : w.1.2 = true) {a1 : Int32} {a2 : Int32} {a3 : Int32} {σ τ : xS} {r : Int32} (h : fX6_ofFragment a1 a2 a3 σ = some (r, τ)) : xEV l w yX6_ofFragment mX6_ofFragment [.ref (w.2.2 5 30 0 0), .int a1, .int a2, .int a3] σ (some (.int r)) τ := by
  rw [fX6_ofFragment] at h
  refine x_enter (by decide +kernel) rfl (Nat.le_of_ble_eq_true rfl) ?_
  refine x_sub (L1 := [(0, .ref (w.2.2 5 30 0 0)), (1, .int a1), (2, .int a2), (3, .int a3)]) [0, 1, 2, 3] rfl ?_
  refine x_aload_n dX6_ofFragment_0 rfl 0 rfl ?_
  refine x_iload_n dX6_ofFragment_1 rfl 1 rfl ?_
  obtain ⟨z1, s1, h1, h⟩ := x_b_e h
  refine x_callV (As := [.int a1]) (st := []) (eX6_slotOf hw  h1) cv_X6_190 (Nat.le_of_ble_eq_true rfl) (ok_e30 hw) rfl (Nat.le_of_ble_eq_true rfl) _ rfl dX6_ofFragment_2 [.int z1] rfl ?_
  refine x_istore z1 rfl dX6_ofFragment_5 (Nat.le_of_ble_eq_true rfl) [(4, .int z1), (0, .ref (w.2.2 5 30 0 0)), (1, .int a1), (2, .int a2), (3, .int a3)] rfl ?_
  refine x_iload dX6_ofFragment_7 0 rfl ?_
  refine x_if_lt (tgt := 49) dX6_ofFragment_9 rfl (fun hc => ?_) (fun hc => ?_)
  · have h := x_t hc h
    refine x_iconst (x := (-1)) dX6_ofFragment_49 (by decide) ?_
    exact x_iretH rfl dX6_ofFragment_50 h
  · have h := x_f hc h
    refine x_iload_n dX6_ofFragment_12 rfl 3 rfl ?_
    refine x_iconst (x := 0) dX6_ofFragment_13 rfl ?_
    refine x_aload_n dX6_ofFragment_14 rfl 1 rfl ?_
    refine x_getR (d1 := 5) (K1 := 31) (p1 := 0) (r1 := 0) fl_X6_7 (ok_e30 hw) rfl dX6_ofFragment_15 ?_
    refine x_iload dX6_ofFragment_18 0 rfl ?_
    refine x_iconst (x := 2) dX6_ofFragment_20 rfl ?_
    obtain ⟨z2, s2, h2, h⟩ := x_b_e h
    refine x_callS (As := [.int z1, .int 2]) (st := [.ref (w.2.2 5 31 0 0), .int 0, .int a2]) (eX6_packet hw  h2) cs_X6_92 (Nat.le_of_ble_eq_true rfl) rfl (Nat.le_of_ble_eq_true rfl) _ rfl dX6_ofFragment_21 [.int z2, .ref (w.2.2 5 31 0 0), .int 0, .int a2] rfl ?_
    obtain ⟨hg3, h⟩ := x_g_e h
    refine x_iald 6464 z2.toNatClampNeg rfl rfl rfl rfl (ok_e31 hw) hg3 dX6_ofFragment_24 ?_
    refine x_iconst (x := 1) dX6_ofFragment_25 rfl ?_
    refine x_isub dX6_ofFragment_26 ?_
    obtain ⟨z4, s4, h4, h⟩ := x_b_e h
    refine x_callS (As := [.int a2, .int 0, .int ((s2 5 31 0 0 z2.toNatClampNeg) - 1)]) (st := []) (eX6_in hw  h4) cs_X6_36 (Nat.le_of_ble_eq_true rfl) rfl (Nat.le_of_ble_eq_true rfl) _ rfl dX6_ofFragment_27 [.int z4] rfl ?_
    refine x_if_eq (tgt := 49) dX6_ofFragment_30 rfl (fun hc => ?_) (fun hc => ?_)
    · have h := x_t hc h
      refine x_iconst (x := (-1)) dX6_ofFragment_49 (by decide) ?_
      exact x_iretH rfl dX6_ofFragment_50 h
    · have h := x_f hc h
      refine x_aload_n dX6_ofFragment_33 rfl 1 rfl ?_
      refine x_getR (d1 := 5) (K1 := 31) (p1 := 0) (r1 := 0) fl_X6_7 (ok_e30 hw) rfl dX6_ofFragment_34 ?_
      refine x_iload dX6_ofFragment_37 0 rfl ?_
      refine x_iload_n dX6_ofFragment_39 rfl 4 rfl ?_
      refine x_iload_n dX6_ofFragment_40 rfl 3 rfl ?_
      refine x_iadd dX6_ofFragment_41 ?_
      obtain ⟨z5, s5, h5, h⟩ := x_b_e h
      refine x_callS (As := [.int z1, .int (a3 + a2)]) (st := [.ref (w.2.2 5 31 0 0)]) (eX6_packet hw  h5) cs_X6_92 (Nat.le_of_ble_eq_true rfl) rfl (Nat.le_of_ble_eq_true rfl) _ rfl dX6_ofFragment_42 [.int z5, .ref (w.2.2 5 31 0 0)] rfl ?_
      obtain ⟨hg6, h⟩ := x_g_e h
      refine x_iald 6464 z5.toNatClampNeg rfl rfl rfl rfl (ok_e31 hw) hg6 dX6_ofFragment_45 ?_
      refine x_goto (tgt := 50) dX6_ofFragment_46 rfl ?_
      exact x_iretH rfl dX6_ofFragment_50 h
set_option maxRecDepth 100000 in
set_option maxHeartbeats 4000000 in
theorem eX6_fragmentStart {l : Launch} {w : xW} (hw : w.1.2 = true) {a1 : Int32} {a2 : Int32} {σ τ : xS} {r : Int32} (h : fX6_fragmentStart a1 a2 σ = some (r, τ)) : xEV l w yX6_fragmentStart mX6_fragmentStart [.ref (w.2.2 5 30 0 0), .int a1, .int a2] σ (some (.int r)) τ := by
  rw [fX6_fragmentStart] at h
  refine x_enter (by decide +kernel) rfl (Nat.le_of_ble_eq_true rfl) ?_
  refine x_sub (L1 := [(0, .ref (w.2.2 5 30 0 0)), (1, .int a1), (2, .int a2)]) [0, 1, 2] rfl ?_
  refine x_aload_n dX6_fragmentStart_0 rfl 0 rfl ?_
  refine x_iload_n dX6_fragmentStart_1 rfl 1 rfl ?_
  refine x_iload_n dX6_fragmentStart_2 rfl 2 rfl ?_
  refine x_iconst (x := 4) dX6_fragmentStart_3 rfl ?_
  obtain ⟨z1, s1, h1, h⟩ := x_b_e h
  refine x_callV (As := [.int a1, .int a2, .int 4]) (st := []) (eX6_ofFragment hw  h1) cv_X6_193 (Nat.le_of_ble_eq_true rfl) (ok_e30 hw) rfl (Nat.le_of_ble_eq_true rfl) _ rfl dX6_fragmentStart_4 [.int z1] rfl ?_
  exact x_iretH rfl dX6_fragmentStart_7 h
set_option maxRecDepth 100000 in
set_option maxHeartbeats 4000000 in
theorem eX6_fragmentLength {l : Launch} {w : xW} (hw : w.1.2 = true) {a1 : Int32} {a2 : Int32} {σ τ : xS} {r : Int32} (h : fX6_fragmentLength a1 a2 σ = some (r, τ)) : xEV l w yX6_fragmentLength mX6_fragmentLength [.ref (w.2.2 5 30 0 0), .int a1, .int a2] σ (some (.int r)) τ := by
  rw [fX6_fragmentLength] at h
  refine x_enter (by decide +kernel) rfl (Nat.le_of_ble_eq_true rfl) ?_
  refine x_sub (L1 := [(0, .ref (w.2.2 5 30 0 0)), (1, .int a1), (2, .int a2)]) [0, 1, 2] rfl ?_
  refine x_aload_n dX6_fragmentLength_0 rfl 0 rfl ?_
  refine x_iload_n dX6_fragmentLength_1 rfl 1 rfl ?_
  refine x_iload_n dX6_fragmentLength_2 rfl 2 rfl ?_
  refine x_bipush (x := 16) dX6_fragmentLength_3 rfl ?_
  obtain ⟨z1, s1, h1, h⟩ := x_b_e h
  refine x_callV (As := [.int a1, .int a2, .int 16]) (st := []) (eX6_ofFragment hw  h1) cv_X6_193 (Nat.le_of_ble_eq_true rfl) (ok_e30 hw) rfl (Nat.le_of_ble_eq_true rfl) _ rfl dX6_fragmentLength_5 [.int z1] rfl ?_
  exact x_iretH rfl dX6_fragmentLength_8 h
set_option maxRecDepth 100000 in
set_option maxHeartbeats 4000000 in
theorem TX6_freeRuns_4 {l : Launch} {w : xW} (hw : w.1.2 = true) {τ : xS} {r : Int32} : ∀ (n : Nat) (a1 : Int32) (a2 : Int32) (σ : xS), BX6_freeRuns_4 n a1 a2 σ = some (r, τ) → xAt l w mX6_freeRuns 4 [(0, .ref (w.2.2 5 30 0 0)), (1, .int a1), (2, .int a2)] [] σ (some (.int r)) τ := by
  intro n
  induction n with
  | zero => intro a1 a2 σ h; cases h
  | succ n ih =>
    intro a1 a2 σ h
    rw [BX6_freeRuns_4] at h
    refine x_iload_n dX6_freeRuns_4 rfl 2 rfl ?_
    refine x_aload_n dX6_freeRuns_5 rfl 0 rfl ?_
    refine x_getR (d1 := 5) (K1 := 31) (p1 := 0) (r1 := 0) fl_X6_7 (ok_e30 hw) rfl dX6_freeRuns_6 ?_
    refine x_iconst (x := 0) dX6_freeRuns_9 rfl ?_
    refine x_iald 6464 0 rfl rfl rfl rfl (ok_e31 hw) rfl dX6_freeRuns_10 ?_
    refine x_icmp_ge (tgt := 36) dX6_freeRuns_11 rfl (fun hc => ?_) (fun hc => ?_)
    · have h := x_t hc h
      refine x_iload_n dX6_freeRuns_36 rfl 1 rfl ?_
      exact x_iretH rfl dX6_freeRuns_37 h
    · have h := x_f hc h
      refine x_iload_n dX6_freeRuns_14 rfl 1 rfl ?_
      refine x_aload_n dX6_freeRuns_15 rfl 0 rfl ?_
      refine x_iload_n dX6_freeRuns_16 rfl 2 rfl ?_
      obtain ⟨z1, s1, h1, h⟩ := x_b_e h
      refine x_callV (As := [.int a2]) (st := [.int a1]) (eX6_runAt hw  h1) cv_X6_98 (Nat.le_of_ble_eq_true rfl) (ok_e30 hw) rfl (Nat.le_of_ble_eq_true rfl) _ rfl dX6_freeRuns_17 [.int z1, .int a1] rfl ?_
      refine x_if_le (tgt := 27) dX6_freeRuns_20 rfl (fun hc => ?_) (fun hc => ?_)
      · have h := x_t hc h
        refine x_iconst (x := 0) dX6_freeRuns_27 rfl ?_
        refine x_iadd dX6_freeRuns_28 ?_
        obtain ⟨t2, ht2, h⟩ := x_let_e h
        refine x_istore_n t2 ht2 dX6_freeRuns_29 rfl (Nat.le_of_ble_eq_true rfl) [(1, .int t2), (0, .ref (w.2.2 5 30 0 0)), (2, .int a2)] rfl ?_
        obtain ⟨t3, ht3, h⟩ := x_let_e h
        refine x_iinc t3 1 rfl ht3 dX6_freeRuns_30 2 rfl (Nat.le_of_ble_eq_true rfl) [(2, .int t3), (1, .int t2), (0, .ref (w.2.2 5 30 0 0))] rfl ?_
        refine x_goto (tgt := 4) dX6_freeRuns_33 rfl ?_
        refine x_sub (L1 := [(0, .ref (w.2.2 5 30 0 0)), (1, .int t2), (2, .int t3)]) [2, 1, 0] rfl ?_
        exact ih _ _ _ h
      · have h := x_f hc h
        refine x_iconst (x := 1) dX6_freeRuns_23 rfl ?_
        refine x_goto (tgt := 28) dX6_freeRuns_24 rfl ?_
        refine x_iadd dX6_freeRuns_28 ?_
        obtain ⟨t4, ht4, h⟩ := x_let_e h
        refine x_istore_n t4 ht4 dX6_freeRuns_29 rfl (Nat.le_of_ble_eq_true rfl) [(1, .int t4), (0, .ref (w.2.2 5 30 0 0)), (2, .int a2)] rfl ?_
        obtain ⟨t5, ht5, h⟩ := x_let_e h
        refine x_iinc t5 1 rfl ht5 dX6_freeRuns_30 2 rfl (Nat.le_of_ble_eq_true rfl) [(2, .int t5), (1, .int t4), (0, .ref (w.2.2 5 30 0 0))] rfl ?_
        refine x_goto (tgt := 4) dX6_freeRuns_33 rfl ?_
        refine x_sub (L1 := [(0, .ref (w.2.2 5 30 0 0)), (1, .int t4), (2, .int t5)]) [2, 1, 0] rfl ?_
        exact ih _ _ _ h
set_option maxRecDepth 100000 in
set_option maxHeartbeats 4000000 in
theorem eX6_freeRuns {l : Launch} {w : xW} (hw : w.1.2 = true) {σ τ : xS} {r : Int32} (h : fX6_freeRuns σ = some (r, τ)) : xEV l w yX6_freeRuns mX6_freeRuns [.ref (w.2.2 5 30 0 0)] σ (some (.int r)) τ := by
  rw [fX6_freeRuns] at h
  refine x_enter (by decide +kernel) rfl (Nat.le_of_ble_eq_true rfl) ?_
  refine x_sub (L1 := [(0, .ref (w.2.2 5 30 0 0))]) [0] rfl ?_
  refine x_iconst (x := 0) dX6_freeRuns_0 rfl ?_
  refine x_istore_n 0 rfl dX6_freeRuns_1 rfl (Nat.le_of_ble_eq_true rfl) [(1, .int 0), (0, .ref (w.2.2 5 30 0 0))] rfl ?_
  refine x_iconst (x := 0) dX6_freeRuns_2 rfl ?_
  refine x_istore_n 0 rfl dX6_freeRuns_3 rfl (Nat.le_of_ble_eq_true rfl) [(2, .int 0), (1, .int 0), (0, .ref (w.2.2 5 30 0 0))] rfl ?_
  refine x_sub (L1 := [(0, .ref (w.2.2 5 30 0 0)), (1, .int 0), (2, .int 0)]) [2, 1, 0] rfl ?_
  exact TX6_freeRuns_4 hw _ _ _ _ h
set_option maxRecDepth 100000 in
set_option maxHeartbeats 4000000 in
theorem TX6_beginOf_4 {l : Launch} {w : xW} (hw : w.1.2 = true) {τ : xS} {r : Int32} : ∀ (n : Nat) (a2 : Int32) (a3 : Int32) (σ : xS), BX6_beginOf_4 n a2 a3 σ = some (r, τ) → xAt l w mX6_beginOf 4 [(0, .ref (w.2.2 5 30 0 0)), (2, .int a2), (3, .int a3)] [] σ (some (.int r)) τ := by
  intro n
  induction n with
  | zero => intro a2 a3 σ h; cases h
  | succ n ih =>
    intro a2 a3 σ h
    rw [BX6_beginOf_4] at h
    refine x_iload_n dX6_beginOf_4 rfl 2 rfl ?_
    refine x_aload_n dX6_beginOf_5 rfl 0 rfl ?_
    refine x_getR (d1 := 5) (K1 := 31) (p1 := 0) (r1 := 0) fl_X6_7 (ok_e30 hw) rfl dX6_beginOf_6 ?_
    refine x_iconst (x := 0) dX6_beginOf_9 rfl ?_
    refine x_iald 6464 0 rfl rfl rfl rfl (ok_e31 hw) rfl dX6_beginOf_10 ?_
    refine x_icmp_ge (tgt := 37) dX6_beginOf_11 rfl (fun hc => ?_) (fun hc => ?_)
    · have h := x_t hc h
      refine x_iconst (x := (-1)) dX6_beginOf_37 (by decide) ?_
      exact x_iretH rfl dX6_beginOf_38 h
    · have h := x_f hc h
      refine x_aload_n dX6_beginOf_14 rfl 0 rfl ?_
      refine x_iload_n dX6_beginOf_15 rfl 2 rfl ?_
      obtain ⟨z1, s1, h1, h⟩ := x_b_e h
      refine x_callV (As := [.int a3]) (st := []) (eX6_runAt hw  h1) cv_X6_98 (Nat.le_of_ble_eq_true rfl) (ok_e30 hw) rfl (Nat.le_of_ble_eq_true rfl) _ rfl dX6_beginOf_16 [.int z1] rfl ?_
      refine x_if_le (tgt := 31) dX6_beginOf_19 rfl (fun hc => ?_) (fun hc => ?_)
      · have h := x_t hc h
        obtain ⟨t2, ht2, h⟩ := x_let_e h
        refine x_iinc t2 1 rfl ht2 dX6_beginOf_31 2 rfl (Nat.le_of_ble_eq_true rfl) [(3, .int t2), (0, .ref (w.2.2 5 30 0 0)), (2, .int a2)] rfl ?_
        refine x_goto (tgt := 4) dX6_beginOf_34 rfl ?_
        refine x_sub (L1 := [(0, .ref (w.2.2 5 30 0 0)), (2, .int a2), (3, .int t2)]) [1, 2, 0] rfl ?_
        exact ih _ _ _ h
      · have h := x_f hc h
        refine x_iload_n dX6_beginOf_22 rfl 1 rfl ?_
        refine x_if_ne (tgt := 28) dX6_beginOf_23 rfl (fun hc => ?_) (fun hc => ?_)
        · have h := x_f hc h
          obtain ⟨t3, ht3, h⟩ := x_let_e h
          refine x_iinc t3 (-1) (by decide) ht3 dX6_beginOf_28 1 rfl (Nat.le_of_ble_eq_true rfl) [(2, .int t3), (0, .ref (w.2.2 5 30 0 0)), (3, .int a3)] rfl ?_
          obtain ⟨t4, ht4, h⟩ := x_let_e h
          refine x_iinc t4 1 rfl ht4 dX6_beginOf_31 2 rfl (Nat.le_of_ble_eq_true rfl) [(3, .int t4), (2, .int t3), (0, .ref (w.2.2 5 30 0 0))] rfl ?_
          refine x_goto (tgt := 4) dX6_beginOf_34 rfl ?_
          refine x_sub (L1 := [(0, .ref (w.2.2 5 30 0 0)), (2, .int t3), (3, .int t4)]) [2, 1, 0] rfl ?_
          exact ih _ _ _ h
        · have h := x_t hc h
          refine x_iload_n dX6_beginOf_26 rfl 2 rfl ?_
          exact x_iretH rfl dX6_beginOf_27 h
set_option maxRecDepth 100000 in
set_option maxHeartbeats 4000000 in
theorem eX6_beginOf {l : Launch} {w : xW} (hw : w.1.2 = true) {a1 : Int32} {σ τ : xS} {r : Int32} (h : fX6_beginOf a1 σ = some (r, τ)) : xEV l w yX6_beginOf mX6_beginOf [.ref (w.2.2 5 30 0 0), .int a1] σ (some (.int r)) τ := by
  rw [fX6_beginOf] at h
  refine x_enter (by decide +kernel) rfl (Nat.le_of_ble_eq_true rfl) ?_
  refine x_sub (L1 := [(0, .ref (w.2.2 5 30 0 0)), (1, .int a1)]) [0, 1] rfl ?_
  refine x_iload_n dX6_beginOf_0 rfl 1 rfl ?_
  refine x_istore_n a1 rfl dX6_beginOf_1 rfl (Nat.le_of_ble_eq_true rfl) [(2, .int a1), (0, .ref (w.2.2 5 30 0 0)), (1, .int a1)] rfl ?_
  refine x_iconst (x := 0) dX6_beginOf_2 rfl ?_
  refine x_istore_n 0 rfl dX6_beginOf_3 rfl (Nat.le_of_ble_eq_true rfl) [(3, .int 0), (2, .int a1), (0, .ref (w.2.2 5 30 0 0)), (1, .int a1)] rfl ?_
  refine x_sub (L1 := [(0, .ref (w.2.2 5 30 0 0)), (2, .int a1), (3, .int 0)]) [2, 1, 0] rfl ?_
  exact TX6_beginOf_4 hw _ _ _ _ h
set_option maxRecDepth 100000 in
set_option maxHeartbeats 4000000 in
theorem eX6_runStart {l : Launch} {w : xW} (hw : w.1.2 = true) {a1 : Int32} {σ τ : xS} {r : Int32} (h : fX6_runStart a1 σ = some (r, τ)) : xEV l w yX6_runStart mX6_runStart [.ref (w.2.2 5 30 0 0), .int a1] σ (some (.int r)) τ := by
  rw [fX6_runStart] at h
  refine x_enter (by decide +kernel) rfl (Nat.le_of_ble_eq_true rfl) ?_
  refine x_sub (L1 := [(0, .ref (w.2.2 5 30 0 0)), (1, .int a1)]) [0, 1] rfl ?_
  refine x_iload_n dX6_runStart_0 rfl 1 rfl ?_
  refine x_if_ge (tgt := 8) dX6_runStart_1 rfl (fun hc => ?_) (fun hc => ?_)
  · have h := x_t hc h
    refine x_aload_n dX6_runStart_8 rfl 0 rfl ?_
    refine x_iload_n dX6_runStart_9 rfl 1 rfl ?_
    obtain ⟨z1, s1, h1, h⟩ := x_b_e h
    refine x_callV (As := [.int a1]) (st := []) (eX6_beginOf hw  h1) cv_X6_196 (Nat.le_of_ble_eq_true rfl) (ok_e30 hw) rfl (Nat.le_of_ble_eq_true rfl) _ rfl dX6_runStart_10 [.int z1] rfl ?_
    refine x_if_ge (tgt := 20) dX6_runStart_13 rfl (fun hc => ?_) (fun hc => ?_)
    · have h := x_t hc h
      refine x_aload_n dX6_runStart_20 rfl 0 rfl ?_
      refine x_iload_n dX6_runStart_21 rfl 1 rfl ?_
      obtain ⟨z2, s2, h2, h⟩ := x_b_e h
      refine x_callV (As := [.int a1]) (st := []) (eX6_beginOf hw  h2) cv_X6_196 (Nat.le_of_ble_eq_true rfl) (ok_e30 hw) rfl (Nat.le_of_ble_eq_true rfl) _ rfl dX6_runStart_22 [.int z2] rfl ?_
      exact x_iretH rfl dX6_runStart_25 h
    · have h := x_f hc h
      refine x_iconst (x := (-1)) dX6_runStart_16 (by decide) ?_
      refine x_goto (tgt := 25) dX6_runStart_17 rfl ?_
      exact x_iretH rfl dX6_runStart_25 h
  · have h := x_f hc h
    refine x_iconst (x := (-1)) dX6_runStart_4 (by decide) ?_
    refine x_goto (tgt := 25) dX6_runStart_5 rfl ?_
    exact x_iretH rfl dX6_runStart_25 h
set_option maxRecDepth 100000 in
set_option maxHeartbeats 4000000 in
theorem eX6_runLength {l : Launch} {w : xW} (hw : w.1.2 = true) {a1 : Int32} {σ τ : xS} {r : Int32} (h : fX6_runLength a1 σ = some (r, τ)) : xEV l w yX6_runLength mX6_runLength [.ref (w.2.2 5 30 0 0), .int a1] σ (some (.int r)) τ := by
  rw [fX6_runLength] at h
  refine x_enter (by decide +kernel) rfl (Nat.le_of_ble_eq_true rfl) ?_
  refine x_sub (L1 := [(0, .ref (w.2.2 5 30 0 0)), (1, .int a1)]) [0, 1] rfl ?_
  refine x_iload_n dX6_runLength_0 rfl 1 rfl ?_
  refine x_if_ge (tgt := 8) dX6_runLength_1 rfl (fun hc => ?_) (fun hc => ?_)
  · have h := x_t hc h
    refine x_aload_n dX6_runLength_8 rfl 0 rfl ?_
    refine x_iload_n dX6_runLength_9 rfl 1 rfl ?_
    obtain ⟨z1, s1, h1, h⟩ := x_b_e h
    refine x_callV (As := [.int a1]) (st := []) (eX6_beginOf hw  h1) cv_X6_196 (Nat.le_of_ble_eq_true rfl) (ok_e30 hw) rfl (Nat.le_of_ble_eq_true rfl) _ rfl dX6_runLength_10 [.int z1] rfl ?_
    refine x_istore_n z1 rfl dX6_runLength_13 rfl (Nat.le_of_ble_eq_true rfl) [(2, .int z1), (0, .ref (w.2.2 5 30 0 0)), (1, .int a1)] rfl ?_
    refine x_iload_n dX6_runLength_14 rfl 0 rfl ?_
    refine x_if_ge (tgt := 22) dX6_runLength_15 rfl (fun hc => ?_) (fun hc => ?_)
    · have h := x_t hc h
      refine x_aload_n dX6_runLength_22 rfl 1 rfl ?_
      refine x_iload_n dX6_runLength_23 rfl 0 rfl ?_
      obtain ⟨z2, s2, h2, h⟩ := x_b_e h
      refine x_callV (As := [.int z1]) (st := []) (eX6_runAt hw  h2) cv_X6_98 (Nat.le_of_ble_eq_true rfl) (ok_e30 hw) rfl (Nat.le_of_ble_eq_true rfl) _ rfl dX6_runLength_24 [.int z2] rfl ?_
      exact x_iretH rfl dX6_runLength_27 h
    · have h := x_f hc h
      refine x_iconst (x := (-1)) dX6_runLength_18 (by decide) ?_
      refine x_goto (tgt := 27) dX6_runLength_19 rfl ?_
      exact x_iretH rfl dX6_runLength_27 h
  · have h := x_f hc h
    refine x_iconst (x := (-1)) dX6_runLength_4 (by decide) ?_
    refine x_goto (tgt := 13) dX6_runLength_5 rfl ?_
    refine x_istore_n (-1) rfl dX6_runLength_13 rfl (Nat.le_of_ble_eq_true rfl) [(2, .int (-1)), (0, .ref (w.2.2 5 30 0 0)), (1, .int a1)] rfl ?_
    refine x_iload_n dX6_runLength_14 rfl 0 rfl ?_
    refine x_if_ge (tgt := 22) dX6_runLength_15 rfl (fun hc => ?_) (fun hc => ?_)
    · exact absurd hc (by decide)
    · skip
      refine x_iconst (x := (-1)) dX6_runLength_18 (by decide) ?_
      refine x_goto (tgt := 27) dX6_runLength_19 rfl ?_
      exact x_iretH rfl dX6_runLength_27 h
set_option maxRecDepth 100000 in
set_option maxHeartbeats 4000000 in
theorem eX6_stageFor {l : Launch} {w : xW} (hw : w.1.2 = true) {a1 : Int32} {a2 : Int32} {a3 : Int32} {σ τ : xS} {r : Int32} (h : fX6_stageFor a1 a2 a3 σ = some (r, τ)) : xEV l w yX6_stageFor mX6_stageFor [.ref (w.2.2 5 30 0 0), .int a1, .int a2, .int a3] σ (some (.int r)) τ := by
  rw [fX6_stageFor] at h
  refine x_enter (by decide +kernel) rfl (Nat.le_of_ble_eq_true rfl) ?_
  refine x_sub (L1 := [(0, .ref (w.2.2 5 30 0 0)), (1, .int a1), (2, .int a2), (3, .int a3)]) [0, 1, 2, 3] rfl ?_
  refine x_aload_n dX6_stageFor_0 rfl 0 rfl ?_
  refine x_iload_n dX6_stageFor_1 rfl 1 rfl ?_
  refine x_iload_n dX6_stageFor_2 rfl 2 rfl ?_
  obtain ⟨z1, s1, h1, h⟩ := x_b_e h
  refine x_callV (As := [.int a1, .int a2]) (st := []) (eX6_isQueue hw  h1) cv_X6_75 (Nat.le_of_ble_eq_true rfl) (ok_e30 hw) rfl (Nat.le_of_ble_eq_true rfl) _ rfl dX6_stageFor_3 [.int z1] rfl ?_
  refine x_if_ne (tgt := 11) dX6_stageFor_6 rfl (fun hc => ?_) (fun hc => ?_)
  · have h := x_f hc h
    refine x_iload_n dX6_stageFor_11 rfl 3 rfl ?_
    refine x_iconst (x := 1) dX6_stageFor_12 rfl ?_
    refine x_bipush (x := 12) dX6_stageFor_13 rfl ?_
    obtain ⟨z2, s2, h2, h⟩ := x_b_e h
    refine x_callS (As := [.int a3, .int 1, .int 12]) (st := []) (eX6_in hw  h2) cs_X6_36 (Nat.le_of_ble_eq_true rfl) rfl (Nat.le_of_ble_eq_true rfl) _ rfl dX6_stageFor_15 [.int z2] rfl ?_
    refine x_if_ne (tgt := 24) dX6_stageFor_18 rfl (fun hc => ?_) (fun hc => ?_)
    · have h := x_f hc h
      refine x_aload_n dX6_stageFor_24 rfl 0 rfl ?_
      refine x_iconst (x := 3) dX6_stageFor_25 rfl ?_
      refine x_iload_n dX6_stageFor_26 rfl 1 rfl ?_
      refine x_imul dX6_stageFor_27 ?_
      refine x_iload_n dX6_stageFor_28 rfl 2 rfl ?_
      refine x_iadd dX6_stageFor_29 ?_
      refine x_iload_n dX6_stageFor_30 rfl 3 rfl ?_
      obtain ⟨z3, s3, h3, h⟩ := x_b_e h
      refine x_callV (As := [.int ((3 * a1) + a2), .int a3]) (st := []) (eX6_decides hw  h3) cv_X6_142 (Nat.le_of_ble_eq_true rfl) (ok_e30 hw) rfl (Nat.le_of_ble_eq_true rfl) _ rfl dX6_stageFor_31 [.int z3] rfl ?_
      refine x_istore z3 rfl dX6_stageFor_34 (Nat.le_of_ble_eq_true rfl) [(4, .int z3), (0, .ref (w.2.2 5 30 0 0)), (1, .int a1), (2, .int a2), (3, .int a3)] rfl ?_
      refine x_iload dX6_stageFor_36 0 rfl ?_
      refine x_if_ne (tgt := 46) dX6_stageFor_38 rfl (fun hc => ?_) (fun hc => ?_)
      · have h := x_f hc h
        refine x_iload dX6_stageFor_46 0 rfl ?_
        exact x_iretH rfl dX6_stageFor_48 h
      · have h := x_t hc h
        refine x_bipush (x := (-6)) dX6_stageFor_41 (by decide) ?_
        refine x_goto (tgt := 48) dX6_stageFor_43 rfl ?_
        exact x_iretH rfl dX6_stageFor_48 h
    · have h := x_t hc h
      refine x_bipush (x := (-2)) dX6_stageFor_21 (by decide) ?_
      exact x_iretH rfl dX6_stageFor_23 h
  · have h := x_t hc h
    refine x_iconst (x := (-1)) dX6_stageFor_9 (by decide) ?_
    exact x_iretH rfl dX6_stageFor_10 h
set_option maxRecDepth 100000 in
set_option maxHeartbeats 4000000 in
theorem TX6_largestAdmissible_14 {l : Launch} {w : xW} (hw : w.1.2 = true) {a1 : Int32} {a2 : Int32} {τ : xS} {r : Int32} : ∀ (n : Nat) (a3 : Int32) (σ : xS), BX6_largestAdmissible_14 a1 a2 n a3 σ = some (r, τ) → xAt l w mX6_largestAdmissible 14 [(0, .ref (w.2.2 5 30 0 0)), (1, .int a1), (2, .int a2), (3, .int a3)] [] σ (some (.int r)) τ := by
  intro n
  induction n with
  | zero => intro a3 σ h; cases h
  | succ n ih =>
    intro a3 σ h
    rw [BX6_largestAdmissible_14] at h
    refine x_iload_n dX6_largestAdmissible_14 rfl 3 rfl ?_
    refine x_if_le (tgt := 37) dX6_largestAdmissible_15 rfl (fun hc => ?_) (fun hc => ?_)
    · have h := x_t hc h
      refine x_iload_n dX6_largestAdmissible_37 rfl 3 rfl ?_
      exact x_iretH rfl dX6_largestAdmissible_38 h
    · have h := x_f hc h
      refine x_aload_n dX6_largestAdmissible_18 rfl 0 rfl ?_
      refine x_iconst (x := 3) dX6_largestAdmissible_19 rfl ?_
      refine x_iload_n dX6_largestAdmissible_20 rfl 1 rfl ?_
      refine x_imul dX6_largestAdmissible_21 ?_
      refine x_iload_n dX6_largestAdmissible_22 rfl 2 rfl ?_
      refine x_iadd dX6_largestAdmissible_23 ?_
      refine x_iload_n dX6_largestAdmissible_24 rfl 3 rfl ?_
      obtain ⟨z2, s2, h2, h⟩ := x_b_e h
      refine x_callV (As := [.int ((3 * a1) + a2), .int a3]) (st := []) (eX6_decides hw  h2) cv_X6_142 (Nat.le_of_ble_eq_true rfl) (ok_e30 hw) rfl (Nat.le_of_ble_eq_true rfl) _ rfl dX6_largestAdmissible_25 [.int z2] rfl ?_
      refine x_if_ne (tgt := 37) dX6_largestAdmissible_28 rfl (fun hc => ?_) (fun hc => ?_)
      · have h := x_f hc h
        refine x_iload_n dX6_largestAdmissible_37 rfl 3 rfl ?_
        exact x_iretH rfl dX6_largestAdmissible_38 h
      · have h := x_t hc h
        obtain ⟨t3, ht3, h⟩ := x_let_e h
        refine x_iinc t3 (-1) (by decide) ht3 dX6_largestAdmissible_31 3 rfl (Nat.le_of_ble_eq_true rfl) [(3, .int t3), (0, .ref (w.2.2 5 30 0 0)), (1, .int a1), (2, .int a2)] rfl ?_
        refine x_goto (tgt := 14) dX6_largestAdmissible_34 rfl ?_
        refine x_sub (L1 := [(0, .ref (w.2.2 5 30 0 0)), (1, .int a1), (2, .int a2), (3, .int t3)]) [1, 2, 3, 0] rfl ?_
        exact ih _ _ h
set_option maxRecDepth 100000 in
set_option maxHeartbeats 4000000 in
theorem eX6_largestAdmissible {l : Launch} {w : xW} (hw : w.1.2 = true) {a1 : Int32} {a2 : Int32} {σ τ : xS} {r : Int32} (h : fX6_largestAdmissible a1 a2 σ = some (r, τ)) : xEV l w yX6_largestAdmissible mX6_largestAdmissible [.ref (w.2.2 5 30 0 0), .int a1, .int a2] σ (some (.int r)) τ := by
  rw [fX6_largestAdmissible] at h
  refine x_enter (by decide +kernel) rfl (Nat.le_of_ble_eq_true rfl) ?_
  refine x_sub (L1 := [(0, .ref (w.2.2 5 30 0 0)), (1, .int a1), (2, .int a2)]) [0, 1, 2] rfl ?_
  refine x_aload_n dX6_largestAdmissible_0 rfl 0 rfl ?_
  refine x_iload_n dX6_largestAdmissible_1 rfl 1 rfl ?_
  refine x_iload_n dX6_largestAdmissible_2 rfl 2 rfl ?_
  obtain ⟨z1, s1, h1, h⟩ := x_b_e h
  refine x_callV (As := [.int a1, .int a2]) (st := []) (eX6_isQueue hw  h1) cv_X6_75 (Nat.le_of_ble_eq_true rfl) (ok_e30 hw) rfl (Nat.le_of_ble_eq_true rfl) _ rfl dX6_largestAdmissible_3 [.int z1] rfl ?_
  refine x_if_ne (tgt := 11) dX6_largestAdmissible_6 rfl (fun hc => ?_) (fun hc => ?_)
  · have h := x_f hc h
    refine x_bipush (x := 12) dX6_largestAdmissible_11 rfl ?_
    refine x_istore_n 12 rfl dX6_largestAdmissible_13 rfl (Nat.le_of_ble_eq_true rfl) [(3, .int 12), (0, .ref (w.2.2 5 30 0 0)), (1, .int a1), (2, .int a2)] rfl ?_
    refine x_sub (L1 := [(0, .ref (w.2.2 5 30 0 0)), (1, .int a1), (2, .int a2), (3, .int 12)]) [1, 2, 3, 0] rfl ?_
    exact TX6_largestAdmissible_14 hw _ _ _ h
  · have h := x_t hc h
    refine x_iconst (x := (-1)) dX6_largestAdmissible_9 (by decide) ?_
    exact x_iretH rfl dX6_largestAdmissible_10 h
set_option maxRecDepth 100000 in
set_option maxHeartbeats 4000000 in
theorem TX6_burstCapacity_54 {l : Launch} {w : xW} (hw : w.1.2 = true) {a3 : Int32} {a4 : Int32} {τ : xS} {r : Int32} : ∀ (n : Nat) (a5 : Int32) (a6 : Int32) (σ : xS), BX6_burstCapacity_54 a3 a4 n a5 a6 σ = some (r, τ) → xAt l w mX6_burstCapacity 54 [(0, .ref (w.2.2 5 30 0 0)), (3, .int a3), (4, .int a4), (5, .int a5), (6, .int a6)] [] σ (some (.int r)) τ := by
  intro n
  induction n with
  | zero => intro a5 a6 σ h; cases h
  | succ n ih =>
    intro a5 a6 σ h
    rw [BX6_burstCapacity_54] at h
    refine x_iload dX6_burstCapacity_54 4 rfl ?_
    refine x_if_le (tgt := 83) dX6_burstCapacity_56 rfl (fun hc => ?_) (fun hc => ?_)
    · have h := x_t hc h
      refine x_aload_n dX6_burstCapacity_83 rfl 0 rfl ?_
      obtain ⟨z7, s7, h7, h⟩ := x_b_e h
      refine x_callV (As := []) (st := []) (eX6_brings hw  h7) cv_X6_89 (Nat.le_of_ble_eq_true rfl) (ok_e30 hw) rfl (Nat.le_of_ble_eq_true rfl) _ rfl dX6_burstCapacity_84 [] rfl ?_
      refine x_iload dX6_burstCapacity_87 3 rfl ?_
      exact x_iretH rfl dX6_burstCapacity_89 h
    · have h := x_f hc h
      refine x_aload_n dX6_burstCapacity_59 rfl 0 rfl ?_
      refine x_iload dX6_burstCapacity_60 2 rfl ?_
      refine x_iload_n dX6_burstCapacity_62 rfl 1 rfl ?_
      refine x_iload dX6_burstCapacity_63 4 rfl ?_
      obtain ⟨z8, s8, h8, h⟩ := x_b_e h
      refine x_callV (As := [.int a4, .int a3, .int a6]) (st := []) (eX6_counts hw  h8) cv_X6_148 (Nat.le_of_ble_eq_true rfl) (ok_e30 hw) rfl (Nat.le_of_ble_eq_true rfl) _ rfl dX6_burstCapacity_65 [] rfl ?_
      obtain ⟨t9, ht9, h⟩ := x_let_e h
      refine x_iinc t9 1 rfl ht9 dX6_burstCapacity_68 3 rfl (Nat.le_of_ble_eq_true rfl) [(5, .int t9), (0, .ref (w.2.2 5 30 0 0)), (3, .int a3), (4, .int a4), (6, .int a6)] rfl ?_
      refine x_aload_n dX6_burstCapacity_71 rfl 1 rfl ?_
      refine x_iload dX6_burstCapacity_72 3 rfl ?_
      refine x_iload_n dX6_burstCapacity_74 rfl 2 rfl ?_
      obtain ⟨z10, s10, h10, h⟩ := x_b_e h
      refine x_callV (As := [.int a4, .int a3]) (st := []) (eX6_decides hw  h10) cv_X6_142 (Nat.le_of_ble_eq_true rfl) (ok_e30 hw) rfl (Nat.le_of_ble_eq_true rfl) _ rfl dX6_burstCapacity_75 [.int z10] rfl ?_
      refine x_istore z10 rfl dX6_burstCapacity_78 (Nat.le_of_ble_eq_true rfl) [(6, .int z10), (5, .int t9), (0, .ref (w.2.2 5 30 0 0)), (3, .int a3), (4, .int a4)] rfl ?_
      refine x_goto (tgt := 54) dX6_burstCapacity_80 rfl ?_
      refine x_sub (L1 := [(0, .ref (w.2.2 5 30 0 0)), (3, .int a3), (4, .int a4), (5, .int t9), (6, .int z10)]) [2, 3, 4, 1, 0] rfl ?_
      exact ih _ _ _ h
set_option maxRecDepth 100000 in
set_option maxHeartbeats 4000000 in
theorem eX6_burstCapacity {l : Launch} {w : xW} (hw : w.1.2 = true) {a1 : Int32} {a2 : Int32} {a3 : Int32} {σ τ : xS} {r : Int32} (h : fX6_burstCapacity a1 a2 a3 σ = some (r, τ)) : xEV l w yX6_burstCapacity mX6_burstCapacity [.ref (w.2.2 5 30 0 0), .int a1, .int a2, .int a3] σ (some (.int r)) τ := by
  rw [fX6_burstCapacity] at h
  refine x_enter (by decide +kernel) rfl (Nat.le_of_ble_eq_true rfl) ?_
  refine x_sub (L1 := [(0, .ref (w.2.2 5 30 0 0)), (1, .int a1), (2, .int a2), (3, .int a3)]) [0, 1, 2, 3] rfl ?_
  refine x_aload_n dX6_burstCapacity_0 rfl 0 rfl ?_
  refine x_iload_n dX6_burstCapacity_1 rfl 1 rfl ?_
  refine x_iload_n dX6_burstCapacity_2 rfl 2 rfl ?_
  obtain ⟨z1, s1, h1, h⟩ := x_b_e h
  refine x_callV (As := [.int a1, .int a2]) (st := []) (eX6_isQueue hw  h1) cv_X6_75 (Nat.le_of_ble_eq_true rfl) (ok_e30 hw) rfl (Nat.le_of_ble_eq_true rfl) _ rfl dX6_burstCapacity_3 [.int z1] rfl ?_
  refine x_if_ne (tgt := 11) dX6_burstCapacity_6 rfl (fun hc => ?_) (fun hc => ?_)
  · have h := x_f hc h
    refine x_iload_n dX6_burstCapacity_11 rfl 3 rfl ?_
    refine x_iconst (x := 1) dX6_burstCapacity_12 rfl ?_
    refine x_bipush (x := 12) dX6_burstCapacity_13 rfl ?_
    obtain ⟨z2, s2, h2, h⟩ := x_b_e h
    refine x_callS (As := [.int a3, .int 1, .int 12]) (st := []) (eX6_in hw  h2) cs_X6_36 (Nat.le_of_ble_eq_true rfl) rfl (Nat.le_of_ble_eq_true rfl) _ rfl dX6_burstCapacity_15 [.int z2] rfl ?_
    refine x_if_ne (tgt := 24) dX6_burstCapacity_18 rfl (fun hc => ?_) (fun hc => ?_)
    · have h := x_f hc h
      refine x_iconst (x := 3) dX6_burstCapacity_24 rfl ?_
      refine x_iload_n dX6_burstCapacity_25 rfl 1 rfl ?_
      refine x_imul dX6_burstCapacity_26 ?_
      refine x_iload_n dX6_burstCapacity_27 rfl 2 rfl ?_
      refine x_iadd dX6_burstCapacity_28 ?_
      obtain ⟨t3, ht3, h⟩ := x_let_e h
      refine x_istore t3 ht3 dX6_burstCapacity_29 (Nat.le_of_ble_eq_true rfl) [(4, .int t3), (0, .ref (w.2.2 5 30 0 0)), (1, .int a1), (2, .int a2), (3, .int a3)] rfl ?_
      refine x_aload_n dX6_burstCapacity_31 rfl 1 rfl ?_
      obtain ⟨z4, s4, h4, h⟩ := x_b_e h
      refine x_callV (As := []) (st := []) (eX6_keeps hw  h4) cv_X6_83 (Nat.le_of_ble_eq_true rfl) (ok_e30 hw) rfl (Nat.le_of_ble_eq_true rfl) _ rfl dX6_burstCapacity_32 [] rfl ?_
      refine x_aload_n dX6_burstCapacity_35 rfl 1 rfl ?_
      refine x_getR (d1 := 5) (K1 := 31) (p1 := 0) (r1 := 0) fl_X6_7 (ok_e30 hw) rfl dX6_burstCapacity_36 ?_
      refine x_iconst (x := 2) dX6_burstCapacity_39 rfl ?_
      refine x_iconst (x := 0) dX6_burstCapacity_40 rfl ?_
      obtain ⟨s5, hs5, h⟩ := x_let_e h
      refine x_iast 6464 2 rfl s5 hs5 rfl rfl rfl (ok_e31 hw) rfl dX6_burstCapacity_41 ?_
      refine x_iconst (x := 0) dX6_burstCapacity_42 rfl ?_
      refine x_istore 0 rfl dX6_burstCapacity_43 (Nat.le_of_ble_eq_true rfl) [(5, .int 0), (4, .int t3), (0, .ref (w.2.2 5 30 0 0)), (1, .int a1), (2, .int a2), (3, .int a3)] rfl ?_
      refine x_aload_n dX6_burstCapacity_45 rfl 2 rfl ?_
      refine x_iload dX6_burstCapacity_46 1 rfl ?_
      refine x_iload_n dX6_burstCapacity_48 rfl 5 rfl ?_
      obtain ⟨z6, s6, h6, h⟩ := x_b_e h
      refine x_callV (As := [.int t3, .int a3]) (st := []) (eX6_decides hw  h6) cv_X6_142 (Nat.le_of_ble_eq_true rfl) (ok_e30 hw) rfl (Nat.le_of_ble_eq_true rfl) _ rfl dX6_burstCapacity_49 [.int z6] rfl ?_
      refine x_istore z6 rfl dX6_burstCapacity_52 (Nat.le_of_ble_eq_true rfl) [(6, .int z6), (5, .int 0), (4, .int t3), (0, .ref (w.2.2 5 30 0 0)), (1, .int a1), (2, .int a2), (3, .int a3)] rfl ?_
      refine x_sub (L1 := [(0, .ref (w.2.2 5 30 0 0)), (3, .int a3), (4, .int t3), (5, .int 0), (6, .int z6)]) [3, 6, 2, 1, 0] rfl ?_
      exact TX6_burstCapacity_54 hw _ _ _ _ h
    · have h := x_t hc h
      refine x_bipush (x := (-2)) dX6_burstCapacity_21 (by decide) ?_
      exact x_iretH rfl dX6_burstCapacity_23 h
  · have h := x_t hc h
    refine x_iconst (x := (-1)) dX6_burstCapacity_9 (by decide) ?_
    exact x_iretH rfl dX6_burstCapacity_10 h
set_option maxRecDepth 100000 in
set_option maxHeartbeats 4000000 in
theorem TX6_drainTicks_16 {l : Launch} {w : xW} (hw : w.1.2 = true) {a1 : Int32} {τ : xS} {r : Int32} : ∀ (n : Nat) (a2 : Int32) (σ : xS), BX6_drainTicks_16 a1 n a2 σ = some (r, τ) → xAt l w mX6_drainTicks 16 [(0, .ref (w.2.2 5 30 0 0)), (1, .int a1), (2, .int a2)] [] σ (some (.int r)) τ := by
  intro n
  induction n with
  | zero => intro a2 σ h; cases h
  | succ n ih =>
    intro a2 σ h
    rw [BX6_drainTicks_16] at h
    refine x_aload_n dX6_drainTicks_16 rfl 0 rfl ?_
    refine x_iload_n dX6_drainTicks_17 rfl 1 rfl ?_
    obtain ⟨z3, s3, h3, h⟩ := x_b_e h
    refine x_callV (As := [.int a1]) (st := []) (eX6_hasPackets hw  h3) cv_X6_110 (Nat.le_of_ble_eq_true rfl) (ok_e30 hw) rfl (Nat.le_of_ble_eq_true rfl) _ rfl dX6_drainTicks_18 [.int z3] rfl ?_
    refine x_if_eq (tgt := 66) dX6_drainTicks_21 rfl (fun hc => ?_) (fun hc => ?_)
    · have h := x_t hc h
      refine x_aload_n dX6_drainTicks_66 rfl 0 rfl ?_
      obtain ⟨z4, s4, h4, h⟩ := x_b_e h
      refine x_callV (As := []) (st := []) (eX6_brings hw  h4) cv_X6_89 (Nat.le_of_ble_eq_true rfl) (ok_e30 hw) rfl (Nat.le_of_ble_eq_true rfl) _ rfl dX6_drainTicks_67 [] rfl ?_
      refine x_iload_n dX6_drainTicks_70 rfl 2 rfl ?_
      refine x_if_ge (tgt := 79) dX6_drainTicks_71 rfl (fun hc => ?_) (fun hc => ?_)
      · have h := x_t hc h
        refine x_iload_n dX6_drainTicks_79 rfl 2 rfl ?_
        exact x_iretH rfl dX6_drainTicks_80 h
      · have h := x_f hc h
        refine x_bipush (x := (-5)) dX6_drainTicks_74 (by decide) ?_
        refine x_goto (tgt := 80) dX6_drainTicks_76 rfl ?_
        exact x_iretH rfl dX6_drainTicks_80 h
    · have h := x_f hc h
      refine x_iload_n dX6_drainTicks_24 rfl 2 rfl ?_
      refine x_if_lt (tgt := 66) dX6_drainTicks_25 rfl (fun hc => ?_) (fun hc => ?_)
      · have h := x_t hc h
        refine x_aload_n dX6_drainTicks_66 rfl 0 rfl ?_
        obtain ⟨z5, s5, h5, h⟩ := x_b_e h
        refine x_callV (As := []) (st := []) (eX6_brings hw  h5) cv_X6_89 (Nat.le_of_ble_eq_true rfl) (ok_e30 hw) rfl (Nat.le_of_ble_eq_true rfl) _ rfl dX6_drainTicks_67 [] rfl ?_
        refine x_iload_n dX6_drainTicks_70 rfl 2 rfl ?_
        refine x_if_ge (tgt := 79) dX6_drainTicks_71 rfl (fun hc => ?_) (fun hc => ?_)
        · have h := x_t hc h
          refine x_iload_n dX6_drainTicks_79 rfl 2 rfl ?_
          exact x_iretH rfl dX6_drainTicks_80 h
        · have h := x_f hc h
          refine x_bipush (x := (-5)) dX6_drainTicks_74 (by decide) ?_
          refine x_goto (tgt := 80) dX6_drainTicks_76 rfl ?_
          exact x_iretH rfl dX6_drainTicks_80 h
      · have h := x_f hc h
        refine x_aload_n dX6_drainTicks_28 rfl 0 rfl ?_
        refine x_iload_n dX6_drainTicks_29 rfl 1 rfl ?_
        obtain ⟨z6, s6, h6, h⟩ := x_b_e h
        refine x_callV (As := [.int a1]) (st := []) (eX6_sends hw  h6) cv_X6_163 (Nat.le_of_ble_eq_true rfl) (ok_e30 hw) rfl (Nat.le_of_ble_eq_true rfl) _ rfl dX6_drainTicks_30 [.int z6] rfl ?_
        refine x_pop dX6_drainTicks_33 rfl ?_
        refine x_aload_n dX6_drainTicks_34 rfl 0 rfl ?_
        refine x_iload_n dX6_drainTicks_35 rfl 1 rfl ?_
        obtain ⟨z7, s7, h7, h⟩ := x_b_e h
        refine x_callV (As := [.int a1]) (st := []) (eX6_hasPackets hw  h7) cv_X6_110 (Nat.le_of_ble_eq_true rfl) (ok_e30 hw) rfl (Nat.le_of_ble_eq_true rfl) _ rfl dX6_drainTicks_36 [.int z7] rfl ?_
        refine x_if_eq (tgt := 59) dX6_drainTicks_39 rfl (fun hc => ?_) (fun hc => ?_)
        · have h := x_t hc h
          refine x_iload_n dX6_drainTicks_59 rfl 2 rfl ?_
          refine x_iconst (x := 1) dX6_drainTicks_60 rfl ?_
          refine x_iadd dX6_drainTicks_61 ?_
          obtain ⟨t8, ht8, h⟩ := x_let_e h
          refine x_istore_n t8 ht8 dX6_drainTicks_62 rfl (Nat.le_of_ble_eq_true rfl) [(2, .int t8), (0, .ref (w.2.2 5 30 0 0)), (1, .int a1)] rfl ?_
          refine x_goto (tgt := 16) dX6_drainTicks_63 rfl ?_
          refine x_sub (L1 := [(0, .ref (w.2.2 5 30 0 0)), (1, .int a1), (2, .int t8)]) [1, 2, 0] rfl ?_
          exact ih _ _ h
        · have h := x_f hc h
          refine x_aload_n dX6_drainTicks_42 rfl 0 rfl ?_
          refine x_getR (d1 := 5) (K1 := 31) (p1 := 0) (r1 := 0) fl_X6_7 (ok_e30 hw) rfl dX6_drainTicks_43 ?_
          refine x_iload_n dX6_drainTicks_46 rfl 1 rfl ?_
          refine x_iconst (x := 5) dX6_drainTicks_47 rfl ?_
          obtain ⟨z9, s9, h9, h⟩ := x_b_e h
          refine x_callS (As := [.int a1, .int 5]) (st := [.ref (w.2.2 5 31 0 0)]) (eX6_port hw  h9) cs_X6_44 (Nat.le_of_ble_eq_true rfl) rfl (Nat.le_of_ble_eq_true rfl) _ rfl dX6_drainTicks_48 [.int z9, .ref (w.2.2 5 31 0 0)] rfl ?_
          obtain ⟨hg10, h⟩ := x_g_e h
          refine x_iald 6464 z9.toNatClampNeg rfl rfl rfl rfl (ok_e31 hw) hg10 dX6_drainTicks_51 ?_
          refine x_if_ne (tgt := 59) dX6_drainTicks_52 rfl (fun hc => ?_) (fun hc => ?_)
          · have h := x_f hc h
            refine x_iload_n dX6_drainTicks_59 rfl 2 rfl ?_
            refine x_iconst (x := 1) dX6_drainTicks_60 rfl ?_
            refine x_iadd dX6_drainTicks_61 ?_
            obtain ⟨t11, ht11, h⟩ := x_let_e h
            refine x_istore_n t11 ht11 dX6_drainTicks_62 rfl (Nat.le_of_ble_eq_true rfl) [(2, .int t11), (0, .ref (w.2.2 5 30 0 0)), (1, .int a1)] rfl ?_
            refine x_goto (tgt := 16) dX6_drainTicks_63 rfl ?_
            refine x_sub (L1 := [(0, .ref (w.2.2 5 30 0 0)), (1, .int a1), (2, .int t11)]) [1, 2, 0] rfl ?_
            exact ih _ _ h
          · have h := x_t hc h
            refine x_iconst (x := (-1)) dX6_drainTicks_55 (by decide) ?_
            refine x_goto (tgt := 62) dX6_drainTicks_56 rfl ?_
            refine x_istore_n (-1) rfl dX6_drainTicks_62 rfl (Nat.le_of_ble_eq_true rfl) [(2, .int (-1)), (0, .ref (w.2.2 5 30 0 0)), (1, .int a1)] rfl ?_
            refine x_goto (tgt := 16) dX6_drainTicks_63 rfl ?_
            refine x_sub (L1 := [(0, .ref (w.2.2 5 30 0 0)), (1, .int a1), (2, .int (-1))]) [1, 2, 0] rfl ?_
            exact ih _ _ h
set_option maxRecDepth 100000 in
set_option maxHeartbeats 4000000 in
theorem eX6_drainTicks {l : Launch} {w : xW} (hw : w.1.2 = true) {a1 : Int32} {σ τ : xS} {r : Int32} (h : fX6_drainTicks a1 σ = some (r, τ)) : xEV l w yX6_drainTicks mX6_drainTicks [.ref (w.2.2 5 30 0 0), .int a1] σ (some (.int r)) τ := by
  rw [fX6_drainTicks] at h
  refine x_enter (by decide +kernel) rfl (Nat.le_of_ble_eq_true rfl) ?_
  refine x_sub (L1 := [(0, .ref (w.2.2 5 30 0 0)), (1, .int a1)]) [0, 1] rfl ?_
  refine x_aload_n dX6_drainTicks_0 rfl 0 rfl ?_
  refine x_iload_n dX6_drainTicks_1 rfl 1 rfl ?_
  obtain ⟨z1, s1, h1, h⟩ := x_b_e h
  refine x_callV (As := [.int a1]) (st := []) (eX6_isPort hw  h1) cv_X6_40 (Nat.le_of_ble_eq_true rfl) (ok_e30 hw) rfl (Nat.le_of_ble_eq_true rfl) _ rfl dX6_drainTicks_2 [.int z1] rfl ?_
  refine x_if_ne (tgt := 10) dX6_drainTicks_5 rfl (fun hc => ?_) (fun hc => ?_)
  · have h := x_f hc h
    refine x_aload_n dX6_drainTicks_10 rfl 0 rfl ?_
    obtain ⟨z2, s2, h2, h⟩ := x_b_e h
    refine x_callV (As := []) (st := []) (eX6_keeps hw  h2) cv_X6_83 (Nat.le_of_ble_eq_true rfl) (ok_e30 hw) rfl (Nat.le_of_ble_eq_true rfl) _ rfl dX6_drainTicks_11 [] rfl ?_
    refine x_iconst (x := 0) dX6_drainTicks_14 rfl ?_
    refine x_istore_n 0 rfl dX6_drainTicks_15 rfl (Nat.le_of_ble_eq_true rfl) [(2, .int 0), (0, .ref (w.2.2 5 30 0 0)), (1, .int a1)] rfl ?_
    refine x_sub (L1 := [(0, .ref (w.2.2 5 30 0 0)), (1, .int a1), (2, .int 0)]) [1, 2, 0] rfl ?_
    exact TX6_drainTicks_16 hw _ _ _ h
  · have h := x_t hc h
    refine x_iconst (x := (-1)) dX6_drainTicks_8 (by decide) ?_
    exact x_iretH rfl dX6_drainTicks_9 h
set_option maxRecDepth 100000 in
set_option maxHeartbeats 4000000 in
theorem TX6_equilibrium_90 {l : Launch} {w : xW} (hw : w.1.2 = true) {a2 : Int32} {a3 : Int32} {a4 : Int32} {τ : xS} {r : Int32} : ∀ (n : Nat) (a5 : Int32) (a6 : Int32) (σ : xS), BX6_equilibrium_90 a2 a3 a4 n a5 a6 σ = some (r, τ) → xAt l w mX6_equilibrium 90 [(2, .int a2), (3, .int a3), (4, .int a4), (5, .int a5), (6, .int a6)] [] σ (some (.int r)) τ := by
  intro n
  induction n with
  | zero => intro a5 a6 σ h; cases h
  | succ n ih =>
    intro a5 a6 σ h
    rw [BX6_equilibrium_90] at h
    refine x_iload dX6_equilibrium_90 4 rfl ?_
    refine x_if_eq (tgt := 113) dX6_equilibrium_92 rfl (fun hc => ?_) (fun hc => ?_)
    · have h := x_t hc h
      refine x_iload_n dX6_equilibrium_113 rfl 0 rfl ?_
      refine x_if_eq (tgt := 124) dX6_equilibrium_114 rfl (fun hc => ?_) (fun hc => ?_)
      · have h := x_t hc h
        refine x_iload dX6_equilibrium_124 2 rfl ?_
        refine x_iload dX6_equilibrium_126 3 rfl ?_
        obtain ⟨hg3, h⟩ := x_nz_e h
        refine x_idiv dX6_equilibrium_128 hg3 ?_
        exact x_iretH rfl dX6_equilibrium_129 h
      · have h := x_f hc h
        refine x_iload_n dX6_equilibrium_117 rfl 1 rfl ?_
        refine x_iload dX6_equilibrium_118 3 rfl ?_
        obtain ⟨hg4, h⟩ := x_nz_e h
        refine x_idiv dX6_equilibrium_120 hg4 ?_
        refine x_goto (tgt := 129) dX6_equilibrium_121 rfl ?_
        exact x_iretH rfl dX6_equilibrium_129 h
    · have h := x_f hc h
      refine x_iload dX6_equilibrium_95 3 rfl ?_
      refine x_iload dX6_equilibrium_97 4 rfl ?_
      obtain ⟨hg5, h⟩ := x_nz_e h
      refine x_irem dX6_equilibrium_99 hg5 ?_
      obtain ⟨t6, ht6, h⟩ := x_let_e h
      refine x_istore t6 ht6 dX6_equilibrium_100 (Nat.le_of_ble_eq_true rfl) [(7, .int t6), (2, .int a2), (3, .int a3), (4, .int a4), (5, .int a5), (6, .int a6)] rfl ?_
      refine x_iload dX6_equilibrium_102 5 rfl ?_
      refine x_istore a6 rfl dX6_equilibrium_104 (Nat.le_of_ble_eq_true rfl) [(5, .int a6), (7, .int t6), (2, .int a2), (3, .int a3), (4, .int a4), (6, .int a6)] rfl ?_
      refine x_iload dX6_equilibrium_106 1 rfl ?_
      refine x_istore t6 rfl dX6_equilibrium_108 (Nat.le_of_ble_eq_true rfl) [(6, .int t6), (5, .int a6), (7, .int t6), (2, .int a2), (3, .int a3), (4, .int a4)] rfl ?_
      refine x_goto (tgt := 90) dX6_equilibrium_110 rfl ?_
      refine x_sub (L1 := [(2, .int a2), (3, .int a3), (4, .int a4), (5, .int a6), (6, .int t6)]) [3, 4, 5, 1, 0] rfl ?_
      exact ih _ _ _ h
set_option maxRecDepth 100000 in
set_option maxHeartbeats 4000000 in
theorem TX6_equilibrium_27 {l : Launch} {w : xW} (hw : w.1.2 = true) {a1 : Int32} {a2 : Int32} {τ : xS} {r : Int32} : ∀ (n : Nat) (a3 : Int32) (a4 : Int32) (σ : xS), BX6_equilibrium_27 a1 a2 n a3 a4 σ = some (r, τ) → xAt l w mX6_equilibrium 27 [(0, .ref (w.2.2 5 30 0 0)), (1, .int a1), (2, .int a2), (3, .int a3), (4, .int a4)] [] σ (some (.int r)) τ := by
  intro n
  induction n with
  | zero => intro a3 a4 σ h; cases h
  | succ n ih =>
    intro a3 a4 σ h
    rw [BX6_equilibrium_27] at h
    refine x_iload dX6_equilibrium_27 4 rfl ?_
    refine x_iconst (x := 3) dX6_equilibrium_29 rfl ?_
    refine x_aload_n dX6_equilibrium_30 rfl 0 rfl ?_
    refine x_getR (d1 := 5) (K1 := 31) (p1 := 0) (r1 := 0) fl_X6_7 (ok_e30 hw) rfl dX6_equilibrium_31 ?_
    refine x_iconst (x := 1) dX6_equilibrium_34 rfl ?_
    refine x_iald 6464 1 rfl rfl rfl rfl (ok_e31 hw) rfl dX6_equilibrium_35 ?_
    refine x_imul dX6_equilibrium_36 ?_
    refine x_icmp_ge (tgt := 74) dX6_equilibrium_37 rfl (fun hc => ?_) (fun hc => ?_)
    · have h := x_t hc h
      refine x_bipush (x := 8) dX6_equilibrium_74 rfl ?_
      refine x_aload_n dX6_equilibrium_76 rfl 0 rfl ?_
      obtain ⟨z1, s1, h1, h⟩ := x_b_e h
      refine x_callV (As := []) (st := [.int 8]) (eX6_pool hw  h1) cv_X6_55 (Nat.le_of_ble_eq_true rfl) (ok_e30 hw) rfl (Nat.le_of_ble_eq_true rfl) _ rfl dX6_equilibrium_77 [.int z1, .int 8] rfl ?_
      refine x_imul dX6_equilibrium_80 ?_
      obtain ⟨t2, ht2, h⟩ := x_let_e h
      refine x_istore t2 ht2 dX6_equilibrium_81 (Nat.le_of_ble_eq_true rfl) [(4, .int t2), (0, .ref (w.2.2 5 30 0 0)), (1, .int a1), (2, .int a2), (3, .int a3)] rfl ?_
      refine x_iload dX6_equilibrium_83 0 rfl ?_
      refine x_istore t2 rfl dX6_equilibrium_85 (Nat.le_of_ble_eq_true rfl) [(5, .int t2), (4, .int t2), (0, .ref (w.2.2 5 30 0 0)), (1, .int a1), (2, .int a2), (3, .int a3)] rfl ?_
      refine x_iload_n dX6_equilibrium_87 rfl 5 rfl ?_
      refine x_istore a3 rfl dX6_equilibrium_88 (Nat.le_of_ble_eq_true rfl) [(6, .int a3), (5, .int t2), (4, .int t2), (0, .ref (w.2.2 5 30 0 0)), (1, .int a1), (2, .int a2), (3, .int a3)] rfl ?_
      refine x_sub (L1 := [(2, .int a2), (3, .int a3), (4, .int t2), (5, .int t2), (6, .int a3)]) [5, 6, 2, 1, 0] rfl ?_
      exact TX6_equilibrium_90 hw _ _ _ _ h
    · have h := x_f hc h
      refine x_iload_n dX6_equilibrium_40 rfl 3 rfl ?_
      refine x_iload_n dX6_equilibrium_41 rfl 1 rfl ?_
      refine x_iload dX6_equilibrium_42 4 rfl ?_
      refine x_ishr dX6_equilibrium_44 ?_
      refine x_iconst (x := 1) dX6_equilibrium_45 rfl ?_
      refine x_iand dX6_equilibrium_46 ?_
      refine x_iconst (x := 1) dX6_equilibrium_47 rfl ?_
      refine x_icmp_ne (tgt := 65) dX6_equilibrium_48 rfl (fun hc => ?_) (fun hc => ?_)
      · have h := x_f hc h
        refine x_iconst (x := 0) dX6_equilibrium_65 rfl ?_
        refine x_iadd dX6_equilibrium_66 ?_
        obtain ⟨t7, ht7, h⟩ := x_let_e h
        refine x_istore_n t7 ht7 dX6_equilibrium_67 rfl (Nat.le_of_ble_eq_true rfl) [(3, .int t7), (0, .ref (w.2.2 5 30 0 0)), (1, .int a1), (2, .int a2), (4, .int a4)] rfl ?_
        obtain ⟨t8, ht8, h⟩ := x_let_e h
        refine x_iinc t8 1 rfl ht8 dX6_equilibrium_68 4 rfl (Nat.le_of_ble_eq_true rfl) [(4, .int t8), (3, .int t7), (0, .ref (w.2.2 5 30 0 0)), (1, .int a1), (2, .int a2)] rfl ?_
        refine x_goto (tgt := 27) dX6_equilibrium_71 rfl ?_
        refine x_sub (L1 := [(0, .ref (w.2.2 5 30 0 0)), (1, .int a1), (2, .int a2), (3, .int t7), (4, .int t8)]) [2, 3, 4, 1, 0] rfl ?_
        exact ih _ _ _ h
      · have h := x_t hc h
        refine x_aload_n dX6_equilibrium_51 rfl 0 rfl ?_
        refine x_getR (d1 := 5) (K1 := 31) (p1 := 0) (r1 := 0) fl_X6_7 (ok_e30 hw) rfl dX6_equilibrium_52 ?_
        refine x_iload dX6_equilibrium_55 4 rfl ?_
        refine x_iconst (x := 0) dX6_equilibrium_57 rfl ?_
        obtain ⟨z9, s9, h9, h⟩ := x_b_e h
        refine x_callS (As := [.int a4, .int 0]) (st := [.ref (w.2.2 5 31 0 0), .int a3]) (eX6_queue hw  h9) cs_X6_48 (Nat.le_of_ble_eq_true rfl) rfl (Nat.le_of_ble_eq_true rfl) _ rfl dX6_equilibrium_58 [.int z9, .ref (w.2.2 5 31 0 0), .int a3] rfl ?_
        obtain ⟨hg10, h⟩ := x_g_e h
        refine x_iald 6464 z9.toNatClampNeg rfl rfl rfl rfl (ok_e31 hw) hg10 dX6_equilibrium_61 ?_
        refine x_goto (tgt := 66) dX6_equilibrium_62 rfl ?_
        refine x_iadd dX6_equilibrium_66 ?_
        obtain ⟨t11, ht11, h⟩ := x_let_e h
        refine x_istore_n t11 ht11 dX6_equilibrium_67 rfl (Nat.le_of_ble_eq_true rfl) [(3, .int t11), (0, .ref (w.2.2 5 30 0 0)), (1, .int a1), (2, .int a2), (4, .int a4)] rfl ?_
        obtain ⟨t12, ht12, h⟩ := x_let_e h
        refine x_iinc t12 1 rfl ht12 dX6_equilibrium_68 4 rfl (Nat.le_of_ble_eq_true rfl) [(4, .int t12), (3, .int t11), (0, .ref (w.2.2 5 30 0 0)), (1, .int a1), (2, .int a2)] rfl ?_
        refine x_goto (tgt := 27) dX6_equilibrium_71 rfl ?_
        refine x_sub (L1 := [(0, .ref (w.2.2 5 30 0 0)), (1, .int a1), (2, .int a2), (3, .int t11), (4, .int t12)]) [2, 3, 4, 1, 0] rfl ?_
        exact ih _ _ _ h
set_option maxRecDepth 100000 in
set_option maxHeartbeats 4000000 in
theorem eX6_equilibrium {l : Launch} {w : xW} (hw : w.1.2 = true) {a1 : Int32} {a2 : Int32} {σ τ : xS} {r : Int32} (h : fX6_equilibrium a1 a2 σ = some (r, τ)) : xEV l w yX6_equilibrium mX6_equilibrium [.ref (w.2.2 5 30 0 0), .int a1, .int a2] σ (some (.int r)) τ := by
  rw [fX6_equilibrium] at h
  refine x_enter (by decide +kernel) rfl (Nat.le_of_ble_eq_true rfl) ?_
  refine x_sub (L1 := [(0, .ref (w.2.2 5 30 0 0)), (1, .int a1), (2, .int a2)]) [0, 1, 2] rfl ?_
  refine x_iload_n dX6_equilibrium_0 rfl 1 rfl ?_
  refine x_if_lt (tgt := 18) dX6_equilibrium_1 rfl (fun hc => ?_) (fun hc => ?_)
  · have h := x_t hc h
    refine x_bipush (x := (-2)) dX6_equilibrium_18 (by decide) ?_
    exact x_iretH rfl dX6_equilibrium_20 h
  · have h := x_f hc h
    refine x_iload_n dX6_equilibrium_4 rfl 1 rfl ?_
    refine x_iconst (x := 1) dX6_equilibrium_5 rfl ?_
    refine x_iconst (x := 3) dX6_equilibrium_6 rfl ?_
    refine x_aload_n dX6_equilibrium_7 rfl 0 rfl ?_
    refine x_getR (d1 := 5) (K1 := 31) (p1 := 0) (r1 := 0) fl_X6_7 (ok_e30 hw) rfl dX6_equilibrium_8 ?_
    refine x_iconst (x := 1) dX6_equilibrium_11 rfl ?_
    refine x_iald 6464 1 rfl rfl rfl rfl (ok_e31 hw) rfl dX6_equilibrium_12 ?_
    refine x_imul dX6_equilibrium_13 ?_
    refine x_ishl dX6_equilibrium_14 ?_
    refine x_icmp_lt (tgt := 21) dX6_equilibrium_15 rfl (fun hc => ?_) (fun hc => ?_)
    · have h := x_t hc h
      refine x_bipush (x := 8) dX6_equilibrium_21 rfl ?_
      refine x_istore_n 8 rfl dX6_equilibrium_23 rfl (Nat.le_of_ble_eq_true rfl) [(3, .int 8), (0, .ref (w.2.2 5 30 0 0)), (1, .int a1), (2, .int a2)] rfl ?_
      refine x_iconst (x := 0) dX6_equilibrium_24 rfl ?_
      refine x_istore 0 rfl dX6_equilibrium_25 (Nat.le_of_ble_eq_true rfl) [(4, .int 0), (3, .int 8), (0, .ref (w.2.2 5 30 0 0)), (1, .int a1), (2, .int a2)] rfl ?_
      refine x_sub (L1 := [(0, .ref (w.2.2 5 30 0 0)), (1, .int a1), (2, .int a2), (3, .int 8), (4, .int 0)]) [2, 3, 4, 1, 0] rfl ?_
      exact TX6_equilibrium_27 hw _ _ _ _ h
    · have h := x_f hc h
      refine x_bipush (x := (-2)) dX6_equilibrium_18 (by decide) ?_
      exact x_iretH rfl dX6_equilibrium_20 h
set_option maxRecDepth 100000 in
set_option maxHeartbeats 4000000 in
theorem eX6_append {l : Launch} {w : xW} (hw : w.1.2 = true) {a1 : Int32} {σ τ : xS} {r : Int32} (h : fX6_append a1 σ = some (r, τ)) : xEV l w yX6_append mX6_append [.ref (w.2.2 5 30 0 0), .int a1] σ (some (.int r)) τ := by
  rw [fX6_append] at h
  refine x_enter (by decide +kernel) rfl (Nat.le_of_ble_eq_true rfl) ?_
  refine x_sub (L1 := [(0, .ref (w.2.2 5 30 0 0)), (1, .int a1)]) [0, 1] rfl ?_
  refine x_iload_n dX6_append_0 rfl 1 rfl ?_
  refine x_iconst (x := 0) dX6_append_1 rfl ?_
  refine x_bipush (x := 127) dX6_append_2 rfl ?_
  obtain ⟨z1, s1, h1, h⟩ := x_b_e h
  refine x_callS (As := [.int a1, .int 0, .int 127]) (st := []) (eX6_in hw  h1) cs_X6_36 (Nat.le_of_ble_eq_true rfl) rfl (Nat.le_of_ble_eq_true rfl) _ rfl dX6_append_4 [.int z1] rfl ?_
  refine x_if_ne (tgt := 13) dX6_append_7 rfl (fun hc => ?_) (fun hc => ?_)
  · have h := x_f hc h
    refine x_aload_n dX6_append_13 rfl 0 rfl ?_
    refine x_getI fl_X6_199 (ok_e30 hw) rfl dX6_append_14 ?_
    refine x_bipush (x := 120) dX6_append_17 rfl ?_
    refine x_icmp_ne (tgt := 25) dX6_append_19 rfl (fun hc => ?_) (fun hc => ?_)
    · have h := x_f hc h
      refine x_aload_n dX6_append_25 rfl 0 rfl ?_
      refine x_getR (d1 := 5) (K1 := 35) (p1 := 0) (r1 := 0) fl_X6_23 (ok_e30 hw) rfl dX6_append_26 ?_
      refine x_aload_n dX6_append_29 rfl 0 rfl ?_
      refine x_getI fl_X6_199 (ok_e30 hw) rfl dX6_append_30 ?_
      refine x_iload_n dX6_append_33 rfl 1 rfl ?_
      obtain ⟨t2, ht2, h⟩ := x_let_e h
      refine x_nm2 t2 ht2 ?_
      obtain ⟨hg3, h⟩ := x_g_e h
      obtain ⟨s4, hs4, h⟩ := x_let_e h
      refine x_iast 120 t2.toNatClampNeg rfl s4 hs4 rfl rfl rfl (ok_e35 hw) hg3 dX6_append_34 ?_
      refine x_aload_n dX6_append_35 rfl 0 rfl ?_
      refine x_dup dX6_append_36 rfl ?_
      refine x_getI fl_X6_199 (ok_e30 hw) rfl dX6_append_37 ?_
      refine x_iconst (x := 1) dX6_append_40 rfl ?_
      refine x_iadd dX6_append_41 ?_
      obtain ⟨s5, hs5, h⟩ := x_let_e h
      refine x_putI s5 hs5 fp_X6_199 (ok_e30 hw) rfl dX6_append_42 ?_
      refine x_aload_n dX6_append_45 rfl 0 rfl ?_
      refine x_getI fl_X6_199 (ok_e30 hw) rfl dX6_append_46 ?_
      exact x_iretH rfl dX6_append_49 h
    · have h := x_t hc h
      refine x_bipush (x := (-3)) dX6_append_22 (by decide) ?_
      exact x_iretH rfl dX6_append_24 h
  · have h := x_t hc h
    refine x_bipush (x := (-2)) dX6_append_10 (by decide) ?_
    exact x_iretH rfl dX6_append_12 h
set_option maxRecDepth 100000 in
set_option maxHeartbeats 4000000 in
theorem eX6_clearText {l : Launch} {w : xW} (hw : w.1.2 = true) {σ τ : xS} {r : Int32} (h : fX6_clearText σ = some (r, τ)) : xEV l w yX6_clearText mX6_clearText [.ref (w.2.2 5 30 0 0)] σ (some (.int r)) τ := by
  rw [fX6_clearText] at h
  refine x_enter (by decide +kernel) rfl (Nat.le_of_ble_eq_true rfl) ?_
  refine x_sub (L1 := [(0, .ref (w.2.2 5 30 0 0))]) [0] rfl ?_
  refine x_aload_n dX6_clearText_0 rfl 0 rfl ?_
  refine x_getI fl_X6_199 (ok_e30 hw) rfl dX6_clearText_1 ?_
  obtain ⟨t1, ht1, h⟩ := x_let_e h
  refine x_istore_n t1 ht1 dX6_clearText_4 rfl (Nat.le_of_ble_eq_true rfl) [(1, .int t1), (0, .ref (w.2.2 5 30 0 0))] rfl ?_
  refine x_aload_n dX6_clearText_5 rfl 1 rfl ?_
  refine x_iconst (x := 0) dX6_clearText_6 rfl ?_
  obtain ⟨s2, hs2, h⟩ := x_let_e h
  refine x_putI s2 hs2 fp_X6_199 (ok_e30 hw) rfl dX6_clearText_7 ?_
  refine x_iload_n dX6_clearText_10 rfl 0 rfl ?_
  exact x_iretH rfl dX6_clearText_11 h
set_option maxRecDepth 100000 in
set_option maxHeartbeats 4000000 in
theorem eX6_here {l : Launch} {w : xW} (hw : w.1.2 = true) {σ τ : xS} {r : Int32} (h : fX6_here σ = some (r, τ)) : xEV l w yX6_here mX6_here [.ref (w.2.2 5 30 0 0)] σ (some (.int r)) τ := by
  rw [fX6_here] at h
  refine x_enter (by decide +kernel) rfl (Nat.le_of_ble_eq_true rfl) ?_
  refine x_sub (L1 := [(0, .ref (w.2.2 5 30 0 0))]) [0] rfl ?_
  refine x_aload_n dX6_here_0 rfl 0 rfl ?_
  refine x_getI fl_X6_202 (ok_e30 hw) rfl dX6_here_1 ?_
  refine x_aload_n dX6_here_4 rfl 0 rfl ?_
  refine x_getI fl_X6_199 (ok_e30 hw) rfl dX6_here_5 ?_
  refine x_icmp_ge (tgt := 23) dX6_here_8 rfl (fun hc => ?_) (fun hc => ?_)
  · have h := x_t hc h
    refine x_iconst (x := (-1)) dX6_here_23 (by decide) ?_
    exact x_iretH rfl dX6_here_24 h
  · have h := x_f hc h
    refine x_aload_n dX6_here_11 rfl 0 rfl ?_
    refine x_getR (d1 := 5) (K1 := 35) (p1 := 0) (r1 := 0) fl_X6_23 (ok_e30 hw) rfl dX6_here_12 ?_
    refine x_aload_n dX6_here_15 rfl 0 rfl ?_
    refine x_getI fl_X6_202 (ok_e30 hw) rfl dX6_here_16 ?_
    obtain ⟨t1, ht1, h⟩ := x_let_e h
    refine x_nm t1 ht1 ?_
    obtain ⟨hg2, h⟩ := x_g_e h
    refine x_iald 120 t1.toNatClampNeg rfl rfl rfl rfl (ok_e35 hw) hg2 dX6_here_19 ?_
    refine x_goto (tgt := 24) dX6_here_20 rfl ?_
    exact x_iretH rfl dX6_here_24 h
set_option maxRecDepth 100000 in
set_option maxHeartbeats 4000000 in
theorem eX6_isDigit {l : Launch} {w : xW} (hw : w.1.2 = true) {σ τ : xS} {r : Int32} (h : fX6_isDigit σ = some (r, τ)) : xEV l w yX6_isDigit mX6_isDigit [.ref (w.2.2 5 30 0 0)] σ (some (.int r)) τ := by
  rw [fX6_isDigit] at h
  refine x_enter (by decide +kernel) rfl (Nat.le_of_ble_eq_true rfl) ?_
  refine x_sub (L1 := [(0, .ref (w.2.2 5 30 0 0))]) [0] rfl ?_
  refine x_aload_n dX6_isDigit_0 rfl 0 rfl ?_
  obtain ⟨z1, s1, h1, h⟩ := x_b_e h
  refine x_callV (As := []) (st := []) (eX6_here hw  h1) cv_X6_205 (Nat.le_of_ble_eq_true rfl) (ok_e30 hw) rfl (Nat.le_of_ble_eq_true rfl) _ rfl dX6_isDigit_1 [.int z1] rfl ?_
  refine x_bipush (x := 48) dX6_isDigit_4 rfl ?_
  refine x_bipush (x := 57) dX6_isDigit_6 rfl ?_
  obtain ⟨z2, s2, h2, h⟩ := x_b_e h
  refine x_callS (As := [.int z1, .int 48, .int 57]) (st := []) (eX6_in hw  h2) cs_X6_36 (Nat.le_of_ble_eq_true rfl) rfl (Nat.le_of_ble_eq_true rfl) _ rfl dX6_isDigit_8 [.int z2] rfl ?_
  obtain ⟨hg3, h⟩ := x_g_e h
  exact x_zretH rfl hg3 dX6_isDigit_11 h
set_option maxRecDepth 100000 in
set_option maxHeartbeats 4000000 in
theorem eX6_faults {l : Launch} {w : xW} (hw : w.1.2 = true) {a1 : Int32} {σ τ : xS} {r : Unit} (h : fX6_faults a1 σ = some (r, τ)) : xEV l w yX6_faults mX6_faults [.ref (w.2.2 5 30 0 0), .int a1] σ none τ := by
  rw [fX6_faults] at h
  refine x_enter (by decide +kernel) rfl (Nat.le_of_ble_eq_true rfl) ?_
  refine x_sub (L1 := [(0, .ref (w.2.2 5 30 0 0)), (1, .int a1)]) [0, 1] rfl ?_
  refine x_aload_n dX6_faults_0 rfl 0 rfl ?_
  refine x_aload_n dX6_faults_1 rfl 0 rfl ?_
  refine x_getI fl_X6_208 (ok_e30 hw) rfl dX6_faults_2 ?_
  refine x_if_ge (tgt := 12) dX6_faults_5 rfl (fun hc => ?_) (fun hc => ?_)
  · have h := x_t hc h
    refine x_aload_n dX6_faults_12 rfl 0 rfl ?_
    refine x_getI fl_X6_208 (ok_e30 hw) rfl dX6_faults_13 ?_
    obtain ⟨s1, hs1, h⟩ := x_let_e h
    refine x_putI s1 hs1 fp_X6_208 (ok_e30 hw) rfl dX6_faults_16 ?_
    exact x_vretH rfl dX6_faults_19 h
  · have h := x_f hc h
    refine x_iload_n dX6_faults_8 rfl 1 rfl ?_
    refine x_goto (tgt := 16) dX6_faults_9 rfl ?_
    obtain ⟨s2, hs2, h⟩ := x_let_e h
    refine x_putI s2 hs2 fp_X6_208 (ok_e30 hw) rfl dX6_faults_16 ?_
    exact x_vretH rfl dX6_faults_19 h
set_option maxRecDepth 100000 in
set_option maxHeartbeats 4000000 in
theorem eX6_digit {l : Launch} {w : xW} (hw : w.1.2 = true) {a1 : Int32} {σ τ : xS} {r : Int32} (h : fX6_digit a1 σ = some (r, τ)) : xEV l w yX6_digit mX6_digit [.ref (w.2.2 5 30 0 0), .int a1] σ (some (.int r)) τ := by
  rw [fX6_digit] at h
  refine x_enter (by decide +kernel) rfl (Nat.le_of_ble_eq_true rfl) ?_
  refine x_sub (L1 := [(0, .ref (w.2.2 5 30 0 0)), (1, .int a1)]) [0, 1] rfl ?_
  refine x_aload_n dX6_digit_0 rfl 0 rfl ?_
  obtain ⟨z1, s1, h1, h⟩ := x_b_e h
  refine x_callV (As := []) (st := []) (eX6_here hw  h1) cv_X6_205 (Nat.le_of_ble_eq_true rfl) (ok_e30 hw) rfl (Nat.le_of_ble_eq_true rfl) _ rfl dX6_digit_1 [.int z1] rfl ?_
  refine x_bipush (x := 48) dX6_digit_4 rfl ?_
  refine x_isub dX6_digit_6 ?_
  obtain ⟨t2, ht2, h⟩ := x_let_e h
  refine x_istore_n t2 ht2 dX6_digit_7 rfl (Nat.le_of_ble_eq_true rfl) [(2, .int t2), (0, .ref (w.2.2 5 30 0 0)), (1, .int a1)] rfl ?_
  refine x_aload_n dX6_digit_8 rfl 1 rfl ?_
  obtain ⟨z3, s3, h3, h⟩ := x_b_e h
  refine x_callV (As := []) (st := []) (eX6_isDigit hw  h3) cv_X6_211 (Nat.le_of_ble_eq_true rfl) (ok_e30 hw) rfl (Nat.le_of_ble_eq_true rfl) _ rfl dX6_digit_9 [.int z3] rfl ?_
  refine x_if_eq (tgt := 20) dX6_digit_12 rfl (fun hc => ?_) (fun hc => ?_)
  · have h := x_t hc h
    refine x_aload_n dX6_digit_20 rfl 1 rfl ?_
    refine x_aload_n dX6_digit_21 rfl 1 rfl ?_
    refine x_getI fl_X6_202 (ok_e30 hw) rfl dX6_digit_22 ?_
    obtain ⟨z4, s4, h4, h⟩ := x_b_e h
    refine x_callV (As := [.int (s3 5 30 0 0 9)]) (st := []) (eX6_faults hw  h4) cv_X6_215 (Nat.le_of_ble_eq_true rfl) (ok_e30 hw) rfl (Nat.le_of_ble_eq_true rfl) _ rfl dX6_digit_25 [] rfl ?_
    refine x_iconst (x := 0) dX6_digit_28 rfl ?_
    exact x_iretH rfl dX6_digit_29 h
  · have h := x_f hc h
    refine x_iload_n dX6_digit_15 rfl 0 rfl ?_
    refine x_iload_n dX6_digit_16 rfl 2 rfl ?_
    refine x_icmp_le (tgt := 30) dX6_digit_17 rfl (fun hc => ?_) (fun hc => ?_)
    · have h := x_t hc h
      refine x_aload_n dX6_digit_30 rfl 1 rfl ?_
      refine x_dup dX6_digit_31 rfl ?_
      refine x_getI fl_X6_202 (ok_e30 hw) rfl dX6_digit_32 ?_
      refine x_iconst (x := 1) dX6_digit_35 rfl ?_
      refine x_iadd dX6_digit_36 ?_
      obtain ⟨s5, hs5, h⟩ := x_let_e h
      refine x_putI s5 hs5 fp_X6_202 (ok_e30 hw) rfl dX6_digit_37 ?_
      refine x_iload_n dX6_digit_40 rfl 0 rfl ?_
      exact x_iretH rfl dX6_digit_41 h
    · have h := x_f hc h
      refine x_aload_n dX6_digit_20 rfl 1 rfl ?_
      refine x_aload_n dX6_digit_21 rfl 1 rfl ?_
      refine x_getI fl_X6_202 (ok_e30 hw) rfl dX6_digit_22 ?_
      obtain ⟨z6, s6, h6, h⟩ := x_b_e h
      refine x_callV (As := [.int (s3 5 30 0 0 9)]) (st := []) (eX6_faults hw  h6) cv_X6_215 (Nat.le_of_ble_eq_true rfl) (ok_e30 hw) rfl (Nat.le_of_ble_eq_true rfl) _ rfl dX6_digit_25 [] rfl ?_
      refine x_iconst (x := 0) dX6_digit_28 rfl ?_
      exact x_iretH rfl dX6_digit_29 h
set_option maxRecDepth 100000 in
set_option maxHeartbeats 4000000 in
theorem TX6_number_8 {l : Launch} {w : xW} (hw : w.1.2 = true) {a1 : Int32} {a2 : Int32} {a3 : Int32} {τ : xS} {r : Int32} : ∀ (n : Nat) (a4 : Int32) (σ : xS), BX6_number_8 a1 a2 a3 n a4 σ = some (r, τ) → xAt l w mX6_number 8 [(0, .ref (w.2.2 5 30 0 0)), (1, .int a1), (2, .int a2), (3, .int a3), (4, .int a4)] [] σ (some (.int r)) τ := by
  intro n
  induction n with
  | zero => intro a4 σ h; cases h
  | succ n ih =>
    intro a4 σ h
    rw [BX6_number_8] at h
    refine x_aload_n dX6_number_8 rfl 0 rfl ?_
    obtain ⟨z2, s2, h2, h⟩ := x_b_e h
    refine x_callV (As := []) (st := []) (eX6_isDigit hw  h2) cv_X6_211 (Nat.le_of_ble_eq_true rfl) (ok_e30 hw) rfl (Nat.le_of_ble_eq_true rfl) _ rfl dX6_number_9 [.int z2] rfl ?_
    refine x_if_eq (tgt := 49) dX6_number_12 rfl (fun hc => ?_) (fun hc => ?_)
    · have h := x_t hc h
      refine x_aload_n dX6_number_49 rfl 0 rfl ?_
      refine x_getI fl_X6_202 (ok_e30 hw) rfl dX6_number_50 ?_
      refine x_iload_n dX6_number_53 rfl 3 rfl ?_
      refine x_icmp_eq (tgt := 88) dX6_number_54 rfl (fun hc => ?_) (fun hc => ?_)
      · have h := x_t hc h
        refine x_aload_n dX6_number_88 rfl 0 rfl ?_
        refine x_iload_n dX6_number_89 rfl 3 rfl ?_
        obtain ⟨z3, s3, h3, h⟩ := x_b_e h
        refine x_callV (As := [.int a3]) (st := []) (eX6_faults hw  h3) cv_X6_215 (Nat.le_of_ble_eq_true rfl) (ok_e30 hw) rfl (Nat.le_of_ble_eq_true rfl) _ rfl dX6_number_90 [] rfl ?_
        refine x_iload dX6_number_93 4 rfl ?_
        exact x_iretH rfl dX6_number_95 h
      · have h := x_f hc h
        refine x_aload_n dX6_number_57 rfl 0 rfl ?_
        refine x_getR (d1 := 5) (K1 := 35) (p1 := 0) (r1 := 0) fl_X6_23 (ok_e30 hw) rfl dX6_number_58 ?_
        refine x_iload_n dX6_number_61 rfl 3 rfl ?_
        obtain ⟨hg4, h⟩ := x_g_e h
        refine x_iald 120 a3.toNatClampNeg rfl rfl rfl rfl (ok_e35 hw) hg4 dX6_number_62 ?_
        refine x_bipush (x := 48) dX6_number_63 rfl ?_
        refine x_icmp_eq (tgt := 88) dX6_number_65 rfl (fun hc => ?_) (fun hc => ?_)
        · have h := x_t hc h
          refine x_aload_n dX6_number_88 rfl 0 rfl ?_
          refine x_iload_n dX6_number_89 rfl 3 rfl ?_
          obtain ⟨z5, s5, h5, h⟩ := x_b_e h
          refine x_callV (As := [.int a3]) (st := []) (eX6_faults hw  h5) cv_X6_215 (Nat.le_of_ble_eq_true rfl) (ok_e30 hw) rfl (Nat.le_of_ble_eq_true rfl) _ rfl dX6_number_90 [] rfl ?_
          refine x_iload dX6_number_93 4 rfl ?_
          exact x_iretH rfl dX6_number_95 h
        · have h := x_f hc h
          refine x_aload_n dX6_number_68 rfl 0 rfl ?_
          refine x_getI fl_X6_202 (ok_e30 hw) rfl dX6_number_69 ?_
          refine x_iload_n dX6_number_72 rfl 3 rfl ?_
          refine x_isub dX6_number_73 ?_
          refine x_iconst (x := 2) dX6_number_74 rfl ?_
          refine x_icmp_gt (tgt := 88) dX6_number_75 rfl (fun hc => ?_) (fun hc => ?_)
          · have h := x_t hc h
            refine x_aload_n dX6_number_88 rfl 0 rfl ?_
            refine x_iload_n dX6_number_89 rfl 3 rfl ?_
            obtain ⟨z6, s6, h6, h⟩ := x_b_e h
            refine x_callV (As := [.int a3]) (st := []) (eX6_faults hw  h6) cv_X6_215 (Nat.le_of_ble_eq_true rfl) (ok_e30 hw) rfl (Nat.le_of_ble_eq_true rfl) _ rfl dX6_number_90 [] rfl ?_
            refine x_iload dX6_number_93 4 rfl ?_
            exact x_iretH rfl dX6_number_95 h
          · have h := x_f hc h
            refine x_iload dX6_number_78 4 rfl ?_
            refine x_iload_n dX6_number_80 rfl 1 rfl ?_
            refine x_iload_n dX6_number_81 rfl 2 rfl ?_
            obtain ⟨z7, s7, h7, h⟩ := x_b_e h
            refine x_callS (As := [.int a4, .int a1, .int a2]) (st := []) (eX6_in hw  h7) cs_X6_36 (Nat.le_of_ble_eq_true rfl) rfl (Nat.le_of_ble_eq_true rfl) _ rfl dX6_number_82 [.int z7] rfl ?_
            refine x_if_ne (tgt := 93) dX6_number_85 rfl (fun hc => ?_) (fun hc => ?_)
            · have h := x_f hc h
              refine x_iload dX6_number_93 4 rfl ?_
              exact x_iretH rfl dX6_number_95 h
            · have h := x_t hc h
              refine x_aload_n dX6_number_88 rfl 0 rfl ?_
              refine x_iload_n dX6_number_89 rfl 3 rfl ?_
              obtain ⟨z8, s8, h8, h⟩ := x_b_e h
              refine x_callV (As := [.int a3]) (st := []) (eX6_faults hw  h8) cv_X6_215 (Nat.le_of_ble_eq_true rfl) (ok_e30 hw) rfl (Nat.le_of_ble_eq_true rfl) _ rfl dX6_number_90 [] rfl ?_
              refine x_iload dX6_number_93 4 rfl ?_
              exact x_iretH rfl dX6_number_95 h
    · have h := x_f hc h
      refine x_sipush (x := 1000) dX6_number_15 rfl ?_
      refine x_bipush (x := 10) dX6_number_18 rfl ?_
      refine x_iload dX6_number_20 4 rfl ?_
      refine x_imul dX6_number_22 ?_
      refine x_aload_n dX6_number_23 rfl 0 rfl ?_
      obtain ⟨z9, s9, h9, h⟩ := x_b_e h
      refine x_callV (As := []) (st := [.int (10 * a4), .int 1000]) (eX6_here hw  h9) cv_X6_205 (Nat.le_of_ble_eq_true rfl) (ok_e30 hw) rfl (Nat.le_of_ble_eq_true rfl) _ rfl dX6_number_24 [.int z9, .int (10 * a4), .int 1000] rfl ?_
      refine x_iadd dX6_number_27 ?_
      refine x_bipush (x := 48) dX6_number_28 rfl ?_
      refine x_isub dX6_number_30 ?_
      obtain ⟨z10, s10, h10, h⟩ := x_b_e h
      refine x_callS (As := [.int 1000, .int (((10 * a4) + z9) - 48)]) (st := []) (eX6_least hw  h10) cs_X6_68 (Nat.le_of_ble_eq_true rfl) rfl (Nat.le_of_ble_eq_true rfl) _ rfl dX6_number_31 [.int z10] rfl ?_
      refine x_istore z10 rfl dX6_number_34 (Nat.le_of_ble_eq_true rfl) [(4, .int z10), (0, .ref (w.2.2 5 30 0 0)), (1, .int a1), (2, .int a2), (3, .int a3)] rfl ?_
      refine x_aload_n dX6_number_36 rfl 1 rfl ?_
      refine x_dup dX6_number_37 rfl ?_
      refine x_getI fl_X6_202 (ok_e30 hw) rfl dX6_number_38 ?_
      refine x_iconst (x := 1) dX6_number_41 rfl ?_
      refine x_iadd dX6_number_42 ?_
      obtain ⟨s11, hs11, h⟩ := x_let_e h
      refine x_putI s11 hs11 fp_X6_202 (ok_e30 hw) rfl dX6_number_43 ?_
      refine x_goto (tgt := 8) dX6_number_46 rfl ?_
      refine x_sub (L1 := [(0, .ref (w.2.2 5 30 0 0)), (1, .int a1), (2, .int a2), (3, .int a3), (4, .int z10)]) [1, 2, 3, 4, 0] rfl ?_
      exact ih _ _ h
set_option maxRecDepth 100000 in
set_option maxHeartbeats 4000000 in
theorem eX6_number {l : Launch} {w : xW} (hw : w.1.2 = true) {a1 : Int32} {a2 : Int32} {σ τ : xS} {r : Int32} (h : fX6_number a1 a2 σ = some (r, τ)) : xEV l w yX6_number mX6_number [.ref (w.2.2 5 30 0 0), .int a1, .int a2] σ (some (.int r)) τ := by
  rw [fX6_number] at h
  refine x_enter (by decide +kernel) rfl (Nat.le_of_ble_eq_true rfl) ?_
  refine x_sub (L1 := [(0, .ref (w.2.2 5 30 0 0)), (1, .int a1), (2, .int a2)]) [0, 1, 2] rfl ?_
  refine x_aload_n dX6_number_0 rfl 0 rfl ?_
  refine x_getI fl_X6_202 (ok_e30 hw) rfl dX6_number_1 ?_
  obtain ⟨t1, ht1, h⟩ := x_let_e h
  refine x_istore_n t1 ht1 dX6_number_4 rfl (Nat.le_of_ble_eq_true rfl) [(3, .int t1), (0, .ref (w.2.2 5 30 0 0)), (1, .int a1), (2, .int a2)] rfl ?_
  refine x_iconst (x := 0) dX6_number_5 rfl ?_
  refine x_istore 0 rfl dX6_number_6 (Nat.le_of_ble_eq_true rfl) [(4, .int 0), (3, .int t1), (0, .ref (w.2.2 5 30 0 0)), (1, .int a1), (2, .int a2)] rfl ?_
  refine x_sub (L1 := [(0, .ref (w.2.2 5 30 0 0)), (1, .int a1), (2, .int a2), (3, .int t1), (4, .int 0)]) [2, 3, 4, 1, 0] rfl ?_
  exact TX6_number_8 hw _ _ _ h
set_option maxRecDepth 100000 in
set_option maxHeartbeats 4000000 in
theorem eX6_sign {l : Launch} {w : xW} (hw : w.1.2 = true) {a1 : Int32} {σ τ : xS} {r : Unit} (h : fX6_sign a1 σ = some (r, τ)) : xEV l w yX6_sign mX6_sign [.ref (w.2.2 5 30 0 0), .int a1] σ none τ := by
  rw [fX6_sign] at h
  refine x_enter (by decide +kernel) rfl (Nat.le_of_ble_eq_true rfl) ?_
  refine x_sub (L1 := [(0, .ref (w.2.2 5 30 0 0)), (1, .int a1)]) [0, 1] rfl ?_
  refine x_aload_n dX6_sign_0 rfl 0 rfl ?_
  obtain ⟨z1, s1, h1, h⟩ := x_b_e h
  refine x_callV (As := []) (st := []) (eX6_here hw  h1) cv_X6_205 (Nat.le_of_ble_eq_true rfl) (ok_e30 hw) rfl (Nat.le_of_ble_eq_true rfl) _ rfl dX6_sign_1 [.int z1] rfl ?_
  refine x_iload_n dX6_sign_4 rfl 1 rfl ?_
  refine x_icmp_ne (tgt := 21) dX6_sign_5 rfl (fun hc => ?_) (fun hc => ?_)
  · have h := x_f hc h
    refine x_aload_n dX6_sign_21 rfl 0 rfl ?_
    refine x_aload_n dX6_sign_22 rfl 0 rfl ?_
    refine x_getI fl_X6_202 (ok_e30 hw) rfl dX6_sign_23 ?_
    obtain ⟨z2, s2, h2, h⟩ := x_b_e h
    refine x_callV (As := [.int (s1 5 30 0 0 9)]) (st := []) (eX6_faults hw  h2) cv_X6_215 (Nat.le_of_ble_eq_true rfl) (ok_e30 hw) rfl (Nat.le_of_ble_eq_true rfl) _ rfl dX6_sign_26 [] rfl ?_
    exact x_vretH rfl dX6_sign_29 h
  · have h := x_t hc h
    refine x_aload_n dX6_sign_8 rfl 0 rfl ?_
    refine x_dup dX6_sign_9 rfl ?_
    refine x_getI fl_X6_202 (ok_e30 hw) rfl dX6_sign_10 ?_
    refine x_iconst (x := 1) dX6_sign_13 rfl ?_
    refine x_iadd dX6_sign_14 ?_
    obtain ⟨s3, hs3, h⟩ := x_let_e h
    refine x_putI s3 hs3 fp_X6_202 (ok_e30 hw) rfl dX6_sign_15 ?_
    refine x_goto (tgt := 29) dX6_sign_18 rfl ?_
    exact x_vretH rfl dX6_sign_29 h
set_option maxRecDepth 100000 in
set_option maxHeartbeats 4000000 in
theorem eX6_ends {l : Launch} {w : xW} (hw : w.1.2 = true) {σ τ : xS} {r : Unit} (h : fX6_ends σ = some (r, τ)) : xEV l w yX6_ends mX6_ends [.ref (w.2.2 5 30 0 0)] σ none τ := by
  rw [fX6_ends] at h
  refine x_enter (by decide +kernel) rfl (Nat.le_of_ble_eq_true rfl) ?_
  refine x_sub (L1 := [(0, .ref (w.2.2 5 30 0 0))]) [0] rfl ?_
  refine x_aload_n dX6_ends_0 rfl 0 rfl ?_
  refine x_getI fl_X6_208 (ok_e30 hw) rfl dX6_ends_1 ?_
  refine x_if_ge (tgt := 13) dX6_ends_4 rfl (fun hc => ?_) (fun hc => ?_)
  · have h := x_t hc h
    exact x_vretH rfl dX6_ends_13 h
  · have h := x_f hc h
    refine x_aload_n dX6_ends_7 rfl 0 rfl ?_
    refine x_bipush (x := 59) dX6_ends_8 rfl ?_
    obtain ⟨z1, s1, h1, h⟩ := x_b_e h
    refine x_callV (As := [.int 59]) (st := []) (eX6_sign hw  h1) cv_X6_233 (Nat.le_of_ble_eq_true rfl) (ok_e30 hw) rfl (Nat.le_of_ble_eq_true rfl) _ rfl dX6_ends_10 [] rfl ?_
    exact x_vretH rfl dX6_ends_13 h
set_option maxRecDepth 100000 in
set_option maxHeartbeats 4000000 in
theorem eX6_acts {l : Launch} {w : xW} (hw : w.1.2 = true) {σ τ : xS} {r : Int32} (h : fX6_acts σ = some (r, τ)) : xEV l w yX6_acts mX6_acts [.ref (w.2.2 5 30 0 0)] σ (some (.int r)) τ := by
  rw [fX6_acts] at h
  refine x_enter (by decide +kernel) rfl (Nat.le_of_ble_eq_true rfl) ?_
  refine x_sub (L1 := [(0, .ref (w.2.2 5 30 0 0))]) [0] rfl ?_
  refine x_aload_n dX6_acts_0 rfl 0 rfl ?_
  refine x_getI fl_X6_239 (ok_e30 hw) rfl dX6_acts_1 ?_
  refine x_if_eq (tgt := 18) dX6_acts_4 rfl (fun hc => ?_) (fun hc => ?_)
  · have h := x_t hc h
    refine x_iconst (x := 0) dX6_acts_18 rfl ?_
    exact x_zretH rfl rfl dX6_acts_19 h
  · have h := x_f hc h
    refine x_aload_n dX6_acts_7 rfl 0 rfl ?_
    refine x_getI fl_X6_208 (ok_e30 hw) rfl dX6_acts_8 ?_
    refine x_if_ge (tgt := 18) dX6_acts_11 rfl (fun hc => ?_) (fun hc => ?_)
    · have h := x_t hc h
      refine x_iconst (x := 0) dX6_acts_18 rfl ?_
      exact x_zretH rfl rfl dX6_acts_19 h
    · have h := x_f hc h
      refine x_iconst (x := 1) dX6_acts_14 rfl ?_
      refine x_goto (tgt := 19) dX6_acts_15 rfl ?_
      exact x_zretH rfl rfl dX6_acts_19 h
