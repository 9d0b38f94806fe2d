set_option maxRecDepth 100000 in
set_option maxHeartbeats 4000000 in
theorem TX1_leaveQueue_49 {l : Launch} {w : xW} {d0 : Nat} {d1 : Nat} {p1 : Nat} {r1 : Nat} {a3 : Int32} {a4 : Int32} (hd0 : d0 < 4) (hd1 : d1 < 4) (hp1 : p1 < 6) (hr1 : r1 < 3) {σ τ : xS} {r : Unit} (h : BX1_leaveQueue_49 d0 d1 p1 r1 a3 a4 σ = some (r, τ)) : xAt l w mX1_leaveQueue 49 [(0, .ref (w.2.2 d0 1 0 0)), (1, .ref (w.2.2 d1 16 p1 r1)), (3, .int a3), (4, .int a4)] [] σ none τ := by
  rw [BX1_leaveQueue_49] at h
  refine x_aload_n dX1_leaveQueue_49 rfl 0 rfl ?_
  refine x_iload dX1_leaveQueue_50 3 rfl ?_
  obtain ⟨z8, s8, h8, h⟩ := x_b_e h
  refine x_callV (As := [.int a4]) (st := []) (eX1_isCell hd0 h8) cv_X1_47 (Nat.le_of_ble_eq_true rfl) (ok_a (K := 1) (Nat.le_of_ble_eq_true rfl) hd0) rfl (Nat.le_of_ble_eq_true rfl) _ rfl dX1_leaveQueue_52 [.int z8] rfl ?_
  refine x_if_eq (tgt := 69) dX1_leaveQueue_55 rfl (fun hc => ?_) (fun hc => ?_)
  · have h := x_t hc h
    refine x_aload_n dX1_leaveQueue_69 rfl 1 rfl ?_
    refine x_iload_n dX1_leaveQueue_70 rfl 2 rfl ?_
    obtain ⟨s9, hs9, h⟩ := x_let_e h
    refine x_putI s9 hs9 fp_X1_84 (ok_c hd1 hp1 hr1) rfl dX1_leaveQueue_71 ?_
    refine x_aload_n dX1_leaveQueue_74 rfl 1 rfl ?_
    refine x_dup dX1_leaveQueue_75 rfl ?_
    refine x_getI fl_X1_92 (ok_c hd1 hp1 hr1) rfl dX1_leaveQueue_76 ?_
    refine x_iconst (x := 1) dX1_leaveQueue_79 rfl ?_
    refine x_isub dX1_leaveQueue_80 ?_
    obtain ⟨s10, hs10, h⟩ := x_let_e h
    refine x_putI s10 hs10 fp_X1_92 (ok_c hd1 hp1 hr1) rfl dX1_leaveQueue_81 ?_
    exact x_vretH rfl dX1_leaveQueue_84 h
  · have h := x_f hc h
    refine x_aload_n dX1_leaveQueue_58 rfl 0 rfl ?_
    refine x_getR (d1 := d0) (K1 := 8) (p1 := 0) (r1 := 0) fl_X1_31 (ok_a (K := 1) (Nat.le_of_ble_eq_true rfl) hd0) rfl dX1_leaveQueue_59 ?_
    refine x_iload dX1_leaveQueue_62 3 rfl ?_
    refine x_iload_n dX1_leaveQueue_64 rfl 2 rfl ?_
    obtain ⟨hg11, h⟩ := x_g_e h
    obtain ⟨s12, hs12, h⟩ := x_let_e h
    refine x_iast 128 a4.toNatClampNeg rfl s12 hs12 rfl rfl rfl (ok_a (K := 8) (Nat.le_of_ble_eq_true rfl) hd0) hg11 dX1_leaveQueue_65 ?_
    refine x_goto (tgt := 74) dX1_leaveQueue_66 rfl ?_
    refine x_aload_n dX1_leaveQueue_74 rfl 1 rfl ?_
    refine x_dup dX1_leaveQueue_75 rfl ?_
    refine x_getI fl_X1_92 (ok_c hd1 hp1 hr1) rfl dX1_leaveQueue_76 ?_
    refine x_iconst (x := 1) dX1_leaveQueue_79 rfl ?_
    refine x_isub dX1_leaveQueue_80 ?_
    obtain ⟨s13, hs13, h⟩ := x_let_e h
    refine x_putI s13 hs13 fp_X1_92 (ok_c hd1 hp1 hr1) rfl dX1_leaveQueue_81 ?_
    exact x_vretH rfl dX1_leaveQueue_84 h
set_option maxRecDepth 100000 in
set_option maxHeartbeats 4000000 in
theorem eX1_leaveQueue {l : Launch} {w : xW} {d0 : Nat} {d1 : Nat} {p1 : Nat} {r1 : Nat} {a2 : Int32} (hd0 : d0 < 4) (hd1 : d1 < 4) (hp1 : p1 < 6) (hr1 : r1 < 3) {σ τ : xS} {r : Unit} (h : fX1_leaveQueue d0 d1 p1 r1 a2 σ = some (r, τ)) : xEV l w yX1_leaveQueue mX1_leaveQueue [.ref (w.2.2 d0 1 0 0), .ref (w.2.2 d1 16 p1 r1), .int a2] σ none τ := by
  rw [fX1_leaveQueue] at h
  refine x_enter (by decide +kernel) rfl (Nat.le_of_ble_eq_true rfl) ?_
  refine x_sub (L1 := [(0, .ref (w.2.2 d0 1 0 0)), (1, .ref (w.2.2 d1 16 p1 r1)), (2, .int a2)]) [0, 1, 2] rfl ?_
  refine x_aload_n dX1_leaveQueue_0 rfl 0 rfl ?_
  refine x_iload_n dX1_leaveQueue_1 rfl 2 rfl ?_
  obtain ⟨z1, s1, h1, h⟩ := x_b_e h
  refine x_callV (As := [.int a2]) (st := []) (eX1_isCell hd0 h1) cv_X1_47 (Nat.le_of_ble_eq_true rfl) (ok_a (K := 1) (Nat.le_of_ble_eq_true rfl) hd0) rfl (Nat.le_of_ble_eq_true rfl) _ rfl dX1_leaveQueue_2 [.int z1] rfl ?_
  refine x_if_ne (tgt := 9) dX1_leaveQueue_5 rfl (fun hc => ?_) (fun hc => ?_)
  · have h := x_f hc h
    refine x_aload_n dX1_leaveQueue_9 rfl 0 rfl ?_
    refine x_getR (d1 := d0) (K1 := 8) (p1 := 0) (r1 := 0) fl_X1_31 (ok_a (K := 1) (Nat.le_of_ble_eq_true rfl) hd0) rfl dX1_leaveQueue_10 ?_
    refine x_iload_n dX1_leaveQueue_13 rfl 2 rfl ?_
    obtain ⟨hg2, h⟩ := x_g_e h
    refine x_iald 128 a2.toNatClampNeg rfl rfl rfl rfl (ok_a (K := 8) (Nat.le_of_ble_eq_true rfl) hd0) hg2 dX1_leaveQueue_14 ?_
    obtain ⟨t3, ht3, h⟩ := x_let_e h
    refine x_istore_n t3 ht3 dX1_leaveQueue_15 rfl (Nat.le_of_ble_eq_true rfl) [(3, .int t3), (0, .ref (w.2.2 d0 1 0 0)), (1, .ref (w.2.2 d1 16 p1 r1)), (2, .int a2)] rfl ?_
    refine x_aload_n dX1_leaveQueue_16 rfl 1 rfl ?_
    refine x_getR (d1 := d0) (K1 := 9) (p1 := 0) (r1 := 0) fl_X1_34 (ok_a (K := 1) (Nat.le_of_ble_eq_true rfl) hd0) rfl dX1_leaveQueue_17 ?_
    refine x_iload_n dX1_leaveQueue_20 rfl 3 rfl ?_
    obtain ⟨hg4, h⟩ := x_g_e h
    refine x_iald 128 a2.toNatClampNeg rfl rfl rfl rfl (ok_a (K := 9) (Nat.le_of_ble_eq_true rfl) hd0) hg4 dX1_leaveQueue_21 ?_
    obtain ⟨t5, ht5, h⟩ := x_let_e h
    refine x_istore t5 ht5 dX1_leaveQueue_22 (Nat.le_of_ble_eq_true rfl) [(4, .int t5), (3, .int t3), (0, .ref (w.2.2 d0 1 0 0)), (1, .ref (w.2.2 d1 16 p1 r1)), (2, .int a2)] rfl ?_
    refine x_aload_n dX1_leaveQueue_24 rfl 2 rfl ?_
    refine x_iload_n dX1_leaveQueue_25 rfl 1 rfl ?_
    obtain ⟨z6, s6, h6, h⟩ := x_b_e h
    refine x_callV (As := [.int t3]) (st := []) (eX1_isCell hd0 h6) cv_X1_47 (Nat.le_of_ble_eq_true rfl) (ok_a (K := 1) (Nat.le_of_ble_eq_true rfl) hd0) rfl (Nat.le_of_ble_eq_true rfl) _ rfl dX1_leaveQueue_26 [.int z6] rfl ?_
    refine x_if_eq (tgt := 43) dX1_leaveQueue_29 rfl (fun hc => ?_) (fun hc => ?_)
    · have h := x_t hc h
      refine x_aload_n dX1_leaveQueue_43 rfl 3 rfl ?_
      refine x_iload dX1_leaveQueue_44 0 rfl ?_
      obtain ⟨s7, hs7, h⟩ := x_let_e h
      refine x_putI s7 hs7 fp_X1_89 (ok_c hd1 hp1 hr1) rfl dX1_leaveQueue_46 ?_
      refine x_sub (L1 := [(0, .ref (w.2.2 d0 1 0 0)), (1, .ref (w.2.2 d1 16 p1 r1)), (3, .int t3), (4, .int t5)]) [2, 3, 1, 0] rfl ?_
      exact TX1_leaveQueue_49 hd0 hd1 hp1 hr1 h
    · have h := x_f hc h
      refine x_aload_n dX1_leaveQueue_32 rfl 2 rfl ?_
      refine x_getR (d1 := d0) (K1 := 9) (p1 := 0) (r1 := 0) fl_X1_34 (ok_a (K := 1) (Nat.le_of_ble_eq_true rfl) hd0) rfl dX1_leaveQueue_33 ?_
      refine x_iload_n dX1_leaveQueue_36 rfl 1 rfl ?_
      refine x_iload dX1_leaveQueue_37 0 rfl ?_
      obtain ⟨hg14, h⟩ := x_g_e h
      obtain ⟨s15, hs15, h⟩ := x_let_e h
      refine x_iast 128 t3.toNatClampNeg rfl s15 hs15 rfl rfl rfl (ok_a (K := 9) (Nat.le_of_ble_eq_true rfl) hd0) hg14 dX1_leaveQueue_39 ?_
      refine x_goto (tgt := 49) dX1_leaveQueue_40 rfl ?_
      refine x_sub (L1 := [(0, .ref (w.2.2 d0 1 0 0)), (1, .ref (w.2.2 d1 16 p1 r1)), (3, .int t3), (4, .int t5)]) [2, 3, 1, 0] rfl ?_
      exact TX1_leaveQueue_49 hd0 hd1 hp1 hr1 h
  · have h := x_t hc h
    exact x_vretH rfl dX1_leaveQueue_8 h
