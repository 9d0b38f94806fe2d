set_option maxRecDepth 100000 in
set_option maxHeartbeats 4000000 in
theorem TX5_drainTicks_69 {l : Launch} {w : xW} {d3 : Nat} {p3 : Nat} {a4 : Int32} (hd3 : d3 < 4) (hp3 : p3 < 6) {τ : xS} {r : Int32} : ∀ (n : Nat) (a5 : Int32) (σ : xS), BX5_drainTicks_69 d3 p3 a4 n a5 σ = some (r, τ) → xAt l w mX5_drainTicks 69 [(0, .ref (w.2.2 4 20 0 0)), (3, .ref (w.2.2 d3 13 p3 0)), (4, .int a4), (5, .int a5)] [] σ (some (.int r)) τ := by
  intro n
  induction n with
  | zero => intro a5 σ h; cases h
  | succ n ih =>
    intro a5 σ h
    rw [BX5_drainTicks_69] at h
    refine x_iload dX5_drainTicks_69 3 rfl ?_
    refine x_iload dX5_drainTicks_71 2 rfl ?_
    refine x_icmp_gt (tgt := 101) dX5_drainTicks_73 rfl (fun hc => ?_) (fun hc => ?_)
    · have h := x_t hc h
      refine x_bipush (x := (-5)) dX5_drainTicks_101 (by decide) ?_
      exact x_iretH rfl dX5_drainTicks_103 h
    · have h := x_f hc h
      refine x_aload_n dX5_drainTicks_76 rfl 0 rfl ?_
      refine x_getR (d1 := 1) (K1 := 0) (p1 := 0) (r1 := 0) fl_X5_16 ok_e20 rfl dX5_drainTicks_77 ?_
      refine x_aload_n dX5_drainTicks_80 rfl 1 rfl ?_
      obtain ⟨z5, s5, h5, h⟩ := x_b_e h
      refine x_callV (As := [.ref (w.2.2 d3 13 p3 0)]) (st := []) (eX0_send (Nat.le_of_ble_eq_true rfl) hd3 hp3 h5) cv_X5_256 (Nat.le_of_ble_eq_true rfl) (ok_a (K := 0) (Nat.le_of_ble_eq_true rfl) (Nat.le_of_ble_eq_true rfl)) rfl (Nat.le_of_ble_eq_true rfl) _ rfl dX5_drainTicks_81 [.int z5] rfl ?_
      refine x_pop dX5_drainTicks_84 rfl ?_
      refine x_aload_n dX5_drainTicks_85 rfl 1 rfl ?_
      obtain ⟨z6, s6, h6, h⟩ := x_b_e h
      refine x_callV (As := []) (st := []) (eX2_isIdle hd3 hp3 h6) cv_X5_252 (Nat.le_of_ble_eq_true rfl) (ok_b (K := 13) (Nat.le_of_ble_eq_true rfl) (Nat.le_of_ble_eq_true rfl) hd3 hp3) rfl (Nat.le_of_ble_eq_true rfl) _ rfl dX5_drainTicks_86 [.int z6] rfl ?_
      refine x_if_eq (tgt := 95) dX5_drainTicks_89 rfl (fun hc => ?_) (fun hc => ?_)
      · have h := x_t hc h
        obtain ⟨t7, ht7, h⟩ := x_let_e h
        refine x_iinc t7 1 rfl ht7 dX5_drainTicks_95 3 rfl (Nat.le_of_ble_eq_true rfl) [(5, .int t7), (0, .ref (w.2.2 4 20 0 0)), (3, .ref (w.2.2 d3 13 p3 0)), (4, .int a4)] rfl ?_
        refine x_goto (tgt := 69) dX5_drainTicks_98 rfl ?_
        refine x_sub (L1 := [(0, .ref (w.2.2 4 20 0 0)), (3, .ref (w.2.2 d3 13 p3 0)), (4, .int a4), (5, .int t7)]) [1, 2, 3, 0] rfl ?_
        exact ih _ _ h
      · have h := x_f hc h
        refine x_iload dX5_drainTicks_92 3 rfl ?_
        exact x_iretH rfl dX5_drainTicks_94 h
set_option maxRecDepth 100000 in
set_option maxHeartbeats 4000000 in
theorem eX5_drainTicks {l : Launch} {w : xW} {a1 : Int32} {σ τ : xS} {r : Int32} (h : fX5_drainTicks a1 σ = some (r, τ)) : xEV l w yX5_drainTicks mX5_drainTicks [.ref (w.2.2 4 20 0 0), .int a1] σ (some (.int r)) τ := by
  rw [fX5_drainTicks] at h
  refine x_enter (by decide +kernel) rfl (Nat.le_of_ble_eq_true rfl) ?_
  refine x_sub (L1 := [(0, .ref (w.2.2 4 20 0 0)), (1, .int a1)]) [0, 1] rfl ?_
  refine x_aload_n dX5_drainTicks_0 rfl 0 rfl ?_
  refine x_getR (d1 := 0) (K1 := 0) (p1 := 0) (r1 := 0) fl_X5_10 ok_e20 rfl dX5_drainTicks_1 ?_
  refine x_iload_n dX5_drainTicks_4 rfl 1 rfl ?_
  obtain ⟨z1, s1, h1, h⟩ := x_b_e h
  refine x_callV (As := [.int a1]) (st := []) (eX0_portAt (Nat.le_of_ble_eq_true rfl) h1) cv_X5_52 (Nat.le_of_ble_eq_true rfl) (ok_a (K := 0) (Nat.le_of_ble_eq_true rfl) (Nat.le_of_ble_eq_true rfl)) rfl (Nat.le_of_ble_eq_true rfl) _ rfl dX5_drainTicks_5 [x_nvP w z1] rfl ?_
  rcases z1 with _ | t1
  · refine x_st [.null] rfl ?_
    refine x_astore_nN dX5_drainTicks_8 rfl (Nat.le_of_ble_eq_true rfl) [(2, .null), (0, .ref (w.2.2 4 20 0 0)), (1, .int a1)] rfl ?_
    refine x_aload_nN dX5_drainTicks_9 rfl 0 rfl ?_
    refine x_ifnonnullN dX5_drainTicks_10 ?_
    refine x_iconst (x := (-1)) dX5_drainTicks_13 (by decide) ?_
    exact x_iretH rfl dX5_drainTicks_14 h
  · obtain ⟨hg1, h⟩ := x_g_e h
    refine x_st [.ref (w.2.2 t1.1 13 t1.2 0)] rfl ?_
    refine x_astore_n dX5_drainTicks_8 rfl (Nat.le_of_ble_eq_true rfl) [(2, .ref (w.2.2 t1.1 13 t1.2 0)), (0, .ref (w.2.2 4 20 0 0)), (1, .int a1)] rfl ?_
    refine x_aload_n dX5_drainTicks_9 rfl 0 rfl ?_
    refine x_ifnonnullR (tgt := 15) dX5_drainTicks_10 rfl ?_
    refine x_aload_n dX5_drainTicks_15 rfl 0 rfl ?_
    obtain ⟨z2, s2, h2, h⟩ := x_b_e h
    refine x_callV (As := []) (st := []) (eX2_isIdle (ok2_d hg1) (ok2_p hg1) h2) cv_X5_252 (Nat.le_of_ble_eq_true rfl) (ok_b (K := 13) (Nat.le_of_ble_eq_true rfl) (Nat.le_of_ble_eq_true rfl) (ok2_d hg1) (ok2_p hg1)) rfl (Nat.le_of_ble_eq_true rfl) _ rfl dX5_drainTicks_16 [.int z2] rfl ?_
    refine x_if_eq (tgt := 24) dX5_drainTicks_19 rfl (fun hc => ?_) (fun hc => ?_)
    · have h := x_t hc h
      refine x_aload_n dX5_drainTicks_24 rfl 1 rfl ?_
      refine x_getR (d1 := 1) (K1 := 0) (p1 := 0) (r1 := 0) fl_X5_16 ok_e20 rfl dX5_drainTicks_25 ?_
      refine x_aload_n dX5_drainTicks_28 rfl 1 rfl ?_
      refine x_getR (d1 := 0) (K1 := 0) (p1 := 0) (r1 := 0) fl_X5_10 ok_e20 rfl dX5_drainTicks_29 ?_
      obtain ⟨z3, s3, h3, h⟩ := x_b_e h
      refine x_callV (As := [.ref (w.2.2 0 0 0 0)]) (st := []) (eX0_copyFrom (Nat.le_of_ble_eq_true rfl) (Nat.le_of_ble_eq_true rfl) h3) cv_X5_248 (Nat.le_of_ble_eq_true rfl) (ok_a (K := 0) (Nat.le_of_ble_eq_true rfl) (Nat.le_of_ble_eq_true rfl)) rfl (Nat.le_of_ble_eq_true rfl) _ rfl dX5_drainTicks_32 [] rfl ?_
      refine x_aload_n dX5_drainTicks_35 rfl 1 rfl ?_
      refine x_getR (d1 := 1) (K1 := 0) (p1 := 0) (r1 := 0) fl_X5_16 ok_e20 rfl dX5_drainTicks_36 ?_
      refine x_iload_n dX5_drainTicks_39 rfl 2 rfl ?_
      obtain ⟨z4, s4, h4, h⟩ := x_b_e h
      refine x_callV (As := [.int a1]) (st := []) (eX0_portAt (Nat.le_of_ble_eq_true rfl) h4) cv_X5_52 (Nat.le_of_ble_eq_true rfl) (ok_a (K := 0) (Nat.le_of_ble_eq_true rfl) (Nat.le_of_ble_eq_true rfl)) rfl (Nat.le_of_ble_eq_true rfl) _ rfl dX5_drainTicks_40 [x_nvP w z4] rfl ?_
      rcases z4 with _ | t4
      · refine x_st [.null] rfl ?_
        refine x_astore_nN dX5_drainTicks_43 rfl (Nat.le_of_ble_eq_true rfl) [(3, .null), (2, .ref (w.2.2 t1.1 13 t1.2 0)), (0, .ref (w.2.2 4 20 0 0)), (1, .int a1)] rfl ?_
        refine x_aload_nN dX5_drainTicks_44 rfl 0 rfl ?_
        refine x_ifnonnullN dX5_drainTicks_45 ?_
        refine x_iconst (x := (-1)) dX5_drainTicks_48 (by decide) ?_
        exact x_iretH rfl dX5_drainTicks_49 h
      · obtain ⟨hg4, h⟩ := x_g_e h
        refine x_st [.ref (w.2.2 t4.1 13 t4.2 0)] rfl ?_
        refine x_astore_n dX5_drainTicks_43 rfl (Nat.le_of_ble_eq_true rfl) [(3, .ref (w.2.2 t4.1 13 t4.2 0)), (2, .ref (w.2.2 t1.1 13 t1.2 0)), (0, .ref (w.2.2 4 20 0 0)), (1, .int a1)] rfl ?_
        refine x_aload_n dX5_drainTicks_44 rfl 0 rfl ?_
        refine x_ifnonnullR (tgt := 50) dX5_drainTicks_45 rfl ?_
        refine x_aload_n dX5_drainTicks_50 rfl 0 rfl ?_
        refine x_getI fl_X5_106 (ok_b (K := 13) (Nat.le_of_ble_eq_true rfl) (Nat.le_of_ble_eq_true rfl) (ok2_d hg4) (ok2_p hg4)) rfl dX5_drainTicks_51 ?_
        refine x_if_ne (tgt := 61) dX5_drainTicks_54 rfl (fun hc => ?_) (fun hc => ?_)
        · have h := x_f hc h
          refine x_sipush (x := 1000) dX5_drainTicks_61 rfl ?_
          refine x_istore 1000 rfl dX5_drainTicks_64 (Nat.le_of_ble_eq_true rfl) [(4, .int 1000), (3, .ref (w.2.2 t4.1 13 t4.2 0)), (2, .ref (w.2.2 t1.1 13 t1.2 0)), (0, .ref (w.2.2 4 20 0 0)), (1, .int a1)] rfl ?_
          refine x_iconst (x := 1) dX5_drainTicks_66 rfl ?_
          refine x_istore 1 rfl dX5_drainTicks_67 (Nat.le_of_ble_eq_true rfl) [(5, .int 1), (4, .int 1000), (3, .ref (w.2.2 t4.1 13 t4.2 0)), (2, .ref (w.2.2 t1.1 13 t1.2 0)), (0, .ref (w.2.2 4 20 0 0)), (1, .int a1)] rfl ?_
          refine x_sub (L1 := [(0, .ref (w.2.2 4 20 0 0)), (3, .ref (w.2.2 t4.1 13 t4.2 0)), (4, .int 1000), (5, .int 1)]) [4, 2, 1, 0] rfl ?_
          exact TX5_drainTicks_69 (ok2_d hg4) (ok2_p hg4) _ _ _ h
        · have h := x_t hc h
          refine x_iconst (x := 1) dX5_drainTicks_57 rfl ?_
          refine x_goto (tgt := 64) dX5_drainTicks_58 rfl ?_
          refine x_istore 1 rfl dX5_drainTicks_64 (Nat.le_of_ble_eq_true rfl) [(4, .int 1), (3, .ref (w.2.2 t4.1 13 t4.2 0)), (2, .ref (w.2.2 t1.1 13 t1.2 0)), (0, .ref (w.2.2 4 20 0 0)), (1, .int a1)] rfl ?_
          refine x_iconst (x := 1) dX5_drainTicks_66 rfl ?_
          refine x_istore 1 rfl dX5_drainTicks_67 (Nat.le_of_ble_eq_true rfl) [(5, .int 1), (4, .int 1), (3, .ref (w.2.2 t4.1 13 t4.2 0)), (2, .ref (w.2.2 t1.1 13 t1.2 0)), (0, .ref (w.2.2 4 20 0 0)), (1, .int a1)] rfl ?_
          refine x_sub (L1 := [(0, .ref (w.2.2 4 20 0 0)), (3, .ref (w.2.2 t4.1 13 t4.2 0)), (4, .int 1), (5, .int 1)]) [4, 2, 1, 0] rfl ?_
          exact TX5_drainTicks_69 (ok2_d hg4) (ok2_p hg4) _ _ _ h
    · have h := x_f hc h
      refine x_iconst (x := 0) dX5_drainTicks_22 rfl ?_
      exact x_iretH rfl dX5_drainTicks_23 h
set_option maxRecDepth 100000 in
set_option maxHeartbeats 4000000 in
theorem TX5_greatestCommonDivisor_7 {l : Launch} {w : xW} {τ : xS} {r : Int32} : ∀ (n : Nat) (a2 : Int32) (a3 : Int32) (a4 : Int32) (σ : xS), BX5_greatestCommonDivisor_7 n a2 a3 a4 σ = some (r, τ) → xAt l w mX5_greatestCommonDivisor 7 [(2, .int a2), (3, .int a3), (4, .int a4)] [] σ (some (.int r)) τ := by
  intro n
  induction n with
  | zero => intro a2 a3 a4 σ h; cases h
  | succ n ih =>
    intro a2 a3 a4 σ h
    rw [BX5_greatestCommonDivisor_7] at h
    refine x_iload dX5_greatestCommonDivisor_7 2 rfl ?_
    refine x_bipush (x := 64) dX5_greatestCommonDivisor_9 rfl ?_
    refine x_icmp_ge (tgt := 34) dX5_greatestCommonDivisor_11 rfl (fun hc => ?_) (fun hc => ?_)
    · have h := x_t hc h
      refine x_iload_n dX5_greatestCommonDivisor_34 rfl 0 rfl ?_
      exact x_iretH rfl dX5_greatestCommonDivisor_35 h
    · have h := x_f hc h
      refine x_iload_n dX5_greatestCommonDivisor_14 rfl 1 rfl ?_
      refine x_if_eq (tgt := 34) dX5_greatestCommonDivisor_15 rfl (fun hc => ?_) (fun hc => ?_)
      · have h := x_t hc h
        refine x_iload_n dX5_greatestCommonDivisor_34 rfl 0 rfl ?_
        exact x_iretH rfl dX5_greatestCommonDivisor_35 h
      · have h := x_f hc h
        refine x_iload_n dX5_greatestCommonDivisor_18 rfl 0 rfl ?_
        refine x_iload_n dX5_greatestCommonDivisor_19 rfl 1 rfl ?_
        obtain ⟨hg1, h⟩ := x_nz_e h
        refine x_irem dX5_greatestCommonDivisor_20 hg1 ?_
        obtain ⟨t2, ht2, h⟩ := x_let_e h
        refine x_istore t2 ht2 dX5_greatestCommonDivisor_21 (Nat.le_of_ble_eq_true rfl) [(5, .int t2), (2, .int a2), (3, .int a3), (4, .int a4)] rfl ?_
        refine x_iload_n dX5_greatestCommonDivisor_23 rfl 2 rfl ?_
        refine x_istore_n a3 rfl dX5_greatestCommonDivisor_24 rfl (Nat.le_of_ble_eq_true rfl) [(2, .int a3), (5, .int t2), (3, .int a3), (4, .int a4)] rfl ?_
        refine x_iload dX5_greatestCommonDivisor_25 1 rfl ?_
        refine x_istore_n t2 rfl dX5_greatestCommonDivisor_27 rfl (Nat.le_of_ble_eq_true rfl) [(3, .int t2), (2, .int a3), (5, .int t2), (4, .int a4)] rfl ?_
        obtain ⟨t3, ht3, h⟩ := x_let_e h
        refine x_iinc t3 1 rfl ht3 dX5_greatestCommonDivisor_28 3 rfl (Nat.le_of_ble_eq_true rfl) [(4, .int t3), (3, .int t2), (2, .int a3), (5, .int t2)] rfl ?_
        refine x_goto (tgt := 7) dX5_greatestCommonDivisor_31 rfl ?_
        refine x_sub (L1 := [(2, .int a3), (3, .int t2), (4, .int t3)]) [2, 1, 0] rfl ?_
        exact ih _ _ _ _ h
set_option maxRecDepth 100000 in
set_option maxHeartbeats 4000000 in
theorem eX5_greatestCommonDivisor {l : Launch} {w : xW} {a0 : Int32} {a1 : Int32} {σ τ : xS} {r : Int32} (h : fX5_greatestCommonDivisor a0 a1 σ = some (r, τ)) : xEV l w yX5_greatestCommonDivisor mX5_greatestCommonDivisor [.int a0, .int a1] σ (some (.int r)) τ := by
  rw [fX5_greatestCommonDivisor] at h
  refine x_enter (by decide +kernel) rfl (Nat.le_of_ble_eq_true rfl) ?_
  refine x_sub (L1 := [(0, .int a0), (1, .int a1)]) [0, 1] rfl ?_
  refine x_iload_n dX5_greatestCommonDivisor_0 rfl 0 rfl ?_
  refine x_istore_n a0 rfl dX5_greatestCommonDivisor_1 rfl (Nat.le_of_ble_eq_true rfl) [(2, .int a0), (0, .int a0), (1, .int a1)] rfl ?_
  refine x_iload_n dX5_greatestCommonDivisor_2 rfl 2 rfl ?_
  refine x_istore_n a1 rfl dX5_greatestCommonDivisor_3 rfl (Nat.le_of_ble_eq_true rfl) [(3, .int a1), (2, .int a0), (0, .int a0), (1, .int a1)] rfl ?_
  refine x_iconst (x := 0) dX5_greatestCommonDivisor_4 rfl ?_
  refine x_istore 0 rfl dX5_greatestCommonDivisor_5 (Nat.le_of_ble_eq_true rfl) [(4, .int 0), (3, .int a1), (2, .int a0), (0, .int a0), (1, .int a1)] rfl ?_
  refine x_sub (L1 := [(2, .int a0), (3, .int a1), (4, .int 0)]) [2, 1, 0] rfl ?_
  exact TX5_greatestCommonDivisor_7 _ _ _ _ _ h
set_option maxRecDepth 100000 in
set_option maxHeartbeats 4000000 in
theorem TX5_equilibrium_39 {l : Launch} {w : xW} {a1 : Int32} {a2 : Int32} {a3 : Int32} {τ : xS} {r : Int32} : ∀ (n : Nat) (a4 : Int32) (a5 : Int32) (σ : xS), BX5_equilibrium_39 a1 a2 a3 n a4 a5 σ = some (r, τ) → xAt l w mX5_equilibrium 39 [(0, .ref (w.2.2 4 20 0 0)), (1, .int a1), (2, .int a2), (3, .int a3), (4, .int a4), (5, .int a5)] [] σ (some (.int r)) τ := by
  intro n
  induction n with
  | zero => intro a4 a5 σ h; cases h
  | succ n ih =>
    intro a4 a5 σ h
    rw [BX5_equilibrium_39] at h
    refine x_iload dX5_equilibrium_39 5 rfl ?_
    refine x_iconst (x := 3) dX5_equilibrium_41 rfl ?_
    refine x_aload_n dX5_equilibrium_42 rfl 0 rfl ?_
    refine x_getR (d1 := 0) (K1 := 0) (p1 := 0) (r1 := 0) fl_X5_10 ok_e20 rfl dX5_equilibrium_43 ?_
    refine x_getI fl_X5_140 (ok_a (K := 0) (Nat.le_of_ble_eq_true rfl) (Nat.le_of_ble_eq_true rfl)) rfl dX5_equilibrium_46 ?_
    refine x_imul dX5_equilibrium_49 ?_
    refine x_icmp_ge (tgt := 101) dX5_equilibrium_50 rfl (fun hc => ?_) (fun hc => ?_)
    · have h := x_t hc h
      refine x_iconst (x := 1) dX5_equilibrium_101 rfl ?_
      refine x_iload_n dX5_equilibrium_102 rfl 3 rfl ?_
      refine x_iload dX5_equilibrium_103 4 rfl ?_
      obtain ⟨z3, s3, h3, h⟩ := x_b_e h
      refine x_callS (As := [.int a3, .int a4]) (st := [.int 1]) (eX5_greatestCommonDivisor  h3) cs_X5_259 (Nat.le_of_ble_eq_true rfl) rfl (Nat.le_of_ble_eq_true rfl) _ rfl dX5_equilibrium_105 [.int z3, .int 1] rfl ?_
      refine x_max lk_X5_143 w_max (Nat.le_of_ble_eq_true rfl) (Nat.le_of_ble_eq_true rfl) dX5_equilibrium_108 ?_
      obtain ⟨t4, ht4, h⟩ := x_let_e h
      refine x_istore t4 ht4 dX5_equilibrium_111 (Nat.le_of_ble_eq_true rfl) [(5, .int t4), (0, .ref (w.2.2 4 20 0 0)), (1, .int a1), (2, .int a2), (3, .int a3), (4, .int a4)] rfl ?_
      refine x_iload_n dX5_equilibrium_113 rfl 3 rfl ?_
      refine x_if_eq (tgt := 125) dX5_equilibrium_114 rfl (fun hc => ?_) (fun hc => ?_)
      · have h := x_t hc h
        refine x_iload_n dX5_equilibrium_125 rfl 4 rfl ?_
        refine x_iload dX5_equilibrium_126 0 rfl ?_
        obtain ⟨hg5, h⟩ := x_nz_e h
        refine x_idiv dX5_equilibrium_128 hg5 ?_
        exact x_iretH rfl dX5_equilibrium_129 h
      · have h := x_f hc h
        refine x_iload dX5_equilibrium_117 5 rfl ?_
        refine x_iload dX5_equilibrium_119 0 rfl ?_
        obtain ⟨hg6, h⟩ := x_nz_e h
        refine x_idiv dX5_equilibrium_121 hg6 ?_
        refine x_goto (tgt := 129) dX5_equilibrium_122 rfl ?_
        exact x_iretH rfl dX5_equilibrium_129 h
    · have h := x_f hc h
      refine x_aload_n dX5_equilibrium_53 rfl 0 rfl ?_
      refine x_getR (d1 := 0) (K1 := 0) (p1 := 0) (r1 := 0) fl_X5_10 ok_e20 rfl dX5_equilibrium_54 ?_
      refine x_iload dX5_equilibrium_57 5 rfl ?_
      refine x_iconst (x := 3) dX5_equilibrium_59 rfl ?_
      refine x_idiv dX5_equilibrium_60 (by decide) ?_
      refine x_iload dX5_equilibrium_61 5 rfl ?_
      refine x_iconst (x := 3) dX5_equilibrium_63 rfl ?_
      refine x_irem dX5_equilibrium_64 (by decide) ?_
      obtain ⟨z7, s7, h7, h⟩ := x_b_e h
      refine x_callV (As := [.int (a5 / 3), .int (a5 - a5 / 3 * 3)]) (st := []) (eX0_queueAt (Nat.le_of_ble_eq_true rfl) h7) cv_X5_74 (Nat.le_of_ble_eq_true rfl) (ok_a (K := 0) (Nat.le_of_ble_eq_true rfl) (Nat.le_of_ble_eq_true rfl)) rfl (Nat.le_of_ble_eq_true rfl) _ rfl dX5_equilibrium_65 [x_nvQ w z7] rfl ?_
      rcases z7 with _ | t7
      · refine x_st [.null] rfl ?_
        refine x_astoreN dX5_equilibrium_68 (Nat.le_of_ble_eq_true rfl) [(6, .null), (0, .ref (w.2.2 4 20 0 0)), (1, .int a1), (2, .int a2), (3, .int a3), (4, .int a4), (5, .int a5)] rfl ?_
        refine x_aloadN dX5_equilibrium_70 0 rfl ?_
        refine x_ifnullN (tgt := 95) dX5_equilibrium_72 rfl ?_
        obtain ⟨t8, ht8, h⟩ := x_let_e h
        refine x_iinc t8 1 rfl ht8 dX5_equilibrium_95 6 rfl (Nat.le_of_ble_eq_true rfl) [(5, .int t8), (6, .null), (0, .ref (w.2.2 4 20 0 0)), (1, .int a1), (2, .int a2), (3, .int a3), (4, .int a4)] rfl ?_
        refine x_goto (tgt := 39) dX5_equilibrium_98 rfl ?_
        refine x_sub (L1 := [(0, .ref (w.2.2 4 20 0 0)), (1, .int a1), (2, .int a2), (3, .int a3), (4, .int a4), (5, .int t8)]) [2, 3, 4, 5, 6, 0] rfl ?_
        exact ih _ _ _ h
      · obtain ⟨hg7, h⟩ := x_g_e h
        refine x_st [.ref (w.2.2 t7.1 16 t7.2.1 t7.2.2)] rfl ?_
        refine x_astore dX5_equilibrium_68 (Nat.le_of_ble_eq_true rfl) [(6, .ref (w.2.2 t7.1 16 t7.2.1 t7.2.2)), (0, .ref (w.2.2 4 20 0 0)), (1, .int a1), (2, .int a2), (3, .int a3), (4, .int a4), (5, .int a5)] rfl ?_
        refine x_aload dX5_equilibrium_70 0 rfl ?_
        refine x_ifnullR dX5_equilibrium_72 ?_
        refine x_iload_n dX5_equilibrium_75 rfl 2 rfl ?_
        refine x_iload dX5_equilibrium_76 6 rfl ?_
        refine x_ishr dX5_equilibrium_78 ?_
        refine x_iconst (x := 1) dX5_equilibrium_79 rfl ?_
        refine x_iand dX5_equilibrium_80 ?_
        refine x_iconst (x := 1) dX5_equilibrium_81 rfl ?_
        refine x_icmp_ne (tgt := 95) dX5_equilibrium_82 rfl (fun hc => ?_) (fun hc => ?_)
        · have h := x_f hc h
          obtain ⟨t9, ht9, h⟩ := x_let_e h
          refine x_iinc t9 1 rfl ht9 dX5_equilibrium_95 6 rfl (Nat.le_of_ble_eq_true rfl) [(5, .int t9), (6, .ref (w.2.2 t7.1 16 t7.2.1 t7.2.2)), (0, .ref (w.2.2 4 20 0 0)), (1, .int a1), (2, .int a2), (3, .int a3), (4, .int a4)] rfl ?_
          refine x_goto (tgt := 39) dX5_equilibrium_98 rfl ?_
          refine x_sub (L1 := [(0, .ref (w.2.2 4 20 0 0)), (1, .int a1), (2, .int a2), (3, .int a3), (4, .int a4), (5, .int t9)]) [2, 3, 4, 5, 6, 0] rfl ?_
          exact ih _ _ _ h
        · have h := x_t hc h
          refine x_iload dX5_equilibrium_85 5 rfl ?_
          refine x_aload dX5_equilibrium_87 0 rfl ?_
          refine x_getI fl_X5_78 (ok_c (ok3_d hg7) (ok3_p hg7) (ok3_r hg7)) rfl dX5_equilibrium_89 ?_
          refine x_iadd dX5_equilibrium_92 ?_
          obtain ⟨t10, ht10, h⟩ := x_let_e h
          refine x_istore t10 ht10 dX5_equilibrium_93 (Nat.le_of_ble_eq_true rfl) [(4, .int t10), (6, .ref (w.2.2 t7.1 16 t7.2.1 t7.2.2)), (0, .ref (w.2.2 4 20 0 0)), (1, .int a1), (2, .int a2), (3, .int a3), (5, .int a5)] rfl ?_
          obtain ⟨t11, ht11, h⟩ := x_let_e h
          refine x_iinc t11 1 rfl ht11 dX5_equilibrium_95 6 rfl (Nat.le_of_ble_eq_true rfl) [(5, .int t11), (4, .int t10), (6, .ref (w.2.2 t7.1 16 t7.2.1 t7.2.2)), (0, .ref (w.2.2 4 20 0 0)), (1, .int a1), (2, .int a2), (3, .int a3)] rfl ?_
          refine x_goto (tgt := 39) dX5_equilibrium_98 rfl ?_
          refine x_sub (L1 := [(0, .ref (w.2.2 4 20 0 0)), (1, .int a1), (2, .int a2), (3, .int a3), (4, .int t10), (5, .int t11)]) [3, 4, 5, 6, 1, 0] rfl ?_
          exact ih _ _ _ h
set_option maxRecDepth 100000 in
set_option maxHeartbeats 4000000 in
theorem eX5_equilibrium {l : Launch} {w : xW} {a1 : Int32} {a2 : Int32} {σ τ : xS} {r : Int32} (h : fX5_equilibrium a1 a2 σ = some (r, τ)) : xEV l w yX5_equilibrium mX5_equilibrium [.ref (w.2.2 4 20 0 0), .int a1, .int a2] σ (some (.int r)) τ := by
  rw [fX5_equilibrium] at h
  refine x_enter (by decide +kernel) rfl (Nat.le_of_ble_eq_true rfl) ?_
  refine x_sub (L1 := [(0, .ref (w.2.2 4 20 0 0)), (1, .int a1), (2, .int a2)]) [0, 1, 2] rfl ?_
  refine x_iload_n dX5_equilibrium_0 rfl 1 rfl ?_
  refine x_if_lt (tgt := 18) dX5_equilibrium_1 rfl (fun hc => ?_) (fun hc => ?_)
  · have h := x_t hc h
    refine x_bipush (x := (-2)) dX5_equilibrium_18 (by decide) ?_
    exact x_iretH rfl dX5_equilibrium_20 h
  · have h := x_f hc h
    refine x_iload_n dX5_equilibrium_4 rfl 1 rfl ?_
    refine x_iconst (x := 3) dX5_equilibrium_5 rfl ?_
    refine x_aload_n dX5_equilibrium_6 rfl 0 rfl ?_
    refine x_getR (d1 := 0) (K1 := 0) (p1 := 0) (r1 := 0) fl_X5_10 ok_e20 rfl dX5_equilibrium_7 ?_
    refine x_getI fl_X5_140 (ok_a (K := 0) (Nat.le_of_ble_eq_true rfl) (Nat.le_of_ble_eq_true rfl)) rfl dX5_equilibrium_10 ?_
    refine x_imul dX5_equilibrium_13 ?_
    refine x_ishr dX5_equilibrium_14 ?_
    refine x_if_eq (tgt := 21) dX5_equilibrium_15 rfl (fun hc => ?_) (fun hc => ?_)
    · have h := x_t hc h
      refine x_bipush (x := 8) dX5_equilibrium_21 rfl ?_
      refine x_aload_n dX5_equilibrium_23 rfl 0 rfl ?_
      refine x_getR (d1 := 0) (K1 := 0) (p1 := 0) (r1 := 0) fl_X5_10 ok_e20 rfl dX5_equilibrium_24 ?_
      obtain ⟨z1, s1, h1, h⟩ := x_b_e h
      refine x_callV (As := []) (st := [.int 8]) (eX0_poolSize (Nat.le_of_ble_eq_true rfl) h1) cv_X5_161 (Nat.le_of_ble_eq_true rfl) (ok_a (K := 0) (Nat.le_of_ble_eq_true rfl) (Nat.le_of_ble_eq_true rfl)) rfl (Nat.le_of_ble_eq_true rfl) _ rfl dX5_equilibrium_27 [.int z1, .int 8] rfl ?_
      refine x_imul dX5_equilibrium_30 ?_
      obtain ⟨t2, ht2, h⟩ := x_let_e h
      refine x_istore_n t2 ht2 dX5_equilibrium_31 rfl (Nat.le_of_ble_eq_true rfl) [(3, .int t2), (0, .ref (w.2.2 4 20 0 0)), (1, .int a1), (2, .int a2)] rfl ?_
      refine x_bipush (x := 8) dX5_equilibrium_32 rfl ?_
      refine x_istore 8 rfl dX5_equilibrium_34 (Nat.le_of_ble_eq_true rfl) [(4, .int 8), (3, .int t2), (0, .ref (w.2.2 4 20 0 0)), (1, .int a1), (2, .int a2)] rfl ?_
      refine x_iconst (x := 0) dX5_equilibrium_36 rfl ?_
      refine x_istore 0 rfl dX5_equilibrium_37 (Nat.le_of_ble_eq_true rfl) [(5, .int 0), (4, .int 8), (3, .int t2), (0, .ref (w.2.2 4 20 0 0)), (1, .int a1), (2, .int a2)] rfl ?_
      refine x_sub (L1 := [(0, .ref (w.2.2 4 20 0 0)), (1, .int a1), (2, .int a2), (3, .int t2), (4, .int 8), (5, .int 0)]) [3, 4, 5, 2, 1, 0] rfl ?_
      exact TX5_equilibrium_39 _ _ _ _ h
    · have h := x_f hc h
      refine x_bipush (x := (-2)) dX5_equilibrium_18 (by decide) ?_
      exact x_iretH rfl dX5_equilibrium_20 h
set_option maxRecDepth 100000 in
set_option maxHeartbeats 4000000 in
theorem eX5_append {l : Launch} {w : xW} {a1 : Int32} {σ τ : xS} {r : Int32} (h : fX5_append a1 σ = some (r, τ)) : xEV l w yX5_append mX5_append [.ref (w.2.2 4 20 0 0), .int a1] σ (some (.int r)) τ := by
  rw [fX5_append] at h
  refine x_enter (by decide +kernel) rfl (Nat.le_of_ble_eq_true rfl) ?_
  refine x_sub (L1 := [(0, .ref (w.2.2 4 20 0 0)), (1, .int a1)]) [0, 1] rfl ?_
  refine x_iload_n dX5_append_0 rfl 1 rfl ?_
  refine x_iconst (x := 0) dX5_append_1 rfl ?_
  refine x_bipush (x := 127) dX5_append_2 rfl ?_
  obtain ⟨z1, s1, h1, h⟩ := x_b_e h
  refine x_callS (As := [.int a1, .int 0, .int 127]) (st := []) (eX5_isOutside  h1) cs_X5_38 (Nat.le_of_ble_eq_true rfl) rfl (Nat.le_of_ble_eq_true rfl) _ rfl dX5_append_4 [.int z1] rfl ?_
  refine x_if_eq (tgt := 13) dX5_append_7 rfl (fun hc => ?_) (fun hc => ?_)
  · have h := x_t hc h
    refine x_aload_n dX5_append_13 rfl 0 rfl ?_
    refine x_getR (d1 := 4) (K1 := 23) (p1 := 0) (r1 := 0) fl_X5_30 ok_e20 rfl dX5_append_14 ?_
    refine x_getI fl_X5_262 ok_e23 rfl dX5_append_17 ?_
    refine x_bipush (x := 120) dX5_append_20 rfl ?_
    refine x_icmp_lt (tgt := 28) dX5_append_22 rfl (fun hc => ?_) (fun hc => ?_)
    · have h := x_t hc h
      refine x_aload_n dX5_append_28 rfl 0 rfl ?_
      refine x_getR (d1 := 4) (K1 := 23) (p1 := 0) (r1 := 0) fl_X5_30 ok_e20 rfl dX5_append_29 ?_
      refine x_getR (d1 := 4) (K1 := 24) (p1 := 0) (r1 := 0) fl_X5_263 ok_e23 rfl dX5_append_32 ?_
      refine x_aload_n dX5_append_35 rfl 0 rfl ?_
      refine x_getR (d1 := 4) (K1 := 23) (p1 := 0) (r1 := 0) fl_X5_30 ok_e20 rfl dX5_append_36 ?_
      refine x_getI fl_X5_262 ok_e23 rfl dX5_append_39 ?_
      refine x_iload_n dX5_append_42 rfl 1 rfl ?_
      obtain ⟨t2, ht2, h⟩ := x_let_e h
      refine x_nm2 t2 ht2 ?_
      obtain ⟨hg3, h⟩ := x_g_e h
      obtain ⟨s4, hs4, h⟩ := x_let_e h
      refine x_iast 120 t2.toNatClampNeg rfl s4 hs4 rfl rfl rfl ok_e24 hg3 dX5_append_43 ?_
      refine x_aload_n dX5_append_44 rfl 0 rfl ?_
      refine x_getR (d1 := 4) (K1 := 23) (p1 := 0) (r1 := 0) fl_X5_30 ok_e20 rfl dX5_append_45 ?_
      refine x_dup dX5_append_48 rfl ?_
      refine x_getI fl_X5_262 ok_e23 rfl dX5_append_49 ?_
      refine x_iconst (x := 1) dX5_append_52 rfl ?_
      refine x_iadd dX5_append_53 ?_
      obtain ⟨s5, hs5, h⟩ := x_let_e h
      refine x_putI s5 hs5 fp_X5_262 ok_e23 rfl dX5_append_54 ?_
      refine x_aload_n dX5_append_57 rfl 0 rfl ?_
      refine x_getR (d1 := 4) (K1 := 23) (p1 := 0) (r1 := 0) fl_X5_30 ok_e20 rfl dX5_append_58 ?_
      refine x_getI fl_X5_262 ok_e23 rfl dX5_append_61 ?_
      exact x_iretH rfl dX5_append_64 h
    · have h := x_f hc h
      refine x_bipush (x := (-3)) dX5_append_25 (by decide) ?_
      exact x_iretH rfl dX5_append_27 h
  · have h := x_f hc h
    refine x_bipush (x := (-2)) dX5_append_10 (by decide) ?_
    exact x_iretH rfl dX5_append_12 h
set_option maxRecDepth 100000 in
set_option maxHeartbeats 4000000 in
theorem eX5_clearText {l : Launch} {w : xW} {σ τ : xS} {r : Int32} (h : fX5_clearText σ = some (r, τ)) : xEV l w yX5_clearText mX5_clearText [.ref (w.2.2 4 20 0 0)] σ (some (.int r)) τ := by
  rw [fX5_clearText] at h
  refine x_enter (by decide +kernel) rfl (Nat.le_of_ble_eq_true rfl) ?_
  refine x_sub (L1 := [(0, .ref (w.2.2 4 20 0 0))]) [0] rfl ?_
  refine x_aload_n dX5_clearText_0 rfl 0 rfl ?_
  refine x_getR (d1 := 4) (K1 := 23) (p1 := 0) (r1 := 0) fl_X5_30 ok_e20 rfl dX5_clearText_1 ?_
  refine x_getI fl_X5_262 ok_e23 rfl dX5_clearText_4 ?_
  obtain ⟨t1, ht1, h⟩ := x_let_e h
  refine x_istore_n t1 ht1 dX5_clearText_7 rfl (Nat.le_of_ble_eq_true rfl) [(1, .int t1), (0, .ref (w.2.2 4 20 0 0))] rfl ?_
  refine x_aload_n dX5_clearText_8 rfl 1 rfl ?_
  refine x_getR (d1 := 4) (K1 := 23) (p1 := 0) (r1 := 0) fl_X5_30 ok_e20 rfl dX5_clearText_9 ?_
  refine x_iconst (x := 0) dX5_clearText_12 rfl ?_
  obtain ⟨s2, hs2, h⟩ := x_let_e h
  refine x_putI s2 hs2 fp_X5_262 ok_e23 rfl dX5_clearText_13 ?_
  refine x_iload_n dX5_clearText_16 rfl 0 rfl ?_
  exact x_iretH rfl dX5_clearText_17 h
set_option maxRecDepth 100000 in
set_option maxHeartbeats 4000000 in
theorem eX5_faultPosition {l : Launch} {w : xW} {σ τ : xS} {r : Int32} (h : fX5_faultPosition σ = some (r, τ)) : xEV l w yX5_faultPosition mX5_faultPosition [.ref (w.2.2 4 20 0 0)] σ (some (.int r)) τ := by
  rw [fX5_faultPosition] at h
  refine x_enter (by decide +kernel) rfl (Nat.le_of_ble_eq_true rfl) ?_
  refine x_sub (L1 := [(0, .ref (w.2.2 4 20 0 0))]) [0] rfl ?_
  refine x_aload_n dX5_faultPosition_0 rfl 0 rfl ?_
  refine x_getR (d1 := 4) (K1 := 23) (p1 := 0) (r1 := 0) fl_X5_30 ok_e20 rfl dX5_faultPosition_1 ?_
  refine x_aload_n dX5_faultPosition_4 rfl 0 rfl ?_
  refine x_getR (d1 := 0) (K1 := 0) (p1 := 0) (r1 := 0) fl_X5_10 ok_e20 rfl dX5_faultPosition_5 ?_
  refine x_getI fl_X5_140 (ok_a (K := 0) (Nat.le_of_ble_eq_true rfl) (Nat.le_of_ble_eq_true rfl)) rfl dX5_faultPosition_8 ?_
  obtain ⟨z1, s1, h1, h⟩ := x_b_e h
  refine x_callV (As := [.int (σ 0 0 0 0 2)]) (st := []) (eX4_findFault  h1) cv_X5_266 (Nat.le_of_ble_eq_true rfl) ok_e23 rfl (Nat.le_of_ble_eq_true rfl) _ rfl dX5_faultPosition_11 [.int z1] rfl ?_
  refine x_istore_n z1 rfl dX5_faultPosition_14 rfl (Nat.le_of_ble_eq_true rfl) [(1, .int z1), (0, .ref (w.2.2 4 20 0 0))] rfl ?_
  refine x_iload_n dX5_faultPosition_15 rfl 0 rfl ?_
  refine x_iconst (x := (-1)) dX5_faultPosition_16 (by decide) ?_
  refine x_icmp_ne (tgt := 25) dX5_faultPosition_17 rfl (fun hc => ?_) (fun hc => ?_)
  · have h := x_f hc h
    refine x_iload_n dX5_faultPosition_25 rfl 0 rfl ?_
    exact x_iretH rfl dX5_faultPosition_26 h
  · have h := x_t hc h
    refine x_bipush (x := (-5)) dX5_faultPosition_20 (by decide) ?_
    refine x_goto (tgt := 26) dX5_faultPosition_22 rfl ?_
    exact x_iretH rfl dX5_faultPosition_26 h
set_option maxRecDepth 100000 in
set_option maxHeartbeats 4000000 in
theorem TX5_run_216 {l : Launch} {w : xW} {a2 : Int32} {a3 : Int32} {o4 : Option (Nat × Nat)} {k37 : Int32 → Int32 → xS → Option (Int32 × xS)} {σ τ : xS} {r : Int32} (hk37 : ∀ (a2 : Int32) (a3 : Int32) (σ1 : xS), k37 a2 a3 σ1 = some (r, τ) → xAt l w mX5_run 37 [(0, .ref (w.2.2 4 20 0 0)), (2, .int a2), (3, .int a3)] [] σ1 (some (.int r)) τ) (h : BX5_run_216 a2 a3 o4 k37 σ = some (r, τ)) : xAt l w mX5_run 216 [(0, .ref (w.2.2 4 20 0 0)), (2, .int a2), (3, .int a3), (4, x_nvP w o4)] [] σ (some (.int r)) τ := by
  rw [BX5_run_216.eq_def] at h
  rcases o4 with _ | w4
  · refine x_sub (L1 := [(0, .ref (w.2.2 4 20 0 0)), (2, .int a2), (3, .int a3), (4, .null)]) [0, 1, 2, 3] rfl ?_
    refine x_aload_n dX5_run_216 rfl 0 rfl ?_
    refine x_getR (d1 := 4) (K1 := 23) (p1 := 0) (r1 := 0) fl_X5_30 ok_e20 rfl dX5_run_217 ?_
    refine x_getI fl_X5_282 ok_e23 rfl dX5_run_220 ?_
    refine x_bipush (x := 103) dX5_run_223 rfl ?_
    refine x_icmp_ne (tgt := 257) dX5_run_225 rfl (fun hc => ?_) (fun hc => ?_)
    · have h := x_f hc h
      obtain ⟨t6, ht6, h⟩ := x_let_e h
      refine x_iinc t6 1 rfl ht6 dX5_run_257 2 rfl (Nat.le_of_ble_eq_true rfl) [(3, .int t6), (0, .ref (w.2.2 4 20 0 0)), (2, .int a2), (4, .null)] rfl ?_
      refine x_goto (tgt := 37) dX5_run_260 rfl ?_
      refine x_sub (L1 := [(0, .ref (w.2.2 4 20 0 0)), (2, .int a2), (3, .int t6)]) [1, 2, 0] rfl ?_
      exact hk37 _ _ _ h
    · have h := x_t hc h
      refine x_aloadN dX5_run_228 3 rfl ?_
      refine x_ifnullN (tgt := 257) dX5_run_230 rfl ?_
      obtain ⟨t7, ht7, h⟩ := x_let_e h
      refine x_iinc t7 1 rfl ht7 dX5_run_257 2 rfl (Nat.le_of_ble_eq_true rfl) [(3, .int t7), (0, .ref (w.2.2 4 20 0 0)), (2, .int a2), (4, .null)] rfl ?_
      refine x_goto (tgt := 37) dX5_run_260 rfl ?_
      refine x_sub (L1 := [(0, .ref (w.2.2 4 20 0 0)), (2, .int a2), (3, .int t7)]) [1, 2, 0] rfl ?_
      exact hk37 _ _ _ h
  · obtain ⟨hw4, h⟩ := x_g_e h
    refine x_sub (L1 := [(0, .ref (w.2.2 4 20 0 0)), (2, .int a2), (3, .int a3), (4, .ref (w.2.2 w4.1 13 w4.2 0))]) [0, 1, 2, 3] rfl ?_
    refine x_aload_n dX5_run_216 rfl 0 rfl ?_
    refine x_getR (d1 := 4) (K1 := 23) (p1 := 0) (r1 := 0) fl_X5_30 ok_e20 rfl dX5_run_217 ?_
    refine x_getI fl_X5_282 ok_e23 rfl dX5_run_220 ?_
    refine x_bipush (x := 103) dX5_run_223 rfl ?_
    refine x_icmp_ne (tgt := 257) dX5_run_225 rfl (fun hc => ?_) (fun hc => ?_)
    · have h := x_f hc h
      obtain ⟨t8, ht8, h⟩ := x_let_e h
      refine x_iinc t8 1 rfl ht8 dX5_run_257 2 rfl (Nat.le_of_ble_eq_true rfl) [(3, .int t8), (0, .ref (w.2.2 4 20 0 0)), (2, .int a2), (4, .ref (w.2.2 w4.1 13 w4.2 0))] rfl ?_
      refine x_goto (tgt := 37) dX5_run_260 rfl ?_
      refine x_sub (L1 := [(0, .ref (w.2.2 4 20 0 0)), (2, .int a2), (3, .int t8)]) [1, 2, 0] rfl ?_
      exact hk37 _ _ _ h
    · have h := x_t hc h
      refine x_aload dX5_run_228 3 rfl ?_
      refine x_ifnullR dX5_run_230 ?_
      refine x_aload_n dX5_run_233 rfl 0 rfl ?_
      refine x_getR (d1 := 0) (K1 := 0) (p1 := 0) (r1 := 0) fl_X5_10 ok_e20 rfl dX5_run_234 ?_
      refine x_aload dX5_run_237 3 rfl ?_
      refine x_aload_n dX5_run_239 rfl 0 rfl ?_
      refine x_getR (d1 := 4) (K1 := 23) (p1 := 0) (r1 := 0) fl_X5_30 ok_e20 rfl dX5_run_240 ?_
      refine x_getI fl_X5_279 ok_e23 rfl dX5_run_243 ?_
      refine x_aload_n dX5_run_246 rfl 0 rfl ?_
      refine x_getR (d1 := 4) (K1 := 23) (p1 := 0) (r1 := 0) fl_X5_30 ok_e20 rfl dX5_run_247 ?_
      refine x_getI fl_X5_288 ok_e23 rfl dX5_run_250 ?_
      obtain ⟨z9, s9, h9, h⟩ := x_b_e h
      refine x_callV (As := [.ref (w.2.2 w4.1 13 w4.2 0), .int (σ 4 23 0 0 5), .int (σ 4 23 0 0 7)]) (st := []) (eX0_giveGrant (Nat.le_of_ble_eq_true rfl) (ok2_d hw4) (ok2_p hw4) h9) cv_X5_118 (Nat.le_of_ble_eq_true rfl) (ok_a (K := 0) (Nat.le_of_ble_eq_true rfl) (Nat.le_of_ble_eq_true rfl)) rfl (Nat.le_of_ble_eq_true rfl) _ rfl dX5_run_253 [.int z9] rfl ?_
      refine x_pop dX5_run_256 rfl ?_
      obtain ⟨t10, ht10, h⟩ := x_let_e h
      refine x_iinc t10 1 rfl ht10 dX5_run_257 2 rfl (Nat.le_of_ble_eq_true rfl) [(3, .int t10), (0, .ref (w.2.2 4 20 0 0)), (2, .int a2), (4, .ref (w.2.2 w4.1 13 w4.2 0))] rfl ?_
      refine x_goto (tgt := 37) dX5_run_260 rfl ?_
      refine x_sub (L1 := [(0, .ref (w.2.2 4 20 0 0)), (2, .int a2), (3, .int t10)]) [1, 2, 0] rfl ?_
      exact hk37 _ _ _ h
set_option maxRecDepth 100000 in
set_option maxHeartbeats 4000000 in
theorem TX5_run_157 {l : Launch} {w : xW} {a2 : Int32} {a3 : Int32} {k37 : Int32 → Int32 → xS → Option (Int32 × xS)} {τ : xS} {r : Int32} (hk37 : ∀ (a2 : Int32) (a3 : Int32) (σ1 : xS), k37 a2 a3 σ1 = some (r, τ) → xAt l w mX5_run 37 [(0, .ref (w.2.2 4 20 0 0)), (2, .int a2), (3, .int a3)] [] σ1 (some (.int r)) τ) : ∀ (n : Nat) (a5 : Int32) (σ : xS), BX5_run_157 a2 a3 k37 n a5 σ = some (r, τ) → xAt l w mX5_run 157 [(0, .ref (w.2.2 4 20 0 0)), (2, .int a2), (3, .int a3), (5, .int a5)] [] σ (some (.int r)) τ := by
  intro n
  induction n with
  | zero => intro a5 σ h; cases h
  | succ n ih =>
    intro a5 σ h
    rw [BX5_run_157] at h
    refine x_iload dX5_run_157 3 rfl ?_
    refine x_aload_n dX5_run_159 rfl 0 rfl ?_
    refine x_getR (d1 := 4) (K1 := 23) (p1 := 0) (r1 := 0) fl_X5_30 ok_e20 rfl dX5_run_160 ?_
    refine x_getI fl_X5_288 ok_e23 rfl dX5_run_163 ?_
    refine x_icmp_ge (tgt := 183) dX5_run_166 rfl (fun hc => ?_) (fun hc => ?_)
    · have h := x_t hc h
      refine x_goto (tgt := 257) dX5_run_183 rfl ?_
      obtain ⟨t11, ht11, h⟩ := x_let_e h
      refine x_iinc t11 1 rfl ht11 dX5_run_257 2 rfl (Nat.le_of_ble_eq_true rfl) [(3, .int t11), (0, .ref (w.2.2 4 20 0 0)), (2, .int a2), (5, .int a5)] rfl ?_
      refine x_goto (tgt := 37) dX5_run_260 rfl ?_
      refine x_sub (L1 := [(0, .ref (w.2.2 4 20 0 0)), (2, .int a2), (3, .int t11)]) [1, 2, 0] rfl ?_
      exact hk37 _ _ _ h
    · have h := x_f hc h
      refine x_aload_n dX5_run_169 rfl 0 rfl ?_
      refine x_getR (d1 := 0) (K1 := 0) (p1 := 0) (r1 := 0) fl_X5_10 ok_e20 rfl dX5_run_170 ?_
      obtain ⟨z12, s12, h12, h⟩ := x_b_e h
      refine x_callV (As := []) (st := []) (eX0_passTick (Nat.le_of_ble_eq_true rfl) h12) cv_X5_133 (Nat.le_of_ble_eq_true rfl) (ok_a (K := 0) (Nat.le_of_ble_eq_true rfl) (Nat.le_of_ble_eq_true rfl)) rfl (Nat.le_of_ble_eq_true rfl) _ rfl dX5_run_173 [.int z12] rfl ?_
      refine x_pop dX5_run_176 rfl ?_
      obtain ⟨t13, ht13, h⟩ := x_let_e h
      refine x_iinc t13 1 rfl ht13 dX5_run_177 3 rfl (Nat.le_of_ble_eq_true rfl) [(5, .int t13), (0, .ref (w.2.2 4 20 0 0)), (2, .int a2), (3, .int a3)] rfl ?_
      refine x_goto (tgt := 157) dX5_run_180 rfl ?_
      refine x_sub (L1 := [(0, .ref (w.2.2 4 20 0 0)), (2, .int a2), (3, .int a3), (5, .int t13)]) [1, 2, 3, 0] rfl ?_
      exact ih _ _ h
set_option maxRecDepth 100000 in
set_option maxHeartbeats 4000000 in
theorem TX5_run_37 {l : Launch} {w : xW} {τ : xS} {r : Int32} : ∀ (n : Nat) (a2 : Int32) (a3 : Int32) (σ : xS), BX5_run_37 n a2 a3 σ = some (r, τ) → xAt l w mX5_run 37 [(0, .ref (w.2.2 4 20 0 0)), (2, .int a2), (3, .int a3)] [] σ (some (.int r)) τ := by
  intro n
  induction n with
  | zero => intro a2 a3 σ h; cases h
  | succ n ih =>
    intro a2 a3 σ h
    rw [BX5_run_37] at h
    refine x_iload_n dX5_run_37 rfl 2 rfl ?_
    refine x_bipush (x := 120) dX5_run_38 rfl ?_
    refine x_icmp_ge (tgt := 263) dX5_run_40 rfl (fun hc => ?_) (fun hc => ?_)
    · have h := x_t hc h
      refine x_iload_n dX5_run_263 rfl 1 rfl ?_
      exact x_iretH rfl dX5_run_264 h
    · have h := x_f hc h
      refine x_aload_n dX5_run_43 rfl 0 rfl ?_
      refine x_getR (d1 := 4) (K1 := 23) (p1 := 0) (r1 := 0) fl_X5_30 ok_e20 rfl dX5_run_44 ?_
      obtain ⟨z3, s3, h3, h⟩ := x_b_e h
      refine x_callV (As := []) (st := []) (eX4_hasMore  h3) cv_X5_272 (Nat.le_of_ble_eq_true rfl) ok_e23 rfl (Nat.le_of_ble_eq_true rfl) _ rfl dX5_run_47 [.int z3] rfl ?_
      refine x_if_eq (tgt := 263) dX5_run_50 rfl (fun hc => ?_) (fun hc => ?_)
      · have h := x_t hc h
        refine x_iload_n dX5_run_263 rfl 1 rfl ?_
        exact x_iretH rfl dX5_run_264 h
      · have h := x_f hc h
        refine x_aload_n dX5_run_53 rfl 0 rfl ?_
        refine x_getR (d1 := 4) (K1 := 23) (p1 := 0) (r1 := 0) fl_X5_30 ok_e20 rfl dX5_run_54 ?_
        refine x_aload_n dX5_run_57 rfl 0 rfl ?_
        refine x_getR (d1 := 0) (K1 := 0) (p1 := 0) (r1 := 0) fl_X5_10 ok_e20 rfl dX5_run_58 ?_
        refine x_getI fl_X5_140 (ok_a (K := 0) (Nat.le_of_ble_eq_true rfl) (Nat.le_of_ble_eq_true rfl)) rfl dX5_run_61 ?_
        obtain ⟨z4, s4, h4, h⟩ := x_b_e h
        refine x_callV (As := [.int (s3 0 0 0 0 2)]) (st := []) (eX4_readOrder  h4) cv_X5_275 (Nat.le_of_ble_eq_true rfl) ok_e23 rfl (Nat.le_of_ble_eq_true rfl) _ rfl dX5_run_64 [] rfl ?_
        refine x_aload_n dX5_run_67 rfl 0 rfl ?_
        refine x_getR (d1 := 0) (K1 := 0) (p1 := 0) (r1 := 0) fl_X5_10 ok_e20 rfl dX5_run_68 ?_
        refine x_aload_n dX5_run_71 rfl 0 rfl ?_
        refine x_getR (d1 := 4) (K1 := 23) (p1 := 0) (r1 := 0) fl_X5_30 ok_e20 rfl dX5_run_72 ?_
        refine x_getI fl_X5_279 ok_e23 rfl dX5_run_75 ?_
        obtain ⟨z5, s5, h5, h⟩ := x_b_e h
        refine x_callV (As := [.int (s4 4 23 0 0 5)]) (st := []) (eX0_portAt (Nat.le_of_ble_eq_true rfl) h5) cv_X5_52 (Nat.le_of_ble_eq_true rfl) (ok_a (K := 0) (Nat.le_of_ble_eq_true rfl) (Nat.le_of_ble_eq_true rfl)) rfl (Nat.le_of_ble_eq_true rfl) _ rfl dX5_run_78 [x_nvP w z5] rfl ?_
        rcases z5 with _ | t5
        · refine x_st [.null] rfl ?_
          refine x_astoreN dX5_run_81 (Nat.le_of_ble_eq_true rfl) [(4, .null), (0, .ref (w.2.2 4 20 0 0)), (2, .int a2), (3, .int a3)] rfl ?_
          refine x_aload_n dX5_run_83 rfl 1 rfl ?_
          refine x_getR (d1 := 4) (K1 := 23) (p1 := 0) (r1 := 0) fl_X5_30 ok_e20 rfl dX5_run_84 ?_
          refine x_getI fl_X5_282 ok_e23 rfl dX5_run_87 ?_
          refine x_bipush (x := 97) dX5_run_90 rfl ?_
          refine x_icmp_ne (tgt := 142) dX5_run_92 rfl (fun hc => ?_) (fun hc => ?_)
          · have h := x_f hc h
            refine x_aload_n dX5_run_142 rfl 1 rfl ?_
            refine x_getR (d1 := 4) (K1 := 23) (p1 := 0) (r1 := 0) fl_X5_30 ok_e20 rfl dX5_run_143 ?_
            refine x_getI fl_X5_282 ok_e23 rfl dX5_run_146 ?_
            refine x_bipush (x := 116) dX5_run_149 rfl ?_
            refine x_icmp_ne (tgt := 186) dX5_run_151 rfl (fun hc => ?_) (fun hc => ?_)
            · have h := x_f hc h
              refine x_aload_n dX5_run_186 rfl 1 rfl ?_
              refine x_getR (d1 := 4) (K1 := 23) (p1 := 0) (r1 := 0) fl_X5_30 ok_e20 rfl dX5_run_187 ?_
              refine x_getI fl_X5_282 ok_e23 rfl dX5_run_190 ?_
              refine x_bipush (x := 102) dX5_run_193 rfl ?_
              refine x_icmp_ne (tgt := 216) dX5_run_195 rfl (fun hc => ?_) (fun hc => ?_)
              · have h := x_f hc h
                refine x_sub (L1 := [(0, .ref (w.2.2 4 20 0 0)), (2, .int a2), (3, .int a3), (4, .null)]) [1, 2, 3, 0] rfl ?_
                exact TX5_run_216 (o4 := none) ih h
              · have h := x_t hc h
                refine x_aloadN dX5_run_198 0 rfl ?_
                refine x_ifnullN (tgt := 216) dX5_run_200 rfl ?_
                refine x_sub (L1 := [(0, .ref (w.2.2 4 20 0 0)), (2, .int a2), (3, .int a3), (4, .null)]) [1, 2, 3, 0] rfl ?_
                exact TX5_run_216 (o4 := none) ih h
            · have h := x_t hc h
              refine x_iconst (x := 0) dX5_run_154 rfl ?_
              refine x_istore 0 rfl dX5_run_155 (Nat.le_of_ble_eq_true rfl) [(5, .int 0), (4, .null), (0, .ref (w.2.2 4 20 0 0)), (2, .int a2), (3, .int a3)] rfl ?_
              refine x_sub (L1 := [(0, .ref (w.2.2 4 20 0 0)), (2, .int a2), (3, .int a3), (5, .int 0)]) [2, 3, 4, 0] rfl ?_
              exact TX5_run_157 ih _ _ _ h
          · have h := x_t hc h
            refine x_iload_n dX5_run_95 rfl 2 rfl ?_
            refine x_aload_n dX5_run_96 rfl 1 rfl ?_
            refine x_aloadN dX5_run_97 0 rfl ?_
            refine x_aload_n dX5_run_99 rfl 1 rfl ?_
            refine x_getR (d1 := 0) (K1 := 0) (p1 := 0) (r1 := 0) fl_X5_10 ok_e20 rfl dX5_run_100 ?_
            refine x_aload_n dX5_run_103 rfl 1 rfl ?_
            refine x_getR (d1 := 4) (K1 := 23) (p1 := 0) (r1 := 0) fl_X5_30 ok_e20 rfl dX5_run_104 ?_
            refine x_getI fl_X5_279 ok_e23 rfl dX5_run_107 ?_
            refine x_aload_n dX5_run_110 rfl 1 rfl ?_
            refine x_getR (d1 := 4) (K1 := 23) (p1 := 0) (r1 := 0) fl_X5_30 ok_e20 rfl dX5_run_111 ?_
            refine x_getI fl_X5_285 ok_e23 rfl dX5_run_114 ?_
            obtain ⟨z14, s14, h14, h⟩ := x_b_e h
            refine x_callV (As := [.int (s5 4 23 0 0 5), .int (s5 4 23 0 0 6)]) (st := [.null, .ref (w.2.2 4 20 0 0), .int a2]) (eX0_queueAt (Nat.le_of_ble_eq_true rfl) h14) cv_X5_74 (Nat.le_of_ble_eq_true rfl) (ok_a (K := 0) (Nat.le_of_ble_eq_true rfl) (Nat.le_of_ble_eq_true rfl)) rfl (Nat.le_of_ble_eq_true rfl) _ rfl dX5_run_117 [x_nvQ w z14, .null, .ref (w.2.2 4 20 0 0), .int a2] rfl ?_
            rcases z14 with _ | t14
            · refine x_st [.null, .null, .ref (w.2.2 4 20 0 0), .int a2] rfl ?_
              refine x_aload_n dX5_run_120 rfl 1 rfl ?_
              refine x_getR (d1 := 4) (K1 := 23) (p1 := 0) (r1 := 0) fl_X5_30 ok_e20 rfl dX5_run_121 ?_
              refine x_getI fl_X5_288 ok_e23 rfl dX5_run_124 ?_
              refine x_aload_n dX5_run_127 rfl 1 rfl ?_
              refine x_getR (d1 := 4) (K1 := 23) (p1 := 0) (r1 := 0) fl_X5_30 ok_e20 rfl dX5_run_128 ?_
              refine x_getI fl_X5_291 ok_e23 rfl dX5_run_131 ?_
              obtain ⟨z15, s15, h15, h⟩ := x_b_e h
              refine x_callV (As := [.null, .null, .int (s14 4 23 0 0 7), .int (s14 4 23 0 0 8)]) (st := [.int a2]) (eX5_lossOfArrivals (o1 := none) (o2 := none)  h15) cv_X5_157 (Nat.le_of_ble_eq_true rfl) ok_e20 rfl (Nat.le_of_ble_eq_true rfl) _ rfl dX5_run_134 [.int z15, .int a2] rfl ?_
              refine x_iadd dX5_run_137 ?_
              obtain ⟨t16, ht16, h⟩ := x_let_e h
              refine x_istore_n t16 ht16 dX5_run_138 rfl (Nat.le_of_ble_eq_true rfl) [(2, .int t16), (4, .null), (0, .ref (w.2.2 4 20 0 0)), (3, .int a3)] rfl ?_
              refine x_goto (tgt := 257) dX5_run_139 rfl ?_
              obtain ⟨t17, ht17, h⟩ := x_let_e h
              refine x_iinc t17 1 rfl ht17 dX5_run_257 3 rfl (Nat.le_of_ble_eq_true rfl) [(3, .int t17), (2, .int t16), (4, .null), (0, .ref (w.2.2 4 20 0 0))] rfl ?_
              refine x_goto (tgt := 37) dX5_run_260 rfl ?_
              refine x_sub (L1 := [(0, .ref (w.2.2 4 20 0 0)), (2, .int t16), (3, .int t17)]) [3, 1, 0] rfl ?_
              exact ih _ _ _ h
            · obtain ⟨hg14, h⟩ := x_g_e h
              refine x_st [.ref (w.2.2 t14.1 16 t14.2.1 t14.2.2), .null, .ref (w.2.2 4 20 0 0), .int a2] rfl ?_
              refine x_aload_n dX5_run_120 rfl 1 rfl ?_
              refine x_getR (d1 := 4) (K1 := 23) (p1 := 0) (r1 := 0) fl_X5_30 ok_e20 rfl dX5_run_121 ?_
              refine x_getI fl_X5_288 ok_e23 rfl dX5_run_124 ?_
              refine x_aload_n dX5_run_127 rfl 1 rfl ?_
              refine x_getR (d1 := 4) (K1 := 23) (p1 := 0) (r1 := 0) fl_X5_30 ok_e20 rfl dX5_run_128 ?_
              refine x_getI fl_X5_291 ok_e23 rfl dX5_run_131 ?_
              obtain ⟨z18, s18, h18, h⟩ := x_b_e h
              refine x_callV (As := [.null, .ref (w.2.2 t14.1 16 t14.2.1 t14.2.2), .int (s14 4 23 0 0 7), .int (s14 4 23 0 0 8)]) (st := [.int a2]) (eX5_lossOfArrivals (o1 := none) (o2 := (some (t14.1, t14.2.1, t14.2.2)))  h18) cv_X5_157 (Nat.le_of_ble_eq_true rfl) ok_e20 rfl (Nat.le_of_ble_eq_true rfl) _ rfl dX5_run_134 [.int z18, .int a2] rfl ?_
              refine x_iadd dX5_run_137 ?_
              obtain ⟨t19, ht19, h⟩ := x_let_e h
              refine x_istore_n t19 ht19 dX5_run_138 rfl (Nat.le_of_ble_eq_true rfl) [(2, .int t19), (4, .null), (0, .ref (w.2.2 4 20 0 0)), (3, .int a3)] rfl ?_
              refine x_goto (tgt := 257) dX5_run_139 rfl ?_
              obtain ⟨t20, ht20, h⟩ := x_let_e h
              refine x_iinc t20 1 rfl ht20 dX5_run_257 3 rfl (Nat.le_of_ble_eq_true rfl) [(3, .int t20), (2, .int t19), (4, .null), (0, .ref (w.2.2 4 20 0 0))] rfl ?_
              refine x_goto (tgt := 37) dX5_run_260 rfl ?_
              refine x_sub (L1 := [(0, .ref (w.2.2 4 20 0 0)), (2, .int t19), (3, .int t20)]) [3, 1, 0] rfl ?_
              exact ih _ _ _ h
        · obtain ⟨hg5, h⟩ := x_g_e h
          refine x_st [.ref (w.2.2 t5.1 13 t5.2 0)] rfl ?_
          refine x_astore dX5_run_81 (Nat.le_of_ble_eq_true rfl) [(4, .ref (w.2.2 t5.1 13 t5.2 0)), (0, .ref (w.2.2 4 20 0 0)), (2, .int a2), (3, .int a3)] rfl ?_
          refine x_aload_n dX5_run_83 rfl 1 rfl ?_
          refine x_getR (d1 := 4) (K1 := 23) (p1 := 0) (r1 := 0) fl_X5_30 ok_e20 rfl dX5_run_84 ?_
          refine x_getI fl_X5_282 ok_e23 rfl dX5_run_87 ?_
          refine x_bipush (x := 97) dX5_run_90 rfl ?_
          refine x_icmp_ne (tgt := 142) dX5_run_92 rfl (fun hc => ?_) (fun hc => ?_)
          · have h := x_f hc h
            refine x_aload_n dX5_run_142 rfl 1 rfl ?_
            refine x_getR (d1 := 4) (K1 := 23) (p1 := 0) (r1 := 0) fl_X5_30 ok_e20 rfl dX5_run_143 ?_
            refine x_getI fl_X5_282 ok_e23 rfl dX5_run_146 ?_
            refine x_bipush (x := 116) dX5_run_149 rfl ?_
            refine x_icmp_ne (tgt := 186) dX5_run_151 rfl (fun hc => ?_) (fun hc => ?_)
            · have h := x_f hc h
              refine x_aload_n dX5_run_186 rfl 1 rfl ?_
              refine x_getR (d1 := 4) (K1 := 23) (p1 := 0) (r1 := 0) fl_X5_30 ok_e20 rfl dX5_run_187 ?_
              refine x_getI fl_X5_282 ok_e23 rfl dX5_run_190 ?_
              refine x_bipush (x := 102) dX5_run_193 rfl ?_
              refine x_icmp_ne (tgt := 216) dX5_run_195 rfl (fun hc => ?_) (fun hc => ?_)
              · have h := x_f hc h
                refine x_sub (L1 := [(0, .ref (w.2.2 4 20 0 0)), (2, .int a2), (3, .int a3), (4, .ref (w.2.2 t5.1 13 t5.2 0))]) [1, 2, 3, 0] rfl ?_
                exact TX5_run_216 (o4 := (some (t5.1, t5.2))) ih h
              · have h := x_t hc h
                refine x_aload dX5_run_198 0 rfl ?_
                refine x_ifnullR dX5_run_200 ?_
                refine x_aload_n dX5_run_203 rfl 1 rfl ?_
                refine x_getR (d1 := 0) (K1 := 0) (p1 := 0) (r1 := 0) fl_X5_10 ok_e20 rfl dX5_run_204 ?_
                refine x_aload dX5_run_207 0 rfl ?_
                obtain ⟨z21, s21, h21, h⟩ := x_b_e h
                refine x_callV (As := [.ref (w.2.2 t5.1 13 t5.2 0)]) (st := []) (eX0_discardAll (Nat.le_of_ble_eq_true rfl) (ok2_d hg5) (ok2_p hg5) h21) cv_X5_136 (Nat.le_of_ble_eq_true rfl) (ok_a (K := 0) (Nat.le_of_ble_eq_true rfl) (Nat.le_of_ble_eq_true rfl)) rfl (Nat.le_of_ble_eq_true rfl) _ rfl dX5_run_209 [.int z21] rfl ?_
                refine x_pop dX5_run_212 rfl ?_
                refine x_goto (tgt := 257) dX5_run_213 rfl ?_
                obtain ⟨t22, ht22, h⟩ := x_let_e h
                refine x_iinc t22 1 rfl ht22 dX5_run_257 3 rfl (Nat.le_of_ble_eq_true rfl) [(3, .int t22), (4, .ref (w.2.2 t5.1 13 t5.2 0)), (0, .ref (w.2.2 4 20 0 0)), (2, .int a2)] rfl ?_
                refine x_goto (tgt := 37) dX5_run_260 rfl ?_
                refine x_sub (L1 := [(0, .ref (w.2.2 4 20 0 0)), (2, .int a2), (3, .int t22)]) [2, 3, 0] rfl ?_
                exact ih _ _ _ h
            · have h := x_t hc h
              refine x_iconst (x := 0) dX5_run_154 rfl ?_
              refine x_istore 0 rfl dX5_run_155 (Nat.le_of_ble_eq_true rfl) [(5, .int 0), (4, .ref (w.2.2 t5.1 13 t5.2 0)), (0, .ref (w.2.2 4 20 0 0)), (2, .int a2), (3, .int a3)] rfl ?_
              refine x_sub (L1 := [(0, .ref (w.2.2 4 20 0 0)), (2, .int a2), (3, .int a3), (5, .int 0)]) [2, 3, 4, 0] rfl ?_
              exact TX5_run_157 ih _ _ _ h
          · have h := x_t hc h
            refine x_iload_n dX5_run_95 rfl 2 rfl ?_
            refine x_aload_n dX5_run_96 rfl 1 rfl ?_
            refine x_aload dX5_run_97 0 rfl ?_
            refine x_aload_n dX5_run_99 rfl 1 rfl ?_
            refine x_getR (d1 := 0) (K1 := 0) (p1 := 0) (r1 := 0) fl_X5_10 ok_e20 rfl dX5_run_100 ?_
            refine x_aload_n dX5_run_103 rfl 1 rfl ?_
            refine x_getR (d1 := 4) (K1 := 23) (p1 := 0) (r1 := 0) fl_X5_30 ok_e20 rfl dX5_run_104 ?_
            refine x_getI fl_X5_279 ok_e23 rfl dX5_run_107 ?_
            refine x_aload_n dX5_run_110 rfl 1 rfl ?_
            refine x_getR (d1 := 4) (K1 := 23) (p1 := 0) (r1 := 0) fl_X5_30 ok_e20 rfl dX5_run_111 ?_
            refine x_getI fl_X5_285 ok_e23 rfl dX5_run_114 ?_
            obtain ⟨z23, s23, h23, h⟩ := x_b_e h
            refine x_callV (As := [.int (s5 4 23 0 0 5), .int (s5 4 23 0 0 6)]) (st := [.ref (w.2.2 t5.1 13 t5.2 0), .ref (w.2.2 4 20 0 0), .int a2]) (eX0_queueAt (Nat.le_of_ble_eq_true rfl) h23) cv_X5_74 (Nat.le_of_ble_eq_true rfl) (ok_a (K := 0) (Nat.le_of_ble_eq_true rfl) (Nat.le_of_ble_eq_true rfl)) rfl (Nat.le_of_ble_eq_true rfl) _ rfl dX5_run_117 [x_nvQ w z23, .ref (w.2.2 t5.1 13 t5.2 0), .ref (w.2.2 4 20 0 0), .int a2] rfl ?_
            rcases z23 with _ | t23
            · refine x_st [.null, .ref (w.2.2 t5.1 13 t5.2 0), .ref (w.2.2 4 20 0 0), .int a2] rfl ?_
              refine x_aload_n dX5_run_120 rfl 1 rfl ?_
              refine x_getR (d1 := 4) (K1 := 23) (p1 := 0) (r1 := 0) fl_X5_30 ok_e20 rfl dX5_run_121 ?_
              refine x_getI fl_X5_288 ok_e23 rfl dX5_run_124 ?_
              refine x_aload_n dX5_run_127 rfl 1 rfl ?_
              refine x_getR (d1 := 4) (K1 := 23) (p1 := 0) (r1 := 0) fl_X5_30 ok_e20 rfl dX5_run_128 ?_
              refine x_getI fl_X5_291 ok_e23 rfl dX5_run_131 ?_
              obtain ⟨z24, s24, h24, h⟩ := x_b_e h
              refine x_callV (As := [.ref (w.2.2 t5.1 13 t5.2 0), .null, .int (s23 4 23 0 0 7), .int (s23 4 23 0 0 8)]) (st := [.int a2]) (eX5_lossOfArrivals (o1 := (some (t5.1, t5.2))) (o2 := none)  h24) cv_X5_157 (Nat.le_of_ble_eq_true rfl) ok_e20 rfl (Nat.le_of_ble_eq_true rfl) _ rfl dX5_run_134 [.int z24, .int a2] rfl ?_
              refine x_iadd dX5_run_137 ?_
              obtain ⟨t25, ht25, h⟩ := x_let_e h
              refine x_istore_n t25 ht25 dX5_run_138 rfl (Nat.le_of_ble_eq_true rfl) [(2, .int t25), (4, .ref (w.2.2 t5.1 13 t5.2 0)), (0, .ref (w.2.2 4 20 0 0)), (3, .int a3)] rfl ?_
              refine x_goto (tgt := 257) dX5_run_139 rfl ?_
              obtain ⟨t26, ht26, h⟩ := x_let_e h
              refine x_iinc t26 1 rfl ht26 dX5_run_257 3 rfl (Nat.le_of_ble_eq_true rfl) [(3, .int t26), (2, .int t25), (4, .ref (w.2.2 t5.1 13 t5.2 0)), (0, .ref (w.2.2 4 20 0 0))] rfl ?_
              refine x_goto (tgt := 37) dX5_run_260 rfl ?_
              refine x_sub (L1 := [(0, .ref (w.2.2 4 20 0 0)), (2, .int t25), (3, .int t26)]) [3, 1, 0] rfl ?_
              exact ih _ _ _ h
            · obtain ⟨hg23, h⟩ := x_g_e h
              refine x_st [.ref (w.2.2 t23.1 16 t23.2.1 t23.2.2), .ref (w.2.2 t5.1 13 t5.2 0), .ref (w.2.2 4 20 0 0), .int a2] rfl ?_
              refine x_aload_n dX5_run_120 rfl 1 rfl ?_
              refine x_getR (d1 := 4) (K1 := 23) (p1 := 0) (r1 := 0) fl_X5_30 ok_e20 rfl dX5_run_121 ?_
              refine x_getI fl_X5_288 ok_e23 rfl dX5_run_124 ?_
              refine x_aload_n dX5_run_127 rfl 1 rfl ?_
              refine x_getR (d1 := 4) (K1 := 23) (p1 := 0) (r1 := 0) fl_X5_30 ok_e20 rfl dX5_run_128 ?_
              refine x_getI fl_X5_291 ok_e23 rfl dX5_run_131 ?_
              obtain ⟨z27, s27, h27, h⟩ := x_b_e h
              refine x_callV (As := [.ref (w.2.2 t5.1 13 t5.2 0), .ref (w.2.2 t23.1 16 t23.2.1 t23.2.2), .int (s23 4 23 0 0 7), .int (s23 4 23 0 0 8)]) (st := [.int a2]) (eX5_lossOfArrivals (o1 := (some (t5.1, t5.2))) (o2 := (some (t23.1, t23.2.1, t23.2.2)))  h27) cv_X5_157 (Nat.le_of_ble_eq_true rfl) ok_e20 rfl (Nat.le_of_ble_eq_true rfl) _ rfl dX5_run_134 [.int z27, .int a2] rfl ?_
              refine x_iadd dX5_run_137 ?_
              obtain ⟨t28, ht28, h⟩ := x_let_e h
              refine x_istore_n t28 ht28 dX5_run_138 rfl (Nat.le_of_ble_eq_true rfl) [(2, .int t28), (4, .ref (w.2.2 t5.1 13 t5.2 0)), (0, .ref (w.2.2 4 20 0 0)), (3, .int a3)] rfl ?_
              refine x_goto (tgt := 257) dX5_run_139 rfl ?_
              obtain ⟨t29, ht29, h⟩ := x_let_e h
              refine x_iinc t29 1 rfl ht29 dX5_run_257 3 rfl (Nat.le_of_ble_eq_true rfl) [(3, .int t29), (2, .int t28), (4, .ref (w.2.2 t5.1 13 t5.2 0)), (0, .ref (w.2.2 4 20 0 0))] rfl ?_
              refine x_goto (tgt := 37) dX5_run_260 rfl ?_
              refine x_sub (L1 := [(0, .ref (w.2.2 4 20 0 0)), (2, .int t28), (3, .int t29)]) [3, 1, 0] rfl ?_
              exact ih _ _ _ h
set_option maxRecDepth 100000 in
set_option maxHeartbeats 4000000 in
theorem eX5_run {l : Launch} {w : xW} {σ τ : xS} {r : Int32} (h : fX5_run σ = some (r, τ)) : xEV l w yX5_run mX5_run [.ref (w.2.2 4 20 0 0)] σ (some (.int r)) τ := by
  rw [fX5_run] at h
  refine x_enter (by decide +kernel) rfl (Nat.le_of_ble_eq_true rfl) ?_
  refine x_sub (L1 := [(0, .ref (w.2.2 4 20 0 0))]) [0] rfl ?_
  refine x_aload_n dX5_run_0 rfl 0 rfl ?_
  refine x_getR (d1 := 4) (K1 := 23) (p1 := 0) (r1 := 0) fl_X5_30 ok_e20 rfl dX5_run_1 ?_
  refine x_aload_n dX5_run_4 rfl 0 rfl ?_
  refine x_getR (d1 := 0) (K1 := 0) (p1 := 0) (r1 := 0) fl_X5_10 ok_e20 rfl dX5_run_5 ?_
  refine x_getI fl_X5_140 (ok_a (K := 0) (Nat.le_of_ble_eq_true rfl) (Nat.le_of_ble_eq_true rfl)) rfl dX5_run_8 ?_
  obtain ⟨z1, s1, h1, h⟩ := x_b_e h
  refine x_callV (As := [.int (σ 0 0 0 0 2)]) (st := []) (eX4_findFault  h1) cv_X5_266 (Nat.le_of_ble_eq_true rfl) ok_e23 rfl (Nat.le_of_ble_eq_true rfl) _ rfl dX5_run_11 [.int z1] rfl ?_
  refine x_istore_n z1 rfl dX5_run_14 rfl (Nat.le_of_ble_eq_true rfl) [(1, .int z1), (0, .ref (w.2.2 4 20 0 0))] rfl ?_
  refine x_iload_n dX5_run_15 rfl 0 rfl ?_
  refine x_iconst (x := (-1)) dX5_run_16 (by decide) ?_
  refine x_icmp_eq (tgt := 26) dX5_run_17 rfl (fun hc => ?_) (fun hc => ?_)
  · have h := x_t hc h
    refine x_iconst (x := 0) dX5_run_26 rfl ?_
    refine x_istore_n 0 rfl dX5_run_27 rfl (Nat.le_of_ble_eq_true rfl) [(2, .int 0), (1, .int z1), (0, .ref (w.2.2 4 20 0 0))] rfl ?_
    refine x_aload_n dX5_run_28 rfl 2 rfl ?_
    refine x_getR (d1 := 4) (K1 := 23) (p1 := 0) (r1 := 0) fl_X5_30 ok_e20 rfl dX5_run_29 ?_
    obtain ⟨z2, s2, h2, h⟩ := x_b_e h
    refine x_callV (As := []) (st := []) (eX4_rewind  h2) cv_X5_269 (Nat.le_of_ble_eq_true rfl) ok_e23 rfl (Nat.le_of_ble_eq_true rfl) _ rfl dX5_run_32 [] rfl ?_
    refine x_iconst (x := 0) dX5_run_35 rfl ?_
    refine x_istore_n 0 rfl dX5_run_36 rfl (Nat.le_of_ble_eq_true rfl) [(3, .int 0), (2, .int 0), (1, .int z1), (0, .ref (w.2.2 4 20 0 0))] rfl ?_
    refine x_sub (L1 := [(0, .ref (w.2.2 4 20 0 0)), (2, .int 0), (3, .int 0)]) [3, 1, 0] rfl ?_
    exact TX5_run_37 _ _ _ _ h
  · have h := x_f hc h
    refine x_sipush (x := (-1000)) dX5_run_20 (by decide) ?_
    refine x_iload_n dX5_run_23 rfl 0 rfl ?_
    refine x_isub dX5_run_24 ?_
    exact x_iretH rfl dX5_run_25 h
set_option maxRecDepth 100000 in
set_option maxHeartbeats 4000000 in
theorem eX5_save {l : Launch} {w : xW} {a1 : Int32} {σ τ : xS} {r : Int32} (h : fX5_save a1 σ = some (r, τ)) : xEV l w yX5_save mX5_save [.ref (w.2.2 4 20 0 0), .int a1] σ (some (.int r)) τ := by
  rw [fX5_save] at h
  refine x_enter (by decide +kernel) rfl (Nat.le_of_ble_eq_true rfl) ?_
  refine x_sub (L1 := [(0, .ref (w.2.2 4 20 0 0)), (1, .int a1)]) [0, 1] rfl ?_
  refine x_iload_n dX5_save_0 rfl 1 rfl ?_
  refine x_iconst (x := 0) dX5_save_1 rfl ?_
  refine x_iconst (x := 1) dX5_save_2 rfl ?_
  obtain ⟨z1, s1, h1, h⟩ := x_b_e h
  refine x_callS (As := [.int a1, .int 0, .int 1]) (st := []) (eX5_isOutside  h1) cs_X5_38 (Nat.le_of_ble_eq_true rfl) rfl (Nat.le_of_ble_eq_true rfl) _ rfl dX5_save_3 [.int z1] rfl ?_
  refine x_if_eq (tgt := 11) dX5_save_6 rfl (fun hc => ?_) (fun hc => ?_)
  · have h := x_t hc h
    refine x_aload_n dX5_save_11 rfl 0 rfl ?_
    refine x_getR (d1 := 4) (K1 := 21) (p1 := 0) (r1 := 0) fl_X5_19 ok_e20 rfl dX5_save_12 ?_
    refine x_iload_n dX5_save_15 rfl 1 rfl ?_
    obtain ⟨hg2, h⟩ := x_g_e h
    refine x_aald (d1 := (a1.toNatClampNeg + 2)) (K1 := 0) (p1 := 0) (r1 := 0) 2 a1.toNatClampNeg rfl 4 RX0 rfl rfl (Nat.le_of_ble_eq_true rfl) rfl rfl ok_e21 rfl hg2 dX5_save_16 ?_
    refine x_aload_n dX5_save_17 rfl 0 rfl ?_
    refine x_getR (d1 := 0) (K1 := 0) (p1 := 0) (r1 := 0) fl_X5_10 ok_e20 rfl dX5_save_18 ?_
    obtain ⟨z3, s3, h3, h⟩ := x_b_e h
    refine x_callV (As := [.ref (w.2.2 0 0 0 0)]) (st := []) (eX0_copyFrom (Nat.add_lt_add_right (x_in_lt hg2) 2) (Nat.le_of_ble_eq_true rfl) h3) cv_X5_248 (Nat.le_of_ble_eq_true rfl) (ok_a (K := 0) (Nat.le_of_ble_eq_true rfl) (Nat.add_lt_add_right (x_in_lt hg2) 2)) rfl (Nat.le_of_ble_eq_true rfl) _ rfl dX5_save_21 [] rfl ?_
    refine x_aload_n dX5_save_24 rfl 0 rfl ?_
    refine x_getR (d1 := 4) (K1 := 22) (p1 := 0) (r1 := 0) fl_X5_23 ok_e20 rfl dX5_save_25 ?_
    refine x_iload_n dX5_save_28 rfl 1 rfl ?_
    refine x_iconst (x := 1) dX5_save_29 rfl ?_
    obtain ⟨hg4, h⟩ := x_g_e h
    obtain ⟨s5, hs5, h⟩ := x_let_e h
    refine x_zast 2 a1.toNatClampNeg rfl s5 hs5 rfl rfl rfl rfl ok_e22 hg4 dX5_save_30 ?_
    refine x_aload_n dX5_save_31 rfl 0 rfl ?_
    refine x_getR (d1 := 0) (K1 := 0) (p1 := 0) (r1 := 0) fl_X5_10 ok_e20 rfl dX5_save_32 ?_
    refine x_getI fl_X5_205 (ok_a (K := 0) (Nat.le_of_ble_eq_true rfl) (Nat.le_of_ble_eq_true rfl)) rfl dX5_save_35 ?_
    exact x_iretH rfl dX5_save_38 h
  · have h := x_f hc h
    refine x_iconst (x := (-1)) dX5_save_9 (by decide) ?_
    exact x_iretH rfl dX5_save_10 h
set_option maxRecDepth 100000 in
set_option maxHeartbeats 4000000 in
theorem eX5_restore {l : Launch} {w : xW} {a1 : Int32} {σ τ : xS} {r : Int32} (h : fX5_restore a1 σ = some (r, τ)) : xEV l w yX5_restore mX5_restore [.ref (w.2.2 4 20 0 0), .int a1] σ (some (.int r)) τ := by
  rw [fX5_restore] at h
  refine x_enter (by decide +kernel) rfl (Nat.le_of_ble_eq_true rfl) ?_
  refine x_sub (L1 := [(0, .ref (w.2.2 4 20 0 0)), (1, .int a1)]) [0, 1] rfl ?_
  refine x_iload_n dX5_restore_0 rfl 1 rfl ?_
  refine x_iconst (x := 0) dX5_restore_1 rfl ?_
  refine x_iconst (x := 1) dX5_restore_2 rfl ?_
  obtain ⟨z1, s1, h1, h⟩ := x_b_e h
  refine x_callS (As := [.int a1, .int 0, .int 1]) (st := []) (eX5_isOutside  h1) cs_X5_38 (Nat.le_of_ble_eq_true rfl) rfl (Nat.le_of_ble_eq_true rfl) _ rfl dX5_restore_3 [.int z1] rfl ?_
  refine x_if_eq (tgt := 11) dX5_restore_6 rfl (fun hc => ?_) (fun hc => ?_)
  · have h := x_t hc h
    refine x_aload_n dX5_restore_11 rfl 0 rfl ?_
    refine x_getR (d1 := 4) (K1 := 22) (p1 := 0) (r1 := 0) fl_X5_23 ok_e20 rfl dX5_restore_12 ?_
    refine x_iload_n dX5_restore_15 rfl 1 rfl ?_
    obtain ⟨hg2, h⟩ := x_g_e h
    refine x_zald 2 a1.toNatClampNeg rfl rfl rfl rfl ok_e22 hg2 dX5_restore_16 ?_
    refine x_if_ne (tgt := 23) dX5_restore_17 rfl (fun hc => ?_) (fun hc => ?_)
    · have h := x_f hc h
      refine x_aload_n dX5_restore_23 rfl 0 rfl ?_
      refine x_getR (d1 := 0) (K1 := 0) (p1 := 0) (r1 := 0) fl_X5_10 ok_e20 rfl dX5_restore_24 ?_
      refine x_aload_n dX5_restore_27 rfl 0 rfl ?_
      refine x_getR (d1 := 4) (K1 := 21) (p1 := 0) (r1 := 0) fl_X5_19 ok_e20 rfl dX5_restore_28 ?_
      refine x_iload_n dX5_restore_31 rfl 1 rfl ?_
      obtain ⟨hg3, h⟩ := x_g_e h
      refine x_aald (d1 := (a1.toNatClampNeg + 2)) (K1 := 0) (p1 := 0) (r1 := 0) 2 a1.toNatClampNeg rfl 4 RX0 rfl rfl (Nat.le_of_ble_eq_true rfl) rfl rfl ok_e21 rfl hg3 dX5_restore_32 ?_
      obtain ⟨z4, s4, h4, h⟩ := x_b_e h
      refine x_callV (As := [.ref (w.2.2 (a1.toNatClampNeg + 2) 0 0 0)]) (st := []) (eX0_copyFrom (Nat.le_of_ble_eq_true rfl) (Nat.add_lt_add_right (x_in_lt hg3) 2) h4) cv_X5_248 (Nat.le_of_ble_eq_true rfl) (ok_a (K := 0) (Nat.le_of_ble_eq_true rfl) (Nat.le_of_ble_eq_true rfl)) rfl (Nat.le_of_ble_eq_true rfl) _ rfl dX5_restore_33 [] rfl ?_
      refine x_aload_n dX5_restore_36 rfl 0 rfl ?_
      refine x_getR (d1 := 0) (K1 := 0) (p1 := 0) (r1 := 0) fl_X5_10 ok_e20 rfl dX5_restore_37 ?_
      refine x_getI fl_X5_205 (ok_a (K := 0) (Nat.le_of_ble_eq_true rfl) (Nat.le_of_ble_eq_true rfl)) rfl dX5_restore_40 ?_
      exact x_iretH rfl dX5_restore_43 h
    · have h := x_t hc h
      refine x_bipush (x := (-5)) dX5_restore_20 (by decide) ?_
      exact x_iretH rfl dX5_restore_22 h
  · have h := x_f hc h
    refine x_iconst (x := (-1)) dX5_restore_9 (by decide) ?_
    exact x_iretH rfl dX5_restore_10 h
set_option maxRecDepth 100000 in
set_option maxHeartbeats 4000000 in
theorem TX5_mixPackets_54 {l : Launch} {w : xW} {d3 : Nat} {p3 : Nat} {r3 : Nat} {d4 : Nat} {a7 : Int32} {a8 : Int32} (hd3 : d3 < 4) (hp3 : p3 < 6) (hr3 : r3 < 3) (hd4 : d4 < 4) {k21 : Int64 → Int32 → Int32 → xS → Option (Int64 × xS)} {τ : xS} {r : Int64} (hk21 : ∀ (g5 : Int64) (a7 : Int32) (a8 : Int32) (σ1 : xS), k21 g5 a7 a8 σ1 = some (r, τ) → xAt l w mX5_mixPackets 21 [(3, .ref (w.2.2 d3 16 p3 r3)), (4, .ref (w.2.2 d4 1 0 0)), (5, .long g5), (7, .int a7), (8, .int a8)] [] σ1 (some (.long r)) τ) : ∀ (n : Nat) (g5 : Int64) (a9 : Int32) (a10 : Int32) (σ : xS), BX5_mixPackets_54 d3 p3 r3 d4 a7 a8 k21 n g5 a9 a10 σ = some (r, τ) → xAt l w mX5_mixPackets 54 [(3, .ref (w.2.2 d3 16 p3 r3)), (4, .ref (w.2.2 d4 1 0 0)), (5, .long g5), (7, .int a7), (8, .int a8), (9, .int a9), (10, .int a10)] [] σ (some (.long r)) τ := by
  intro n
  induction n with
  | zero => intro g5 a9 a10 σ h; cases h
  | succ n ih =>
    intro g5 a9 a10 σ h
    rw [BX5_mixPackets_54] at h
    refine x_iload dX5_mixPackets_54 6 rfl ?_
    refine x_aload dX5_mixPackets_56 1 rfl ?_
    refine x_iload dX5_mixPackets_58 3 rfl ?_
    obtain ⟨z4, s4, h4, h⟩ := x_b_e h
    refine x_callV (As := [.int a7]) (st := [.int a10]) (eX1_partsOf hd4 h4) cv_X5_223 (Nat.le_of_ble_eq_true rfl) (ok_a (K := 1) (Nat.le_of_ble_eq_true rfl) hd4) rfl (Nat.le_of_ble_eq_true rfl) _ rfl dX5_mixPackets_60 [.int z4, .int a10] rfl ?_
    refine x_icmp_ge (tgt := 93) dX5_mixPackets_63 rfl (fun hc => ?_) (fun hc => ?_)
    · have h := x_t hc h
      refine x_aload dX5_mixPackets_93 1 rfl ?_
      refine x_iload dX5_mixPackets_95 3 rfl ?_
      obtain ⟨z5, s5, h5, h⟩ := x_b_e h
      refine x_callV (As := [.int a7]) (st := []) (eX1_packetBehind hd4 h5) cv_X5_214 (Nat.le_of_ble_eq_true rfl) (ok_a (K := 1) (Nat.le_of_ble_eq_true rfl) hd4) rfl (Nat.le_of_ble_eq_true rfl) _ rfl dX5_mixPackets_97 [.int z5] rfl ?_
      refine x_istore z5 rfl dX5_mixPackets_100 (Nat.le_of_ble_eq_true rfl) [(7, .int z5), (3, .ref (w.2.2 d3 16 p3 r3)), (4, .ref (w.2.2 d4 1 0 0)), (5, .long g5), (8, .int a8), (9, .int a9), (10, .int a10)] rfl ?_
      obtain ⟨t6, ht6, h⟩ := x_let_e h
      refine x_iinc t6 1 rfl ht6 dX5_mixPackets_102 4 rfl (Nat.le_of_ble_eq_true rfl) [(8, .int t6), (7, .int z5), (3, .ref (w.2.2 d3 16 p3 r3)), (4, .ref (w.2.2 d4 1 0 0)), (5, .long g5), (9, .int a9), (10, .int a10)] rfl ?_
      refine x_goto (tgt := 21) dX5_mixPackets_105 rfl ?_
      refine x_sub (L1 := [(3, .ref (w.2.2 d3 16 p3 r3)), (4, .ref (w.2.2 d4 1 0 0)), (5, .long g5), (7, .int z5), (8, .int t6)]) [2, 3, 4, 1, 0] rfl ?_
      exact hk21 _ _ _ _ h
    · have h := x_f hc h
      refine x_ldc2 (x := 31) dX5_mixPackets_66 tk_X5_296 ?_
      refine x_lload dX5_mixPackets_69 2 rfl ?_
      refine x_lmul dX5_mixPackets_71 ?_
      refine x_iload dX5_mixPackets_72 5 rfl ?_
      refine x_i2l dX5_mixPackets_74 ?_
      refine x_ladd dX5_mixPackets_75 ?_
      obtain ⟨t7, ht7, h⟩ := x_let_e h
      refine x_lstore t7 ht7 dX5_mixPackets_76 (Nat.le_of_ble_eq_true rfl) [(5, .long t7), (3, .ref (w.2.2 d3 16 p3 r3)), (4, .ref (w.2.2 d4 1 0 0)), (7, .int a7), (8, .int a8), (9, .int a9), (10, .int a10)] rfl ?_
      refine x_aload dX5_mixPackets_78 2 rfl ?_
      refine x_iload dX5_mixPackets_80 5 rfl ?_
      obtain ⟨z8, s8, h8, h⟩ := x_b_e h
      refine x_callV (As := [.int a9]) (st := []) (eX1_partBehind hd4 h8) cv_X5_318 (Nat.le_of_ble_eq_true rfl) (ok_a (K := 1) (Nat.le_of_ble_eq_true rfl) hd4) rfl (Nat.le_of_ble_eq_true rfl) _ rfl dX5_mixPackets_82 [.int z8] rfl ?_
      refine x_istore z8 rfl dX5_mixPackets_85 (Nat.le_of_ble_eq_true rfl) [(9, .int z8), (5, .long t7), (3, .ref (w.2.2 d3 16 p3 r3)), (4, .ref (w.2.2 d4 1 0 0)), (7, .int a7), (8, .int a8), (10, .int a10)] rfl ?_
      obtain ⟨t9, ht9, h⟩ := x_let_e h
      refine x_iinc t9 1 rfl ht9 dX5_mixPackets_87 6 rfl (Nat.le_of_ble_eq_true rfl) [(10, .int t9), (9, .int z8), (5, .long t7), (3, .ref (w.2.2 d3 16 p3 r3)), (4, .ref (w.2.2 d4 1 0 0)), (7, .int a7), (8, .int a8)] rfl ?_
      refine x_goto (tgt := 54) dX5_mixPackets_90 rfl ?_
      refine x_sub (L1 := [(3, .ref (w.2.2 d3 16 p3 r3)), (4, .ref (w.2.2 d4 1 0 0)), (5, .long t7), (7, .int a7), (8, .int a8), (9, .int z8), (10, .int t9)]) [3, 4, 2, 5, 6, 1, 0] rfl ?_
      exact ih _ _ _ _ h
set_option maxRecDepth 100000 in
set_option maxHeartbeats 4000000 in
theorem TX5_mixPackets_21 {l : Launch} {w : xW} {d3 : Nat} {p3 : Nat} {r3 : Nat} {d4 : Nat} (hd3 : d3 < 4) (hp3 : p3 < 6) (hr3 : r3 < 3) (hd4 : d4 < 4) {τ : xS} {r : Int64} : ∀ (n : Nat) (g5 : Int64) (a7 : Int32) (a8 : Int32) (σ : xS), BX5_mixPackets_21 d3 p3 r3 d4 n g5 a7 a8 σ = some (r, τ) → xAt l w mX5_mixPackets 21 [(3, .ref (w.2.2 d3 16 p3 r3)), (4, .ref (w.2.2 d4 1 0 0)), (5, .long g5), (7, .int a7), (8, .int a8)] [] σ (some (.long r)) τ := by
  intro n
  induction n with
  | zero => intro g5 a7 a8 σ h; cases h
  | succ n ih =>
    intro g5 a7 a8 σ h
    rw [BX5_mixPackets_21] at h
    refine x_iload dX5_mixPackets_21 4 rfl ?_
    refine x_aload_n dX5_mixPackets_23 rfl 0 rfl ?_
    refine x_getI fl_X5_208 (ok_c hd3 hp3 hr3) rfl dX5_mixPackets_24 ?_
    refine x_icmp_ge (tgt := 108) dX5_mixPackets_27 rfl (fun hc => ?_) (fun hc => ?_)
    · have h := x_t hc h
      refine x_lload dX5_mixPackets_108 2 rfl ?_
      exact x_lretH rfl dX5_mixPackets_110 h
    · have h := x_f hc h
      refine x_ldc2 (x := 31) dX5_mixPackets_30 tk_X5_296 ?_
      refine x_lload dX5_mixPackets_33 2 rfl ?_
      refine x_lmul dX5_mixPackets_35 ?_
      refine x_aload dX5_mixPackets_36 1 rfl ?_
      refine x_iload dX5_mixPackets_38 3 rfl ?_
      obtain ⟨z2, s2, h2, h⟩ := x_b_e h
      refine x_callV (As := [.int a7]) (st := [.long (31 * g5)]) (eX1_numberOf hd4 h2) cv_X5_217 (Nat.le_of_ble_eq_true rfl) (ok_a (K := 1) (Nat.le_of_ble_eq_true rfl) hd4) rfl (Nat.le_of_ble_eq_true rfl) _ rfl dX5_mixPackets_40 [.int z2, .long (31 * g5)] rfl ?_
      refine x_i2l dX5_mixPackets_43 ?_
      refine x_ladd dX5_mixPackets_44 ?_
      obtain ⟨t3, ht3, h⟩ := x_let_e h
      refine x_lstore t3 ht3 dX5_mixPackets_45 (Nat.le_of_ble_eq_true rfl) [(5, .long t3), (3, .ref (w.2.2 d3 16 p3 r3)), (4, .ref (w.2.2 d4 1 0 0)), (7, .int a7), (8, .int a8)] rfl ?_
      refine x_iload dX5_mixPackets_47 3 rfl ?_
      refine x_istore a7 rfl dX5_mixPackets_49 (Nat.le_of_ble_eq_true rfl) [(9, .int a7), (5, .long t3), (3, .ref (w.2.2 d3 16 p3 r3)), (4, .ref (w.2.2 d4 1 0 0)), (7, .int a7), (8, .int a8)] rfl ?_
      refine x_iconst (x := 0) dX5_mixPackets_51 rfl ?_
      refine x_istore 0 rfl dX5_mixPackets_52 (Nat.le_of_ble_eq_true rfl) [(10, .int 0), (9, .int a7), (5, .long t3), (3, .ref (w.2.2 d3 16 p3 r3)), (4, .ref (w.2.2 d4 1 0 0)), (7, .int a7), (8, .int a8)] rfl ?_
      refine x_sub (L1 := [(3, .ref (w.2.2 d3 16 p3 r3)), (4, .ref (w.2.2 d4 1 0 0)), (5, .long t3), (7, .int a7), (8, .int a8), (9, .int a7), (10, .int 0)]) [3, 4, 2, 5, 6, 1, 0] rfl ?_
      exact TX5_mixPackets_54 hd3 hp3 hr3 hd4 ih _ _ _ _ _ h
set_option maxRecDepth 100000 in
set_option maxHeartbeats 4000000 in
theorem eX5_mixPackets {l : Launch} {w : xW} {g1 : Int64} {d3 : Nat} {p3 : Nat} {r3 : Nat} (hd3 : d3 < 4) (hp3 : p3 < 6) (hr3 : r3 < 3) {σ τ : xS} {r : Int64} (h : fX5_mixPackets g1 d3 p3 r3 σ = some (r, τ)) : xEV l w yX5_mixPackets mX5_mixPackets [.ref (w.2.2 4 20 0 0), .long g1, .ref (w.2.2 d3 16 p3 r3)] σ (some (.long r)) τ := by
  rw [fX5_mixPackets] at h
  refine x_enter (by decide +kernel) rfl (Nat.le_of_ble_eq_true rfl) ?_
  refine x_sub (L1 := [(0, .ref (w.2.2 4 20 0 0)), (1, .long g1), (3, .ref (w.2.2 d3 16 p3 r3))]) [0, 1, 2] rfl ?_
  refine x_aload_n dX5_mixPackets_0 rfl 0 rfl ?_
  refine x_getR (d1 := 0) (K1 := 0) (p1 := 0) (r1 := 0) fl_X5_10 ok_e20 rfl dX5_mixPackets_1 ?_
  refine x_getR (d1 := 0) (K1 := 1) (p1 := 0) (r1 := 0) fl_X5_42 (ok_a (K := 0) (Nat.le_of_ble_eq_true rfl) (Nat.le_of_ble_eq_true rfl)) rfl dX5_mixPackets_4 ?_
  refine x_astore dX5_mixPackets_7 (Nat.le_of_ble_eq_true rfl) [(4, .ref (w.2.2 0 1 0 0)), (0, .ref (w.2.2 4 20 0 0)), (1, .long g1), (3, .ref (w.2.2 d3 16 p3 r3))] rfl ?_
  refine x_lload_n dX5_mixPackets_9 rfl 2 rfl ?_
  refine x_lstore g1 rfl dX5_mixPackets_10 (Nat.le_of_ble_eq_true rfl) [(5, .long g1), (4, .ref (w.2.2 0 1 0 0)), (0, .ref (w.2.2 4 20 0 0)), (1, .long g1), (3, .ref (w.2.2 d3 16 p3 r3))] rfl ?_
  refine x_aload_n dX5_mixPackets_12 rfl 4 rfl ?_
  refine x_getI fl_X5_211 (ok_c hd3 hp3 hr3) rfl dX5_mixPackets_13 ?_
  obtain ⟨t1, ht1, h⟩ := x_let_e h
  refine x_istore t1 ht1 dX5_mixPackets_16 (Nat.le_of_ble_eq_true rfl) [(7, .int t1), (5, .long g1), (4, .ref (w.2.2 0 1 0 0)), (0, .ref (w.2.2 4 20 0 0)), (1, .long g1), (3, .ref (w.2.2 d3 16 p3 r3))] rfl ?_
  refine x_iconst (x := 0) dX5_mixPackets_18 rfl ?_
  refine x_istore 0 rfl dX5_mixPackets_19 (Nat.le_of_ble_eq_true rfl) [(8, .int 0), (7, .int t1), (5, .long g1), (4, .ref (w.2.2 0 1 0 0)), (0, .ref (w.2.2 4 20 0 0)), (1, .long g1), (3, .ref (w.2.2 d3 16 p3 r3))] rfl ?_
  refine x_sub (L1 := [(3, .ref (w.2.2 d3 16 p3 r3)), (4, .ref (w.2.2 0 1 0 0)), (5, .long g1), (7, .int t1), (8, .int 0)]) [6, 3, 2, 1, 0] rfl ?_
  exact TX5_mixPackets_21 hd3 hp3 hr3 (Nat.le_of_ble_eq_true rfl) _ _ _ _ _ h
set_option maxRecDepth 100000 in
set_option maxHeartbeats 4000000 in
theorem TX5_mixPort_87 {l : Launch} {w : xW} {d6 : Nat} {p6 : Nat} {a7 : Int32} (hd6 : d6 < 4) (hp6 : p6 < 6) {τ : xS} {r : Int64} : ∀ (n : Nat) (g4 : Int64) (a8 : Int32) (σ : xS), BX5_mixPort_87 d6 p6 a7 n g4 a8 σ = some (r, τ) → xAt l w mX5_mixPort 87 [(0, .ref (w.2.2 4 20 0 0)), (4, .long g4), (6, .ref (w.2.2 d6 14 p6 0)), (7, .int a7), (8, .int a8)] [] σ (some (.long r)) τ := by
  intro n
  induction n with
  | zero => intro g4 a8 σ h; cases h
  | succ n ih =>
    intro g4 a8 σ h
    rw [BX5_mixPort_87] at h
    refine x_iload dX5_mixPort_87 4 rfl ?_
    refine x_iload dX5_mixPort_89 3 rfl ?_
    refine x_icmp_ge (tgt := 225) dX5_mixPort_91 rfl (fun hc => ?_) (fun hc => ?_)
    · have h := x_t hc h
      refine x_lload dX5_mixPort_225 1 rfl ?_
      exact x_lretH rfl dX5_mixPort_227 h
    · have h := x_f hc h
      refine x_aload dX5_mixPort_94 2 rfl ?_
      refine x_iload dX5_mixPort_96 4 rfl ?_
      obtain ⟨hg7, h⟩ := x_g_e h
      refine x_aald (d1 := d6) (K1 := 16) (p1 := p6) (r1 := (a8.toNatClampNeg)) 3 a8.toNatClampNeg rfl 3 RX3 rfl rfl (Nat.le_of_ble_eq_true rfl) rfl rfl (ok_b (K := 14) (Nat.le_of_ble_eq_true rfl) (Nat.le_of_ble_eq_true rfl) hd6 hp6) rfl hg7 dX5_mixPort_98 ?_
      refine x_astore dX5_mixPort_99 (Nat.le_of_ble_eq_true rfl) [(9, .ref (w.2.2 d6 16 p6 (a8.toNatClampNeg))), (0, .ref (w.2.2 4 20 0 0)), (4, .long g4), (6, .ref (w.2.2 d6 14 p6 0)), (7, .int a7), (8, .int a8)] rfl ?_
      refine x_ldc2 (x := 31) dX5_mixPort_101 tk_X5_296 ?_
      refine x_lload dX5_mixPort_104 2 rfl ?_
      refine x_lmul dX5_mixPort_106 ?_
      refine x_aload dX5_mixPort_107 0 rfl ?_
      refine x_getI fl_X5_171 (ok_c hd6 hp6 (x_in_lt hg7)) rfl dX5_mixPort_109 ?_
      refine x_i2l dX5_mixPort_112 ?_
      refine x_ladd dX5_mixPort_113 ?_
      obtain ⟨t8, ht8, h⟩ := x_let_e h
      refine x_lstore t8 ht8 dX5_mixPort_114 (Nat.le_of_ble_eq_true rfl) [(4, .long t8), (9, .ref (w.2.2 d6 16 p6 (a8.toNatClampNeg))), (0, .ref (w.2.2 4 20 0 0)), (6, .ref (w.2.2 d6 14 p6 0)), (7, .int a7), (8, .int a8)] rfl ?_
      refine x_ldc2 (x := 31) dX5_mixPort_116 tk_X5_296 ?_
      refine x_lload dX5_mixPort_119 0 rfl ?_
      refine x_lmul dX5_mixPort_121 ?_
      refine x_aload dX5_mixPort_122 1 rfl ?_
      refine x_getI fl_X5_174 (ok_c hd6 hp6 (x_in_lt hg7)) rfl dX5_mixPort_124 ?_
      refine x_i2l dX5_mixPort_127 ?_
      refine x_ladd dX5_mixPort_128 ?_
      obtain ⟨t9, ht9, h⟩ := x_let_e h
      refine x_lstore t9 ht9 dX5_mixPort_129 (Nat.le_of_ble_eq_true rfl) [(4, .long t9), (9, .ref (w.2.2 d6 16 p6 (a8.toNatClampNeg))), (0, .ref (w.2.2 4 20 0 0)), (6, .ref (w.2.2 d6 14 p6 0)), (7, .int a7), (8, .int a8)] rfl ?_
      refine x_ldc2 (x := 31) dX5_mixPort_131 tk_X5_296 ?_
      refine x_lload dX5_mixPort_134 0 rfl ?_
      refine x_lmul dX5_mixPort_136 ?_
      refine x_aload dX5_mixPort_137 1 rfl ?_
      refine x_getI fl_X5_92 (ok_c hd6 hp6 (x_in_lt hg7)) rfl dX5_mixPort_139 ?_
      refine x_i2l dX5_mixPort_142 ?_
      refine x_ladd dX5_mixPort_143 ?_
      obtain ⟨t10, ht10, h⟩ := x_let_e h
      refine x_lstore t10 ht10 dX5_mixPort_144 (Nat.le_of_ble_eq_true rfl) [(4, .long t10), (9, .ref (w.2.2 d6 16 p6 (a8.toNatClampNeg))), (0, .ref (w.2.2 4 20 0 0)), (6, .ref (w.2.2 d6 14 p6 0)), (7, .int a7), (8, .int a8)] rfl ?_
      refine x_ldc2 (x := 31) dX5_mixPort_146 tk_X5_296 ?_
      refine x_lload dX5_mixPort_149 0 rfl ?_
      refine x_lmul dX5_mixPort_151 ?_
      refine x_aload dX5_mixPort_152 1 rfl ?_
      refine x_getI fl_X5_83 (ok_c hd6 hp6 (x_in_lt hg7)) rfl dX5_mixPort_154 ?_
      refine x_i2l dX5_mixPort_157 ?_
      refine x_ladd dX5_mixPort_158 ?_
      obtain ⟨t11, ht11, h⟩ := x_let_e h
      refine x_lstore t11 ht11 dX5_mixPort_159 (Nat.le_of_ble_eq_true rfl) [(4, .long t11), (9, .ref (w.2.2 d6 16 p6 (a8.toNatClampNeg))), (0, .ref (w.2.2 4 20 0 0)), (6, .ref (w.2.2 d6 14 p6 0)), (7, .int a7), (8, .int a8)] rfl ?_
      refine x_ldc2 (x := 31) dX5_mixPort_161 tk_X5_296 ?_
      refine x_lload dX5_mixPort_164 0 rfl ?_
      refine x_lmul dX5_mixPort_166 ?_
      refine x_aload dX5_mixPort_167 1 rfl ?_
      refine x_getI fl_X5_103 (ok_c hd6 hp6 (x_in_lt hg7)) rfl dX5_mixPort_169 ?_
      obtain ⟨z12, s12, h12, h⟩ := x_b_e h
      refine x_callS (As := [.int (σ d6 16 p6 (a8.toNatClampNeg) 8)]) (st := [.long (31 * t11)]) (eX5_asNumber  h12) cs_X5_99 (Nat.le_of_ble_eq_true rfl) rfl (Nat.le_of_ble_eq_true rfl) _ rfl dX5_mixPort_172 [.int z12, .long (31 * t11)] rfl ?_
      refine x_i2l dX5_mixPort_175 ?_
      refine x_ladd dX5_mixPort_176 ?_
      obtain ⟨t13, ht13, h⟩ := x_let_e h
      refine x_lstore t13 ht13 dX5_mixPort_177 (Nat.le_of_ble_eq_true rfl) [(4, .long t13), (9, .ref (w.2.2 d6 16 p6 (a8.toNatClampNeg))), (0, .ref (w.2.2 4 20 0 0)), (6, .ref (w.2.2 d6 14 p6 0)), (7, .int a7), (8, .int a8)] rfl ?_
      refine x_ldc2 (x := 31) dX5_mixPort_179 tk_X5_296 ?_
      refine x_lload dX5_mixPort_182 0 rfl ?_
      refine x_lmul dX5_mixPort_184 ?_
      refine x_aload dX5_mixPort_185 1 rfl ?_
      refine x_getI fl_X5_183 (ok_c hd6 hp6 (x_in_lt hg7)) rfl dX5_mixPort_187 ?_
      refine x_i2l dX5_mixPort_190 ?_
      refine x_ladd dX5_mixPort_191 ?_
      obtain ⟨t14, ht14, h⟩ := x_let_e h
      refine x_lstore t14 ht14 dX5_mixPort_192 (Nat.le_of_ble_eq_true rfl) [(4, .long t14), (9, .ref (w.2.2 d6 16 p6 (a8.toNatClampNeg))), (0, .ref (w.2.2 4 20 0 0)), (6, .ref (w.2.2 d6 14 p6 0)), (7, .int a7), (8, .int a8)] rfl ?_
      refine x_ldc2 (x := 31) dX5_mixPort_194 tk_X5_296 ?_
      refine x_lload dX5_mixPort_197 0 rfl ?_
      refine x_lmul dX5_mixPort_199 ?_
      refine x_aload dX5_mixPort_200 1 rfl ?_
      refine x_getI fl_X5_208 (ok_c hd6 hp6 (x_in_lt hg7)) rfl dX5_mixPort_202 ?_
      refine x_i2l dX5_mixPort_205 ?_
      refine x_ladd dX5_mixPort_206 ?_
      obtain ⟨t15, ht15, h⟩ := x_let_e h
      refine x_lstore t15 ht15 dX5_mixPort_207 (Nat.le_of_ble_eq_true rfl) [(4, .long t15), (9, .ref (w.2.2 d6 16 p6 (a8.toNatClampNeg))), (0, .ref (w.2.2 4 20 0 0)), (6, .ref (w.2.2 d6 14 p6 0)), (7, .int a7), (8, .int a8)] rfl ?_
      refine x_aload_n dX5_mixPort_209 rfl 2 rfl ?_
      refine x_lload dX5_mixPort_210 0 rfl ?_
      refine x_aload dX5_mixPort_212 1 rfl ?_
      obtain ⟨z16, s16, h16, h⟩ := x_b_e h
      refine x_callV (As := [.long t15, .ref (w.2.2 d6 16 p6 (a8.toNatClampNeg))]) (st := []) (eX5_mixPackets hd6 hp6 (x_in_lt hg7) h16) cv_X5_314 (Nat.le_of_ble_eq_true rfl) ok_e20 rfl (Nat.le_of_ble_eq_true rfl) _ rfl dX5_mixPort_214 [.long z16] rfl ?_
      refine x_lstore z16 rfl dX5_mixPort_217 (Nat.le_of_ble_eq_true rfl) [(4, .long z16), (9, .ref (w.2.2 d6 16 p6 (a8.toNatClampNeg))), (0, .ref (w.2.2 4 20 0 0)), (6, .ref (w.2.2 d6 14 p6 0)), (7, .int a7), (8, .int a8)] rfl ?_
      obtain ⟨t17, ht17, h⟩ := x_let_e h
      refine x_iinc t17 1 rfl ht17 dX5_mixPort_219 5 rfl (Nat.le_of_ble_eq_true rfl) [(8, .int t17), (4, .long z16), (9, .ref (w.2.2 d6 16 p6 (a8.toNatClampNeg))), (0, .ref (w.2.2 4 20 0 0)), (6, .ref (w.2.2 d6 14 p6 0)), (7, .int a7)] rfl ?_
      refine x_goto (tgt := 87) dX5_mixPort_222 rfl ?_
      refine x_sub (L1 := [(0, .ref (w.2.2 4 20 0 0)), (4, .long z16), (6, .ref (w.2.2 d6 14 p6 0)), (7, .int a7), (8, .int t17)]) [3, 1, 4, 5, 0] rfl ?_
      exact ih _ _ _ h
set_option maxRecDepth 100000 in
set_option maxHeartbeats 4000000 in
theorem eX5_mixPort {l : Launch} {w : xW} {g1 : Int64} {d3 : Nat} {p3 : Nat} (hd3 : d3 < 4) (hp3 : p3 < 6) {σ τ : xS} {r : Int64} (h : fX5_mixPort g1 d3 p3 σ = some (r, τ)) : xEV l w yX5_mixPort mX5_mixPort [.ref (w.2.2 4 20 0 0), .long g1, .ref (w.2.2 d3 13 p3 0)] σ (some (.long r)) τ := by
  rw [fX5_mixPort] at h
  refine x_enter (by decide +kernel) rfl (Nat.le_of_ble_eq_true rfl) ?_
  refine x_sub (L1 := [(0, .ref (w.2.2 4 20 0 0)), (1, .long g1), (3, .ref (w.2.2 d3 13 p3 0))]) [0, 1, 2] rfl ?_
  refine x_lload_n dX5_mixPort_0 rfl 1 rfl ?_
  refine x_lstore g1 rfl dX5_mixPort_1 (Nat.le_of_ble_eq_true rfl) [(4, .long g1), (0, .ref (w.2.2 4 20 0 0)), (1, .long g1), (3, .ref (w.2.2 d3 13 p3 0))] rfl ?_
  refine x_ldc2 (x := 31) dX5_mixPort_3 tk_X5_296 ?_
  refine x_lload dX5_mixPort_6 0 rfl ?_
  refine x_lmul dX5_mixPort_8 ?_
  refine x_aload_n dX5_mixPort_9 rfl 3 rfl ?_
  obtain ⟨z1, s1, h1, h⟩ := x_b_e h
  refine x_callV (As := []) (st := [.long (31 * g1)]) (eX2_guaranteeLeft hd3 hp3 h1) cv_X5_164 (Nat.le_of_ble_eq_true rfl) (ok_b (K := 13) (Nat.le_of_ble_eq_true rfl) (Nat.le_of_ble_eq_true rfl) hd3 hp3) rfl (Nat.le_of_ble_eq_true rfl) _ rfl dX5_mixPort_10 [.int z1, .long (31 * g1)] rfl ?_
  refine x_i2l dX5_mixPort_13 ?_
  refine x_ladd dX5_mixPort_14 ?_
  obtain ⟨t2, ht2, h⟩ := x_let_e h
  refine x_lstore t2 ht2 dX5_mixPort_15 (Nat.le_of_ble_eq_true rfl) [(4, .long t2), (0, .ref (w.2.2 4 20 0 0)), (1, .long g1), (3, .ref (w.2.2 d3 13 p3 0))] rfl ?_
  refine x_ldc2 (x := 31) dX5_mixPort_17 tk_X5_296 ?_
  refine x_lload dX5_mixPort_20 0 rfl ?_
  refine x_lmul dX5_mixPort_22 ?_
  refine x_aload_n dX5_mixPort_23 rfl 3 rfl ?_
  refine x_getI fl_X5_122 (ok_b (K := 13) (Nat.le_of_ble_eq_true rfl) (Nat.le_of_ble_eq_true rfl) hd3 hp3) rfl dX5_mixPort_24 ?_
  refine x_i2l dX5_mixPort_27 ?_
  refine x_ladd dX5_mixPort_28 ?_
  obtain ⟨t3, ht3, h⟩ := x_let_e h
  refine x_lstore t3 ht3 dX5_mixPort_29 (Nat.le_of_ble_eq_true rfl) [(4, .long t3), (0, .ref (w.2.2 4 20 0 0)), (1, .long g1), (3, .ref (w.2.2 d3 13 p3 0))] rfl ?_
  refine x_ldc2 (x := 31) dX5_mixPort_31 tk_X5_296 ?_
  refine x_lload dX5_mixPort_34 0 rfl ?_
  refine x_lmul dX5_mixPort_36 ?_
  refine x_aload_n dX5_mixPort_37 rfl 3 rfl ?_
  refine x_getI fl_X5_180 (ok_b (K := 13) (Nat.le_of_ble_eq_true rfl) (Nat.le_of_ble_eq_true rfl) hd3 hp3) rfl dX5_mixPort_38 ?_
  refine x_i2l dX5_mixPort_41 ?_
  refine x_ladd dX5_mixPort_42 ?_
  obtain ⟨t4, ht4, h⟩ := x_let_e h
  refine x_lstore t4 ht4 dX5_mixPort_43 (Nat.le_of_ble_eq_true rfl) [(4, .long t4), (0, .ref (w.2.2 4 20 0 0)), (1, .long g1), (3, .ref (w.2.2 d3 13 p3 0))] rfl ?_
  refine x_ldc2 (x := 31) dX5_mixPort_45 tk_X5_296 ?_
  refine x_lload dX5_mixPort_48 0 rfl ?_
  refine x_lmul dX5_mixPort_50 ?_
  refine x_aload_n dX5_mixPort_51 rfl 3 rfl ?_
  refine x_getI fl_X5_199 (ok_b (K := 13) (Nat.le_of_ble_eq_true rfl) (Nat.le_of_ble_eq_true rfl) hd3 hp3) rfl dX5_mixPort_52 ?_
  refine x_i2l dX5_mixPort_55 ?_
  refine x_ladd dX5_mixPort_56 ?_
  obtain ⟨t5, ht5, h⟩ := x_let_e h
  refine x_lstore t5 ht5 dX5_mixPort_57 (Nat.le_of_ble_eq_true rfl) [(4, .long t5), (0, .ref (w.2.2 4 20 0 0)), (1, .long g1), (3, .ref (w.2.2 d3 13 p3 0))] rfl ?_
  refine x_ldc2 (x := 31) dX5_mixPort_59 tk_X5_296 ?_
  refine x_lload dX5_mixPort_62 0 rfl ?_
  refine x_lmul dX5_mixPort_64 ?_
  refine x_aload_n dX5_mixPort_65 rfl 3 rfl ?_
  refine x_getI fl_X5_190 (ok_b (K := 13) (Nat.le_of_ble_eq_true rfl) (Nat.le_of_ble_eq_true rfl) hd3 hp3) rfl dX5_mixPort_66 ?_
  refine x_i2l dX5_mixPort_69 ?_
  refine x_ladd dX5_mixPort_70 ?_
  obtain ⟨t6, ht6, h⟩ := x_let_e h
  refine x_lstore t6 ht6 dX5_mixPort_71 (Nat.le_of_ble_eq_true rfl) [(4, .long t6), (0, .ref (w.2.2 4 20 0 0)), (1, .long g1), (3, .ref (w.2.2 d3 13 p3 0))] rfl ?_
  refine x_aload_n dX5_mixPort_73 rfl 3 rfl ?_
  refine x_getR (d1 := d3) (K1 := 14) (p1 := p3) (r1 := 0) fl_X5_310 (ok_b (K := 13) (Nat.le_of_ble_eq_true rfl) (Nat.le_of_ble_eq_true rfl) hd3 hp3) rfl dX5_mixPort_74 ?_
  refine x_astore dX5_mixPort_77 (Nat.le_of_ble_eq_true rfl) [(6, .ref (w.2.2 d3 14 p3 0)), (4, .long t6), (0, .ref (w.2.2 4 20 0 0)), (1, .long g1), (3, .ref (w.2.2 d3 13 p3 0))] rfl ?_
  refine x_aload dX5_mixPort_79 0 rfl ?_
  refine x_alen 3 rfl (Nat.le_of_ble_eq_true rfl) rfl (ok_b (K := 14) (Nat.le_of_ble_eq_true rfl) (Nat.le_of_ble_eq_true rfl) hd3 hp3) dX5_mixPort_81 ?_
  refine x_istore 3 rfl dX5_mixPort_82 (Nat.le_of_ble_eq_true rfl) [(7, .int 3), (6, .ref (w.2.2 d3 14 p3 0)), (4, .long t6), (0, .ref (w.2.2 4 20 0 0)), (1, .long g1), (3, .ref (w.2.2 d3 13 p3 0))] rfl ?_
  refine x_iconst (x := 0) dX5_mixPort_84 rfl ?_
  refine x_istore 0 rfl dX5_mixPort_85 (Nat.le_of_ble_eq_true rfl) [(8, .int 0), (7, .int 3), (6, .ref (w.2.2 d3 14 p3 0)), (4, .long t6), (0, .ref (w.2.2 4 20 0 0)), (1, .long g1), (3, .ref (w.2.2 d3 13 p3 0))] rfl ?_
  refine x_sub (L1 := [(0, .ref (w.2.2 4 20 0 0)), (4, .long t6), (6, .ref (w.2.2 d3 14 p3 0)), (7, .int 3), (8, .int 0)]) [4, 3, 2, 1, 0] rfl ?_
  exact TX5_mixPort_87 hd3 hp3 _ _ _ _ h
