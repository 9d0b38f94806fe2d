set_option maxRecDepth 100000 in
set_option maxHeartbeats 4000000 in
theorem TX0_removeVictims_37 {l : Launch} {w : xW} {d0 : Nat} {d1 : Nat} {p1 : Nat} {a2 : Int32} {a3 : Int32} {a4 : Int32} {d5 : Nat} {p5 : Nat} {r5 : Nat} {a6 : Int32} (hd0 : d0 < 4) (hd1 : d1 < 4) (hp1 : p1 < 6) (hd5 : d5 < 4) (hp5 : p5 < 6) (hr5 : r5 < 3) {k8 : Int32 → Int32 → xS → Option (Unit × xS)} {τ : xS} {r : Unit} (hk8 : ∀ (a3 : Int32) (a4 : Int32) (σ1 : xS), k8 a3 a4 σ1 = some (r, τ) → xAt l w mX0_removeVictims 8 [(0, .ref (w.2.2 d0 0 0 0)), (1, .ref (w.2.2 d1 13 p1 0)), (2, .int a2), (3, .int a3), (4, .int a4)] [] σ1 none τ) : ∀ (n : Nat) (a7 : Int32) (σ : xS), BX0_removeVictims_37 d0 d1 p1 a2 a3 a4 d5 p5 r5 a6 k8 n a7 σ = some (r, τ) → xAt l w mX0_removeVictims 37 [(0, .ref (w.2.2 d0 0 0 0)), (1, .ref (w.2.2 d1 13 p1 0)), (2, .int a2), (3, .int a3), (4, .int a4), (5, .ref (w.2.2 d5 16 p5 r5)), (6, .int a6), (7, .int a7)] [] σ none τ := by
  intro n
  induction n with
  | zero => intro a7 σ h; cases h
  | succ n ih =>
    intro a7 σ h
    rw [BX0_removeVictims_37] at h
    refine x_iload dX0_removeVictims_37 7 rfl ?_
    refine x_iload dX0_removeVictims_39 6 rfl ?_
    refine x_icmp_ge (tgt := 80) dX0_removeVictims_41 rfl (fun hc => ?_) (fun hc => ?_)
    · have h := x_t hc h
      refine x_iload_n dX0_removeVictims_80 rfl 3 rfl ?_
      refine x_iload dX0_removeVictims_81 6 rfl ?_
      refine x_isub dX0_removeVictims_83 ?_
      obtain ⟨t4, ht4, h⟩ := x_let_e h
      refine x_istore_n t4 ht4 dX0_removeVictims_84 rfl (Nat.le_of_ble_eq_true rfl) [(3, .int t4), (0, .ref (w.2.2 d0 0 0 0)), (1, .ref (w.2.2 d1 13 p1 0)), (2, .int a2), (4, .int a4), (5, .ref (w.2.2 d5 16 p5 r5)), (6, .int a6), (7, .int a7)] rfl ?_
      obtain ⟨t5, ht5, h⟩ := x_let_e h
      refine x_iinc t5 (-1) (by decide) ht5 dX0_removeVictims_85 4 rfl (Nat.le_of_ble_eq_true rfl) [(4, .int t5), (3, .int t4), (0, .ref (w.2.2 d0 0 0 0)), (1, .ref (w.2.2 d1 13 p1 0)), (2, .int a2), (5, .ref (w.2.2 d5 16 p5 r5)), (6, .int a6), (7, .int a7)] rfl ?_
      refine x_goto (tgt := 8) dX0_removeVictims_88 rfl ?_
      refine x_sub (L1 := [(0, .ref (w.2.2 d0 0 0 0)), (1, .ref (w.2.2 d1 13 p1 0)), (2, .int a2), (3, .int t4), (4, .int t5)]) [2, 3, 4, 1, 0] rfl ?_
      exact hk8 _ _ _ h
    · have h := x_f hc h
      refine x_aload_n dX0_removeVictims_44 rfl 1 rfl ?_
      refine x_bipush (x := 8) dX0_removeVictims_45 rfl ?_
      refine x_aload_n dX0_removeVictims_47 rfl 0 rfl ?_
      refine x_getR (d1 := d0) (K1 := 1) (p1 := 0) (r1 := 0) fl_X0_12 (ok_a (K := 0) (Nat.le_of_ble_eq_true rfl) hd0) rfl dX0_removeVictims_48 ?_
      refine x_aload dX0_removeVictims_51 5 rfl ?_
      refine x_getI fl_X0_163 (ok_c hd5 hp5 hr5) rfl dX0_removeVictims_53 ?_
      obtain ⟨z6, s6, h6, h⟩ := x_b_e h
      refine x_callV (As := [.int (σ d5 16 p5 r5 14)]) (st := [.int 8, .ref (w.2.2 d1 13 p1 0)]) (eX1_sizeOf hd0 h6) cv_X0_169 (Nat.le_of_ble_eq_true rfl) (ok_a (K := 1) (Nat.le_of_ble_eq_true rfl) hd0) rfl (Nat.le_of_ble_eq_true rfl) _ rfl dX0_removeVictims_56 [.int z6, .int 8, .ref (w.2.2 d1 13 p1 0)] rfl ?_
      obtain ⟨z7, s7, h7, h⟩ := x_b_e h
      refine x_callV (As := [.int 8, .int z6]) (st := []) (eX2_countLoss hd1 hp1 h7) cv_X0_180 (Nat.le_of_ble_eq_true rfl) (ok_b (K := 13) (Nat.le_of_ble_eq_true rfl) (Nat.le_of_ble_eq_true rfl) hd1 hp1) rfl (Nat.le_of_ble_eq_true rfl) _ rfl dX0_removeVictims_59 [] rfl ?_
      refine x_aload_n dX0_removeVictims_62 rfl 0 rfl ?_
      refine x_aload_n dX0_removeVictims_63 rfl 1 rfl ?_
      refine x_aload dX0_removeVictims_64 5 rfl ?_
      refine x_aload dX0_removeVictims_66 5 rfl ?_
      refine x_getI fl_X0_163 (ok_c hd5 hp5 hr5) rfl dX0_removeVictims_68 ?_
      obtain ⟨z8, s8, h8, h⟩ := x_b_e h
      refine x_callV (As := [.ref (w.2.2 d1 13 p1 0), .ref (w.2.2 d5 16 p5 r5), .int (s7 d5 16 p5 r5 14)]) (st := []) (eX0_takeOut hd0 hd1 hp1 hd5 hp5 hr5 h8) cv_X0_197 (Nat.le_of_ble_eq_true rfl) (ok_a (K := 0) (Nat.le_of_ble_eq_true rfl) hd0) rfl (Nat.le_of_ble_eq_true rfl) _ rfl dX0_removeVictims_71 [] rfl ?_
      obtain ⟨t9, ht9, h⟩ := x_let_e h
      refine x_iinc t9 1 rfl ht9 dX0_removeVictims_74 7 rfl (Nat.le_of_ble_eq_true rfl) [(7, .int t9), (0, .ref (w.2.2 d0 0 0 0)), (1, .ref (w.2.2 d1 13 p1 0)), (2, .int a2), (3, .int a3), (4, .int a4), (5, .ref (w.2.2 d5 16 p5 r5)), (6, .int a6)] rfl ?_
      refine x_goto (tgt := 37) dX0_removeVictims_77 rfl ?_
      refine x_sub (L1 := [(0, .ref (w.2.2 d0 0 0 0)), (1, .ref (w.2.2 d1 13 p1 0)), (2, .int a2), (3, .int a3), (4, .int a4), (5, .ref (w.2.2 d5 16 p5 r5)), (6, .int a6), (7, .int t9)]) [1, 2, 3, 4, 5, 6, 7, 0] rfl ?_
      exact ih _ _ h
set_option maxRecDepth 100000 in
set_option maxHeartbeats 4000000 in
theorem TX0_removeVictims_8 {l : Launch} {w : xW} {d0 : Nat} {d1 : Nat} {p1 : Nat} {a2 : Int32} (hd0 : d0 < 4) (hd1 : d1 < 4) (hp1 : p1 < 6) {τ : xS} {r : Unit} : ∀ (n : Nat) (a3 : Int32) (a4 : Int32) (σ : xS), BX0_removeVictims_8 d0 d1 p1 a2 n a3 a4 σ = some (r, τ) → xAt l w mX0_removeVictims 8 [(0, .ref (w.2.2 d0 0 0 0)), (1, .ref (w.2.2 d1 13 p1 0)), (2, .int a2), (3, .int a3), (4, .int a4)] [] σ none τ := by
  intro n
  induction n with
  | zero => intro a3 a4 σ h; cases h
  | succ n ih =>
    intro a3 a4 σ h
    rw [BX0_removeVictims_8] at h
    refine x_iload dX0_removeVictims_8 4 rfl ?_
    refine x_iload_n dX0_removeVictims_10 rfl 2 rfl ?_
    refine x_icmp_le (tgt := 91) dX0_removeVictims_11 rfl (fun hc => ?_) (fun hc => ?_)
    · have h := x_t hc h
      exact x_vretH rfl dX0_removeVictims_91 h
    · have h := x_f hc h
      refine x_aload_n dX0_removeVictims_14 rfl 1 rfl ?_
      refine x_getR (d1 := d1) (K1 := 14) (p1 := p1) (r1 := 0) fl_X0_74 (ok_b (K := 13) (Nat.le_of_ble_eq_true rfl) (Nat.le_of_ble_eq_true rfl) hd1 hp1) rfl dX0_removeVictims_15 ?_
      refine x_iload dX0_removeVictims_18 4 rfl ?_
      obtain ⟨hg2, h⟩ := x_g_e h
      refine x_aald (d1 := d1) (K1 := 16) (p1 := p1) (r1 := (a4.toNatClampNeg)) 3 a4.toNatClampNeg rfl 3 RX3 rfl rfl (Nat.le_of_ble_eq_true rfl) rfl rfl (ok_b (K := 14) (Nat.le_of_ble_eq_true rfl) (Nat.le_of_ble_eq_true rfl) hd1 hp1) rfl hg2 dX0_removeVictims_20 ?_
      refine x_astore dX0_removeVictims_21 (Nat.le_of_ble_eq_true rfl) [(5, .ref (w.2.2 d1 16 p1 (a4.toNatClampNeg))), (0, .ref (w.2.2 d0 0 0 0)), (1, .ref (w.2.2 d1 13 p1 0)), (2, .int a2), (3, .int a3), (4, .int a4)] rfl ?_
      refine x_iload_n dX0_removeVictims_23 rfl 4 rfl ?_
      refine x_aload dX0_removeVictims_24 0 rfl ?_
      refine x_getI fl_X0_166 (ok_c hd1 hp1 (x_in_lt hg2)) rfl dX0_removeVictims_26 ?_
      refine x_min lk_X0_126 w_min (Nat.le_of_ble_eq_true rfl) (Nat.le_of_ble_eq_true rfl) dX0_removeVictims_29 ?_
      obtain ⟨t3, ht3, h⟩ := x_let_e h
      refine x_istore t3 ht3 dX0_removeVictims_32 (Nat.le_of_ble_eq_true rfl) [(6, .int t3), (5, .ref (w.2.2 d1 16 p1 (a4.toNatClampNeg))), (0, .ref (w.2.2 d0 0 0 0)), (1, .ref (w.2.2 d1 13 p1 0)), (2, .int a2), (3, .int a3), (4, .int a4)] rfl ?_
      refine x_iconst (x := 0) dX0_removeVictims_34 rfl ?_
      refine x_istore 0 rfl dX0_removeVictims_35 (Nat.le_of_ble_eq_true rfl) [(7, .int 0), (6, .int t3), (5, .ref (w.2.2 d1 16 p1 (a4.toNatClampNeg))), (0, .ref (w.2.2 d0 0 0 0)), (1, .ref (w.2.2 d1 13 p1 0)), (2, .int a2), (3, .int a3), (4, .int a4)] rfl ?_
      refine x_sub (L1 := [(0, .ref (w.2.2 d0 0 0 0)), (1, .ref (w.2.2 d1 13 p1 0)), (2, .int a2), (3, .int a3), (4, .int a4), (5, .ref (w.2.2 d1 16 p1 (a4.toNatClampNeg))), (6, .int t3), (7, .int 0)]) [3, 4, 5, 6, 7, 2, 1, 0] rfl ?_
      exact TX0_removeVictims_37 hd0 hd1 hp1 hd1 hp1 (x_in_lt hg2) ih _ _ _ h
set_option maxRecDepth 100000 in
set_option maxHeartbeats 4000000 in
theorem eX0_removeVictims {l : Launch} {w : xW} {d0 : Nat} {d1 : Nat} {p1 : Nat} {a2 : Int32} (hd0 : d0 < 4) (hd1 : d1 < 4) (hp1 : p1 < 6) {σ τ : xS} {r : Unit} (h : fX0_removeVictims d0 d1 p1 a2 σ = some (r, τ)) : xEV l w yX0_removeVictims mX0_removeVictims [.ref (w.2.2 d0 0 0 0), .ref (w.2.2 d1 13 p1 0), .int a2] σ none τ := by
  rw [fX0_removeVictims] at h
  refine x_enter (by decide +kernel) rfl (Nat.le_of_ble_eq_true rfl) ?_
  refine x_sub (L1 := [(0, .ref (w.2.2 d0 0 0 0)), (1, .ref (w.2.2 d1 13 p1 0)), (2, .int a2)]) [0, 1, 2] rfl ?_
  refine x_aload_n dX0_removeVictims_0 rfl 0 rfl ?_
  refine x_getI fl_X0_132 (ok_a (K := 0) (Nat.le_of_ble_eq_true rfl) hd0) rfl dX0_removeVictims_1 ?_
  obtain ⟨t1, ht1, h⟩ := x_let_e h
  refine x_istore_n t1 ht1 dX0_removeVictims_4 rfl (Nat.le_of_ble_eq_true rfl) [(3, .int t1), (0, .ref (w.2.2 d0 0 0 0)), (1, .ref (w.2.2 d1 13 p1 0)), (2, .int a2)] rfl ?_
  refine x_iconst (x := 2) dX0_removeVictims_5 rfl ?_
  refine x_istore 2 rfl dX0_removeVictims_6 (Nat.le_of_ble_eq_true rfl) [(4, .int 2), (3, .int t1), (0, .ref (w.2.2 d0 0 0 0)), (1, .ref (w.2.2 d1 13 p1 0)), (2, .int a2)] rfl ?_
  refine x_sub (L1 := [(0, .ref (w.2.2 d0 0 0 0)), (1, .ref (w.2.2 d1 13 p1 0)), (2, .int a2), (3, .int t1), (4, .int 2)]) [2, 3, 4, 1, 0] rfl ?_
  exact TX0_removeVictims_8 hd0 hd1 hp1 _ _ _ _ h
set_option maxRecDepth 100000 in
set_option maxHeartbeats 4000000 in
theorem eX0_chargeCells {l : Launch} {w : xW} {d0 : Nat} {d1 : Nat} {p1 : Nat} {d2 : Nat} {p2 : Nat} {r2 : Nat} {a3 : Int32} (hd0 : d0 < 4) (hd1 : d1 < 4) (hp1 : p1 < 6) (hd2 : d2 < 4) (hp2 : p2 < 6) (hr2 : r2 < 3) {σ τ : xS} {r : Unit} (h : fX0_chargeCells d0 d1 p1 d2 p2 r2 a3 σ = some (r, τ)) : xEV l w yX0_chargeCells mX0_chargeCells [.ref (w.2.2 d0 0 0 0), .ref (w.2.2 d1 13 p1 0), .ref (w.2.2 d2 16 p2 r2), .int a3] σ none τ := by
  rw [fX0_chargeCells] at h
  refine x_enter (by decide +kernel) rfl (Nat.le_of_ble_eq_true rfl) ?_
  refine x_sub (L1 := [(0, .ref (w.2.2 d0 0 0 0)), (1, .ref (w.2.2 d1 13 p1 0)), (2, .ref (w.2.2 d2 16 p2 r2)), (3, .int a3)]) [0, 1, 2, 3] rfl ?_
  refine x_iload_n dX0_chargeCells_0 rfl 3 rfl ?_
  refine x_aload_n dX0_chargeCells_1 rfl 1 rfl ?_
  obtain ⟨z1, s1, h1, h⟩ := x_b_e h
  refine x_callV (As := []) (st := [.int a3]) (eX2_guaranteeLeft hd1 hp1 h1) cv_X0_123 (Nat.le_of_ble_eq_true rfl) (ok_b (K := 13) (Nat.le_of_ble_eq_true rfl) (Nat.le_of_ble_eq_true rfl) hd1 hp1) rfl (Nat.le_of_ble_eq_true rfl) _ rfl dX0_chargeCells_2 [.int z1, .int a3] rfl ?_
  refine x_min lk_X0_126 w_min (Nat.le_of_ble_eq_true rfl) (Nat.le_of_ble_eq_true rfl) dX0_chargeCells_5 ?_
  obtain ⟨t2, ht2, h⟩ := x_let_e h
  refine x_istore t2 ht2 dX0_chargeCells_8 (Nat.le_of_ble_eq_true rfl) [(4, .int t2), (0, .ref (w.2.2 d0 0 0 0)), (1, .ref (w.2.2 d1 13 p1 0)), (2, .ref (w.2.2 d2 16 p2 r2)), (3, .int a3)] rfl ?_
  refine x_iload_n dX0_chargeCells_10 rfl 4 rfl ?_
  refine x_iload dX0_chargeCells_11 0 rfl ?_
  refine x_isub dX0_chargeCells_13 ?_
  obtain ⟨t3, ht3, h⟩ := x_let_e h
  refine x_istore t3 ht3 dX0_chargeCells_14 (Nat.le_of_ble_eq_true rfl) [(5, .int t3), (4, .int t2), (0, .ref (w.2.2 d0 0 0 0)), (1, .ref (w.2.2 d1 13 p1 0)), (2, .ref (w.2.2 d2 16 p2 r2)), (3, .int a3)] rfl ?_
  refine x_aload_n dX0_chargeCells_16 rfl 2 rfl ?_
  refine x_getI fl_X0_129 (ok_a (K := 0) (Nat.le_of_ble_eq_true rfl) hd0) rfl dX0_chargeCells_17 ?_
  refine x_iconst (x := 3) dX0_chargeCells_20 rfl ?_
  refine x_icmp_ne (tgt := 42) dX0_chargeCells_21 rfl (fun hc => ?_) (fun hc => ?_)
  · have h := x_f hc h
    refine x_iload dX0_chargeCells_42 0 rfl ?_
    refine x_if_le (tgt := 57) dX0_chargeCells_44 rfl (fun hc => ?_) (fun hc => ?_)
    · have h := x_t hc h
      refine x_aload_n dX0_chargeCells_57 rfl 4 rfl ?_
      refine x_dup dX0_chargeCells_58 rfl ?_
      refine x_getI fl_X0_206 (ok_c hd2 hp2 hr2) rfl dX0_chargeCells_59 ?_
      refine x_iload dX0_chargeCells_62 1 rfl ?_
      refine x_iadd dX0_chargeCells_64 ?_
      obtain ⟨s4, hs4, h⟩ := x_let_e h
      refine x_putI s4 hs4 fp_X0_206 (ok_c hd2 hp2 hr2) rfl dX0_chargeCells_65 ?_
      exact x_vretH rfl dX0_chargeCells_68 h
    · have h := x_f hc h
      refine x_aload_n dX0_chargeCells_47 rfl 4 rfl ?_
      refine x_iload dX0_chargeCells_48 0 rfl ?_
      refine x_aload_n dX0_chargeCells_50 rfl 2 rfl ?_
      obtain ⟨z5, s5, h5, h⟩ := x_b_e h
      refine x_callV (As := []) (st := [.int t3, .ref (w.2.2 d2 16 p2 r2)]) (eX0_sharedLeft hd0 h5) cv_X0_101 (Nat.le_of_ble_eq_true rfl) (ok_a (K := 0) (Nat.le_of_ble_eq_true rfl) hd0) rfl (Nat.le_of_ble_eq_true rfl) _ rfl dX0_chargeCells_51 [.int z5, .int t3, .ref (w.2.2 d2 16 p2 r2)] rfl ?_
      obtain ⟨z6, s6, h6, h⟩ := x_b_e h
      refine x_callV (As := [.int t3, .int z5]) (st := []) (eX3_addShared hd2 hp2 hr2 h6) cv_X0_203 (Nat.le_of_ble_eq_true rfl) (ok_c hd2 hp2 hr2) rfl (Nat.le_of_ble_eq_true rfl) _ rfl dX0_chargeCells_54 [] rfl ?_
      refine x_aload_n dX0_chargeCells_57 rfl 4 rfl ?_
      refine x_dup dX0_chargeCells_58 rfl ?_
      refine x_getI fl_X0_206 (ok_c hd2 hp2 hr2) rfl dX0_chargeCells_59 ?_
      refine x_iload dX0_chargeCells_62 1 rfl ?_
      refine x_iadd dX0_chargeCells_64 ?_
      obtain ⟨s7, hs7, h⟩ := x_let_e h
      refine x_putI s7 hs7 fp_X0_206 (ok_c hd2 hp2 hr2) rfl dX0_chargeCells_65 ?_
      exact x_vretH rfl dX0_chargeCells_68 h
  · have h := x_t hc h
    refine x_aload_n dX0_chargeCells_24 rfl 4 rfl ?_
    refine x_dup dX0_chargeCells_25 rfl ?_
    refine x_getI fl_X0_157 (ok_c hd2 hp2 hr2) rfl dX0_chargeCells_26 ?_
    refine x_iload dX0_chargeCells_29 0 rfl ?_
    refine x_iadd dX0_chargeCells_31 ?_
    obtain ⟨s8, hs8, h⟩ := x_let_e h
    refine x_putI s8 hs8 fp_X0_157 (ok_c hd2 hp2 hr2) rfl dX0_chargeCells_32 ?_
    refine x_aload_n dX0_chargeCells_35 rfl 4 rfl ?_
    obtain ⟨z9, s9, h9, h⟩ := x_b_e h
    refine x_callV (As := []) (st := []) (eX3_pause hd2 hp2 hr2 h9) cv_X0_200 (Nat.le_of_ble_eq_true rfl) (ok_c hd2 hp2 hr2) rfl (Nat.le_of_ble_eq_true rfl) _ rfl dX0_chargeCells_36 [] rfl ?_
    refine x_goto (tgt := 57) dX0_chargeCells_39 rfl ?_
    refine x_aload_n dX0_chargeCells_57 rfl 4 rfl ?_
    refine x_dup dX0_chargeCells_58 rfl ?_
    refine x_getI fl_X0_206 (ok_c hd2 hp2 hr2) rfl dX0_chargeCells_59 ?_
    refine x_iload dX0_chargeCells_62 1 rfl ?_
    refine x_iadd dX0_chargeCells_64 ?_
    obtain ⟨s10, hs10, h⟩ := x_let_e h
    refine x_putI s10 hs10 fp_X0_206 (ok_c hd2 hp2 hr2) rfl dX0_chargeCells_65 ?_
    exact x_vretH rfl dX0_chargeCells_68 h
set_option maxRecDepth 100000 in
set_option maxHeartbeats 4000000 in
theorem eX0_receive {l : Launch} {w : xW} {d0 : Nat} {d1 : Nat} {p1 : Nat} {d2 : Nat} {p2 : Nat} {r2 : Nat} {a3 : Int32} (hd0 : d0 < 4) (hd1 : d1 < 4) (hp1 : p1 < 6) (hd2 : d2 < 4) (hp2 : p2 < 6) (hr2 : r2 < 3) {σ τ : xS} {r : Int32} (h : fX0_receive d0 d1 p1 d2 p2 r2 a3 σ = some (r, τ)) : xEV l w yX0_receive mX0_receive [.ref (w.2.2 d0 0 0 0), .ref (w.2.2 d1 13 p1 0), .ref (w.2.2 d2 16 p2 r2), .int a3] σ (some (.int r)) τ := by
  rw [fX0_receive] at h
  refine x_enter (by decide +kernel) rfl (Nat.le_of_ble_eq_true rfl) ?_
  refine x_sub (L1 := [(0, .ref (w.2.2 d0 0 0 0)), (1, .ref (w.2.2 d1 13 p1 0)), (2, .ref (w.2.2 d2 16 p2 r2)), (3, .int a3)]) [0, 1, 2, 3] rfl ?_
  refine x_aload_n dX0_receive_0 rfl 0 rfl ?_
  refine x_aload_n dX0_receive_1 rfl 1 rfl ?_
  refine x_aload_n dX0_receive_2 rfl 2 rfl ?_
  refine x_iload_n dX0_receive_3 rfl 3 rfl ?_
  obtain ⟨z1, s1, h1, h⟩ := x_b_e h
  refine x_callV (As := [.ref (w.2.2 d1 13 p1 0), .ref (w.2.2 d2 16 p2 r2), .int a3]) (st := []) (eX0_judge hd0 hd1 hp1 hd2 hp2 hr2 h1) cv_X0_176 (Nat.le_of_ble_eq_true rfl) (ok_a (K := 0) (Nat.le_of_ble_eq_true rfl) hd0) rfl (Nat.le_of_ble_eq_true rfl) _ rfl dX0_receive_4 [] rfl ?_
  refine x_aload_n dX0_receive_7 rfl 0 rfl ?_
  refine x_getI fl_X0_129 (ok_a (K := 0) (Nat.le_of_ble_eq_true rfl) hd0) rfl dX0_receive_8 ?_
  refine x_if_ne (tgt := 58) dX0_receive_11 rfl (fun hc => ?_) (fun hc => ?_)
  · have h := x_f hc h
    refine x_aload_n dX0_receive_58 rfl 0 rfl ?_
    refine x_aload_n dX0_receive_59 rfl 1 rfl ?_
    refine x_aload_n dX0_receive_60 rfl 2 rfl ?_
    refine x_getI fl_X0_154 (ok_c hd2 hp2 hr2) rfl dX0_receive_61 ?_
    obtain ⟨z2, s2, h2, h⟩ := x_b_e h
    refine x_callV (As := [.ref (w.2.2 d1 13 p1 0), .int (s1 d2 16 p2 r2 0)]) (st := []) (eX0_removeVictims hd0 hd1 hp1 h2) cv_X0_184 (Nat.le_of_ble_eq_true rfl) (ok_a (K := 0) (Nat.le_of_ble_eq_true rfl) hd0) rfl (Nat.le_of_ble_eq_true rfl) _ rfl dX0_receive_64 [] rfl ?_
    refine x_aload_n dX0_receive_67 rfl 0 rfl ?_
    refine x_aload_n dX0_receive_68 rfl 1 rfl ?_
    refine x_aload_n dX0_receive_69 rfl 2 rfl ?_
    refine x_iload_n dX0_receive_70 rfl 3 rfl ?_
    obtain ⟨z3, s3, h3, h⟩ := x_b_e h
    refine x_callV (As := [.ref (w.2.2 d1 13 p1 0), .ref (w.2.2 d2 16 p2 r2), .int a3]) (st := []) (eX0_chargeCells hd0 hd1 hp1 hd2 hp2 hr2 h3) cv_X0_187 (Nat.le_of_ble_eq_true rfl) (ok_a (K := 0) (Nat.le_of_ble_eq_true rfl) hd0) rfl (Nat.le_of_ble_eq_true rfl) _ rfl dX0_receive_71 [] rfl ?_
    refine x_aload_n dX0_receive_74 rfl 0 rfl ?_
    refine x_getI fl_X0_49 (ok_a (K := 0) (Nat.le_of_ble_eq_true rfl) hd0) rfl dX0_receive_75 ?_
    obtain ⟨t4, ht4, h⟩ := x_let_e h
    refine x_istore t4 ht4 dX0_receive_78 (Nat.le_of_ble_eq_true rfl) [(4, .int t4), (0, .ref (w.2.2 d0 0 0 0)), (1, .ref (w.2.2 d1 13 p1 0)), (2, .ref (w.2.2 d2 16 p2 r2)), (3, .int a3)] rfl ?_
    refine x_aload_n dX0_receive_80 rfl 1 rfl ?_
    refine x_getR (d1 := d0) (K1 := 1) (p1 := 0) (r1 := 0) fl_X0_12 (ok_a (K := 0) (Nat.le_of_ble_eq_true rfl) hd0) rfl dX0_receive_81 ?_
    refine x_aload_n dX0_receive_84 rfl 3 rfl ?_
    refine x_aload_n dX0_receive_85 rfl 1 rfl ?_
    refine x_getR (d1 := d0) (K1 := 1) (p1 := 0) (r1 := 0) fl_X0_12 (ok_a (K := 0) (Nat.le_of_ble_eq_true rfl) hd0) rfl dX0_receive_86 ?_
    refine x_iload dX0_receive_89 0 rfl ?_
    refine x_iload_n dX0_receive_91 rfl 4 rfl ?_
    obtain ⟨z5, s5, h5, h⟩ := x_b_e h
    refine x_callV (As := [.int t4, .int a3]) (st := [.ref (w.2.2 d2 16 p2 r2), .ref (w.2.2 d0 1 0 0)]) (eX1_place hd0 h5) cv_X0_190 (Nat.le_of_ble_eq_true rfl) (ok_a (K := 1) (Nat.le_of_ble_eq_true rfl) hd0) rfl (Nat.le_of_ble_eq_true rfl) _ rfl dX0_receive_92 [.int z5, .ref (w.2.2 d2 16 p2 r2), .ref (w.2.2 d0 1 0 0)] rfl ?_
    obtain ⟨z6, s6, h6, h⟩ := x_b_e h
    refine x_callV (As := [.ref (w.2.2 d2 16 p2 r2), .int z5]) (st := []) (eX1_joinQueue hd0 hd2 hp2 hr2 h6) cv_X0_193 (Nat.le_of_ble_eq_true rfl) (ok_a (K := 1) (Nat.le_of_ble_eq_true rfl) hd0) rfl (Nat.le_of_ble_eq_true rfl) _ rfl dX0_receive_95 [] rfl ?_
    refine x_aload_n dX0_receive_98 rfl 1 rfl ?_
    refine x_dup dX0_receive_99 rfl ?_
    refine x_getI fl_X0_49 (ok_a (K := 0) (Nat.le_of_ble_eq_true rfl) hd0) rfl dX0_receive_100 ?_
    refine x_iconst (x := 1) dX0_receive_103 rfl ?_
    refine x_iadd dX0_receive_104 ?_
    obtain ⟨s7, hs7, h⟩ := x_let_e h
    refine x_putI s7 hs7 fp_X0_49 (ok_a (K := 0) (Nat.le_of_ble_eq_true rfl) hd0) rfl dX0_receive_105 ?_
    refine x_iload dX0_receive_108 0 rfl ?_
    exact x_iretH rfl dX0_receive_110 h
  · have h := x_t hc h
    refine x_aload_n dX0_receive_14 rfl 0 rfl ?_
    refine x_getR (d1 := d0) (K1 := 12) (p1 := 0) (r1 := 0) fl_X0_29 (ok_a (K := 0) (Nat.le_of_ble_eq_true rfl) hd0) rfl dX0_receive_15 ?_
    refine x_iconst (x := 0) dX0_receive_18 rfl ?_
    refine x_aload_n dX0_receive_19 rfl 0 rfl ?_
    refine x_getR (d1 := d0) (K1 := 11) (p1 := 0) (r1 := 0) fl_X0_25 (ok_a (K := 0) (Nat.le_of_ble_eq_true rfl) hd0) rfl dX0_receive_20 ?_
    refine x_iconst (x := 0) dX0_receive_23 rfl ?_
    refine x_iconst (x := 4) dX0_receive_24 rfl ?_
    obtain ⟨s8, hs8, h⟩ := x_let_e h
    refine x_copy 4 4 4 rfl s8 hs8 lk_X0_68 w_copy (Nat.le_of_ble_eq_true rfl) rfl rfl rfl rfl (ok_a (K := 12) (Nat.le_of_ble_eq_true rfl) hd0) rfl rfl rfl (ok_a (K := 11) (Nat.le_of_ble_eq_true rfl) hd0) (by decide) (Nat.le_of_ble_eq_true rfl) (Nat.le_of_ble_eq_true rfl) dX0_receive_25 ?_
    refine x_aload_n dX0_receive_28 rfl 0 rfl ?_
    refine x_iconst (x := 1) dX0_receive_29 rfl ?_
    obtain ⟨s9, hs9, h⟩ := x_let_e h
    refine x_putZ s9 hs9 rfl fp_X0_58 (ok_a (K := 0) (Nat.le_of_ble_eq_true rfl) hd0) rfl dX0_receive_30 ?_
    refine x_aload_n dX0_receive_33 rfl 1 rfl ?_
    refine x_aload_n dX0_receive_34 rfl 2 rfl ?_
    refine x_getI fl_X0_148 (ok_c hd2 hp2 hr2) rfl dX0_receive_35 ?_
    refine x_if_eq (tgt := 45) dX0_receive_38 rfl (fun hc => ?_) (fun hc => ?_)
    · have h := x_t hc h
      refine x_aload_n dX0_receive_45 rfl 0 rfl ?_
      refine x_getR (d1 := d0) (K1 := 12) (p1 := 0) (r1 := 0) fl_X0_29 (ok_a (K := 0) (Nat.le_of_ble_eq_true rfl) hd0) rfl dX0_receive_46 ?_
      refine x_iconst (x := 1) dX0_receive_49 rfl ?_
      refine x_iald 4 1 rfl rfl rfl rfl (ok_a (K := 12) (Nat.le_of_ble_eq_true rfl) hd0) rfl dX0_receive_50 ?_
      refine x_iload_n dX0_receive_51 rfl 3 rfl ?_
      obtain ⟨z10, s10, h10, h⟩ := x_b_e h
      refine x_callV (As := [.int (s9 d0 12 0 0 1), .int a3]) (st := []) (eX2_countLoss hd1 hp1 h10) cv_X0_180 (Nat.le_of_ble_eq_true rfl) (ok_b (K := 13) (Nat.le_of_ble_eq_true rfl) (Nat.le_of_ble_eq_true rfl) hd1 hp1) rfl (Nat.le_of_ble_eq_true rfl) _ rfl dX0_receive_52 [] rfl ?_
      refine x_bipush (x := (-6)) dX0_receive_55 (by decide) ?_
      exact x_iretH rfl dX0_receive_57 h
    · have h := x_f hc h
      refine x_iconst (x := 5) dX0_receive_41 rfl ?_
      refine x_goto (tgt := 51) dX0_receive_42 rfl ?_
      refine x_iload_n dX0_receive_51 rfl 3 rfl ?_
      obtain ⟨z11, s11, h11, h⟩ := x_b_e h
      refine x_callV (As := [.int 5, .int a3]) (st := []) (eX2_countLoss hd1 hp1 h11) cv_X0_180 (Nat.le_of_ble_eq_true rfl) (ok_b (K := 13) (Nat.le_of_ble_eq_true rfl) (Nat.le_of_ble_eq_true rfl) hd1 hp1) rfl (Nat.le_of_ble_eq_true rfl) _ rfl dX0_receive_52 [] rfl ?_
      refine x_bipush (x := (-6)) dX0_receive_55 (by decide) ?_
      exact x_iretH rfl dX0_receive_57 h
set_option maxRecDepth 100000 in
set_option maxHeartbeats 4000000 in
theorem TX0_discardAll_30 {l : Launch} {w : xW} {d0 : Nat} {d1 : Nat} {p1 : Nat} {d3 : Nat} {p3 : Nat} {a4 : Int32} {a5 : Int32} {d6 : Nat} {p6 : Nat} {r6 : Nat} (hd0 : d0 < 4) (hd1 : d1 < 4) (hp1 : p1 < 6) (hd3 : d3 < 4) (hp3 : p3 < 6) (hd6 : d6 < 4) (hp6 : p6 < 6) (hr6 : r6 < 3) {k14 : Int32 → Int32 → xS → Option (Int32 × xS)} {τ : xS} {r : Int32} (hk14 : ∀ (a2 : Int32) (a5 : Int32) (σ1 : xS), k14 a2 a5 σ1 = some (r, τ) → xAt l w mX0_discardAll 14 [(0, .ref (w.2.2 d0 0 0 0)), (1, .ref (w.2.2 d1 13 p1 0)), (2, .int a2), (3, .ref (w.2.2 d3 14 p3 0)), (4, .int a4), (5, .int a5)] [] σ1 (some (.int r)) τ) : ∀ (n : Nat) (a2 : Int32) (a7 : Int32) (σ : xS), BX0_discardAll_30 d0 d1 p1 d3 p3 a4 a5 d6 p6 r6 k14 n a2 a7 σ = some (r, τ) → xAt l w mX0_discardAll 30 [(0, .ref (w.2.2 d0 0 0 0)), (1, .ref (w.2.2 d1 13 p1 0)), (2, .int a2), (3, .ref (w.2.2 d3 14 p3 0)), (4, .int a4), (5, .int a5), (6, .ref (w.2.2 d6 16 p6 r6)), (7, .int a7)] [] σ (some (.int r)) τ := by
  intro n
  induction n with
  | zero => intro a2 a7 σ h; cases h
  | succ n ih =>
    intro a2 a7 σ h
    rw [BX0_discardAll_30] at h
    refine x_iload dX0_discardAll_30 7 rfl ?_
    refine x_sipush (x := 128) dX0_discardAll_32 rfl ?_
    refine x_icmp_ge (tgt := 85) dX0_discardAll_35 rfl (fun hc => ?_) (fun hc => ?_)
    · have h := x_t hc h
      obtain ⟨t2, ht2, h⟩ := x_let_e h
      refine x_iinc t2 1 rfl ht2 dX0_discardAll_85 5 rfl (Nat.le_of_ble_eq_true rfl) [(5, .int t2), (0, .ref (w.2.2 d0 0 0 0)), (1, .ref (w.2.2 d1 13 p1 0)), (2, .int a2), (3, .ref (w.2.2 d3 14 p3 0)), (4, .int a4), (6, .ref (w.2.2 d6 16 p6 r6)), (7, .int a7)] rfl ?_
      refine x_goto (tgt := 14) dX0_discardAll_88 rfl ?_
      refine x_sub (L1 := [(0, .ref (w.2.2 d0 0 0 0)), (1, .ref (w.2.2 d1 13 p1 0)), (2, .int a2), (3, .ref (w.2.2 d3 14 p3 0)), (4, .int a4), (5, .int t2)]) [1, 2, 3, 4, 5, 0] rfl ?_
      exact hk14 _ _ _ h
    · have h := x_f hc h
      refine x_aload dX0_discardAll_38 6 rfl ?_
      refine x_getI fl_X0_166 (ok_c hd6 hp6 hr6) rfl dX0_discardAll_40 ?_
      refine x_if_le (tgt := 85) dX0_discardAll_43 rfl (fun hc => ?_) (fun hc => ?_)
      · have h := x_t hc h
        obtain ⟨t3, ht3, h⟩ := x_let_e h
        refine x_iinc t3 1 rfl ht3 dX0_discardAll_85 5 rfl (Nat.le_of_ble_eq_true rfl) [(5, .int t3), (0, .ref (w.2.2 d0 0 0 0)), (1, .ref (w.2.2 d1 13 p1 0)), (2, .int a2), (3, .ref (w.2.2 d3 14 p3 0)), (4, .int a4), (6, .ref (w.2.2 d6 16 p6 r6)), (7, .int a7)] rfl ?_
        refine x_goto (tgt := 14) dX0_discardAll_88 rfl ?_
        refine x_sub (L1 := [(0, .ref (w.2.2 d0 0 0 0)), (1, .ref (w.2.2 d1 13 p1 0)), (2, .int a2), (3, .ref (w.2.2 d3 14 p3 0)), (4, .int a4), (5, .int t3)]) [1, 2, 3, 4, 5, 0] rfl ?_
        exact hk14 _ _ _ h
      · have h := x_f hc h
        refine x_aload_n dX0_discardAll_46 rfl 1 rfl ?_
        refine x_bipush (x := 9) dX0_discardAll_47 rfl ?_
        refine x_aload_n dX0_discardAll_49 rfl 0 rfl ?_
        refine x_getR (d1 := d0) (K1 := 1) (p1 := 0) (r1 := 0) fl_X0_12 (ok_a (K := 0) (Nat.le_of_ble_eq_true rfl) hd0) rfl dX0_discardAll_50 ?_
        refine x_aload dX0_discardAll_53 6 rfl ?_
        refine x_getI fl_X0_228 (ok_c hd6 hp6 hr6) rfl dX0_discardAll_55 ?_
        obtain ⟨z4, s4, h4, h⟩ := x_b_e h
        refine x_callV (As := [.int (σ d6 16 p6 r6 13)]) (st := [.int 9, .ref (w.2.2 d1 13 p1 0)]) (eX1_sizeOf hd0 h4) cv_X0_169 (Nat.le_of_ble_eq_true rfl) (ok_a (K := 1) (Nat.le_of_ble_eq_true rfl) hd0) rfl (Nat.le_of_ble_eq_true rfl) _ rfl dX0_discardAll_58 [.int z4, .int 9, .ref (w.2.2 d1 13 p1 0)] rfl ?_
        obtain ⟨z5, s5, h5, h⟩ := x_b_e h
        refine x_callV (As := [.int 9, .int z4]) (st := []) (eX2_countLoss hd1 hp1 h5) cv_X0_180 (Nat.le_of_ble_eq_true rfl) (ok_b (K := 13) (Nat.le_of_ble_eq_true rfl) (Nat.le_of_ble_eq_true rfl) hd1 hp1) rfl (Nat.le_of_ble_eq_true rfl) _ rfl dX0_discardAll_61 [] rfl ?_
        refine x_aload_n dX0_discardAll_64 rfl 0 rfl ?_
        refine x_aload_n dX0_discardAll_65 rfl 1 rfl ?_
        refine x_aload dX0_discardAll_66 6 rfl ?_
        refine x_aload dX0_discardAll_68 6 rfl ?_
        refine x_getI fl_X0_228 (ok_c hd6 hp6 hr6) rfl dX0_discardAll_70 ?_
        obtain ⟨z6, s6, h6, h⟩ := x_b_e h
        refine x_callV (As := [.ref (w.2.2 d1 13 p1 0), .ref (w.2.2 d6 16 p6 r6), .int (s5 d6 16 p6 r6 13)]) (st := []) (eX0_takeOut hd0 hd1 hp1 hd6 hp6 hr6 h6) cv_X0_197 (Nat.le_of_ble_eq_true rfl) (ok_a (K := 0) (Nat.le_of_ble_eq_true rfl) hd0) rfl (Nat.le_of_ble_eq_true rfl) _ rfl dX0_discardAll_73 [] rfl ?_
        obtain ⟨t7, ht7, h⟩ := x_let_e h
        refine x_iinc t7 1 rfl ht7 dX0_discardAll_76 2 rfl (Nat.le_of_ble_eq_true rfl) [(2, .int t7), (0, .ref (w.2.2 d0 0 0 0)), (1, .ref (w.2.2 d1 13 p1 0)), (3, .ref (w.2.2 d3 14 p3 0)), (4, .int a4), (5, .int a5), (6, .ref (w.2.2 d6 16 p6 r6)), (7, .int a7)] rfl ?_
        obtain ⟨t8, ht8, h⟩ := x_let_e h
        refine x_iinc t8 1 rfl ht8 dX0_discardAll_79 7 rfl (Nat.le_of_ble_eq_true rfl) [(7, .int t8), (2, .int t7), (0, .ref (w.2.2 d0 0 0 0)), (1, .ref (w.2.2 d1 13 p1 0)), (3, .ref (w.2.2 d3 14 p3 0)), (4, .int a4), (5, .int a5), (6, .ref (w.2.2 d6 16 p6 r6))] rfl ?_
        refine x_goto (tgt := 30) dX0_discardAll_82 rfl ?_
        refine x_sub (L1 := [(0, .ref (w.2.2 d0 0 0 0)), (1, .ref (w.2.2 d1 13 p1 0)), (2, .int t7), (3, .ref (w.2.2 d3 14 p3 0)), (4, .int a4), (5, .int a5), (6, .ref (w.2.2 d6 16 p6 r6)), (7, .int t8)]) [2, 3, 1, 4, 5, 6, 7, 0] rfl ?_
        exact ih _ _ _ h
set_option maxRecDepth 100000 in
set_option maxHeartbeats 4000000 in
theorem TX0_discardAll_14 {l : Launch} {w : xW} {d0 : Nat} {d1 : Nat} {p1 : Nat} {d3 : Nat} {p3 : Nat} {a4 : Int32} (hd0 : d0 < 4) (hd1 : d1 < 4) (hp1 : p1 < 6) (hd3 : d3 < 4) (hp3 : p3 < 6) {τ : xS} {r : Int32} : ∀ (n : Nat) (a2 : Int32) (a5 : Int32) (σ : xS), BX0_discardAll_14 d0 d1 p1 d3 p3 a4 n a2 a5 σ = some (r, τ) → xAt l w mX0_discardAll 14 [(0, .ref (w.2.2 d0 0 0 0)), (1, .ref (w.2.2 d1 13 p1 0)), (2, .int a2), (3, .ref (w.2.2 d3 14 p3 0)), (4, .int a4), (5, .int a5)] [] σ (some (.int r)) τ := by
  intro n
  induction n with
  | zero => intro a2 a5 σ h; cases h
  | succ n ih =>
    intro a2 a5 σ h
    rw [BX0_discardAll_14] at h
    refine x_iload dX0_discardAll_14 5 rfl ?_
    refine x_iload dX0_discardAll_16 4 rfl ?_
    refine x_icmp_ge (tgt := 91) dX0_discardAll_18 rfl (fun hc => ?_) (fun hc => ?_)
    · have h := x_t hc h
      refine x_iload_n dX0_discardAll_91 rfl 2 rfl ?_
      exact x_iretH rfl dX0_discardAll_92 h
    · have h := x_f hc h
      refine x_aload_n dX0_discardAll_21 rfl 3 rfl ?_
      refine x_iload dX0_discardAll_22 5 rfl ?_
      obtain ⟨hg1, h⟩ := x_g_e h
      refine x_aald (d1 := d3) (K1 := 16) (p1 := p3) (r1 := (a5.toNatClampNeg)) 3 a5.toNatClampNeg rfl 3 RX3 rfl rfl (Nat.le_of_ble_eq_true rfl) rfl rfl (ok_b (K := 14) (Nat.le_of_ble_eq_true rfl) (Nat.le_of_ble_eq_true rfl) hd3 hp3) rfl hg1 dX0_discardAll_24 ?_
      refine x_astore dX0_discardAll_25 (Nat.le_of_ble_eq_true rfl) [(6, .ref (w.2.2 d3 16 p3 (a5.toNatClampNeg))), (0, .ref (w.2.2 d0 0 0 0)), (1, .ref (w.2.2 d1 13 p1 0)), (2, .int a2), (3, .ref (w.2.2 d3 14 p3 0)), (4, .int a4), (5, .int a5)] rfl ?_
      refine x_iconst (x := 0) dX0_discardAll_27 rfl ?_
      refine x_istore 0 rfl dX0_discardAll_28 (Nat.le_of_ble_eq_true rfl) [(7, .int 0), (6, .ref (w.2.2 d3 16 p3 (a5.toNatClampNeg))), (0, .ref (w.2.2 d0 0 0 0)), (1, .ref (w.2.2 d1 13 p1 0)), (2, .int a2), (3, .ref (w.2.2 d3 14 p3 0)), (4, .int a4), (5, .int a5)] rfl ?_
      refine x_sub (L1 := [(0, .ref (w.2.2 d0 0 0 0)), (1, .ref (w.2.2 d1 13 p1 0)), (2, .int a2), (3, .ref (w.2.2 d3 14 p3 0)), (4, .int a4), (5, .int a5), (6, .ref (w.2.2 d3 16 p3 (a5.toNatClampNeg))), (7, .int 0)]) [2, 3, 4, 5, 6, 7, 1, 0] rfl ?_
      exact TX0_discardAll_30 hd0 hd1 hp1 hd3 hp3 hd3 hp3 (x_in_lt hg1) ih _ _ _ _ h
set_option maxRecDepth 100000 in
set_option maxHeartbeats 4000000 in
theorem eX0_discardAll {l : Launch} {w : xW} {d0 : Nat} {d1 : Nat} {p1 : Nat} (hd0 : d0 < 4) (hd1 : d1 < 4) (hp1 : p1 < 6) {σ τ : xS} {r : Int32} (h : fX0_discardAll d0 d1 p1 σ = some (r, τ)) : xEV l w yX0_discardAll mX0_discardAll [.ref (w.2.2 d0 0 0 0), .ref (w.2.2 d1 13 p1 0)] σ (some (.int r)) τ := by
  rw [fX0_discardAll] at h
  refine x_enter (by decide +kernel) rfl (Nat.le_of_ble_eq_true rfl) ?_
  refine x_sub (L1 := [(0, .ref (w.2.2 d0 0 0 0)), (1, .ref (w.2.2 d1 13 p1 0))]) [0, 1] rfl ?_
  refine x_iconst (x := 0) dX0_discardAll_0 rfl ?_
  refine x_istore_n 0 rfl dX0_discardAll_1 rfl (Nat.le_of_ble_eq_true rfl) [(2, .int 0), (0, .ref (w.2.2 d0 0 0 0)), (1, .ref (w.2.2 d1 13 p1 0))] rfl ?_
  refine x_aload_n dX0_discardAll_2 rfl 2 rfl ?_
  refine x_getR (d1 := d1) (K1 := 14) (p1 := p1) (r1 := 0) fl_X0_74 (ok_b (K := 13) (Nat.le_of_ble_eq_true rfl) (Nat.le_of_ble_eq_true rfl) hd1 hp1) rfl dX0_discardAll_3 ?_
  refine x_astore_n dX0_discardAll_6 rfl (Nat.le_of_ble_eq_true rfl) [(3, .ref (w.2.2 d1 14 p1 0)), (2, .int 0), (0, .ref (w.2.2 d0 0 0 0)), (1, .ref (w.2.2 d1 13 p1 0))] rfl ?_
  refine x_aload_n dX0_discardAll_7 rfl 0 rfl ?_
  refine x_alen 3 rfl (Nat.le_of_ble_eq_true rfl) rfl (ok_b (K := 14) (Nat.le_of_ble_eq_true rfl) (Nat.le_of_ble_eq_true rfl) hd1 hp1) dX0_discardAll_8 ?_
  refine x_istore 3 rfl dX0_discardAll_9 (Nat.le_of_ble_eq_true rfl) [(4, .int 3), (3, .ref (w.2.2 d1 14 p1 0)), (2, .int 0), (0, .ref (w.2.2 d0 0 0 0)), (1, .ref (w.2.2 d1 13 p1 0))] rfl ?_
  refine x_iconst (x := 0) dX0_discardAll_11 rfl ?_
  refine x_istore 0 rfl dX0_discardAll_12 (Nat.le_of_ble_eq_true rfl) [(5, .int 0), (4, .int 3), (3, .ref (w.2.2 d1 14 p1 0)), (2, .int 0), (0, .ref (w.2.2 d0 0 0 0)), (1, .ref (w.2.2 d1 13 p1 0))] rfl ?_
  refine x_sub (L1 := [(0, .ref (w.2.2 d0 0 0 0)), (1, .ref (w.2.2 d1 13 p1 0)), (2, .int 0), (3, .ref (w.2.2 d1 14 p1 0)), (4, .int 3), (5, .int 0)]) [4, 5, 3, 2, 1, 0] rfl ?_
  exact TX0_discardAll_14 hd0 hd1 hp1 hd1 hp1 _ _ _ _ h
set_option maxRecDepth 100000 in
set_option maxHeartbeats 4000000 in
theorem TX0_sendInTurns_71 {l : Launch} {w : xW} {d0 : Nat} {d1 : Nat} {p1 : Nat} {a2 : Int32} {a3 : Int32} {d4 : Nat} {p4 : Nat} {r4 : Nat} (hd0 : d0 < 4) (hd1 : d1 < 4) (hp1 : p1 < 6) (hd4 : d4 < 4) (hp4 : p4 < 6) (hr4 : r4 < 3) {k4 : Int32 → Int32 → xS → Option (Int32 × xS)} {σ τ : xS} {r : Int32} (hk4 : ∀ (a2 : Int32) (a3 : Int32) (σ1 : xS), k4 a2 a3 σ1 = some (r, τ) → xAt l w mX0_sendInTurns 4 [(0, .ref (w.2.2 d0 0 0 0)), (1, .ref (w.2.2 d1 13 p1 0)), (2, .int a2), (3, .int a3)] [] σ1 (some (.int r)) τ) (h : BX0_sendInTurns_71 d0 d1 p1 a2 a3 d4 p4 r4 k4 σ = some (r, τ)) : xAt l w mX0_sendInTurns 71 [(0, .ref (w.2.2 d0 0 0 0)), (1, .ref (w.2.2 d1 13 p1 0)), (2, .int a2), (3, .int a3), (4, .ref (w.2.2 d4 16 p4 r4))] [] σ (some (.int r)) τ := by
  rw [BX0_sendInTurns_71] at h
  refine x_aload_n dX0_sendInTurns_71 rfl 0 rfl ?_
  refine x_getR (d1 := d0) (K1 := 1) (p1 := 0) (r1 := 0) fl_X0_12 (ok_a (K := 0) (Nat.le_of_ble_eq_true rfl) hd0) rfl dX0_sendInTurns_72 ?_
  refine x_aload dX0_sendInTurns_75 4 rfl ?_
  refine x_getI fl_X0_228 (ok_c hd4 hp4 hr4) rfl dX0_sendInTurns_77 ?_
  obtain ⟨z5, s5, h5, h⟩ := x_b_e h
  refine x_callV (As := [.int (σ d4 16 p4 r4 13)]) (st := []) (eX1_sizeOf hd0 h5) cv_X0_169 (Nat.le_of_ble_eq_true rfl) (ok_a (K := 1) (Nat.le_of_ble_eq_true rfl) hd0) rfl (Nat.le_of_ble_eq_true rfl) _ rfl dX0_sendInTurns_80 [.int z5] rfl ?_
  refine x_istore z5 rfl dX0_sendInTurns_83 (Nat.le_of_ble_eq_true rfl) [(5, .int z5), (0, .ref (w.2.2 d0 0 0 0)), (1, .ref (w.2.2 d1 13 p1 0)), (2, .int a2), (3, .int a3), (4, .ref (w.2.2 d4 16 p4 r4))] rfl ?_
  refine x_iload dX0_sendInTurns_85 0 rfl ?_
  refine x_aload dX0_sendInTurns_87 5 rfl ?_
  refine x_getI fl_X0_218 (ok_c hd4 hp4 hr4) rfl dX0_sendInTurns_89 ?_
  refine x_icmp_le (tgt := 102) dX0_sendInTurns_92 rfl (fun hc => ?_) (fun hc => ?_)
  · have h := x_t hc h
    refine x_iload dX0_sendInTurns_102 0 rfl ?_
    refine x_aload_n dX0_sendInTurns_104 rfl 2 rfl ?_
    refine x_getI fl_X0_250 (ok_b (K := 13) (Nat.le_of_ble_eq_true rfl) (Nat.le_of_ble_eq_true rfl) hd1 hp1) rfl dX0_sendInTurns_105 ?_
    refine x_icmp_le (tgt := 114) dX0_sendInTurns_108 rfl (fun hc => ?_) (fun hc => ?_)
    · have h := x_t hc h
      refine x_aload dX0_sendInTurns_114 5 rfl ?_
      refine x_dup dX0_sendInTurns_116 rfl ?_
      refine x_getI fl_X0_218 (ok_c hd4 hp4 hr4) rfl dX0_sendInTurns_117 ?_
      refine x_iload dX0_sendInTurns_120 0 rfl ?_
      refine x_isub dX0_sendInTurns_122 ?_
      obtain ⟨s6, hs6, h⟩ := x_let_e h
      refine x_putI s6 hs6 fp_X0_218 (ok_c hd4 hp4 hr4) rfl dX0_sendInTurns_123 ?_
      refine x_aload_n dX0_sendInTurns_126 rfl 2 rfl ?_
      refine x_dup dX0_sendInTurns_127 rfl ?_
      refine x_getI fl_X0_250 (ok_b (K := 13) (Nat.le_of_ble_eq_true rfl) (Nat.le_of_ble_eq_true rfl) hd1 hp1) rfl dX0_sendInTurns_128 ?_
      refine x_iload dX0_sendInTurns_131 0 rfl ?_
      refine x_isub dX0_sendInTurns_133 ?_
      obtain ⟨s7, hs7, h⟩ := x_let_e h
      refine x_putI s7 hs7 fp_X0_250 (ok_b (K := 13) (Nat.le_of_ble_eq_true rfl) (Nat.le_of_ble_eq_true rfl) hd1 hp1) rfl dX0_sendInTurns_134 ?_
      refine x_aload_n dX0_sendInTurns_137 rfl 1 rfl ?_
      refine x_aload_n dX0_sendInTurns_138 rfl 2 rfl ?_
      refine x_aload dX0_sendInTurns_139 5 rfl ?_
      refine x_aload dX0_sendInTurns_141 5 rfl ?_
      refine x_getI fl_X0_228 (ok_c hd4 hp4 hr4) rfl dX0_sendInTurns_143 ?_
      obtain ⟨z8, s8, h8, h⟩ := x_b_e h
      refine x_callV (As := [.ref (w.2.2 d1 13 p1 0), .ref (w.2.2 d4 16 p4 r4), .int (s7 d4 16 p4 r4 13)]) (st := []) (eX0_takeOut hd0 hd1 hp1 hd4 hp4 hr4 h8) cv_X0_197 (Nat.le_of_ble_eq_true rfl) (ok_a (K := 0) (Nat.le_of_ble_eq_true rfl) hd0) rfl (Nat.le_of_ble_eq_true rfl) _ rfl dX0_sendInTurns_146 [] rfl ?_
      obtain ⟨t9, ht9, h⟩ := x_let_e h
      refine x_iinc t9 1 rfl ht9 dX0_sendInTurns_149 3 rfl (Nat.le_of_ble_eq_true rfl) [(2, .int t9), (5, .int z5), (0, .ref (w.2.2 d0 0 0 0)), (1, .ref (w.2.2 d1 13 p1 0)), (3, .int a3), (4, .ref (w.2.2 d4 16 p4 r4))] rfl ?_
      obtain ⟨t10, ht10, h⟩ := x_let_e h
      refine x_iinc t10 1 rfl ht10 dX0_sendInTurns_152 4 rfl (Nat.le_of_ble_eq_true rfl) [(3, .int t10), (2, .int t9), (5, .int z5), (0, .ref (w.2.2 d0 0 0 0)), (1, .ref (w.2.2 d1 13 p1 0)), (4, .ref (w.2.2 d4 16 p4 r4))] rfl ?_
      refine x_goto (tgt := 4) dX0_sendInTurns_155 rfl ?_
      refine x_sub (L1 := [(0, .ref (w.2.2 d0 0 0 0)), (1, .ref (w.2.2 d1 13 p1 0)), (2, .int t9), (3, .int t10)]) [3, 4, 1, 0] rfl ?_
      exact hk4 _ _ _ h
    · have h := x_f hc h
      refine x_goto (tgt := 158) dX0_sendInTurns_111 rfl ?_
      refine x_iload_n dX0_sendInTurns_158 rfl 3 rfl ?_
      exact x_iretH rfl dX0_sendInTurns_159 h
  · have h := x_f hc h
    refine x_aload_n dX0_sendInTurns_95 rfl 2 rfl ?_
    obtain ⟨z11, s11, h11, h⟩ := x_b_e h
    refine x_callV (As := []) (st := []) (eX2_passTurn hd1 hp1 h11) cv_X0_276 (Nat.le_of_ble_eq_true rfl) (ok_b (K := 13) (Nat.le_of_ble_eq_true rfl) (Nat.le_of_ble_eq_true rfl) hd1 hp1) rfl (Nat.le_of_ble_eq_true rfl) _ rfl dX0_sendInTurns_96 [] rfl ?_
    refine x_goto (tgt := 152) dX0_sendInTurns_99 rfl ?_
    obtain ⟨t12, ht12, h⟩ := x_let_e h
    refine x_iinc t12 1 rfl ht12 dX0_sendInTurns_152 4 rfl (Nat.le_of_ble_eq_true rfl) [(3, .int t12), (5, .int z5), (0, .ref (w.2.2 d0 0 0 0)), (1, .ref (w.2.2 d1 13 p1 0)), (2, .int a2), (4, .ref (w.2.2 d4 16 p4 r4))] rfl ?_
    refine x_goto (tgt := 4) dX0_sendInTurns_155 rfl ?_
    refine x_sub (L1 := [(0, .ref (w.2.2 d0 0 0 0)), (1, .ref (w.2.2 d1 13 p1 0)), (2, .int a2), (3, .int t12)]) [2, 3, 4, 0] rfl ?_
    exact hk4 _ _ _ h
set_option maxRecDepth 100000 in
set_option maxHeartbeats 4000000 in
theorem TX0_sendInTurns_4 {l : Launch} {w : xW} {d0 : Nat} {d1 : Nat} {p1 : Nat} (hd0 : d0 < 4) (hd1 : d1 < 4) (hp1 : p1 < 6) {τ : xS} {r : Int32} : ∀ (n : Nat) (a2 : Int32) (a3 : Int32) (σ : xS), BX0_sendInTurns_4 d0 d1 p1 n a2 a3 σ = some (r, τ) → xAt l w mX0_sendInTurns 4 [(0, .ref (w.2.2 d0 0 0 0)), (1, .ref (w.2.2 d1 13 p1 0)), (2, .int a2), (3, .int a3)] [] σ (some (.int r)) τ := by
  intro n
  induction n with
  | zero => intro a2 a3 σ h; cases h
  | succ n ih =>
    intro a2 a3 σ h
    rw [BX0_sendInTurns_4] at h
    refine x_iload_n dX0_sendInTurns_4 rfl 3 rfl ?_
    refine x_ldcw (x := 100000) dX0_sendInTurns_5 tk_X0_272 ?_
    refine x_icmp_ge (tgt := 158) dX0_sendInTurns_8 rfl (fun hc => ?_) (fun hc => ?_)
    · have h := x_t hc h
      refine x_iload_n dX0_sendInTurns_158 rfl 2 rfl ?_
      exact x_iretH rfl dX0_sendInTurns_159 h
    · have h := x_f hc h
      refine x_aload_n dX0_sendInTurns_11 rfl 1 rfl ?_
      obtain ⟨z1, s1, h1, h⟩ := x_b_e h
      refine x_callV (As := []) (st := []) (eX2_isIdle hd1 hp1 h1) cv_X0_221 (Nat.le_of_ble_eq_true rfl) (ok_b (K := 13) (Nat.le_of_ble_eq_true rfl) (Nat.le_of_ble_eq_true rfl) hd1 hp1) rfl (Nat.le_of_ble_eq_true rfl) _ rfl dX0_sendInTurns_12 [.int z1] rfl ?_
      refine x_if_ne (tgt := 158) dX0_sendInTurns_15 rfl (fun hc => ?_) (fun hc => ?_)
      · have h := x_f hc h
        refine x_iload_n dX0_sendInTurns_158 rfl 2 rfl ?_
        exact x_iretH rfl dX0_sendInTurns_159 h
      · have h := x_t hc h
        refine x_aload_n dX0_sendInTurns_18 rfl 1 rfl ?_
        obtain ⟨z2, s2, h2, h⟩ := x_b_e h
        refine x_callV (As := []) (st := []) (eX2_queueAtTurn hd1 hp1 h2) cv_X0_273 (Nat.le_of_ble_eq_true rfl) (ok_b (K := 13) (Nat.le_of_ble_eq_true rfl) (Nat.le_of_ble_eq_true rfl) hd1 hp1) rfl (Nat.le_of_ble_eq_true rfl) _ rfl dX0_sendInTurns_19 [x_nvQ w z2] rfl ?_
        rcases z2 with _ | t2
        · refine x_st [.null] rfl ?_
          refine x_astoreN dX0_sendInTurns_22 (Nat.le_of_ble_eq_true rfl) [(4, .null), (0, .ref (w.2.2 d0 0 0 0)), (1, .ref (w.2.2 d1 13 p1 0)), (2, .int a2), (3, .int a3)] rfl ?_
          refine x_aloadN dX0_sendInTurns_24 0 rfl ?_
          refine x_ifnullN (tgt := 37) dX0_sendInTurns_26 rfl ?_
          refine x_aload_n dX0_sendInTurns_37 rfl 2 rfl ?_
          obtain ⟨z3, s3, h3, h⟩ := x_b_e h
          refine x_callV (As := []) (st := []) (eX2_passTurn hd1 hp1 h3) cv_X0_276 (Nat.le_of_ble_eq_true rfl) (ok_b (K := 13) (Nat.le_of_ble_eq_true rfl) (Nat.le_of_ble_eq_true rfl) hd1 hp1) rfl (Nat.le_of_ble_eq_true rfl) _ rfl dX0_sendInTurns_38 [] rfl ?_
          refine x_goto (tgt := 152) dX0_sendInTurns_41 rfl ?_
          obtain ⟨t4, ht4, h⟩ := x_let_e h
          refine x_iinc t4 1 rfl ht4 dX0_sendInTurns_152 4 rfl (Nat.le_of_ble_eq_true rfl) [(3, .int t4), (4, .null), (0, .ref (w.2.2 d0 0 0 0)), (1, .ref (w.2.2 d1 13 p1 0)), (2, .int a2)] rfl ?_
          refine x_goto (tgt := 4) dX0_sendInTurns_155 rfl ?_
          refine x_sub (L1 := [(0, .ref (w.2.2 d0 0 0 0)), (1, .ref (w.2.2 d1 13 p1 0)), (2, .int a2), (3, .int t4)]) [2, 3, 4, 0] rfl ?_
          exact ih _ _ _ h
        · obtain ⟨hg2, h⟩ := x_g_e h
          refine x_st [.ref (w.2.2 t2.1 16 t2.2.1 t2.2.2)] rfl ?_
          refine x_astore dX0_sendInTurns_22 (Nat.le_of_ble_eq_true rfl) [(4, .ref (w.2.2 t2.1 16 t2.2.1 t2.2.2)), (0, .ref (w.2.2 d0 0 0 0)), (1, .ref (w.2.2 d1 13 p1 0)), (2, .int a2), (3, .int a3)] rfl ?_
          refine x_aload dX0_sendInTurns_24 0 rfl ?_
          refine x_ifnullR dX0_sendInTurns_26 ?_
          refine x_aload dX0_sendInTurns_29 0 rfl ?_
          refine x_getI fl_X0_166 (ok_c (ok3_d hg2) (ok3_p hg2) (ok3_r hg2)) rfl dX0_sendInTurns_31 ?_
          refine x_if_ne (tgt := 44) dX0_sendInTurns_34 rfl (fun hc => ?_) (fun hc => ?_)
          · have h := x_f hc h
            refine x_aload_n dX0_sendInTurns_44 rfl 2 rfl ?_
            refine x_getI fl_X0_279 (ok_b (K := 13) (Nat.le_of_ble_eq_true rfl) (Nat.le_of_ble_eq_true rfl) hd1 hp1) rfl dX0_sendInTurns_45 ?_
            refine x_if_eq (tgt := 71) dX0_sendInTurns_48 rfl (fun hc => ?_) (fun hc => ?_)
            · have h := x_t hc h
              refine x_sub (L1 := [(0, .ref (w.2.2 d0 0 0 0)), (1, .ref (w.2.2 d1 13 p1 0)), (2, .int a2), (3, .int a3), (4, .ref (w.2.2 t2.1 16 t2.2.1 t2.2.2))]) [1, 2, 3, 4, 0] rfl ?_
              exact TX0_sendInTurns_71 hd0 hd1 hp1 (ok3_d hg2) (ok3_p hg2) (ok3_r hg2) ih h
            · have h := x_f hc h
              refine x_aload dX0_sendInTurns_51 0 rfl ?_
              refine x_dup dX0_sendInTurns_53 rfl ?_
              refine x_getI fl_X0_218 (ok_c (ok3_d hg2) (ok3_p hg2) (ok3_r hg2)) rfl dX0_sendInTurns_54 ?_
              refine x_aload dX0_sendInTurns_57 0 rfl ?_
              refine x_getI fl_X0_282 (ok_c (ok3_d hg2) (ok3_p hg2) (ok3_r hg2)) rfl dX0_sendInTurns_59 ?_
              refine x_iadd dX0_sendInTurns_62 ?_
              obtain ⟨s13, hs13, h⟩ := x_let_e h
              refine x_putI s13 hs13 fp_X0_218 (ok_c (ok3_d hg2) (ok3_p hg2) (ok3_r hg2)) rfl dX0_sendInTurns_63 ?_
              refine x_aload_n dX0_sendInTurns_66 rfl 2 rfl ?_
              refine x_iconst (x := 0) dX0_sendInTurns_67 rfl ?_
              obtain ⟨s14, hs14, h⟩ := x_let_e h
              refine x_putZ s14 hs14 rfl fp_X0_279 (ok_b (K := 13) (Nat.le_of_ble_eq_true rfl) (Nat.le_of_ble_eq_true rfl) hd1 hp1) rfl dX0_sendInTurns_68 ?_
              refine x_sub (L1 := [(0, .ref (w.2.2 d0 0 0 0)), (1, .ref (w.2.2 d1 13 p1 0)), (2, .int a2), (3, .int a3), (4, .ref (w.2.2 t2.1 16 t2.2.1 t2.2.2))]) [1, 2, 3, 4, 0] rfl ?_
              exact TX0_sendInTurns_71 hd0 hd1 hp1 (ok3_d hg2) (ok3_p hg2) (ok3_r hg2) ih h
          · have h := x_t hc h
            refine x_aload_n dX0_sendInTurns_37 rfl 2 rfl ?_
            obtain ⟨z15, s15, h15, h⟩ := x_b_e h
            refine x_callV (As := []) (st := []) (eX2_passTurn hd1 hp1 h15) cv_X0_276 (Nat.le_of_ble_eq_true rfl) (ok_b (K := 13) (Nat.le_of_ble_eq_true rfl) (Nat.le_of_ble_eq_true rfl) hd1 hp1) rfl (Nat.le_of_ble_eq_true rfl) _ rfl dX0_sendInTurns_38 [] rfl ?_
            refine x_goto (tgt := 152) dX0_sendInTurns_41 rfl ?_
            obtain ⟨t16, ht16, h⟩ := x_let_e h
            refine x_iinc t16 1 rfl ht16 dX0_sendInTurns_152 4 rfl (Nat.le_of_ble_eq_true rfl) [(3, .int t16), (4, .ref (w.2.2 t2.1 16 t2.2.1 t2.2.2)), (0, .ref (w.2.2 d0 0 0 0)), (1, .ref (w.2.2 d1 13 p1 0)), (2, .int a2)] rfl ?_
            refine x_goto (tgt := 4) dX0_sendInTurns_155 rfl ?_
            refine x_sub (L1 := [(0, .ref (w.2.2 d0 0 0 0)), (1, .ref (w.2.2 d1 13 p1 0)), (2, .int a2), (3, .int t16)]) [2, 3, 4, 0] rfl ?_
            exact ih _ _ _ h
set_option maxRecDepth 100000 in
set_option maxHeartbeats 4000000 in
theorem eX0_sendInTurns {l : Launch} {w : xW} {d0 : Nat} {d1 : Nat} {p1 : Nat} (hd0 : d0 < 4) (hd1 : d1 < 4) (hp1 : p1 < 6) {σ τ : xS} {r : Int32} (h : fX0_sendInTurns d0 d1 p1 σ = some (r, τ)) : xEV l w yX0_sendInTurns mX0_sendInTurns [.ref (w.2.2 d0 0 0 0), .ref (w.2.2 d1 13 p1 0)] σ (some (.int r)) τ := by
  rw [fX0_sendInTurns] at h
  refine x_enter (by decide +kernel) rfl (Nat.le_of_ble_eq_true rfl) ?_
  refine x_sub (L1 := [(0, .ref (w.2.2 d0 0 0 0)), (1, .ref (w.2.2 d1 13 p1 0))]) [0, 1] rfl ?_
  refine x_iconst (x := 0) dX0_sendInTurns_0 rfl ?_
  refine x_istore_n 0 rfl dX0_sendInTurns_1 rfl (Nat.le_of_ble_eq_true rfl) [(2, .int 0), (0, .ref (w.2.2 d0 0 0 0)), (1, .ref (w.2.2 d1 13 p1 0))] rfl ?_
  refine x_iconst (x := 0) dX0_sendInTurns_2 rfl ?_
  refine x_istore_n 0 rfl dX0_sendInTurns_3 rfl (Nat.le_of_ble_eq_true rfl) [(3, .int 0), (2, .int 0), (0, .ref (w.2.2 d0 0 0 0)), (1, .ref (w.2.2 d1 13 p1 0))] rfl ?_
  refine x_sub (L1 := [(0, .ref (w.2.2 d0 0 0 0)), (1, .ref (w.2.2 d1 13 p1 0)), (2, .int 0), (3, .int 0)]) [2, 3, 1, 0] rfl ?_
  exact TX0_sendInTurns_4 hd0 hd1 hp1 _ _ _ _ h
set_option maxRecDepth 100000 in
set_option maxHeartbeats 4000000 in
theorem TX0_sendByPriority_4 {l : Launch} {w : xW} {d0 : Nat} {d1 : Nat} {p1 : Nat} (hd0 : d0 < 4) (hd1 : d1 < 4) (hp1 : p1 < 6) {τ : xS} {r : Int32} : ∀ (n : Nat) (a2 : Int32) (a3 : Int32) (σ : xS), BX0_sendByPriority_4 d0 d1 p1 n a2 a3 σ = some (r, τ) → xAt l w mX0_sendByPriority 4 [(0, .ref (w.2.2 d0 0 0 0)), (1, .ref (w.2.2 d1 13 p1 0)), (2, .int a2), (3, .int a3)] [] σ (some (.int r)) τ := by
  intro n
  induction n with
  | zero => intro a2 a3 σ h; cases h
  | succ n ih =>
    intro a2 a3 σ h
    rw [BX0_sendByPriority_4] at h
    refine x_iload_n dX0_sendByPriority_4 rfl 3 rfl ?_
    refine x_sipush (x := 128) dX0_sendByPriority_5 rfl ?_
    refine x_icmp_ge (tgt := 83) dX0_sendByPriority_8 rfl (fun hc => ?_) (fun hc => ?_)
    · have h := x_t hc h
      refine x_iload_n dX0_sendByPriority_83 rfl 2 rfl ?_
      exact x_iretH rfl dX0_sendByPriority_84 h
    · have h := x_f hc h
      refine x_aload_n dX0_sendByPriority_11 rfl 1 rfl ?_
      obtain ⟨z1, s1, h1, h⟩ := x_b_e h
      refine x_callV (As := []) (st := []) (eX2_highestBusyQueue hd1 hp1 h1) cv_X0_268 (Nat.le_of_ble_eq_true rfl) (ok_b (K := 13) (Nat.le_of_ble_eq_true rfl) (Nat.le_of_ble_eq_true rfl) hd1 hp1) rfl (Nat.le_of_ble_eq_true rfl) _ rfl dX0_sendByPriority_12 [x_nvQ w z1] rfl ?_
      rcases z1 with _ | t1
      · refine x_st [.null] rfl ?_
        refine x_astoreN dX0_sendByPriority_15 (Nat.le_of_ble_eq_true rfl) [(4, .null), (0, .ref (w.2.2 d0 0 0 0)), (1, .ref (w.2.2 d1 13 p1 0)), (2, .int a2), (3, .int a3)] rfl ?_
        refine x_aloadN dX0_sendByPriority_17 0 rfl ?_
        refine x_ifnonnullN dX0_sendByPriority_19 ?_
        refine x_goto (tgt := 83) dX0_sendByPriority_22 rfl ?_
        refine x_iload_n dX0_sendByPriority_83 rfl 3 rfl ?_
        exact x_iretH rfl dX0_sendByPriority_84 h
      · obtain ⟨hg1, h⟩ := x_g_e h
        refine x_st [.ref (w.2.2 t1.1 16 t1.2.1 t1.2.2)] rfl ?_
        refine x_astore dX0_sendByPriority_15 (Nat.le_of_ble_eq_true rfl) [(4, .ref (w.2.2 t1.1 16 t1.2.1 t1.2.2)), (0, .ref (w.2.2 d0 0 0 0)), (1, .ref (w.2.2 d1 13 p1 0)), (2, .int a2), (3, .int a3)] rfl ?_
        refine x_aload dX0_sendByPriority_17 0 rfl ?_
        refine x_ifnonnullR (tgt := 25) dX0_sendByPriority_19 rfl ?_
        refine x_aload_n dX0_sendByPriority_25 rfl 1 rfl ?_
        refine x_getR (d1 := d0) (K1 := 1) (p1 := 0) (r1 := 0) fl_X0_12 (ok_a (K := 0) (Nat.le_of_ble_eq_true rfl) hd0) rfl dX0_sendByPriority_26 ?_
        refine x_aload dX0_sendByPriority_29 0 rfl ?_
        refine x_getI fl_X0_228 (ok_c (ok3_d hg1) (ok3_p hg1) (ok3_r hg1)) rfl dX0_sendByPriority_31 ?_
        obtain ⟨z2, s2, h2, h⟩ := x_b_e h
        refine x_callV (As := [.int (s1 t1.1 16 t1.2.1 t1.2.2 13)]) (st := []) (eX1_sizeOf hd0 h2) cv_X0_169 (Nat.le_of_ble_eq_true rfl) (ok_a (K := 1) (Nat.le_of_ble_eq_true rfl) hd0) rfl (Nat.le_of_ble_eq_true rfl) _ rfl dX0_sendByPriority_34 [.int z2] rfl ?_
        refine x_istore z2 rfl dX0_sendByPriority_37 (Nat.le_of_ble_eq_true rfl) [(5, .int z2), (4, .ref (w.2.2 t1.1 16 t1.2.1 t1.2.2)), (0, .ref (w.2.2 d0 0 0 0)), (1, .ref (w.2.2 d1 13 p1 0)), (2, .int a2), (3, .int a3)] rfl ?_
        refine x_iload dX0_sendByPriority_39 0 rfl ?_
        refine x_aload_n dX0_sendByPriority_41 rfl 3 rfl ?_
        refine x_getI fl_X0_250 (ok_b (K := 13) (Nat.le_of_ble_eq_true rfl) (Nat.le_of_ble_eq_true rfl) hd1 hp1) rfl dX0_sendByPriority_42 ?_
        refine x_icmp_le (tgt := 51) dX0_sendByPriority_45 rfl (fun hc => ?_) (fun hc => ?_)
        · have h := x_t hc h
          refine x_aload_n dX0_sendByPriority_51 rfl 3 rfl ?_
          refine x_dup dX0_sendByPriority_52 rfl ?_
          refine x_getI fl_X0_250 (ok_b (K := 13) (Nat.le_of_ble_eq_true rfl) (Nat.le_of_ble_eq_true rfl) hd1 hp1) rfl dX0_sendByPriority_53 ?_
          refine x_iload dX0_sendByPriority_56 0 rfl ?_
          refine x_isub dX0_sendByPriority_58 ?_
          obtain ⟨s3, hs3, h⟩ := x_let_e h
          refine x_putI s3 hs3 fp_X0_250 (ok_b (K := 13) (Nat.le_of_ble_eq_true rfl) (Nat.le_of_ble_eq_true rfl) hd1 hp1) rfl dX0_sendByPriority_59 ?_
          refine x_aload_n dX0_sendByPriority_62 rfl 2 rfl ?_
          refine x_aload_n dX0_sendByPriority_63 rfl 3 rfl ?_
          refine x_aload dX0_sendByPriority_64 1 rfl ?_
          refine x_aload dX0_sendByPriority_66 1 rfl ?_
          refine x_getI fl_X0_228 (ok_c (ok3_d hg1) (ok3_p hg1) (ok3_r hg1)) rfl dX0_sendByPriority_68 ?_
          obtain ⟨z4, s4, h4, h⟩ := x_b_e h
          refine x_callV (As := [.ref (w.2.2 d1 13 p1 0), .ref (w.2.2 t1.1 16 t1.2.1 t1.2.2), .int (s3 t1.1 16 t1.2.1 t1.2.2 13)]) (st := []) (eX0_takeOut hd0 hd1 hp1 (ok3_d hg1) (ok3_p hg1) (ok3_r hg1) h4) cv_X0_197 (Nat.le_of_ble_eq_true rfl) (ok_a (K := 0) (Nat.le_of_ble_eq_true rfl) hd0) rfl (Nat.le_of_ble_eq_true rfl) _ rfl dX0_sendByPriority_71 [] rfl ?_
          obtain ⟨t5, ht5, h⟩ := x_let_e h
          refine x_iinc t5 1 rfl ht5 dX0_sendByPriority_74 4 rfl (Nat.le_of_ble_eq_true rfl) [(2, .int t5), (5, .int z2), (4, .ref (w.2.2 t1.1 16 t1.2.1 t1.2.2)), (0, .ref (w.2.2 d0 0 0 0)), (1, .ref (w.2.2 d1 13 p1 0)), (3, .int a3)] rfl ?_
          obtain ⟨t6, ht6, h⟩ := x_let_e h
          refine x_iinc t6 1 rfl ht6 dX0_sendByPriority_77 5 rfl (Nat.le_of_ble_eq_true rfl) [(3, .int t6), (2, .int t5), (5, .int z2), (4, .ref (w.2.2 t1.1 16 t1.2.1 t1.2.2)), (0, .ref (w.2.2 d0 0 0 0)), (1, .ref (w.2.2 d1 13 p1 0))] rfl ?_
          refine x_goto (tgt := 4) dX0_sendByPriority_80 rfl ?_
          refine x_sub (L1 := [(0, .ref (w.2.2 d0 0 0 0)), (1, .ref (w.2.2 d1 13 p1 0)), (2, .int t5), (3, .int t6)]) [4, 5, 1, 0] rfl ?_
          exact ih _ _ _ h
        · have h := x_f hc h
          refine x_goto (tgt := 83) dX0_sendByPriority_48 rfl ?_
          refine x_iload_n dX0_sendByPriority_83 rfl 4 rfl ?_
          exact x_iretH rfl dX0_sendByPriority_84 h
set_option maxRecDepth 100000 in
set_option maxHeartbeats 4000000 in
theorem eX0_sendByPriority {l : Launch} {w : xW} {d0 : Nat} {d1 : Nat} {p1 : Nat} (hd0 : d0 < 4) (hd1 : d1 < 4) (hp1 : p1 < 6) {σ τ : xS} {r : Int32} (h : fX0_sendByPriority d0 d1 p1 σ = some (r, τ)) : xEV l w yX0_sendByPriority mX0_sendByPriority [.ref (w.2.2 d0 0 0 0), .ref (w.2.2 d1 13 p1 0)] σ (some (.int r)) τ := by
  rw [fX0_sendByPriority] at h
  refine x_enter (by decide +kernel) rfl (Nat.le_of_ble_eq_true rfl) ?_
  refine x_sub (L1 := [(0, .ref (w.2.2 d0 0 0 0)), (1, .ref (w.2.2 d1 13 p1 0))]) [0, 1] rfl ?_
  refine x_iconst (x := 0) dX0_sendByPriority_0 rfl ?_
  refine x_istore_n 0 rfl dX0_sendByPriority_1 rfl (Nat.le_of_ble_eq_true rfl) [(2, .int 0), (0, .ref (w.2.2 d0 0 0 0)), (1, .ref (w.2.2 d1 13 p1 0))] rfl ?_
  refine x_iconst (x := 0) dX0_sendByPriority_2 rfl ?_
  refine x_istore_n 0 rfl dX0_sendByPriority_3 rfl (Nat.le_of_ble_eq_true rfl) [(3, .int 0), (2, .int 0), (0, .ref (w.2.2 d0 0 0 0)), (1, .ref (w.2.2 d1 13 p1 0))] rfl ?_
  refine x_sub (L1 := [(0, .ref (w.2.2 d0 0 0 0)), (1, .ref (w.2.2 d1 13 p1 0)), (2, .int 0), (3, .int 0)]) [2, 3, 1, 0] rfl ?_
  exact TX0_sendByPriority_4 hd0 hd1 hp1 _ _ _ _ h
set_option maxRecDepth 100000 in
set_option maxHeartbeats 4000000 in
theorem eX0_send {l : Launch} {w : xW} {d0 : Nat} {d1 : Nat} {p1 : Nat} (hd0 : d0 < 4) (hd1 : d1 < 4) (hp1 : p1 < 6) {σ τ : xS} {r : Int32} (h : fX0_send d0 d1 p1 σ = some (r, τ)) : xEV l w yX0_send mX0_send [.ref (w.2.2 d0 0 0 0), .ref (w.2.2 d1 13 p1 0)] σ (some (.int r)) τ := by
  rw [fX0_send] at h
  refine x_enter (by decide +kernel) rfl (Nat.le_of_ble_eq_true rfl) ?_
  refine x_sub (L1 := [(0, .ref (w.2.2 d0 0 0 0)), (1, .ref (w.2.2 d1 13 p1 0))]) [0, 1] rfl ?_
  refine x_aload_n dX0_send_0 rfl 1 rfl ?_
  obtain ⟨z1, s1, h1, h⟩ := x_b_e h
  refine x_callV (As := []) (st := []) (eX2_isIdle hd1 hp1 h1) cv_X0_221 (Nat.le_of_ble_eq_true rfl) (ok_b (K := 13) (Nat.le_of_ble_eq_true rfl) (Nat.le_of_ble_eq_true rfl) hd1 hp1) rfl (Nat.le_of_ble_eq_true rfl) _ rfl dX0_send_1 [.int z1] rfl ?_
  refine x_if_eq (tgt := 9) dX0_send_4 rfl (fun hc => ?_) (fun hc => ?_)
  · have h := x_t hc h
    refine x_aload_n dX0_send_9 rfl 1 rfl ?_
    refine x_dup dX0_send_10 rfl ?_
    refine x_getI fl_X0_250 (ok_b (K := 13) (Nat.le_of_ble_eq_true rfl) (Nat.le_of_ble_eq_true rfl) hd1 hp1) rfl dX0_send_11 ?_
    refine x_aload_n dX0_send_14 rfl 1 rfl ?_
    refine x_getI fl_X0_253 (ok_b (K := 13) (Nat.le_of_ble_eq_true rfl) (Nat.le_of_ble_eq_true rfl) hd1 hp1) rfl dX0_send_15 ?_
    refine x_iadd dX0_send_18 ?_
    obtain ⟨s2, hs2, h⟩ := x_let_e h
    refine x_putI s2 hs2 fp_X0_250 (ok_b (K := 13) (Nat.le_of_ble_eq_true rfl) (Nat.le_of_ble_eq_true rfl) hd1 hp1) rfl dX0_send_19 ?_
    refine x_aload_n dX0_send_22 rfl 1 rfl ?_
    refine x_getI fl_X0_256 (ok_b (K := 13) (Nat.le_of_ble_eq_true rfl) (Nat.le_of_ble_eq_true rfl) hd1 hp1) rfl dX0_send_23 ?_
    refine x_if_eq (tgt := 37) dX0_send_26 rfl (fun hc => ?_) (fun hc => ?_)
    · have h := x_t hc h
      refine x_aload_n dX0_send_37 rfl 0 rfl ?_
      refine x_aload_n dX0_send_38 rfl 1 rfl ?_
      obtain ⟨z3, s3, h3, h⟩ := x_b_e h
      refine x_callV (As := [.ref (w.2.2 d1 13 p1 0)]) (st := []) (eX0_sendByPriority hd0 hd1 hp1 h3) cv_X0_262 (Nat.le_of_ble_eq_true rfl) (ok_a (K := 0) (Nat.le_of_ble_eq_true rfl) hd0) rfl (Nat.le_of_ble_eq_true rfl) _ rfl dX0_send_39 [.int z3] rfl ?_
      refine x_istore_n z3 rfl dX0_send_42 rfl (Nat.le_of_ble_eq_true rfl) [(2, .int z3), (0, .ref (w.2.2 d0 0 0 0)), (1, .ref (w.2.2 d1 13 p1 0))] rfl ?_
      refine x_aload_n dX0_send_43 rfl 2 rfl ?_
      refine x_dup dX0_send_44 rfl ?_
      refine x_getI fl_X0_265 (ok_b (K := 13) (Nat.le_of_ble_eq_true rfl) (Nat.le_of_ble_eq_true rfl) hd1 hp1) rfl dX0_send_45 ?_
      refine x_iload_n dX0_send_48 rfl 0 rfl ?_
      refine x_iadd dX0_send_49 ?_
      obtain ⟨s4, hs4, h⟩ := x_let_e h
      refine x_putI s4 hs4 fp_X0_265 (ok_b (K := 13) (Nat.le_of_ble_eq_true rfl) (Nat.le_of_ble_eq_true rfl) hd1 hp1) rfl dX0_send_50 ?_
      refine x_iload_n dX0_send_53 rfl 0 rfl ?_
      exact x_iretH rfl dX0_send_54 h
    · have h := x_f hc h
      refine x_aload_n dX0_send_29 rfl 0 rfl ?_
      refine x_aload_n dX0_send_30 rfl 1 rfl ?_
      obtain ⟨z5, s5, h5, h⟩ := x_b_e h
      refine x_callV (As := [.ref (w.2.2 d1 13 p1 0)]) (st := []) (eX0_sendInTurns hd0 hd1 hp1 h5) cv_X0_259 (Nat.le_of_ble_eq_true rfl) (ok_a (K := 0) (Nat.le_of_ble_eq_true rfl) hd0) rfl (Nat.le_of_ble_eq_true rfl) _ rfl dX0_send_31 [.int z5] rfl ?_
      refine x_goto (tgt := 42) dX0_send_34 rfl ?_
      refine x_istore_n z5 rfl dX0_send_42 rfl (Nat.le_of_ble_eq_true rfl) [(2, .int z5), (0, .ref (w.2.2 d0 0 0 0)), (1, .ref (w.2.2 d1 13 p1 0))] rfl ?_
      refine x_aload_n dX0_send_43 rfl 2 rfl ?_
      refine x_dup dX0_send_44 rfl ?_
      refine x_getI fl_X0_265 (ok_b (K := 13) (Nat.le_of_ble_eq_true rfl) (Nat.le_of_ble_eq_true rfl) hd1 hp1) rfl dX0_send_45 ?_
      refine x_iload_n dX0_send_48 rfl 0 rfl ?_
      refine x_iadd dX0_send_49 ?_
      obtain ⟨s6, hs6, h⟩ := x_let_e h
      refine x_putI s6 hs6 fp_X0_265 (ok_b (K := 13) (Nat.le_of_ble_eq_true rfl) (Nat.le_of_ble_eq_true rfl) hd1 hp1) rfl dX0_send_50 ?_
      refine x_iload_n dX0_send_53 rfl 0 rfl ?_
      exact x_iretH rfl dX0_send_54 h
  · have h := x_f hc h
    refine x_iconst (x := 0) dX0_send_7 rfl ?_
    exact x_iretH rfl dX0_send_8 h
set_option maxRecDepth 100000 in
set_option maxHeartbeats 4000000 in
theorem TX0_passTick_65 {l : Launch} {w : xW} {d0 : Nat} {a1 : Int32} {a2 : Int32} {a3 : Int32} {d4 : Nat} {p4 : Nat} {a5 : Int32} (hd0 : d0 < 4) (hd4 : d4 < 4) (hp4 : p4 < 6) {k38 : Int32 → xS → Option (Int32 × xS)} {τ : xS} {r : Int32} (hk38 : ∀ (a3 : Int32) (σ1 : xS), k38 a3 σ1 = some (r, τ) → xAt l w mX0_passTick 38 [(0, .ref (w.2.2 d0 0 0 0)), (1, .int a1), (2, .int a2), (3, .int a3)] [] σ1 (some (.int r)) τ) : ∀ (n : Nat) (a6 : Int32) (σ : xS), BX0_passTick_65 d0 a1 a2 a3 d4 p4 a5 k38 n a6 σ = some (r, τ) → xAt l w mX0_passTick 65 [(0, .ref (w.2.2 d0 0 0 0)), (1, .int a1), (2, .int a2), (3, .int a3), (4, .ref (w.2.2 d4 14 p4 0)), (5, .int a5), (6, .int a6)] [] σ (some (.int r)) τ := by
  intro n
  induction n with
  | zero => intro a6 σ h; cases h
  | succ n ih =>
    intro a6 σ h
    rw [BX0_passTick_65] at h
    refine x_iload dX0_passTick_65 6 rfl ?_
    refine x_iload dX0_passTick_67 5 rfl ?_
    refine x_icmp_ge (tgt := 139) dX0_passTick_69 rfl (fun hc => ?_) (fun hc => ?_)
    · have h := x_t hc h
      obtain ⟨t4, ht4, h⟩ := x_let_e h
      refine x_iinc t4 1 rfl ht4 dX0_passTick_139 3 rfl (Nat.le_of_ble_eq_true rfl) [(3, .int t4), (0, .ref (w.2.2 d0 0 0 0)), (1, .int a1), (2, .int a2), (4, .ref (w.2.2 d4 14 p4 0)), (5, .int a5), (6, .int a6)] rfl ?_
      refine x_goto (tgt := 38) dX0_passTick_142 rfl ?_
      refine x_sub (L1 := [(0, .ref (w.2.2 d0 0 0 0)), (1, .int a1), (2, .int a2), (3, .int t4)]) [1, 2, 3, 0] rfl ?_
      exact hk38 _ _ h
    · have h := x_f hc h
      refine x_aload dX0_passTick_72 4 rfl ?_
      refine x_iload dX0_passTick_74 6 rfl ?_
      obtain ⟨hg5, h⟩ := x_g_e h
      refine x_aald (d1 := d4) (K1 := 16) (p1 := p4) (r1 := (a6.toNatClampNeg)) 3 a6.toNatClampNeg rfl 3 RX3 rfl rfl (Nat.le_of_ble_eq_true rfl) rfl rfl (ok_b (K := 14) (Nat.le_of_ble_eq_true rfl) (Nat.le_of_ble_eq_true rfl) hd4 hp4) rfl hg5 dX0_passTick_76 ?_
      refine x_astore dX0_passTick_77 (Nat.le_of_ble_eq_true rfl) [(7, .ref (w.2.2 d4 16 p4 (a6.toNatClampNeg))), (0, .ref (w.2.2 d0 0 0 0)), (1, .int a1), (2, .int a2), (3, .int a3), (4, .ref (w.2.2 d4 14 p4 0)), (5, .int a5), (6, .int a6)] rfl ?_
      refine x_aload dX0_passTick_79 0 rfl ?_
      refine x_aload dX0_passTick_81 0 rfl ?_
      refine x_getI fl_X0_235 (ok_c hd4 hp4 (x_in_lt hg5)) rfl dX0_passTick_83 ?_
      refine x_aload dX0_passTick_86 0 rfl ?_
      refine x_getI fl_X0_238 (ok_c hd4 hp4 (x_in_lt hg5)) rfl dX0_passTick_88 ?_
      refine x_aload dX0_passTick_91 0 rfl ?_
      refine x_getI fl_X0_241 (ok_c hd4 hp4 (x_in_lt hg5)) rfl dX0_passTick_93 ?_
      refine x_iadd dX0_passTick_96 ?_
      refine x_min lk_X0_126 w_min (Nat.le_of_ble_eq_true rfl) (Nat.le_of_ble_eq_true rfl) dX0_passTick_97 ?_
      obtain ⟨s6, hs6, h⟩ := x_let_e h
      refine x_putI s6 hs6 fp_X0_238 (ok_c hd4 hp4 (x_in_lt hg5)) rfl dX0_passTick_100 ?_
      refine x_aload dX0_passTick_103 0 rfl ?_
      refine x_getI fl_X0_157 (ok_c hd4 hp4 (x_in_lt hg5)) rfl dX0_passTick_105 ?_
      refine x_if_ne (tgt := 133) dX0_passTick_108 rfl (fun hc => ?_) (fun hc => ?_)
      · have h := x_f hc h
        obtain ⟨t7, ht7, h⟩ := x_let_e h
        refine x_iinc t7 1 rfl ht7 dX0_passTick_133 7 rfl (Nat.le_of_ble_eq_true rfl) [(6, .int t7), (7, .ref (w.2.2 d4 16 p4 (a6.toNatClampNeg))), (0, .ref (w.2.2 d0 0 0 0)), (1, .int a1), (2, .int a2), (3, .int a3), (4, .ref (w.2.2 d4 14 p4 0)), (5, .int a5)] rfl ?_
        refine x_goto (tgt := 65) dX0_passTick_136 rfl ?_
        refine x_sub (L1 := [(0, .ref (w.2.2 d0 0 0 0)), (1, .int a1), (2, .int a2), (3, .int a3), (4, .ref (w.2.2 d4 14 p4 0)), (5, .int a5), (6, .int t7)]) [2, 3, 4, 5, 6, 7, 0] rfl ?_
        exact ih _ _ h
      · have h := x_t hc h
        refine x_aload dX0_passTick_111 0 rfl ?_
        refine x_getI fl_X0_160 (ok_c hd4 hp4 (x_in_lt hg5)) rfl dX0_passTick_113 ?_
        refine x_iconst (x := 2) dX0_passTick_116 rfl ?_
        refine x_iadd dX0_passTick_117 ?_
        refine x_aload dX0_passTick_118 0 rfl ?_
        refine x_iload_n dX0_passTick_120 rfl 3 rfl ?_
        obtain ⟨z8, s8, h8, h⟩ := x_b_e h
        refine x_callV (As := [.int a2]) (st := [.int ((s6 d4 16 p4 (a6.toNatClampNeg) 11) + 2)]) (eX3_limitWith hd4 hp4 (x_in_lt hg5) h8) cv_X0_244 (Nat.le_of_ble_eq_true rfl) (ok_c hd4 hp4 (x_in_lt hg5)) rfl (Nat.le_of_ble_eq_true rfl) _ rfl dX0_passTick_121 [.int z8, .int ((s6 d4 16 p4 (a6.toNatClampNeg) 11) + 2)] rfl ?_
        refine x_icmp_gt (tgt := 133) dX0_passTick_124 rfl (fun hc => ?_) (fun hc => ?_)
        · have h := x_t hc h
          obtain ⟨t9, ht9, h⟩ := x_let_e h
          refine x_iinc t9 1 rfl ht9 dX0_passTick_133 7 rfl (Nat.le_of_ble_eq_true rfl) [(6, .int t9), (7, .ref (w.2.2 d4 16 p4 (a6.toNatClampNeg))), (0, .ref (w.2.2 d0 0 0 0)), (1, .int a1), (2, .int a2), (3, .int a3), (4, .ref (w.2.2 d4 14 p4 0)), (5, .int a5)] rfl ?_
          refine x_goto (tgt := 65) dX0_passTick_136 rfl ?_
          refine x_sub (L1 := [(0, .ref (w.2.2 d0 0 0 0)), (1, .int a1), (2, .int a2), (3, .int a3), (4, .ref (w.2.2 d4 14 p4 0)), (5, .int a5), (6, .int t9)]) [2, 3, 4, 5, 6, 7, 0] rfl ?_
          exact ih _ _ h
        · have h := x_f hc h
          refine x_aload dX0_passTick_127 0 rfl ?_
          refine x_iconst (x := 0) dX0_passTick_129 rfl ?_
          obtain ⟨s10, hs10, h⟩ := x_let_e h
          refine x_putZ s10 hs10 rfl fp_X0_247 (ok_c hd4 hp4 (x_in_lt hg5)) rfl dX0_passTick_130 ?_
          obtain ⟨t11, ht11, h⟩ := x_let_e h
          refine x_iinc t11 1 rfl ht11 dX0_passTick_133 7 rfl (Nat.le_of_ble_eq_true rfl) [(6, .int t11), (7, .ref (w.2.2 d4 16 p4 (a6.toNatClampNeg))), (0, .ref (w.2.2 d0 0 0 0)), (1, .int a1), (2, .int a2), (3, .int a3), (4, .ref (w.2.2 d4 14 p4 0)), (5, .int a5)] rfl ?_
          refine x_goto (tgt := 65) dX0_passTick_136 rfl ?_
          refine x_sub (L1 := [(0, .ref (w.2.2 d0 0 0 0)), (1, .int a1), (2, .int a2), (3, .int a3), (4, .ref (w.2.2 d4 14 p4 0)), (5, .int a5), (6, .int t11)]) [2, 3, 4, 5, 6, 7, 0] rfl ?_
          exact ih _ _ h
set_option maxRecDepth 100000 in
set_option maxHeartbeats 4000000 in
theorem TX0_passTick_38 {l : Launch} {w : xW} {d0 : Nat} {a1 : Int32} {a2 : Int32} (hd0 : d0 < 4) {τ : xS} {r : Int32} : ∀ (n : Nat) (a3 : Int32) (σ : xS), BX0_passTick_38 d0 a1 a2 n a3 σ = some (r, τ) → xAt l w mX0_passTick 38 [(0, .ref (w.2.2 d0 0 0 0)), (1, .int a1), (2, .int a2), (3, .int a3)] [] σ (some (.int r)) τ := by
  intro n
  induction n with
  | zero => intro a3 σ h; cases h
  | succ n ih =>
    intro a3 σ h
    rw [BX0_passTick_38] at h
    refine x_iload_n dX0_passTick_38 rfl 3 rfl ?_
    refine x_aload_n dX0_passTick_39 rfl 0 rfl ?_
    refine x_getI fl_X0_38 (ok_a (K := 0) (Nat.le_of_ble_eq_true rfl) hd0) rfl dX0_passTick_40 ?_
    refine x_icmp_ge (tgt := 145) dX0_passTick_43 rfl (fun hc => ?_) (fun hc => ?_)
    · have h := x_t hc h
      refine x_aload_n dX0_passTick_145 rfl 0 rfl ?_
      refine x_dup dX0_passTick_146 rfl ?_
      refine x_getI fl_X0_46 (ok_a (K := 0) (Nat.le_of_ble_eq_true rfl) hd0) rfl dX0_passTick_147 ?_
      refine x_iconst (x := 1) dX0_passTick_150 rfl ?_
      refine x_iadd dX0_passTick_151 ?_
      obtain ⟨s2, hs2, h⟩ := x_let_e h
      refine x_putI s2 hs2 fp_X0_46 (ok_a (K := 0) (Nat.le_of_ble_eq_true rfl) hd0) rfl dX0_passTick_152 ?_
      refine x_iload_n dX0_passTick_155 rfl 1 rfl ?_
      exact x_iretH rfl dX0_passTick_156 h
    · have h := x_f hc h
      refine x_aload_n dX0_passTick_46 rfl 0 rfl ?_
      refine x_getR (d1 := d0) (K1 := 10) (p1 := 0) (r1 := 0) fl_X0_20 (ok_a (K := 0) (Nat.le_of_ble_eq_true rfl) hd0) rfl dX0_passTick_47 ?_
      refine x_iload_n dX0_passTick_50 rfl 3 rfl ?_
      obtain ⟨hg3, h⟩ := x_g_e h
      refine x_aald (d1 := d0) (K1 := 13) (p1 := (a3.toNatClampNeg)) (r1 := 0) 6 a3.toNatClampNeg rfl 2 RX2 rfl rfl (Nat.le_of_ble_eq_true rfl) rfl rfl (ok_a (K := 10) (Nat.le_of_ble_eq_true rfl) hd0) rfl hg3 dX0_passTick_51 ?_
      refine x_getR (d1 := d0) (K1 := 14) (p1 := (a3.toNatClampNeg)) (r1 := 0) fl_X0_74 (ok_b (K := 13) (Nat.le_of_ble_eq_true rfl) (Nat.le_of_ble_eq_true rfl) hd0 (x_in_lt hg3)) rfl dX0_passTick_52 ?_
      refine x_astore dX0_passTick_55 (Nat.le_of_ble_eq_true rfl) [(4, .ref (w.2.2 d0 14 (a3.toNatClampNeg) 0)), (0, .ref (w.2.2 d0 0 0 0)), (1, .int a1), (2, .int a2), (3, .int a3)] rfl ?_
      refine x_aload dX0_passTick_57 0 rfl ?_
      refine x_alen 3 rfl (Nat.le_of_ble_eq_true rfl) rfl (ok_b (K := 14) (Nat.le_of_ble_eq_true rfl) (Nat.le_of_ble_eq_true rfl) hd0 (x_in_lt hg3)) dX0_passTick_59 ?_
      refine x_istore 3 rfl dX0_passTick_60 (Nat.le_of_ble_eq_true rfl) [(5, .int 3), (4, .ref (w.2.2 d0 14 (a3.toNatClampNeg) 0)), (0, .ref (w.2.2 d0 0 0 0)), (1, .int a1), (2, .int a2), (3, .int a3)] rfl ?_
      refine x_iconst (x := 0) dX0_passTick_62 rfl ?_
      refine x_istore 0 rfl dX0_passTick_63 (Nat.le_of_ble_eq_true rfl) [(6, .int 0), (5, .int 3), (4, .ref (w.2.2 d0 14 (a3.toNatClampNeg) 0)), (0, .ref (w.2.2 d0 0 0 0)), (1, .int a1), (2, .int a2), (3, .int a3)] rfl ?_
      refine x_sub (L1 := [(0, .ref (w.2.2 d0 0 0 0)), (1, .int a1), (2, .int a2), (3, .int a3), (4, .ref (w.2.2 d0 14 (a3.toNatClampNeg) 0)), (5, .int 3), (6, .int 0)]) [3, 4, 5, 6, 2, 1, 0] rfl ?_
      exact TX0_passTick_65 hd0 hd0 (x_in_lt hg3) ih _ _ _ h
set_option maxRecDepth 100000 in
set_option maxHeartbeats 4000000 in
theorem TX0_passTick_4 {l : Launch} {w : xW} {d0 : Nat} (hd0 : d0 < 4) {τ : xS} {r : Int32} : ∀ (n : Nat) (a1 : Int32) (a2 : Int32) (σ : xS), BX0_passTick_4 d0 n a1 a2 σ = some (r, τ) → xAt l w mX0_passTick 4 [(0, .ref (w.2.2 d0 0 0 0)), (1, .int a1), (2, .int a2)] [] σ (some (.int r)) τ := by
  intro n
  induction n with
  | zero => intro a1 a2 σ h; cases h
  | succ n ih =>
    intro a1 a2 σ h
    rw [BX0_passTick_4] at h
    refine x_iload_n dX0_passTick_4 rfl 2 rfl ?_
    refine x_aload_n dX0_passTick_5 rfl 0 rfl ?_
    refine x_getI fl_X0_38 (ok_a (K := 0) (Nat.le_of_ble_eq_true rfl) hd0) rfl dX0_passTick_6 ?_
    refine x_icmp_ge (tgt := 31) dX0_passTick_9 rfl (fun hc => ?_) (fun hc => ?_)
    · have h := x_t hc h
      refine x_aload_n dX0_passTick_31 rfl 0 rfl ?_
      obtain ⟨z1, s1, h1, h⟩ := x_b_e h
      refine x_callV (As := []) (st := []) (eX0_sharedLeft hd0 h1) cv_X0_101 (Nat.le_of_ble_eq_true rfl) (ok_a (K := 0) (Nat.le_of_ble_eq_true rfl) hd0) rfl (Nat.le_of_ble_eq_true rfl) _ rfl dX0_passTick_32 [.int z1] rfl ?_
      refine x_istore_n z1 rfl dX0_passTick_35 rfl (Nat.le_of_ble_eq_true rfl) [(2, .int z1), (0, .ref (w.2.2 d0 0 0 0)), (1, .int a1)] rfl ?_
      refine x_iconst (x := 0) dX0_passTick_36 rfl ?_
      refine x_istore_n 0 rfl dX0_passTick_37 rfl (Nat.le_of_ble_eq_true rfl) [(3, .int 0), (2, .int z1), (0, .ref (w.2.2 d0 0 0 0)), (1, .int a1)] rfl ?_
      refine x_sub (L1 := [(0, .ref (w.2.2 d0 0 0 0)), (1, .int a1), (2, .int z1), (3, .int 0)]) [2, 3, 1, 0] rfl ?_
      exact TX0_passTick_38 hd0 _ _ _ h
    · have h := x_f hc h
      refine x_iload_n dX0_passTick_12 rfl 1 rfl ?_
      refine x_aload_n dX0_passTick_13 rfl 0 rfl ?_
      refine x_aload_n dX0_passTick_14 rfl 0 rfl ?_
      refine x_getR (d1 := d0) (K1 := 10) (p1 := 0) (r1 := 0) fl_X0_20 (ok_a (K := 0) (Nat.le_of_ble_eq_true rfl) hd0) rfl dX0_passTick_15 ?_
      refine x_iload_n dX0_passTick_18 rfl 2 rfl ?_
      obtain ⟨hg12, h⟩ := x_g_e h
      refine x_aald (d1 := d0) (K1 := 13) (p1 := (a2.toNatClampNeg)) (r1 := 0) 6 a2.toNatClampNeg rfl 2 RX2 rfl rfl (Nat.le_of_ble_eq_true rfl) rfl rfl (ok_a (K := 10) (Nat.le_of_ble_eq_true rfl) hd0) rfl hg12 dX0_passTick_19 ?_
      obtain ⟨z13, s13, h13, h⟩ := x_b_e h
      refine x_callV (As := [.ref (w.2.2 d0 13 (a2.toNatClampNeg) 0)]) (st := [.int a1]) (eX0_send hd0 hd0 (x_in_lt hg12) h13) cv_X0_231 (Nat.le_of_ble_eq_true rfl) (ok_a (K := 0) (Nat.le_of_ble_eq_true rfl) hd0) rfl (Nat.le_of_ble_eq_true rfl) _ rfl dX0_passTick_20 [.int z13, .int a1] rfl ?_
      refine x_iadd dX0_passTick_23 ?_
      obtain ⟨t14, ht14, h⟩ := x_let_e h
      refine x_istore_n t14 ht14 dX0_passTick_24 rfl (Nat.le_of_ble_eq_true rfl) [(1, .int t14), (0, .ref (w.2.2 d0 0 0 0)), (2, .int a2)] rfl ?_
      obtain ⟨t15, ht15, h⟩ := x_let_e h
      refine x_iinc t15 1 rfl ht15 dX0_passTick_25 2 rfl (Nat.le_of_ble_eq_true rfl) [(2, .int t15), (1, .int t14), (0, .ref (w.2.2 d0 0 0 0))] rfl ?_
      refine x_goto (tgt := 4) dX0_passTick_28 rfl ?_
      refine x_sub (L1 := [(0, .ref (w.2.2 d0 0 0 0)), (1, .int t14), (2, .int t15)]) [2, 1, 0] rfl ?_
      exact ih _ _ _ h
set_option maxRecDepth 100000 in
set_option maxHeartbeats 4000000 in
theorem eX0_passTick {l : Launch} {w : xW} {d0 : Nat} (hd0 : d0 < 4) {σ τ : xS} {r : Int32} (h : fX0_passTick d0 σ = some (r, τ)) : xEV l w yX0_passTick mX0_passTick [.ref (w.2.2 d0 0 0 0)] σ (some (.int r)) τ := by
  rw [fX0_passTick] at h
  refine x_enter (by decide +kernel) rfl (Nat.le_of_ble_eq_true rfl) ?_
  refine x_sub (L1 := [(0, .ref (w.2.2 d0 0 0 0))]) [0] rfl ?_
  refine x_iconst (x := 0) dX0_passTick_0 rfl ?_
  refine x_istore_n 0 rfl dX0_passTick_1 rfl (Nat.le_of_ble_eq_true rfl) [(1, .int 0), (0, .ref (w.2.2 d0 0 0 0))] rfl ?_
  refine x_iconst (x := 0) dX0_passTick_2 rfl ?_
  refine x_istore_n 0 rfl dX0_passTick_3 rfl (Nat.le_of_ble_eq_true rfl) [(2, .int 0), (1, .int 0), (0, .ref (w.2.2 d0 0 0 0))] rfl ?_
  refine x_sub (L1 := [(0, .ref (w.2.2 d0 0 0 0)), (1, .int 0), (2, .int 0)]) [2, 1, 0] rfl ?_
  exact TX0_passTick_4 hd0 _ _ _ _ h
