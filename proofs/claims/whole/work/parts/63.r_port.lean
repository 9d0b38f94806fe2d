set_option maxRecDepth 100000 in
set_option maxHeartbeats 4000000 in
theorem eX2_restartSending {l : Launch} {w : xW} {d0 : Nat} {p0 : Nat} (hd0 : d0 < 4) (hp0 : p0 < 6) {σ τ : xS} {r : Unit} (h : fX2_restartSending d0 p0 σ = some (r, τ)) : xEV l w yX2_restartSending mX2_restartSending [.ref (w.2.2 d0 13 p0 0)] σ none τ := by
  rw [fX2_restartSending] at h
  refine x_enter (by decide +kernel) rfl (Nat.le_of_ble_eq_true rfl) ?_
  refine x_sub (L1 := [(0, .ref (w.2.2 d0 13 p0 0))]) [0] rfl ?_
  refine x_aload_n dX2_restartSending_0 rfl 0 rfl ?_
  refine x_iconst (x := 0) dX2_restartSending_1 rfl ?_
  obtain ⟨s1, hs1, h⟩ := x_let_e h
  refine x_putI s1 hs1 fp_X2_63 (ok_b (K := 13) (Nat.le_of_ble_eq_true rfl) (Nat.le_of_ble_eq_true rfl) hd0 hp0) rfl dX2_restartSending_2 ?_
  refine x_aload_n dX2_restartSending_5 rfl 0 rfl ?_
  refine x_iconst (x := 0) dX2_restartSending_6 rfl ?_
  obtain ⟨s2, hs2, h⟩ := x_let_e h
  refine x_putI s2 hs2 fp_X2_66 (ok_b (K := 13) (Nat.le_of_ble_eq_true rfl) (Nat.le_of_ble_eq_true rfl) hd0 hp0) rfl dX2_restartSending_7 ?_
  refine x_aload_n dX2_restartSending_10 rfl 0 rfl ?_
  refine x_iconst (x := 1) dX2_restartSending_11 rfl ?_
  obtain ⟨s3, hs3, h⟩ := x_let_e h
  refine x_putZ s3 hs3 rfl fp_X2_69 (ok_b (K := 13) (Nat.le_of_ble_eq_true rfl) (Nat.le_of_ble_eq_true rfl) hd0 hp0) rfl dX2_restartSending_12 ?_
  exact x_vretH rfl dX2_restartSending_15 h
set_option maxRecDepth 100000 in
set_option maxHeartbeats 4000000 in
theorem TX2_startAnew_33 {l : Launch} {w : xW} {d0 : Nat} {p0 : Nat} (hd0 : d0 < 4) (hp0 : p0 < 6) {τ : xS} {r : Unit} : ∀ (n : Nat) (a1 : Int32) (σ : xS), BX2_startAnew_33 d0 p0 n a1 σ = some (r, τ) → xAt l w mX2_startAnew 33 [(0, .ref (w.2.2 d0 13 p0 0)), (1, .int a1)] [] σ none τ := by
  intro n
  induction n with
  | zero => intro a1 σ h; cases h
  | succ n ih =>
    intro a1 σ h
    rw [BX2_startAnew_33] at h
    refine x_iload_n dX2_startAnew_33 rfl 1 rfl ?_
    refine x_aload_n dX2_startAnew_34 rfl 0 rfl ?_
    refine x_getR (d1 := d0) (K1 := 15) (p1 := p0) (r1 := 0) fl_X2_20 (ok_b (K := 13) (Nat.le_of_ble_eq_true rfl) (Nat.le_of_ble_eq_true rfl) hd0 hp0) rfl dX2_startAnew_35 ?_
    refine x_alen 10 rfl (Nat.le_of_ble_eq_true rfl) rfl (ok_b (K := 15) (Nat.le_of_ble_eq_true rfl) (Nat.le_of_ble_eq_true rfl) hd0 hp0) dX2_startAnew_38 ?_
    refine x_icmp_ge (tgt := 55) dX2_startAnew_39 rfl (fun hc => ?_) (fun hc => ?_)
    · have h := x_t hc h
      refine x_aload_n dX2_startAnew_55 rfl 0 rfl ?_
      refine x_iconst (x := 0) dX2_startAnew_56 rfl ?_
      obtain ⟨s1, hs1, h⟩ := x_let_e h
      refine x_putI s1 hs1 fp_X2_27 (ok_b (K := 13) (Nat.le_of_ble_eq_true rfl) (Nat.le_of_ble_eq_true rfl) hd0 hp0) rfl dX2_startAnew_57 ?_
      refine x_aload_n dX2_startAnew_60 rfl 0 rfl ?_
      refine x_iconst (x := 0) dX2_startAnew_61 rfl ?_
      obtain ⟨s2, hs2, h⟩ := x_let_e h
      refine x_putI s2 hs2 fp_X2_31 (ok_b (K := 13) (Nat.le_of_ble_eq_true rfl) (Nat.le_of_ble_eq_true rfl) hd0 hp0) rfl dX2_startAnew_62 ?_
      refine x_aload_n dX2_startAnew_65 rfl 0 rfl ?_
      refine x_iconst (x := 0) dX2_startAnew_66 rfl ?_
      obtain ⟨s3, hs3, h⟩ := x_let_e h
      refine x_putI s3 hs3 fp_X2_34 (ok_b (K := 13) (Nat.le_of_ble_eq_true rfl) (Nat.le_of_ble_eq_true rfl) hd0 hp0) rfl dX2_startAnew_67 ?_
      refine x_aload_n dX2_startAnew_70 rfl 0 rfl ?_
      refine x_iconst (x := 0) dX2_startAnew_71 rfl ?_
      obtain ⟨s4, hs4, h⟩ := x_let_e h
      refine x_putZ s4 hs4 rfl fp_X2_37 (ok_b (K := 13) (Nat.le_of_ble_eq_true rfl) (Nat.le_of_ble_eq_true rfl) hd0 hp0) rfl dX2_startAnew_72 ?_
      refine x_aload_n dX2_startAnew_75 rfl 0 rfl ?_
      refine x_iconst (x := 4) dX2_startAnew_76 rfl ?_
      obtain ⟨s5, hs5, h⟩ := x_let_e h
      refine x_putI s5 hs5 fp_X2_41 (ok_b (K := 13) (Nat.le_of_ble_eq_true rfl) (Nat.le_of_ble_eq_true rfl) hd0 hp0) rfl dX2_startAnew_77 ?_
      refine x_aload_n dX2_startAnew_80 rfl 0 rfl ?_
      obtain ⟨z6, s6, h6, h⟩ := x_b_e h
      refine x_callV (As := []) (st := []) (eX2_restartSending hd0 hp0 h6) cv_X2_44 (Nat.le_of_ble_eq_true rfl) (ok_b (K := 13) (Nat.le_of_ble_eq_true rfl) (Nat.le_of_ble_eq_true rfl) hd0 hp0) rfl (Nat.le_of_ble_eq_true rfl) _ rfl dX2_startAnew_81 [] rfl ?_
      refine x_aload_n dX2_startAnew_84 rfl 0 rfl ?_
      refine x_iconst (x := 0) dX2_startAnew_85 rfl ?_
      obtain ⟨s7, hs7, h⟩ := x_let_e h
      refine x_putI s7 hs7 fp_X2_47 (ok_b (K := 13) (Nat.le_of_ble_eq_true rfl) (Nat.le_of_ble_eq_true rfl) hd0 hp0) rfl dX2_startAnew_86 ?_
      refine x_aload_n dX2_startAnew_89 rfl 0 rfl ?_
      refine x_iconst (x := 0) dX2_startAnew_90 rfl ?_
      obtain ⟨s8, hs8, h⟩ := x_let_e h
      refine x_putI s8 hs8 fp_X2_50 (ok_b (K := 13) (Nat.le_of_ble_eq_true rfl) (Nat.le_of_ble_eq_true rfl) hd0 hp0) rfl dX2_startAnew_91 ?_
      exact x_vretH rfl dX2_startAnew_94 h
    · have h := x_f hc h
      refine x_aload_n dX2_startAnew_42 rfl 0 rfl ?_
      refine x_getR (d1 := d0) (K1 := 15) (p1 := p0) (r1 := 0) fl_X2_20 (ok_b (K := 13) (Nat.le_of_ble_eq_true rfl) (Nat.le_of_ble_eq_true rfl) hd0 hp0) rfl dX2_startAnew_43 ?_
      refine x_iload_n dX2_startAnew_46 rfl 1 rfl ?_
      refine x_iconst (x := 0) dX2_startAnew_47 rfl ?_
      obtain ⟨hg9, h⟩ := x_g_e h
      obtain ⟨s10, hs10, h⟩ := x_let_e h
      refine x_iast 10 a1.toNatClampNeg rfl s10 hs10 rfl rfl rfl (ok_b (K := 15) (Nat.le_of_ble_eq_true rfl) (Nat.le_of_ble_eq_true rfl) hd0 hp0) hg9 dX2_startAnew_48 ?_
      obtain ⟨t11, ht11, h⟩ := x_let_e h
      refine x_iinc t11 1 rfl ht11 dX2_startAnew_49 1 rfl (Nat.le_of_ble_eq_true rfl) [(1, .int t11), (0, .ref (w.2.2 d0 13 p0 0))] rfl ?_
      refine x_goto (tgt := 33) dX2_startAnew_52 rfl ?_
      refine x_sub (L1 := [(0, .ref (w.2.2 d0 13 p0 0)), (1, .int t11)]) [1, 0] rfl ?_
      exact ih _ _ h
set_option maxRecDepth 100000 in
set_option maxHeartbeats 4000000 in
theorem TX2_startAnew_10 {l : Launch} {w : xW} {d0 : Nat} {p0 : Nat} {d1 : Nat} {p1 : Nat} {a2 : Int32} (hd0 : d0 < 4) (hp0 : p0 < 6) (hd1 : d1 < 4) (hp1 : p1 < 6) {τ : xS} {r : Unit} : ∀ (n : Nat) (a3 : Int32) (σ : xS), BX2_startAnew_10 d0 p0 d1 p1 a2 n a3 σ = some (r, τ) → xAt l w mX2_startAnew 10 [(0, .ref (w.2.2 d0 13 p0 0)), (1, .ref (w.2.2 d1 14 p1 0)), (2, .int a2), (3, .int a3)] [] σ none τ := by
  intro n
  induction n with
  | zero => intro a3 σ h; cases h
  | succ n ih =>
    intro a3 σ h
    rw [BX2_startAnew_10] at h
    refine x_iload_n dX2_startAnew_10 rfl 3 rfl ?_
    refine x_iload_n dX2_startAnew_11 rfl 2 rfl ?_
    refine x_icmp_ge (tgt := 31) dX2_startAnew_12 rfl (fun hc => ?_) (fun hc => ?_)
    · have h := x_t hc h
      refine x_iconst (x := 0) dX2_startAnew_31 rfl ?_
      refine x_istore_n 0 rfl dX2_startAnew_32 rfl (Nat.le_of_ble_eq_true rfl) [(1, .int 0), (0, .ref (w.2.2 d0 13 p0 0)), (2, .int a2), (3, .int a3)] rfl ?_
      refine x_sub (L1 := [(0, .ref (w.2.2 d0 13 p0 0)), (1, .int 0)]) [1, 0] rfl ?_
      exact TX2_startAnew_33 hd0 hp0 _ _ _ h
    · have h := x_f hc h
      refine x_aload_n dX2_startAnew_15 rfl 1 rfl ?_
      refine x_iload_n dX2_startAnew_16 rfl 3 rfl ?_
      obtain ⟨hg12, h⟩ := x_g_e h
      refine x_aald (d1 := d1) (K1 := 16) (p1 := p1) (r1 := (a3.toNatClampNeg)) 3 a3.toNatClampNeg rfl 3 RX3 rfl rfl (Nat.le_of_ble_eq_true rfl) rfl rfl (ok_b (K := 14) (Nat.le_of_ble_eq_true rfl) (Nat.le_of_ble_eq_true rfl) hd1 hp1) rfl hg12 dX2_startAnew_17 ?_
      refine x_astore dX2_startAnew_18 (Nat.le_of_ble_eq_true rfl) [(4, .ref (w.2.2 d1 16 p1 (a3.toNatClampNeg))), (0, .ref (w.2.2 d0 13 p0 0)), (1, .ref (w.2.2 d1 14 p1 0)), (2, .int a2), (3, .int a3)] rfl ?_
      refine x_aload dX2_startAnew_20 0 rfl ?_
      obtain ⟨z13, s13, h13, h⟩ := x_b_e h
      refine x_callV (As := []) (st := []) (eX3_startAnew hd1 hp1 (x_in_lt hg12) h13) cv_X2_24 (Nat.le_of_ble_eq_true rfl) (ok_c hd1 hp1 (x_in_lt hg12)) rfl (Nat.le_of_ble_eq_true rfl) _ rfl dX2_startAnew_22 [] rfl ?_
      obtain ⟨t14, ht14, h⟩ := x_let_e h
      refine x_iinc t14 1 rfl ht14 dX2_startAnew_25 4 rfl (Nat.le_of_ble_eq_true rfl) [(3, .int t14), (4, .ref (w.2.2 d1 16 p1 (a3.toNatClampNeg))), (0, .ref (w.2.2 d0 13 p0 0)), (1, .ref (w.2.2 d1 14 p1 0)), (2, .int a2)] rfl ?_
      refine x_goto (tgt := 10) dX2_startAnew_28 rfl ?_
      refine x_sub (L1 := [(0, .ref (w.2.2 d0 13 p0 0)), (1, .ref (w.2.2 d1 14 p1 0)), (2, .int a2), (3, .int t14)]) [2, 3, 4, 0] rfl ?_
      exact ih _ _ h
set_option maxRecDepth 100000 in
set_option maxHeartbeats 4000000 in
theorem eX2_startAnew {l : Launch} {w : xW} {d0 : Nat} {p0 : Nat} (hd0 : d0 < 4) (hp0 : p0 < 6) {σ τ : xS} {r : Unit} (h : fX2_startAnew d0 p0 σ = some (r, τ)) : xEV l w yX2_startAnew mX2_startAnew [.ref (w.2.2 d0 13 p0 0)] σ none τ := by
  rw [fX2_startAnew] at h
  refine x_enter (by decide +kernel) rfl (Nat.le_of_ble_eq_true rfl) ?_
  refine x_sub (L1 := [(0, .ref (w.2.2 d0 13 p0 0))]) [0] rfl ?_
  refine x_aload_n dX2_startAnew_0 rfl 0 rfl ?_
  refine x_getR (d1 := d0) (K1 := 14) (p1 := p0) (r1 := 0) fl_X2_11 (ok_b (K := 13) (Nat.le_of_ble_eq_true rfl) (Nat.le_of_ble_eq_true rfl) hd0 hp0) rfl dX2_startAnew_1 ?_
  refine x_astore_n dX2_startAnew_4 rfl (Nat.le_of_ble_eq_true rfl) [(1, .ref (w.2.2 d0 14 p0 0)), (0, .ref (w.2.2 d0 13 p0 0))] rfl ?_
  refine x_aload_n dX2_startAnew_5 rfl 0 rfl ?_
  refine x_alen 3 rfl (Nat.le_of_ble_eq_true rfl) rfl (ok_b (K := 14) (Nat.le_of_ble_eq_true rfl) (Nat.le_of_ble_eq_true rfl) hd0 hp0) dX2_startAnew_6 ?_
  refine x_istore_n 3 rfl dX2_startAnew_7 rfl (Nat.le_of_ble_eq_true rfl) [(2, .int 3), (1, .ref (w.2.2 d0 14 p0 0)), (0, .ref (w.2.2 d0 13 p0 0))] rfl ?_
  refine x_iconst (x := 0) dX2_startAnew_8 rfl ?_
  refine x_istore_n 0 rfl dX2_startAnew_9 rfl (Nat.le_of_ble_eq_true rfl) [(3, .int 0), (2, .int 3), (1, .ref (w.2.2 d0 14 p0 0)), (0, .ref (w.2.2 d0 13 p0 0))] rfl ?_
  refine x_sub (L1 := [(0, .ref (w.2.2 d0 13 p0 0)), (1, .ref (w.2.2 d0 14 p0 0)), (2, .int 3), (3, .int 0)]) [3, 2, 1, 0] rfl ?_
  exact TX2_startAnew_10 hd0 hp0 hd0 hp0 _ _ _ h
set_option maxRecDepth 100000 in
set_option maxHeartbeats 4000000 in
theorem TX2_copyFrom_2 {l : Launch} {w : xW} {d0 : Nat} {p0 : Nat} {d1 : Nat} {p1 : Nat} (hd0 : d0 < 4) (hp0 : p0 < 6) (hd1 : d1 < 4) (hp1 : p1 < 6) {τ : xS} {r : Unit} : ∀ (n : Nat) (a2 : Int32) (σ : xS), BX2_copyFrom_2 d0 p0 d1 p1 n a2 σ = some (r, τ) → xAt l w mX2_copyFrom 2 [(0, .ref (w.2.2 d0 13 p0 0)), (1, .ref (w.2.2 d1 13 p1 0)), (2, .int a2)] [] σ none τ := by
  intro n
  induction n with
  | zero => intro a2 σ h; cases h
  | succ n ih =>
    intro a2 σ h
    rw [BX2_copyFrom_2] at h
    refine x_iload_n dX2_copyFrom_2 rfl 2 rfl ?_
    refine x_iconst (x := 3) dX2_copyFrom_3 rfl ?_
    refine x_icmp_ge (tgt := 28) dX2_copyFrom_4 rfl (fun hc => ?_) (fun hc => ?_)
    · have h := x_t hc h
      refine x_aload_n dX2_copyFrom_28 rfl 1 rfl ?_
      refine x_getR (d1 := d1) (K1 := 15) (p1 := p1) (r1 := 0) fl_X2_20 (ok_b (K := 13) (Nat.le_of_ble_eq_true rfl) (Nat.le_of_ble_eq_true rfl) hd1 hp1) rfl dX2_copyFrom_29 ?_
      refine x_iconst (x := 0) dX2_copyFrom_32 rfl ?_
      refine x_aload_n dX2_copyFrom_33 rfl 0 rfl ?_
      refine x_getR (d1 := d0) (K1 := 15) (p1 := p0) (r1 := 0) fl_X2_20 (ok_b (K := 13) (Nat.le_of_ble_eq_true rfl) (Nat.le_of_ble_eq_true rfl) hd0 hp0) rfl dX2_copyFrom_34 ?_
      refine x_iconst (x := 0) dX2_copyFrom_37 rfl ?_
      refine x_bipush (x := 10) dX2_copyFrom_38 rfl ?_
      obtain ⟨s1, hs1, h⟩ := x_let_e h
      refine x_copy 10 10 10 rfl s1 hs1 lk_X2_57 w_copy (Nat.le_of_ble_eq_true rfl) rfl rfl rfl rfl (ok_b (K := 15) (Nat.le_of_ble_eq_true rfl) (Nat.le_of_ble_eq_true rfl) hd1 hp1) rfl rfl rfl (ok_b (K := 15) (Nat.le_of_ble_eq_true rfl) (Nat.le_of_ble_eq_true rfl) hd0 hp0) (by decide) (Nat.le_of_ble_eq_true rfl) (Nat.le_of_ble_eq_true rfl) dX2_copyFrom_40 ?_
      refine x_aload_n dX2_copyFrom_43 rfl 0 rfl ?_
      refine x_aload_n dX2_copyFrom_44 rfl 1 rfl ?_
      refine x_getI fl_X2_27 (ok_b (K := 13) (Nat.le_of_ble_eq_true rfl) (Nat.le_of_ble_eq_true rfl) hd1 hp1) rfl dX2_copyFrom_45 ?_
      obtain ⟨s2, hs2, h⟩ := x_let_e h
      refine x_putI s2 hs2 fp_X2_27 (ok_b (K := 13) (Nat.le_of_ble_eq_true rfl) (Nat.le_of_ble_eq_true rfl) hd0 hp0) rfl dX2_copyFrom_48 ?_
      refine x_aload_n dX2_copyFrom_51 rfl 0 rfl ?_
      refine x_aload_n dX2_copyFrom_52 rfl 1 rfl ?_
      refine x_getI fl_X2_31 (ok_b (K := 13) (Nat.le_of_ble_eq_true rfl) (Nat.le_of_ble_eq_true rfl) hd1 hp1) rfl dX2_copyFrom_53 ?_
      obtain ⟨s3, hs3, h⟩ := x_let_e h
      refine x_putI s3 hs3 fp_X2_31 (ok_b (K := 13) (Nat.le_of_ble_eq_true rfl) (Nat.le_of_ble_eq_true rfl) hd0 hp0) rfl dX2_copyFrom_56 ?_
      refine x_aload_n dX2_copyFrom_59 rfl 0 rfl ?_
      refine x_aload_n dX2_copyFrom_60 rfl 1 rfl ?_
      refine x_getI fl_X2_34 (ok_b (K := 13) (Nat.le_of_ble_eq_true rfl) (Nat.le_of_ble_eq_true rfl) hd1 hp1) rfl dX2_copyFrom_61 ?_
      obtain ⟨s4, hs4, h⟩ := x_let_e h
      refine x_putI s4 hs4 fp_X2_34 (ok_b (K := 13) (Nat.le_of_ble_eq_true rfl) (Nat.le_of_ble_eq_true rfl) hd0 hp0) rfl dX2_copyFrom_64 ?_
      refine x_aload_n dX2_copyFrom_67 rfl 0 rfl ?_
      refine x_aload_n dX2_copyFrom_68 rfl 1 rfl ?_
      refine x_getI fl_X2_37 (ok_b (K := 13) (Nat.le_of_ble_eq_true rfl) (Nat.le_of_ble_eq_true rfl) hd1 hp1) rfl dX2_copyFrom_69 ?_
      obtain ⟨hg6, h⟩ := x_g_e h
      obtain ⟨s5, hs5, h⟩ := x_let_e h
      refine x_putZ s5 hs5 hg6 fp_X2_37 (ok_b (K := 13) (Nat.le_of_ble_eq_true rfl) (Nat.le_of_ble_eq_true rfl) hd0 hp0) rfl dX2_copyFrom_72 ?_
      refine x_aload_n dX2_copyFrom_75 rfl 0 rfl ?_
      refine x_aload_n dX2_copyFrom_76 rfl 1 rfl ?_
      refine x_getI fl_X2_41 (ok_b (K := 13) (Nat.le_of_ble_eq_true rfl) (Nat.le_of_ble_eq_true rfl) hd1 hp1) rfl dX2_copyFrom_77 ?_
      obtain ⟨s7, hs7, h⟩ := x_let_e h
      refine x_putI s7 hs7 fp_X2_41 (ok_b (K := 13) (Nat.le_of_ble_eq_true rfl) (Nat.le_of_ble_eq_true rfl) hd0 hp0) rfl dX2_copyFrom_80 ?_
      refine x_aload_n dX2_copyFrom_83 rfl 0 rfl ?_
      refine x_aload_n dX2_copyFrom_84 rfl 1 rfl ?_
      refine x_getI fl_X2_63 (ok_b (K := 13) (Nat.le_of_ble_eq_true rfl) (Nat.le_of_ble_eq_true rfl) hd1 hp1) rfl dX2_copyFrom_85 ?_
      obtain ⟨s8, hs8, h⟩ := x_let_e h
      refine x_putI s8 hs8 fp_X2_63 (ok_b (K := 13) (Nat.le_of_ble_eq_true rfl) (Nat.le_of_ble_eq_true rfl) hd0 hp0) rfl dX2_copyFrom_88 ?_
      refine x_aload_n dX2_copyFrom_91 rfl 0 rfl ?_
      refine x_aload_n dX2_copyFrom_92 rfl 1 rfl ?_
      refine x_getI fl_X2_66 (ok_b (K := 13) (Nat.le_of_ble_eq_true rfl) (Nat.le_of_ble_eq_true rfl) hd1 hp1) rfl dX2_copyFrom_93 ?_
      obtain ⟨s9, hs9, h⟩ := x_let_e h
      refine x_putI s9 hs9 fp_X2_66 (ok_b (K := 13) (Nat.le_of_ble_eq_true rfl) (Nat.le_of_ble_eq_true rfl) hd0 hp0) rfl dX2_copyFrom_96 ?_
      refine x_aload_n dX2_copyFrom_99 rfl 0 rfl ?_
      refine x_aload_n dX2_copyFrom_100 rfl 1 rfl ?_
      refine x_getI fl_X2_69 (ok_b (K := 13) (Nat.le_of_ble_eq_true rfl) (Nat.le_of_ble_eq_true rfl) hd1 hp1) rfl dX2_copyFrom_101 ?_
      obtain ⟨hg11, h⟩ := x_g_e h
      obtain ⟨s10, hs10, h⟩ := x_let_e h
      refine x_putZ s10 hs10 hg11 fp_X2_69 (ok_b (K := 13) (Nat.le_of_ble_eq_true rfl) (Nat.le_of_ble_eq_true rfl) hd0 hp0) rfl dX2_copyFrom_104 ?_
      refine x_aload_n dX2_copyFrom_107 rfl 0 rfl ?_
      refine x_aload_n dX2_copyFrom_108 rfl 1 rfl ?_
      refine x_getI fl_X2_47 (ok_b (K := 13) (Nat.le_of_ble_eq_true rfl) (Nat.le_of_ble_eq_true rfl) hd1 hp1) rfl dX2_copyFrom_109 ?_
      obtain ⟨s12, hs12, h⟩ := x_let_e h
      refine x_putI s12 hs12 fp_X2_47 (ok_b (K := 13) (Nat.le_of_ble_eq_true rfl) (Nat.le_of_ble_eq_true rfl) hd0 hp0) rfl dX2_copyFrom_112 ?_
      refine x_aload_n dX2_copyFrom_115 rfl 0 rfl ?_
      refine x_aload_n dX2_copyFrom_116 rfl 1 rfl ?_
      refine x_getI fl_X2_50 (ok_b (K := 13) (Nat.le_of_ble_eq_true rfl) (Nat.le_of_ble_eq_true rfl) hd1 hp1) rfl dX2_copyFrom_117 ?_
      obtain ⟨s13, hs13, h⟩ := x_let_e h
      refine x_putI s13 hs13 fp_X2_50 (ok_b (K := 13) (Nat.le_of_ble_eq_true rfl) (Nat.le_of_ble_eq_true rfl) hd0 hp0) rfl dX2_copyFrom_120 ?_
      exact x_vretH rfl dX2_copyFrom_123 h
    · have h := x_f hc h
      refine x_aload_n dX2_copyFrom_7 rfl 0 rfl ?_
      refine x_getR (d1 := d0) (K1 := 14) (p1 := p0) (r1 := 0) fl_X2_11 (ok_b (K := 13) (Nat.le_of_ble_eq_true rfl) (Nat.le_of_ble_eq_true rfl) hd0 hp0) rfl dX2_copyFrom_8 ?_
      refine x_iload_n dX2_copyFrom_11 rfl 2 rfl ?_
      obtain ⟨hg14, h⟩ := x_g_e h
      refine x_aald (d1 := d0) (K1 := 16) (p1 := p0) (r1 := (a2.toNatClampNeg)) 3 a2.toNatClampNeg rfl 3 RX3 rfl rfl (Nat.le_of_ble_eq_true rfl) rfl rfl (ok_b (K := 14) (Nat.le_of_ble_eq_true rfl) (Nat.le_of_ble_eq_true rfl) hd0 hp0) rfl hg14 dX2_copyFrom_12 ?_
      refine x_aload_n dX2_copyFrom_13 rfl 1 rfl ?_
      refine x_getR (d1 := d1) (K1 := 14) (p1 := p1) (r1 := 0) fl_X2_11 (ok_b (K := 13) (Nat.le_of_ble_eq_true rfl) (Nat.le_of_ble_eq_true rfl) hd1 hp1) rfl dX2_copyFrom_14 ?_
      refine x_iload_n dX2_copyFrom_17 rfl 2 rfl ?_
      obtain ⟨hg15, h⟩ := x_g_e h
      refine x_aald (d1 := d1) (K1 := 16) (p1 := p1) (r1 := (a2.toNatClampNeg)) 3 a2.toNatClampNeg rfl 3 RX3 rfl rfl (Nat.le_of_ble_eq_true rfl) rfl rfl (ok_b (K := 14) (Nat.le_of_ble_eq_true rfl) (Nat.le_of_ble_eq_true rfl) hd1 hp1) rfl hg15 dX2_copyFrom_18 ?_
      obtain ⟨z16, s16, h16, h⟩ := x_b_e h
      refine x_callV (As := [.ref (w.2.2 d1 16 p1 (a2.toNatClampNeg))]) (st := []) (eX3_copyFrom hd0 hp0 (x_in_lt hg14) hd1 hp1 (x_in_lt hg15) h16) cv_X2_53 (Nat.le_of_ble_eq_true rfl) (ok_c hd0 hp0 (x_in_lt hg14)) rfl (Nat.le_of_ble_eq_true rfl) _ rfl dX2_copyFrom_19 [] rfl ?_
      obtain ⟨t17, ht17, h⟩ := x_let_e h
      refine x_iinc t17 1 rfl ht17 dX2_copyFrom_22 2 rfl (Nat.le_of_ble_eq_true rfl) [(2, .int t17), (0, .ref (w.2.2 d0 13 p0 0)), (1, .ref (w.2.2 d1 13 p1 0))] rfl ?_
      refine x_goto (tgt := 2) dX2_copyFrom_25 rfl ?_
      refine x_sub (L1 := [(0, .ref (w.2.2 d0 13 p0 0)), (1, .ref (w.2.2 d1 13 p1 0)), (2, .int t17)]) [1, 2, 0] rfl ?_
      exact ih _ _ h
set_option maxRecDepth 100000 in
set_option maxHeartbeats 4000000 in
theorem eX2_copyFrom {l : Launch} {w : xW} {d0 : Nat} {p0 : Nat} {d1 : Nat} {p1 : Nat} (hd0 : d0 < 4) (hp0 : p0 < 6) (hd1 : d1 < 4) (hp1 : p1 < 6) {σ τ : xS} {r : Unit} (h : fX2_copyFrom d0 p0 d1 p1 σ = some (r, τ)) : xEV l w yX2_copyFrom mX2_copyFrom [.ref (w.2.2 d0 13 p0 0), .ref (w.2.2 d1 13 p1 0)] σ none τ := by
  rw [fX2_copyFrom] at h
  refine x_enter (by decide +kernel) rfl (Nat.le_of_ble_eq_true rfl) ?_
  refine x_sub (L1 := [(0, .ref (w.2.2 d0 13 p0 0)), (1, .ref (w.2.2 d1 13 p1 0))]) [0, 1] rfl ?_
  refine x_iconst (x := 0) dX2_copyFrom_0 rfl ?_
  refine x_istore_n 0 rfl dX2_copyFrom_1 rfl (Nat.le_of_ble_eq_true rfl) [(2, .int 0), (0, .ref (w.2.2 d0 13 p0 0)), (1, .ref (w.2.2 d1 13 p1 0))] rfl ?_
  refine x_sub (L1 := [(0, .ref (w.2.2 d0 13 p0 0)), (1, .ref (w.2.2 d1 13 p1 0)), (2, .int 0)]) [1, 2, 0] rfl ?_
  exact TX2_copyFrom_2 hd0 hp0 hd1 hp1 _ _ _ h
set_option maxRecDepth 100000 in
set_option maxHeartbeats 4000000 in
theorem eX2_guaranteedInUse {l : Launch} {w : xW} {d0 : Nat} {p0 : Nat} (hd0 : d0 < 4) (hp0 : p0 < 6) {σ τ : xS} {r : Int32} (h : fX2_guaranteedInUse d0 p0 σ = some (r, τ)) : xEV l w yX2_guaranteedInUse mX2_guaranteedInUse [.ref (w.2.2 d0 13 p0 0)] σ (some (.int r)) τ := by
  rw [fX2_guaranteedInUse] at h
  refine x_enter (by decide +kernel) rfl (Nat.le_of_ble_eq_true rfl) ?_
  refine x_sub (L1 := [(0, .ref (w.2.2 d0 13 p0 0))]) [0] rfl ?_
  refine x_aload_n dX2_guaranteedInUse_0 rfl 0 rfl ?_
  refine x_getR (d1 := d0) (K1 := 14) (p1 := p0) (r1 := 0) fl_X2_11 (ok_b (K := 13) (Nat.le_of_ble_eq_true rfl) (Nat.le_of_ble_eq_true rfl) hd0 hp0) rfl dX2_guaranteedInUse_1 ?_
  refine x_iconst (x := 0) dX2_guaranteedInUse_4 rfl ?_
  refine x_aald (d1 := d0) (K1 := 16) (p1 := p0) (r1 := 0) 3 0 rfl 3 RX3 rfl rfl (Nat.le_of_ble_eq_true rfl) rfl rfl (ok_b (K := 14) (Nat.le_of_ble_eq_true rfl) (Nat.le_of_ble_eq_true rfl) hd0 hp0) rfl rfl dX2_guaranteedInUse_5 ?_
  refine x_getI fl_X2_72 (ok_c hd0 hp0 (Nat.le_of_ble_eq_true rfl)) rfl dX2_guaranteedInUse_6 ?_
  refine x_aload_n dX2_guaranteedInUse_9 rfl 0 rfl ?_
  refine x_getR (d1 := d0) (K1 := 14) (p1 := p0) (r1 := 0) fl_X2_11 (ok_b (K := 13) (Nat.le_of_ble_eq_true rfl) (Nat.le_of_ble_eq_true rfl) hd0 hp0) rfl dX2_guaranteedInUse_10 ?_
  refine x_iconst (x := 1) dX2_guaranteedInUse_13 rfl ?_
  refine x_aald (d1 := d0) (K1 := 16) (p1 := p0) (r1 := 1) 3 1 rfl 3 RX3 rfl rfl (Nat.le_of_ble_eq_true rfl) rfl rfl (ok_b (K := 14) (Nat.le_of_ble_eq_true rfl) (Nat.le_of_ble_eq_true rfl) hd0 hp0) rfl rfl dX2_guaranteedInUse_14 ?_
  refine x_getI fl_X2_72 (ok_c hd0 hp0 (Nat.le_of_ble_eq_true rfl)) rfl dX2_guaranteedInUse_15 ?_
  refine x_iadd dX2_guaranteedInUse_18 ?_
  refine x_aload_n dX2_guaranteedInUse_19 rfl 0 rfl ?_
  refine x_getR (d1 := d0) (K1 := 14) (p1 := p0) (r1 := 0) fl_X2_11 (ok_b (K := 13) (Nat.le_of_ble_eq_true rfl) (Nat.le_of_ble_eq_true rfl) hd0 hp0) rfl dX2_guaranteedInUse_20 ?_
  refine x_iconst (x := 2) dX2_guaranteedInUse_23 rfl ?_
  refine x_aald (d1 := d0) (K1 := 16) (p1 := p0) (r1 := 2) 3 2 rfl 3 RX3 rfl rfl (Nat.le_of_ble_eq_true rfl) rfl rfl (ok_b (K := 14) (Nat.le_of_ble_eq_true rfl) (Nat.le_of_ble_eq_true rfl) hd0 hp0) rfl rfl dX2_guaranteedInUse_24 ?_
  refine x_getI fl_X2_72 (ok_c hd0 hp0 (Nat.le_of_ble_eq_true rfl)) rfl dX2_guaranteedInUse_25 ?_
  refine x_iadd dX2_guaranteedInUse_28 ?_
  exact x_iretH rfl dX2_guaranteedInUse_29 h
set_option maxRecDepth 100000 in
set_option maxHeartbeats 4000000 in
theorem eX2_sharedInUse {l : Launch} {w : xW} {d0 : Nat} {p0 : Nat} (hd0 : d0 < 4) (hp0 : p0 < 6) {σ τ : xS} {r : Int32} (h : fX2_sharedInUse d0 p0 σ = some (r, τ)) : xEV l w yX2_sharedInUse mX2_sharedInUse [.ref (w.2.2 d0 13 p0 0)] σ (some (.int r)) τ := by
  rw [fX2_sharedInUse] at h
  refine x_enter (by decide +kernel) rfl (Nat.le_of_ble_eq_true rfl) ?_
  refine x_sub (L1 := [(0, .ref (w.2.2 d0 13 p0 0))]) [0] rfl ?_
  refine x_aload_n dX2_sharedInUse_0 rfl 0 rfl ?_
  refine x_getR (d1 := d0) (K1 := 14) (p1 := p0) (r1 := 0) fl_X2_11 (ok_b (K := 13) (Nat.le_of_ble_eq_true rfl) (Nat.le_of_ble_eq_true rfl) hd0 hp0) rfl dX2_sharedInUse_1 ?_
  refine x_iconst (x := 0) dX2_sharedInUse_4 rfl ?_
  refine x_aald (d1 := d0) (K1 := 16) (p1 := p0) (r1 := 0) 3 0 rfl 3 RX3 rfl rfl (Nat.le_of_ble_eq_true rfl) rfl rfl (ok_b (K := 14) (Nat.le_of_ble_eq_true rfl) (Nat.le_of_ble_eq_true rfl) hd0 hp0) rfl rfl dX2_sharedInUse_5 ?_
  refine x_getI fl_X2_75 (ok_c hd0 hp0 (Nat.le_of_ble_eq_true rfl)) rfl dX2_sharedInUse_6 ?_
  refine x_aload_n dX2_sharedInUse_9 rfl 0 rfl ?_
  refine x_getR (d1 := d0) (K1 := 14) (p1 := p0) (r1 := 0) fl_X2_11 (ok_b (K := 13) (Nat.le_of_ble_eq_true rfl) (Nat.le_of_ble_eq_true rfl) hd0 hp0) rfl dX2_sharedInUse_10 ?_
  refine x_iconst (x := 1) dX2_sharedInUse_13 rfl ?_
  refine x_aald (d1 := d0) (K1 := 16) (p1 := p0) (r1 := 1) 3 1 rfl 3 RX3 rfl rfl (Nat.le_of_ble_eq_true rfl) rfl rfl (ok_b (K := 14) (Nat.le_of_ble_eq_true rfl) (Nat.le_of_ble_eq_true rfl) hd0 hp0) rfl rfl dX2_sharedInUse_14 ?_
  refine x_getI fl_X2_75 (ok_c hd0 hp0 (Nat.le_of_ble_eq_true rfl)) rfl dX2_sharedInUse_15 ?_
  refine x_iadd dX2_sharedInUse_18 ?_
  refine x_aload_n dX2_sharedInUse_19 rfl 0 rfl ?_
  refine x_getR (d1 := d0) (K1 := 14) (p1 := p0) (r1 := 0) fl_X2_11 (ok_b (K := 13) (Nat.le_of_ble_eq_true rfl) (Nat.le_of_ble_eq_true rfl) hd0 hp0) rfl dX2_sharedInUse_20 ?_
  refine x_iconst (x := 2) dX2_sharedInUse_23 rfl ?_
  refine x_aald (d1 := d0) (K1 := 16) (p1 := p0) (r1 := 2) 3 2 rfl 3 RX3 rfl rfl (Nat.le_of_ble_eq_true rfl) rfl rfl (ok_b (K := 14) (Nat.le_of_ble_eq_true rfl) (Nat.le_of_ble_eq_true rfl) hd0 hp0) rfl rfl dX2_sharedInUse_24 ?_
  refine x_getI fl_X2_75 (ok_c hd0 hp0 (Nat.le_of_ble_eq_true rfl)) rfl dX2_sharedInUse_25 ?_
  refine x_iadd dX2_sharedInUse_28 ?_
  exact x_iretH rfl dX2_sharedInUse_29 h
set_option maxRecDepth 100000 in
set_option maxHeartbeats 4000000 in
theorem eX2_headroomInUse {l : Launch} {w : xW} {d0 : Nat} {p0 : Nat} (hd0 : d0 < 4) (hp0 : p0 < 6) {σ τ : xS} {r : Int32} (h : fX2_headroomInUse d0 p0 σ = some (r, τ)) : xEV l w yX2_headroomInUse mX2_headroomInUse [.ref (w.2.2 d0 13 p0 0)] σ (some (.int r)) τ := by
  rw [fX2_headroomInUse] at h
  refine x_enter (by decide +kernel) rfl (Nat.le_of_ble_eq_true rfl) ?_
  refine x_sub (L1 := [(0, .ref (w.2.2 d0 13 p0 0))]) [0] rfl ?_
  refine x_aload_n dX2_headroomInUse_0 rfl 0 rfl ?_
  refine x_getR (d1 := d0) (K1 := 14) (p1 := p0) (r1 := 0) fl_X2_11 (ok_b (K := 13) (Nat.le_of_ble_eq_true rfl) (Nat.le_of_ble_eq_true rfl) hd0 hp0) rfl dX2_headroomInUse_1 ?_
  refine x_iconst (x := 0) dX2_headroomInUse_4 rfl ?_
  refine x_aald (d1 := d0) (K1 := 16) (p1 := p0) (r1 := 0) 3 0 rfl 3 RX3 rfl rfl (Nat.le_of_ble_eq_true rfl) rfl rfl (ok_b (K := 14) (Nat.le_of_ble_eq_true rfl) (Nat.le_of_ble_eq_true rfl) hd0 hp0) rfl rfl dX2_headroomInUse_5 ?_
  refine x_getI fl_X2_78 (ok_c hd0 hp0 (Nat.le_of_ble_eq_true rfl)) rfl dX2_headroomInUse_6 ?_
  refine x_aload_n dX2_headroomInUse_9 rfl 0 rfl ?_
  refine x_getR (d1 := d0) (K1 := 14) (p1 := p0) (r1 := 0) fl_X2_11 (ok_b (K := 13) (Nat.le_of_ble_eq_true rfl) (Nat.le_of_ble_eq_true rfl) hd0 hp0) rfl dX2_headroomInUse_10 ?_
  refine x_iconst (x := 1) dX2_headroomInUse_13 rfl ?_
  refine x_aald (d1 := d0) (K1 := 16) (p1 := p0) (r1 := 1) 3 1 rfl 3 RX3 rfl rfl (Nat.le_of_ble_eq_true rfl) rfl rfl (ok_b (K := 14) (Nat.le_of_ble_eq_true rfl) (Nat.le_of_ble_eq_true rfl) hd0 hp0) rfl rfl dX2_headroomInUse_14 ?_
  refine x_getI fl_X2_78 (ok_c hd0 hp0 (Nat.le_of_ble_eq_true rfl)) rfl dX2_headroomInUse_15 ?_
  refine x_iadd dX2_headroomInUse_18 ?_
  refine x_aload_n dX2_headroomInUse_19 rfl 0 rfl ?_
  refine x_getR (d1 := d0) (K1 := 14) (p1 := p0) (r1 := 0) fl_X2_11 (ok_b (K := 13) (Nat.le_of_ble_eq_true rfl) (Nat.le_of_ble_eq_true rfl) hd0 hp0) rfl dX2_headroomInUse_20 ?_
  refine x_iconst (x := 2) dX2_headroomInUse_23 rfl ?_
  refine x_aald (d1 := d0) (K1 := 16) (p1 := p0) (r1 := 2) 3 2 rfl 3 RX3 rfl rfl (Nat.le_of_ble_eq_true rfl) rfl rfl (ok_b (K := 14) (Nat.le_of_ble_eq_true rfl) (Nat.le_of_ble_eq_true rfl) hd0 hp0) rfl rfl dX2_headroomInUse_24 ?_
  refine x_getI fl_X2_78 (ok_c hd0 hp0 (Nat.le_of_ble_eq_true rfl)) rfl dX2_headroomInUse_25 ?_
  refine x_iadd dX2_headroomInUse_28 ?_
  exact x_iretH rfl dX2_headroomInUse_29 h
set_option maxRecDepth 100000 in
set_option maxHeartbeats 4000000 in
theorem eX2_guaranteeLeft {l : Launch} {w : xW} {d0 : Nat} {p0 : Nat} (hd0 : d0 < 4) (hp0 : p0 < 6) {σ τ : xS} {r : Int32} (h : fX2_guaranteeLeft d0 p0 σ = some (r, τ)) : xEV l w yX2_guaranteeLeft mX2_guaranteeLeft [.ref (w.2.2 d0 13 p0 0)] σ (some (.int r)) τ := by
  rw [fX2_guaranteeLeft] at h
  refine x_enter (by decide +kernel) rfl (Nat.le_of_ble_eq_true rfl) ?_
  refine x_sub (L1 := [(0, .ref (w.2.2 d0 13 p0 0))]) [0] rfl ?_
  refine x_aload_n dX2_guaranteeLeft_0 rfl 0 rfl ?_
  refine x_getI fl_X2_27 (ok_b (K := 13) (Nat.le_of_ble_eq_true rfl) (Nat.le_of_ble_eq_true rfl) hd0 hp0) rfl dX2_guaranteeLeft_1 ?_
  refine x_aload_n dX2_guaranteeLeft_4 rfl 0 rfl ?_
  refine x_getI fl_X2_34 (ok_b (K := 13) (Nat.le_of_ble_eq_true rfl) (Nat.le_of_ble_eq_true rfl) hd0 hp0) rfl dX2_guaranteeLeft_5 ?_
  refine x_iadd dX2_guaranteeLeft_8 ?_
  refine x_aload_n dX2_guaranteeLeft_9 rfl 0 rfl ?_
  obtain ⟨z1, s1, h1, h⟩ := x_b_e h
  refine x_callV (As := []) (st := [.int ((σ d0 13 p0 0 2) + (σ d0 13 p0 0 4))]) (eX2_guaranteedInUse hd0 hp0 h1) cv_X2_81 (Nat.le_of_ble_eq_true rfl) (ok_b (K := 13) (Nat.le_of_ble_eq_true rfl) (Nat.le_of_ble_eq_true rfl) hd0 hp0) rfl (Nat.le_of_ble_eq_true rfl) _ rfl dX2_guaranteeLeft_10 [.int z1, .int ((σ d0 13 p0 0 2) + (σ d0 13 p0 0 4))] rfl ?_
  refine x_isub dX2_guaranteeLeft_13 ?_
  exact x_iretH rfl dX2_guaranteeLeft_14 h
set_option maxRecDepth 100000 in
set_option maxHeartbeats 4000000 in
theorem eX2_isIdle {l : Launch} {w : xW} {d0 : Nat} {p0 : Nat} (hd0 : d0 < 4) (hp0 : p0 < 6) {σ τ : xS} {r : Int32} (h : fX2_isIdle d0 p0 σ = some (r, τ)) : xEV l w yX2_isIdle mX2_isIdle [.ref (w.2.2 d0 13 p0 0)] σ (some (.int r)) τ := by
  rw [fX2_isIdle] at h
  refine x_enter (by decide +kernel) rfl (Nat.le_of_ble_eq_true rfl) ?_
  refine x_sub (L1 := [(0, .ref (w.2.2 d0 13 p0 0))]) [0] rfl ?_
  refine x_aload_n dX2_isIdle_0 rfl 0 rfl ?_
  refine x_getR (d1 := d0) (K1 := 14) (p1 := p0) (r1 := 0) fl_X2_11 (ok_b (K := 13) (Nat.le_of_ble_eq_true rfl) (Nat.le_of_ble_eq_true rfl) hd0 hp0) rfl dX2_isIdle_1 ?_
  refine x_iconst (x := 0) dX2_isIdle_4 rfl ?_
  refine x_aald (d1 := d0) (K1 := 16) (p1 := p0) (r1 := 0) 3 0 rfl 3 RX3 rfl rfl (Nat.le_of_ble_eq_true rfl) rfl rfl (ok_b (K := 14) (Nat.le_of_ble_eq_true rfl) (Nat.le_of_ble_eq_true rfl) hd0 hp0) rfl rfl dX2_isIdle_5 ?_
  refine x_getI fl_X2_85 (ok_c hd0 hp0 (Nat.le_of_ble_eq_true rfl)) rfl dX2_isIdle_6 ?_
  refine x_aload_n dX2_isIdle_9 rfl 0 rfl ?_
  refine x_getR (d1 := d0) (K1 := 14) (p1 := p0) (r1 := 0) fl_X2_11 (ok_b (K := 13) (Nat.le_of_ble_eq_true rfl) (Nat.le_of_ble_eq_true rfl) hd0 hp0) rfl dX2_isIdle_10 ?_
  refine x_iconst (x := 1) dX2_isIdle_13 rfl ?_
  refine x_aald (d1 := d0) (K1 := 16) (p1 := p0) (r1 := 1) 3 1 rfl 3 RX3 rfl rfl (Nat.le_of_ble_eq_true rfl) rfl rfl (ok_b (K := 14) (Nat.le_of_ble_eq_true rfl) (Nat.le_of_ble_eq_true rfl) hd0 hp0) rfl rfl dX2_isIdle_14 ?_
  refine x_getI fl_X2_85 (ok_c hd0 hp0 (Nat.le_of_ble_eq_true rfl)) rfl dX2_isIdle_15 ?_
  refine x_iadd dX2_isIdle_18 ?_
  refine x_aload_n dX2_isIdle_19 rfl 0 rfl ?_
  refine x_getR (d1 := d0) (K1 := 14) (p1 := p0) (r1 := 0) fl_X2_11 (ok_b (K := 13) (Nat.le_of_ble_eq_true rfl) (Nat.le_of_ble_eq_true rfl) hd0 hp0) rfl dX2_isIdle_20 ?_
  refine x_iconst (x := 2) dX2_isIdle_23 rfl ?_
  refine x_aald (d1 := d0) (K1 := 16) (p1 := p0) (r1 := 2) 3 2 rfl 3 RX3 rfl rfl (Nat.le_of_ble_eq_true rfl) rfl rfl (ok_b (K := 14) (Nat.le_of_ble_eq_true rfl) (Nat.le_of_ble_eq_true rfl) hd0 hp0) rfl rfl dX2_isIdle_24 ?_
  refine x_getI fl_X2_85 (ok_c hd0 hp0 (Nat.le_of_ble_eq_true rfl)) rfl dX2_isIdle_25 ?_
  refine x_iadd dX2_isIdle_28 ?_
  refine x_if_ne (tgt := 36) dX2_isIdle_29 rfl (fun hc => ?_) (fun hc => ?_)
  · have h := x_f hc h
    refine x_iconst (x := 0) dX2_isIdle_36 rfl ?_
    exact x_zretH rfl rfl dX2_isIdle_37 h
  · have h := x_t hc h
    refine x_iconst (x := 1) dX2_isIdle_32 rfl ?_
    refine x_goto (tgt := 37) dX2_isIdle_33 rfl ?_
    exact x_zretH rfl rfl dX2_isIdle_37 h
set_option maxRecDepth 100000 in
set_option maxHeartbeats 4000000 in
theorem TX2_highestBusyQueue_10 {l : Launch} {w : xW} {d1 : Nat} {p1 : Nat} {a2 : Int32} (hd1 : d1 < 4) (hp1 : p1 < 6) {τ : xS} {r : Option (Nat × Nat × Nat)} : ∀ (n : Nat) (a3 : Int32) (σ : xS), BX2_highestBusyQueue_10 d1 p1 a2 n a3 σ = some (r, τ) → xAt l w mX2_highestBusyQueue 10 [(1, .ref (w.2.2 d1 14 p1 0)), (2, .int a2), (3, .int a3)] [] σ (some (x_nvQ w r)) τ := by
  intro n
  induction n with
  | zero => intro a3 σ h; cases h
  | succ n ih =>
    intro a3 σ h
    rw [BX2_highestBusyQueue_10] at h
    refine x_iload_n dX2_highestBusyQueue_10 rfl 2 rfl ?_
    refine x_iload_n dX2_highestBusyQueue_11 rfl 1 rfl ?_
    refine x_icmp_ge (tgt := 37) dX2_highestBusyQueue_12 rfl (fun hc => ?_) (fun hc => ?_)
    · have h := x_t hc h
      refine x_null dX2_highestBusyQueue_37 ?_
      exact x_aretQ (q := none) rfl rfl dX2_highestBusyQueue_38 h
    · have h := x_f hc h
      refine x_aload_n dX2_highestBusyQueue_15 rfl 0 rfl ?_
      refine x_iload_n dX2_highestBusyQueue_16 rfl 2 rfl ?_
      obtain ⟨hg1, h⟩ := x_g_e h
      refine x_aald (d1 := d1) (K1 := 16) (p1 := p1) (r1 := (a3.toNatClampNeg)) 3 a3.toNatClampNeg rfl 3 RX3 rfl rfl (Nat.le_of_ble_eq_true rfl) rfl rfl (ok_b (K := 14) (Nat.le_of_ble_eq_true rfl) (Nat.le_of_ble_eq_true rfl) hd1 hp1) rfl hg1 dX2_highestBusyQueue_17 ?_
      refine x_astore dX2_highestBusyQueue_18 (Nat.le_of_ble_eq_true rfl) [(4, .ref (w.2.2 d1 16 p1 (a3.toNatClampNeg))), (1, .ref (w.2.2 d1 14 p1 0)), (2, .int a2), (3, .int a3)] rfl ?_
      refine x_aload dX2_highestBusyQueue_20 0 rfl ?_
      refine x_getI fl_X2_85 (ok_c hd1 hp1 (x_in_lt hg1)) rfl dX2_highestBusyQueue_22 ?_
      refine x_if_le (tgt := 31) dX2_highestBusyQueue_25 rfl (fun hc => ?_) (fun hc => ?_)
      · have h := x_t hc h
        obtain ⟨t2, ht2, h⟩ := x_let_e h
        refine x_iinc t2 1 rfl ht2 dX2_highestBusyQueue_31 3 rfl (Nat.le_of_ble_eq_true rfl) [(3, .int t2), (4, .ref (w.2.2 d1 16 p1 (a3.toNatClampNeg))), (1, .ref (w.2.2 d1 14 p1 0)), (2, .int a2)] rfl ?_
        refine x_goto (tgt := 10) dX2_highestBusyQueue_34 rfl ?_
        refine x_sub (L1 := [(1, .ref (w.2.2 d1 14 p1 0)), (2, .int a2), (3, .int t2)]) [2, 3, 0] rfl ?_
        exact ih _ _ h
      · have h := x_f hc h
        refine x_aload dX2_highestBusyQueue_28 0 rfl ?_
        exact x_aretQ (q := (some (d1, p1, (a3.toNatClampNeg)))) rfl rfl dX2_highestBusyQueue_30 h
set_option maxRecDepth 100000 in
set_option maxHeartbeats 4000000 in
theorem eX2_highestBusyQueue {l : Launch} {w : xW} {d0 : Nat} {p0 : Nat} (hd0 : d0 < 4) (hp0 : p0 < 6) {σ τ : xS} {r : Option (Nat × Nat × Nat)} (h : fX2_highestBusyQueue d0 p0 σ = some (r, τ)) : xEV l w yX2_highestBusyQueue mX2_highestBusyQueue [.ref (w.2.2 d0 13 p0 0)] σ (some (x_nvQ w r)) τ := by
  rw [fX2_highestBusyQueue] at h
  refine x_enter (by decide +kernel) rfl (Nat.le_of_ble_eq_true rfl) ?_
  refine x_sub (L1 := [(0, .ref (w.2.2 d0 13 p0 0))]) [0] rfl ?_
  refine x_aload_n dX2_highestBusyQueue_0 rfl 0 rfl ?_
  refine x_getR (d1 := d0) (K1 := 14) (p1 := p0) (r1 := 0) fl_X2_11 (ok_b (K := 13) (Nat.le_of_ble_eq_true rfl) (Nat.le_of_ble_eq_true rfl) hd0 hp0) rfl dX2_highestBusyQueue_1 ?_
  refine x_astore_n dX2_highestBusyQueue_4 rfl (Nat.le_of_ble_eq_true rfl) [(1, .ref (w.2.2 d0 14 p0 0)), (0, .ref (w.2.2 d0 13 p0 0))] rfl ?_
  refine x_aload_n dX2_highestBusyQueue_5 rfl 0 rfl ?_
  refine x_alen 3 rfl (Nat.le_of_ble_eq_true rfl) rfl (ok_b (K := 14) (Nat.le_of_ble_eq_true rfl) (Nat.le_of_ble_eq_true rfl) hd0 hp0) dX2_highestBusyQueue_6 ?_
  refine x_istore_n 3 rfl dX2_highestBusyQueue_7 rfl (Nat.le_of_ble_eq_true rfl) [(2, .int 3), (1, .ref (w.2.2 d0 14 p0 0)), (0, .ref (w.2.2 d0 13 p0 0))] rfl ?_
  refine x_iconst (x := 0) dX2_highestBusyQueue_8 rfl ?_
  refine x_istore_n 0 rfl dX2_highestBusyQueue_9 rfl (Nat.le_of_ble_eq_true rfl) [(3, .int 0), (2, .int 3), (1, .ref (w.2.2 d0 14 p0 0)), (0, .ref (w.2.2 d0 13 p0 0))] rfl ?_
  refine x_sub (L1 := [(1, .ref (w.2.2 d0 14 p0 0)), (2, .int 3), (3, .int 0)]) [2, 1, 0] rfl ?_
  exact TX2_highestBusyQueue_10 hd0 hp0 _ _ _ h
set_option maxRecDepth 100000 in
set_option maxHeartbeats 4000000 in
theorem eX2_queueAtTurn {l : Launch} {w : xW} {d0 : Nat} {p0 : Nat} (hd0 : d0 < 4) (hp0 : p0 < 6) {σ τ : xS} {r : Option (Nat × Nat × Nat)} (h : fX2_queueAtTurn d0 p0 σ = some (r, τ)) : xEV l w yX2_queueAtTurn mX2_queueAtTurn [.ref (w.2.2 d0 13 p0 0)] σ (some (x_nvQ w r)) τ := by
  rw [fX2_queueAtTurn] at h
  refine x_enter (by decide +kernel) rfl (Nat.le_of_ble_eq_true rfl) ?_
  refine x_sub (L1 := [(0, .ref (w.2.2 d0 13 p0 0))]) [0] rfl ?_
  refine x_aload_n dX2_queueAtTurn_0 rfl 0 rfl ?_
  refine x_getI fl_X2_66 (ok_b (K := 13) (Nat.le_of_ble_eq_true rfl) (Nat.le_of_ble_eq_true rfl) hd0 hp0) rfl dX2_queueAtTurn_1 ?_
  refine x_if_lt (tgt := 27) dX2_queueAtTurn_4 rfl (fun hc => ?_) (fun hc => ?_)
  · have h := x_t hc h
    refine x_null dX2_queueAtTurn_27 ?_
    exact x_aretQ (q := none) rfl rfl dX2_queueAtTurn_28 h
  · have h := x_f hc h
    refine x_aload_n dX2_queueAtTurn_7 rfl 0 rfl ?_
    refine x_getI fl_X2_66 (ok_b (K := 13) (Nat.le_of_ble_eq_true rfl) (Nat.le_of_ble_eq_true rfl) hd0 hp0) rfl dX2_queueAtTurn_8 ?_
    refine x_iconst (x := 3) dX2_queueAtTurn_11 rfl ?_
    refine x_icmp_ge (tgt := 27) dX2_queueAtTurn_12 rfl (fun hc => ?_) (fun hc => ?_)
    · have h := x_t hc h
      refine x_null dX2_queueAtTurn_27 ?_
      exact x_aretQ (q := none) rfl rfl dX2_queueAtTurn_28 h
    · have h := x_f hc h
      refine x_aload_n dX2_queueAtTurn_15 rfl 0 rfl ?_
      refine x_getR (d1 := d0) (K1 := 14) (p1 := p0) (r1 := 0) fl_X2_11 (ok_b (K := 13) (Nat.le_of_ble_eq_true rfl) (Nat.le_of_ble_eq_true rfl) hd0 hp0) rfl dX2_queueAtTurn_16 ?_
      refine x_aload_n dX2_queueAtTurn_19 rfl 0 rfl ?_
      refine x_getI fl_X2_66 (ok_b (K := 13) (Nat.le_of_ble_eq_true rfl) (Nat.le_of_ble_eq_true rfl) hd0 hp0) rfl dX2_queueAtTurn_20 ?_
      obtain ⟨t1, ht1, h⟩ := x_let_e h
      refine x_nm t1 ht1 ?_
      obtain ⟨hg2, h⟩ := x_g_e h
      refine x_aald (d1 := d0) (K1 := 16) (p1 := p0) (r1 := (t1.toNatClampNeg)) 3 t1.toNatClampNeg rfl 3 RX3 rfl rfl (Nat.le_of_ble_eq_true rfl) rfl rfl (ok_b (K := 14) (Nat.le_of_ble_eq_true rfl) (Nat.le_of_ble_eq_true rfl) hd0 hp0) rfl hg2 dX2_queueAtTurn_23 ?_
      refine x_goto (tgt := 28) dX2_queueAtTurn_24 rfl ?_
      exact x_aretQ (q := (some (d0, p0, (t1.toNatClampNeg)))) rfl rfl dX2_queueAtTurn_28 h
set_option maxRecDepth 100000 in
set_option maxHeartbeats 4000000 in
theorem eX2_passTurn {l : Launch} {w : xW} {d0 : Nat} {p0 : Nat} (hd0 : d0 < 4) (hp0 : p0 < 6) {σ τ : xS} {r : Unit} (h : fX2_passTurn d0 p0 σ = some (r, τ)) : xEV l w yX2_passTurn mX2_passTurn [.ref (w.2.2 d0 13 p0 0)] σ none τ := by
  rw [fX2_passTurn] at h
  refine x_enter (by decide +kernel) rfl (Nat.le_of_ble_eq_true rfl) ?_
  refine x_sub (L1 := [(0, .ref (w.2.2 d0 13 p0 0))]) [0] rfl ?_
  refine x_aload_n dX2_passTurn_0 rfl 0 rfl ?_
  refine x_aload_n dX2_passTurn_1 rfl 0 rfl ?_
  refine x_getI fl_X2_66 (ok_b (K := 13) (Nat.le_of_ble_eq_true rfl) (Nat.le_of_ble_eq_true rfl) hd0 hp0) rfl dX2_passTurn_2 ?_
  refine x_iconst (x := 2) dX2_passTurn_5 rfl ?_
  refine x_icmp_ge (tgt := 18) dX2_passTurn_6 rfl (fun hc => ?_) (fun hc => ?_)
  · have h := x_t hc h
    refine x_iconst (x := 0) dX2_passTurn_18 rfl ?_
    obtain ⟨s1, hs1, h⟩ := x_let_e h
    refine x_putI s1 hs1 fp_X2_66 (ok_b (K := 13) (Nat.le_of_ble_eq_true rfl) (Nat.le_of_ble_eq_true rfl) hd0 hp0) rfl dX2_passTurn_19 ?_
    refine x_aload_n dX2_passTurn_22 rfl 0 rfl ?_
    refine x_iconst (x := 1) dX2_passTurn_23 rfl ?_
    obtain ⟨s2, hs2, h⟩ := x_let_e h
    refine x_putZ s2 hs2 rfl fp_X2_69 (ok_b (K := 13) (Nat.le_of_ble_eq_true rfl) (Nat.le_of_ble_eq_true rfl) hd0 hp0) rfl dX2_passTurn_24 ?_
    exact x_vretH rfl dX2_passTurn_27 h
  · have h := x_f hc h
    refine x_aload_n dX2_passTurn_9 rfl 0 rfl ?_
    refine x_getI fl_X2_66 (ok_b (K := 13) (Nat.le_of_ble_eq_true rfl) (Nat.le_of_ble_eq_true rfl) hd0 hp0) rfl dX2_passTurn_10 ?_
    refine x_iconst (x := 1) dX2_passTurn_13 rfl ?_
    refine x_iadd dX2_passTurn_14 ?_
    refine x_goto (tgt := 19) dX2_passTurn_15 rfl ?_
    obtain ⟨s3, hs3, h⟩ := x_let_e h
    refine x_putI s3 hs3 fp_X2_66 (ok_b (K := 13) (Nat.le_of_ble_eq_true rfl) (Nat.le_of_ble_eq_true rfl) hd0 hp0) rfl dX2_passTurn_19 ?_
    refine x_aload_n dX2_passTurn_22 rfl 0 rfl ?_
    refine x_iconst (x := 1) dX2_passTurn_23 rfl ?_
    obtain ⟨s4, hs4, h⟩ := x_let_e h
    refine x_putZ s4 hs4 rfl fp_X2_69 (ok_b (K := 13) (Nat.le_of_ble_eq_true rfl) (Nat.le_of_ble_eq_true rfl) hd0 hp0) rfl dX2_passTurn_24 ?_
    exact x_vretH rfl dX2_passTurn_27 h
set_option maxRecDepth 100000 in
set_option maxHeartbeats 4000000 in
theorem TX2_shareBeyondGuarantee_8 {l : Launch} {w : xW} {d0 : Nat} {p0 : Nat} (hd0 : d0 < 4) (hp0 : p0 < 6) {τ : xS} {r : Unit} : ∀ (n : Nat) (a1 : Int32) (a2 : Int32) (σ : xS), BX2_shareBeyondGuarantee_8 d0 p0 n a1 a2 σ = some (r, τ) → xAt l w mX2_shareBeyondGuarantee 8 [(0, .ref (w.2.2 d0 13 p0 0)), (1, .int a1), (2, .int a2)] [] σ none τ := by
  intro n
  induction n with
  | zero => intro a1 a2 σ h; cases h
  | succ n ih =>
    intro a1 a2 σ h
    rw [BX2_shareBeyondGuarantee_8] at h
    refine x_iload_n dX2_shareBeyondGuarantee_8 rfl 2 rfl ?_
    refine x_if_lt (tgt := 66) dX2_shareBeyondGuarantee_9 rfl (fun hc => ?_) (fun hc => ?_)
    · have h := x_t hc h
      exact x_vretH rfl dX2_shareBeyondGuarantee_66 h
    · have h := x_f hc h
      refine x_iload_n dX2_shareBeyondGuarantee_12 rfl 1 rfl ?_
      refine x_if_le (tgt := 66) dX2_shareBeyondGuarantee_13 rfl (fun hc => ?_) (fun hc => ?_)
      · have h := x_t hc h
        exact x_vretH rfl dX2_shareBeyondGuarantee_66 h
      · have h := x_f hc h
        refine x_aload_n dX2_shareBeyondGuarantee_16 rfl 0 rfl ?_
        refine x_getR (d1 := d0) (K1 := 14) (p1 := p0) (r1 := 0) fl_X2_11 (ok_b (K := 13) (Nat.le_of_ble_eq_true rfl) (Nat.le_of_ble_eq_true rfl) hd0 hp0) rfl dX2_shareBeyondGuarantee_17 ?_
        refine x_iload_n dX2_shareBeyondGuarantee_20 rfl 2 rfl ?_
        obtain ⟨hg3, h⟩ := x_g_e h
        refine x_aald (d1 := d0) (K1 := 16) (p1 := p0) (r1 := (a2.toNatClampNeg)) 3 a2.toNatClampNeg rfl 3 RX3 rfl rfl (Nat.le_of_ble_eq_true rfl) rfl rfl (ok_b (K := 14) (Nat.le_of_ble_eq_true rfl) (Nat.le_of_ble_eq_true rfl) hd0 hp0) rfl hg3 dX2_shareBeyondGuarantee_21 ?_
        refine x_astore_n dX2_shareBeyondGuarantee_22 rfl (Nat.le_of_ble_eq_true rfl) [(3, .ref (w.2.2 d0 16 p0 (a2.toNatClampNeg))), (0, .ref (w.2.2 d0 13 p0 0)), (1, .int a1), (2, .int a2)] rfl ?_
        refine x_iload_n dX2_shareBeyondGuarantee_23 rfl 2 rfl ?_
        refine x_aload_n dX2_shareBeyondGuarantee_24 rfl 0 rfl ?_
        refine x_getI fl_X2_72 (ok_c hd0 hp0 (x_in_lt hg3)) rfl dX2_shareBeyondGuarantee_25 ?_
        refine x_min lk_X2_91 w_min (Nat.le_of_ble_eq_true rfl) (Nat.le_of_ble_eq_true rfl) dX2_shareBeyondGuarantee_28 ?_
        obtain ⟨t4, ht4, h⟩ := x_let_e h
        refine x_istore t4 ht4 dX2_shareBeyondGuarantee_31 (Nat.le_of_ble_eq_true rfl) [(4, .int t4), (3, .ref (w.2.2 d0 16 p0 (a2.toNatClampNeg))), (0, .ref (w.2.2 d0 13 p0 0)), (1, .int a1), (2, .int a2)] rfl ?_
        refine x_aload_n dX2_shareBeyondGuarantee_33 rfl 1 rfl ?_
        refine x_dup dX2_shareBeyondGuarantee_34 rfl ?_
        refine x_getI fl_X2_72 (ok_c hd0 hp0 (x_in_lt hg3)) rfl dX2_shareBeyondGuarantee_35 ?_
        refine x_iload dX2_shareBeyondGuarantee_38 0 rfl ?_
        refine x_isub dX2_shareBeyondGuarantee_40 ?_
        obtain ⟨s5, hs5, h⟩ := x_let_e h
        refine x_putI s5 hs5 fp_X2_72 (ok_c hd0 hp0 (x_in_lt hg3)) rfl dX2_shareBeyondGuarantee_41 ?_
        refine x_aload_n dX2_shareBeyondGuarantee_44 rfl 1 rfl ?_
        refine x_dup dX2_shareBeyondGuarantee_45 rfl ?_
        refine x_getI fl_X2_75 (ok_c hd0 hp0 (x_in_lt hg3)) rfl dX2_shareBeyondGuarantee_46 ?_
        refine x_iload dX2_shareBeyondGuarantee_49 0 rfl ?_
        refine x_iadd dX2_shareBeyondGuarantee_51 ?_
        obtain ⟨s6, hs6, h⟩ := x_let_e h
        refine x_putI s6 hs6 fp_X2_75 (ok_c hd0 hp0 (x_in_lt hg3)) rfl dX2_shareBeyondGuarantee_52 ?_
        refine x_iload_n dX2_shareBeyondGuarantee_55 rfl 3 rfl ?_
        refine x_iload dX2_shareBeyondGuarantee_56 0 rfl ?_
        refine x_isub dX2_shareBeyondGuarantee_58 ?_
        obtain ⟨t7, ht7, h⟩ := x_let_e h
        refine x_istore_n t7 ht7 dX2_shareBeyondGuarantee_59 rfl (Nat.le_of_ble_eq_true rfl) [(1, .int t7), (4, .int t4), (3, .ref (w.2.2 d0 16 p0 (a2.toNatClampNeg))), (0, .ref (w.2.2 d0 13 p0 0)), (2, .int a2)] rfl ?_
        obtain ⟨t8, ht8, h⟩ := x_let_e h
        refine x_iinc t8 (-1) (by decide) ht8 dX2_shareBeyondGuarantee_60 4 rfl (Nat.le_of_ble_eq_true rfl) [(2, .int t8), (1, .int t7), (4, .int t4), (3, .ref (w.2.2 d0 16 p0 (a2.toNatClampNeg))), (0, .ref (w.2.2 d0 13 p0 0))] rfl ?_
        refine x_goto (tgt := 8) dX2_shareBeyondGuarantee_63 rfl ?_
        refine x_sub (L1 := [(0, .ref (w.2.2 d0 13 p0 0)), (1, .int t7), (2, .int t8)]) [4, 1, 0] rfl ?_
        exact ih _ _ _ h
set_option maxRecDepth 100000 in
set_option maxHeartbeats 4000000 in
theorem eX2_shareBeyondGuarantee {l : Launch} {w : xW} {d0 : Nat} {p0 : Nat} (hd0 : d0 < 4) (hp0 : p0 < 6) {σ τ : xS} {r : Unit} (h : fX2_shareBeyondGuarantee d0 p0 σ = some (r, τ)) : xEV l w yX2_shareBeyondGuarantee mX2_shareBeyondGuarantee [.ref (w.2.2 d0 13 p0 0)] σ none τ := by
  rw [fX2_shareBeyondGuarantee] at h
  refine x_enter (by decide +kernel) rfl (Nat.le_of_ble_eq_true rfl) ?_
  refine x_sub (L1 := [(0, .ref (w.2.2 d0 13 p0 0))]) [0] rfl ?_
  refine x_aload_n dX2_shareBeyondGuarantee_0 rfl 0 rfl ?_
  obtain ⟨z1, s1, h1, h⟩ := x_b_e h
  refine x_callV (As := []) (st := []) (eX2_guaranteeLeft hd0 hp0 h1) cv_X2_88 (Nat.le_of_ble_eq_true rfl) (ok_b (K := 13) (Nat.le_of_ble_eq_true rfl) (Nat.le_of_ble_eq_true rfl) hd0 hp0) rfl (Nat.le_of_ble_eq_true rfl) _ rfl dX2_shareBeyondGuarantee_1 [.int z1] rfl ?_
  refine x_ineg dX2_shareBeyondGuarantee_4 ?_
  obtain ⟨t2, ht2, h⟩ := x_let_e h
  refine x_istore_n t2 ht2 dX2_shareBeyondGuarantee_5 rfl (Nat.le_of_ble_eq_true rfl) [(1, .int t2), (0, .ref (w.2.2 d0 13 p0 0))] rfl ?_
  refine x_iconst (x := 2) dX2_shareBeyondGuarantee_6 rfl ?_
  refine x_istore_n 2 rfl dX2_shareBeyondGuarantee_7 rfl (Nat.le_of_ble_eq_true rfl) [(2, .int 2), (1, .int t2), (0, .ref (w.2.2 d0 13 p0 0))] rfl ?_
  refine x_sub (L1 := [(0, .ref (w.2.2 d0 13 p0 0)), (1, .int t2), (2, .int 2)]) [2, 1, 0] rfl ?_
  exact TX2_shareBeyondGuarantee_8 hd0 hp0 _ _ _ _ h
set_option maxRecDepth 100000 in
set_option maxHeartbeats 4000000 in
theorem eX2_countLoss {l : Launch} {w : xW} {d0 : Nat} {p0 : Nat} {a1 : Int32} {a2 : Int32} (hd0 : d0 < 4) (hp0 : p0 < 6) {σ τ : xS} {r : Unit} (h : fX2_countLoss d0 p0 a1 a2 σ = some (r, τ)) : xEV l w yX2_countLoss mX2_countLoss [.ref (w.2.2 d0 13 p0 0), .int a1, .int a2] σ none τ := by
  rw [fX2_countLoss] at h
  refine x_enter (by decide +kernel) rfl (Nat.le_of_ble_eq_true rfl) ?_
  refine x_sub (L1 := [(0, .ref (w.2.2 d0 13 p0 0)), (1, .int a1), (2, .int a2)]) [0, 1, 2] rfl ?_
  refine x_iload_n dX2_countLoss_0 rfl 1 rfl ?_
  refine x_if_lt (tgt := 23) dX2_countLoss_1 rfl (fun hc => ?_) (fun hc => ?_)
  · have h := x_t hc h
    refine x_aload_n dX2_countLoss_23 rfl 0 rfl ?_
    refine x_dup dX2_countLoss_24 rfl ?_
    refine x_getI fl_X2_47 (ok_b (K := 13) (Nat.le_of_ble_eq_true rfl) (Nat.le_of_ble_eq_true rfl) hd0 hp0) rfl dX2_countLoss_25 ?_
    refine x_iload_n dX2_countLoss_28 rfl 2 rfl ?_
    refine x_iadd dX2_countLoss_29 ?_
    obtain ⟨s1, hs1, h⟩ := x_let_e h
    refine x_putI s1 hs1 fp_X2_47 (ok_b (K := 13) (Nat.le_of_ble_eq_true rfl) (Nat.le_of_ble_eq_true rfl) hd0 hp0) rfl dX2_countLoss_30 ?_
    exact x_vretH rfl dX2_countLoss_33 h
  · have h := x_f hc h
    refine x_iload_n dX2_countLoss_4 rfl 1 rfl ?_
    refine x_aload_n dX2_countLoss_5 rfl 0 rfl ?_
    refine x_getR (d1 := d0) (K1 := 15) (p1 := p0) (r1 := 0) fl_X2_20 (ok_b (K := 13) (Nat.le_of_ble_eq_true rfl) (Nat.le_of_ble_eq_true rfl) hd0 hp0) rfl dX2_countLoss_6 ?_
    refine x_alen 10 rfl (Nat.le_of_ble_eq_true rfl) rfl (ok_b (K := 15) (Nat.le_of_ble_eq_true rfl) (Nat.le_of_ble_eq_true rfl) hd0 hp0) dX2_countLoss_9 ?_
    refine x_icmp_ge (tgt := 23) dX2_countLoss_10 rfl (fun hc => ?_) (fun hc => ?_)
    · have h := x_t hc h
      refine x_aload_n dX2_countLoss_23 rfl 0 rfl ?_
      refine x_dup dX2_countLoss_24 rfl ?_
      refine x_getI fl_X2_47 (ok_b (K := 13) (Nat.le_of_ble_eq_true rfl) (Nat.le_of_ble_eq_true rfl) hd0 hp0) rfl dX2_countLoss_25 ?_
      refine x_iload_n dX2_countLoss_28 rfl 2 rfl ?_
      refine x_iadd dX2_countLoss_29 ?_
      obtain ⟨s2, hs2, h⟩ := x_let_e h
      refine x_putI s2 hs2 fp_X2_47 (ok_b (K := 13) (Nat.le_of_ble_eq_true rfl) (Nat.le_of_ble_eq_true rfl) hd0 hp0) rfl dX2_countLoss_30 ?_
      exact x_vretH rfl dX2_countLoss_33 h
    · have h := x_f hc h
      refine x_aload_n dX2_countLoss_13 rfl 0 rfl ?_
      refine x_getR (d1 := d0) (K1 := 15) (p1 := p0) (r1 := 0) fl_X2_20 (ok_b (K := 13) (Nat.le_of_ble_eq_true rfl) (Nat.le_of_ble_eq_true rfl) hd0 hp0) rfl dX2_countLoss_14 ?_
      refine x_iload_n dX2_countLoss_17 rfl 1 rfl ?_
      refine x_dup2 dX2_countLoss_18 rfl rfl ?_
      obtain ⟨hg3, h⟩ := x_g_e h
      refine x_iald 10 a1.toNatClampNeg rfl rfl rfl rfl (ok_b (K := 15) (Nat.le_of_ble_eq_true rfl) (Nat.le_of_ble_eq_true rfl) hd0 hp0) hg3 dX2_countLoss_19 ?_
      refine x_iconst (x := 1) dX2_countLoss_20 rfl ?_
      refine x_iadd dX2_countLoss_21 ?_
      obtain ⟨hg4, h⟩ := x_g_e h
      obtain ⟨s5, hs5, h⟩ := x_let_e h
      refine x_iast 10 a1.toNatClampNeg rfl s5 hs5 rfl rfl rfl (ok_b (K := 15) (Nat.le_of_ble_eq_true rfl) (Nat.le_of_ble_eq_true rfl) hd0 hp0) hg4 dX2_countLoss_22 ?_
      refine x_aload_n dX2_countLoss_23 rfl 0 rfl ?_
      refine x_dup dX2_countLoss_24 rfl ?_
      refine x_getI fl_X2_47 (ok_b (K := 13) (Nat.le_of_ble_eq_true rfl) (Nat.le_of_ble_eq_true rfl) hd0 hp0) rfl dX2_countLoss_25 ?_
      refine x_iload_n dX2_countLoss_28 rfl 2 rfl ?_
      refine x_iadd dX2_countLoss_29 ?_
      obtain ⟨s6, hs6, h⟩ := x_let_e h
      refine x_putI s6 hs6 fp_X2_47 (ok_b (K := 13) (Nat.le_of_ble_eq_true rfl) (Nat.le_of_ble_eq_true rfl) hd0 hp0) rfl dX2_countLoss_30 ?_
      exact x_vretH rfl dX2_countLoss_33 h
