set_option maxRecDepth 100000 in
set_option maxHeartbeats 4000000 in
theorem eX4_rewind {l : Launch} {w : xW} {σ τ : xS} {r : Unit} (h : fX4_rewind σ = some (r, τ)) : xEV l w yX4_rewind mX4_rewind [.ref (w.2.2 4 23 0 0)] σ none τ := by
  rw [fX4_rewind] at h
  refine x_enter (by decide +kernel) rfl (Nat.le_of_ble_eq_true rfl) ?_
  refine x_sub (L1 := [(0, .ref (w.2.2 4 23 0 0))]) [0] rfl ?_
  refine x_aload_n dX4_rewind_0 rfl 0 rfl ?_
  refine x_iconst (x := 0) dX4_rewind_1 rfl ?_
  obtain ⟨s1, hs1, h⟩ := x_let_e h
  refine x_putI s1 hs1 fp_X4_15 ok_e23 rfl dX4_rewind_2 ?_
  refine x_aload_n dX4_rewind_5 rfl 0 rfl ?_
  refine x_iconst (x := (-1)) dX4_rewind_6 (by decide) ?_
  obtain ⟨s2, hs2, h⟩ := x_let_e h
  refine x_putI s2 hs2 fp_X4_19 ok_e23 rfl dX4_rewind_7 ?_
  exact x_vretH rfl dX4_rewind_10 h
set_option maxRecDepth 100000 in
set_option maxHeartbeats 4000000 in
theorem eX4_hasMore {l : Launch} {w : xW} {σ τ : xS} {r : Int32} (h : fX4_hasMore σ = some (r, τ)) : xEV l w yX4_hasMore mX4_hasMore [.ref (w.2.2 4 23 0 0)] σ (some (.int r)) τ := by
  rw [fX4_hasMore] at h
  refine x_enter (by decide +kernel) rfl (Nat.le_of_ble_eq_true rfl) ?_
  refine x_sub (L1 := [(0, .ref (w.2.2 4 23 0 0))]) [0] rfl ?_
  refine x_aload_n dX4_hasMore_0 rfl 0 rfl ?_
  refine x_getI fl_X4_15 ok_e23 rfl dX4_hasMore_1 ?_
  refine x_aload_n dX4_hasMore_4 rfl 0 rfl ?_
  refine x_getI fl_X4_22 ok_e23 rfl dX4_hasMore_5 ?_
  refine x_icmp_ge (tgt := 15) dX4_hasMore_8 rfl (fun hc => ?_) (fun hc => ?_)
  · have h := x_t hc h
    refine x_iconst (x := 0) dX4_hasMore_15 rfl ?_
    exact x_zretH rfl rfl dX4_hasMore_16 h
  · have h := x_f hc h
    refine x_iconst (x := 1) dX4_hasMore_11 rfl ?_
    refine x_goto (tgt := 16) dX4_hasMore_12 rfl ?_
    exact x_zretH rfl rfl dX4_hasMore_16 h
set_option maxRecDepth 100000 in
set_option maxHeartbeats 4000000 in
theorem eX4_letterHere {l : Launch} {w : xW} {σ τ : xS} {r : Int32} (h : fX4_letterHere σ = some (r, τ)) : xEV l w yX4_letterHere mX4_letterHere [.ref (w.2.2 4 23 0 0)] σ (some (.int r)) τ := by
  rw [fX4_letterHere] at h
  refine x_enter (by decide +kernel) rfl (Nat.le_of_ble_eq_true rfl) ?_
  refine x_sub (L1 := [(0, .ref (w.2.2 4 23 0 0))]) [0] rfl ?_
  refine x_aload_n dX4_letterHere_0 rfl 0 rfl ?_
  refine x_getI fl_X4_15 ok_e23 rfl dX4_letterHere_1 ?_
  refine x_if_lt (tgt := 39) dX4_letterHere_4 rfl (fun hc => ?_) (fun hc => ?_)
  · have h := x_t hc h
    refine x_iconst (x := (-1)) dX4_letterHere_39 (by decide) ?_
    exact x_iretH rfl dX4_letterHere_40 h
  · have h := x_f hc h
    refine x_aload_n dX4_letterHere_7 rfl 0 rfl ?_
    refine x_getI fl_X4_15 ok_e23 rfl dX4_letterHere_8 ?_
    refine x_aload_n dX4_letterHere_11 rfl 0 rfl ?_
    refine x_getI fl_X4_22 ok_e23 rfl dX4_letterHere_12 ?_
    refine x_icmp_ge (tgt := 39) dX4_letterHere_15 rfl (fun hc => ?_) (fun hc => ?_)
    · have h := x_t hc h
      refine x_iconst (x := (-1)) dX4_letterHere_39 (by decide) ?_
      exact x_iretH rfl dX4_letterHere_40 h
    · have h := x_f hc h
      refine x_aload_n dX4_letterHere_18 rfl 0 rfl ?_
      refine x_getI fl_X4_15 ok_e23 rfl dX4_letterHere_19 ?_
      refine x_bipush (x := 120) dX4_letterHere_22 rfl ?_
      refine x_icmp_ge (tgt := 39) dX4_letterHere_24 rfl (fun hc => ?_) (fun hc => ?_)
      · have h := x_t hc h
        refine x_iconst (x := (-1)) dX4_letterHere_39 (by decide) ?_
        exact x_iretH rfl dX4_letterHere_40 h
      · have h := x_f hc h
        refine x_aload_n dX4_letterHere_27 rfl 0 rfl ?_
        refine x_getR (d1 := 4) (K1 := 24) (p1 := 0) (r1 := 0) fl_X4_9 ok_e23 rfl dX4_letterHere_28 ?_
        refine x_aload_n dX4_letterHere_31 rfl 0 rfl ?_
        refine x_getI fl_X4_15 ok_e23 rfl dX4_letterHere_32 ?_
        obtain ⟨t1, ht1, h⟩ := x_let_e h
        refine x_nm t1 ht1 ?_
        obtain ⟨hg2, h⟩ := x_g_e h
        refine x_iald 120 t1.toNatClampNeg rfl rfl rfl rfl ok_e24 hg2 dX4_letterHere_35 ?_
        refine x_goto (tgt := 40) dX4_letterHere_36 rfl ?_
        exact x_iretH rfl dX4_letterHere_40 h
set_option maxRecDepth 100000 in
set_option maxHeartbeats 4000000 in
theorem eX4_readDigit {l : Launch} {w : xW} {a1 : Int32} {σ τ : xS} {r : Int32} (h : fX4_readDigit a1 σ = some (r, τ)) : xEV l w yX4_readDigit mX4_readDigit [.ref (w.2.2 4 23 0 0), .int a1] σ (some (.int r)) τ := by
  rw [fX4_readDigit] at h
  refine x_enter (by decide +kernel) rfl (Nat.le_of_ble_eq_true rfl) ?_
  refine x_sub (L1 := [(0, .ref (w.2.2 4 23 0 0)), (1, .int a1)]) [0, 1] rfl ?_
  refine x_aload_n dX4_readDigit_0 rfl 0 rfl ?_
  obtain ⟨z1, s1, h1, h⟩ := x_b_e h
  refine x_callV (As := []) (st := []) (eX4_letterHere  h1) cv_X4_32 (Nat.le_of_ble_eq_true rfl) ok_e23 rfl (Nat.le_of_ble_eq_true rfl) _ rfl dX4_readDigit_1 [.int z1] rfl ?_
  refine x_bipush (x := 48) dX4_readDigit_4 rfl ?_
  refine x_isub dX4_readDigit_6 ?_
  obtain ⟨t2, ht2, h⟩ := x_let_e h
  refine x_istore_n t2 ht2 dX4_readDigit_7 rfl (Nat.le_of_ble_eq_true rfl) [(2, .int t2), (0, .ref (w.2.2 4 23 0 0)), (1, .int a1)] rfl ?_
  refine x_aload_n dX4_readDigit_8 rfl 1 rfl ?_
  refine x_getI fl_X4_19 ok_e23 rfl dX4_readDigit_9 ?_
  refine x_iconst (x := (-1)) dX4_readDigit_12 (by decide) ?_
  refine x_icmp_eq (tgt := 18) dX4_readDigit_13 rfl (fun hc => ?_) (fun hc => ?_)
  · have h := x_t hc h
    refine x_iload_n dX4_readDigit_18 rfl 0 rfl ?_
    refine x_if_lt (tgt := 27) dX4_readDigit_19 rfl (fun hc => ?_) (fun hc => ?_)
    · have h := x_t hc h
      refine x_aload_n dX4_readDigit_27 rfl 1 rfl ?_
      refine x_aload_n dX4_readDigit_28 rfl 1 rfl ?_
      refine x_getI fl_X4_15 ok_e23 rfl dX4_readDigit_29 ?_
      obtain ⟨s3, hs3, h⟩ := x_let_e h
      refine x_putI s3 hs3 fp_X4_19 ok_e23 rfl dX4_readDigit_32 ?_
      refine x_iconst (x := 0) dX4_readDigit_35 rfl ?_
      exact x_iretH rfl dX4_readDigit_36 h
    · have h := x_f hc h
      refine x_iload_n dX4_readDigit_22 rfl 0 rfl ?_
      refine x_iload_n dX4_readDigit_23 rfl 2 rfl ?_
      refine x_icmp_lt (tgt := 37) dX4_readDigit_24 rfl (fun hc => ?_) (fun hc => ?_)
      · have h := x_t hc h
        refine x_aload_n dX4_readDigit_37 rfl 1 rfl ?_
        refine x_dup dX4_readDigit_38 rfl ?_
        refine x_getI fl_X4_15 ok_e23 rfl dX4_readDigit_39 ?_
        refine x_iconst (x := 1) dX4_readDigit_42 rfl ?_
        refine x_iadd dX4_readDigit_43 ?_
        obtain ⟨s4, hs4, h⟩ := x_let_e h
        refine x_putI s4 hs4 fp_X4_15 ok_e23 rfl dX4_readDigit_44 ?_
        refine x_iload_n dX4_readDigit_47 rfl 0 rfl ?_
        exact x_iretH rfl dX4_readDigit_48 h
      · have h := x_f hc h
        refine x_aload_n dX4_readDigit_27 rfl 1 rfl ?_
        refine x_aload_n dX4_readDigit_28 rfl 1 rfl ?_
        refine x_getI fl_X4_15 ok_e23 rfl dX4_readDigit_29 ?_
        obtain ⟨s5, hs5, h⟩ := x_let_e h
        refine x_putI s5 hs5 fp_X4_19 ok_e23 rfl dX4_readDigit_32 ?_
        refine x_iconst (x := 0) dX4_readDigit_35 rfl ?_
        exact x_iretH rfl dX4_readDigit_36 h
  · have h := x_f hc h
    refine x_iconst (x := 0) dX4_readDigit_16 rfl ?_
    exact x_iretH rfl dX4_readDigit_17 h
set_option maxRecDepth 100000 in
set_option maxHeartbeats 4000000 in
theorem TX4_readNumber_87 {l : Launch} {w : xW} {a1 : Int32} {a2 : Int32} {a3 : Int32} {a4 : Int32} {a5 : Int32} {σ τ : xS} {r : Int32} (h : BX4_readNumber_87 a1 a2 a3 a4 a5 σ = some (r, τ)) : xAt l w mX4_readNumber 87 [(0, .ref (w.2.2 4 23 0 0)), (1, .int a1), (2, .int a2), (3, .int a3), (4, .int a4), (5, .int a5)] [] σ (some (.int r)) τ := by
  rw [BX4_readNumber_87] at h
  refine x_iload dX4_readNumber_87 4 rfl ?_
  refine x_bipush (x := 48) dX4_readNumber_89 rfl ?_
  refine x_icmp_eq (tgt := 106) dX4_readNumber_91 rfl (fun hc => ?_) (fun hc => ?_)
  · have h := x_t hc h
    refine x_aload_n dX4_readNumber_106 rfl 0 rfl ?_
    refine x_iload_n dX4_readNumber_107 rfl 3 rfl ?_
    obtain ⟨s3, hs3, h⟩ := x_let_e h
    refine x_putI s3 hs3 fp_X4_19 ok_e23 rfl dX4_readNumber_108 ?_
    refine x_iload dX4_readNumber_111 5 rfl ?_
    exact x_iretH rfl dX4_readNumber_113 h
  · have h := x_f hc h
    refine x_iload dX4_readNumber_94 5 rfl ?_
    refine x_iload_n dX4_readNumber_96 rfl 1 rfl ?_
    refine x_icmp_lt (tgt := 106) dX4_readNumber_97 rfl (fun hc => ?_) (fun hc => ?_)
    · have h := x_t hc h
      refine x_aload_n dX4_readNumber_106 rfl 0 rfl ?_
      refine x_iload_n dX4_readNumber_107 rfl 3 rfl ?_
      obtain ⟨s4, hs4, h⟩ := x_let_e h
      refine x_putI s4 hs4 fp_X4_19 ok_e23 rfl dX4_readNumber_108 ?_
      refine x_iload dX4_readNumber_111 5 rfl ?_
      exact x_iretH rfl dX4_readNumber_113 h
    · have h := x_f hc h
      refine x_iload dX4_readNumber_100 5 rfl ?_
      refine x_iload_n dX4_readNumber_102 rfl 2 rfl ?_
      refine x_icmp_le (tgt := 111) dX4_readNumber_103 rfl (fun hc => ?_) (fun hc => ?_)
      · have h := x_t hc h
        refine x_iload dX4_readNumber_111 5 rfl ?_
        exact x_iretH rfl dX4_readNumber_113 h
      · have h := x_f hc h
        refine x_aload_n dX4_readNumber_106 rfl 0 rfl ?_
        refine x_iload_n dX4_readNumber_107 rfl 3 rfl ?_
        obtain ⟨s5, hs5, h⟩ := x_let_e h
        refine x_putI s5 hs5 fp_X4_19 ok_e23 rfl dX4_readNumber_108 ?_
        refine x_iload dX4_readNumber_111 5 rfl ?_
        exact x_iretH rfl dX4_readNumber_113 h
set_option maxRecDepth 100000 in
set_option maxHeartbeats 4000000 in
theorem TX4_readNumber_24 {l : Launch} {w : xW} {a1 : Int32} {a2 : Int32} {a3 : Int32} {a4 : Int32} {τ : xS} {r : Int32} : ∀ (n : Nat) (a5 : Int32) (σ : xS), BX4_readNumber_24 a1 a2 a3 a4 n a5 σ = some (r, τ) → xAt l w mX4_readNumber 24 [(0, .ref (w.2.2 4 23 0 0)), (1, .int a1), (2, .int a2), (3, .int a3), (4, .int a4), (5, .int a5)] [] σ (some (.int r)) τ := by
  intro n
  induction n with
  | zero => intro a5 σ h; cases h
  | succ n ih =>
    intro a5 σ h
    rw [BX4_readNumber_24] at h
    refine x_aload_n dX4_readNumber_24 rfl 0 rfl ?_
    refine x_getI fl_X4_15 ok_e23 rfl dX4_readNumber_25 ?_
    refine x_aload_n dX4_readNumber_28 rfl 0 rfl ?_
    refine x_getI fl_X4_22 ok_e23 rfl dX4_readNumber_29 ?_
    refine x_icmp_ge (tgt := 87) dX4_readNumber_32 rfl (fun hc => ?_) (fun hc => ?_)
    · have h := x_t hc h
      refine x_sub (L1 := [(0, .ref (w.2.2 4 23 0 0)), (1, .int a1), (2, .int a2), (3, .int a3), (4, .int a4), (5, .int a5)]) [0, 1, 2, 3, 4, 5] rfl ?_
      exact TX4_readNumber_87  h
    · have h := x_f hc h
      refine x_aload_n dX4_readNumber_35 rfl 0 rfl ?_
      obtain ⟨z6, s6, h6, h⟩ := x_b_e h
      refine x_callV (As := []) (st := []) (eX4_letterHere  h6) cv_X4_32 (Nat.le_of_ble_eq_true rfl) ok_e23 rfl (Nat.le_of_ble_eq_true rfl) _ rfl dX4_readNumber_36 [.int z6] rfl ?_
      refine x_bipush (x := 48) dX4_readNumber_39 rfl ?_
      refine x_icmp_lt (tgt := 87) dX4_readNumber_41 rfl (fun hc => ?_) (fun hc => ?_)
      · have h := x_t hc h
        refine x_sub (L1 := [(0, .ref (w.2.2 4 23 0 0)), (1, .int a1), (2, .int a2), (3, .int a3), (4, .int a4), (5, .int a5)]) [0, 1, 2, 3, 4, 5] rfl ?_
        exact TX4_readNumber_87  h
      · have h := x_f hc h
        refine x_aload_n dX4_readNumber_44 rfl 0 rfl ?_
        obtain ⟨z7, s7, h7, h⟩ := x_b_e h
        refine x_callV (As := []) (st := []) (eX4_letterHere  h7) cv_X4_32 (Nat.le_of_ble_eq_true rfl) ok_e23 rfl (Nat.le_of_ble_eq_true rfl) _ rfl dX4_readNumber_45 [.int z7] rfl ?_
        refine x_bipush (x := 57) dX4_readNumber_48 rfl ?_
        refine x_icmp_gt (tgt := 87) dX4_readNumber_50 rfl (fun hc => ?_) (fun hc => ?_)
        · have h := x_t hc h
          refine x_sub (L1 := [(0, .ref (w.2.2 4 23 0 0)), (1, .int a1), (2, .int a2), (3, .int a3), (4, .int a4), (5, .int a5)]) [0, 1, 2, 3, 4, 5] rfl ?_
          exact TX4_readNumber_87  h
        · have h := x_f hc h
          refine x_sipush (x := 999) dX4_readNumber_53 rfl ?_
          refine x_iload dX4_readNumber_56 5 rfl ?_
          refine x_bipush (x := 10) dX4_readNumber_58 rfl ?_
          refine x_imul dX4_readNumber_60 ?_
          refine x_aload_n dX4_readNumber_61 rfl 0 rfl ?_
          obtain ⟨z8, s8, h8, h⟩ := x_b_e h
          refine x_callV (As := []) (st := [.int (a5 * 10), .int 999]) (eX4_letterHere  h8) cv_X4_32 (Nat.le_of_ble_eq_true rfl) ok_e23 rfl (Nat.le_of_ble_eq_true rfl) _ rfl dX4_readNumber_62 [.int z8, .int (a5 * 10), .int 999] rfl ?_
          refine x_iadd dX4_readNumber_65 ?_
          refine x_bipush (x := 48) dX4_readNumber_66 rfl ?_
          refine x_isub dX4_readNumber_68 ?_
          refine x_min lk_X4_65 w_min (Nat.le_of_ble_eq_true rfl) (Nat.le_of_ble_eq_true rfl) dX4_readNumber_69 ?_
          obtain ⟨t9, ht9, h⟩ := x_let_e h
          refine x_istore t9 ht9 dX4_readNumber_72 (Nat.le_of_ble_eq_true rfl) [(5, .int t9), (0, .ref (w.2.2 4 23 0 0)), (1, .int a1), (2, .int a2), (3, .int a3), (4, .int a4)] rfl ?_
          refine x_aload_n dX4_readNumber_74 rfl 1 rfl ?_
          refine x_dup dX4_readNumber_75 rfl ?_
          refine x_getI fl_X4_15 ok_e23 rfl dX4_readNumber_76 ?_
          refine x_iconst (x := 1) dX4_readNumber_79 rfl ?_
          refine x_iadd dX4_readNumber_80 ?_
          obtain ⟨s10, hs10, h⟩ := x_let_e h
          refine x_putI s10 hs10 fp_X4_15 ok_e23 rfl dX4_readNumber_81 ?_
          refine x_goto (tgt := 24) dX4_readNumber_84 rfl ?_
          refine x_sub (L1 := [(0, .ref (w.2.2 4 23 0 0)), (1, .int a1), (2, .int a2), (3, .int a3), (4, .int a4), (5, .int t9)]) [1, 2, 3, 4, 5, 0] rfl ?_
          exact ih _ _ h
set_option maxRecDepth 100000 in
set_option maxHeartbeats 4000000 in
theorem eX4_readNumber {l : Launch} {w : xW} {a1 : Int32} {a2 : Int32} {σ τ : xS} {r : Int32} (h : fX4_readNumber a1 a2 σ = some (r, τ)) : xEV l w yX4_readNumber mX4_readNumber [.ref (w.2.2 4 23 0 0), .int a1, .int a2] σ (some (.int r)) τ := by
  rw [fX4_readNumber] at h
  refine x_enter (by decide +kernel) rfl (Nat.le_of_ble_eq_true rfl) ?_
  refine x_sub (L1 := [(0, .ref (w.2.2 4 23 0 0)), (1, .int a1), (2, .int a2)]) [0, 1, 2] rfl ?_
  refine x_aload_n dX4_readNumber_0 rfl 0 rfl ?_
  refine x_getI fl_X4_19 ok_e23 rfl dX4_readNumber_1 ?_
  refine x_iconst (x := (-1)) dX4_readNumber_4 (by decide) ?_
  refine x_icmp_eq (tgt := 10) dX4_readNumber_5 rfl (fun hc => ?_) (fun hc => ?_)
  · have h := x_t hc h
    refine x_aload_n dX4_readNumber_10 rfl 0 rfl ?_
    refine x_getI fl_X4_15 ok_e23 rfl dX4_readNumber_11 ?_
    obtain ⟨t1, ht1, h⟩ := x_let_e h
    refine x_istore_n t1 ht1 dX4_readNumber_14 rfl (Nat.le_of_ble_eq_true rfl) [(3, .int t1), (0, .ref (w.2.2 4 23 0 0)), (1, .int a1), (2, .int a2)] rfl ?_
    refine x_aload_n dX4_readNumber_15 rfl 1 rfl ?_
    obtain ⟨z2, s2, h2, h⟩ := x_b_e h
    refine x_callV (As := []) (st := []) (eX4_letterHere  h2) cv_X4_32 (Nat.le_of_ble_eq_true rfl) ok_e23 rfl (Nat.le_of_ble_eq_true rfl) _ rfl dX4_readNumber_16 [.int z2] rfl ?_
    refine x_istore z2 rfl dX4_readNumber_19 (Nat.le_of_ble_eq_true rfl) [(4, .int z2), (3, .int t1), (0, .ref (w.2.2 4 23 0 0)), (1, .int a1), (2, .int a2)] rfl ?_
    refine x_iconst (x := 0) dX4_readNumber_21 rfl ?_
    refine x_istore 0 rfl dX4_readNumber_22 (Nat.le_of_ble_eq_true rfl) [(5, .int 0), (4, .int z2), (3, .int t1), (0, .ref (w.2.2 4 23 0 0)), (1, .int a1), (2, .int a2)] rfl ?_
    refine x_sub (L1 := [(0, .ref (w.2.2 4 23 0 0)), (1, .int a1), (2, .int a2), (3, .int t1), (4, .int z2), (5, .int 0)]) [3, 4, 5, 2, 1, 0] rfl ?_
    exact TX4_readNumber_24 _ _ _ h
  · have h := x_f hc h
    refine x_iload_n dX4_readNumber_8 rfl 1 rfl ?_
    exact x_iretH rfl dX4_readNumber_9 h
set_option maxRecDepth 100000 in
set_option maxHeartbeats 4000000 in
theorem eX4_readCount {l : Launch} {w : xW} {σ τ : xS} {r : Unit} (h : fX4_readCount σ = some (r, τ)) : xEV l w yX4_readCount mX4_readCount [.ref (w.2.2 4 23 0 0)] σ none τ := by
  rw [fX4_readCount] at h
  refine x_enter (by decide +kernel) rfl (Nat.le_of_ble_eq_true rfl) ?_
  refine x_sub (L1 := [(0, .ref (w.2.2 4 23 0 0))]) [0] rfl ?_
  refine x_aload_n dX4_readCount_0 rfl 0 rfl ?_
  refine x_getI fl_X4_19 ok_e23 rfl dX4_readCount_1 ?_
  refine x_iconst (x := (-1)) dX4_readCount_4 (by decide) ?_
  refine x_icmp_ne (tgt := 38) dX4_readCount_5 rfl (fun hc => ?_) (fun hc => ?_)
  · have h := x_f hc h
    exact x_vretH rfl dX4_readCount_38 h
  · have h := x_t hc h
    refine x_aload_n dX4_readCount_8 rfl 0 rfl ?_
    obtain ⟨z1, s1, h1, h⟩ := x_b_e h
    refine x_callV (As := []) (st := []) (eX4_letterHere  h1) cv_X4_32 (Nat.le_of_ble_eq_true rfl) ok_e23 rfl (Nat.le_of_ble_eq_true rfl) _ rfl dX4_readCount_9 [.int z1] rfl ?_
    refine x_bipush (x := 42) dX4_readCount_12 rfl ?_
    refine x_icmp_ne (tgt := 38) dX4_readCount_14 rfl (fun hc => ?_) (fun hc => ?_)
    · have h := x_f hc h
      exact x_vretH rfl dX4_readCount_38 h
    · have h := x_t hc h
      refine x_aload_n dX4_readCount_17 rfl 0 rfl ?_
      refine x_dup dX4_readCount_18 rfl ?_
      refine x_getI fl_X4_15 ok_e23 rfl dX4_readCount_19 ?_
      refine x_iconst (x := 1) dX4_readCount_22 rfl ?_
      refine x_iadd dX4_readCount_23 ?_
      obtain ⟨s2, hs2, h⟩ := x_let_e h
      refine x_putI s2 hs2 fp_X4_15 ok_e23 rfl dX4_readCount_24 ?_
      refine x_aload_n dX4_readCount_27 rfl 0 rfl ?_
      refine x_aload_n dX4_readCount_28 rfl 0 rfl ?_
      refine x_iconst (x := 2) dX4_readCount_29 rfl ?_
      refine x_bipush (x := 9) dX4_readCount_30 rfl ?_
      obtain ⟨z3, s3, h3, h⟩ := x_b_e h
      refine x_callV (As := [.int 2, .int 9]) (st := [.ref (w.2.2 4 23 0 0)]) (eX4_readNumber  h3) cv_X4_52 (Nat.le_of_ble_eq_true rfl) ok_e23 rfl (Nat.le_of_ble_eq_true rfl) _ rfl dX4_readCount_32 [.int z3, .ref (w.2.2 4 23 0 0)] rfl ?_
      obtain ⟨s4, hs4, h⟩ := x_let_e h
      refine x_putI s4 hs4 fp_X4_42 ok_e23 rfl dX4_readCount_35 ?_
      exact x_vretH rfl dX4_readCount_38 h
set_option maxRecDepth 100000 in
set_option maxHeartbeats 4000000 in
theorem eX4_expect {l : Launch} {w : xW} {a1 : Int32} {σ τ : xS} {r : Unit} (h : fX4_expect a1 σ = some (r, τ)) : xEV l w yX4_expect mX4_expect [.ref (w.2.2 4 23 0 0), .int a1] σ none τ := by
  rw [fX4_expect] at h
  refine x_enter (by decide +kernel) rfl (Nat.le_of_ble_eq_true rfl) ?_
  refine x_sub (L1 := [(0, .ref (w.2.2 4 23 0 0)), (1, .int a1)]) [0, 1] rfl ?_
  refine x_aload_n dX4_expect_0 rfl 0 rfl ?_
  refine x_getI fl_X4_19 ok_e23 rfl dX4_expect_1 ?_
  refine x_iconst (x := (-1)) dX4_expect_4 (by decide) ?_
  refine x_icmp_eq (tgt := 9) dX4_expect_5 rfl (fun hc => ?_) (fun hc => ?_)
  · have h := x_t hc h
    refine x_aload_n dX4_expect_9 rfl 0 rfl ?_
    obtain ⟨z1, s1, h1, h⟩ := x_b_e h
    refine x_callV (As := []) (st := []) (eX4_letterHere  h1) cv_X4_32 (Nat.le_of_ble_eq_true rfl) ok_e23 rfl (Nat.le_of_ble_eq_true rfl) _ rfl dX4_expect_10 [.int z1] rfl ?_
    refine x_iload_n dX4_expect_13 rfl 1 rfl ?_
    refine x_icmp_ne (tgt := 30) dX4_expect_14 rfl (fun hc => ?_) (fun hc => ?_)
    · have h := x_f hc h
      refine x_aload_n dX4_expect_30 rfl 0 rfl ?_
      refine x_aload_n dX4_expect_31 rfl 0 rfl ?_
      refine x_getI fl_X4_15 ok_e23 rfl dX4_expect_32 ?_
      obtain ⟨s2, hs2, h⟩ := x_let_e h
      refine x_putI s2 hs2 fp_X4_19 ok_e23 rfl dX4_expect_35 ?_
      exact x_vretH rfl dX4_expect_38 h
    · have h := x_t hc h
      refine x_aload_n dX4_expect_17 rfl 0 rfl ?_
      refine x_dup dX4_expect_18 rfl ?_
      refine x_getI fl_X4_15 ok_e23 rfl dX4_expect_19 ?_
      refine x_iconst (x := 1) dX4_expect_22 rfl ?_
      refine x_iadd dX4_expect_23 ?_
      obtain ⟨s3, hs3, h⟩ := x_let_e h
      refine x_putI s3 hs3 fp_X4_15 ok_e23 rfl dX4_expect_24 ?_
      refine x_goto (tgt := 38) dX4_expect_27 rfl ?_
      exact x_vretH rfl dX4_expect_38 h
  · have h := x_f hc h
    exact x_vretH rfl dX4_expect_8 h
set_option maxRecDepth 100000 in
set_option maxHeartbeats 4000000 in
theorem eX4_readOrder {l : Launch} {w : xW} {a1 : Int32} {σ τ : xS} {r : Unit} (h : fX4_readOrder a1 σ = some (r, τ)) : xEV l w yX4_readOrder mX4_readOrder [.ref (w.2.2 4 23 0 0), .int a1] σ none τ := by
  rw [fX4_readOrder] at h
  refine x_enter (by decide +kernel) rfl (Nat.le_of_ble_eq_true rfl) ?_
  refine x_sub (L1 := [(0, .ref (w.2.2 4 23 0 0)), (1, .int a1)]) [0, 1] rfl ?_
  refine x_aload_n dX4_readOrder_0 rfl 0 rfl ?_
  refine x_aload_n dX4_readOrder_1 rfl 0 rfl ?_
  obtain ⟨z1, s1, h1, h⟩ := x_b_e h
  refine x_callV (As := []) (st := [.ref (w.2.2 4 23 0 0)]) (eX4_letterHere  h1) cv_X4_32 (Nat.le_of_ble_eq_true rfl) ok_e23 rfl (Nat.le_of_ble_eq_true rfl) _ rfl dX4_readOrder_2 [.int z1, .ref (w.2.2 4 23 0 0)] rfl ?_
  obtain ⟨s2, hs2, h⟩ := x_let_e h
  refine x_putI s2 hs2 fp_X4_36 ok_e23 rfl dX4_readOrder_5 ?_
  refine x_aload_n dX4_readOrder_8 rfl 0 rfl ?_
  refine x_iconst (x := (-1)) dX4_readOrder_9 (by decide) ?_
  obtain ⟨s3, hs3, h⟩ := x_let_e h
  refine x_putI s3 hs3 fp_X4_39 ok_e23 rfl dX4_readOrder_10 ?_
  refine x_aload_n dX4_readOrder_13 rfl 0 rfl ?_
  refine x_iconst (x := 1) dX4_readOrder_14 rfl ?_
  obtain ⟨s4, hs4, h⟩ := x_let_e h
  refine x_putI s4 hs4 fp_X4_42 ok_e23 rfl dX4_readOrder_15 ?_
  refine x_aload_n dX4_readOrder_18 rfl 0 rfl ?_
  refine x_getI fl_X4_36 ok_e23 rfl dX4_readOrder_19 ?_
  obtain ⟨t5, ht5, h⟩ := x_let_e h
  refine x_nm t5 ht5 ?_
  by_cases hc97 : t5 = 97
  · have h := x_t hc97 h
    refine x_lookup (off := 42) (tgt := 64) dX4_readOrder_22 rfl (by rw [hc97]; first | done | rfl) rfl ?_
    refine x_aload_n dX4_readOrder_64 rfl 0 rfl ?_
    refine x_dup dX4_readOrder_65 rfl ?_
    refine x_getI fl_X4_15 ok_e23 rfl dX4_readOrder_66 ?_
    refine x_iconst (x := 1) dX4_readOrder_69 rfl ?_
    refine x_iadd dX4_readOrder_70 ?_
    obtain ⟨s6, hs6, h⟩ := x_let_e h
    refine x_putI s6 hs6 fp_X4_15 ok_e23 rfl dX4_readOrder_71 ?_
    refine x_aload_n dX4_readOrder_74 rfl 0 rfl ?_
    refine x_aload_n dX4_readOrder_75 rfl 0 rfl ?_
    refine x_iload_n dX4_readOrder_76 rfl 1 rfl ?_
    obtain ⟨z7, s7, h7, h⟩ := x_b_e h
    refine x_callV (As := [.int a1]) (st := [.ref (w.2.2 4 23 0 0)]) (eX4_readDigit  h7) cv_X4_45 (Nat.le_of_ble_eq_true rfl) ok_e23 rfl (Nat.le_of_ble_eq_true rfl) _ rfl dX4_readOrder_77 [.int z7, .ref (w.2.2 4 23 0 0)] rfl ?_
    obtain ⟨s8, hs8, h⟩ := x_let_e h
    refine x_putI s8 hs8 fp_X4_39 ok_e23 rfl dX4_readOrder_80 ?_
    refine x_aload_n dX4_readOrder_83 rfl 0 rfl ?_
    refine x_aload_n dX4_readOrder_84 rfl 0 rfl ?_
    refine x_iconst (x := 3) dX4_readOrder_85 rfl ?_
    obtain ⟨z9, s9, h9, h⟩ := x_b_e h
    refine x_callV (As := [.int 3]) (st := [.ref (w.2.2 4 23 0 0)]) (eX4_readDigit  h9) cv_X4_45 (Nat.le_of_ble_eq_true rfl) ok_e23 rfl (Nat.le_of_ble_eq_true rfl) _ rfl dX4_readOrder_86 [.int z9, .ref (w.2.2 4 23 0 0)] rfl ?_
    obtain ⟨s10, hs10, h⟩ := x_let_e h
    refine x_putI s10 hs10 fp_X4_49 ok_e23 rfl dX4_readOrder_89 ?_
    refine x_aload_n dX4_readOrder_92 rfl 0 rfl ?_
    refine x_aload_n dX4_readOrder_93 rfl 0 rfl ?_
    refine x_iconst (x := 1) dX4_readOrder_94 rfl ?_
    refine x_bipush (x := 12) dX4_readOrder_95 rfl ?_
    obtain ⟨z11, s11, h11, h⟩ := x_b_e h
    refine x_callV (As := [.int 1, .int 12]) (st := [.ref (w.2.2 4 23 0 0)]) (eX4_readNumber  h11) cv_X4_52 (Nat.le_of_ble_eq_true rfl) ok_e23 rfl (Nat.le_of_ble_eq_true rfl) _ rfl dX4_readOrder_97 [.int z11, .ref (w.2.2 4 23 0 0)] rfl ?_
    obtain ⟨s12, hs12, h⟩ := x_let_e h
    refine x_putI s12 hs12 fp_X4_56 ok_e23 rfl dX4_readOrder_100 ?_
    refine x_aload_n dX4_readOrder_103 rfl 0 rfl ?_
    obtain ⟨z13, s13, h13, h⟩ := x_b_e h
    refine x_callV (As := []) (st := []) (eX4_readCount  h13) cv_X4_59 (Nat.le_of_ble_eq_true rfl) ok_e23 rfl (Nat.le_of_ble_eq_true rfl) _ rfl dX4_readOrder_104 [] rfl ?_
    refine x_goto (tgt := 203) dX4_readOrder_107 rfl ?_
    refine x_aload_n dX4_readOrder_203 rfl 0 rfl ?_
    refine x_bipush (x := 59) dX4_readOrder_204 rfl ?_
    obtain ⟨z14, s14, h14, h⟩ := x_b_e h
    refine x_callV (As := [.int 59]) (st := []) (eX4_expect  h14) cv_X4_62 (Nat.le_of_ble_eq_true rfl) ok_e23 rfl (Nat.le_of_ble_eq_true rfl) _ rfl dX4_readOrder_206 [] rfl ?_
    exact x_vretH rfl dX4_readOrder_209 h
  · have h := x_f hc97 h
    by_cases hc102 : t5 = 102
    · have h := x_t hc102 h
      refine x_lookup (off := 112) (tgt := 134) dX4_readOrder_22 rfl (by rw [hc102]; first | done | rfl) rfl ?_
      refine x_aload_n dX4_readOrder_134 rfl 0 rfl ?_
      refine x_dup dX4_readOrder_135 rfl ?_
      refine x_getI fl_X4_15 ok_e23 rfl dX4_readOrder_136 ?_
      refine x_iconst (x := 1) dX4_readOrder_139 rfl ?_
      refine x_iadd dX4_readOrder_140 ?_
      obtain ⟨s15, hs15, h⟩ := x_let_e h
      refine x_putI s15 hs15 fp_X4_15 ok_e23 rfl dX4_readOrder_141 ?_
      refine x_aload_n dX4_readOrder_144 rfl 0 rfl ?_
      refine x_aload_n dX4_readOrder_145 rfl 0 rfl ?_
      refine x_iload_n dX4_readOrder_146 rfl 1 rfl ?_
      obtain ⟨z16, s16, h16, h⟩ := x_b_e h
      refine x_callV (As := [.int a1]) (st := [.ref (w.2.2 4 23 0 0)]) (eX4_readDigit  h16) cv_X4_45 (Nat.le_of_ble_eq_true rfl) ok_e23 rfl (Nat.le_of_ble_eq_true rfl) _ rfl dX4_readOrder_147 [.int z16, .ref (w.2.2 4 23 0 0)] rfl ?_
      obtain ⟨s17, hs17, h⟩ := x_let_e h
      refine x_putI s17 hs17 fp_X4_39 ok_e23 rfl dX4_readOrder_150 ?_
      refine x_goto (tgt := 203) dX4_readOrder_153 rfl ?_
      refine x_aload_n dX4_readOrder_203 rfl 0 rfl ?_
      refine x_bipush (x := 59) dX4_readOrder_204 rfl ?_
      obtain ⟨z18, s18, h18, h⟩ := x_b_e h
      refine x_callV (As := [.int 59]) (st := []) (eX4_expect  h18) cv_X4_62 (Nat.le_of_ble_eq_true rfl) ok_e23 rfl (Nat.le_of_ble_eq_true rfl) _ rfl dX4_readOrder_206 [] rfl ?_
      exact x_vretH rfl dX4_readOrder_209 h
    · have h := x_f hc102 h
      by_cases hc103 : t5 = 103
      · have h := x_t hc103 h
        refine x_lookup (off := 134) (tgt := 156) dX4_readOrder_22 rfl (by rw [hc103]; first | done | rfl) rfl ?_
        refine x_aload_n dX4_readOrder_156 rfl 0 rfl ?_
        refine x_dup dX4_readOrder_157 rfl ?_
        refine x_getI fl_X4_15 ok_e23 rfl dX4_readOrder_158 ?_
        refine x_iconst (x := 1) dX4_readOrder_161 rfl ?_
        refine x_iadd dX4_readOrder_162 ?_
        obtain ⟨s19, hs19, h⟩ := x_let_e h
        refine x_putI s19 hs19 fp_X4_15 ok_e23 rfl dX4_readOrder_163 ?_
        refine x_aload_n dX4_readOrder_166 rfl 0 rfl ?_
        refine x_aload_n dX4_readOrder_167 rfl 0 rfl ?_
        refine x_iload_n dX4_readOrder_168 rfl 1 rfl ?_
        obtain ⟨z20, s20, h20, h⟩ := x_b_e h
        refine x_callV (As := [.int a1]) (st := [.ref (w.2.2 4 23 0 0)]) (eX4_readDigit  h20) cv_X4_45 (Nat.le_of_ble_eq_true rfl) ok_e23 rfl (Nat.le_of_ble_eq_true rfl) _ rfl dX4_readOrder_169 [.int z20, .ref (w.2.2 4 23 0 0)] rfl ?_
        obtain ⟨s21, hs21, h⟩ := x_let_e h
        refine x_putI s21 hs21 fp_X4_39 ok_e23 rfl dX4_readOrder_172 ?_
        refine x_aload_n dX4_readOrder_175 rfl 0 rfl ?_
        refine x_bipush (x := 44) dX4_readOrder_176 rfl ?_
        obtain ⟨z22, s22, h22, h⟩ := x_b_e h
        refine x_callV (As := [.int 44]) (st := []) (eX4_expect  h22) cv_X4_62 (Nat.le_of_ble_eq_true rfl) ok_e23 rfl (Nat.le_of_ble_eq_true rfl) _ rfl dX4_readOrder_178 [] rfl ?_
        refine x_aload_n dX4_readOrder_181 rfl 0 rfl ?_
        refine x_aload_n dX4_readOrder_182 rfl 0 rfl ?_
        refine x_iconst (x := 1) dX4_readOrder_183 rfl ?_
        refine x_bipush (x := 32) dX4_readOrder_184 rfl ?_
        obtain ⟨z23, s23, h23, h⟩ := x_b_e h
        refine x_callV (As := [.int 1, .int 32]) (st := [.ref (w.2.2 4 23 0 0)]) (eX4_readNumber  h23) cv_X4_52 (Nat.le_of_ble_eq_true rfl) ok_e23 rfl (Nat.le_of_ble_eq_true rfl) _ rfl dX4_readOrder_186 [.int z23, .ref (w.2.2 4 23 0 0)] rfl ?_
        obtain ⟨s24, hs24, h⟩ := x_let_e h
        refine x_putI s24 hs24 fp_X4_56 ok_e23 rfl dX4_readOrder_189 ?_
        refine x_goto (tgt := 203) dX4_readOrder_192 rfl ?_
        refine x_aload_n dX4_readOrder_203 rfl 0 rfl ?_
        refine x_bipush (x := 59) dX4_readOrder_204 rfl ?_
        obtain ⟨z25, s25, h25, h⟩ := x_b_e h
        refine x_callV (As := [.int 59]) (st := []) (eX4_expect  h25) cv_X4_62 (Nat.le_of_ble_eq_true rfl) ok_e23 rfl (Nat.le_of_ble_eq_true rfl) _ rfl dX4_readOrder_206 [] rfl ?_
        exact x_vretH rfl dX4_readOrder_209 h
      · have h := x_f hc103 h
        by_cases hc116 : t5 = 116
        · have h := x_t hc116 h
          refine x_lookup (off := 88) (tgt := 110) dX4_readOrder_22 rfl (by rw [hc116]; first | done | rfl) rfl ?_
          refine x_aload_n dX4_readOrder_110 rfl 0 rfl ?_
          refine x_dup dX4_readOrder_111 rfl ?_
          refine x_getI fl_X4_15 ok_e23 rfl dX4_readOrder_112 ?_
          refine x_iconst (x := 1) dX4_readOrder_115 rfl ?_
          refine x_iadd dX4_readOrder_116 ?_
          obtain ⟨s26, hs26, h⟩ := x_let_e h
          refine x_putI s26 hs26 fp_X4_15 ok_e23 rfl dX4_readOrder_117 ?_
          refine x_aload_n dX4_readOrder_120 rfl 0 rfl ?_
          refine x_aload_n dX4_readOrder_121 rfl 0 rfl ?_
          refine x_iconst (x := 1) dX4_readOrder_122 rfl ?_
          refine x_bipush (x := 20) dX4_readOrder_123 rfl ?_
          obtain ⟨z27, s27, h27, h⟩ := x_b_e h
          refine x_callV (As := [.int 1, .int 20]) (st := [.ref (w.2.2 4 23 0 0)]) (eX4_readNumber  h27) cv_X4_52 (Nat.le_of_ble_eq_true rfl) ok_e23 rfl (Nat.le_of_ble_eq_true rfl) _ rfl dX4_readOrder_125 [.int z27, .ref (w.2.2 4 23 0 0)] rfl ?_
          obtain ⟨s28, hs28, h⟩ := x_let_e h
          refine x_putI s28 hs28 fp_X4_56 ok_e23 rfl dX4_readOrder_128 ?_
          refine x_goto (tgt := 203) dX4_readOrder_131 rfl ?_
          refine x_aload_n dX4_readOrder_203 rfl 0 rfl ?_
          refine x_bipush (x := 59) dX4_readOrder_204 rfl ?_
          obtain ⟨z29, s29, h29, h⟩ := x_b_e h
          refine x_callV (As := [.int 59]) (st := []) (eX4_expect  h29) cv_X4_62 (Nat.le_of_ble_eq_true rfl) ok_e23 rfl (Nat.le_of_ble_eq_true rfl) _ rfl dX4_readOrder_206 [] rfl ?_
          exact x_vretH rfl dX4_readOrder_209 h
        · have h := x_f hc116 h
          refine x_lookup (off := 173) (tgt := 195) dX4_readOrder_22 rfl (by simp [Op.lookupswitch.offset, (x_ne_i 97 97 rfl hc97).symm, (x_ne_i 102 102 rfl hc102).symm, (x_ne_i 103 103 rfl hc103).symm, (x_ne_i 116 116 rfl hc116).symm]) rfl ?_
          refine x_aload_n dX4_readOrder_195 rfl 0 rfl ?_
          refine x_aload_n dX4_readOrder_196 rfl 0 rfl ?_
          refine x_getI fl_X4_15 ok_e23 rfl dX4_readOrder_197 ?_
          obtain ⟨s30, hs30, h⟩ := x_let_e h
          refine x_putI s30 hs30 fp_X4_19 ok_e23 rfl dX4_readOrder_200 ?_
          refine x_aload_n dX4_readOrder_203 rfl 0 rfl ?_
          refine x_bipush (x := 59) dX4_readOrder_204 rfl ?_
          obtain ⟨z31, s31, h31, h⟩ := x_b_e h
          refine x_callV (As := [.int 59]) (st := []) (eX4_expect  h31) cv_X4_62 (Nat.le_of_ble_eq_true rfl) ok_e23 rfl (Nat.le_of_ble_eq_true rfl) _ rfl dX4_readOrder_206 [] rfl ?_
          exact x_vretH rfl dX4_readOrder_209 h
set_option maxRecDepth 100000 in
set_option maxHeartbeats 4000000 in
theorem TX4_findFault_6 {l : Launch} {w : xW} {a1 : Int32} {τ : xS} {r : Int32} : ∀ (n : Nat) (a2 : Int32) (σ : xS), BX4_findFault_6 a1 n a2 σ = some (r, τ) → xAt l w mX4_findFault 6 [(0, .ref (w.2.2 4 23 0 0)), (1, .int a1), (2, .int a2)] [] σ (some (.int r)) τ := by
  intro n
  induction n with
  | zero => intro a2 σ h; cases h
  | succ n ih =>
    intro a2 σ h
    rw [BX4_findFault_6] at h
    refine x_iload_n dX4_findFault_6 rfl 2 rfl ?_
    refine x_bipush (x := 120) dX4_findFault_7 rfl ?_
    refine x_icmp_ge (tgt := 42) dX4_findFault_9 rfl (fun hc => ?_) (fun hc => ?_)
    · have h := x_t hc h
      refine x_aload_n dX4_findFault_42 rfl 0 rfl ?_
      refine x_getI fl_X4_19 ok_e23 rfl dX4_findFault_43 ?_
      exact x_iretH rfl dX4_findFault_46 h
    · have h := x_f hc h
      refine x_aload_n dX4_findFault_12 rfl 0 rfl ?_
      refine x_getI fl_X4_15 ok_e23 rfl dX4_findFault_13 ?_
      refine x_aload_n dX4_findFault_16 rfl 0 rfl ?_
      refine x_getI fl_X4_22 ok_e23 rfl dX4_findFault_17 ?_
      refine x_icmp_ge (tgt := 42) dX4_findFault_20 rfl (fun hc => ?_) (fun hc => ?_)
      · have h := x_t hc h
        refine x_aload_n dX4_findFault_42 rfl 0 rfl ?_
        refine x_getI fl_X4_19 ok_e23 rfl dX4_findFault_43 ?_
        exact x_iretH rfl dX4_findFault_46 h
      · have h := x_f hc h
        refine x_aload_n dX4_findFault_23 rfl 0 rfl ?_
        refine x_getI fl_X4_19 ok_e23 rfl dX4_findFault_24 ?_
        refine x_iconst (x := (-1)) dX4_findFault_27 (by decide) ?_
        refine x_icmp_ne (tgt := 42) dX4_findFault_28 rfl (fun hc => ?_) (fun hc => ?_)
        · have h := x_f hc h
          refine x_aload_n dX4_findFault_42 rfl 0 rfl ?_
          refine x_getI fl_X4_19 ok_e23 rfl dX4_findFault_43 ?_
          exact x_iretH rfl dX4_findFault_46 h
        · have h := x_t hc h
          refine x_aload_n dX4_findFault_31 rfl 0 rfl ?_
          refine x_iload_n dX4_findFault_32 rfl 1 rfl ?_
          obtain ⟨z2, s2, h2, h⟩ := x_b_e h
          refine x_callV (As := [.int a1]) (st := []) (eX4_readOrder  h2) cv_X4_28 (Nat.le_of_ble_eq_true rfl) ok_e23 rfl (Nat.le_of_ble_eq_true rfl) _ rfl dX4_findFault_33 [] rfl ?_
          obtain ⟨t3, ht3, h⟩ := x_let_e h
          refine x_iinc t3 1 rfl ht3 dX4_findFault_36 2 rfl (Nat.le_of_ble_eq_true rfl) [(2, .int t3), (0, .ref (w.2.2 4 23 0 0)), (1, .int a1)] rfl ?_
          refine x_goto (tgt := 6) dX4_findFault_39 rfl ?_
          refine x_sub (L1 := [(0, .ref (w.2.2 4 23 0 0)), (1, .int a1), (2, .int t3)]) [1, 2, 0] rfl ?_
          exact ih _ _ h
set_option maxRecDepth 100000 in
set_option maxHeartbeats 4000000 in
theorem eX4_findFault {l : Launch} {w : xW} {a1 : Int32} {σ τ : xS} {r : Int32} (h : fX4_findFault a1 σ = some (r, τ)) : xEV l w yX4_findFault mX4_findFault [.ref (w.2.2 4 23 0 0), .int a1] σ (some (.int r)) τ := by
  rw [fX4_findFault] at h
  refine x_enter (by decide +kernel) rfl (Nat.le_of_ble_eq_true rfl) ?_
  refine x_sub (L1 := [(0, .ref (w.2.2 4 23 0 0)), (1, .int a1)]) [0, 1] rfl ?_
  refine x_aload_n dX4_findFault_0 rfl 0 rfl ?_
  obtain ⟨z1, s1, h1, h⟩ := x_b_e h
  refine x_callV (As := []) (st := []) (eX4_rewind  h1) cv_X4_25 (Nat.le_of_ble_eq_true rfl) ok_e23 rfl (Nat.le_of_ble_eq_true rfl) _ rfl dX4_findFault_1 [] rfl ?_
  refine x_iconst (x := 0) dX4_findFault_4 rfl ?_
  refine x_istore_n 0 rfl dX4_findFault_5 rfl (Nat.le_of_ble_eq_true rfl) [(2, .int 0), (0, .ref (w.2.2 4 23 0 0)), (1, .int a1)] rfl ?_
  refine x_sub (L1 := [(0, .ref (w.2.2 4 23 0 0)), (1, .int a1), (2, .int 0)]) [1, 2, 0] rfl ?_
  exact TX4_findFault_6 _ _ _ h
