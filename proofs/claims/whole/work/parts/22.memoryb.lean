def fX1_joinQueue (d0 : Nat) (d1 : Nat) (p1 : Nat) (r1 : Nat) (a2 : Int32) (σ : xS) : Option (Unit × xS) :=
  x_b (fX1_isCell d0 a2 σ) fun z1 s1 => if z1 = 0 then (some ((), s1)) else (x_g (x_in a2 128) (x_let (x_set s1 d0 8 0 0 a2.toNatClampNeg (s1 d1 16 p1 r1 14)) fun s3 => x_g (x_in a2 128) (x_let (x_set s3 d0 9 0 0 a2.toNatClampNeg (-1)) fun s5 => x_b (fX1_isCell d0 (s5 d1 16 p1 r1 14) s5) fun z6 s6 => if z6 = 0 then (x_let (x_set s6 d1 16 p1 r1 13 a2) fun s7 => x_let (x_set s7 d1 16 p1 r1 14 a2) fun s8 => x_let (x_set s8 d1 16 p1 r1 15 ((s8 d1 16 p1 r1 15) + 1)) fun s9 => some ((), s9)) else (x_let (s6 d1 16 p1 r1 14) fun t10 => x_g (x_in t10 128) (x_let (x_set s6 d0 9 0 0 t10.toNatClampNeg a2) fun s12 => x_let (x_set s12 d1 16 p1 r1 14 a2) fun s13 => x_let (x_set s13 d1 16 p1 r1 15 ((s13 d1 16 p1 r1 15) + 1)) fun s14 => some ((), s14))))))
set_option maxRecDepth 100000 in
set_option maxHeartbeats 4000000 in
theorem eX1_joinQueue {l : Launch} {w : xW} {d0 : Nat} {d1 : Nat} {p1 : Nat} {r1 : Nat} {a2 : Int32} (hd0 : d0 < 4) (hd1 : d1 < 4) (hp1 : p1 < 6) (hr1 : r1 < 3) {σ τ : xS} {r : Unit} (h : fX1_joinQueue d0 d1 p1 r1 a2 σ = some (r, τ)) : xEV l w yX1_joinQueue mX1_joinQueue [.ref (w.2.2 d0 1 0 0), .ref (w.2.2 d1 16 p1 r1), .int a2] σ none τ := by
  rw [fX1_joinQueue] at h
  refine x_enter (by decide +kernel) rfl (Nat.le_of_ble_eq_true rfl) ?_
  refine x_sub (L1 := [(0, .ref (w.2.2 d0 1 0 0)), (1, .ref (w.2.2 d1 16 p1 r1)), (2, .int a2)]) [0, 1, 2] rfl ?_
  refine x_aload_n dX1_joinQueue_0 rfl 0 rfl ?_
  refine x_iload_n dX1_joinQueue_1 rfl 2 rfl ?_
  obtain ⟨z1, s1, h1, h⟩ := x_b_e h
  refine x_callV (As := [.int a2]) (st := []) (eX1_isCell hd0 h1) cv_X1_47 (Nat.le_of_ble_eq_true rfl) (ok_a (K := 1) (Nat.le_of_ble_eq_true rfl) hd0) rfl (Nat.le_of_ble_eq_true rfl) _ rfl dX1_joinQueue_2 [.int z1] rfl ?_
  refine x_if_ne (tgt := 9) dX1_joinQueue_5 rfl (fun hc => ?_) (fun hc => ?_)
  · have h := x_f hc h
    refine x_aload_n dX1_joinQueue_9 rfl 0 rfl ?_
    refine x_getR (d1 := d0) (K1 := 8) (p1 := 0) (r1 := 0) fl_X1_31 (ok_a (K := 1) (Nat.le_of_ble_eq_true rfl) hd0) rfl dX1_joinQueue_10 ?_
    refine x_iload_n dX1_joinQueue_13 rfl 2 rfl ?_
    refine x_aload_n dX1_joinQueue_14 rfl 1 rfl ?_
    refine x_getI fl_X1_84 (ok_c hd1 hp1 hr1) rfl dX1_joinQueue_15 ?_
    obtain ⟨hg2, h⟩ := x_g_e h
    obtain ⟨s3, hs3, h⟩ := x_let_e h
    refine x_iast 128 a2.toNatClampNeg rfl s3 hs3 rfl rfl rfl (ok_a (K := 8) (Nat.le_of_ble_eq_true rfl) hd0) hg2 dX1_joinQueue_18 ?_
    refine x_aload_n dX1_joinQueue_19 rfl 0 rfl ?_
    refine x_getR (d1 := d0) (K1 := 9) (p1 := 0) (r1 := 0) fl_X1_34 (ok_a (K := 1) (Nat.le_of_ble_eq_true rfl) hd0) rfl dX1_joinQueue_20 ?_
    refine x_iload_n dX1_joinQueue_23 rfl 2 rfl ?_
    refine x_iconst (x := (-1)) dX1_joinQueue_24 (by decide) ?_
    obtain ⟨hg4, h⟩ := x_g_e h
    obtain ⟨s5, hs5, h⟩ := x_let_e h
    refine x_iast 128 a2.toNatClampNeg rfl s5 hs5 rfl rfl rfl (ok_a (K := 9) (Nat.le_of_ble_eq_true rfl) hd0) hg4 dX1_joinQueue_25 ?_
    refine x_aload_n dX1_joinQueue_26 rfl 0 rfl ?_
    refine x_aload_n dX1_joinQueue_27 rfl 1 rfl ?_
    refine x_getI fl_X1_84 (ok_c hd1 hp1 hr1) rfl dX1_joinQueue_28 ?_
    obtain ⟨z6, s6, h6, h⟩ := x_b_e h
    refine x_callV (As := [.int (s5 d1 16 p1 r1 14)]) (st := []) (eX1_isCell hd0 h6) cv_X1_47 (Nat.le_of_ble_eq_true rfl) (ok_a (K := 1) (Nat.le_of_ble_eq_true rfl) hd0) rfl (Nat.le_of_ble_eq_true rfl) _ rfl dX1_joinQueue_31 [.int z6] rfl ?_
    refine x_if_eq (tgt := 50) dX1_joinQueue_34 rfl (fun hc => ?_) (fun hc => ?_)
    · have h := x_t hc h
      refine x_aload_n dX1_joinQueue_50 rfl 1 rfl ?_
      refine x_iload_n dX1_joinQueue_51 rfl 2 rfl ?_
      obtain ⟨s7, hs7, h⟩ := x_let_e h
      refine x_putI s7 hs7 fp_X1_89 (ok_c hd1 hp1 hr1) rfl dX1_joinQueue_52 ?_
      refine x_aload_n dX1_joinQueue_55 rfl 1 rfl ?_
      refine x_iload_n dX1_joinQueue_56 rfl 2 rfl ?_
      obtain ⟨s8, hs8, h⟩ := x_let_e h
      refine x_putI s8 hs8 fp_X1_84 (ok_c hd1 hp1 hr1) rfl dX1_joinQueue_57 ?_
      refine x_aload_n dX1_joinQueue_60 rfl 1 rfl ?_
      refine x_dup dX1_joinQueue_61 rfl ?_
      refine x_getI fl_X1_92 (ok_c hd1 hp1 hr1) rfl dX1_joinQueue_62 ?_
      refine x_iconst (x := 1) dX1_joinQueue_65 rfl ?_
      refine x_iadd dX1_joinQueue_66 ?_
      obtain ⟨s9, hs9, h⟩ := x_let_e h
      refine x_putI s9 hs9 fp_X1_92 (ok_c hd1 hp1 hr1) rfl dX1_joinQueue_67 ?_
      exact x_vretH rfl dX1_joinQueue_70 h
    · have h := x_f hc h
      refine x_aload_n dX1_joinQueue_37 rfl 0 rfl ?_
      refine x_getR (d1 := d0) (K1 := 9) (p1 := 0) (r1 := 0) fl_X1_34 (ok_a (K := 1) (Nat.le_of_ble_eq_true rfl) hd0) rfl dX1_joinQueue_38 ?_
      refine x_aload_n dX1_joinQueue_41 rfl 1 rfl ?_
      refine x_getI fl_X1_84 (ok_c hd1 hp1 hr1) rfl dX1_joinQueue_42 ?_
      refine x_iload_n dX1_joinQueue_45 rfl 2 rfl ?_
      obtain ⟨t10, ht10, h⟩ := x_let_e h
      refine x_nm2 t10 ht10 ?_
      obtain ⟨hg11, h⟩ := x_g_e h
      obtain ⟨s12, hs12, h⟩ := x_let_e h
      refine x_iast 128 t10.toNatClampNeg rfl s12 hs12 rfl rfl rfl (ok_a (K := 9) (Nat.le_of_ble_eq_true rfl) hd0) hg11 dX1_joinQueue_46 ?_
      refine x_goto (tgt := 55) dX1_joinQueue_47 rfl ?_
      refine x_aload_n dX1_joinQueue_55 rfl 1 rfl ?_
      refine x_iload_n dX1_joinQueue_56 rfl 2 rfl ?_
      obtain ⟨s13, hs13, h⟩ := x_let_e h
      refine x_putI s13 hs13 fp_X1_84 (ok_c hd1 hp1 hr1) rfl dX1_joinQueue_57 ?_
      refine x_aload_n dX1_joinQueue_60 rfl 1 rfl ?_
      refine x_dup dX1_joinQueue_61 rfl ?_
      refine x_getI fl_X1_92 (ok_c hd1 hp1 hr1) rfl dX1_joinQueue_62 ?_
      refine x_iconst (x := 1) dX1_joinQueue_65 rfl ?_
      refine x_iadd dX1_joinQueue_66 ?_
      obtain ⟨s14, hs14, h⟩ := x_let_e h
      refine x_putI s14 hs14 fp_X1_92 (ok_c hd1 hp1 hr1) rfl dX1_joinQueue_67 ?_
      exact x_vretH rfl dX1_joinQueue_70 h
  · have h := x_t hc h
    exact x_vretH rfl dX1_joinQueue_8 h
def BX1_leaveQueue_49 (d0 : Nat) (d1 : Nat) (p1 : Nat) (r1 : Nat) (a3 : Int32) (a4 : Int32) (σ : xS) : Option (Unit × xS) :=
  x_b (fX1_isCell d0 a4 σ) fun z8 s8 => if z8 = 0 then (x_let (x_set s8 d1 16 p1 r1 14 a3) fun s9 => x_let (x_set s9 d1 16 p1 r1 15 ((s9 d1 16 p1 r1 15) - 1)) fun s10 => some ((), s10)) else (x_g (x_in a4 128) (x_let (x_set s8 d0 8 0 0 a4.toNatClampNeg a3) fun s12 => x_let (x_set s12 d1 16 p1 r1 15 ((s12 d1 16 p1 r1 15) - 1)) fun s13 => some ((), s13)))
set_option maxRecDepth 100000 in
set_option maxHeartbeats 4000000 in
theorem TX1_leaveQueue_49 {l : Launch} {w : xW} {d0 : Nat} {d1 : Nat} {p1 : Nat} {r1 : Nat} {a3 : Int32} {a4 : Int32} (hd0 : d0 < 4) (hd1 : d1 < 4) (hp1 : p1 < 6) (hr1 : r1 < 3) {σ τ : xS} {r : Unit} (h : BX1_leaveQueue_49 d0 d1 p1 r1 a3 a4 σ = some (r, τ)) : xAt l w mX1_leaveQueue 49 [(0, .ref (w.2.2 d0 1 0 0)), (1, .ref (w.2.2 d1 16 p1 r1)), (3, .int a3), (4, .int a4)] [] σ none τ := by
  rw [BX1_leaveQueue_49] at h
  refine x_aload_n dX1_leaveQueue_49 rfl 0 rfl ?_
  refine x_iload dX1_leaveQueue_50 3 rfl ?_
  obtain ⟨z8, s8, h8, h⟩ := x_b_e h
  refine x_callV (As := [.int a4]) (st := []) (eX1_isCell hd0 h8) cv_X1_47 (Nat.le_of_ble_eq_true rfl) (ok_a (K := 1) (Nat.le_of_ble_eq_true rfl) hd0) rfl (Nat.le_of_ble_eq_true rfl) _ rfl dX1_leaveQueue_52 [.int z8] rfl ?_
  refine x_if_eq (tgt := 69) dX1_leaveQueue_55 rfl (fun hc => ?_) (fun hc => ?_)
  · have h := x_t hc h
    refine x_aload_n dX1_leaveQueue_69 rfl 1 rfl ?_
    refine x_iload_n dX1_leaveQueue_70 rfl 2 rfl ?_
    obtain ⟨s9, hs9, h⟩ := x_let_e h
    refine x_putI s9 hs9 fp_X1_84 (ok_c hd1 hp1 hr1) rfl dX1_leaveQueue_71 ?_
    refine x_aload_n dX1_leaveQueue_74 rfl 1 rfl ?_
    refine x_dup dX1_leaveQueue_75 rfl ?_
    refine x_getI fl_X1_92 (ok_c hd1 hp1 hr1) rfl dX1_leaveQueue_76 ?_
    refine x_iconst (x := 1) dX1_leaveQueue_79 rfl ?_
    refine x_isub dX1_leaveQueue_80 ?_
    obtain ⟨s10, hs10, h⟩ := x_let_e h
    refine x_putI s10 hs10 fp_X1_92 (ok_c hd1 hp1 hr1) rfl dX1_leaveQueue_81 ?_
    exact x_vretH rfl dX1_leaveQueue_84 h
  · have h := x_f hc h
    refine x_aload_n dX1_leaveQueue_58 rfl 0 rfl ?_
    refine x_getR (d1 := d0) (K1 := 8) (p1 := 0) (r1 := 0) fl_X1_31 (ok_a (K := 1) (Nat.le_of_ble_eq_true rfl) hd0) rfl dX1_leaveQueue_59 ?_
    refine x_iload dX1_leaveQueue_62 3 rfl ?_
    refine x_iload_n dX1_leaveQueue_64 rfl 2 rfl ?_
    obtain ⟨hg11, h⟩ := x_g_e h
    obtain ⟨s12, hs12, h⟩ := x_let_e h
    refine x_iast 128 a4.toNatClampNeg rfl s12 hs12 rfl rfl rfl (ok_a (K := 8) (Nat.le_of_ble_eq_true rfl) hd0) hg11 dX1_leaveQueue_65 ?_
    refine x_goto (tgt := 74) dX1_leaveQueue_66 rfl ?_
    refine x_aload_n dX1_leaveQueue_74 rfl 1 rfl ?_
    refine x_dup dX1_leaveQueue_75 rfl ?_
    refine x_getI fl_X1_92 (ok_c hd1 hp1 hr1) rfl dX1_leaveQueue_76 ?_
    refine x_iconst (x := 1) dX1_leaveQueue_79 rfl ?_
    refine x_isub dX1_leaveQueue_80 ?_
    obtain ⟨s13, hs13, h⟩ := x_let_e h
    refine x_putI s13 hs13 fp_X1_92 (ok_c hd1 hp1 hr1) rfl dX1_leaveQueue_81 ?_
    exact x_vretH rfl dX1_leaveQueue_84 h
def fX1_leaveQueue (d0 : Nat) (d1 : Nat) (p1 : Nat) (r1 : Nat) (a2 : Int32) (σ : xS) : Option (Unit × xS) :=
  x_b (fX1_isCell d0 a2 σ) fun z1 s1 => if z1 = 0 then (some ((), s1)) else (x_g (x_in a2 128) (x_let (s1 d0 8 0 0 a2.toNatClampNeg) fun t3 => x_g (x_in a2 128) (x_let (s1 d0 9 0 0 a2.toNatClampNeg) fun t5 => x_b (fX1_isCell d0 t3 s1) fun z6 s6 => if z6 = 0 then (x_let (x_set s6 d1 16 p1 r1 13 t5) fun s7 => BX1_leaveQueue_49 d0 d1 p1 r1 t3 t5 s7) else (x_g (x_in t3 128) (x_let (x_set s6 d0 9 0 0 t3.toNatClampNeg t5) fun s15 => BX1_leaveQueue_49 d0 d1 p1 r1 t3 t5 s15)))))
set_option maxRecDepth 100000 in
set_option maxHeartbeats 4000000 in
theorem eX1_leaveQueue {l : Launch} {w : xW} {d0 : Nat} {d1 : Nat} {p1 : Nat} {r1 : Nat} {a2 : Int32} (hd0 : d0 < 4) (hd1 : d1 < 4) (hp1 : p1 < 6) (hr1 : r1 < 3) {σ τ : xS} {r : Unit} (h : fX1_leaveQueue d0 d1 p1 r1 a2 σ = some (r, τ)) : xEV l w yX1_leaveQueue mX1_leaveQueue [.ref (w.2.2 d0 1 0 0), .ref (w.2.2 d1 16 p1 r1), .int a2] σ none τ := by
  rw [fX1_leaveQueue] at h
  refine x_enter (by decide +kernel) rfl (Nat.le_of_ble_eq_true rfl) ?_
  refine x_sub (L1 := [(0, .ref (w.2.2 d0 1 0 0)), (1, .ref (w.2.2 d1 16 p1 r1)), (2, .int a2)]) [0, 1, 2] rfl ?_
  refine x_aload_n dX1_leaveQueue_0 rfl 0 rfl ?_
  refine x_iload_n dX1_leaveQueue_1 rfl 2 rfl ?_
  obtain ⟨z1, s1, h1, h⟩ := x_b_e h
  refine x_callV (As := [.int a2]) (st := []) (eX1_isCell hd0 h1) cv_X1_47 (Nat.le_of_ble_eq_true rfl) (ok_a (K := 1) (Nat.le_of_ble_eq_true rfl) hd0) rfl (Nat.le_of_ble_eq_true rfl) _ rfl dX1_leaveQueue_2 [.int z1] rfl ?_
  refine x_if_ne (tgt := 9) dX1_leaveQueue_5 rfl (fun hc => ?_) (fun hc => ?_)
  · have h := x_f hc h
    refine x_aload_n dX1_leaveQueue_9 rfl 0 rfl ?_
    refine x_getR (d1 := d0) (K1 := 8) (p1 := 0) (r1 := 0) fl_X1_31 (ok_a (K := 1) (Nat.le_of_ble_eq_true rfl) hd0) rfl dX1_leaveQueue_10 ?_
    refine x_iload_n dX1_leaveQueue_13 rfl 2 rfl ?_
    obtain ⟨hg2, h⟩ := x_g_e h
    refine x_iald 128 a2.toNatClampNeg rfl rfl rfl rfl (ok_a (K := 8) (Nat.le_of_ble_eq_true rfl) hd0) hg2 dX1_leaveQueue_14 ?_
    obtain ⟨t3, ht3, h⟩ := x_let_e h
    refine x_istore_n t3 ht3 dX1_leaveQueue_15 rfl (Nat.le_of_ble_eq_true rfl) [(3, .int t3), (0, .ref (w.2.2 d0 1 0 0)), (1, .ref (w.2.2 d1 16 p1 r1)), (2, .int a2)] rfl ?_
    refine x_aload_n dX1_leaveQueue_16 rfl 1 rfl ?_
    refine x_getR (d1 := d0) (K1 := 9) (p1 := 0) (r1 := 0) fl_X1_34 (ok_a (K := 1) (Nat.le_of_ble_eq_true rfl) hd0) rfl dX1_leaveQueue_17 ?_
    refine x_iload_n dX1_leaveQueue_20 rfl 3 rfl ?_
    obtain ⟨hg4, h⟩ := x_g_e h
    refine x_iald 128 a2.toNatClampNeg rfl rfl rfl rfl (ok_a (K := 9) (Nat.le_of_ble_eq_true rfl) hd0) hg4 dX1_leaveQueue_21 ?_
    obtain ⟨t5, ht5, h⟩ := x_let_e h
    refine x_istore t5 ht5 dX1_leaveQueue_22 (Nat.le_of_ble_eq_true rfl) [(4, .int t5), (3, .int t3), (0, .ref (w.2.2 d0 1 0 0)), (1, .ref (w.2.2 d1 16 p1 r1)), (2, .int a2)] rfl ?_
    refine x_aload_n dX1_leaveQueue_24 rfl 2 rfl ?_
    refine x_iload_n dX1_leaveQueue_25 rfl 1 rfl ?_
    obtain ⟨z6, s6, h6, h⟩ := x_b_e h
    refine x_callV (As := [.int t3]) (st := []) (eX1_isCell hd0 h6) cv_X1_47 (Nat.le_of_ble_eq_true rfl) (ok_a (K := 1) (Nat.le_of_ble_eq_true rfl) hd0) rfl (Nat.le_of_ble_eq_true rfl) _ rfl dX1_leaveQueue_26 [.int z6] rfl ?_
    refine x_if_eq (tgt := 43) dX1_leaveQueue_29 rfl (fun hc => ?_) (fun hc => ?_)
    · have h := x_t hc h
      refine x_aload_n dX1_leaveQueue_43 rfl 3 rfl ?_
      refine x_iload dX1_leaveQueue_44 0 rfl ?_
      obtain ⟨s7, hs7, h⟩ := x_let_e h
      refine x_putI s7 hs7 fp_X1_89 (ok_c hd1 hp1 hr1) rfl dX1_leaveQueue_46 ?_
      refine x_sub (L1 := [(0, .ref (w.2.2 d0 1 0 0)), (1, .ref (w.2.2 d1 16 p1 r1)), (3, .int t3), (4, .int t5)]) [2, 3, 1, 0] rfl ?_
      exact TX1_leaveQueue_49 hd0 hd1 hp1 hr1 h
    · have h := x_f hc h
      refine x_aload_n dX1_leaveQueue_32 rfl 2 rfl ?_
      refine x_getR (d1 := d0) (K1 := 9) (p1 := 0) (r1 := 0) fl_X1_34 (ok_a (K := 1) (Nat.le_of_ble_eq_true rfl) hd0) rfl dX1_leaveQueue_33 ?_
      refine x_iload_n dX1_leaveQueue_36 rfl 1 rfl ?_
      refine x_iload dX1_leaveQueue_37 0 rfl ?_
      obtain ⟨hg14, h⟩ := x_g_e h
      obtain ⟨s15, hs15, h⟩ := x_let_e h
      refine x_iast 128 t3.toNatClampNeg rfl s15 hs15 rfl rfl rfl (ok_a (K := 9) (Nat.le_of_ble_eq_true rfl) hd0) hg14 dX1_leaveQueue_39 ?_
      refine x_goto (tgt := 49) dX1_leaveQueue_40 rfl ?_
      refine x_sub (L1 := [(0, .ref (w.2.2 d0 1 0 0)), (1, .ref (w.2.2 d1 16 p1 r1)), (3, .int t3), (4, .int t5)]) [2, 3, 1, 0] rfl ?_
      exact TX1_leaveQueue_49 hd0 hd1 hp1 hr1 h
  · have h := x_t hc h
    exact x_vretH rfl dX1_leaveQueue_8 h
