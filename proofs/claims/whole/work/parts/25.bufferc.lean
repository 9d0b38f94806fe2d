def fX5_runStart (a1 : Int32) (σ : xS) : Option (Int32 × xS) :=
  x_b (fX1_findRun 0 a1 σ) fun z1 s1 => if z1 = (-1) then (some ((-1), s1)) else (some (z1, s1))
set_option maxRecDepth 100000 in
set_option maxHeartbeats 4000000 in
theorem eX5_runStart {l : Launch} {w : xW} {a1 : Int32} {σ τ : xS} {r : Int32} (h : fX5_runStart a1 σ = some (r, τ)) : xEV l w yX5_runStart mX5_runStart [.ref (w.2.2 4 20 0 0), .int a1] σ (some (.int r)) τ := by
  rw [fX5_runStart] at h
  refine x_enter (by decide +kernel) rfl (Nat.le_of_ble_eq_true rfl) ?_
  refine x_sub (L1 := [(0, .ref (w.2.2 4 20 0 0)), (1, .int a1)]) [0, 1] rfl ?_
  refine x_aload_n dX5_runStart_0 rfl 0 rfl ?_
  refine x_getR (d1 := 0) (K1 := 0) (p1 := 0) (r1 := 0) fl_X5_10 ok_e20 rfl dX5_runStart_1 ?_
  refine x_getR (d1 := 0) (K1 := 1) (p1 := 0) (r1 := 0) fl_X5_42 (ok_a (K := 0) (Nat.le_of_ble_eq_true rfl) (Nat.le_of_ble_eq_true rfl)) rfl dX5_runStart_4 ?_
  refine x_iload_n dX5_runStart_7 rfl 1 rfl ?_
  obtain ⟨z1, s1, h1, h⟩ := x_b_e h
  refine x_callV (As := [.int a1]) (st := []) (eX1_findRun (Nat.le_of_ble_eq_true rfl) h1) cv_X5_235 (Nat.le_of_ble_eq_true rfl) (ok_a (K := 1) (Nat.le_of_ble_eq_true rfl) (Nat.le_of_ble_eq_true rfl)) rfl (Nat.le_of_ble_eq_true rfl) _ rfl dX5_runStart_8 [.int z1] rfl ?_
  refine x_istore_n z1 rfl dX5_runStart_11 rfl (Nat.le_of_ble_eq_true rfl) [(2, .int z1), (0, .ref (w.2.2 4 20 0 0)), (1, .int a1)] rfl ?_
  refine x_iload_n dX5_runStart_12 rfl 0 rfl ?_
  refine x_iconst (x := (-1)) dX5_runStart_13 (by decide) ?_
  refine x_icmp_ne (tgt := 21) dX5_runStart_14 rfl (fun hc => ?_) (fun hc => ?_)
  · have h := x_f hc h
    refine x_iload_n dX5_runStart_21 rfl 0 rfl ?_
    exact x_iretH rfl dX5_runStart_22 h
  · have h := x_t hc h
    refine x_iconst (x := (-1)) dX5_runStart_17 (by decide) ?_
    refine x_goto (tgt := 22) dX5_runStart_18 rfl ?_
    exact x_iretH rfl dX5_runStart_22 h
def fX5_runLength (a1 : Int32) (σ : xS) : Option (Int32 × xS) :=
  x_b (fX1_findRun 0 a1 σ) fun z1 s1 => if z1 = (-1) then (some ((-1), s1)) else (x_b (fX1_freeLength 0 z1 s1) fun z2 s2 => some (z2, s2))
set_option maxRecDepth 100000 in
set_option maxHeartbeats 4000000 in
theorem eX5_runLength {l : Launch} {w : xW} {a1 : Int32} {σ τ : xS} {r : Int32} (h : fX5_runLength a1 σ = some (r, τ)) : xEV l w yX5_runLength mX5_runLength [.ref (w.2.2 4 20 0 0), .int a1] σ (some (.int r)) τ := by
  rw [fX5_runLength] at h
  refine x_enter (by decide +kernel) rfl (Nat.le_of_ble_eq_true rfl) ?_
  refine x_sub (L1 := [(0, .ref (w.2.2 4 20 0 0)), (1, .int a1)]) [0, 1] rfl ?_
  refine x_aload_n dX5_runLength_0 rfl 0 rfl ?_
  refine x_getR (d1 := 0) (K1 := 0) (p1 := 0) (r1 := 0) fl_X5_10 ok_e20 rfl dX5_runLength_1 ?_
  refine x_getR (d1 := 0) (K1 := 1) (p1 := 0) (r1 := 0) fl_X5_42 (ok_a (K := 0) (Nat.le_of_ble_eq_true rfl) (Nat.le_of_ble_eq_true rfl)) rfl dX5_runLength_4 ?_
  refine x_iload_n dX5_runLength_7 rfl 1 rfl ?_
  obtain ⟨z1, s1, h1, h⟩ := x_b_e h
  refine x_callV (As := [.int a1]) (st := []) (eX1_findRun (Nat.le_of_ble_eq_true rfl) h1) cv_X5_235 (Nat.le_of_ble_eq_true rfl) (ok_a (K := 1) (Nat.le_of_ble_eq_true rfl) (Nat.le_of_ble_eq_true rfl)) rfl (Nat.le_of_ble_eq_true rfl) _ rfl dX5_runLength_8 [.int z1] rfl ?_
  refine x_istore_n z1 rfl dX5_runLength_11 rfl (Nat.le_of_ble_eq_true rfl) [(2, .int z1), (0, .ref (w.2.2 4 20 0 0)), (1, .int a1)] rfl ?_
  refine x_iload_n dX5_runLength_12 rfl 0 rfl ?_
  refine x_iconst (x := (-1)) dX5_runLength_13 (by decide) ?_
  refine x_icmp_ne (tgt := 21) dX5_runLength_14 rfl (fun hc => ?_) (fun hc => ?_)
  · have h := x_f hc h
    refine x_aload_n dX5_runLength_21 rfl 1 rfl ?_
    refine x_getR (d1 := 0) (K1 := 0) (p1 := 0) (r1 := 0) fl_X5_10 ok_e20 rfl dX5_runLength_22 ?_
    refine x_getR (d1 := 0) (K1 := 1) (p1 := 0) (r1 := 0) fl_X5_42 (ok_a (K := 0) (Nat.le_of_ble_eq_true rfl) (Nat.le_of_ble_eq_true rfl)) rfl dX5_runLength_25 ?_
    refine x_iload_n dX5_runLength_28 rfl 0 rfl ?_
    obtain ⟨z2, s2, h2, h⟩ := x_b_e h
    refine x_callV (As := [.int z1]) (st := []) (eX1_freeLength (Nat.le_of_ble_eq_true rfl) h2) cv_X5_238 (Nat.le_of_ble_eq_true rfl) (ok_a (K := 1) (Nat.le_of_ble_eq_true rfl) (Nat.le_of_ble_eq_true rfl)) rfl (Nat.le_of_ble_eq_true rfl) _ rfl dX5_runLength_29 [.int z2] rfl ?_
    exact x_iretH rfl dX5_runLength_32 h
  · have h := x_t hc h
    refine x_iconst (x := (-1)) dX5_runLength_17 (by decide) ?_
    refine x_goto (tgt := 32) dX5_runLength_18 rfl ?_
    exact x_iretH rfl dX5_runLength_32 h
def fX5_stageFor (a1 : Int32) (a2 : Int32) (a3 : Int32) (σ : xS) : Option (Int32 × xS) :=
  x_b (fX0_portAt 0 a1 σ) fun z1 s1 => match z1 with | none => (x_b (fX0_queueAt 0 a1 a2 s1) fun z2 s2 => match z2 with | none => (some ((-1), s2)) | some t2 => x_g (ok3 t2) (some ((-1), s2))) | some t1 => x_g (ok2 t1) (x_b (fX0_queueAt 0 a1 a2 s1) fun z3 s3 => match z3 with | none => (some ((-1), s3)) | some t3 => x_g (ok3 t3) (x_b (fX5_isOutside a3 1 12 s3) fun z4 s4 => if z4 = 0 then (x_b (fX0_judge 0 t1.1 t1.2 t3.1 t3.2.1 t3.2.2 a3 s4) fun z5 s5 => if (s5 0 0 0 0 10) = 0 then (some ((-6), s5)) else (some ((s5 0 0 0 0 10), s5))) else (some ((-2), s4))))
set_option maxRecDepth 100000 in
set_option maxHeartbeats 4000000 in
theorem eX5_stageFor {l : Launch} {w : xW} {a1 : Int32} {a2 : Int32} {a3 : Int32} {σ τ : xS} {r : Int32} (h : fX5_stageFor a1 a2 a3 σ = some (r, τ)) : xEV l w yX5_stageFor mX5_stageFor [.ref (w.2.2 4 20 0 0), .int a1, .int a2, .int a3] σ (some (.int r)) τ := by
  rw [fX5_stageFor] at h
  refine x_enter (by decide +kernel) rfl (Nat.le_of_ble_eq_true rfl) ?_
  refine x_sub (L1 := [(0, .ref (w.2.2 4 20 0 0)), (1, .int a1), (2, .int a2), (3, .int a3)]) [0, 1, 2, 3] rfl ?_
  refine x_aload_n dX5_stageFor_0 rfl 0 rfl ?_
  refine x_getR (d1 := 0) (K1 := 0) (p1 := 0) (r1 := 0) fl_X5_10 ok_e20 rfl dX5_stageFor_1 ?_
  refine x_iload_n dX5_stageFor_4 rfl 1 rfl ?_
  obtain ⟨z1, s1, h1, h⟩ := x_b_e h
  refine x_callV (As := [.int a1]) (st := []) (eX0_portAt (Nat.le_of_ble_eq_true rfl) h1) cv_X5_52 (Nat.le_of_ble_eq_true rfl) (ok_a (K := 0) (Nat.le_of_ble_eq_true rfl) (Nat.le_of_ble_eq_true rfl)) rfl (Nat.le_of_ble_eq_true rfl) _ rfl dX5_stageFor_5 [x_nvP w z1] rfl ?_
  rcases z1 with _ | t1
  · refine x_st [.null] rfl ?_
    refine x_astoreN dX5_stageFor_8 (Nat.le_of_ble_eq_true rfl) [(4, .null), (0, .ref (w.2.2 4 20 0 0)), (1, .int a1), (2, .int a2), (3, .int a3)] rfl ?_
    refine x_aload_n dX5_stageFor_10 rfl 1 rfl ?_
    refine x_getR (d1 := 0) (K1 := 0) (p1 := 0) (r1 := 0) fl_X5_10 ok_e20 rfl dX5_stageFor_11 ?_
    refine x_iload_n dX5_stageFor_14 rfl 2 rfl ?_
    refine x_iload_n dX5_stageFor_15 rfl 3 rfl ?_
    obtain ⟨z2, s2, h2, h⟩ := x_b_e h
    refine x_callV (As := [.int a1, .int a2]) (st := []) (eX0_queueAt (Nat.le_of_ble_eq_true rfl) h2) cv_X5_74 (Nat.le_of_ble_eq_true rfl) (ok_a (K := 0) (Nat.le_of_ble_eq_true rfl) (Nat.le_of_ble_eq_true rfl)) rfl (Nat.le_of_ble_eq_true rfl) _ rfl dX5_stageFor_16 [x_nvQ w z2] rfl ?_
    rcases z2 with _ | t2
    · refine x_st [.null] rfl ?_
      refine x_astoreN dX5_stageFor_19 (Nat.le_of_ble_eq_true rfl) [(5, .null), (4, .null), (0, .ref (w.2.2 4 20 0 0)), (1, .int a1), (2, .int a2), (3, .int a3)] rfl ?_
      refine x_aloadN dX5_stageFor_21 1 rfl ?_
      refine x_ifnullN (tgt := 31) dX5_stageFor_23 rfl ?_
      refine x_iconst (x := (-1)) dX5_stageFor_31 (by decide) ?_
      exact x_iretH rfl dX5_stageFor_32 h
    · obtain ⟨hg2, h⟩ := x_g_e h
      refine x_st [.ref (w.2.2 t2.1 16 t2.2.1 t2.2.2)] rfl ?_
      refine x_astore dX5_stageFor_19 (Nat.le_of_ble_eq_true rfl) [(5, .ref (w.2.2 t2.1 16 t2.2.1 t2.2.2)), (4, .null), (0, .ref (w.2.2 4 20 0 0)), (1, .int a1), (2, .int a2), (3, .int a3)] rfl ?_
      refine x_aloadN dX5_stageFor_21 1 rfl ?_
      refine x_ifnullN (tgt := 31) dX5_stageFor_23 rfl ?_
      refine x_iconst (x := (-1)) dX5_stageFor_31 (by decide) ?_
      exact x_iretH rfl dX5_stageFor_32 h
  · obtain ⟨hg1, h⟩ := x_g_e h
    refine x_st [.ref (w.2.2 t1.1 13 t1.2 0)] rfl ?_
    refine x_astore dX5_stageFor_8 (Nat.le_of_ble_eq_true rfl) [(4, .ref (w.2.2 t1.1 13 t1.2 0)), (0, .ref (w.2.2 4 20 0 0)), (1, .int a1), (2, .int a2), (3, .int a3)] rfl ?_
    refine x_aload_n dX5_stageFor_10 rfl 1 rfl ?_
    refine x_getR (d1 := 0) (K1 := 0) (p1 := 0) (r1 := 0) fl_X5_10 ok_e20 rfl dX5_stageFor_11 ?_
    refine x_iload_n dX5_stageFor_14 rfl 2 rfl ?_
    refine x_iload_n dX5_stageFor_15 rfl 3 rfl ?_
    obtain ⟨z3, s3, h3, h⟩ := x_b_e h
    refine x_callV (As := [.int a1, .int a2]) (st := []) (eX0_queueAt (Nat.le_of_ble_eq_true rfl) h3) cv_X5_74 (Nat.le_of_ble_eq_true rfl) (ok_a (K := 0) (Nat.le_of_ble_eq_true rfl) (Nat.le_of_ble_eq_true rfl)) rfl (Nat.le_of_ble_eq_true rfl) _ rfl dX5_stageFor_16 [x_nvQ w z3] rfl ?_
    rcases z3 with _ | t3
    · refine x_st [.null] rfl ?_
      refine x_astoreN dX5_stageFor_19 (Nat.le_of_ble_eq_true rfl) [(5, .null), (4, .ref (w.2.2 t1.1 13 t1.2 0)), (0, .ref (w.2.2 4 20 0 0)), (1, .int a1), (2, .int a2), (3, .int a3)] rfl ?_
      refine x_aload dX5_stageFor_21 1 rfl ?_
      refine x_ifnullR dX5_stageFor_23 ?_
      refine x_aloadN dX5_stageFor_26 0 rfl ?_
      refine x_ifnonnullN dX5_stageFor_28 ?_
      refine x_iconst (x := (-1)) dX5_stageFor_31 (by decide) ?_
      exact x_iretH rfl dX5_stageFor_32 h
    · obtain ⟨hg3, h⟩ := x_g_e h
      refine x_st [.ref (w.2.2 t3.1 16 t3.2.1 t3.2.2)] rfl ?_
      refine x_astore dX5_stageFor_19 (Nat.le_of_ble_eq_true rfl) [(5, .ref (w.2.2 t3.1 16 t3.2.1 t3.2.2)), (4, .ref (w.2.2 t1.1 13 t1.2 0)), (0, .ref (w.2.2 4 20 0 0)), (1, .int a1), (2, .int a2), (3, .int a3)] rfl ?_
      refine x_aload dX5_stageFor_21 1 rfl ?_
      refine x_ifnullR dX5_stageFor_23 ?_
      refine x_aload dX5_stageFor_26 0 rfl ?_
      refine x_ifnonnullR (tgt := 33) dX5_stageFor_28 rfl ?_
      refine x_iload_n dX5_stageFor_33 rfl 5 rfl ?_
      refine x_iconst (x := 1) dX5_stageFor_34 rfl ?_
      refine x_bipush (x := 12) dX5_stageFor_35 rfl ?_
      obtain ⟨z4, s4, h4, h⟩ := x_b_e h
      refine x_callS (As := [.int a3, .int 1, .int 12]) (st := []) (eX5_isOutside  h4) cs_X5_38 (Nat.le_of_ble_eq_true rfl) rfl (Nat.le_of_ble_eq_true rfl) _ rfl dX5_stageFor_37 [.int z4] rfl ?_
      refine x_if_eq (tgt := 46) dX5_stageFor_40 rfl (fun hc => ?_) (fun hc => ?_)
      · have h := x_t hc h
        refine x_aload_n dX5_stageFor_46 rfl 2 rfl ?_
        refine x_getR (d1 := 0) (K1 := 0) (p1 := 0) (r1 := 0) fl_X5_10 ok_e20 rfl dX5_stageFor_47 ?_
        refine x_aload dX5_stageFor_50 1 rfl ?_
        refine x_aload dX5_stageFor_52 0 rfl ?_
        refine x_iload_n dX5_stageFor_54 rfl 5 rfl ?_
        obtain ⟨z5, s5, h5, h⟩ := x_b_e h
        refine x_callV (As := [.ref (w.2.2 t1.1 13 t1.2 0), .ref (w.2.2 t3.1 16 t3.2.1 t3.2.2), .int a3]) (st := []) (eX0_judge (Nat.le_of_ble_eq_true rfl) (ok2_d hg1) (ok2_p hg1) (ok3_d hg3) (ok3_p hg3) (ok3_r hg3) h5) cv_X5_241 (Nat.le_of_ble_eq_true rfl) (ok_a (K := 0) (Nat.le_of_ble_eq_true rfl) (Nat.le_of_ble_eq_true rfl)) rfl (Nat.le_of_ble_eq_true rfl) _ rfl dX5_stageFor_55 [] rfl ?_
        refine x_aload_n dX5_stageFor_58 rfl 2 rfl ?_
        refine x_getR (d1 := 0) (K1 := 0) (p1 := 0) (r1 := 0) fl_X5_10 ok_e20 rfl dX5_stageFor_59 ?_
        refine x_getI fl_X5_245 (ok_a (K := 0) (Nat.le_of_ble_eq_true rfl) (Nat.le_of_ble_eq_true rfl)) rfl dX5_stageFor_62 ?_
        refine x_if_ne (tgt := 73) dX5_stageFor_65 rfl (fun hc => ?_) (fun hc => ?_)
        · have h := x_f hc h
          refine x_aload_n dX5_stageFor_73 rfl 2 rfl ?_
          refine x_getR (d1 := 0) (K1 := 0) (p1 := 0) (r1 := 0) fl_X5_10 ok_e20 rfl dX5_stageFor_74 ?_
          refine x_getI fl_X5_245 (ok_a (K := 0) (Nat.le_of_ble_eq_true rfl) (Nat.le_of_ble_eq_true rfl)) rfl dX5_stageFor_77 ?_
          exact x_iretH rfl dX5_stageFor_80 h
        · have h := x_t hc h
          refine x_bipush (x := (-6)) dX5_stageFor_68 (by decide) ?_
          refine x_goto (tgt := 80) dX5_stageFor_70 rfl ?_
          exact x_iretH rfl dX5_stageFor_80 h
      · have h := x_f hc h
        refine x_bipush (x := (-2)) dX5_stageFor_43 (by decide) ?_
        exact x_iretH rfl dX5_stageFor_45 h
def BX5_largestAdmissible_35 (d3 : Nat) (p3 : Nat) (d4 : Nat) (p4 : Nat) (r4 : Nat) : Nat → Int32 → xS → Option (Int32 × xS)
  | 0, _, _ => none
  | n + 1, a5, σ => if a5 < 1 then (some (0, σ)) else (x_b (fX0_judge 0 d3 p3 d4 p4 r4 a5 σ) fun z4 s4 => if (s4 0 0 0 0 10) = 0 then (x_let (a5 + (-1)) fun t5 => (BX5_largestAdmissible_35 d3 p3 d4 p4 r4 n) t5 s4) else (some (a5, s4)))
set_option maxRecDepth 100000 in
set_option maxHeartbeats 4000000 in
theorem TX5_largestAdmissible_35 {l : Launch} {w : xW} {d3 : Nat} {p3 : Nat} {d4 : Nat} {p4 : Nat} {r4 : Nat} (hd3 : d3 < 4) (hp3 : p3 < 6) (hd4 : d4 < 4) (hp4 : p4 < 6) (hr4 : r4 < 3) {τ : xS} {r : Int32} : ∀ (n : Nat) (a5 : Int32) (σ : xS), BX5_largestAdmissible_35 d3 p3 d4 p4 r4 n a5 σ = some (r, τ) → xAt l w mX5_largestAdmissible 35 [(0, .ref (w.2.2 4 20 0 0)), (3, .ref (w.2.2 d3 13 p3 0)), (4, .ref (w.2.2 d4 16 p4 r4)), (5, .int a5)] [] σ (some (.int r)) τ := by
  intro n
  induction n with
  | zero => intro a5 σ h; cases h
  | succ n ih =>
    intro a5 σ h
    rw [BX5_largestAdmissible_35] at h
    refine x_iload dX5_largestAdmissible_35 3 rfl ?_
    refine x_iconst (x := 1) dX5_largestAdmissible_37 rfl ?_
    refine x_icmp_lt (tgt := 72) dX5_largestAdmissible_38 rfl (fun hc => ?_) (fun hc => ?_)
    · have h := x_t hc h
      refine x_iconst (x := 0) dX5_largestAdmissible_72 rfl ?_
      exact x_iretH rfl dX5_largestAdmissible_73 h
    · have h := x_f hc h
      refine x_aload_n dX5_largestAdmissible_41 rfl 0 rfl ?_
      refine x_getR (d1 := 0) (K1 := 0) (p1 := 0) (r1 := 0) fl_X5_10 ok_e20 rfl dX5_largestAdmissible_42 ?_
      refine x_aload_n dX5_largestAdmissible_45 rfl 1 rfl ?_
      refine x_aload dX5_largestAdmissible_46 2 rfl ?_
      refine x_iload dX5_largestAdmissible_48 3 rfl ?_
      obtain ⟨z4, s4, h4, h⟩ := x_b_e h
      refine x_callV (As := [.ref (w.2.2 d3 13 p3 0), .ref (w.2.2 d4 16 p4 r4), .int a5]) (st := []) (eX0_judge (Nat.le_of_ble_eq_true rfl) hd3 hp3 hd4 hp4 hr4 h4) cv_X5_241 (Nat.le_of_ble_eq_true rfl) (ok_a (K := 0) (Nat.le_of_ble_eq_true rfl) (Nat.le_of_ble_eq_true rfl)) rfl (Nat.le_of_ble_eq_true rfl) _ rfl dX5_largestAdmissible_50 [] rfl ?_
      refine x_aload_n dX5_largestAdmissible_53 rfl 0 rfl ?_
      refine x_getR (d1 := 0) (K1 := 0) (p1 := 0) (r1 := 0) fl_X5_10 ok_e20 rfl dX5_largestAdmissible_54 ?_
      refine x_getI fl_X5_245 (ok_a (K := 0) (Nat.le_of_ble_eq_true rfl) (Nat.le_of_ble_eq_true rfl)) rfl dX5_largestAdmissible_57 ?_
      refine x_if_eq (tgt := 66) dX5_largestAdmissible_60 rfl (fun hc => ?_) (fun hc => ?_)
      · have h := x_t hc h
        obtain ⟨t5, ht5, h⟩ := x_let_e h
        refine x_iinc t5 (-1) (by decide) ht5 dX5_largestAdmissible_66 3 rfl (Nat.le_of_ble_eq_true rfl) [(5, .int t5), (0, .ref (w.2.2 4 20 0 0)), (3, .ref (w.2.2 d3 13 p3 0)), (4, .ref (w.2.2 d4 16 p4 r4))] rfl ?_
        refine x_goto (tgt := 35) dX5_largestAdmissible_69 rfl ?_
        refine x_sub (L1 := [(0, .ref (w.2.2 4 20 0 0)), (3, .ref (w.2.2 d3 13 p3 0)), (4, .ref (w.2.2 d4 16 p4 r4)), (5, .int t5)]) [1, 2, 3, 0] rfl ?_
        exact ih _ _ h
      · have h := x_f hc h
        refine x_iload dX5_largestAdmissible_63 3 rfl ?_
        exact x_iretH rfl dX5_largestAdmissible_65 h
def fX5_largestAdmissible (a1 : Int32) (a2 : Int32) (σ : xS) : Option (Int32 × xS) :=
  x_b (fX0_portAt 0 a1 σ) fun z1 s1 => match z1 with | none => (x_b (fX0_queueAt 0 a1 a2 s1) fun z2 s2 => match z2 with | none => (some ((-1), s2)) | some t2 => x_g (ok3 t2) (some ((-1), s2))) | some t1 => x_g (ok2 t1) (x_b (fX0_queueAt 0 a1 a2 s1) fun z3 s3 => match z3 with | none => (some ((-1), s3)) | some t3 => x_g (ok3 t3) (BX5_largestAdmissible_35 t1.1 t1.2 t3.1 t3.2.1 t3.2.2 x_FU 12 s3))
set_option maxRecDepth 100000 in
set_option maxHeartbeats 4000000 in
theorem eX5_largestAdmissible {l : Launch} {w : xW} {a1 : Int32} {a2 : Int32} {σ τ : xS} {r : Int32} (h : fX5_largestAdmissible a1 a2 σ = some (r, τ)) : xEV l w yX5_largestAdmissible mX5_largestAdmissible [.ref (w.2.2 4 20 0 0), .int a1, .int a2] σ (some (.int r)) τ := by
  rw [fX5_largestAdmissible] at h
  refine x_enter (by decide +kernel) rfl (Nat.le_of_ble_eq_true rfl) ?_
  refine x_sub (L1 := [(0, .ref (w.2.2 4 20 0 0)), (1, .int a1), (2, .int a2)]) [0, 1, 2] rfl ?_
  refine x_aload_n dX5_largestAdmissible_0 rfl 0 rfl ?_
  refine x_getR (d1 := 0) (K1 := 0) (p1 := 0) (r1 := 0) fl_X5_10 ok_e20 rfl dX5_largestAdmissible_1 ?_
  refine x_iload_n dX5_largestAdmissible_4 rfl 1 rfl ?_
  obtain ⟨z1, s1, h1, h⟩ := x_b_e h
  refine x_callV (As := [.int a1]) (st := []) (eX0_portAt (Nat.le_of_ble_eq_true rfl) h1) cv_X5_52 (Nat.le_of_ble_eq_true rfl) (ok_a (K := 0) (Nat.le_of_ble_eq_true rfl) (Nat.le_of_ble_eq_true rfl)) rfl (Nat.le_of_ble_eq_true rfl) _ rfl dX5_largestAdmissible_5 [x_nvP w z1] rfl ?_
  rcases z1 with _ | t1
  · refine x_st [.null] rfl ?_
    refine x_astore_nN dX5_largestAdmissible_8 rfl (Nat.le_of_ble_eq_true rfl) [(3, .null), (0, .ref (w.2.2 4 20 0 0)), (1, .int a1), (2, .int a2)] rfl ?_
    refine x_aload_n dX5_largestAdmissible_9 rfl 1 rfl ?_
    refine x_getR (d1 := 0) (K1 := 0) (p1 := 0) (r1 := 0) fl_X5_10 ok_e20 rfl dX5_largestAdmissible_10 ?_
    refine x_iload_n dX5_largestAdmissible_13 rfl 2 rfl ?_
    refine x_iload_n dX5_largestAdmissible_14 rfl 3 rfl ?_
    obtain ⟨z2, s2, h2, h⟩ := x_b_e h
    refine x_callV (As := [.int a1, .int a2]) (st := []) (eX0_queueAt (Nat.le_of_ble_eq_true rfl) h2) cv_X5_74 (Nat.le_of_ble_eq_true rfl) (ok_a (K := 0) (Nat.le_of_ble_eq_true rfl) (Nat.le_of_ble_eq_true rfl)) rfl (Nat.le_of_ble_eq_true rfl) _ rfl dX5_largestAdmissible_15 [x_nvQ w z2] rfl ?_
    rcases z2 with _ | t2
    · refine x_st [.null] rfl ?_
      refine x_astoreN dX5_largestAdmissible_18 (Nat.le_of_ble_eq_true rfl) [(4, .null), (3, .null), (0, .ref (w.2.2 4 20 0 0)), (1, .int a1), (2, .int a2)] rfl ?_
      refine x_aload_nN dX5_largestAdmissible_20 rfl 1 rfl ?_
      refine x_ifnullN (tgt := 29) dX5_largestAdmissible_21 rfl ?_
      refine x_iconst (x := (-1)) dX5_largestAdmissible_29 (by decide) ?_
      exact x_iretH rfl dX5_largestAdmissible_30 h
    · obtain ⟨hg2, h⟩ := x_g_e h
      refine x_st [.ref (w.2.2 t2.1 16 t2.2.1 t2.2.2)] rfl ?_
      refine x_astore dX5_largestAdmissible_18 (Nat.le_of_ble_eq_true rfl) [(4, .ref (w.2.2 t2.1 16 t2.2.1 t2.2.2)), (3, .null), (0, .ref (w.2.2 4 20 0 0)), (1, .int a1), (2, .int a2)] rfl ?_
      refine x_aload_nN dX5_largestAdmissible_20 rfl 1 rfl ?_
      refine x_ifnullN (tgt := 29) dX5_largestAdmissible_21 rfl ?_
      refine x_iconst (x := (-1)) dX5_largestAdmissible_29 (by decide) ?_
      exact x_iretH rfl dX5_largestAdmissible_30 h
  · obtain ⟨hg1, h⟩ := x_g_e h
    refine x_st [.ref (w.2.2 t1.1 13 t1.2 0)] rfl ?_
    refine x_astore_n dX5_largestAdmissible_8 rfl (Nat.le_of_ble_eq_true rfl) [(3, .ref (w.2.2 t1.1 13 t1.2 0)), (0, .ref (w.2.2 4 20 0 0)), (1, .int a1), (2, .int a2)] rfl ?_
    refine x_aload_n dX5_largestAdmissible_9 rfl 1 rfl ?_
    refine x_getR (d1 := 0) (K1 := 0) (p1 := 0) (r1 := 0) fl_X5_10 ok_e20 rfl dX5_largestAdmissible_10 ?_
    refine x_iload_n dX5_largestAdmissible_13 rfl 2 rfl ?_
    refine x_iload_n dX5_largestAdmissible_14 rfl 3 rfl ?_
    obtain ⟨z3, s3, h3, h⟩ := x_b_e h
    refine x_callV (As := [.int a1, .int a2]) (st := []) (eX0_queueAt (Nat.le_of_ble_eq_true rfl) h3) cv_X5_74 (Nat.le_of_ble_eq_true rfl) (ok_a (K := 0) (Nat.le_of_ble_eq_true rfl) (Nat.le_of_ble_eq_true rfl)) rfl (Nat.le_of_ble_eq_true rfl) _ rfl dX5_largestAdmissible_15 [x_nvQ w z3] rfl ?_
    rcases z3 with _ | t3
    · refine x_st [.null] rfl ?_
      refine x_astoreN dX5_largestAdmissible_18 (Nat.le_of_ble_eq_true rfl) [(4, .null), (3, .ref (w.2.2 t1.1 13 t1.2 0)), (0, .ref (w.2.2 4 20 0 0)), (1, .int a1), (2, .int a2)] rfl ?_
      refine x_aload_n dX5_largestAdmissible_20 rfl 1 rfl ?_
      refine x_ifnullR dX5_largestAdmissible_21 ?_
      refine x_aloadN dX5_largestAdmissible_24 0 rfl ?_
      refine x_ifnonnullN dX5_largestAdmissible_26 ?_
      refine x_iconst (x := (-1)) dX5_largestAdmissible_29 (by decide) ?_
      exact x_iretH rfl dX5_largestAdmissible_30 h
    · obtain ⟨hg3, h⟩ := x_g_e h
      refine x_st [.ref (w.2.2 t3.1 16 t3.2.1 t3.2.2)] rfl ?_
      refine x_astore dX5_largestAdmissible_18 (Nat.le_of_ble_eq_true rfl) [(4, .ref (w.2.2 t3.1 16 t3.2.1 t3.2.2)), (3, .ref (w.2.2 t1.1 13 t1.2 0)), (0, .ref (w.2.2 4 20 0 0)), (1, .int a1), (2, .int a2)] rfl ?_
      refine x_aload_n dX5_largestAdmissible_20 rfl 1 rfl ?_
      refine x_ifnullR dX5_largestAdmissible_21 ?_
      refine x_aload dX5_largestAdmissible_24 0 rfl ?_
      refine x_ifnonnullR (tgt := 31) dX5_largestAdmissible_26 rfl ?_
      refine x_bipush (x := 12) dX5_largestAdmissible_31 rfl ?_
      refine x_istore 12 rfl dX5_largestAdmissible_33 (Nat.le_of_ble_eq_true rfl) [(5, .int 12), (4, .ref (w.2.2 t3.1 16 t3.2.1 t3.2.2)), (3, .ref (w.2.2 t1.1 13 t1.2 0)), (0, .ref (w.2.2 4 20 0 0)), (1, .int a1), (2, .int a2)] rfl ?_
      refine x_sub (L1 := [(0, .ref (w.2.2 4 20 0 0)), (3, .ref (w.2.2 t1.1 13 t1.2 0)), (4, .ref (w.2.2 t3.1 16 t3.2.1 t3.2.2)), (5, .int 12)]) [3, 2, 1, 0] rfl ?_
      exact TX5_largestAdmissible_35 (ok2_d hg1) (ok2_p hg1) (ok3_d hg3) (ok3_p hg3) (ok3_r hg3) _ _ _ h
def BX5_burstCapacity_82 (a3 : Int32) (d4 : Nat) (p4 : Nat) (d5 : Nat) (p5 : Nat) (r5 : Nat) : Nat → Int32 → xS → Option (Int32 × xS)
  | 0, _, _ => none
  | n + 1, a6, σ => if 128 ≤ a6 then (some (128, σ)) else (x_b (fX0_receive 1 d4 p4 d5 p5 r5 a3 σ) fun z8 s8 => if z8 = (-6) then (some (a6, s8)) else (x_let (a6 + 1) fun t9 => (BX5_burstCapacity_82 a3 d4 p4 d5 p5 r5 n) t9 s8))
set_option maxRecDepth 100000 in
set_option maxHeartbeats 4000000 in
theorem TX5_burstCapacity_82 {l : Launch} {w : xW} {a3 : Int32} {d4 : Nat} {p4 : Nat} {d5 : Nat} {p5 : Nat} {r5 : Nat} (hd4 : d4 < 4) (hp4 : p4 < 6) (hd5 : d5 < 4) (hp5 : p5 < 6) (hr5 : r5 < 3) {τ : xS} {r : Int32} : ∀ (n : Nat) (a6 : Int32) (σ : xS), BX5_burstCapacity_82 a3 d4 p4 d5 p5 r5 n a6 σ = some (r, τ) → xAt l w mX5_burstCapacity 82 [(0, .ref (w.2.2 4 20 0 0)), (3, .int a3), (4, .ref (w.2.2 d4 13 p4 0)), (5, .ref (w.2.2 d5 16 p5 r5)), (6, .int a6)] [] σ (some (.int r)) τ := by
  intro n
  induction n with
  | zero => intro a6 σ h; cases h
  | succ n ih =>
    intro a6 σ h
    rw [BX5_burstCapacity_82] at h
    refine x_iload dX5_burstCapacity_82 4 rfl ?_
    refine x_sipush (x := 128) dX5_burstCapacity_84 rfl ?_
    refine x_icmp_ge (tgt := 116) dX5_burstCapacity_87 rfl (fun hc => ?_) (fun hc => ?_)
    · have h := x_t hc h
      refine x_sipush (x := 128) dX5_burstCapacity_116 rfl ?_
      exact x_iretH rfl dX5_burstCapacity_119 h
    · have h := x_f hc h
      refine x_aload_n dX5_burstCapacity_90 rfl 0 rfl ?_
      refine x_getR (d1 := 1) (K1 := 0) (p1 := 0) (r1 := 0) fl_X5_16 ok_e20 rfl dX5_burstCapacity_91 ?_
      refine x_aload dX5_burstCapacity_94 2 rfl ?_
      refine x_aload dX5_burstCapacity_96 3 rfl ?_
      refine x_iload_n dX5_burstCapacity_98 rfl 1 rfl ?_
      obtain ⟨z8, s8, h8, h⟩ := x_b_e h
      refine x_callV (As := [.ref (w.2.2 d4 13 p4 0), .ref (w.2.2 d5 16 p5 r5), .int a3]) (st := []) (eX0_receive (Nat.le_of_ble_eq_true rfl) hd4 hp4 hd5 hp5 hr5 h8) cv_X5_129 (Nat.le_of_ble_eq_true rfl) (ok_a (K := 0) (Nat.le_of_ble_eq_true rfl) (Nat.le_of_ble_eq_true rfl)) rfl (Nat.le_of_ble_eq_true rfl) _ rfl dX5_burstCapacity_99 [.int z8] rfl ?_
      refine x_bipush (x := (-6)) dX5_burstCapacity_102 (by decide) ?_
      refine x_icmp_ne (tgt := 110) dX5_burstCapacity_104 rfl (fun hc => ?_) (fun hc => ?_)
      · have h := x_f hc h
        obtain ⟨t9, ht9, h⟩ := x_let_e h
        refine x_iinc t9 1 rfl ht9 dX5_burstCapacity_110 4 rfl (Nat.le_of_ble_eq_true rfl) [(6, .int t9), (0, .ref (w.2.2 4 20 0 0)), (3, .int a3), (4, .ref (w.2.2 d4 13 p4 0)), (5, .ref (w.2.2 d5 16 p5 r5))] rfl ?_
        refine x_goto (tgt := 82) dX5_burstCapacity_113 rfl ?_
        refine x_sub (L1 := [(0, .ref (w.2.2 4 20 0 0)), (3, .int a3), (4, .ref (w.2.2 d4 13 p4 0)), (5, .ref (w.2.2 d5 16 p5 r5)), (6, .int t9)]) [1, 2, 3, 4, 0] rfl ?_
        exact ih _ _ h
      · have h := x_t hc h
        refine x_iload dX5_burstCapacity_107 4 rfl ?_
        exact x_iretH rfl dX5_burstCapacity_109 h
def fX5_burstCapacity (a1 : Int32) (a2 : Int32) (a3 : Int32) (σ : xS) : Option (Int32 × xS) :=
  x_b (fX0_queueAt 0 a1 a2 σ) fun z1 s1 => match z1 with | none => (some ((-1), s1)) | some t1 => x_g (ok3 t1) (x_b (fX5_isOutside a3 1 12 s1) fun z2 s2 => if z2 = 0 then (x_b (fX0_copyFrom 1 0 s2) fun z3 s3 => x_let (x_set s3 1 0 0 0 3 0) fun s4 => x_b (fX0_portAt 1 a1 s4) fun z5 s5 => match z5 with | none => (x_b (fX0_queueAt 1 a1 a2 s5) fun z6 s6 => match z6 with | none => (some ((-1), s6)) | some t6 => x_g (ok3 t6) (some ((-1), s6))) | some t5 => x_g (ok2 t5) (x_b (fX0_queueAt 1 a1 a2 s5) fun z7 s7 => match z7 with | none => (some ((-1), s7)) | some t7 => x_g (ok3 t7) (BX5_burstCapacity_82 a3 t5.1 t5.2 t7.1 t7.2.1 t7.2.2 x_FU 0 s7))) else (some ((-2), s2)))
set_option maxRecDepth 100000 in
set_option maxHeartbeats 4000000 in
theorem eX5_burstCapacity {l : Launch} {w : xW} {a1 : Int32} {a2 : Int32} {a3 : Int32} {σ τ : xS} {r : Int32} (h : fX5_burstCapacity a1 a2 a3 σ = some (r, τ)) : xEV l w yX5_burstCapacity mX5_burstCapacity [.ref (w.2.2 4 20 0 0), .int a1, .int a2, .int a3] σ (some (.int r)) τ := by
  rw [fX5_burstCapacity] at h
  refine x_enter (by decide +kernel) rfl (Nat.le_of_ble_eq_true rfl) ?_
  refine x_sub (L1 := [(0, .ref (w.2.2 4 20 0 0)), (1, .int a1), (2, .int a2), (3, .int a3)]) [0, 1, 2, 3] rfl ?_
  refine x_aload_n dX5_burstCapacity_0 rfl 0 rfl ?_
  refine x_getR (d1 := 0) (K1 := 0) (p1 := 0) (r1 := 0) fl_X5_10 ok_e20 rfl dX5_burstCapacity_1 ?_
  refine x_iload_n dX5_burstCapacity_4 rfl 1 rfl ?_
  refine x_iload_n dX5_burstCapacity_5 rfl 2 rfl ?_
  obtain ⟨z1, s1, h1, h⟩ := x_b_e h
  refine x_callV (As := [.int a1, .int a2]) (st := []) (eX0_queueAt (Nat.le_of_ble_eq_true rfl) h1) cv_X5_74 (Nat.le_of_ble_eq_true rfl) (ok_a (K := 0) (Nat.le_of_ble_eq_true rfl) (Nat.le_of_ble_eq_true rfl)) rfl (Nat.le_of_ble_eq_true rfl) _ rfl dX5_burstCapacity_6 [x_nvQ w z1] rfl ?_
  rcases z1 with _ | t1
  · refine x_st [.null] rfl ?_
    refine x_ifnonnullN dX5_burstCapacity_9 ?_
    refine x_iconst (x := (-1)) dX5_burstCapacity_12 (by decide) ?_
    exact x_iretH rfl dX5_burstCapacity_13 h
  · obtain ⟨hg1, h⟩ := x_g_e h
    refine x_st [.ref (w.2.2 t1.1 16 t1.2.1 t1.2.2)] rfl ?_
    refine x_ifnonnullR (tgt := 14) dX5_burstCapacity_9 rfl ?_
    refine x_iload_n dX5_burstCapacity_14 rfl 3 rfl ?_
    refine x_iconst (x := 1) dX5_burstCapacity_15 rfl ?_
    refine x_bipush (x := 12) dX5_burstCapacity_16 rfl ?_
    obtain ⟨z2, s2, h2, h⟩ := x_b_e h
    refine x_callS (As := [.int a3, .int 1, .int 12]) (st := []) (eX5_isOutside  h2) cs_X5_38 (Nat.le_of_ble_eq_true rfl) rfl (Nat.le_of_ble_eq_true rfl) _ rfl dX5_burstCapacity_18 [.int z2] rfl ?_
    refine x_if_eq (tgt := 27) dX5_burstCapacity_21 rfl (fun hc => ?_) (fun hc => ?_)
    · have h := x_t hc h
      refine x_aload_n dX5_burstCapacity_27 rfl 0 rfl ?_
      refine x_getR (d1 := 1) (K1 := 0) (p1 := 0) (r1 := 0) fl_X5_16 ok_e20 rfl dX5_burstCapacity_28 ?_
      refine x_aload_n dX5_burstCapacity_31 rfl 0 rfl ?_
      refine x_getR (d1 := 0) (K1 := 0) (p1 := 0) (r1 := 0) fl_X5_10 ok_e20 rfl dX5_burstCapacity_32 ?_
      obtain ⟨z3, s3, h3, h⟩ := x_b_e h
      refine x_callV (As := [.ref (w.2.2 0 0 0 0)]) (st := []) (eX0_copyFrom (Nat.le_of_ble_eq_true rfl) (Nat.le_of_ble_eq_true rfl) h3) cv_X5_248 (Nat.le_of_ble_eq_true rfl) (ok_a (K := 0) (Nat.le_of_ble_eq_true rfl) (Nat.le_of_ble_eq_true rfl)) rfl (Nat.le_of_ble_eq_true rfl) _ rfl dX5_burstCapacity_35 [] rfl ?_
      refine x_aload_n dX5_burstCapacity_38 rfl 0 rfl ?_
      refine x_getR (d1 := 1) (K1 := 0) (p1 := 0) (r1 := 0) fl_X5_16 ok_e20 rfl dX5_burstCapacity_39 ?_
      refine x_iconst (x := 0) dX5_burstCapacity_42 rfl ?_
      obtain ⟨s4, hs4, h⟩ := x_let_e h
      refine x_putZ s4 hs4 rfl fp_X5_115 (ok_a (K := 0) (Nat.le_of_ble_eq_true rfl) (Nat.le_of_ble_eq_true rfl)) rfl dX5_burstCapacity_43 ?_
      refine x_aload_n dX5_burstCapacity_46 rfl 0 rfl ?_
      refine x_getR (d1 := 1) (K1 := 0) (p1 := 0) (r1 := 0) fl_X5_16 ok_e20 rfl dX5_burstCapacity_47 ?_
      refine x_iload_n dX5_burstCapacity_50 rfl 1 rfl ?_
      obtain ⟨z5, s5, h5, h⟩ := x_b_e h
      refine x_callV (As := [.int a1]) (st := []) (eX0_portAt (Nat.le_of_ble_eq_true rfl) h5) cv_X5_52 (Nat.le_of_ble_eq_true rfl) (ok_a (K := 0) (Nat.le_of_ble_eq_true rfl) (Nat.le_of_ble_eq_true rfl)) rfl (Nat.le_of_ble_eq_true rfl) _ rfl dX5_burstCapacity_51 [x_nvP w z5] rfl ?_
      rcases z5 with _ | t5
      · refine x_st [.null] rfl ?_
        refine x_astoreN dX5_burstCapacity_54 (Nat.le_of_ble_eq_true rfl) [(4, .null), (0, .ref (w.2.2 4 20 0 0)), (1, .int a1), (2, .int a2), (3, .int a3)] rfl ?_
        refine x_aload_n dX5_burstCapacity_56 rfl 1 rfl ?_
        refine x_getR (d1 := 1) (K1 := 0) (p1 := 0) (r1 := 0) fl_X5_16 ok_e20 rfl dX5_burstCapacity_57 ?_
        refine x_iload_n dX5_burstCapacity_60 rfl 2 rfl ?_
        refine x_iload_n dX5_burstCapacity_61 rfl 3 rfl ?_
        obtain ⟨z6, s6, h6, h⟩ := x_b_e h
        refine x_callV (As := [.int a1, .int a2]) (st := []) (eX0_queueAt (Nat.le_of_ble_eq_true rfl) h6) cv_X5_74 (Nat.le_of_ble_eq_true rfl) (ok_a (K := 0) (Nat.le_of_ble_eq_true rfl) (Nat.le_of_ble_eq_true rfl)) rfl (Nat.le_of_ble_eq_true rfl) _ rfl dX5_burstCapacity_62 [x_nvQ w z6] rfl ?_
        rcases z6 with _ | t6
        · refine x_st [.null] rfl ?_
          refine x_astoreN dX5_burstCapacity_65 (Nat.le_of_ble_eq_true rfl) [(5, .null), (4, .null), (0, .ref (w.2.2 4 20 0 0)), (1, .int a1), (2, .int a2), (3, .int a3)] rfl ?_
          refine x_aloadN dX5_burstCapacity_67 1 rfl ?_
          refine x_ifnullN (tgt := 77) dX5_burstCapacity_69 rfl ?_
          refine x_iconst (x := (-1)) dX5_burstCapacity_77 (by decide) ?_
          exact x_iretH rfl dX5_burstCapacity_78 h
        · obtain ⟨hg6, h⟩ := x_g_e h
          refine x_st [.ref (w.2.2 t6.1 16 t6.2.1 t6.2.2)] rfl ?_
          refine x_astore dX5_burstCapacity_65 (Nat.le_of_ble_eq_true rfl) [(5, .ref (w.2.2 t6.1 16 t6.2.1 t6.2.2)), (4, .null), (0, .ref (w.2.2 4 20 0 0)), (1, .int a1), (2, .int a2), (3, .int a3)] rfl ?_
          refine x_aloadN dX5_burstCapacity_67 1 rfl ?_
          refine x_ifnullN (tgt := 77) dX5_burstCapacity_69 rfl ?_
          refine x_iconst (x := (-1)) dX5_burstCapacity_77 (by decide) ?_
          exact x_iretH rfl dX5_burstCapacity_78 h
      · obtain ⟨hg5, h⟩ := x_g_e h
        refine x_st [.ref (w.2.2 t5.1 13 t5.2 0)] rfl ?_
        refine x_astore dX5_burstCapacity_54 (Nat.le_of_ble_eq_true rfl) [(4, .ref (w.2.2 t5.1 13 t5.2 0)), (0, .ref (w.2.2 4 20 0 0)), (1, .int a1), (2, .int a2), (3, .int a3)] rfl ?_
        refine x_aload_n dX5_burstCapacity_56 rfl 1 rfl ?_
        refine x_getR (d1 := 1) (K1 := 0) (p1 := 0) (r1 := 0) fl_X5_16 ok_e20 rfl dX5_burstCapacity_57 ?_
        refine x_iload_n dX5_burstCapacity_60 rfl 2 rfl ?_
        refine x_iload_n dX5_burstCapacity_61 rfl 3 rfl ?_
        obtain ⟨z7, s7, h7, h⟩ := x_b_e h
        refine x_callV (As := [.int a1, .int a2]) (st := []) (eX0_queueAt (Nat.le_of_ble_eq_true rfl) h7) cv_X5_74 (Nat.le_of_ble_eq_true rfl) (ok_a (K := 0) (Nat.le_of_ble_eq_true rfl) (Nat.le_of_ble_eq_true rfl)) rfl (Nat.le_of_ble_eq_true rfl) _ rfl dX5_burstCapacity_62 [x_nvQ w z7] rfl ?_
        rcases z7 with _ | t7
        · refine x_st [.null] rfl ?_
          refine x_astoreN dX5_burstCapacity_65 (Nat.le_of_ble_eq_true rfl) [(5, .null), (4, .ref (w.2.2 t5.1 13 t5.2 0)), (0, .ref (w.2.2 4 20 0 0)), (1, .int a1), (2, .int a2), (3, .int a3)] rfl ?_
          refine x_aload dX5_burstCapacity_67 1 rfl ?_
          refine x_ifnullR dX5_burstCapacity_69 ?_
          refine x_aloadN dX5_burstCapacity_72 0 rfl ?_
          refine x_ifnonnullN dX5_burstCapacity_74 ?_
          refine x_iconst (x := (-1)) dX5_burstCapacity_77 (by decide) ?_
          exact x_iretH rfl dX5_burstCapacity_78 h
        · obtain ⟨hg7, h⟩ := x_g_e h
          refine x_st [.ref (w.2.2 t7.1 16 t7.2.1 t7.2.2)] rfl ?_
          refine x_astore dX5_burstCapacity_65 (Nat.le_of_ble_eq_true rfl) [(5, .ref (w.2.2 t7.1 16 t7.2.1 t7.2.2)), (4, .ref (w.2.2 t5.1 13 t5.2 0)), (0, .ref (w.2.2 4 20 0 0)), (1, .int a1), (2, .int a2), (3, .int a3)] rfl ?_
          refine x_aload dX5_burstCapacity_67 1 rfl ?_
          refine x_ifnullR dX5_burstCapacity_69 ?_
          refine x_aload dX5_burstCapacity_72 0 rfl ?_
          refine x_ifnonnullR (tgt := 79) dX5_burstCapacity_74 rfl ?_
          refine x_iconst (x := 0) dX5_burstCapacity_79 rfl ?_
          refine x_istore 0 rfl dX5_burstCapacity_80 (Nat.le_of_ble_eq_true rfl) [(6, .int 0), (5, .ref (w.2.2 t7.1 16 t7.2.1 t7.2.2)), (4, .ref (w.2.2 t5.1 13 t5.2 0)), (0, .ref (w.2.2 4 20 0 0)), (1, .int a1), (2, .int a2), (3, .int a3)] rfl ?_
          refine x_sub (L1 := [(0, .ref (w.2.2 4 20 0 0)), (3, .int a3), (4, .ref (w.2.2 t5.1 13 t5.2 0)), (5, .ref (w.2.2 t7.1 16 t7.2.1 t7.2.2)), (6, .int 0)]) [3, 6, 2, 1, 0] rfl ?_
          exact TX5_burstCapacity_82 (ok2_d hg5) (ok2_p hg5) (ok3_d hg7) (ok3_p hg7) (ok3_r hg7) _ _ _ h
    · have h := x_f hc h
      refine x_bipush (x := (-2)) dX5_burstCapacity_24 (by decide) ?_
      exact x_iretH rfl dX5_burstCapacity_26 h
def BX5_drainTicks_69 (d3 : Nat) (p3 : Nat) (a4 : Int32) : Nat → Int32 → xS → Option (Int32 × xS)
  | 0, _, _ => none
  | n + 1, a5, σ => if a4 < a5 then (some ((-5), σ)) else (x_b (fX0_send 1 d3 p3 σ) fun z5 s5 => x_b (fX2_isIdle d3 p3 s5) fun z6 s6 => if z6 = 0 then (x_let (a5 + 1) fun t7 => (BX5_drainTicks_69 d3 p3 a4 n) t7 s6) else (some (a5, s6)))
set_option maxRecDepth 100000 in
set_option maxHeartbeats 4000000 in
theorem TX5_drainTicks_69 {l : Launch} {w : xW} {d3 : Nat} {p3 : Nat} {a4 : Int32} (hd3 : d3 < 4) (hp3 : p3 < 6) {τ : xS} {r : Int32} : ∀ (n : Nat) (a5 : Int32) (σ : xS), BX5_drainTicks_69 d3 p3 a4 n a5 σ = some (r, τ) → xAt l w mX5_drainTicks 69 [(0, .ref (w.2.2 4 20 0 0)), (3, .ref (w.2.2 d3 13 p3 0)), (4, .int a4), (5, .int a5)] [] σ (some (.int r)) τ := by
  intro n
  induction n with
  | zero => intro a5 σ h; cases h
  | succ n ih =>
    intro a5 σ h
    rw [BX5_drainTicks_69] at h
    refine x_iload dX5_drainTicks_69 3 rfl ?_
    refine x_iload dX5_drainTicks_71 2 rfl ?_
    refine x_icmp_gt (tgt := 101) dX5_drainTicks_73 rfl (fun hc => ?_) (fun hc => ?_)
    · have h := x_t hc h
      refine x_bipush (x := (-5)) dX5_drainTicks_101 (by decide) ?_
      exact x_iretH rfl dX5_drainTicks_103 h
    · have h := x_f hc h
      refine x_aload_n dX5_drainTicks_76 rfl 0 rfl ?_
      refine x_getR (d1 := 1) (K1 := 0) (p1 := 0) (r1 := 0) fl_X5_16 ok_e20 rfl dX5_drainTicks_77 ?_
      refine x_aload_n dX5_drainTicks_80 rfl 1 rfl ?_
      obtain ⟨z5, s5, h5, h⟩ := x_b_e h
      refine x_callV (As := [.ref (w.2.2 d3 13 p3 0)]) (st := []) (eX0_send (Nat.le_of_ble_eq_true rfl) hd3 hp3 h5) cv_X5_256 (Nat.le_of_ble_eq_true rfl) (ok_a (K := 0) (Nat.le_of_ble_eq_true rfl) (Nat.le_of_ble_eq_true rfl)) rfl (Nat.le_of_ble_eq_true rfl) _ rfl dX5_drainTicks_81 [.int z5] rfl ?_
      refine x_pop dX5_drainTicks_84 rfl ?_
      refine x_aload_n dX5_drainTicks_85 rfl 1 rfl ?_
      obtain ⟨z6, s6, h6, h⟩ := x_b_e h
      refine x_callV (As := []) (st := []) (eX2_isIdle hd3 hp3 h6) cv_X5_252 (Nat.le_of_ble_eq_true rfl) (ok_b (K := 13) (Nat.le_of_ble_eq_true rfl) (Nat.le_of_ble_eq_true rfl) hd3 hp3) rfl (Nat.le_of_ble_eq_true rfl) _ rfl dX5_drainTicks_86 [.int z6] rfl ?_
      refine x_if_eq (tgt := 95) dX5_drainTicks_89 rfl (fun hc => ?_) (fun hc => ?_)
      · have h := x_t hc h
        obtain ⟨t7, ht7, h⟩ := x_let_e h
        refine x_iinc t7 1 rfl ht7 dX5_drainTicks_95 3 rfl (Nat.le_of_ble_eq_true rfl) [(5, .int t7), (0, .ref (w.2.2 4 20 0 0)), (3, .ref (w.2.2 d3 13 p3 0)), (4, .int a4)] rfl ?_
        refine x_goto (tgt := 69) dX5_drainTicks_98 rfl ?_
        refine x_sub (L1 := [(0, .ref (w.2.2 4 20 0 0)), (3, .ref (w.2.2 d3 13 p3 0)), (4, .int a4), (5, .int t7)]) [1, 2, 3, 0] rfl ?_
        exact ih _ _ h
      · have h := x_f hc h
        refine x_iload dX5_drainTicks_92 3 rfl ?_
        exact x_iretH rfl dX5_drainTicks_94 h
def fX5_drainTicks (a1 : Int32) (σ : xS) : Option (Int32 × xS) :=
  x_b (fX0_portAt 0 a1 σ) fun z1 s1 => match z1 with | none => (some ((-1), s1)) | some t1 => x_g (ok2 t1) (x_b (fX2_isIdle t1.1 t1.2 s1) fun z2 s2 => if z2 = 0 then (x_b (fX0_copyFrom 1 0 s2) fun z3 s3 => x_b (fX0_portAt 1 a1 s3) fun z4 s4 => match z4 with | none => (some ((-1), s4)) | some t4 => x_g (ok2 t4) (if (s4 t4.1 13 t4.2 0 6) = 0 then (BX5_drainTicks_69 t4.1 t4.2 1 x_FU 1 s4) else (BX5_drainTicks_69 t4.1 t4.2 1000 x_FU 1 s4))) else (some (0, s2)))
set_option maxRecDepth 100000 in
set_option maxHeartbeats 4000000 in
theorem eX5_drainTicks {l : Launch} {w : xW} {a1 : Int32} {σ τ : xS} {r : Int32} (h : fX5_drainTicks a1 σ = some (r, τ)) : xEV l w yX5_drainTicks mX5_drainTicks [.ref (w.2.2 4 20 0 0), .int a1] σ (some (.int r)) τ := by
  rw [fX5_drainTicks] at h
  refine x_enter (by decide +kernel) rfl (Nat.le_of_ble_eq_true rfl) ?_
  refine x_sub (L1 := [(0, .ref (w.2.2 4 20 0 0)), (1, .int a1)]) [0, 1] rfl ?_
  refine x_aload_n dX5_drainTicks_0 rfl 0 rfl ?_
  refine x_getR (d1 := 0) (K1 := 0) (p1 := 0) (r1 := 0) fl_X5_10 ok_e20 rfl dX5_drainTicks_1 ?_
  refine x_iload_n dX5_drainTicks_4 rfl 1 rfl ?_
  obtain ⟨z1, s1, h1, h⟩ := x_b_e h
  refine x_callV (As := [.int a1]) (st := []) (eX0_portAt (Nat.le_of_ble_eq_true rfl) h1) cv_X5_52 (Nat.le_of_ble_eq_true rfl) (ok_a (K := 0) (Nat.le_of_ble_eq_true rfl) (Nat.le_of_ble_eq_true rfl)) rfl (Nat.le_of_ble_eq_true rfl) _ rfl dX5_drainTicks_5 [x_nvP w z1] rfl ?_
  rcases z1 with _ | t1
  · refine x_st [.null] rfl ?_
    refine x_astore_nN dX5_drainTicks_8 rfl (Nat.le_of_ble_eq_true rfl) [(2, .null), (0, .ref (w.2.2 4 20 0 0)), (1, .int a1)] rfl ?_
    refine x_aload_nN dX5_drainTicks_9 rfl 0 rfl ?_
    refine x_ifnonnullN dX5_drainTicks_10 ?_
    refine x_iconst (x := (-1)) dX5_drainTicks_13 (by decide) ?_
    exact x_iretH rfl dX5_drainTicks_14 h
  · obtain ⟨hg1, h⟩ := x_g_e h
    refine x_st [.ref (w.2.2 t1.1 13 t1.2 0)] rfl ?_
    refine x_astore_n dX5_drainTicks_8 rfl (Nat.le_of_ble_eq_true rfl) [(2, .ref (w.2.2 t1.1 13 t1.2 0)), (0, .ref (w.2.2 4 20 0 0)), (1, .int a1)] rfl ?_
    refine x_aload_n dX5_drainTicks_9 rfl 0 rfl ?_
    refine x_ifnonnullR (tgt := 15) dX5_drainTicks_10 rfl ?_
    refine x_aload_n dX5_drainTicks_15 rfl 0 rfl ?_
    obtain ⟨z2, s2, h2, h⟩ := x_b_e h
    refine x_callV (As := []) (st := []) (eX2_isIdle (ok2_d hg1) (ok2_p hg1) h2) cv_X5_252 (Nat.le_of_ble_eq_true rfl) (ok_b (K := 13) (Nat.le_of_ble_eq_true rfl) (Nat.le_of_ble_eq_true rfl) (ok2_d hg1) (ok2_p hg1)) rfl (Nat.le_of_ble_eq_true rfl) _ rfl dX5_drainTicks_16 [.int z2] rfl ?_
    refine x_if_eq (tgt := 24) dX5_drainTicks_19 rfl (fun hc => ?_) (fun hc => ?_)
    · have h := x_t hc h
      refine x_aload_n dX5_drainTicks_24 rfl 1 rfl ?_
      refine x_getR (d1 := 1) (K1 := 0) (p1 := 0) (r1 := 0) fl_X5_16 ok_e20 rfl dX5_drainTicks_25 ?_
      refine x_aload_n dX5_drainTicks_28 rfl 1 rfl ?_
      refine x_getR (d1 := 0) (K1 := 0) (p1 := 0) (r1 := 0) fl_X5_10 ok_e20 rfl dX5_drainTicks_29 ?_
      obtain ⟨z3, s3, h3, h⟩ := x_b_e h
      refine x_callV (As := [.ref (w.2.2 0 0 0 0)]) (st := []) (eX0_copyFrom (Nat.le_of_ble_eq_true rfl) (Nat.le_of_ble_eq_true rfl) h3) cv_X5_248 (Nat.le_of_ble_eq_true rfl) (ok_a (K := 0) (Nat.le_of_ble_eq_true rfl) (Nat.le_of_ble_eq_true rfl)) rfl (Nat.le_of_ble_eq_true rfl) _ rfl dX5_drainTicks_32 [] rfl ?_
      refine x_aload_n dX5_drainTicks_35 rfl 1 rfl ?_
      refine x_getR (d1 := 1) (K1 := 0) (p1 := 0) (r1 := 0) fl_X5_16 ok_e20 rfl dX5_drainTicks_36 ?_
      refine x_iload_n dX5_drainTicks_39 rfl 2 rfl ?_
      obtain ⟨z4, s4, h4, h⟩ := x_b_e h
      refine x_callV (As := [.int a1]) (st := []) (eX0_portAt (Nat.le_of_ble_eq_true rfl) h4) cv_X5_52 (Nat.le_of_ble_eq_true rfl) (ok_a (K := 0) (Nat.le_of_ble_eq_true rfl) (Nat.le_of_ble_eq_true rfl)) rfl (Nat.le_of_ble_eq_true rfl) _ rfl dX5_drainTicks_40 [x_nvP w z4] rfl ?_
      rcases z4 with _ | t4
      · refine x_st [.null] rfl ?_
        refine x_astore_nN dX5_drainTicks_43 rfl (Nat.le_of_ble_eq_true rfl) [(3, .null), (2, .ref (w.2.2 t1.1 13 t1.2 0)), (0, .ref (w.2.2 4 20 0 0)), (1, .int a1)] rfl ?_
        refine x_aload_nN dX5_drainTicks_44 rfl 0 rfl ?_
        refine x_ifnonnullN dX5_drainTicks_45 ?_
        refine x_iconst (x := (-1)) dX5_drainTicks_48 (by decide) ?_
        exact x_iretH rfl dX5_drainTicks_49 h
      · obtain ⟨hg4, h⟩ := x_g_e h
        refine x_st [.ref (w.2.2 t4.1 13 t4.2 0)] rfl ?_
        refine x_astore_n dX5_drainTicks_43 rfl (Nat.le_of_ble_eq_true rfl) [(3, .ref (w.2.2 t4.1 13 t4.2 0)), (2, .ref (w.2.2 t1.1 13 t1.2 0)), (0, .ref (w.2.2 4 20 0 0)), (1, .int a1)] rfl ?_
        refine x_aload_n dX5_drainTicks_44 rfl 0 rfl ?_
        refine x_ifnonnullR (tgt := 50) dX5_drainTicks_45 rfl ?_
        refine x_aload_n dX5_drainTicks_50 rfl 0 rfl ?_
        refine x_getI fl_X5_106 (ok_b (K := 13) (Nat.le_of_ble_eq_true rfl) (Nat.le_of_ble_eq_true rfl) (ok2_d hg4) (ok2_p hg4)) rfl dX5_drainTicks_51 ?_
        refine x_if_ne (tgt := 61) dX5_drainTicks_54 rfl (fun hc => ?_) (fun hc => ?_)
        · have h := x_f hc h
          refine x_sipush (x := 1000) dX5_drainTicks_61 rfl ?_
          refine x_istore 1000 rfl dX5_drainTicks_64 (Nat.le_of_ble_eq_true rfl) [(4, .int 1000), (3, .ref (w.2.2 t4.1 13 t4.2 0)), (2, .ref (w.2.2 t1.1 13 t1.2 0)), (0, .ref (w.2.2 4 20 0 0)), (1, .int a1)] rfl ?_
          refine x_iconst (x := 1) dX5_drainTicks_66 rfl ?_
          refine x_istore 1 rfl dX5_drainTicks_67 (Nat.le_of_ble_eq_true rfl) [(5, .int 1), (4, .int 1000), (3, .ref (w.2.2 t4.1 13 t4.2 0)), (2, .ref (w.2.2 t1.1 13 t1.2 0)), (0, .ref (w.2.2 4 20 0 0)), (1, .int a1)] rfl ?_
          refine x_sub (L1 := [(0, .ref (w.2.2 4 20 0 0)), (3, .ref (w.2.2 t4.1 13 t4.2 0)), (4, .int 1000), (5, .int 1)]) [4, 2, 1, 0] rfl ?_
          exact TX5_drainTicks_69 (ok2_d hg4) (ok2_p hg4) _ _ _ h
        · have h := x_t hc h
          refine x_iconst (x := 1) dX5_drainTicks_57 rfl ?_
          refine x_goto (tgt := 64) dX5_drainTicks_58 rfl ?_
          refine x_istore 1 rfl dX5_drainTicks_64 (Nat.le_of_ble_eq_true rfl) [(4, .int 1), (3, .ref (w.2.2 t4.1 13 t4.2 0)), (2, .ref (w.2.2 t1.1 13 t1.2 0)), (0, .ref (w.2.2 4 20 0 0)), (1, .int a1)] rfl ?_
          refine x_iconst (x := 1) dX5_drainTicks_66 rfl ?_
          refine x_istore 1 rfl dX5_drainTicks_67 (Nat.le_of_ble_eq_true rfl) [(5, .int 1), (4, .int 1), (3, .ref (w.2.2 t4.1 13 t4.2 0)), (2, .ref (w.2.2 t1.1 13 t1.2 0)), (0, .ref (w.2.2 4 20 0 0)), (1, .int a1)] rfl ?_
          refine x_sub (L1 := [(0, .ref (w.2.2 4 20 0 0)), (3, .ref (w.2.2 t4.1 13 t4.2 0)), (4, .int 1), (5, .int 1)]) [4, 2, 1, 0] rfl ?_
          exact TX5_drainTicks_69 (ok2_d hg4) (ok2_p hg4) _ _ _ h
    · have h := x_f hc h
      refine x_iconst (x := 0) dX5_drainTicks_22 rfl ?_
      exact x_iretH rfl dX5_drainTicks_23 h
def BX5_greatestCommonDivisor_7 : Nat → Int32 → Int32 → Int32 → xS → Option (Int32 × xS)
  | 0, _, _, _, _ => none
  | n + 1, a2, a3, a4, σ => if 64 ≤ a4 then (some (a2, σ)) else (if a3 = 0 then (some (a2, σ)) else (if a3 = 0 then none else x_let (a2 - a2 / a3 * a3) fun t2 => x_let (a4 + 1) fun t3 => (BX5_greatestCommonDivisor_7 n) a3 t2 t3 σ))
set_option maxRecDepth 100000 in
set_option maxHeartbeats 4000000 in
theorem TX5_greatestCommonDivisor_7 {l : Launch} {w : xW} {τ : xS} {r : Int32} : ∀ (n : Nat) (a2 : Int32) (a3 : Int32) (a4 : Int32) (σ : xS), BX5_greatestCommonDivisor_7 n a2 a3 a4 σ = some (r, τ) → xAt l w mX5_greatestCommonDivisor 7 [(2, .int a2), (3, .int a3), (4, .int a4)] [] σ (some (.int r)) τ := by
  intro n
  induction n with
  | zero => intro a2 a3 a4 σ h; cases h
  | succ n ih =>
    intro a2 a3 a4 σ h
    rw [BX5_greatestCommonDivisor_7] at h
    refine x_iload dX5_greatestCommonDivisor_7 2 rfl ?_
    refine x_bipush (x := 64) dX5_greatestCommonDivisor_9 rfl ?_
    refine x_icmp_ge (tgt := 34) dX5_greatestCommonDivisor_11 rfl (fun hc => ?_) (fun hc => ?_)
    · have h := x_t hc h
      refine x_iload_n dX5_greatestCommonDivisor_34 rfl 0 rfl ?_
      exact x_iretH rfl dX5_greatestCommonDivisor_35 h
    · have h := x_f hc h
      refine x_iload_n dX5_greatestCommonDivisor_14 rfl 1 rfl ?_
      refine x_if_eq (tgt := 34) dX5_greatestCommonDivisor_15 rfl (fun hc => ?_) (fun hc => ?_)
      · have h := x_t hc h
        refine x_iload_n dX5_greatestCommonDivisor_34 rfl 0 rfl ?_
        exact x_iretH rfl dX5_greatestCommonDivisor_35 h
      · have h := x_f hc h
        refine x_iload_n dX5_greatestCommonDivisor_18 rfl 0 rfl ?_
        refine x_iload_n dX5_greatestCommonDivisor_19 rfl 1 rfl ?_
        obtain ⟨hg1, h⟩ := x_nz_e h
        refine x_irem dX5_greatestCommonDivisor_20 hg1 ?_
        obtain ⟨t2, ht2, h⟩ := x_let_e h
        refine x_istore t2 ht2 dX5_greatestCommonDivisor_21 (Nat.le_of_ble_eq_true rfl) [(5, .int t2), (2, .int a2), (3, .int a3), (4, .int a4)] rfl ?_
        refine x_iload_n dX5_greatestCommonDivisor_23 rfl 2 rfl ?_
        refine x_istore_n a3 rfl dX5_greatestCommonDivisor_24 rfl (Nat.le_of_ble_eq_true rfl) [(2, .int a3), (5, .int t2), (3, .int a3), (4, .int a4)] rfl ?_
        refine x_iload dX5_greatestCommonDivisor_25 1 rfl ?_
        refine x_istore_n t2 rfl dX5_greatestCommonDivisor_27 rfl (Nat.le_of_ble_eq_true rfl) [(3, .int t2), (2, .int a3), (5, .int t2), (4, .int a4)] rfl ?_
        obtain ⟨t3, ht3, h⟩ := x_let_e h
        refine x_iinc t3 1 rfl ht3 dX5_greatestCommonDivisor_28 3 rfl (Nat.le_of_ble_eq_true rfl) [(4, .int t3), (3, .int t2), (2, .int a3), (5, .int t2)] rfl ?_
        refine x_goto (tgt := 7) dX5_greatestCommonDivisor_31 rfl ?_
        refine x_sub (L1 := [(2, .int a3), (3, .int t2), (4, .int t3)]) [2, 1, 0] rfl ?_
        exact ih _ _ _ _ h
def fX5_greatestCommonDivisor (a0 : Int32) (a1 : Int32) (σ : xS) : Option (Int32 × xS) :=
  BX5_greatestCommonDivisor_7 x_FU a0 a1 0 σ
set_option maxRecDepth 100000 in
set_option maxHeartbeats 4000000 in
theorem eX5_greatestCommonDivisor {l : Launch} {w : xW} {a0 : Int32} {a1 : Int32} {σ τ : xS} {r : Int32} (h : fX5_greatestCommonDivisor a0 a1 σ = some (r, τ)) : xEV l w yX5_greatestCommonDivisor mX5_greatestCommonDivisor [.int a0, .int a1] σ (some (.int r)) τ := by
  rw [fX5_greatestCommonDivisor] at h
  refine x_enter (by decide +kernel) rfl (Nat.le_of_ble_eq_true rfl) ?_
  refine x_sub (L1 := [(0, .int a0), (1, .int a1)]) [0, 1] rfl ?_
  refine x_iload_n dX5_greatestCommonDivisor_0 rfl 0 rfl ?_
  refine x_istore_n a0 rfl dX5_greatestCommonDivisor_1 rfl (Nat.le_of_ble_eq_true rfl) [(2, .int a0), (0, .int a0), (1, .int a1)] rfl ?_
  refine x_iload_n dX5_greatestCommonDivisor_2 rfl 2 rfl ?_
  refine x_istore_n a1 rfl dX5_greatestCommonDivisor_3 rfl (Nat.le_of_ble_eq_true rfl) [(3, .int a1), (2, .int a0), (0, .int a0), (1, .int a1)] rfl ?_
  refine x_iconst (x := 0) dX5_greatestCommonDivisor_4 rfl ?_
  refine x_istore 0 rfl dX5_greatestCommonDivisor_5 (Nat.le_of_ble_eq_true rfl) [(4, .int 0), (3, .int a1), (2, .int a0), (0, .int a0), (1, .int a1)] rfl ?_
  refine x_sub (L1 := [(2, .int a0), (3, .int a1), (4, .int 0)]) [2, 1, 0] rfl ?_
  exact TX5_greatestCommonDivisor_7 _ _ _ _ _ h
def BX5_equilibrium_39 (a1 : Int32) (a2 : Int32) (a3 : Int32) : Nat → Int32 → Int32 → xS → Option (Int32 × xS)
  | 0, _, _, _ => none
  | n + 1, a4, a5, σ => if (3 * (σ 0 0 0 0 2)) ≤ a5 then (x_b (fX5_greatestCommonDivisor a3 a4 σ) fun z3 s3 => x_let (i_max 1 z3) fun t4 => if a2 = 0 then (if t4 = 0 then none else some ((a3 / t4), s3)) else (if t4 = 0 then none else some ((a4 / t4), s3))) else (x_b (fX0_queueAt 0 (a5 / 3) (a5 - a5 / 3 * 3) σ) fun z7 s7 => match z7 with | none => (x_let (a5 + 1) fun t8 => (BX5_equilibrium_39 a1 a2 a3 n) a4 t8 s7) | some t7 => x_g (ok3 t7) (if ((a1 >>> (a5 &&& 31)) &&& 1) = 1 then (x_let (a4 + (s7 t7.1 16 t7.2.1 t7.2.2 1)) fun t10 => x_let (a5 + 1) fun t11 => (BX5_equilibrium_39 a1 a2 a3 n) t10 t11 s7) else (x_let (a5 + 1) fun t9 => (BX5_equilibrium_39 a1 a2 a3 n) a4 t9 s7)))
set_option maxRecDepth 100000 in
set_option maxHeartbeats 4000000 in
theorem TX5_equilibrium_39 {l : Launch} {w : xW} {a1 : Int32} {a2 : Int32} {a3 : Int32} {τ : xS} {r : Int32} : ∀ (n : Nat) (a4 : Int32) (a5 : Int32) (σ : xS), BX5_equilibrium_39 a1 a2 a3 n a4 a5 σ = some (r, τ) → xAt l w mX5_equilibrium 39 [(0, .ref (w.2.2 4 20 0 0)), (1, .int a1), (2, .int a2), (3, .int a3), (4, .int a4), (5, .int a5)] [] σ (some (.int r)) τ := by
  intro n
  induction n with
  | zero => intro a4 a5 σ h; cases h
  | succ n ih =>
    intro a4 a5 σ h
    rw [BX5_equilibrium_39] at h
    refine x_iload dX5_equilibrium_39 5 rfl ?_
    refine x_iconst (x := 3) dX5_equilibrium_41 rfl ?_
    refine x_aload_n dX5_equilibrium_42 rfl 0 rfl ?_
    refine x_getR (d1 := 0) (K1 := 0) (p1 := 0) (r1 := 0) fl_X5_10 ok_e20 rfl dX5_equilibrium_43 ?_
    refine x_getI fl_X5_140 (ok_a (K := 0) (Nat.le_of_ble_eq_true rfl) (Nat.le_of_ble_eq_true rfl)) rfl dX5_equilibrium_46 ?_
    refine x_imul dX5_equilibrium_49 ?_
    refine x_icmp_ge (tgt := 101) dX5_equilibrium_50 rfl (fun hc => ?_) (fun hc => ?_)
    · have h := x_t hc h
      refine x_iconst (x := 1) dX5_equilibrium_101 rfl ?_
      refine x_iload_n dX5_equilibrium_102 rfl 3 rfl ?_
      refine x_iload dX5_equilibrium_103 4 rfl ?_
      obtain ⟨z3, s3, h3, h⟩ := x_b_e h
      refine x_callS (As := [.int a3, .int a4]) (st := [.int 1]) (eX5_greatestCommonDivisor  h3) cs_X5_259 (Nat.le_of_ble_eq_true rfl) rfl (Nat.le_of_ble_eq_true rfl) _ rfl dX5_equilibrium_105 [.int z3, .int 1] rfl ?_
      refine x_max lk_X5_143 w_max (Nat.le_of_ble_eq_true rfl) (Nat.le_of_ble_eq_true rfl) dX5_equilibrium_108 ?_
      obtain ⟨t4, ht4, h⟩ := x_let_e h
      refine x_istore t4 ht4 dX5_equilibrium_111 (Nat.le_of_ble_eq_true rfl) [(5, .int t4), (0, .ref (w.2.2 4 20 0 0)), (1, .int a1), (2, .int a2), (3, .int a3), (4, .int a4)] rfl ?_
      refine x_iload_n dX5_equilibrium_113 rfl 3 rfl ?_
      refine x_if_eq (tgt := 125) dX5_equilibrium_114 rfl (fun hc => ?_) (fun hc => ?_)
      · have h := x_t hc h
        refine x_iload_n dX5_equilibrium_125 rfl 4 rfl ?_
        refine x_iload dX5_equilibrium_126 0 rfl ?_
        obtain ⟨hg5, h⟩ := x_nz_e h
        refine x_idiv dX5_equilibrium_128 hg5 ?_
        exact x_iretH rfl dX5_equilibrium_129 h
      · have h := x_f hc h
        refine x_iload dX5_equilibrium_117 5 rfl ?_
        refine x_iload dX5_equilibrium_119 0 rfl ?_
        obtain ⟨hg6, h⟩ := x_nz_e h
        refine x_idiv dX5_equilibrium_121 hg6 ?_
        refine x_goto (tgt := 129) dX5_equilibrium_122 rfl ?_
        exact x_iretH rfl dX5_equilibrium_129 h
    · have h := x_f hc h
      refine x_aload_n dX5_equilibrium_53 rfl 0 rfl ?_
      refine x_getR (d1 := 0) (K1 := 0) (p1 := 0) (r1 := 0) fl_X5_10 ok_e20 rfl dX5_equilibrium_54 ?_
      refine x_iload dX5_equilibrium_57 5 rfl ?_
      refine x_iconst (x := 3) dX5_equilibrium_59 rfl ?_
      refine x_idiv dX5_equilibrium_60 (by decide) ?_
      refine x_iload dX5_equilibrium_61 5 rfl ?_
      refine x_iconst (x := 3) dX5_equilibrium_63 rfl ?_
      refine x_irem dX5_equilibrium_64 (by decide) ?_
      obtain ⟨z7, s7, h7, h⟩ := x_b_e h
      refine x_callV (As := [.int (a5 / 3), .int (a5 - a5 / 3 * 3)]) (st := []) (eX0_queueAt (Nat.le_of_ble_eq_true rfl) h7) cv_X5_74 (Nat.le_of_ble_eq_true rfl) (ok_a (K := 0) (Nat.le_of_ble_eq_true rfl) (Nat.le_of_ble_eq_true rfl)) rfl (Nat.le_of_ble_eq_true rfl) _ rfl dX5_equilibrium_65 [x_nvQ w z7] rfl ?_
      rcases z7 with _ | t7
      · refine x_st [.null] rfl ?_
        refine x_astoreN dX5_equilibrium_68 (Nat.le_of_ble_eq_true rfl) [(6, .null), (0, .ref (w.2.2 4 20 0 0)), (1, .int a1), (2, .int a2), (3, .int a3), (4, .int a4), (5, .int a5)] rfl ?_
        refine x_aloadN dX5_equilibrium_70 0 rfl ?_
        refine x_ifnullN (tgt := 95) dX5_equilibrium_72 rfl ?_
        obtain ⟨t8, ht8, h⟩ := x_let_e h
        refine x_iinc t8 1 rfl ht8 dX5_equilibrium_95 6 rfl (Nat.le_of_ble_eq_true rfl) [(5, .int t8), (6, .null), (0, .ref (w.2.2 4 20 0 0)), (1, .int a1), (2, .int a2), (3, .int a3), (4, .int a4)] rfl ?_
        refine x_goto (tgt := 39) dX5_equilibrium_98 rfl ?_
        refine x_sub (L1 := [(0, .ref (w.2.2 4 20 0 0)), (1, .int a1), (2, .int a2), (3, .int a3), (4, .int a4), (5, .int t8)]) [2, 3, 4, 5, 6, 0] rfl ?_
        exact ih _ _ _ h
      · obtain ⟨hg7, h⟩ := x_g_e h
        refine x_st [.ref (w.2.2 t7.1 16 t7.2.1 t7.2.2)] rfl ?_
        refine x_astore dX5_equilibrium_68 (Nat.le_of_ble_eq_true rfl) [(6, .ref (w.2.2 t7.1 16 t7.2.1 t7.2.2)), (0, .ref (w.2.2 4 20 0 0)), (1, .int a1), (2, .int a2), (3, .int a3), (4, .int a4), (5, .int a5)] rfl ?_
        refine x_aload dX5_equilibrium_70 0 rfl ?_
        refine x_ifnullR dX5_equilibrium_72 ?_
        refine x_iload_n dX5_equilibrium_75 rfl 2 rfl ?_
        refine x_iload dX5_equilibrium_76 6 rfl ?_
        refine x_ishr dX5_equilibrium_78 ?_
        refine x_iconst (x := 1) dX5_equilibrium_79 rfl ?_
        refine x_iand dX5_equilibrium_80 ?_
        refine x_iconst (x := 1) dX5_equilibrium_81 rfl ?_
        refine x_icmp_ne (tgt := 95) dX5_equilibrium_82 rfl (fun hc => ?_) (fun hc => ?_)
        · have h := x_f hc h
          obtain ⟨t9, ht9, h⟩ := x_let_e h
          refine x_iinc t9 1 rfl ht9 dX5_equilibrium_95 6 rfl (Nat.le_of_ble_eq_true rfl) [(5, .int t9), (6, .ref (w.2.2 t7.1 16 t7.2.1 t7.2.2)), (0, .ref (w.2.2 4 20 0 0)), (1, .int a1), (2, .int a2), (3, .int a3), (4, .int a4)] rfl ?_
          refine x_goto (tgt := 39) dX5_equilibrium_98 rfl ?_
          refine x_sub (L1 := [(0, .ref (w.2.2 4 20 0 0)), (1, .int a1), (2, .int a2), (3, .int a3), (4, .int a4), (5, .int t9)]) [2, 3, 4, 5, 6, 0] rfl ?_
          exact ih _ _ _ h
        · have h := x_t hc h
          refine x_iload dX5_equilibrium_85 5 rfl ?_
          refine x_aload dX5_equilibrium_87 0 rfl ?_
          refine x_getI fl_X5_78 (ok_c (ok3_d hg7) (ok3_p hg7) (ok3_r hg7)) rfl dX5_equilibrium_89 ?_
          refine x_iadd dX5_equilibrium_92 ?_
          obtain ⟨t10, ht10, h⟩ := x_let_e h
          refine x_istore t10 ht10 dX5_equilibrium_93 (Nat.le_of_ble_eq_true rfl) [(4, .int t10), (6, .ref (w.2.2 t7.1 16 t7.2.1 t7.2.2)), (0, .ref (w.2.2 4 20 0 0)), (1, .int a1), (2, .int a2), (3, .int a3), (5, .int a5)] rfl ?_
          obtain ⟨t11, ht11, h⟩ := x_let_e h
          refine x_iinc t11 1 rfl ht11 dX5_equilibrium_95 6 rfl (Nat.le_of_ble_eq_true rfl) [(5, .int t11), (4, .int t10), (6, .ref (w.2.2 t7.1 16 t7.2.1 t7.2.2)), (0, .ref (w.2.2 4 20 0 0)), (1, .int a1), (2, .int a2), (3, .int a3)] rfl ?_
          refine x_goto (tgt := 39) dX5_equilibrium_98 rfl ?_
          refine x_sub (L1 := [(0, .ref (w.2.2 4 20 0 0)), (1, .int a1), (2, .int a2), (3, .int a3), (4, .int t10), (5, .int t11)]) [3, 4, 5, 6, 1, 0] rfl ?_
          exact ih _ _ _ h
def fX5_equilibrium (a1 : Int32) (a2 : Int32) (σ : xS) : Option (Int32 × xS) :=
  if a1 < 0 then (some ((-2), σ)) else (if (a1 >>> ((3 * (σ 0 0 0 0 2)) &&& 31)) = 0 then (x_b (fX0_poolSize 0 σ) fun z1 s1 => x_let (8 * z1) fun t2 => BX5_equilibrium_39 a1 a2 t2 x_FU 8 0 s1) else (some ((-2), σ)))
set_option maxRecDepth 100000 in
set_option maxHeartbeats 4000000 in
theorem eX5_equilibrium {l : Launch} {w : xW} {a1 : Int32} {a2 : Int32} {σ τ : xS} {r : Int32} (h : fX5_equilibrium a1 a2 σ = some (r, τ)) : xEV l w yX5_equilibrium mX5_equilibrium [.ref (w.2.2 4 20 0 0), .int a1, .int a2] σ (some (.int r)) τ := by
  rw [fX5_equilibrium] at h
  refine x_enter (by decide +kernel) rfl (Nat.le_of_ble_eq_true rfl) ?_
  refine x_sub (L1 := [(0, .ref (w.2.2 4 20 0 0)), (1, .int a1), (2, .int a2)]) [0, 1, 2] rfl ?_
  refine x_iload_n dX5_equilibrium_0 rfl 1 rfl ?_
  refine x_if_lt (tgt := 18) dX5_equilibrium_1 rfl (fun hc => ?_) (fun hc => ?_)
  · have h := x_t hc h
    refine x_bipush (x := (-2)) dX5_equilibrium_18 (by decide) ?_
    exact x_iretH rfl dX5_equilibrium_20 h
  · have h := x_f hc h
    refine x_iload_n dX5_equilibrium_4 rfl 1 rfl ?_
    refine x_iconst (x := 3) dX5_equilibrium_5 rfl ?_
    refine x_aload_n dX5_equilibrium_6 rfl 0 rfl ?_
    refine x_getR (d1 := 0) (K1 := 0) (p1 := 0) (r1 := 0) fl_X5_10 ok_e20 rfl dX5_equilibrium_7 ?_
    refine x_getI fl_X5_140 (ok_a (K := 0) (Nat.le_of_ble_eq_true rfl) (Nat.le_of_ble_eq_true rfl)) rfl dX5_equilibrium_10 ?_
    refine x_imul dX5_equilibrium_13 ?_
    refine x_ishr dX5_equilibrium_14 ?_
    refine x_if_eq (tgt := 21) dX5_equilibrium_15 rfl (fun hc => ?_) (fun hc => ?_)
    · have h := x_t hc h
      refine x_bipush (x := 8) dX5_equilibrium_21 rfl ?_
      refine x_aload_n dX5_equilibrium_23 rfl 0 rfl ?_
      refine x_getR (d1 := 0) (K1 := 0) (p1 := 0) (r1 := 0) fl_X5_10 ok_e20 rfl dX5_equilibrium_24 ?_
      obtain ⟨z1, s1, h1, h⟩ := x_b_e h
      refine x_callV (As := []) (st := [.int 8]) (eX0_poolSize (Nat.le_of_ble_eq_true rfl) h1) cv_X5_161 (Nat.le_of_ble_eq_true rfl) (ok_a (K := 0) (Nat.le_of_ble_eq_true rfl) (Nat.le_of_ble_eq_true rfl)) rfl (Nat.le_of_ble_eq_true rfl) _ rfl dX5_equilibrium_27 [.int z1, .int 8] rfl ?_
      refine x_imul dX5_equilibrium_30 ?_
      obtain ⟨t2, ht2, h⟩ := x_let_e h
      refine x_istore_n t2 ht2 dX5_equilibrium_31 rfl (Nat.le_of_ble_eq_true rfl) [(3, .int t2), (0, .ref (w.2.2 4 20 0 0)), (1, .int a1), (2, .int a2)] rfl ?_
      refine x_bipush (x := 8) dX5_equilibrium_32 rfl ?_
      refine x_istore 8 rfl dX5_equilibrium_34 (Nat.le_of_ble_eq_true rfl) [(4, .int 8), (3, .int t2), (0, .ref (w.2.2 4 20 0 0)), (1, .int a1), (2, .int a2)] rfl ?_
      refine x_iconst (x := 0) dX5_equilibrium_36 rfl ?_
      refine x_istore 0 rfl dX5_equilibrium_37 (Nat.le_of_ble_eq_true rfl) [(5, .int 0), (4, .int 8), (3, .int t2), (0, .ref (w.2.2 4 20 0 0)), (1, .int a1), (2, .int a2)] rfl ?_
      refine x_sub (L1 := [(0, .ref (w.2.2 4 20 0 0)), (1, .int a1), (2, .int a2), (3, .int t2), (4, .int 8), (5, .int 0)]) [3, 4, 5, 2, 1, 0] rfl ?_
      exact TX5_equilibrium_39 _ _ _ _ h
    · have h := x_f hc h
      refine x_bipush (x := (-2)) dX5_equilibrium_18 (by decide) ?_
      exact x_iretH rfl dX5_equilibrium_20 h
def fX5_append (a1 : Int32) (σ : xS) : Option (Int32 × xS) :=
  x_b (fX5_isOutside a1 0 127 σ) fun z1 s1 => if z1 = 0 then (if (s1 4 23 0 0 1) < 120 then (x_let (s1 4 23 0 0 1) fun t2 => x_g (x_in t2 120) (x_let (x_set s1 4 24 0 0 t2.toNatClampNeg a1) fun s4 => x_let (x_set s4 4 23 0 0 1 ((s4 4 23 0 0 1) + 1)) fun s5 => some ((s5 4 23 0 0 1), s5))) else (some ((-3), s1))) else (some ((-2), s1))
set_option maxRecDepth 100000 in
set_option maxHeartbeats 4000000 in
theorem eX5_append {l : Launch} {w : xW} {a1 : Int32} {σ τ : xS} {r : Int32} (h : fX5_append a1 σ = some (r, τ)) : xEV l w yX5_append mX5_append [.ref (w.2.2 4 20 0 0), .int a1] σ (some (.int r)) τ := by
  rw [fX5_append] at h
  refine x_enter (by decide +kernel) rfl (Nat.le_of_ble_eq_true rfl) ?_
  refine x_sub (L1 := [(0, .ref (w.2.2 4 20 0 0)), (1, .int a1)]) [0, 1] rfl ?_
  refine x_iload_n dX5_append_0 rfl 1 rfl ?_
  refine x_iconst (x := 0) dX5_append_1 rfl ?_
  refine x_bipush (x := 127) dX5_append_2 rfl ?_
  obtain ⟨z1, s1, h1, h⟩ := x_b_e h
  refine x_callS (As := [.int a1, .int 0, .int 127]) (st := []) (eX5_isOutside  h1) cs_X5_38 (Nat.le_of_ble_eq_true rfl) rfl (Nat.le_of_ble_eq_true rfl) _ rfl dX5_append_4 [.int z1] rfl ?_
  refine x_if_eq (tgt := 13) dX5_append_7 rfl (fun hc => ?_) (fun hc => ?_)
  · have h := x_t hc h
    refine x_aload_n dX5_append_13 rfl 0 rfl ?_
    refine x_getR (d1 := 4) (K1 := 23) (p1 := 0) (r1 := 0) fl_X5_30 ok_e20 rfl dX5_append_14 ?_
    refine x_getI fl_X5_262 ok_e23 rfl dX5_append_17 ?_
    refine x_bipush (x := 120) dX5_append_20 rfl ?_
    refine x_icmp_lt (tgt := 28) dX5_append_22 rfl (fun hc => ?_) (fun hc => ?_)
    · have h := x_t hc h
      refine x_aload_n dX5_append_28 rfl 0 rfl ?_
      refine x_getR (d1 := 4) (K1 := 23) (p1 := 0) (r1 := 0) fl_X5_30 ok_e20 rfl dX5_append_29 ?_
      refine x_getR (d1 := 4) (K1 := 24) (p1 := 0) (r1 := 0) fl_X5_263 ok_e23 rfl dX5_append_32 ?_
      refine x_aload_n dX5_append_35 rfl 0 rfl ?_
      refine x_getR (d1 := 4) (K1 := 23) (p1 := 0) (r1 := 0) fl_X5_30 ok_e20 rfl dX5_append_36 ?_
      refine x_getI fl_X5_262 ok_e23 rfl dX5_append_39 ?_
      refine x_iload_n dX5_append_42 rfl 1 rfl ?_
      obtain ⟨t2, ht2, h⟩ := x_let_e h
      refine x_nm2 t2 ht2 ?_
      obtain ⟨hg3, h⟩ := x_g_e h
      obtain ⟨s4, hs4, h⟩ := x_let_e h
      refine x_iast 120 t2.toNatClampNeg rfl s4 hs4 rfl rfl rfl ok_e24 hg3 dX5_append_43 ?_
      refine x_aload_n dX5_append_44 rfl 0 rfl ?_
      refine x_getR (d1 := 4) (K1 := 23) (p1 := 0) (r1 := 0) fl_X5_30 ok_e20 rfl dX5_append_45 ?_
      refine x_dup dX5_append_48 rfl ?_
      refine x_getI fl_X5_262 ok_e23 rfl dX5_append_49 ?_
      refine x_iconst (x := 1) dX5_append_52 rfl ?_
      refine x_iadd dX5_append_53 ?_
      obtain ⟨s5, hs5, h⟩ := x_let_e h
      refine x_putI s5 hs5 fp_X5_262 ok_e23 rfl dX5_append_54 ?_
      refine x_aload_n dX5_append_57 rfl 0 rfl ?_
      refine x_getR (d1 := 4) (K1 := 23) (p1 := 0) (r1 := 0) fl_X5_30 ok_e20 rfl dX5_append_58 ?_
      refine x_getI fl_X5_262 ok_e23 rfl dX5_append_61 ?_
      exact x_iretH rfl dX5_append_64 h
    · have h := x_f hc h
      refine x_bipush (x := (-3)) dX5_append_25 (by decide) ?_
      exact x_iretH rfl dX5_append_27 h
  · have h := x_f hc h
    refine x_bipush (x := (-2)) dX5_append_10 (by decide) ?_
    exact x_iretH rfl dX5_append_12 h
def fX5_clearText (σ : xS) : Option (Int32 × xS) :=
  x_let (σ 4 23 0 0 1) fun t1 => x_let (x_set σ 4 23 0 0 1 0) fun s2 => some (t1, s2)
set_option maxRecDepth 100000 in
set_option maxHeartbeats 4000000 in
theorem eX5_clearText {l : Launch} {w : xW} {σ τ : xS} {r : Int32} (h : fX5_clearText σ = some (r, τ)) : xEV l w yX5_clearText mX5_clearText [.ref (w.2.2 4 20 0 0)] σ (some (.int r)) τ := by
  rw [fX5_clearText] at h
  refine x_enter (by decide +kernel) rfl (Nat.le_of_ble_eq_true rfl) ?_
  refine x_sub (L1 := [(0, .ref (w.2.2 4 20 0 0))]) [0] rfl ?_
  refine x_aload_n dX5_clearText_0 rfl 0 rfl ?_
  refine x_getR (d1 := 4) (K1 := 23) (p1 := 0) (r1 := 0) fl_X5_30 ok_e20 rfl dX5_clearText_1 ?_
  refine x_getI fl_X5_262 ok_e23 rfl dX5_clearText_4 ?_
  obtain ⟨t1, ht1, h⟩ := x_let_e h
  refine x_istore_n t1 ht1 dX5_clearText_7 rfl (Nat.le_of_ble_eq_true rfl) [(1, .int t1), (0, .ref (w.2.2 4 20 0 0))] rfl ?_
  refine x_aload_n dX5_clearText_8 rfl 1 rfl ?_
  refine x_getR (d1 := 4) (K1 := 23) (p1 := 0) (r1 := 0) fl_X5_30 ok_e20 rfl dX5_clearText_9 ?_
  refine x_iconst (x := 0) dX5_clearText_12 rfl ?_
  obtain ⟨s2, hs2, h⟩ := x_let_e h
  refine x_putI s2 hs2 fp_X5_262 ok_e23 rfl dX5_clearText_13 ?_
  refine x_iload_n dX5_clearText_16 rfl 0 rfl ?_
  exact x_iretH rfl dX5_clearText_17 h
def fX5_faultPosition (σ : xS) : Option (Int32 × xS) :=
  x_b (fX4_findFault (σ 0 0 0 0 2) σ) fun z1 s1 => if z1 = (-1) then (some ((-5), s1)) else (some (z1, s1))
set_option maxRecDepth 100000 in
set_option maxHeartbeats 4000000 in
theorem eX5_faultPosition {l : Launch} {w : xW} {σ τ : xS} {r : Int32} (h : fX5_faultPosition σ = some (r, τ)) : xEV l w yX5_faultPosition mX5_faultPosition [.ref (w.2.2 4 20 0 0)] σ (some (.int r)) τ := by
  rw [fX5_faultPosition] at h
  refine x_enter (by decide +kernel) rfl (Nat.le_of_ble_eq_true rfl) ?_
  refine x_sub (L1 := [(0, .ref (w.2.2 4 20 0 0))]) [0] rfl ?_
  refine x_aload_n dX5_faultPosition_0 rfl 0 rfl ?_
  refine x_getR (d1 := 4) (K1 := 23) (p1 := 0) (r1 := 0) fl_X5_30 ok_e20 rfl dX5_faultPosition_1 ?_
  refine x_aload_n dX5_faultPosition_4 rfl 0 rfl ?_
  refine x_getR (d1 := 0) (K1 := 0) (p1 := 0) (r1 := 0) fl_X5_10 ok_e20 rfl dX5_faultPosition_5 ?_
  refine x_getI fl_X5_140 (ok_a (K := 0) (Nat.le_of_ble_eq_true rfl) (Nat.le_of_ble_eq_true rfl)) rfl dX5_faultPosition_8 ?_
  obtain ⟨z1, s1, h1, h⟩ := x_b_e h
  refine x_callV (As := [.int (σ 0 0 0 0 2)]) (st := []) (eX4_findFault  h1) cv_X5_266 (Nat.le_of_ble_eq_true rfl) ok_e23 rfl (Nat.le_of_ble_eq_true rfl) _ rfl dX5_faultPosition_11 [.int z1] rfl ?_
  refine x_istore_n z1 rfl dX5_faultPosition_14 rfl (Nat.le_of_ble_eq_true rfl) [(1, .int z1), (0, .ref (w.2.2 4 20 0 0))] rfl ?_
  refine x_iload_n dX5_faultPosition_15 rfl 0 rfl ?_
  refine x_iconst (x := (-1)) dX5_faultPosition_16 (by decide) ?_
  refine x_icmp_ne (tgt := 25) dX5_faultPosition_17 rfl (fun hc => ?_) (fun hc => ?_)
  · have h := x_f hc h
    refine x_iload_n dX5_faultPosition_25 rfl 0 rfl ?_
    exact x_iretH rfl dX5_faultPosition_26 h
  · have h := x_t hc h
    refine x_bipush (x := (-5)) dX5_faultPosition_20 (by decide) ?_
    refine x_goto (tgt := 26) dX5_faultPosition_22 rfl ?_
    exact x_iretH rfl dX5_faultPosition_26 h
