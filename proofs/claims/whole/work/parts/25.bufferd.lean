def BX5_run_216 (a2 : Int32) (a3 : Int32) (o4 : Option (Nat × Nat)) (k37 : Int32 → Int32 → xS → Option (Int32 × xS)) (σ : xS) : Option (Int32 × xS) :=
  match o4 with | none => (if (σ 4 23 0 0 4) = 103 then (x_let (a3 + 1) fun t7 => k37 a2 t7 σ) else (x_let (a3 + 1) fun t6 => k37 a2 t6 σ)) | some w4 => x_g (ok2 w4) (if (σ 4 23 0 0 4) = 103 then (x_b (fX0_giveGrant 0 w4.1 w4.2 (σ 4 23 0 0 5) (σ 4 23 0 0 7) σ) fun z9 s9 => x_let (a3 + 1) fun t10 => k37 a2 t10 s9) else (x_let (a3 + 1) fun t8 => k37 a2 t8 σ))
set_option maxRecDepth 100000 in
set_option maxHeartbeats 4000000 in
theorem TX5_run_216 {l : Launch} {w : xW} {a2 : Int32} {a3 : Int32} {o4 : Option (Nat × Nat)} {k37 : Int32 → Int32 → xS → Option (Int32 × xS)} {σ τ : xS} {r : Int32} (hk37 : ∀ (a2 : Int32) (a3 : Int32) (σ1 : xS), k37 a2 a3 σ1 = some (r, τ) → xAt l w mX5_run 37 [(0, .ref (w.2.2 4 20 0 0)), (2, .int a2), (3, .int a3)] [] σ1 (some (.int r)) τ) (h : BX5_run_216 a2 a3 o4 k37 σ = some (r, τ)) : xAt l w mX5_run 216 [(0, .ref (w.2.2 4 20 0 0)), (2, .int a2), (3, .int a3), (4, x_nvP w o4)] [] σ (some (.int r)) τ := by
  rw [BX5_run_216.eq_def] at h
  rcases o4 with _ | w4
  · refine x_sub (L1 := [(0, .ref (w.2.2 4 20 0 0)), (2, .int a2), (3, .int a3), (4, .null)]) [0, 1, 2, 3] rfl ?_
    refine x_aload_n dX5_run_216 rfl 0 rfl ?_
    refine x_getR (d1 := 4) (K1 := 23) (p1 := 0) (r1 := 0) fl_X5_30 ok_e20 rfl dX5_run_217 ?_
    refine x_getI fl_X5_282 ok_e23 rfl dX5_run_220 ?_
    refine x_bipush (x := 103) dX5_run_223 rfl ?_
    refine x_icmp_ne (tgt := 257) dX5_run_225 rfl (fun hc => ?_) (fun hc => ?_)
    · have h := x_f hc h
      obtain ⟨t6, ht6, h⟩ := x_let_e h
      refine x_iinc t6 1 rfl ht6 dX5_run_257 2 rfl (Nat.le_of_ble_eq_true rfl) [(3, .int t6), (0, .ref (w.2.2 4 20 0 0)), (2, .int a2), (4, .null)] rfl ?_
      refine x_goto (tgt := 37) dX5_run_260 rfl ?_
      refine x_sub (L1 := [(0, .ref (w.2.2 4 20 0 0)), (2, .int a2), (3, .int t6)]) [1, 2, 0] rfl ?_
      exact hk37 _ _ _ h
    · have h := x_t hc h
      refine x_aloadN dX5_run_228 3 rfl ?_
      refine x_ifnullN (tgt := 257) dX5_run_230 rfl ?_
      obtain ⟨t7, ht7, h⟩ := x_let_e h
      refine x_iinc t7 1 rfl ht7 dX5_run_257 2 rfl (Nat.le_of_ble_eq_true rfl) [(3, .int t7), (0, .ref (w.2.2 4 20 0 0)), (2, .int a2), (4, .null)] rfl ?_
      refine x_goto (tgt := 37) dX5_run_260 rfl ?_
      refine x_sub (L1 := [(0, .ref (w.2.2 4 20 0 0)), (2, .int a2), (3, .int t7)]) [1, 2, 0] rfl ?_
      exact hk37 _ _ _ h
  · obtain ⟨hw4, h⟩ := x_g_e h
    refine x_sub (L1 := [(0, .ref (w.2.2 4 20 0 0)), (2, .int a2), (3, .int a3), (4, .ref (w.2.2 w4.1 13 w4.2 0))]) [0, 1, 2, 3] rfl ?_
    refine x_aload_n dX5_run_216 rfl 0 rfl ?_
    refine x_getR (d1 := 4) (K1 := 23) (p1 := 0) (r1 := 0) fl_X5_30 ok_e20 rfl dX5_run_217 ?_
    refine x_getI fl_X5_282 ok_e23 rfl dX5_run_220 ?_
    refine x_bipush (x := 103) dX5_run_223 rfl ?_
    refine x_icmp_ne (tgt := 257) dX5_run_225 rfl (fun hc => ?_) (fun hc => ?_)
    · have h := x_f hc h
      obtain ⟨t8, ht8, h⟩ := x_let_e h
      refine x_iinc t8 1 rfl ht8 dX5_run_257 2 rfl (Nat.le_of_ble_eq_true rfl) [(3, .int t8), (0, .ref (w.2.2 4 20 0 0)), (2, .int a2), (4, .ref (w.2.2 w4.1 13 w4.2 0))] rfl ?_
      refine x_goto (tgt := 37) dX5_run_260 rfl ?_
      refine x_sub (L1 := [(0, .ref (w.2.2 4 20 0 0)), (2, .int a2), (3, .int t8)]) [1, 2, 0] rfl ?_
      exact hk37 _ _ _ h
    · have h := x_t hc h
      refine x_aload dX5_run_228 3 rfl ?_
      refine x_ifnullR dX5_run_230 ?_
      refine x_aload_n dX5_run_233 rfl 0 rfl ?_
      refine x_getR (d1 := 0) (K1 := 0) (p1 := 0) (r1 := 0) fl_X5_10 ok_e20 rfl dX5_run_234 ?_
      refine x_aload dX5_run_237 3 rfl ?_
      refine x_aload_n dX5_run_239 rfl 0 rfl ?_
      refine x_getR (d1 := 4) (K1 := 23) (p1 := 0) (r1 := 0) fl_X5_30 ok_e20 rfl dX5_run_240 ?_
      refine x_getI fl_X5_279 ok_e23 rfl dX5_run_243 ?_
      refine x_aload_n dX5_run_246 rfl 0 rfl ?_
      refine x_getR (d1 := 4) (K1 := 23) (p1 := 0) (r1 := 0) fl_X5_30 ok_e20 rfl dX5_run_247 ?_
      refine x_getI fl_X5_288 ok_e23 rfl dX5_run_250 ?_
      obtain ⟨z9, s9, h9, h⟩ := x_b_e h
      refine x_callV (As := [.ref (w.2.2 w4.1 13 w4.2 0), .int (σ 4 23 0 0 5), .int (σ 4 23 0 0 7)]) (st := []) (eX0_giveGrant (Nat.le_of_ble_eq_true rfl) (ok2_d hw4) (ok2_p hw4) h9) cv_X5_118 (Nat.le_of_ble_eq_true rfl) (ok_a (K := 0) (Nat.le_of_ble_eq_true rfl) (Nat.le_of_ble_eq_true rfl)) rfl (Nat.le_of_ble_eq_true rfl) _ rfl dX5_run_253 [.int z9] rfl ?_
      refine x_pop dX5_run_256 rfl ?_
      obtain ⟨t10, ht10, h⟩ := x_let_e h
      refine x_iinc t10 1 rfl ht10 dX5_run_257 2 rfl (Nat.le_of_ble_eq_true rfl) [(3, .int t10), (0, .ref (w.2.2 4 20 0 0)), (2, .int a2), (4, .ref (w.2.2 w4.1 13 w4.2 0))] rfl ?_
      refine x_goto (tgt := 37) dX5_run_260 rfl ?_
      refine x_sub (L1 := [(0, .ref (w.2.2 4 20 0 0)), (2, .int a2), (3, .int t10)]) [1, 2, 0] rfl ?_
      exact hk37 _ _ _ h
def BX5_run_157 (a2 : Int32) (a3 : Int32) (k37 : Int32 → Int32 → xS → Option (Int32 × xS)) : Nat → Int32 → xS → Option (Int32 × xS)
  | 0, _, _ => none
  | n + 1, a5, σ => if (σ 4 23 0 0 7) ≤ a5 then (x_let (a3 + 1) fun t11 => k37 a2 t11 σ) else (x_b (fX0_passTick 0 σ) fun z12 s12 => x_let (a5 + 1) fun t13 => (BX5_run_157 a2 a3 k37 n) t13 s12)
set_option maxRecDepth 100000 in
set_option maxHeartbeats 4000000 in
theorem TX5_run_157 {l : Launch} {w : xW} {a2 : Int32} {a3 : Int32} {k37 : Int32 → Int32 → xS → Option (Int32 × xS)} {τ : xS} {r : Int32} (hk37 : ∀ (a2 : Int32) (a3 : Int32) (σ1 : xS), k37 a2 a3 σ1 = some (r, τ) → xAt l w mX5_run 37 [(0, .ref (w.2.2 4 20 0 0)), (2, .int a2), (3, .int a3)] [] σ1 (some (.int r)) τ) : ∀ (n : Nat) (a5 : Int32) (σ : xS), BX5_run_157 a2 a3 k37 n a5 σ = some (r, τ) → xAt l w mX5_run 157 [(0, .ref (w.2.2 4 20 0 0)), (2, .int a2), (3, .int a3), (5, .int a5)] [] σ (some (.int r)) τ := by
  intro n
  induction n with
  | zero => intro a5 σ h; cases h
  | succ n ih =>
    intro a5 σ h
    rw [BX5_run_157] at h
    refine x_iload dX5_run_157 3 rfl ?_
    refine x_aload_n dX5_run_159 rfl 0 rfl ?_
    refine x_getR (d1 := 4) (K1 := 23) (p1 := 0) (r1 := 0) fl_X5_30 ok_e20 rfl dX5_run_160 ?_
    refine x_getI fl_X5_288 ok_e23 rfl dX5_run_163 ?_
    refine x_icmp_ge (tgt := 183) dX5_run_166 rfl (fun hc => ?_) (fun hc => ?_)
    · have h := x_t hc h
      refine x_goto (tgt := 257) dX5_run_183 rfl ?_
      obtain ⟨t11, ht11, h⟩ := x_let_e h
      refine x_iinc t11 1 rfl ht11 dX5_run_257 2 rfl (Nat.le_of_ble_eq_true rfl) [(3, .int t11), (0, .ref (w.2.2 4 20 0 0)), (2, .int a2), (5, .int a5)] rfl ?_
      refine x_goto (tgt := 37) dX5_run_260 rfl ?_
      refine x_sub (L1 := [(0, .ref (w.2.2 4 20 0 0)), (2, .int a2), (3, .int t11)]) [1, 2, 0] rfl ?_
      exact hk37 _ _ _ h
    · have h := x_f hc h
      refine x_aload_n dX5_run_169 rfl 0 rfl ?_
      refine x_getR (d1 := 0) (K1 := 0) (p1 := 0) (r1 := 0) fl_X5_10 ok_e20 rfl dX5_run_170 ?_
      obtain ⟨z12, s12, h12, h⟩ := x_b_e h
      refine x_callV (As := []) (st := []) (eX0_passTick (Nat.le_of_ble_eq_true rfl) h12) cv_X5_133 (Nat.le_of_ble_eq_true rfl) (ok_a (K := 0) (Nat.le_of_ble_eq_true rfl) (Nat.le_of_ble_eq_true rfl)) rfl (Nat.le_of_ble_eq_true rfl) _ rfl dX5_run_173 [.int z12] rfl ?_
      refine x_pop dX5_run_176 rfl ?_
      obtain ⟨t13, ht13, h⟩ := x_let_e h
      refine x_iinc t13 1 rfl ht13 dX5_run_177 3 rfl (Nat.le_of_ble_eq_true rfl) [(5, .int t13), (0, .ref (w.2.2 4 20 0 0)), (2, .int a2), (3, .int a3)] rfl ?_
      refine x_goto (tgt := 157) dX5_run_180 rfl ?_
      refine x_sub (L1 := [(0, .ref (w.2.2 4 20 0 0)), (2, .int a2), (3, .int a3), (5, .int t13)]) [1, 2, 3, 0] rfl ?_
      exact ih _ _ h
def BX5_run_37 : Nat → Int32 → Int32 → xS → Option (Int32 × xS)
  | 0, _, _, _ => none
  | n + 1, a2, a3, σ => if 120 ≤ a3 then (some (a2, σ)) else (x_b (fX4_hasMore  σ) fun z3 s3 => if z3 = 0 then (some (a2, s3)) else (x_b (fX4_readOrder (s3 0 0 0 0 2) s3) fun z4 s4 => x_b (fX0_portAt 0 (s4 4 23 0 0 5) s4) fun z5 s5 => match z5 with | none => (if (s5 4 23 0 0 4) = 97 then (x_b (fX0_queueAt 0 (s5 4 23 0 0 5) (s5 4 23 0 0 6) s5) fun z14 s14 => match z14 with | none => (x_b (fX5_lossOfArrivals none none (s14 4 23 0 0 7) (s14 4 23 0 0 8) s14) fun z15 s15 => x_let (a2 + z15) fun t16 => x_let (a3 + 1) fun t17 => (BX5_run_37 n) t16 t17 s15) | some t14 => x_g (ok3 t14) (x_b (fX5_lossOfArrivals none (some (t14.1, t14.2.1, t14.2.2)) (s14 4 23 0 0 7) (s14 4 23 0 0 8) s14) fun z18 s18 => x_let (a2 + z18) fun t19 => x_let (a3 + 1) fun t20 => (BX5_run_37 n) t19 t20 s18)) else (if (s5 4 23 0 0 4) = 116 then (BX5_run_157 a2 a3 (BX5_run_37 n) x_FU 0 s5) else (if (s5 4 23 0 0 4) = 102 then (BX5_run_216 a2 a3 none (BX5_run_37 n) s5) else (BX5_run_216 a2 a3 none (BX5_run_37 n) s5)))) | some t5 => x_g (ok2 t5) (if (s5 4 23 0 0 4) = 97 then (x_b (fX0_queueAt 0 (s5 4 23 0 0 5) (s5 4 23 0 0 6) s5) fun z23 s23 => match z23 with | none => (x_b (fX5_lossOfArrivals (some (t5.1, t5.2)) none (s23 4 23 0 0 7) (s23 4 23 0 0 8) s23) fun z24 s24 => x_let (a2 + z24) fun t25 => x_let (a3 + 1) fun t26 => (BX5_run_37 n) t25 t26 s24) | some t23 => x_g (ok3 t23) (x_b (fX5_lossOfArrivals (some (t5.1, t5.2)) (some (t23.1, t23.2.1, t23.2.2)) (s23 4 23 0 0 7) (s23 4 23 0 0 8) s23) fun z27 s27 => x_let (a2 + z27) fun t28 => x_let (a3 + 1) fun t29 => (BX5_run_37 n) t28 t29 s27)) else (if (s5 4 23 0 0 4) = 116 then (BX5_run_157 a2 a3 (BX5_run_37 n) x_FU 0 s5) else (if (s5 4 23 0 0 4) = 102 then (x_b (fX0_discardAll 0 t5.1 t5.2 s5) fun z21 s21 => x_let (a3 + 1) fun t22 => (BX5_run_37 n) a2 t22 s21) else (BX5_run_216 a2 a3 (some (t5.1, t5.2)) (BX5_run_37 n) s5))))))
set_option maxRecDepth 100000 in
set_option maxHeartbeats 4000000 in
theorem TX5_run_37 {l : Launch} {w : xW} {τ : xS} {r : Int32} : ∀ (n : Nat) (a2 : Int32) (a3 : Int32) (σ : xS), BX5_run_37 n a2 a3 σ = some (r, τ) → xAt l w mX5_run 37 [(0, .ref (w.2.2 4 20 0 0)), (2, .int a2), (3, .int a3)] [] σ (some (.int r)) τ := by
  intro n
  induction n with
  | zero => intro a2 a3 σ h; cases h
  | succ n ih =>
    intro a2 a3 σ h
    rw [BX5_run_37] at h
    refine x_iload_n dX5_run_37 rfl 2 rfl ?_
    refine x_bipush (x := 120) dX5_run_38 rfl ?_
    refine x_icmp_ge (tgt := 263) dX5_run_40 rfl (fun hc => ?_) (fun hc => ?_)
    · have h := x_t hc h
      refine x_iload_n dX5_run_263 rfl 1 rfl ?_
      exact x_iretH rfl dX5_run_264 h
    · have h := x_f hc h
      refine x_aload_n dX5_run_43 rfl 0 rfl ?_
      refine x_getR (d1 := 4) (K1 := 23) (p1 := 0) (r1 := 0) fl_X5_30 ok_e20 rfl dX5_run_44 ?_
      obtain ⟨z3, s3, h3, h⟩ := x_b_e h
      refine x_callV (As := []) (st := []) (eX4_hasMore  h3) cv_X5_272 (Nat.le_of_ble_eq_true rfl) ok_e23 rfl (Nat.le_of_ble_eq_true rfl) _ rfl dX5_run_47 [.int z3] rfl ?_
      refine x_if_eq (tgt := 263) dX5_run_50 rfl (fun hc => ?_) (fun hc => ?_)
      · have h := x_t hc h
        refine x_iload_n dX5_run_263 rfl 1 rfl ?_
        exact x_iretH rfl dX5_run_264 h
      · have h := x_f hc h
        refine x_aload_n dX5_run_53 rfl 0 rfl ?_
        refine x_getR (d1 := 4) (K1 := 23) (p1 := 0) (r1 := 0) fl_X5_30 ok_e20 rfl dX5_run_54 ?_
        refine x_aload_n dX5_run_57 rfl 0 rfl ?_
        refine x_getR (d1 := 0) (K1 := 0) (p1 := 0) (r1 := 0) fl_X5_10 ok_e20 rfl dX5_run_58 ?_
        refine x_getI fl_X5_140 (ok_a (K := 0) (Nat.le_of_ble_eq_true rfl) (Nat.le_of_ble_eq_true rfl)) rfl dX5_run_61 ?_
        obtain ⟨z4, s4, h4, h⟩ := x_b_e h
        refine x_callV (As := [.int (s3 0 0 0 0 2)]) (st := []) (eX4_readOrder  h4) cv_X5_275 (Nat.le_of_ble_eq_true rfl) ok_e23 rfl (Nat.le_of_ble_eq_true rfl) _ rfl dX5_run_64 [] rfl ?_
        refine x_aload_n dX5_run_67 rfl 0 rfl ?_
        refine x_getR (d1 := 0) (K1 := 0) (p1 := 0) (r1 := 0) fl_X5_10 ok_e20 rfl dX5_run_68 ?_
        refine x_aload_n dX5_run_71 rfl 0 rfl ?_
        refine x_getR (d1 := 4) (K1 := 23) (p1 := 0) (r1 := 0) fl_X5_30 ok_e20 rfl dX5_run_72 ?_
        refine x_getI fl_X5_279 ok_e23 rfl dX5_run_75 ?_
        obtain ⟨z5, s5, h5, h⟩ := x_b_e h
        refine x_callV (As := [.int (s4 4 23 0 0 5)]) (st := []) (eX0_portAt (Nat.le_of_ble_eq_true rfl) h5) cv_X5_52 (Nat.le_of_ble_eq_true rfl) (ok_a (K := 0) (Nat.le_of_ble_eq_true rfl) (Nat.le_of_ble_eq_true rfl)) rfl (Nat.le_of_ble_eq_true rfl) _ rfl dX5_run_78 [x_nvP w z5] rfl ?_
        rcases z5 with _ | t5
        · refine x_st [.null] rfl ?_
          refine x_astoreN dX5_run_81 (Nat.le_of_ble_eq_true rfl) [(4, .null), (0, .ref (w.2.2 4 20 0 0)), (2, .int a2), (3, .int a3)] rfl ?_
          refine x_aload_n dX5_run_83 rfl 1 rfl ?_
          refine x_getR (d1 := 4) (K1 := 23) (p1 := 0) (r1 := 0) fl_X5_30 ok_e20 rfl dX5_run_84 ?_
          refine x_getI fl_X5_282 ok_e23 rfl dX5_run_87 ?_
          refine x_bipush (x := 97) dX5_run_90 rfl ?_
          refine x_icmp_ne (tgt := 142) dX5_run_92 rfl (fun hc => ?_) (fun hc => ?_)
          · have h := x_f hc h
            refine x_aload_n dX5_run_142 rfl 1 rfl ?_
            refine x_getR (d1 := 4) (K1 := 23) (p1 := 0) (r1 := 0) fl_X5_30 ok_e20 rfl dX5_run_143 ?_
            refine x_getI fl_X5_282 ok_e23 rfl dX5_run_146 ?_
            refine x_bipush (x := 116) dX5_run_149 rfl ?_
            refine x_icmp_ne (tgt := 186) dX5_run_151 rfl (fun hc => ?_) (fun hc => ?_)
            · have h := x_f hc h
              refine x_aload_n dX5_run_186 rfl 1 rfl ?_
              refine x_getR (d1 := 4) (K1 := 23) (p1 := 0) (r1 := 0) fl_X5_30 ok_e20 rfl dX5_run_187 ?_
              refine x_getI fl_X5_282 ok_e23 rfl dX5_run_190 ?_
              refine x_bipush (x := 102) dX5_run_193 rfl ?_
              refine x_icmp_ne (tgt := 216) dX5_run_195 rfl (fun hc => ?_) (fun hc => ?_)
              · have h := x_f hc h
                refine x_sub (L1 := [(0, .ref (w.2.2 4 20 0 0)), (2, .int a2), (3, .int a3), (4, .null)]) [1, 2, 3, 0] rfl ?_
                exact TX5_run_216 (o4 := none) ih h
              · have h := x_t hc h
                refine x_aloadN dX5_run_198 0 rfl ?_
                refine x_ifnullN (tgt := 216) dX5_run_200 rfl ?_
                refine x_sub (L1 := [(0, .ref (w.2.2 4 20 0 0)), (2, .int a2), (3, .int a3), (4, .null)]) [1, 2, 3, 0] rfl ?_
                exact TX5_run_216 (o4 := none) ih h
            · have h := x_t hc h
              refine x_iconst (x := 0) dX5_run_154 rfl ?_
              refine x_istore 0 rfl dX5_run_155 (Nat.le_of_ble_eq_true rfl) [(5, .int 0), (4, .null), (0, .ref (w.2.2 4 20 0 0)), (2, .int a2), (3, .int a3)] rfl ?_
              refine x_sub (L1 := [(0, .ref (w.2.2 4 20 0 0)), (2, .int a2), (3, .int a3), (5, .int 0)]) [2, 3, 4, 0] rfl ?_
              exact TX5_run_157 ih _ _ _ h
          · have h := x_t hc h
            refine x_iload_n dX5_run_95 rfl 2 rfl ?_
            refine x_aload_n dX5_run_96 rfl 1 rfl ?_
            refine x_aloadN dX5_run_97 0 rfl ?_
            refine x_aload_n dX5_run_99 rfl 1 rfl ?_
            refine x_getR (d1 := 0) (K1 := 0) (p1 := 0) (r1 := 0) fl_X5_10 ok_e20 rfl dX5_run_100 ?_
            refine x_aload_n dX5_run_103 rfl 1 rfl ?_
            refine x_getR (d1 := 4) (K1 := 23) (p1 := 0) (r1 := 0) fl_X5_30 ok_e20 rfl dX5_run_104 ?_
            refine x_getI fl_X5_279 ok_e23 rfl dX5_run_107 ?_
            refine x_aload_n dX5_run_110 rfl 1 rfl ?_
            refine x_getR (d1 := 4) (K1 := 23) (p1 := 0) (r1 := 0) fl_X5_30 ok_e20 rfl dX5_run_111 ?_
            refine x_getI fl_X5_285 ok_e23 rfl dX5_run_114 ?_
            obtain ⟨z14, s14, h14, h⟩ := x_b_e h
            refine x_callV (As := [.int (s5 4 23 0 0 5), .int (s5 4 23 0 0 6)]) (st := [.null, .ref (w.2.2 4 20 0 0), .int a2]) (eX0_queueAt (Nat.le_of_ble_eq_true rfl) h14) cv_X5_74 (Nat.le_of_ble_eq_true rfl) (ok_a (K := 0) (Nat.le_of_ble_eq_true rfl) (Nat.le_of_ble_eq_true rfl)) rfl (Nat.le_of_ble_eq_true rfl) _ rfl dX5_run_117 [x_nvQ w z14, .null, .ref (w.2.2 4 20 0 0), .int a2] rfl ?_
            rcases z14 with _ | t14
            · refine x_st [.null, .null, .ref (w.2.2 4 20 0 0), .int a2] rfl ?_
              refine x_aload_n dX5_run_120 rfl 1 rfl ?_
              refine x_getR (d1 := 4) (K1 := 23) (p1 := 0) (r1 := 0) fl_X5_30 ok_e20 rfl dX5_run_121 ?_
              refine x_getI fl_X5_288 ok_e23 rfl dX5_run_124 ?_
              refine x_aload_n dX5_run_127 rfl 1 rfl ?_
              refine x_getR (d1 := 4) (K1 := 23) (p1 := 0) (r1 := 0) fl_X5_30 ok_e20 rfl dX5_run_128 ?_
              refine x_getI fl_X5_291 ok_e23 rfl dX5_run_131 ?_
              obtain ⟨z15, s15, h15, h⟩ := x_b_e h
              refine x_callV (As := [.null, .null, .int (s14 4 23 0 0 7), .int (s14 4 23 0 0 8)]) (st := [.int a2]) (eX5_lossOfArrivals (o1 := none) (o2 := none)  h15) cv_X5_157 (Nat.le_of_ble_eq_true rfl) ok_e20 rfl (Nat.le_of_ble_eq_true rfl) _ rfl dX5_run_134 [.int z15, .int a2] rfl ?_
              refine x_iadd dX5_run_137 ?_
              obtain ⟨t16, ht16, h⟩ := x_let_e h
              refine x_istore_n t16 ht16 dX5_run_138 rfl (Nat.le_of_ble_eq_true rfl) [(2, .int t16), (4, .null), (0, .ref (w.2.2 4 20 0 0)), (3, .int a3)] rfl ?_
              refine x_goto (tgt := 257) dX5_run_139 rfl ?_
              obtain ⟨t17, ht17, h⟩ := x_let_e h
              refine x_iinc t17 1 rfl ht17 dX5_run_257 3 rfl (Nat.le_of_ble_eq_true rfl) [(3, .int t17), (2, .int t16), (4, .null), (0, .ref (w.2.2 4 20 0 0))] rfl ?_
              refine x_goto (tgt := 37) dX5_run_260 rfl ?_
              refine x_sub (L1 := [(0, .ref (w.2.2 4 20 0 0)), (2, .int t16), (3, .int t17)]) [3, 1, 0] rfl ?_
              exact ih _ _ _ h
            · obtain ⟨hg14, h⟩ := x_g_e h
              refine x_st [.ref (w.2.2 t14.1 16 t14.2.1 t14.2.2), .null, .ref (w.2.2 4 20 0 0), .int a2] rfl ?_
              refine x_aload_n dX5_run_120 rfl 1 rfl ?_
              refine x_getR (d1 := 4) (K1 := 23) (p1 := 0) (r1 := 0) fl_X5_30 ok_e20 rfl dX5_run_121 ?_
              refine x_getI fl_X5_288 ok_e23 rfl dX5_run_124 ?_
              refine x_aload_n dX5_run_127 rfl 1 rfl ?_
              refine x_getR (d1 := 4) (K1 := 23) (p1 := 0) (r1 := 0) fl_X5_30 ok_e20 rfl dX5_run_128 ?_
              refine x_getI fl_X5_291 ok_e23 rfl dX5_run_131 ?_
              obtain ⟨z18, s18, h18, h⟩ := x_b_e h
              refine x_callV (As := [.null, .ref (w.2.2 t14.1 16 t14.2.1 t14.2.2), .int (s14 4 23 0 0 7), .int (s14 4 23 0 0 8)]) (st := [.int a2]) (eX5_lossOfArrivals (o1 := none) (o2 := (some (t14.1, t14.2.1, t14.2.2)))  h18) cv_X5_157 (Nat.le_of_ble_eq_true rfl) ok_e20 rfl (Nat.le_of_ble_eq_true rfl) _ rfl dX5_run_134 [.int z18, .int a2] rfl ?_
              refine x_iadd dX5_run_137 ?_
              obtain ⟨t19, ht19, h⟩ := x_let_e h
              refine x_istore_n t19 ht19 dX5_run_138 rfl (Nat.le_of_ble_eq_true rfl) [(2, .int t19), (4, .null), (0, .ref (w.2.2 4 20 0 0)), (3, .int a3)] rfl ?_
              refine x_goto (tgt := 257) dX5_run_139 rfl ?_
              obtain ⟨t20, ht20, h⟩ := x_let_e h
              refine x_iinc t20 1 rfl ht20 dX5_run_257 3 rfl (Nat.le_of_ble_eq_true rfl) [(3, .int t20), (2, .int t19), (4, .null), (0, .ref (w.2.2 4 20 0 0))] rfl ?_
              refine x_goto (tgt := 37) dX5_run_260 rfl ?_
              refine x_sub (L1 := [(0, .ref (w.2.2 4 20 0 0)), (2, .int t19), (3, .int t20)]) [3, 1, 0] rfl ?_
              exact ih _ _ _ h
        · obtain ⟨hg5, h⟩ := x_g_e h
          refine x_st [.ref (w.2.2 t5.1 13 t5.2 0)] rfl ?_
          refine x_astore dX5_run_81 (Nat.le_of_ble_eq_true rfl) [(4, .ref (w.2.2 t5.1 13 t5.2 0)), (0, .ref (w.2.2 4 20 0 0)), (2, .int a2), (3, .int a3)] rfl ?_
          refine x_aload_n dX5_run_83 rfl 1 rfl ?_
          refine x_getR (d1 := 4) (K1 := 23) (p1 := 0) (r1 := 0) fl_X5_30 ok_e20 rfl dX5_run_84 ?_
          refine x_getI fl_X5_282 ok_e23 rfl dX5_run_87 ?_
          refine x_bipush (x := 97) dX5_run_90 rfl ?_
          refine x_icmp_ne (tgt := 142) dX5_run_92 rfl (fun hc => ?_) (fun hc => ?_)
          · have h := x_f hc h
            refine x_aload_n dX5_run_142 rfl 1 rfl ?_
            refine x_getR (d1 := 4) (K1 := 23) (p1 := 0) (r1 := 0) fl_X5_30 ok_e20 rfl dX5_run_143 ?_
            refine x_getI fl_X5_282 ok_e23 rfl dX5_run_146 ?_
            refine x_bipush (x := 116) dX5_run_149 rfl ?_
            refine x_icmp_ne (tgt := 186) dX5_run_151 rfl (fun hc => ?_) (fun hc => ?_)
            · have h := x_f hc h
              refine x_aload_n dX5_run_186 rfl 1 rfl ?_
              refine x_getR (d1 := 4) (K1 := 23) (p1 := 0) (r1 := 0) fl_X5_30 ok_e20 rfl dX5_run_187 ?_
              refine x_getI fl_X5_282 ok_e23 rfl dX5_run_190 ?_
              refine x_bipush (x := 102) dX5_run_193 rfl ?_
              refine x_icmp_ne (tgt := 216) dX5_run_195 rfl (fun hc => ?_) (fun hc => ?_)
              · have h := x_f hc h
                refine x_sub (L1 := [(0, .ref (w.2.2 4 20 0 0)), (2, .int a2), (3, .int a3), (4, .ref (w.2.2 t5.1 13 t5.2 0))]) [1, 2, 3, 0] rfl ?_
                exact TX5_run_216 (o4 := (some (t5.1, t5.2))) ih h
              · have h := x_t hc h
                refine x_aload dX5_run_198 0 rfl ?_
                refine x_ifnullR dX5_run_200 ?_
                refine x_aload_n dX5_run_203 rfl 1 rfl ?_
                refine x_getR (d1 := 0) (K1 := 0) (p1 := 0) (r1 := 0) fl_X5_10 ok_e20 rfl dX5_run_204 ?_
                refine x_aload dX5_run_207 0 rfl ?_
                obtain ⟨z21, s21, h21, h⟩ := x_b_e h
                refine x_callV (As := [.ref (w.2.2 t5.1 13 t5.2 0)]) (st := []) (eX0_discardAll (Nat.le_of_ble_eq_true rfl) (ok2_d hg5) (ok2_p hg5) h21) cv_X5_136 (Nat.le_of_ble_eq_true rfl) (ok_a (K := 0) (Nat.le_of_ble_eq_true rfl) (Nat.le_of_ble_eq_true rfl)) rfl (Nat.le_of_ble_eq_true rfl) _ rfl dX5_run_209 [.int z21] rfl ?_
                refine x_pop dX5_run_212 rfl ?_
                refine x_goto (tgt := 257) dX5_run_213 rfl ?_
                obtain ⟨t22, ht22, h⟩ := x_let_e h
                refine x_iinc t22 1 rfl ht22 dX5_run_257 3 rfl (Nat.le_of_ble_eq_true rfl) [(3, .int t22), (4, .ref (w.2.2 t5.1 13 t5.2 0)), (0, .ref (w.2.2 4 20 0 0)), (2, .int a2)] rfl ?_
                refine x_goto (tgt := 37) dX5_run_260 rfl ?_
                refine x_sub (L1 := [(0, .ref (w.2.2 4 20 0 0)), (2, .int a2), (3, .int t22)]) [2, 3, 0] rfl ?_
                exact ih _ _ _ h
            · have h := x_t hc h
              refine x_iconst (x := 0) dX5_run_154 rfl ?_
              refine x_istore 0 rfl dX5_run_155 (Nat.le_of_ble_eq_true rfl) [(5, .int 0), (4, .ref (w.2.2 t5.1 13 t5.2 0)), (0, .ref (w.2.2 4 20 0 0)), (2, .int a2), (3, .int a3)] rfl ?_
              refine x_sub (L1 := [(0, .ref (w.2.2 4 20 0 0)), (2, .int a2), (3, .int a3), (5, .int 0)]) [2, 3, 4, 0] rfl ?_
              exact TX5_run_157 ih _ _ _ h
          · have h := x_t hc h
            refine x_iload_n dX5_run_95 rfl 2 rfl ?_
            refine x_aload_n dX5_run_96 rfl 1 rfl ?_
            refine x_aload dX5_run_97 0 rfl ?_
            refine x_aload_n dX5_run_99 rfl 1 rfl ?_
            refine x_getR (d1 := 0) (K1 := 0) (p1 := 0) (r1 := 0) fl_X5_10 ok_e20 rfl dX5_run_100 ?_
            refine x_aload_n dX5_run_103 rfl 1 rfl ?_
            refine x_getR (d1 := 4) (K1 := 23) (p1 := 0) (r1 := 0) fl_X5_30 ok_e20 rfl dX5_run_104 ?_
            refine x_getI fl_X5_279 ok_e23 rfl dX5_run_107 ?_
            refine x_aload_n dX5_run_110 rfl 1 rfl ?_
            refine x_getR (d1 := 4) (K1 := 23) (p1 := 0) (r1 := 0) fl_X5_30 ok_e20 rfl dX5_run_111 ?_
            refine x_getI fl_X5_285 ok_e23 rfl dX5_run_114 ?_
            obtain ⟨z23, s23, h23, h⟩ := x_b_e h
            refine x_callV (As := [.int (s5 4 23 0 0 5), .int (s5 4 23 0 0 6)]) (st := [.ref (w.2.2 t5.1 13 t5.2 0), .ref (w.2.2 4 20 0 0), .int a2]) (eX0_queueAt (Nat.le_of_ble_eq_true rfl) h23) cv_X5_74 (Nat.le_of_ble_eq_true rfl) (ok_a (K := 0) (Nat.le_of_ble_eq_true rfl) (Nat.le_of_ble_eq_true rfl)) rfl (Nat.le_of_ble_eq_true rfl) _ rfl dX5_run_117 [x_nvQ w z23, .ref (w.2.2 t5.1 13 t5.2 0), .ref (w.2.2 4 20 0 0), .int a2] rfl ?_
            rcases z23 with _ | t23
            · refine x_st [.null, .ref (w.2.2 t5.1 13 t5.2 0), .ref (w.2.2 4 20 0 0), .int a2] rfl ?_
              refine x_aload_n dX5_run_120 rfl 1 rfl ?_
              refine x_getR (d1 := 4) (K1 := 23) (p1 := 0) (r1 := 0) fl_X5_30 ok_e20 rfl dX5_run_121 ?_
              refine x_getI fl_X5_288 ok_e23 rfl dX5_run_124 ?_
              refine x_aload_n dX5_run_127 rfl 1 rfl ?_
              refine x_getR (d1 := 4) (K1 := 23) (p1 := 0) (r1 := 0) fl_X5_30 ok_e20 rfl dX5_run_128 ?_
              refine x_getI fl_X5_291 ok_e23 rfl dX5_run_131 ?_
              obtain ⟨z24, s24, h24, h⟩ := x_b_e h
              refine x_callV (As := [.ref (w.2.2 t5.1 13 t5.2 0), .null, .int (s23 4 23 0 0 7), .int (s23 4 23 0 0 8)]) (st := [.int a2]) (eX5_lossOfArrivals (o1 := (some (t5.1, t5.2))) (o2 := none)  h24) cv_X5_157 (Nat.le_of_ble_eq_true rfl) ok_e20 rfl (Nat.le_of_ble_eq_true rfl) _ rfl dX5_run_134 [.int z24, .int a2] rfl ?_
              refine x_iadd dX5_run_137 ?_
              obtain ⟨t25, ht25, h⟩ := x_let_e h
              refine x_istore_n t25 ht25 dX5_run_138 rfl (Nat.le_of_ble_eq_true rfl) [(2, .int t25), (4, .ref (w.2.2 t5.1 13 t5.2 0)), (0, .ref (w.2.2 4 20 0 0)), (3, .int a3)] rfl ?_
              refine x_goto (tgt := 257) dX5_run_139 rfl ?_
              obtain ⟨t26, ht26, h⟩ := x_let_e h
              refine x_iinc t26 1 rfl ht26 dX5_run_257 3 rfl (Nat.le_of_ble_eq_true rfl) [(3, .int t26), (2, .int t25), (4, .ref (w.2.2 t5.1 13 t5.2 0)), (0, .ref (w.2.2 4 20 0 0))] rfl ?_
              refine x_goto (tgt := 37) dX5_run_260 rfl ?_
              refine x_sub (L1 := [(0, .ref (w.2.2 4 20 0 0)), (2, .int t25), (3, .int t26)]) [3, 1, 0] rfl ?_
              exact ih _ _ _ h
            · obtain ⟨hg23, h⟩ := x_g_e h
              refine x_st [.ref (w.2.2 t23.1 16 t23.2.1 t23.2.2), .ref (w.2.2 t5.1 13 t5.2 0), .ref (w.2.2 4 20 0 0), .int a2] rfl ?_
              refine x_aload_n dX5_run_120 rfl 1 rfl ?_
              refine x_getR (d1 := 4) (K1 := 23) (p1 := 0) (r1 := 0) fl_X5_30 ok_e20 rfl dX5_run_121 ?_
              refine x_getI fl_X5_288 ok_e23 rfl dX5_run_124 ?_
              refine x_aload_n dX5_run_127 rfl 1 rfl ?_
              refine x_getR (d1 := 4) (K1 := 23) (p1 := 0) (r1 := 0) fl_X5_30 ok_e20 rfl dX5_run_128 ?_
              refine x_getI fl_X5_291 ok_e23 rfl dX5_run_131 ?_
              obtain ⟨z27, s27, h27, h⟩ := x_b_e h
              refine x_callV (As := [.ref (w.2.2 t5.1 13 t5.2 0), .ref (w.2.2 t23.1 16 t23.2.1 t23.2.2), .int (s23 4 23 0 0 7), .int (s23 4 23 0 0 8)]) (st := [.int a2]) (eX5_lossOfArrivals (o1 := (some (t5.1, t5.2))) (o2 := (some (t23.1, t23.2.1, t23.2.2)))  h27) cv_X5_157 (Nat.le_of_ble_eq_true rfl) ok_e20 rfl (Nat.le_of_ble_eq_true rfl) _ rfl dX5_run_134 [.int z27, .int a2] rfl ?_
              refine x_iadd dX5_run_137 ?_
              obtain ⟨t28, ht28, h⟩ := x_let_e h
              refine x_istore_n t28 ht28 dX5_run_138 rfl (Nat.le_of_ble_eq_true rfl) [(2, .int t28), (4, .ref (w.2.2 t5.1 13 t5.2 0)), (0, .ref (w.2.2 4 20 0 0)), (3, .int a3)] rfl ?_
              refine x_goto (tgt := 257) dX5_run_139 rfl ?_
              obtain ⟨t29, ht29, h⟩ := x_let_e h
              refine x_iinc t29 1 rfl ht29 dX5_run_257 3 rfl (Nat.le_of_ble_eq_true rfl) [(3, .int t29), (2, .int t28), (4, .ref (w.2.2 t5.1 13 t5.2 0)), (0, .ref (w.2.2 4 20 0 0))] rfl ?_
              refine x_goto (tgt := 37) dX5_run_260 rfl ?_
              refine x_sub (L1 := [(0, .ref (w.2.2 4 20 0 0)), (2, .int t28), (3, .int t29)]) [3, 1, 0] rfl ?_
              exact ih _ _ _ h
def fX5_run (σ : xS) : Option (Int32 × xS) :=
  x_b (fX4_findFault (σ 0 0 0 0 2) σ) fun z1 s1 => if z1 = (-1) then (x_b (fX4_rewind  s1) fun z2 s2 => BX5_run_37 x_FU 0 0 s2) else (some (((-1000) - z1), s1))
set_option maxRecDepth 100000 in
set_option maxHeartbeats 4000000 in
theorem eX5_run {l : Launch} {w : xW} {σ τ : xS} {r : Int32} (h : fX5_run σ = some (r, τ)) : xEV l w yX5_run mX5_run [.ref (w.2.2 4 20 0 0)] σ (some (.int r)) τ := by
  rw [fX5_run] at h
  refine x_enter (by decide +kernel) rfl (Nat.le_of_ble_eq_true rfl) ?_
  refine x_sub (L1 := [(0, .ref (w.2.2 4 20 0 0))]) [0] rfl ?_
  refine x_aload_n dX5_run_0 rfl 0 rfl ?_
  refine x_getR (d1 := 4) (K1 := 23) (p1 := 0) (r1 := 0) fl_X5_30 ok_e20 rfl dX5_run_1 ?_
  refine x_aload_n dX5_run_4 rfl 0 rfl ?_
  refine x_getR (d1 := 0) (K1 := 0) (p1 := 0) (r1 := 0) fl_X5_10 ok_e20 rfl dX5_run_5 ?_
  refine x_getI fl_X5_140 (ok_a (K := 0) (Nat.le_of_ble_eq_true rfl) (Nat.le_of_ble_eq_true rfl)) rfl dX5_run_8 ?_
  obtain ⟨z1, s1, h1, h⟩ := x_b_e h
  refine x_callV (As := [.int (σ 0 0 0 0 2)]) (st := []) (eX4_findFault  h1) cv_X5_266 (Nat.le_of_ble_eq_true rfl) ok_e23 rfl (Nat.le_of_ble_eq_true rfl) _ rfl dX5_run_11 [.int z1] rfl ?_
  refine x_istore_n z1 rfl dX5_run_14 rfl (Nat.le_of_ble_eq_true rfl) [(1, .int z1), (0, .ref (w.2.2 4 20 0 0))] rfl ?_
  refine x_iload_n dX5_run_15 rfl 0 rfl ?_
  refine x_iconst (x := (-1)) dX5_run_16 (by decide) ?_
  refine x_icmp_eq (tgt := 26) dX5_run_17 rfl (fun hc => ?_) (fun hc => ?_)
  · have h := x_t hc h
    refine x_iconst (x := 0) dX5_run_26 rfl ?_
    refine x_istore_n 0 rfl dX5_run_27 rfl (Nat.le_of_ble_eq_true rfl) [(2, .int 0), (1, .int z1), (0, .ref (w.2.2 4 20 0 0))] rfl ?_
    refine x_aload_n dX5_run_28 rfl 2 rfl ?_
    refine x_getR (d1 := 4) (K1 := 23) (p1 := 0) (r1 := 0) fl_X5_30 ok_e20 rfl dX5_run_29 ?_
    obtain ⟨z2, s2, h2, h⟩ := x_b_e h
    refine x_callV (As := []) (st := []) (eX4_rewind  h2) cv_X5_269 (Nat.le_of_ble_eq_true rfl) ok_e23 rfl (Nat.le_of_ble_eq_true rfl) _ rfl dX5_run_32 [] rfl ?_
    refine x_iconst (x := 0) dX5_run_35 rfl ?_
    refine x_istore_n 0 rfl dX5_run_36 rfl (Nat.le_of_ble_eq_true rfl) [(3, .int 0), (2, .int 0), (1, .int z1), (0, .ref (w.2.2 4 20 0 0))] rfl ?_
    refine x_sub (L1 := [(0, .ref (w.2.2 4 20 0 0)), (2, .int 0), (3, .int 0)]) [3, 1, 0] rfl ?_
    exact TX5_run_37 _ _ _ _ h
  · have h := x_f hc h
    refine x_sipush (x := (-1000)) dX5_run_20 (by decide) ?_
    refine x_iload_n dX5_run_23 rfl 0 rfl ?_
    refine x_isub dX5_run_24 ?_
    exact x_iretH rfl dX5_run_25 h
def fX5_save (a1 : Int32) (σ : xS) : Option (Int32 × xS) :=
  x_b (fX5_isOutside a1 0 1 σ) fun z1 s1 => if z1 = 0 then (x_g (x_in a1 2) (x_b (fX0_copyFrom (a1.toNatClampNeg + 2) 0 s1) fun z3 s3 => x_g (x_in a1 2) (x_let (x_set s3 4 22 0 0 a1.toNatClampNeg 1) fun s5 => some ((s5 0 0 0 0 4), s5)))) else (some ((-1), s1))
set_option maxRecDepth 100000 in
set_option maxHeartbeats 4000000 in
theorem eX5_save {l : Launch} {w : xW} {a1 : Int32} {σ τ : xS} {r : Int32} (h : fX5_save a1 σ = some (r, τ)) : xEV l w yX5_save mX5_save [.ref (w.2.2 4 20 0 0), .int a1] σ (some (.int r)) τ := by
  rw [fX5_save] at h
  refine x_enter (by decide +kernel) rfl (Nat.le_of_ble_eq_true rfl) ?_
  refine x_sub (L1 := [(0, .ref (w.2.2 4 20 0 0)), (1, .int a1)]) [0, 1] rfl ?_
  refine x_iload_n dX5_save_0 rfl 1 rfl ?_
  refine x_iconst (x := 0) dX5_save_1 rfl ?_
  refine x_iconst (x := 1) dX5_save_2 rfl ?_
  obtain ⟨z1, s1, h1, h⟩ := x_b_e h
  refine x_callS (As := [.int a1, .int 0, .int 1]) (st := []) (eX5_isOutside  h1) cs_X5_38 (Nat.le_of_ble_eq_true rfl) rfl (Nat.le_of_ble_eq_true rfl) _ rfl dX5_save_3 [.int z1] rfl ?_
  refine x_if_eq (tgt := 11) dX5_save_6 rfl (fun hc => ?_) (fun hc => ?_)
  · have h := x_t hc h
    refine x_aload_n dX5_save_11 rfl 0 rfl ?_
    refine x_getR (d1 := 4) (K1 := 21) (p1 := 0) (r1 := 0) fl_X5_19 ok_e20 rfl dX5_save_12 ?_
    refine x_iload_n dX5_save_15 rfl 1 rfl ?_
    obtain ⟨hg2, h⟩ := x_g_e h
    refine x_aald (d1 := (a1.toNatClampNeg + 2)) (K1 := 0) (p1 := 0) (r1 := 0) 2 a1.toNatClampNeg rfl 4 RX0 rfl rfl (Nat.le_of_ble_eq_true rfl) rfl rfl ok_e21 rfl hg2 dX5_save_16 ?_
    refine x_aload_n dX5_save_17 rfl 0 rfl ?_
    refine x_getR (d1 := 0) (K1 := 0) (p1 := 0) (r1 := 0) fl_X5_10 ok_e20 rfl dX5_save_18 ?_
    obtain ⟨z3, s3, h3, h⟩ := x_b_e h
    refine x_callV (As := [.ref (w.2.2 0 0 0 0)]) (st := []) (eX0_copyFrom (Nat.add_lt_add_right (x_in_lt hg2) 2) (Nat.le_of_ble_eq_true rfl) h3) cv_X5_248 (Nat.le_of_ble_eq_true rfl) (ok_a (K := 0) (Nat.le_of_ble_eq_true rfl) (Nat.add_lt_add_right (x_in_lt hg2) 2)) rfl (Nat.le_of_ble_eq_true rfl) _ rfl dX5_save_21 [] rfl ?_
    refine x_aload_n dX5_save_24 rfl 0 rfl ?_
    refine x_getR (d1 := 4) (K1 := 22) (p1 := 0) (r1 := 0) fl_X5_23 ok_e20 rfl dX5_save_25 ?_
    refine x_iload_n dX5_save_28 rfl 1 rfl ?_
    refine x_iconst (x := 1) dX5_save_29 rfl ?_
    obtain ⟨hg4, h⟩ := x_g_e h
    obtain ⟨s5, hs5, h⟩ := x_let_e h
    refine x_zast 2 a1.toNatClampNeg rfl s5 hs5 rfl rfl rfl rfl ok_e22 hg4 dX5_save_30 ?_
    refine x_aload_n dX5_save_31 rfl 0 rfl ?_
    refine x_getR (d1 := 0) (K1 := 0) (p1 := 0) (r1 := 0) fl_X5_10 ok_e20 rfl dX5_save_32 ?_
    refine x_getI fl_X5_205 (ok_a (K := 0) (Nat.le_of_ble_eq_true rfl) (Nat.le_of_ble_eq_true rfl)) rfl dX5_save_35 ?_
    exact x_iretH rfl dX5_save_38 h
  · have h := x_f hc h
    refine x_iconst (x := (-1)) dX5_save_9 (by decide) ?_
    exact x_iretH rfl dX5_save_10 h
def fX5_restore (a1 : Int32) (σ : xS) : Option (Int32 × xS) :=
  x_b (fX5_isOutside a1 0 1 σ) fun z1 s1 => if z1 = 0 then (x_g (x_in a1 2) (if (s1 4 22 0 0 a1.toNatClampNeg) = 0 then (some ((-5), s1)) else (x_g (x_in a1 2) (x_b (fX0_copyFrom 0 (a1.toNatClampNeg + 2) s1) fun z4 s4 => some ((s4 0 0 0 0 4), s4))))) else (some ((-1), s1))
set_option maxRecDepth 100000 in
set_option maxHeartbeats 4000000 in
theorem eX5_restore {l : Launch} {w : xW} {a1 : Int32} {σ τ : xS} {r : Int32} (h : fX5_restore a1 σ = some (r, τ)) : xEV l w yX5_restore mX5_restore [.ref (w.2.2 4 20 0 0), .int a1] σ (some (.int r)) τ := by
  rw [fX5_restore] at h
  refine x_enter (by decide +kernel) rfl (Nat.le_of_ble_eq_true rfl) ?_
  refine x_sub (L1 := [(0, .ref (w.2.2 4 20 0 0)), (1, .int a1)]) [0, 1] rfl ?_
  refine x_iload_n dX5_restore_0 rfl 1 rfl ?_
  refine x_iconst (x := 0) dX5_restore_1 rfl ?_
  refine x_iconst (x := 1) dX5_restore_2 rfl ?_
  obtain ⟨z1, s1, h1, h⟩ := x_b_e h
  refine x_callS (As := [.int a1, .int 0, .int 1]) (st := []) (eX5_isOutside  h1) cs_X5_38 (Nat.le_of_ble_eq_true rfl) rfl (Nat.le_of_ble_eq_true rfl) _ rfl dX5_restore_3 [.int z1] rfl ?_
  refine x_if_eq (tgt := 11) dX5_restore_6 rfl (fun hc => ?_) (fun hc => ?_)
  · have h := x_t hc h
    refine x_aload_n dX5_restore_11 rfl 0 rfl ?_
    refine x_getR (d1 := 4) (K1 := 22) (p1 := 0) (r1 := 0) fl_X5_23 ok_e20 rfl dX5_restore_12 ?_
    refine x_iload_n dX5_restore_15 rfl 1 rfl ?_
    obtain ⟨hg2, h⟩ := x_g_e h
    refine x_zald 2 a1.toNatClampNeg rfl rfl rfl rfl ok_e22 hg2 dX5_restore_16 ?_
    refine x_if_ne (tgt := 23) dX5_restore_17 rfl (fun hc => ?_) (fun hc => ?_)
    · have h := x_f hc h
      refine x_aload_n dX5_restore_23 rfl 0 rfl ?_
      refine x_getR (d1 := 0) (K1 := 0) (p1 := 0) (r1 := 0) fl_X5_10 ok_e20 rfl dX5_restore_24 ?_
      refine x_aload_n dX5_restore_27 rfl 0 rfl ?_
      refine x_getR (d1 := 4) (K1 := 21) (p1 := 0) (r1 := 0) fl_X5_19 ok_e20 rfl dX5_restore_28 ?_
      refine x_iload_n dX5_restore_31 rfl 1 rfl ?_
      obtain ⟨hg3, h⟩ := x_g_e h
      refine x_aald (d1 := (a1.toNatClampNeg + 2)) (K1 := 0) (p1 := 0) (r1 := 0) 2 a1.toNatClampNeg rfl 4 RX0 rfl rfl (Nat.le_of_ble_eq_true rfl) rfl rfl ok_e21 rfl hg3 dX5_restore_32 ?_
      obtain ⟨z4, s4, h4, h⟩ := x_b_e h
      refine x_callV (As := [.ref (w.2.2 (a1.toNatClampNeg + 2) 0 0 0)]) (st := []) (eX0_copyFrom (Nat.le_of_ble_eq_true rfl) (Nat.add_lt_add_right (x_in_lt hg3) 2) h4) cv_X5_248 (Nat.le_of_ble_eq_true rfl) (ok_a (K := 0) (Nat.le_of_ble_eq_true rfl) (Nat.le_of_ble_eq_true rfl)) rfl (Nat.le_of_ble_eq_true rfl) _ rfl dX5_restore_33 [] rfl ?_
      refine x_aload_n dX5_restore_36 rfl 0 rfl ?_
      refine x_getR (d1 := 0) (K1 := 0) (p1 := 0) (r1 := 0) fl_X5_10 ok_e20 rfl dX5_restore_37 ?_
      refine x_getI fl_X5_205 (ok_a (K := 0) (Nat.le_of_ble_eq_true rfl) (Nat.le_of_ble_eq_true rfl)) rfl dX5_restore_40 ?_
      exact x_iretH rfl dX5_restore_43 h
    · have h := x_t hc h
      refine x_bipush (x := (-5)) dX5_restore_20 (by decide) ?_
      exact x_iretH rfl dX5_restore_22 h
  · have h := x_f hc h
    refine x_iconst (x := (-1)) dX5_restore_9 (by decide) ?_
    exact x_iretH rfl dX5_restore_10 h
def BX5_mixPackets_54 (d3 : Nat) (p3 : Nat) (r3 : Nat) (d4 : Nat) (a7 : Int32) (a8 : Int32) (k21 : Int64 → Int32 → Int32 → xS → Option (Int64 × xS)) : Nat → Int64 → Int32 → Int32 → xS → Option (Int64 × xS)
  | 0, _, _, _, _ => none
  | n + 1, g5, a9, a10, σ => x_b (fX1_partsOf d4 a7 σ) fun z4 s4 => if z4 ≤ a10 then (x_b (fX1_packetBehind d4 a7 s4) fun z5 s5 => x_let (a8 + 1) fun t6 => k21 g5 z5 t6 s5) else (x_let ((31 * g5) + a9.toInt64) fun t7 => x_b (fX1_partBehind d4 a9 s4) fun z8 s8 => x_let (a10 + 1) fun t9 => (BX5_mixPackets_54 d3 p3 r3 d4 a7 a8 k21 n) t7 z8 t9 s8)
set_option maxRecDepth 100000 in
set_option maxHeartbeats 4000000 in
theorem TX5_mixPackets_54 {l : Launch} {w : xW} {d3 : Nat} {p3 : Nat} {r3 : Nat} {d4 : Nat} {a7 : Int32} {a8 : Int32} (hd3 : d3 < 4) (hp3 : p3 < 6) (hr3 : r3 < 3) (hd4 : d4 < 4) {k21 : Int64 → Int32 → Int32 → xS → Option (Int64 × xS)} {τ : xS} {r : Int64} (hk21 : ∀ (g5 : Int64) (a7 : Int32) (a8 : Int32) (σ1 : xS), k21 g5 a7 a8 σ1 = some (r, τ) → xAt l w mX5_mixPackets 21 [(3, .ref (w.2.2 d3 16 p3 r3)), (4, .ref (w.2.2 d4 1 0 0)), (5, .long g5), (7, .int a7), (8, .int a8)] [] σ1 (some (.long r)) τ) : ∀ (n : Nat) (g5 : Int64) (a9 : Int32) (a10 : Int32) (σ : xS), BX5_mixPackets_54 d3 p3 r3 d4 a7 a8 k21 n g5 a9 a10 σ = some (r, τ) → xAt l w mX5_mixPackets 54 [(3, .ref (w.2.2 d3 16 p3 r3)), (4, .ref (w.2.2 d4 1 0 0)), (5, .long g5), (7, .int a7), (8, .int a8), (9, .int a9), (10, .int a10)] [] σ (some (.long r)) τ := by
  intro n
  induction n with
  | zero => intro g5 a9 a10 σ h; cases h
  | succ n ih =>
    intro g5 a9 a10 σ h
    rw [BX5_mixPackets_54] at h
    refine x_iload dX5_mixPackets_54 6 rfl ?_
    refine x_aload dX5_mixPackets_56 1 rfl ?_
    refine x_iload dX5_mixPackets_58 3 rfl ?_
    obtain ⟨z4, s4, h4, h⟩ := x_b_e h
    refine x_callV (As := [.int a7]) (st := [.int a10]) (eX1_partsOf hd4 h4) cv_X5_223 (Nat.le_of_ble_eq_true rfl) (ok_a (K := 1) (Nat.le_of_ble_eq_true rfl) hd4) rfl (Nat.le_of_ble_eq_true rfl) _ rfl dX5_mixPackets_60 [.int z4, .int a10] rfl ?_
    refine x_icmp_ge (tgt := 93) dX5_mixPackets_63 rfl (fun hc => ?_) (fun hc => ?_)
    · have h := x_t hc h
      refine x_aload dX5_mixPackets_93 1 rfl ?_
      refine x_iload dX5_mixPackets_95 3 rfl ?_
      obtain ⟨z5, s5, h5, h⟩ := x_b_e h
      refine x_callV (As := [.int a7]) (st := []) (eX1_packetBehind hd4 h5) cv_X5_214 (Nat.le_of_ble_eq_true rfl) (ok_a (K := 1) (Nat.le_of_ble_eq_true rfl) hd4) rfl (Nat.le_of_ble_eq_true rfl) _ rfl dX5_mixPackets_97 [.int z5] rfl ?_
      refine x_istore z5 rfl dX5_mixPackets_100 (Nat.le_of_ble_eq_true rfl) [(7, .int z5), (3, .ref (w.2.2 d3 16 p3 r3)), (4, .ref (w.2.2 d4 1 0 0)), (5, .long g5), (8, .int a8), (9, .int a9), (10, .int a10)] rfl ?_
      obtain ⟨t6, ht6, h⟩ := x_let_e h
      refine x_iinc t6 1 rfl ht6 dX5_mixPackets_102 4 rfl (Nat.le_of_ble_eq_true rfl) [(8, .int t6), (7, .int z5), (3, .ref (w.2.2 d3 16 p3 r3)), (4, .ref (w.2.2 d4 1 0 0)), (5, .long g5), (9, .int a9), (10, .int a10)] rfl ?_
      refine x_goto (tgt := 21) dX5_mixPackets_105 rfl ?_
      refine x_sub (L1 := [(3, .ref (w.2.2 d3 16 p3 r3)), (4, .ref (w.2.2 d4 1 0 0)), (5, .long g5), (7, .int z5), (8, .int t6)]) [2, 3, 4, 1, 0] rfl ?_
      exact hk21 _ _ _ _ h
    · have h := x_f hc h
      refine x_ldc2 (x := 31) dX5_mixPackets_66 tk_X5_296 ?_
      refine x_lload dX5_mixPackets_69 2 rfl ?_
      refine x_lmul dX5_mixPackets_71 ?_
      refine x_iload dX5_mixPackets_72 5 rfl ?_
      refine x_i2l dX5_mixPackets_74 ?_
      refine x_ladd dX5_mixPackets_75 ?_
      obtain ⟨t7, ht7, h⟩ := x_let_e h
      refine x_lstore t7 ht7 dX5_mixPackets_76 (Nat.le_of_ble_eq_true rfl) [(5, .long t7), (3, .ref (w.2.2 d3 16 p3 r3)), (4, .ref (w.2.2 d4 1 0 0)), (7, .int a7), (8, .int a8), (9, .int a9), (10, .int a10)] rfl ?_
      refine x_aload dX5_mixPackets_78 2 rfl ?_
      refine x_iload dX5_mixPackets_80 5 rfl ?_
      obtain ⟨z8, s8, h8, h⟩ := x_b_e h
      refine x_callV (As := [.int a9]) (st := []) (eX1_partBehind hd4 h8) cv_X5_318 (Nat.le_of_ble_eq_true rfl) (ok_a (K := 1) (Nat.le_of_ble_eq_true rfl) hd4) rfl (Nat.le_of_ble_eq_true rfl) _ rfl dX5_mixPackets_82 [.int z8] rfl ?_
      refine x_istore z8 rfl dX5_mixPackets_85 (Nat.le_of_ble_eq_true rfl) [(9, .int z8), (5, .long t7), (3, .ref (w.2.2 d3 16 p3 r3)), (4, .ref (w.2.2 d4 1 0 0)), (7, .int a7), (8, .int a8), (10, .int a10)] rfl ?_
      obtain ⟨t9, ht9, h⟩ := x_let_e h
      refine x_iinc t9 1 rfl ht9 dX5_mixPackets_87 6 rfl (Nat.le_of_ble_eq_true rfl) [(10, .int t9), (9, .int z8), (5, .long t7), (3, .ref (w.2.2 d3 16 p3 r3)), (4, .ref (w.2.2 d4 1 0 0)), (7, .int a7), (8, .int a8)] rfl ?_
      refine x_goto (tgt := 54) dX5_mixPackets_90 rfl ?_
      refine x_sub (L1 := [(3, .ref (w.2.2 d3 16 p3 r3)), (4, .ref (w.2.2 d4 1 0 0)), (5, .long t7), (7, .int a7), (8, .int a8), (9, .int z8), (10, .int t9)]) [3, 4, 2, 5, 6, 1, 0] rfl ?_
      exact ih _ _ _ _ h
def BX5_mixPackets_21 (d3 : Nat) (p3 : Nat) (r3 : Nat) (d4 : Nat) : Nat → Int64 → Int32 → Int32 → xS → Option (Int64 × xS)
  | 0, _, _, _, _ => none
  | n + 1, g5, a7, a8, σ => if (σ d3 16 p3 r3 15) ≤ a8 then (some (g5, σ)) else (x_b (fX1_numberOf d4 a7 σ) fun z2 s2 => x_let ((31 * g5) + z2.toInt64) fun t3 => BX5_mixPackets_54 d3 p3 r3 d4 a7 a8 (BX5_mixPackets_21 d3 p3 r3 d4 n) x_FU t3 a7 0 s2)
set_option maxRecDepth 100000 in
set_option maxHeartbeats 4000000 in
theorem TX5_mixPackets_21 {l : Launch} {w : xW} {d3 : Nat} {p3 : Nat} {r3 : Nat} {d4 : Nat} (hd3 : d3 < 4) (hp3 : p3 < 6) (hr3 : r3 < 3) (hd4 : d4 < 4) {τ : xS} {r : Int64} : ∀ (n : Nat) (g5 : Int64) (a7 : Int32) (a8 : Int32) (σ : xS), BX5_mixPackets_21 d3 p3 r3 d4 n g5 a7 a8 σ = some (r, τ) → xAt l w mX5_mixPackets 21 [(3, .ref (w.2.2 d3 16 p3 r3)), (4, .ref (w.2.2 d4 1 0 0)), (5, .long g5), (7, .int a7), (8, .int a8)] [] σ (some (.long r)) τ := by
  intro n
  induction n with
  | zero => intro g5 a7 a8 σ h; cases h
  | succ n ih =>
    intro g5 a7 a8 σ h
    rw [BX5_mixPackets_21] at h
    refine x_iload dX5_mixPackets_21 4 rfl ?_
    refine x_aload_n dX5_mixPackets_23 rfl 0 rfl ?_
    refine x_getI fl_X5_208 (ok_c hd3 hp3 hr3) rfl dX5_mixPackets_24 ?_
    refine x_icmp_ge (tgt := 108) dX5_mixPackets_27 rfl (fun hc => ?_) (fun hc => ?_)
    · have h := x_t hc h
      refine x_lload dX5_mixPackets_108 2 rfl ?_
      exact x_lretH rfl dX5_mixPackets_110 h
    · have h := x_f hc h
      refine x_ldc2 (x := 31) dX5_mixPackets_30 tk_X5_296 ?_
      refine x_lload dX5_mixPackets_33 2 rfl ?_
      refine x_lmul dX5_mixPackets_35 ?_
      refine x_aload dX5_mixPackets_36 1 rfl ?_
      refine x_iload dX5_mixPackets_38 3 rfl ?_
      obtain ⟨z2, s2, h2, h⟩ := x_b_e h
      refine x_callV (As := [.int a7]) (st := [.long (31 * g5)]) (eX1_numberOf hd4 h2) cv_X5_217 (Nat.le_of_ble_eq_true rfl) (ok_a (K := 1) (Nat.le_of_ble_eq_true rfl) hd4) rfl (Nat.le_of_ble_eq_true rfl) _ rfl dX5_mixPackets_40 [.int z2, .long (31 * g5)] rfl ?_
      refine x_i2l dX5_mixPackets_43 ?_
      refine x_ladd dX5_mixPackets_44 ?_
      obtain ⟨t3, ht3, h⟩ := x_let_e h
      refine x_lstore t3 ht3 dX5_mixPackets_45 (Nat.le_of_ble_eq_true rfl) [(5, .long t3), (3, .ref (w.2.2 d3 16 p3 r3)), (4, .ref (w.2.2 d4 1 0 0)), (7, .int a7), (8, .int a8)] rfl ?_
      refine x_iload dX5_mixPackets_47 3 rfl ?_
      refine x_istore a7 rfl dX5_mixPackets_49 (Nat.le_of_ble_eq_true rfl) [(9, .int a7), (5, .long t3), (3, .ref (w.2.2 d3 16 p3 r3)), (4, .ref (w.2.2 d4 1 0 0)), (7, .int a7), (8, .int a8)] rfl ?_
      refine x_iconst (x := 0) dX5_mixPackets_51 rfl ?_
      refine x_istore 0 rfl dX5_mixPackets_52 (Nat.le_of_ble_eq_true rfl) [(10, .int 0), (9, .int a7), (5, .long t3), (3, .ref (w.2.2 d3 16 p3 r3)), (4, .ref (w.2.2 d4 1 0 0)), (7, .int a7), (8, .int a8)] rfl ?_
      refine x_sub (L1 := [(3, .ref (w.2.2 d3 16 p3 r3)), (4, .ref (w.2.2 d4 1 0 0)), (5, .long t3), (7, .int a7), (8, .int a8), (9, .int a7), (10, .int 0)]) [3, 4, 2, 5, 6, 1, 0] rfl ?_
      exact TX5_mixPackets_54 hd3 hp3 hr3 hd4 ih _ _ _ _ _ h
def fX5_mixPackets (g1 : Int64) (d3 : Nat) (p3 : Nat) (r3 : Nat) (σ : xS) : Option (Int64 × xS) :=
  x_let (σ d3 16 p3 r3 13) fun t1 => BX5_mixPackets_21 d3 p3 r3 0 x_FU g1 t1 0 σ
set_option maxRecDepth 100000 in
set_option maxHeartbeats 4000000 in
theorem eX5_mixPackets {l : Launch} {w : xW} {g1 : Int64} {d3 : Nat} {p3 : Nat} {r3 : Nat} (hd3 : d3 < 4) (hp3 : p3 < 6) (hr3 : r3 < 3) {σ τ : xS} {r : Int64} (h : fX5_mixPackets g1 d3 p3 r3 σ = some (r, τ)) : xEV l w yX5_mixPackets mX5_mixPackets [.ref (w.2.2 4 20 0 0), .long g1, .ref (w.2.2 d3 16 p3 r3)] σ (some (.long r)) τ := by
  rw [fX5_mixPackets] at h
  refine x_enter (by decide +kernel) rfl (Nat.le_of_ble_eq_true rfl) ?_
  refine x_sub (L1 := [(0, .ref (w.2.2 4 20 0 0)), (1, .long g1), (3, .ref (w.2.2 d3 16 p3 r3))]) [0, 1, 2] rfl ?_
  refine x_aload_n dX5_mixPackets_0 rfl 0 rfl ?_
  refine x_getR (d1 := 0) (K1 := 0) (p1 := 0) (r1 := 0) fl_X5_10 ok_e20 rfl dX5_mixPackets_1 ?_
  refine x_getR (d1 := 0) (K1 := 1) (p1 := 0) (r1 := 0) fl_X5_42 (ok_a (K := 0) (Nat.le_of_ble_eq_true rfl) (Nat.le_of_ble_eq_true rfl)) rfl dX5_mixPackets_4 ?_
  refine x_astore dX5_mixPackets_7 (Nat.le_of_ble_eq_true rfl) [(4, .ref (w.2.2 0 1 0 0)), (0, .ref (w.2.2 4 20 0 0)), (1, .long g1), (3, .ref (w.2.2 d3 16 p3 r3))] rfl ?_
  refine x_lload_n dX5_mixPackets_9 rfl 2 rfl ?_
  refine x_lstore g1 rfl dX5_mixPackets_10 (Nat.le_of_ble_eq_true rfl) [(5, .long g1), (4, .ref (w.2.2 0 1 0 0)), (0, .ref (w.2.2 4 20 0 0)), (1, .long g1), (3, .ref (w.2.2 d3 16 p3 r3))] rfl ?_
  refine x_aload_n dX5_mixPackets_12 rfl 4 rfl ?_
  refine x_getI fl_X5_211 (ok_c hd3 hp3 hr3) rfl dX5_mixPackets_13 ?_
  obtain ⟨t1, ht1, h⟩ := x_let_e h
  refine x_istore t1 ht1 dX5_mixPackets_16 (Nat.le_of_ble_eq_true rfl) [(7, .int t1), (5, .long g1), (4, .ref (w.2.2 0 1 0 0)), (0, .ref (w.2.2 4 20 0 0)), (1, .long g1), (3, .ref (w.2.2 d3 16 p3 r3))] rfl ?_
  refine x_iconst (x := 0) dX5_mixPackets_18 rfl ?_
  refine x_istore 0 rfl dX5_mixPackets_19 (Nat.le_of_ble_eq_true rfl) [(8, .int 0), (7, .int t1), (5, .long g1), (4, .ref (w.2.2 0 1 0 0)), (0, .ref (w.2.2 4 20 0 0)), (1, .long g1), (3, .ref (w.2.2 d3 16 p3 r3))] rfl ?_
  refine x_sub (L1 := [(3, .ref (w.2.2 d3 16 p3 r3)), (4, .ref (w.2.2 0 1 0 0)), (5, .long g1), (7, .int t1), (8, .int 0)]) [6, 3, 2, 1, 0] rfl ?_
  exact TX5_mixPackets_21 hd3 hp3 hr3 (Nat.le_of_ble_eq_true rfl) _ _ _ _ _ h
def BX5_mixPort_87 (d6 : Nat) (p6 : Nat) (a7 : Int32) : Nat → Int64 → Int32 → xS → Option (Int64 × xS)
  | 0, _, _, _ => none
  | n + 1, g4, a8, σ => if a7 ≤ a8 then (some (g4, σ)) else (x_g (x_in a8 3) (x_let ((31 * g4) + ((σ d6 16 p6 (a8.toNatClampNeg) 10).toInt64)) fun t8 => x_let ((31 * t8) + ((σ d6 16 p6 (a8.toNatClampNeg) 11).toInt64)) fun t9 => x_let ((31 * t9) + ((σ d6 16 p6 (a8.toNatClampNeg) 12).toInt64)) fun t10 => x_let ((31 * t10) + ((σ d6 16 p6 (a8.toNatClampNeg) 4).toInt64)) fun t11 => x_b (fX5_asNumber (σ d6 16 p6 (a8.toNatClampNeg) 8) σ) fun z12 s12 => x_let ((31 * t11) + z12.toInt64) fun t13 => x_let ((31 * t13) + ((s12 d6 16 p6 (a8.toNatClampNeg) 6).toInt64)) fun t14 => x_let ((31 * t14) + ((s12 d6 16 p6 (a8.toNatClampNeg) 15).toInt64)) fun t15 => x_b (fX5_mixPackets t15 d6 p6 (a8.toNatClampNeg) s12) fun z16 s16 => x_let (a8 + 1) fun t17 => (BX5_mixPort_87 d6 p6 a7 n) z16 t17 s16))
set_option maxRecDepth 100000 in
set_option maxHeartbeats 4000000 in
theorem TX5_mixPort_87 {l : Launch} {w : xW} {d6 : Nat} {p6 : Nat} {a7 : Int32} (hd6 : d6 < 4) (hp6 : p6 < 6) {τ : xS} {r : Int64} : ∀ (n : Nat) (g4 : Int64) (a8 : Int32) (σ : xS), BX5_mixPort_87 d6 p6 a7 n g4 a8 σ = some (r, τ) → xAt l w mX5_mixPort 87 [(0, .ref (w.2.2 4 20 0 0)), (4, .long g4), (6, .ref (w.2.2 d6 14 p6 0)), (7, .int a7), (8, .int a8)] [] σ (some (.long r)) τ := by
  intro n
  induction n with
  | zero => intro g4 a8 σ h; cases h
  | succ n ih =>
    intro g4 a8 σ h
    rw [BX5_mixPort_87] at h
    refine x_iload dX5_mixPort_87 4 rfl ?_
    refine x_iload dX5_mixPort_89 3 rfl ?_
    refine x_icmp_ge (tgt := 225) dX5_mixPort_91 rfl (fun hc => ?_) (fun hc => ?_)
    · have h := x_t hc h
      refine x_lload dX5_mixPort_225 1 rfl ?_
      exact x_lretH rfl dX5_mixPort_227 h
    · have h := x_f hc h
      refine x_aload dX5_mixPort_94 2 rfl ?_
      refine x_iload dX5_mixPort_96 4 rfl ?_
      obtain ⟨hg7, h⟩ := x_g_e h
      refine x_aald (d1 := d6) (K1 := 16) (p1 := p6) (r1 := (a8.toNatClampNeg)) 3 a8.toNatClampNeg rfl 3 RX3 rfl rfl (Nat.le_of_ble_eq_true rfl) rfl rfl (ok_b (K := 14) (Nat.le_of_ble_eq_true rfl) (Nat.le_of_ble_eq_true rfl) hd6 hp6) rfl hg7 dX5_mixPort_98 ?_
      refine x_astore dX5_mixPort_99 (Nat.le_of_ble_eq_true rfl) [(9, .ref (w.2.2 d6 16 p6 (a8.toNatClampNeg))), (0, .ref (w.2.2 4 20 0 0)), (4, .long g4), (6, .ref (w.2.2 d6 14 p6 0)), (7, .int a7), (8, .int a8)] rfl ?_
      refine x_ldc2 (x := 31) dX5_mixPort_101 tk_X5_296 ?_
      refine x_lload dX5_mixPort_104 2 rfl ?_
      refine x_lmul dX5_mixPort_106 ?_
      refine x_aload dX5_mixPort_107 0 rfl ?_
      refine x_getI fl_X5_171 (ok_c hd6 hp6 (x_in_lt hg7)) rfl dX5_mixPort_109 ?_
      refine x_i2l dX5_mixPort_112 ?_
      refine x_ladd dX5_mixPort_113 ?_
      obtain ⟨t8, ht8, h⟩ := x_let_e h
      refine x_lstore t8 ht8 dX5_mixPort_114 (Nat.le_of_ble_eq_true rfl) [(4, .long t8), (9, .ref (w.2.2 d6 16 p6 (a8.toNatClampNeg))), (0, .ref (w.2.2 4 20 0 0)), (6, .ref (w.2.2 d6 14 p6 0)), (7, .int a7), (8, .int a8)] rfl ?_
      refine x_ldc2 (x := 31) dX5_mixPort_116 tk_X5_296 ?_
      refine x_lload dX5_mixPort_119 0 rfl ?_
      refine x_lmul dX5_mixPort_121 ?_
      refine x_aload dX5_mixPort_122 1 rfl ?_
      refine x_getI fl_X5_174 (ok_c hd6 hp6 (x_in_lt hg7)) rfl dX5_mixPort_124 ?_
      refine x_i2l dX5_mixPort_127 ?_
      refine x_ladd dX5_mixPort_128 ?_
      obtain ⟨t9, ht9, h⟩ := x_let_e h
      refine x_lstore t9 ht9 dX5_mixPort_129 (Nat.le_of_ble_eq_true rfl) [(4, .long t9), (9, .ref (w.2.2 d6 16 p6 (a8.toNatClampNeg))), (0, .ref (w.2.2 4 20 0 0)), (6, .ref (w.2.2 d6 14 p6 0)), (7, .int a7), (8, .int a8)] rfl ?_
      refine x_ldc2 (x := 31) dX5_mixPort_131 tk_X5_296 ?_
      refine x_lload dX5_mixPort_134 0 rfl ?_
      refine x_lmul dX5_mixPort_136 ?_
      refine x_aload dX5_mixPort_137 1 rfl ?_
      refine x_getI fl_X5_92 (ok_c hd6 hp6 (x_in_lt hg7)) rfl dX5_mixPort_139 ?_
      refine x_i2l dX5_mixPort_142 ?_
      refine x_ladd dX5_mixPort_143 ?_
      obtain ⟨t10, ht10, h⟩ := x_let_e h
      refine x_lstore t10 ht10 dX5_mixPort_144 (Nat.le_of_ble_eq_true rfl) [(4, .long t10), (9, .ref (w.2.2 d6 16 p6 (a8.toNatClampNeg))), (0, .ref (w.2.2 4 20 0 0)), (6, .ref (w.2.2 d6 14 p6 0)), (7, .int a7), (8, .int a8)] rfl ?_
      refine x_ldc2 (x := 31) dX5_mixPort_146 tk_X5_296 ?_
      refine x_lload dX5_mixPort_149 0 rfl ?_
      refine x_lmul dX5_mixPort_151 ?_
      refine x_aload dX5_mixPort_152 1 rfl ?_
      refine x_getI fl_X5_83 (ok_c hd6 hp6 (x_in_lt hg7)) rfl dX5_mixPort_154 ?_
      refine x_i2l dX5_mixPort_157 ?_
      refine x_ladd dX5_mixPort_158 ?_
      obtain ⟨t11, ht11, h⟩ := x_let_e h
      refine x_lstore t11 ht11 dX5_mixPort_159 (Nat.le_of_ble_eq_true rfl) [(4, .long t11), (9, .ref (w.2.2 d6 16 p6 (a8.toNatClampNeg))), (0, .ref (w.2.2 4 20 0 0)), (6, .ref (w.2.2 d6 14 p6 0)), (7, .int a7), (8, .int a8)] rfl ?_
      refine x_ldc2 (x := 31) dX5_mixPort_161 tk_X5_296 ?_
      refine x_lload dX5_mixPort_164 0 rfl ?_
      refine x_lmul dX5_mixPort_166 ?_
      refine x_aload dX5_mixPort_167 1 rfl ?_
      refine x_getI fl_X5_103 (ok_c hd6 hp6 (x_in_lt hg7)) rfl dX5_mixPort_169 ?_
      obtain ⟨z12, s12, h12, h⟩ := x_b_e h
      refine x_callS (As := [.int (σ d6 16 p6 (a8.toNatClampNeg) 8)]) (st := [.long (31 * t11)]) (eX5_asNumber  h12) cs_X5_99 (Nat.le_of_ble_eq_true rfl) rfl (Nat.le_of_ble_eq_true rfl) _ rfl dX5_mixPort_172 [.int z12, .long (31 * t11)] rfl ?_
      refine x_i2l dX5_mixPort_175 ?_
      refine x_ladd dX5_mixPort_176 ?_
      obtain ⟨t13, ht13, h⟩ := x_let_e h
      refine x_lstore t13 ht13 dX5_mixPort_177 (Nat.le_of_ble_eq_true rfl) [(4, .long t13), (9, .ref (w.2.2 d6 16 p6 (a8.toNatClampNeg))), (0, .ref (w.2.2 4 20 0 0)), (6, .ref (w.2.2 d6 14 p6 0)), (7, .int a7), (8, .int a8)] rfl ?_
      refine x_ldc2 (x := 31) dX5_mixPort_179 tk_X5_296 ?_
      refine x_lload dX5_mixPort_182 0 rfl ?_
      refine x_lmul dX5_mixPort_184 ?_
      refine x_aload dX5_mixPort_185 1 rfl ?_
      refine x_getI fl_X5_183 (ok_c hd6 hp6 (x_in_lt hg7)) rfl dX5_mixPort_187 ?_
      refine x_i2l dX5_mixPort_190 ?_
      refine x_ladd dX5_mixPort_191 ?_
      obtain ⟨t14, ht14, h⟩ := x_let_e h
      refine x_lstore t14 ht14 dX5_mixPort_192 (Nat.le_of_ble_eq_true rfl) [(4, .long t14), (9, .ref (w.2.2 d6 16 p6 (a8.toNatClampNeg))), (0, .ref (w.2.2 4 20 0 0)), (6, .ref (w.2.2 d6 14 p6 0)), (7, .int a7), (8, .int a8)] rfl ?_
      refine x_ldc2 (x := 31) dX5_mixPort_194 tk_X5_296 ?_
      refine x_lload dX5_mixPort_197 0 rfl ?_
      refine x_lmul dX5_mixPort_199 ?_
      refine x_aload dX5_mixPort_200 1 rfl ?_
      refine x_getI fl_X5_208 (ok_c hd6 hp6 (x_in_lt hg7)) rfl dX5_mixPort_202 ?_
      refine x_i2l dX5_mixPort_205 ?_
      refine x_ladd dX5_mixPort_206 ?_
      obtain ⟨t15, ht15, h⟩ := x_let_e h
      refine x_lstore t15 ht15 dX5_mixPort_207 (Nat.le_of_ble_eq_true rfl) [(4, .long t15), (9, .ref (w.2.2 d6 16 p6 (a8.toNatClampNeg))), (0, .ref (w.2.2 4 20 0 0)), (6, .ref (w.2.2 d6 14 p6 0)), (7, .int a7), (8, .int a8)] rfl ?_
      refine x_aload_n dX5_mixPort_209 rfl 2 rfl ?_
      refine x_lload dX5_mixPort_210 0 rfl ?_
      refine x_aload dX5_mixPort_212 1 rfl ?_
      obtain ⟨z16, s16, h16, h⟩ := x_b_e h
      refine x_callV (As := [.long t15, .ref (w.2.2 d6 16 p6 (a8.toNatClampNeg))]) (st := []) (eX5_mixPackets hd6 hp6 (x_in_lt hg7) h16) cv_X5_314 (Nat.le_of_ble_eq_true rfl) ok_e20 rfl (Nat.le_of_ble_eq_true rfl) _ rfl dX5_mixPort_214 [.long z16] rfl ?_
      refine x_lstore z16 rfl dX5_mixPort_217 (Nat.le_of_ble_eq_true rfl) [(4, .long z16), (9, .ref (w.2.2 d6 16 p6 (a8.toNatClampNeg))), (0, .ref (w.2.2 4 20 0 0)), (6, .ref (w.2.2 d6 14 p6 0)), (7, .int a7), (8, .int a8)] rfl ?_
      obtain ⟨t17, ht17, h⟩ := x_let_e h
      refine x_iinc t17 1 rfl ht17 dX5_mixPort_219 5 rfl (Nat.le_of_ble_eq_true rfl) [(8, .int t17), (4, .long z16), (9, .ref (w.2.2 d6 16 p6 (a8.toNatClampNeg))), (0, .ref (w.2.2 4 20 0 0)), (6, .ref (w.2.2 d6 14 p6 0)), (7, .int a7)] rfl ?_
      refine x_goto (tgt := 87) dX5_mixPort_222 rfl ?_
      refine x_sub (L1 := [(0, .ref (w.2.2 4 20 0 0)), (4, .long z16), (6, .ref (w.2.2 d6 14 p6 0)), (7, .int a7), (8, .int t17)]) [3, 1, 4, 5, 0] rfl ?_
      exact ih _ _ _ h
def fX5_mixPort (g1 : Int64) (d3 : Nat) (p3 : Nat) (σ : xS) : Option (Int64 × xS) :=
  x_b (fX2_guaranteeLeft d3 p3 σ) fun z1 s1 => x_let ((31 * g1) + z1.toInt64) fun t2 => x_let ((31 * t2) + ((s1 d3 13 p3 0 4).toInt64)) fun t3 => x_let ((31 * t3) + ((s1 d3 13 p3 0 7).toInt64)) fun t4 => x_let ((31 * t4) + ((s1 d3 13 p3 0 11).toInt64)) fun t5 => x_let ((31 * t5) + ((s1 d3 13 p3 0 10).toInt64)) fun t6 => BX5_mixPort_87 d3 p3 3 x_FU t6 0 s1
set_option maxRecDepth 100000 in
set_option maxHeartbeats 4000000 in
theorem eX5_mixPort {l : Launch} {w : xW} {g1 : Int64} {d3 : Nat} {p3 : Nat} (hd3 : d3 < 4) (hp3 : p3 < 6) {σ τ : xS} {r : Int64} (h : fX5_mixPort g1 d3 p3 σ = some (r, τ)) : xEV l w yX5_mixPort mX5_mixPort [.ref (w.2.2 4 20 0 0), .long g1, .ref (w.2.2 d3 13 p3 0)] σ (some (.long r)) τ := by
  rw [fX5_mixPort] at h
  refine x_enter (by decide +kernel) rfl (Nat.le_of_ble_eq_true rfl) ?_
  refine x_sub (L1 := [(0, .ref (w.2.2 4 20 0 0)), (1, .long g1), (3, .ref (w.2.2 d3 13 p3 0))]) [0, 1, 2] rfl ?_
  refine x_lload_n dX5_mixPort_0 rfl 1 rfl ?_
  refine x_lstore g1 rfl dX5_mixPort_1 (Nat.le_of_ble_eq_true rfl) [(4, .long g1), (0, .ref (w.2.2 4 20 0 0)), (1, .long g1), (3, .ref (w.2.2 d3 13 p3 0))] rfl ?_
  refine x_ldc2 (x := 31) dX5_mixPort_3 tk_X5_296 ?_
  refine x_lload dX5_mixPort_6 0 rfl ?_
  refine x_lmul dX5_mixPort_8 ?_
  refine x_aload_n dX5_mixPort_9 rfl 3 rfl ?_
  obtain ⟨z1, s1, h1, h⟩ := x_b_e h
  refine x_callV (As := []) (st := [.long (31 * g1)]) (eX2_guaranteeLeft hd3 hp3 h1) cv_X5_164 (Nat.le_of_ble_eq_true rfl) (ok_b (K := 13) (Nat.le_of_ble_eq_true rfl) (Nat.le_of_ble_eq_true rfl) hd3 hp3) rfl (Nat.le_of_ble_eq_true rfl) _ rfl dX5_mixPort_10 [.int z1, .long (31 * g1)] rfl ?_
  refine x_i2l dX5_mixPort_13 ?_
  refine x_ladd dX5_mixPort_14 ?_
  obtain ⟨t2, ht2, h⟩ := x_let_e h
  refine x_lstore t2 ht2 dX5_mixPort_15 (Nat.le_of_ble_eq_true rfl) [(4, .long t2), (0, .ref (w.2.2 4 20 0 0)), (1, .long g1), (3, .ref (w.2.2 d3 13 p3 0))] rfl ?_
  refine x_ldc2 (x := 31) dX5_mixPort_17 tk_X5_296 ?_
  refine x_lload dX5_mixPort_20 0 rfl ?_
  refine x_lmul dX5_mixPort_22 ?_
  refine x_aload_n dX5_mixPort_23 rfl 3 rfl ?_
  refine x_getI fl_X5_122 (ok_b (K := 13) (Nat.le_of_ble_eq_true rfl) (Nat.le_of_ble_eq_true rfl) hd3 hp3) rfl dX5_mixPort_24 ?_
  refine x_i2l dX5_mixPort_27 ?_
  refine x_ladd dX5_mixPort_28 ?_
  obtain ⟨t3, ht3, h⟩ := x_let_e h
  refine x_lstore t3 ht3 dX5_mixPort_29 (Nat.le_of_ble_eq_true rfl) [(4, .long t3), (0, .ref (w.2.2 4 20 0 0)), (1, .long g1), (3, .ref (w.2.2 d3 13 p3 0))] rfl ?_
  refine x_ldc2 (x := 31) dX5_mixPort_31 tk_X5_296 ?_
  refine x_lload dX5_mixPort_34 0 rfl ?_
  refine x_lmul dX5_mixPort_36 ?_
  refine x_aload_n dX5_mixPort_37 rfl 3 rfl ?_
  refine x_getI fl_X5_180 (ok_b (K := 13) (Nat.le_of_ble_eq_true rfl) (Nat.le_of_ble_eq_true rfl) hd3 hp3) rfl dX5_mixPort_38 ?_
  refine x_i2l dX5_mixPort_41 ?_
  refine x_ladd dX5_mixPort_42 ?_
  obtain ⟨t4, ht4, h⟩ := x_let_e h
  refine x_lstore t4 ht4 dX5_mixPort_43 (Nat.le_of_ble_eq_true rfl) [(4, .long t4), (0, .ref (w.2.2 4 20 0 0)), (1, .long g1), (3, .ref (w.2.2 d3 13 p3 0))] rfl ?_
  refine x_ldc2 (x := 31) dX5_mixPort_45 tk_X5_296 ?_
  refine x_lload dX5_mixPort_48 0 rfl ?_
  refine x_lmul dX5_mixPort_50 ?_
  refine x_aload_n dX5_mixPort_51 rfl 3 rfl ?_
  refine x_getI fl_X5_199 (ok_b (K := 13) (Nat.le_of_ble_eq_true rfl) (Nat.le_of_ble_eq_true rfl) hd3 hp3) rfl dX5_mixPort_52 ?_
  refine x_i2l dX5_mixPort_55 ?_
  refine x_ladd dX5_mixPort_56 ?_
  obtain ⟨t5, ht5, h⟩ := x_let_e h
  refine x_lstore t5 ht5 dX5_mixPort_57 (Nat.le_of_ble_eq_true rfl) [(4, .long t5), (0, .ref (w.2.2 4 20 0 0)), (1, .long g1), (3, .ref (w.2.2 d3 13 p3 0))] rfl ?_
  refine x_ldc2 (x := 31) dX5_mixPort_59 tk_X5_296 ?_
  refine x_lload dX5_mixPort_62 0 rfl ?_
  refine x_lmul dX5_mixPort_64 ?_
  refine x_aload_n dX5_mixPort_65 rfl 3 rfl ?_
  refine x_getI fl_X5_190 (ok_b (K := 13) (Nat.le_of_ble_eq_true rfl) (Nat.le_of_ble_eq_true rfl) hd3 hp3) rfl dX5_mixPort_66 ?_
  refine x_i2l dX5_mixPort_69 ?_
  refine x_ladd dX5_mixPort_70 ?_
  obtain ⟨t6, ht6, h⟩ := x_let_e h
  refine x_lstore t6 ht6 dX5_mixPort_71 (Nat.le_of_ble_eq_true rfl) [(4, .long t6), (0, .ref (w.2.2 4 20 0 0)), (1, .long g1), (3, .ref (w.2.2 d3 13 p3 0))] rfl ?_
  refine x_aload_n dX5_mixPort_73 rfl 3 rfl ?_
  refine x_getR (d1 := d3) (K1 := 14) (p1 := p3) (r1 := 0) fl_X5_310 (ok_b (K := 13) (Nat.le_of_ble_eq_true rfl) (Nat.le_of_ble_eq_true rfl) hd3 hp3) rfl dX5_mixPort_74 ?_
  refine x_astore dX5_mixPort_77 (Nat.le_of_ble_eq_true rfl) [(6, .ref (w.2.2 d3 14 p3 0)), (4, .long t6), (0, .ref (w.2.2 4 20 0 0)), (1, .long g1), (3, .ref (w.2.2 d3 13 p3 0))] rfl ?_
  refine x_aload dX5_mixPort_79 0 rfl ?_
  refine x_alen 3 rfl (Nat.le_of_ble_eq_true rfl) rfl (ok_b (K := 14) (Nat.le_of_ble_eq_true rfl) (Nat.le_of_ble_eq_true rfl) hd3 hp3) dX5_mixPort_81 ?_
  refine x_istore 3 rfl dX5_mixPort_82 (Nat.le_of_ble_eq_true rfl) [(7, .int 3), (6, .ref (w.2.2 d3 14 p3 0)), (4, .long t6), (0, .ref (w.2.2 4 20 0 0)), (1, .long g1), (3, .ref (w.2.2 d3 13 p3 0))] rfl ?_
  refine x_iconst (x := 0) dX5_mixPort_84 rfl ?_
  refine x_istore 0 rfl dX5_mixPort_85 (Nat.le_of_ble_eq_true rfl) [(8, .int 0), (7, .int 3), (6, .ref (w.2.2 d3 14 p3 0)), (4, .long t6), (0, .ref (w.2.2 4 20 0 0)), (1, .long g1), (3, .ref (w.2.2 d3 13 p3 0))] rfl ?_
  refine x_sub (L1 := [(0, .ref (w.2.2 4 20 0 0)), (4, .long t6), (6, .ref (w.2.2 d3 14 p3 0)), (7, .int 3), (8, .int 0)]) [4, 3, 2, 1, 0] rfl ?_
  exact TX5_mixPort_87 hd3 hp3 _ _ _ _ h
def BX5_checksum_109 (d3 : Nat) : Nat → Int64 → Int32 → xS → Option (Int64 × xS)
  | 0, _, _, _ => none
  | n + 1, g1, a4, σ => if (σ d3 1 0 0 0) ≤ a4 then (some (g1, σ)) else (x_b (fX1_startsRun d3 a4 σ) fun z7 s7 => if z7 = 0 then (x_let (a4 + 1) fun t8 => (BX5_checksum_109 d3 n) g1 t8 s7) else (x_let ((31 * g1) + a4.toInt64) fun t9 => x_b (fX1_freeLength d3 a4 s7) fun z10 s10 => x_let ((31 * t9) + z10.toInt64) fun t11 => x_let (a4 + 1) fun t12 => (BX5_checksum_109 d3 n) t11 t12 s10))
set_option maxRecDepth 100000 in
set_option maxHeartbeats 4000000 in
theorem TX5_checksum_109 {l : Launch} {w : xW} {d3 : Nat} (hd3 : d3 < 4) {τ : xS} {r : Int64} : ∀ (n : Nat) (g1 : Int64) (a4 : Int32) (σ : xS), BX5_checksum_109 d3 n g1 a4 σ = some (r, τ) → xAt l w mX5_checksum 109 [(1, .long g1), (3, .ref (w.2.2 d3 1 0 0)), (4, .int a4)] [] σ (some (.long r)) τ := by
  intro n
  induction n with
  | zero => intro g1 a4 σ h; cases h
  | succ n ih =>
    intro g1 a4 σ h
    rw [BX5_checksum_109] at h
    refine x_iload dX5_checksum_109 2 rfl ?_
    refine x_aload_n dX5_checksum_111 rfl 1 rfl ?_
    refine x_getI fl_X5_46 (ok_a (K := 1) (Nat.le_of_ble_eq_true rfl) hd3) rfl dX5_checksum_112 ?_
    refine x_icmp_ge (tgt := 157) dX5_checksum_115 rfl (fun hc => ?_) (fun hc => ?_)
    · have h := x_t hc h
      refine x_lload_n dX5_checksum_157 rfl 0 rfl ?_
      exact x_lretH rfl dX5_checksum_158 h
    · have h := x_f hc h
      refine x_aload_n dX5_checksum_118 rfl 1 rfl ?_
      refine x_iload dX5_checksum_119 2 rfl ?_
      obtain ⟨z7, s7, h7, h⟩ := x_b_e h
      refine x_callV (As := [.int a4]) (st := []) (eX1_startsRun hd3 h7) cv_X5_306 (Nat.le_of_ble_eq_true rfl) (ok_a (K := 1) (Nat.le_of_ble_eq_true rfl) hd3) rfl (Nat.le_of_ble_eq_true rfl) _ rfl dX5_checksum_121 [.int z7] rfl ?_
      refine x_if_eq (tgt := 151) dX5_checksum_124 rfl (fun hc => ?_) (fun hc => ?_)
      · have h := x_t hc h
        obtain ⟨t8, ht8, h⟩ := x_let_e h
        refine x_iinc t8 1 rfl ht8 dX5_checksum_151 2 rfl (Nat.le_of_ble_eq_true rfl) [(4, .int t8), (1, .long g1), (3, .ref (w.2.2 d3 1 0 0))] rfl ?_
        refine x_goto (tgt := 109) dX5_checksum_154 rfl ?_
        refine x_sub (L1 := [(1, .long g1), (3, .ref (w.2.2 d3 1 0 0)), (4, .int t8)]) [1, 2, 0] rfl ?_
        exact ih _ _ _ h
      · have h := x_f hc h
        refine x_ldc2 (x := 31) dX5_checksum_127 tk_X5_296 ?_
        refine x_lload_n dX5_checksum_130 rfl 0 rfl ?_
        refine x_lmul dX5_checksum_131 ?_
        refine x_iload dX5_checksum_132 2 rfl ?_
        refine x_i2l dX5_checksum_134 ?_
        refine x_ladd dX5_checksum_135 ?_
        obtain ⟨t9, ht9, h⟩ := x_let_e h
        refine x_lstore_n t9 ht9 dX5_checksum_136 rfl (Nat.le_of_ble_eq_true rfl) [(1, .long t9), (3, .ref (w.2.2 d3 1 0 0)), (4, .int a4)] rfl ?_
        refine x_ldc2 (x := 31) dX5_checksum_137 tk_X5_296 ?_
        refine x_lload_n dX5_checksum_140 rfl 0 rfl ?_
        refine x_lmul dX5_checksum_141 ?_
        refine x_aload_n dX5_checksum_142 rfl 1 rfl ?_
        refine x_iload dX5_checksum_143 2 rfl ?_
        obtain ⟨z10, s10, h10, h⟩ := x_b_e h
        refine x_callV (As := [.int a4]) (st := [.long (31 * t9)]) (eX1_freeLength hd3 h10) cv_X5_238 (Nat.le_of_ble_eq_true rfl) (ok_a (K := 1) (Nat.le_of_ble_eq_true rfl) hd3) rfl (Nat.le_of_ble_eq_true rfl) _ rfl dX5_checksum_145 [.int z10, .long (31 * t9)] rfl ?_
        refine x_i2l dX5_checksum_148 ?_
        refine x_ladd dX5_checksum_149 ?_
        obtain ⟨t11, ht11, h⟩ := x_let_e h
        refine x_lstore_n t11 ht11 dX5_checksum_150 rfl (Nat.le_of_ble_eq_true rfl) [(1, .long t11), (3, .ref (w.2.2 d3 1 0 0)), (4, .int a4)] rfl ?_
        obtain ⟨t12, ht12, h⟩ := x_let_e h
        refine x_iinc t12 1 rfl ht12 dX5_checksum_151 2 rfl (Nat.le_of_ble_eq_true rfl) [(4, .int t12), (1, .long t11), (3, .ref (w.2.2 d3 1 0 0))] rfl ?_
        refine x_goto (tgt := 109) dX5_checksum_154 rfl ?_
        refine x_sub (L1 := [(1, .long t11), (3, .ref (w.2.2 d3 1 0 0)), (4, .int t12)]) [1, 2, 0] rfl ?_
        exact ih _ _ _ h
def BX5_checksum_66 : Nat → Int64 → Int32 → xS → Option (Int64 × xS)
  | 0, _, _, _ => none
  | n + 1, g1, a3, σ => if (σ 0 0 0 0 2) ≤ a3 then (BX5_checksum_109 0 x_FU g1 0 σ) else (x_g (x_in a3 6) (x_b (fX5_mixPort g1 0 (a3.toNatClampNeg) σ) fun z14 s14 => x_let (a3 + 1) fun t15 => (BX5_checksum_66 n) z14 t15 s14))
set_option maxRecDepth 100000 in
set_option maxHeartbeats 4000000 in
theorem TX5_checksum_66 {l : Launch} {w : xW} {τ : xS} {r : Int64} : ∀ (n : Nat) (g1 : Int64) (a3 : Int32) (σ : xS), BX5_checksum_66 n g1 a3 σ = some (r, τ) → xAt l w mX5_checksum 66 [(0, .ref (w.2.2 4 20 0 0)), (1, .long g1), (3, .int a3)] [] σ (some (.long r)) τ := by
  intro n
  induction n with
  | zero => intro g1 a3 σ h; cases h
  | succ n ih =>
    intro g1 a3 σ h
    rw [BX5_checksum_66] at h
    refine x_iload_n dX5_checksum_66 rfl 2 rfl ?_
    refine x_aload_n dX5_checksum_67 rfl 0 rfl ?_
    refine x_getR (d1 := 0) (K1 := 0) (p1 := 0) (r1 := 0) fl_X5_10 ok_e20 rfl dX5_checksum_68 ?_
    refine x_getI fl_X5_140 (ok_a (K := 0) (Nat.le_of_ble_eq_true rfl) (Nat.le_of_ble_eq_true rfl)) rfl dX5_checksum_71 ?_
    refine x_icmp_ge (tgt := 98) dX5_checksum_74 rfl (fun hc => ?_) (fun hc => ?_)
    · have h := x_t hc h
      refine x_aload_n dX5_checksum_98 rfl 0 rfl ?_
      refine x_getR (d1 := 0) (K1 := 0) (p1 := 0) (r1 := 0) fl_X5_10 ok_e20 rfl dX5_checksum_99 ?_
      refine x_getR (d1 := 0) (K1 := 1) (p1 := 0) (r1 := 0) fl_X5_42 (ok_a (K := 0) (Nat.le_of_ble_eq_true rfl) (Nat.le_of_ble_eq_true rfl)) rfl dX5_checksum_102 ?_
      refine x_astore_n dX5_checksum_105 rfl (Nat.le_of_ble_eq_true rfl) [(3, .ref (w.2.2 0 1 0 0)), (0, .ref (w.2.2 4 20 0 0)), (1, .long g1)] rfl ?_
      refine x_iconst (x := 0) dX5_checksum_106 rfl ?_
      refine x_istore 0 rfl dX5_checksum_107 (Nat.le_of_ble_eq_true rfl) [(4, .int 0), (3, .ref (w.2.2 0 1 0 0)), (0, .ref (w.2.2 4 20 0 0)), (1, .long g1)] rfl ?_
      refine x_sub (L1 := [(1, .long g1), (3, .ref (w.2.2 0 1 0 0)), (4, .int 0)]) [3, 1, 0] rfl ?_
      exact TX5_checksum_109 (Nat.le_of_ble_eq_true rfl) _ _ _ _ h
    · have h := x_f hc h
      refine x_aload_n dX5_checksum_77 rfl 0 rfl ?_
      refine x_lload_n dX5_checksum_78 rfl 1 rfl ?_
      refine x_aload_n dX5_checksum_79 rfl 0 rfl ?_
      refine x_getR (d1 := 0) (K1 := 0) (p1 := 0) (r1 := 0) fl_X5_10 ok_e20 rfl dX5_checksum_80 ?_
      refine x_getR (d1 := 0) (K1 := 10) (p1 := 0) (r1 := 0) fl_X5_298 (ok_a (K := 0) (Nat.le_of_ble_eq_true rfl) (Nat.le_of_ble_eq_true rfl)) rfl dX5_checksum_83 ?_
      refine x_iload_n dX5_checksum_86 rfl 2 rfl ?_
      obtain ⟨hg13, h⟩ := x_g_e h
      refine x_aald (d1 := 0) (K1 := 13) (p1 := (a3.toNatClampNeg)) (r1 := 0) 6 a3.toNatClampNeg rfl 2 RX2 rfl rfl (Nat.le_of_ble_eq_true rfl) rfl rfl (ok_a (K := 10) (Nat.le_of_ble_eq_true rfl) (Nat.le_of_ble_eq_true rfl)) rfl hg13 dX5_checksum_87 ?_
      obtain ⟨z14, s14, h14, h⟩ := x_b_e h
      refine x_callV (As := [.long g1, .ref (w.2.2 0 13 (a3.toNatClampNeg) 0)]) (st := []) (eX5_mixPort (Nat.le_of_ble_eq_true rfl) (x_in_lt hg13) h14) cv_X5_302 (Nat.le_of_ble_eq_true rfl) ok_e20 rfl (Nat.le_of_ble_eq_true rfl) _ rfl dX5_checksum_88 [.long z14] rfl ?_
      refine x_lstore_n z14 rfl dX5_checksum_91 rfl (Nat.le_of_ble_eq_true rfl) [(1, .long z14), (0, .ref (w.2.2 4 20 0 0)), (3, .int a3)] rfl ?_
      obtain ⟨t15, ht15, h⟩ := x_let_e h
      refine x_iinc t15 1 rfl ht15 dX5_checksum_92 2 rfl (Nat.le_of_ble_eq_true rfl) [(3, .int t15), (1, .long z14), (0, .ref (w.2.2 4 20 0 0))] rfl ?_
      refine x_goto (tgt := 66) dX5_checksum_95 rfl ?_
      refine x_sub (L1 := [(0, .ref (w.2.2 4 20 0 0)), (1, .long z14), (3, .int t15)]) [2, 1, 0] rfl ?_
      exact ih _ _ _ h
def fX5_checksum (σ : xS) : Option (Int64 × xS) :=
  x_let ((31 * 7) + ((σ 0 0 0 0 4).toInt64)) fun t1 => x_let ((31 * t1) + ((σ 0 0 0 0 5).toInt64)) fun t2 => x_b (fX0_sharedLeft 0 σ) fun z3 s3 => x_let ((31 * t2) + z3.toInt64) fun t4 => x_b (fX0_poolSize 0 s3) fun z5 s5 => x_let ((31 * t4) + z5.toInt64) fun t6 => BX5_checksum_66 x_FU t6 0 s5
set_option maxRecDepth 100000 in
set_option maxHeartbeats 4000000 in
theorem eX5_checksum {l : Launch} {w : xW} {σ τ : xS} {r : Int64} (h : fX5_checksum σ = some (r, τ)) : xEV l w yX5_checksum mX5_checksum [.ref (w.2.2 4 20 0 0)] σ (some (.long r)) τ := by
  rw [fX5_checksum] at h
  refine x_enter (by decide +kernel) rfl (Nat.le_of_ble_eq_true rfl) ?_
  refine x_sub (L1 := [(0, .ref (w.2.2 4 20 0 0))]) [0] rfl ?_
  refine x_ldc2 (x := 7) dX5_checksum_0 tk_X5_294 ?_
  refine x_lstore_n 7 rfl dX5_checksum_3 rfl (Nat.le_of_ble_eq_true rfl) [(1, .long 7), (0, .ref (w.2.2 4 20 0 0))] rfl ?_
  refine x_ldc2 (x := 31) dX5_checksum_4 tk_X5_296 ?_
  refine x_lload_n dX5_checksum_7 rfl 0 rfl ?_
  refine x_lmul dX5_checksum_8 ?_
  refine x_aload_n dX5_checksum_9 rfl 1 rfl ?_
  refine x_getR (d1 := 0) (K1 := 0) (p1 := 0) (r1 := 0) fl_X5_10 ok_e20 rfl dX5_checksum_10 ?_
  refine x_getI fl_X5_205 (ok_a (K := 0) (Nat.le_of_ble_eq_true rfl) (Nat.le_of_ble_eq_true rfl)) rfl dX5_checksum_13 ?_
  refine x_i2l dX5_checksum_16 ?_
  refine x_ladd dX5_checksum_17 ?_
  obtain ⟨t1, ht1, h⟩ := x_let_e h
  refine x_lstore_n t1 ht1 dX5_checksum_18 rfl (Nat.le_of_ble_eq_true rfl) [(1, .long t1), (0, .ref (w.2.2 4 20 0 0))] rfl ?_
  refine x_ldc2 (x := 31) dX5_checksum_19 tk_X5_296 ?_
  refine x_lload_n dX5_checksum_22 rfl 0 rfl ?_
  refine x_lmul dX5_checksum_23 ?_
  refine x_aload_n dX5_checksum_24 rfl 1 rfl ?_
  refine x_getR (d1 := 0) (K1 := 0) (p1 := 0) (r1 := 0) fl_X5_10 ok_e20 rfl dX5_checksum_25 ?_
  refine x_getI fl_X5_202 (ok_a (K := 0) (Nat.le_of_ble_eq_true rfl) (Nat.le_of_ble_eq_true rfl)) rfl dX5_checksum_28 ?_
  refine x_i2l dX5_checksum_31 ?_
  refine x_ladd dX5_checksum_32 ?_
  obtain ⟨t2, ht2, h⟩ := x_let_e h
  refine x_lstore_n t2 ht2 dX5_checksum_33 rfl (Nat.le_of_ble_eq_true rfl) [(1, .long t2), (0, .ref (w.2.2 4 20 0 0))] rfl ?_
  refine x_ldc2 (x := 31) dX5_checksum_34 tk_X5_296 ?_
  refine x_lload_n dX5_checksum_37 rfl 0 rfl ?_
  refine x_lmul dX5_checksum_38 ?_
  refine x_aload_n dX5_checksum_39 rfl 1 rfl ?_
  refine x_getR (d1 := 0) (K1 := 0) (p1 := 0) (r1 := 0) fl_X5_10 ok_e20 rfl dX5_checksum_40 ?_
  obtain ⟨z3, s3, h3, h⟩ := x_b_e h
  refine x_callV (As := []) (st := [.long (31 * t2)]) (eX0_sharedLeft (Nat.le_of_ble_eq_true rfl) h3) cv_X5_61 (Nat.le_of_ble_eq_true rfl) (ok_a (K := 0) (Nat.le_of_ble_eq_true rfl) (Nat.le_of_ble_eq_true rfl)) rfl (Nat.le_of_ble_eq_true rfl) _ rfl dX5_checksum_43 [.int z3, .long (31 * t2)] rfl ?_
  refine x_i2l dX5_checksum_46 ?_
  refine x_ladd dX5_checksum_47 ?_
  obtain ⟨t4, ht4, h⟩ := x_let_e h
  refine x_lstore_n t4 ht4 dX5_checksum_48 rfl (Nat.le_of_ble_eq_true rfl) [(1, .long t4), (0, .ref (w.2.2 4 20 0 0))] rfl ?_
  refine x_ldc2 (x := 31) dX5_checksum_49 tk_X5_296 ?_
  refine x_lload_n dX5_checksum_52 rfl 0 rfl ?_
  refine x_lmul dX5_checksum_53 ?_
  refine x_aload_n dX5_checksum_54 rfl 1 rfl ?_
  refine x_getR (d1 := 0) (K1 := 0) (p1 := 0) (r1 := 0) fl_X5_10 ok_e20 rfl dX5_checksum_55 ?_
  obtain ⟨z5, s5, h5, h⟩ := x_b_e h
  refine x_callV (As := []) (st := [.long (31 * t4)]) (eX0_poolSize (Nat.le_of_ble_eq_true rfl) h5) cv_X5_161 (Nat.le_of_ble_eq_true rfl) (ok_a (K := 0) (Nat.le_of_ble_eq_true rfl) (Nat.le_of_ble_eq_true rfl)) rfl (Nat.le_of_ble_eq_true rfl) _ rfl dX5_checksum_58 [.int z5, .long (31 * t4)] rfl ?_
  refine x_i2l dX5_checksum_61 ?_
  refine x_ladd dX5_checksum_62 ?_
  obtain ⟨t6, ht6, h⟩ := x_let_e h
  refine x_lstore_n t6 ht6 dX5_checksum_63 rfl (Nat.le_of_ble_eq_true rfl) [(1, .long t6), (0, .ref (w.2.2 4 20 0 0))] rfl ?_
  refine x_iconst (x := 0) dX5_checksum_64 rfl ?_
  refine x_istore_n 0 rfl dX5_checksum_65 rfl (Nat.le_of_ble_eq_true rfl) [(3, .int 0), (1, .long t6), (0, .ref (w.2.2 4 20 0 0))] rfl ?_
  refine x_sub (L1 := [(0, .ref (w.2.2 4 20 0 0)), (1, .long t6), (3, .int 0)]) [2, 1, 0] rfl ?_
  exact TX5_checksum_66 _ _ _ _ h
