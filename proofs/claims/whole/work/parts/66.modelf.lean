set_option maxRecDepth 100000 in
set_option maxHeartbeats 4000000 in
theorem TX6_order_155 {l : Launch} {w : xW} (hw : w.1.2 = true) {a2 : Int32} {a3 : Int32} {a4 : Int32} {a5 : Int32} {τ : xS} {r : Unit} : ∀ (n : Nat) (a6 : Int32) (σ : xS), BX6_order_155 a2 a3 a4 a5 n a6 σ = some (r, τ) → xAt l w mX6_order 155 [(0, .ref (w.2.2 5 30 0 0)), (2, .int a2), (3, .int a3), (4, .int a4), (5, .int a5), (6, .int a6)] [] σ none τ := by
  intro n
  induction n with
  | zero => intro a6 σ h; cases h
  | succ n ih =>
    intro a6 σ h
    rw [BX6_order_155] at h
    refine x_iload dX6_order_155 5 rfl ?_
    refine x_iload dX6_order_157 4 rfl ?_
    refine x_icmp_ge (tgt := 205) dX6_order_159 rfl (fun hc => ?_) (fun hc => ?_)
    · have h := x_t hc h
      refine x_goto (tgt := 345) dX6_order_205 rfl ?_
      exact x_vretH rfl dX6_order_345 h
    · have h := x_f hc h
      refine x_aload_n dX6_order_162 rfl 0 rfl ?_
      obtain ⟨z5, s5, h5, h⟩ := x_b_e h
      refine x_callV (As := []) (st := []) (eX6_acts hw  h5) cv_X6_227 (Nat.le_of_ble_eq_true rfl) (ok_e30 hw) rfl (Nat.le_of_ble_eq_true rfl) _ rfl dX6_order_163 [.int z5] rfl ?_
      refine x_if_eq (tgt := 205) dX6_order_166 rfl (fun hc => ?_) (fun hc => ?_)
      · have h := x_t hc h
        refine x_goto (tgt := 345) dX6_order_205 rfl ?_
        exact x_vretH rfl dX6_order_345 h
      · have h := x_f hc h
        refine x_aload_n dX6_order_169 rfl 0 rfl ?_
        refine x_dup dX6_order_170 rfl ?_
        refine x_getI fl_X6_230 (ok_e30 hw) rfl dX6_order_171 ?_
        refine x_aload_n dX6_order_174 rfl 0 rfl ?_
        refine x_iconst (x := 3) dX6_order_175 rfl ?_
        refine x_iload_n dX6_order_176 rfl 1 rfl ?_
        refine x_imul dX6_order_177 ?_
        refine x_iload dX6_order_178 3 rfl ?_
        refine x_iadd dX6_order_180 ?_
        refine x_iload_n dX6_order_181 rfl 2 rfl ?_
        obtain ⟨z6, s6, h6, h⟩ := x_b_e h
        refine x_callV (As := [.int ((3 * a2) + a4), .int a3]) (st := [.int (s5 5 30 0 0 12), .ref (w.2.2 5 30 0 0)]) (eX6_arrives hw  h6) cv_X6_154 (Nat.le_of_ble_eq_true rfl) (ok_e30 hw) rfl (Nat.le_of_ble_eq_true rfl) _ rfl dX6_order_182 [.int z6, .int (s5 5 30 0 0 12), .ref (w.2.2 5 30 0 0)] rfl ?_
        refine x_bipush (x := (-6)) dX6_order_185 (by decide) ?_
        refine x_icmp_ne (tgt := 194) dX6_order_187 rfl (fun hc => ?_) (fun hc => ?_)
        · have h := x_f hc h
          refine x_iconst (x := 0) dX6_order_194 rfl ?_
          refine x_iadd dX6_order_195 ?_
          obtain ⟨s7, hs7, h⟩ := x_let_e h
          refine x_putI s7 hs7 fp_X6_230 (ok_e30 hw) rfl dX6_order_196 ?_
          obtain ⟨t8, ht8, h⟩ := x_let_e h
          refine x_iinc t8 1 rfl ht8 dX6_order_199 5 rfl (Nat.le_of_ble_eq_true rfl) [(6, .int t8), (0, .ref (w.2.2 5 30 0 0)), (2, .int a2), (3, .int a3), (4, .int a4), (5, .int a5)] rfl ?_
          refine x_goto (tgt := 155) dX6_order_202 rfl ?_
          refine x_sub (L1 := [(0, .ref (w.2.2 5 30 0 0)), (2, .int a2), (3, .int a3), (4, .int a4), (5, .int a5), (6, .int t8)]) [1, 2, 3, 4, 5, 0] rfl ?_
          exact ih _ _ h
        · have h := x_t hc h
          refine x_iconst (x := 1) dX6_order_190 rfl ?_
          refine x_goto (tgt := 195) dX6_order_191 rfl ?_
          refine x_iadd dX6_order_195 ?_
          obtain ⟨s9, hs9, h⟩ := x_let_e h
          refine x_putI s9 hs9 fp_X6_230 (ok_e30 hw) rfl dX6_order_196 ?_
          obtain ⟨t10, ht10, h⟩ := x_let_e h
          refine x_iinc t10 1 rfl ht10 dX6_order_199 5 rfl (Nat.le_of_ble_eq_true rfl) [(6, .int t10), (0, .ref (w.2.2 5 30 0 0)), (2, .int a2), (3, .int a3), (4, .int a4), (5, .int a5)] rfl ?_
          refine x_goto (tgt := 155) dX6_order_202 rfl ?_
          refine x_sub (L1 := [(0, .ref (w.2.2 5 30 0 0)), (2, .int a2), (3, .int a3), (4, .int a4), (5, .int a5), (6, .int t10)]) [1, 2, 3, 4, 5, 0] rfl ?_
          exact ih _ _ h
set_option maxRecDepth 100000 in
set_option maxHeartbeats 4000000 in
theorem TX6_order_109 {l : Launch} {w : xW} (hw : w.1.2 = true) {a2 : Int32} {a4 : Int32} {as0 : Int32} {σ τ : xS} {r : Unit} (h : BX6_order_109 a2 a4 as0 σ = some (r, τ)) : xAt l w mX6_order 109 [(0, .ref (w.2.2 5 30 0 0)), (2, .int a2), (4, .int a4)] [.int as0] σ none τ := by
  rw [BX6_order_109] at h
  refine x_istore_n as0 rfl dX6_order_109 rfl (Nat.le_of_ble_eq_true rfl) [(3, .int as0), (0, .ref (w.2.2 5 30 0 0)), (2, .int a2), (4, .int a4)] rfl ?_
  refine x_iconst (x := 1) dX6_order_110 rfl ?_
  refine x_istore 1 rfl dX6_order_111 (Nat.le_of_ble_eq_true rfl) [(5, .int 1), (3, .int as0), (0, .ref (w.2.2 5 30 0 0)), (2, .int a2), (4, .int a4)] rfl ?_
  refine x_aload_n dX6_order_113 rfl 2 rfl ?_
  refine x_getI fl_X6_208 (ok_e30 hw) rfl dX6_order_114 ?_
  refine x_if_ge (tgt := 148) dX6_order_117 rfl (fun hc => ?_) (fun hc => ?_)
  · have h := x_t hc h
    refine x_aload_n dX6_order_148 rfl 2 rfl ?_
    obtain ⟨z4, s4, h4, h⟩ := x_b_e h
    refine x_callV (As := []) (st := []) (eX6_ends hw  h4) cv_X6_224 (Nat.le_of_ble_eq_true rfl) (ok_e30 hw) rfl (Nat.le_of_ble_eq_true rfl) _ rfl dX6_order_149 [] rfl ?_
    refine x_iconst (x := 0) dX6_order_152 rfl ?_
    refine x_istore 0 rfl dX6_order_153 (Nat.le_of_ble_eq_true rfl) [(6, .int 0), (5, .int 1), (3, .int as0), (0, .ref (w.2.2 5 30 0 0)), (2, .int a2), (4, .int a4)] rfl ?_
    refine x_sub (L1 := [(0, .ref (w.2.2 5 30 0 0)), (2, .int a2), (3, .int as0), (4, .int a4), (5, .int 1), (6, .int 0)]) [3, 4, 2, 5, 1, 0] rfl ?_
    exact TX6_order_155 hw _ _ _ h
  · have h := x_f hc h
    refine x_aload_n dX6_order_120 rfl 2 rfl ?_
    obtain ⟨z11, s11, h11, h⟩ := x_b_e h
    refine x_callV (As := []) (st := []) (eX6_here hw  h11) cv_X6_205 (Nat.le_of_ble_eq_true rfl) (ok_e30 hw) rfl (Nat.le_of_ble_eq_true rfl) _ rfl dX6_order_121 [.int z11] rfl ?_
    refine x_bipush (x := 42) dX6_order_124 rfl ?_
    refine x_icmp_ne (tgt := 148) dX6_order_126 rfl (fun hc => ?_) (fun hc => ?_)
    · have h := x_f hc h
      refine x_aload_n dX6_order_148 rfl 2 rfl ?_
      obtain ⟨z12, s12, h12, h⟩ := x_b_e h
      refine x_callV (As := []) (st := []) (eX6_ends hw  h12) cv_X6_224 (Nat.le_of_ble_eq_true rfl) (ok_e30 hw) rfl (Nat.le_of_ble_eq_true rfl) _ rfl dX6_order_149 [] rfl ?_
      refine x_iconst (x := 0) dX6_order_152 rfl ?_
      refine x_istore 0 rfl dX6_order_153 (Nat.le_of_ble_eq_true rfl) [(6, .int 0), (5, .int 1), (3, .int as0), (0, .ref (w.2.2 5 30 0 0)), (2, .int a2), (4, .int a4)] rfl ?_
      refine x_sub (L1 := [(0, .ref (w.2.2 5 30 0 0)), (2, .int a2), (3, .int as0), (4, .int a4), (5, .int 1), (6, .int 0)]) [3, 4, 2, 5, 1, 0] rfl ?_
      exact TX6_order_155 hw _ _ _ h
    · have h := x_t hc h
      refine x_aload_n dX6_order_129 rfl 2 rfl ?_
      refine x_dup dX6_order_130 rfl ?_
      refine x_getI fl_X6_202 (ok_e30 hw) rfl dX6_order_131 ?_
      refine x_iconst (x := 1) dX6_order_134 rfl ?_
      refine x_iadd dX6_order_135 ?_
      obtain ⟨s13, hs13, h⟩ := x_let_e h
      refine x_putI s13 hs13 fp_X6_202 (ok_e30 hw) rfl dX6_order_136 ?_
      refine x_aload_n dX6_order_139 rfl 2 rfl ?_
      refine x_iconst (x := 2) dX6_order_140 rfl ?_
      refine x_bipush (x := 9) dX6_order_141 rfl ?_
      obtain ⟨z14, s14, h14, h⟩ := x_b_e h
      refine x_callV (As := [.int 2, .int 9]) (st := []) (eX6_number hw  h14) cv_X6_221 (Nat.le_of_ble_eq_true rfl) (ok_e30 hw) rfl (Nat.le_of_ble_eq_true rfl) _ rfl dX6_order_143 [.int z14] rfl ?_
      refine x_istore z14 rfl dX6_order_146 (Nat.le_of_ble_eq_true rfl) [(5, .int z14), (3, .int as0), (0, .ref (w.2.2 5 30 0 0)), (2, .int a2), (4, .int a4)] rfl ?_
      refine x_aload_n dX6_order_148 rfl 2 rfl ?_
      obtain ⟨z15, s15, h15, h⟩ := x_b_e h
      refine x_callV (As := []) (st := []) (eX6_ends hw  h15) cv_X6_224 (Nat.le_of_ble_eq_true rfl) (ok_e30 hw) rfl (Nat.le_of_ble_eq_true rfl) _ rfl dX6_order_149 [] rfl ?_
      refine x_iconst (x := 0) dX6_order_152 rfl ?_
      refine x_istore 0 rfl dX6_order_153 (Nat.le_of_ble_eq_true rfl) [(6, .int 0), (5, .int z14), (3, .int as0), (0, .ref (w.2.2 5 30 0 0)), (2, .int a2), (4, .int a4)] rfl ?_
      refine x_sub (L1 := [(0, .ref (w.2.2 5 30 0 0)), (2, .int a2), (3, .int as0), (4, .int a4), (5, .int z14), (6, .int 0)]) [3, 4, 2, 5, 1, 0] rfl ?_
      exact TX6_order_155 hw _ _ _ h
set_option maxRecDepth 100000 in
set_option maxHeartbeats 4000000 in
theorem TX6_order_313 {l : Launch} {w : xW} (hw : w.1.2 = true) {a2 : Int32} {as0 : Int32} {σ τ : xS} {r : Unit} (h : BX6_order_313 a2 as0 σ = some (r, τ)) : xAt l w mX6_order 313 [(0, .ref (w.2.2 5 30 0 0)), (2, .int a2)] [.int as0] σ none τ := by
  rw [BX6_order_313] at h
  refine x_istore_n as0 rfl dX6_order_313 rfl (Nat.le_of_ble_eq_true rfl) [(3, .int as0), (0, .ref (w.2.2 5 30 0 0)), (2, .int a2)] rfl ?_
  refine x_aload_n dX6_order_314 rfl 1 rfl ?_
  obtain ⟨z24, s24, h24, h⟩ := x_b_e h
  refine x_callV (As := []) (st := []) (eX6_ends hw  h24) cv_X6_224 (Nat.le_of_ble_eq_true rfl) (ok_e30 hw) rfl (Nat.le_of_ble_eq_true rfl) _ rfl dX6_order_315 [] rfl ?_
  refine x_aload_n dX6_order_318 rfl 1 rfl ?_
  obtain ⟨z25, s25, h25, h⟩ := x_b_e h
  refine x_callV (As := []) (st := []) (eX6_acts hw  h25) cv_X6_227 (Nat.le_of_ble_eq_true rfl) (ok_e30 hw) rfl (Nat.le_of_ble_eq_true rfl) _ rfl dX6_order_319 [.int z25] rfl ?_
  refine x_if_eq (tgt := 345) dX6_order_322 rfl (fun hc => ?_) (fun hc => ?_)
  · have h := x_t hc h
    exact x_vretH rfl dX6_order_345 h
  · have h := x_f hc h
    refine x_aload_n dX6_order_325 rfl 1 rfl ?_
    refine x_iload_n dX6_order_326 rfl 2 rfl ?_
    refine x_iload_n dX6_order_327 rfl 0 rfl ?_
    obtain ⟨z26, s26, h26, h⟩ := x_b_e h
    refine x_callV (As := [.int a2, .int as0]) (st := []) (eX6_grant hw  h26) cv_X6_236 (Nat.le_of_ble_eq_true rfl) (ok_e30 hw) rfl (Nat.le_of_ble_eq_true rfl) _ rfl dX6_order_328 [.int z26] rfl ?_
    refine x_pop dX6_order_331 rfl ?_
    refine x_goto (tgt := 345) dX6_order_332 rfl ?_
    exact x_vretH rfl dX6_order_345 h
set_option maxRecDepth 100000 in
set_option maxHeartbeats 4000000 in
theorem eX6_order {l : Launch} {w : xW} (hw : w.1.2 = true) {σ τ : xS} {r : Unit} (h : fX6_order σ = some (r, τ)) : xEV l w yX6_order mX6_order [.ref (w.2.2 5 30 0 0)] σ none τ := by
  rw [fX6_order] at h
  refine x_enter (by decide +kernel) rfl (Nat.le_of_ble_eq_true rfl) ?_
  refine x_sub (L1 := [(0, .ref (w.2.2 5 30 0 0))]) [0] rfl ?_
  refine x_aload_n dX6_order_0 rfl 0 rfl ?_
  obtain ⟨z1, s1, h1, h⟩ := x_b_e h
  refine x_callV (As := []) (st := []) (eX6_here hw  h1) cv_X6_205 (Nat.le_of_ble_eq_true rfl) (ok_e30 hw) rfl (Nat.le_of_ble_eq_true rfl) _ rfl dX6_order_1 [.int z1] rfl ?_
  refine x_istore_n z1 rfl dX6_order_4 rfl (Nat.le_of_ble_eq_true rfl) [(1, .int z1), (0, .ref (w.2.2 5 30 0 0))] rfl ?_
  refine x_aload_n dX6_order_5 rfl 1 rfl ?_
  refine x_dup dX6_order_6 rfl ?_
  refine x_getI fl_X6_202 (ok_e30 hw) rfl dX6_order_7 ?_
  refine x_iconst (x := 1) dX6_order_10 rfl ?_
  refine x_iadd dX6_order_11 ?_
  obtain ⟨s2, hs2, h⟩ := x_let_e h
  refine x_putI s2 hs2 fp_X6_202 (ok_e30 hw) rfl dX6_order_12 ?_
  refine x_iload_n dX6_order_15 rfl 0 rfl ?_
  by_cases hc97 : z1 = 97
  · have h := x_t hc97 h
    refine x_lookup (off := 44) (tgt := 60) dX6_order_16 rfl (by rw [hc97]; first | done | rfl) rfl ?_
    refine x_aload_n dX6_order_60 rfl 1 rfl ?_
    refine x_aload_n dX6_order_61 rfl 1 rfl ?_
    refine x_getR (d1 := 5) (K1 := 31) (p1 := 0) (r1 := 0) fl_X6_7 (ok_e30 hw) rfl dX6_order_62 ?_
    refine x_iconst (x := 1) dX6_order_65 rfl ?_
    refine x_iald 6464 1 rfl rfl rfl rfl (ok_e31 hw) rfl dX6_order_66 ?_
    refine x_iconst (x := 1) dX6_order_67 rfl ?_
    refine x_isub dX6_order_68 ?_
    obtain ⟨z3, s3, h3, h⟩ := x_b_e h
    refine x_callV (As := [.int ((s2 5 31 0 0 1) - 1)]) (st := []) (eX6_digit hw  h3) cv_X6_218 (Nat.le_of_ble_eq_true rfl) (ok_e30 hw) rfl (Nat.le_of_ble_eq_true rfl) _ rfl dX6_order_69 [.int z3] rfl ?_
    refine x_istore_n z3 rfl dX6_order_72 rfl (Nat.le_of_ble_eq_true rfl) [(2, .int z3), (1, .int z1), (0, .ref (w.2.2 5 30 0 0))] rfl ?_
    refine x_aload_n dX6_order_73 rfl 2 rfl ?_
    refine x_getI fl_X6_208 (ok_e30 hw) rfl dX6_order_74 ?_
    refine x_if_ge (tgt := 88) dX6_order_77 rfl (fun hc => ?_) (fun hc => ?_)
    · have h := x_t hc h
      refine x_iconst (x := 0) dX6_order_88 rfl ?_
      refine x_istore 0 rfl dX6_order_89 (Nat.le_of_ble_eq_true rfl) [(4, .int 0), (2, .int z3), (1, .int z1), (0, .ref (w.2.2 5 30 0 0))] rfl ?_
      refine x_aload_n dX6_order_91 rfl 3 rfl ?_
      refine x_getI fl_X6_208 (ok_e30 hw) rfl dX6_order_92 ?_
      refine x_if_ge (tgt := 108) dX6_order_95 rfl (fun hc => ?_) (fun hc => ?_)
      · have h := x_t hc h
        refine x_iconst (x := 0) dX6_order_108 rfl ?_
        refine x_sub (L1 := [(0, .ref (w.2.2 5 30 0 0)), (2, .int z3), (4, .int 0)]) [3, 1, 0] rfl ?_
        exact TX6_order_109 hw  h
      · have h := x_f hc h
        refine x_aload_n dX6_order_98 rfl 3 rfl ?_
        refine x_iconst (x := 1) dX6_order_99 rfl ?_
        refine x_bipush (x := 12) dX6_order_100 rfl ?_
        obtain ⟨z16, s16, h16, h⟩ := x_b_e h
        refine x_callV (As := [.int 1, .int 12]) (st := []) (eX6_number hw  h16) cv_X6_221 (Nat.le_of_ble_eq_true rfl) (ok_e30 hw) rfl (Nat.le_of_ble_eq_true rfl) _ rfl dX6_order_102 [.int z16] rfl ?_
        refine x_goto (tgt := 109) dX6_order_105 rfl ?_
        refine x_sub (L1 := [(0, .ref (w.2.2 5 30 0 0)), (2, .int z3), (4, .int 0)]) [3, 1, 0] rfl ?_
        exact TX6_order_109 hw  h
    · have h := x_f hc h
      refine x_aload_n dX6_order_80 rfl 2 rfl ?_
      refine x_iconst (x := 2) dX6_order_81 rfl ?_
      obtain ⟨z17, s17, h17, h⟩ := x_b_e h
      refine x_callV (As := [.int 2]) (st := []) (eX6_digit hw  h17) cv_X6_218 (Nat.le_of_ble_eq_true rfl) (ok_e30 hw) rfl (Nat.le_of_ble_eq_true rfl) _ rfl dX6_order_82 [.int z17] rfl ?_
      refine x_goto (tgt := 89) dX6_order_85 rfl ?_
      refine x_istore z17 rfl dX6_order_89 (Nat.le_of_ble_eq_true rfl) [(4, .int z17), (2, .int z3), (1, .int z1), (0, .ref (w.2.2 5 30 0 0))] rfl ?_
      refine x_aload_n dX6_order_91 rfl 3 rfl ?_
      refine x_getI fl_X6_208 (ok_e30 hw) rfl dX6_order_92 ?_
      refine x_if_ge (tgt := 108) dX6_order_95 rfl (fun hc => ?_) (fun hc => ?_)
      · have h := x_t hc h
        refine x_iconst (x := 0) dX6_order_108 rfl ?_
        refine x_sub (L1 := [(0, .ref (w.2.2 5 30 0 0)), (2, .int z3), (4, .int z17)]) [3, 1, 0] rfl ?_
        exact TX6_order_109 hw  h
      · have h := x_f hc h
        refine x_aload_n dX6_order_98 rfl 3 rfl ?_
        refine x_iconst (x := 1) dX6_order_99 rfl ?_
        refine x_bipush (x := 12) dX6_order_100 rfl ?_
        obtain ⟨z18, s18, h18, h⟩ := x_b_e h
        refine x_callV (As := [.int 1, .int 12]) (st := []) (eX6_number hw  h18) cv_X6_221 (Nat.le_of_ble_eq_true rfl) (ok_e30 hw) rfl (Nat.le_of_ble_eq_true rfl) _ rfl dX6_order_102 [.int z18] rfl ?_
        refine x_goto (tgt := 109) dX6_order_105 rfl ?_
        refine x_sub (L1 := [(0, .ref (w.2.2 5 30 0 0)), (2, .int z3), (4, .int z17)]) [3, 1, 0] rfl ?_
        exact TX6_order_109 hw  h
  · have h := x_f hc97 h
    by_cases hc102 : z1 = 102
    · have h := x_t hc102 h
      refine x_lookup (off := 220) (tgt := 236) dX6_order_16 rfl (by rw [hc102]; first | done | rfl) rfl ?_
      refine x_aload_n dX6_order_236 rfl 1 rfl ?_
      refine x_aload_n dX6_order_237 rfl 1 rfl ?_
      refine x_getR (d1 := 5) (K1 := 31) (p1 := 0) (r1 := 0) fl_X6_7 (ok_e30 hw) rfl dX6_order_238 ?_
      refine x_iconst (x := 1) dX6_order_241 rfl ?_
      refine x_iald 6464 1 rfl rfl rfl rfl (ok_e31 hw) rfl dX6_order_242 ?_
      refine x_iconst (x := 1) dX6_order_243 rfl ?_
      refine x_isub dX6_order_244 ?_
      obtain ⟨z19, s19, h19, h⟩ := x_b_e h
      refine x_callV (As := [.int ((s2 5 31 0 0 1) - 1)]) (st := []) (eX6_digit hw  h19) cv_X6_218 (Nat.le_of_ble_eq_true rfl) (ok_e30 hw) rfl (Nat.le_of_ble_eq_true rfl) _ rfl dX6_order_245 [.int z19] rfl ?_
      refine x_istore_n z19 rfl dX6_order_248 rfl (Nat.le_of_ble_eq_true rfl) [(2, .int z19), (1, .int z1), (0, .ref (w.2.2 5 30 0 0))] rfl ?_
      refine x_aload_n dX6_order_249 rfl 2 rfl ?_
      obtain ⟨z20, s20, h20, h⟩ := x_b_e h
      refine x_callV (As := []) (st := []) (eX6_ends hw  h20) cv_X6_224 (Nat.le_of_ble_eq_true rfl) (ok_e30 hw) rfl (Nat.le_of_ble_eq_true rfl) _ rfl dX6_order_250 [] rfl ?_
      refine x_aload_n dX6_order_253 rfl 2 rfl ?_
      obtain ⟨z21, s21, h21, h⟩ := x_b_e h
      refine x_callV (As := []) (st := []) (eX6_acts hw  h21) cv_X6_227 (Nat.le_of_ble_eq_true rfl) (ok_e30 hw) rfl (Nat.le_of_ble_eq_true rfl) _ rfl dX6_order_254 [.int z21] rfl ?_
      refine x_if_eq (tgt := 345) dX6_order_257 rfl (fun hc => ?_) (fun hc => ?_)
      · have h := x_t hc h
        exact x_vretH rfl dX6_order_345 h
      · have h := x_f hc h
        refine x_aload_n dX6_order_260 rfl 2 rfl ?_
        refine x_iload_n dX6_order_261 rfl 0 rfl ?_
        obtain ⟨z22, s22, h22, h⟩ := x_b_e h
        refine x_callV (As := [.int z19]) (st := []) (eX6_flushes hw  h22) cv_X6_172 (Nat.le_of_ble_eq_true rfl) (ok_e30 hw) rfl (Nat.le_of_ble_eq_true rfl) _ rfl dX6_order_262 [.int z22] rfl ?_
        refine x_pop dX6_order_265 rfl ?_
        refine x_goto (tgt := 345) dX6_order_266 rfl ?_
        exact x_vretH rfl dX6_order_345 h
    · have h := x_f hc102 h
      by_cases hc103 : z1 = 103
      · have h := x_t hc103 h
        refine x_lookup (off := 253) (tgt := 269) dX6_order_16 rfl (by rw [hc103]; first | done | rfl) rfl ?_
        refine x_aload_n dX6_order_269 rfl 1 rfl ?_
        refine x_aload_n dX6_order_270 rfl 1 rfl ?_
        refine x_getR (d1 := 5) (K1 := 31) (p1 := 0) (r1 := 0) fl_X6_7 (ok_e30 hw) rfl dX6_order_271 ?_
        refine x_iconst (x := 1) dX6_order_274 rfl ?_
        refine x_iald 6464 1 rfl rfl rfl rfl (ok_e31 hw) rfl dX6_order_275 ?_
        refine x_iconst (x := 1) dX6_order_276 rfl ?_
        refine x_isub dX6_order_277 ?_
        obtain ⟨z23, s23, h23, h⟩ := x_b_e h
        refine x_callV (As := [.int ((s2 5 31 0 0 1) - 1)]) (st := []) (eX6_digit hw  h23) cv_X6_218 (Nat.le_of_ble_eq_true rfl) (ok_e30 hw) rfl (Nat.le_of_ble_eq_true rfl) _ rfl dX6_order_278 [.int z23] rfl ?_
        refine x_istore_n z23 rfl dX6_order_281 rfl (Nat.le_of_ble_eq_true rfl) [(2, .int z23), (1, .int z1), (0, .ref (w.2.2 5 30 0 0))] rfl ?_
        refine x_aload_n dX6_order_282 rfl 2 rfl ?_
        refine x_getI fl_X6_208 (ok_e30 hw) rfl dX6_order_283 ?_
        refine x_if_ge (tgt := 295) dX6_order_286 rfl (fun hc => ?_) (fun hc => ?_)
        · have h := x_t hc h
          refine x_aload_n dX6_order_295 rfl 2 rfl ?_
          refine x_getI fl_X6_208 (ok_e30 hw) rfl dX6_order_296 ?_
          refine x_if_ge (tgt := 312) dX6_order_299 rfl (fun hc => ?_) (fun hc => ?_)
          · have h := x_t hc h
            refine x_iconst (x := 0) dX6_order_312 rfl ?_
            refine x_sub (L1 := [(0, .ref (w.2.2 5 30 0 0)), (2, .int z23)]) [2, 0] rfl ?_
            exact TX6_order_313 hw  h
          · have h := x_f hc h
            refine x_aload_n dX6_order_302 rfl 2 rfl ?_
            refine x_iconst (x := 1) dX6_order_303 rfl ?_
            refine x_bipush (x := 32) dX6_order_304 rfl ?_
            obtain ⟨z27, s27, h27, h⟩ := x_b_e h
            refine x_callV (As := [.int 1, .int 32]) (st := []) (eX6_number hw  h27) cv_X6_221 (Nat.le_of_ble_eq_true rfl) (ok_e30 hw) rfl (Nat.le_of_ble_eq_true rfl) _ rfl dX6_order_306 [.int z27] rfl ?_
            refine x_goto (tgt := 313) dX6_order_309 rfl ?_
            refine x_sub (L1 := [(0, .ref (w.2.2 5 30 0 0)), (2, .int z23)]) [2, 0] rfl ?_
            exact TX6_order_313 hw  h
        · have h := x_f hc h
          refine x_aload_n dX6_order_289 rfl 2 rfl ?_
          refine x_bipush (x := 44) dX6_order_290 rfl ?_
          obtain ⟨z28, s28, h28, h⟩ := x_b_e h
          refine x_callV (As := [.int 44]) (st := []) (eX6_sign hw  h28) cv_X6_233 (Nat.le_of_ble_eq_true rfl) (ok_e30 hw) rfl (Nat.le_of_ble_eq_true rfl) _ rfl dX6_order_292 [] rfl ?_
          refine x_aload_n dX6_order_295 rfl 2 rfl ?_
          refine x_getI fl_X6_208 (ok_e30 hw) rfl dX6_order_296 ?_
          refine x_if_ge (tgt := 312) dX6_order_299 rfl (fun hc => ?_) (fun hc => ?_)
          · have h := x_t hc h
            refine x_iconst (x := 0) dX6_order_312 rfl ?_
            refine x_sub (L1 := [(0, .ref (w.2.2 5 30 0 0)), (2, .int z23)]) [2, 0] rfl ?_
            exact TX6_order_313 hw  h
          · have h := x_f hc h
            refine x_aload_n dX6_order_302 rfl 2 rfl ?_
            refine x_iconst (x := 1) dX6_order_303 rfl ?_
            refine x_bipush (x := 32) dX6_order_304 rfl ?_
            obtain ⟨z29, s29, h29, h⟩ := x_b_e h
            refine x_callV (As := [.int 1, .int 32]) (st := []) (eX6_number hw  h29) cv_X6_221 (Nat.le_of_ble_eq_true rfl) (ok_e30 hw) rfl (Nat.le_of_ble_eq_true rfl) _ rfl dX6_order_306 [.int z29] rfl ?_
            refine x_goto (tgt := 313) dX6_order_309 rfl ?_
            refine x_sub (L1 := [(0, .ref (w.2.2 5 30 0 0)), (2, .int z23)]) [2, 0] rfl ?_
            exact TX6_order_313 hw  h
      · have h := x_f hc103 h
        by_cases hc116 : z1 = 116
        · have h := x_t hc116 h
          refine x_lookup (off := 192) (tgt := 208) dX6_order_16 rfl (by rw [hc116]; first | done | rfl) rfl ?_
          refine x_aload_n dX6_order_208 rfl 1 rfl ?_
          refine x_iconst (x := 1) dX6_order_209 rfl ?_
          refine x_bipush (x := 20) dX6_order_210 rfl ?_
          obtain ⟨z30, s30, h30, h⟩ := x_b_e h
          refine x_callV (As := [.int 1, .int 20]) (st := []) (eX6_number hw  h30) cv_X6_221 (Nat.le_of_ble_eq_true rfl) (ok_e30 hw) rfl (Nat.le_of_ble_eq_true rfl) _ rfl dX6_order_212 [.int z30] rfl ?_
          refine x_istore_n z30 rfl dX6_order_215 rfl (Nat.le_of_ble_eq_true rfl) [(3, .int z30), (1, .int z1), (0, .ref (w.2.2 5 30 0 0))] rfl ?_
          refine x_aload_n dX6_order_216 rfl 2 rfl ?_
          obtain ⟨z31, s31, h31, h⟩ := x_b_e h
          refine x_callV (As := []) (st := []) (eX6_ends hw  h31) cv_X6_224 (Nat.le_of_ble_eq_true rfl) (ok_e30 hw) rfl (Nat.le_of_ble_eq_true rfl) _ rfl dX6_order_217 [] rfl ?_
          refine x_aload_n dX6_order_220 rfl 2 rfl ?_
          obtain ⟨z32, s32, h32, h⟩ := x_b_e h
          refine x_callV (As := []) (st := []) (eX6_acts hw  h32) cv_X6_227 (Nat.le_of_ble_eq_true rfl) (ok_e30 hw) rfl (Nat.le_of_ble_eq_true rfl) _ rfl dX6_order_221 [.int z32] rfl ?_
          refine x_if_eq (tgt := 345) dX6_order_224 rfl (fun hc => ?_) (fun hc => ?_)
          · have h := x_t hc h
            exact x_vretH rfl dX6_order_345 h
          · have h := x_f hc h
            refine x_aload_n dX6_order_227 rfl 2 rfl ?_
            refine x_iload_n dX6_order_228 rfl 0 rfl ?_
            obtain ⟨z33, s33, h33, h⟩ := x_b_e h
            refine x_callV (As := [.int z30]) (st := []) (eX6_ticking hw  h33) cv_X6_169 (Nat.le_of_ble_eq_true rfl) (ok_e30 hw) rfl (Nat.le_of_ble_eq_true rfl) _ rfl dX6_order_229 [.int z33] rfl ?_
            refine x_pop dX6_order_232 rfl ?_
            refine x_goto (tgt := 345) dX6_order_233 rfl ?_
            exact x_vretH rfl dX6_order_345 h
        · have h := x_f hc116 h
          refine x_lookup (off := 319) (tgt := 335) dX6_order_16 rfl (by simp [Op.lookupswitch.offset, (x_ne_i 97 97 rfl hc97).symm, (x_ne_i 102 102 rfl hc102).symm, (x_ne_i 103 103 rfl hc103).symm, (x_ne_i 116 116 rfl hc116).symm]) rfl ?_
          refine x_aload_n dX6_order_335 rfl 1 rfl ?_
          refine x_aload_n dX6_order_336 rfl 1 rfl ?_
          refine x_getI fl_X6_202 (ok_e30 hw) rfl dX6_order_337 ?_
          refine x_iconst (x := 1) dX6_order_340 rfl ?_
          refine x_isub dX6_order_341 ?_
          obtain ⟨z34, s34, h34, h⟩ := x_b_e h
          refine x_callV (As := [.int ((s2 5 30 0 0 9) - 1)]) (st := []) (eX6_faults hw  h34) cv_X6_215 (Nat.le_of_ble_eq_true rfl) (ok_e30 hw) rfl (Nat.le_of_ble_eq_true rfl) _ rfl dX6_order_342 [] rfl ?_
          exact x_vretH rfl dX6_order_345 h
set_option maxRecDepth 100000 in
set_option maxHeartbeats 4000000 in
theorem TX6_reads_20 {l : Launch} {w : xW} (hw : w.1.2 = true) {τ : xS} {r : Unit} : ∀ (n : Nat) (σ : xS), BX6_reads_20 n σ = some (r, τ) → xAt l w mX6_reads 20 [(0, .ref (w.2.2 5 30 0 0))] [] σ none τ := by
  intro n
  induction n with
  | zero => intro σ h; cases h
  | succ n ih =>
    intro σ h
    rw [BX6_reads_20] at h
    refine x_aload_n dX6_reads_20 rfl 0 rfl ?_
    refine x_getI fl_X6_202 (ok_e30 hw) rfl dX6_reads_21 ?_
    refine x_aload_n dX6_reads_24 rfl 0 rfl ?_
    refine x_getI fl_X6_199 (ok_e30 hw) rfl dX6_reads_25 ?_
    refine x_icmp_ge (tgt := 45) dX6_reads_28 rfl (fun hc => ?_) (fun hc => ?_)
    · have h := x_t hc h
      exact x_vretH rfl dX6_reads_45 h
    · have h := x_f hc h
      refine x_aload_n dX6_reads_31 rfl 0 rfl ?_
      refine x_getI fl_X6_208 (ok_e30 hw) rfl dX6_reads_32 ?_
      refine x_if_ge (tgt := 45) dX6_reads_35 rfl (fun hc => ?_) (fun hc => ?_)
      · have h := x_t hc h
        exact x_vretH rfl dX6_reads_45 h
      · have h := x_f hc h
        refine x_aload_n dX6_reads_38 rfl 0 rfl ?_
        obtain ⟨z6, s6, h6, h⟩ := x_b_e h
        refine x_callV (As := []) (st := []) (eX6_order hw  h6) cv_X6_243 (Nat.le_of_ble_eq_true rfl) (ok_e30 hw) rfl (Nat.le_of_ble_eq_true rfl) _ rfl dX6_reads_39 [] rfl ?_
        refine x_goto (tgt := 20) dX6_reads_42 rfl ?_
        refine x_sub (L1 := [(0, .ref (w.2.2 5 30 0 0))]) [0] rfl ?_
        exact ih _ h
set_option maxRecDepth 100000 in
set_option maxHeartbeats 4000000 in
theorem eX6_reads {l : Launch} {w : xW} (hw : w.1.2 = true) {a1 : Int32} {σ τ : xS} {r : Unit} (h : fX6_reads a1 σ = some (r, τ)) : xEV l w yX6_reads mX6_reads [.ref (w.2.2 5 30 0 0), .int a1] σ none τ := by
  rw [fX6_reads] at h
  refine x_enter (by decide +kernel) rfl (Nat.le_of_ble_eq_true rfl) ?_
  refine x_sub (L1 := [(0, .ref (w.2.2 5 30 0 0)), (1, .int a1)]) [0, 1] rfl ?_
  refine x_aload_n dX6_reads_0 rfl 0 rfl ?_
  refine x_iconst (x := 0) dX6_reads_1 rfl ?_
  obtain ⟨s1, hs1, h⟩ := x_let_e h
  refine x_putI s1 hs1 fp_X6_202 (ok_e30 hw) rfl dX6_reads_2 ?_
  refine x_aload_n dX6_reads_5 rfl 0 rfl ?_
  refine x_iconst (x := (-1)) dX6_reads_6 (by decide) ?_
  obtain ⟨s2, hs2, h⟩ := x_let_e h
  refine x_putI s2 hs2 fp_X6_208 (ok_e30 hw) rfl dX6_reads_7 ?_
  refine x_aload_n dX6_reads_10 rfl 0 rfl ?_
  refine x_iload_n dX6_reads_11 rfl 1 rfl ?_
  obtain ⟨hg4, h⟩ := x_g_e h
  obtain ⟨s3, hs3, h⟩ := x_let_e h
  refine x_putZ s3 hs3 hg4 fp_X6_239 (ok_e30 hw) rfl dX6_reads_12 ?_
  refine x_aload_n dX6_reads_15 rfl 0 rfl ?_
  refine x_iconst (x := 0) dX6_reads_16 rfl ?_
  obtain ⟨s5, hs5, h⟩ := x_let_e h
  refine x_putI s5 hs5 fp_X6_230 (ok_e30 hw) rfl dX6_reads_17 ?_
  refine x_sub (L1 := [(0, .ref (w.2.2 5 30 0 0))]) [0] rfl ?_
  exact TX6_reads_20 hw _ _ h
set_option maxRecDepth 100000 in
set_option maxHeartbeats 4000000 in
theorem eX6_faultPosition {l : Launch} {w : xW} (hw : w.1.2 = true) {σ τ : xS} {r : Int32} (h : fX6_faultPosition σ = some (r, τ)) : xEV l w yX6_faultPosition mX6_faultPosition [.ref (w.2.2 5 30 0 0)] σ (some (.int r)) τ := by
  rw [fX6_faultPosition] at h
  refine x_enter (by decide +kernel) rfl (Nat.le_of_ble_eq_true rfl) ?_
  refine x_sub (L1 := [(0, .ref (w.2.2 5 30 0 0))]) [0] rfl ?_
  refine x_aload_n dX6_faultPosition_0 rfl 0 rfl ?_
  refine x_iconst (x := 0) dX6_faultPosition_1 rfl ?_
  obtain ⟨z1, s1, h1, h⟩ := x_b_e h
  refine x_callV (As := [.int 0]) (st := []) (eX6_reads hw  h1) cv_X6_246 (Nat.le_of_ble_eq_true rfl) (ok_e30 hw) rfl (Nat.le_of_ble_eq_true rfl) _ rfl dX6_faultPosition_2 [] rfl ?_
  refine x_aload_n dX6_faultPosition_5 rfl 0 rfl ?_
  refine x_getI fl_X6_208 (ok_e30 hw) rfl dX6_faultPosition_6 ?_
  refine x_if_ge (tgt := 17) dX6_faultPosition_9 rfl (fun hc => ?_) (fun hc => ?_)
  · have h := x_t hc h
    refine x_aload_n dX6_faultPosition_17 rfl 0 rfl ?_
    refine x_getI fl_X6_208 (ok_e30 hw) rfl dX6_faultPosition_18 ?_
    exact x_iretH rfl dX6_faultPosition_21 h
  · have h := x_f hc h
    refine x_bipush (x := (-5)) dX6_faultPosition_12 (by decide) ?_
    refine x_goto (tgt := 21) dX6_faultPosition_14 rfl ?_
    exact x_iretH rfl dX6_faultPosition_21 h
set_option maxRecDepth 100000 in
set_option maxHeartbeats 4000000 in
theorem eX6_run {l : Launch} {w : xW} (hw : w.1.2 = true) {σ τ : xS} {r : Int32} (h : fX6_run σ = some (r, τ)) : xEV l w yX6_run mX6_run [.ref (w.2.2 5 30 0 0)] σ (some (.int r)) τ := by
  rw [fX6_run] at h
  refine x_enter (by decide +kernel) rfl (Nat.le_of_ble_eq_true rfl) ?_
  refine x_sub (L1 := [(0, .ref (w.2.2 5 30 0 0))]) [0] rfl ?_
  refine x_aload_n dX6_run_0 rfl 0 rfl ?_
  refine x_iconst (x := 0) dX6_run_1 rfl ?_
  obtain ⟨z1, s1, h1, h⟩ := x_b_e h
  refine x_callV (As := [.int 0]) (st := []) (eX6_reads hw  h1) cv_X6_246 (Nat.le_of_ble_eq_true rfl) (ok_e30 hw) rfl (Nat.le_of_ble_eq_true rfl) _ rfl dX6_run_2 [] rfl ?_
  refine x_aload_n dX6_run_5 rfl 0 rfl ?_
  refine x_getI fl_X6_208 (ok_e30 hw) rfl dX6_run_6 ?_
  refine x_if_lt (tgt := 21) dX6_run_9 rfl (fun hc => ?_) (fun hc => ?_)
  · have h := x_t hc h
    refine x_aload_n dX6_run_21 rfl 0 rfl ?_
    refine x_iconst (x := 1) dX6_run_22 rfl ?_
    obtain ⟨z2, s2, h2, h⟩ := x_b_e h
    refine x_callV (As := [.int 1]) (st := []) (eX6_reads hw  h2) cv_X6_246 (Nat.le_of_ble_eq_true rfl) (ok_e30 hw) rfl (Nat.le_of_ble_eq_true rfl) _ rfl dX6_run_23 [] rfl ?_
    refine x_aload_n dX6_run_26 rfl 0 rfl ?_
    refine x_getI fl_X6_230 (ok_e30 hw) rfl dX6_run_27 ?_
    exact x_iretH rfl dX6_run_30 h
  · have h := x_f hc h
    refine x_sipush (x := (-1000)) dX6_run_12 (by decide) ?_
    refine x_aload_n dX6_run_15 rfl 0 rfl ?_
    refine x_getI fl_X6_208 (ok_e30 hw) rfl dX6_run_16 ?_
    refine x_isub dX6_run_19 ?_
    exact x_iretH rfl dX6_run_20 h
set_option maxRecDepth 100000 in
set_option maxHeartbeats 4000000 in
theorem TX6_save_13 {l : Launch} {w : xW} (hw : w.1.2 = true) {a1 : Int32} {τ : xS} {r : Int32} : ∀ (n : Nat) (a2 : Int32) (σ : xS), BX6_save_13 a1 n a2 σ = some (r, τ) → xAt l w mX6_save 13 [(0, .ref (w.2.2 5 30 0 0)), (1, .int a1), (2, .int a2)] [] σ (some (.int r)) τ := by
  intro n
  induction n with
  | zero => intro a2 σ h; cases h
  | succ n ih =>
    intro a2 σ h
    rw [BX6_save_13] at h
    refine x_iload_n dX6_save_13 rfl 2 rfl ?_
    refine x_sipush (x := 6464) dX6_save_14 rfl ?_
    refine x_icmp_ge (tgt := 44) dX6_save_17 rfl (fun hc => ?_) (fun hc => ?_)
    · have h := x_t hc h
      refine x_aload_n dX6_save_44 rfl 0 rfl ?_
      refine x_getR (d1 := 5) (K1 := 34) (p1 := 0) (r1 := 0) fl_X6_19 (ok_e30 hw) rfl dX6_save_45 ?_
      refine x_iload_n dX6_save_48 rfl 1 rfl ?_
      refine x_iconst (x := 1) dX6_save_49 rfl ?_
      obtain ⟨hg2, h⟩ := x_g_e h
      obtain ⟨s3, hs3, h⟩ := x_let_e h
      refine x_zast 2 a1.toNatClampNeg rfl s3 hs3 rfl rfl rfl rfl (ok_e34 hw) hg2 dX6_save_50 ?_
      refine x_aload_n dX6_save_51 rfl 0 rfl ?_
      refine x_getR (d1 := 5) (K1 := 31) (p1 := 0) (r1 := 0) fl_X6_7 (ok_e30 hw) rfl dX6_save_52 ?_
      refine x_iconst (x := 3) dX6_save_55 rfl ?_
      refine x_iald 6464 3 rfl rfl rfl rfl (ok_e31 hw) rfl dX6_save_56 ?_
      exact x_iretH rfl dX6_save_57 h
    · have h := x_f hc h
      refine x_aload_n dX6_save_20 rfl 0 rfl ?_
      refine x_getR (d1 := 5) (K1 := 33) (p1 := 0) (r1 := 0) fl_X6_16 (ok_e30 hw) rfl dX6_save_21 ?_
      refine x_sipush (x := 6464) dX6_save_24 rfl ?_
      refine x_iload_n dX6_save_27 rfl 1 rfl ?_
      refine x_imul dX6_save_28 ?_
      refine x_iload_n dX6_save_29 rfl 2 rfl ?_
      refine x_iadd dX6_save_30 ?_
      refine x_aload_n dX6_save_31 rfl 0 rfl ?_
      refine x_getR (d1 := 5) (K1 := 31) (p1 := 0) (r1 := 0) fl_X6_7 (ok_e30 hw) rfl dX6_save_32 ?_
      refine x_iload_n dX6_save_35 rfl 2 rfl ?_
      obtain ⟨hg4, h⟩ := x_g_e h
      refine x_iald 6464 a2.toNatClampNeg rfl rfl rfl rfl (ok_e31 hw) hg4 dX6_save_36 ?_
      obtain ⟨t5, ht5, h⟩ := x_let_e h
      refine x_nm2 t5 ht5 ?_
      obtain ⟨hg6, h⟩ := x_g_e h
      obtain ⟨s7, hs7, h⟩ := x_let_e h
      refine x_iast 12928 t5.toNatClampNeg rfl s7 hs7 rfl rfl rfl (ok_e33 hw) hg6 dX6_save_37 ?_
      obtain ⟨t8, ht8, h⟩ := x_let_e h
      refine x_iinc t8 1 rfl ht8 dX6_save_38 2 rfl (Nat.le_of_ble_eq_true rfl) [(2, .int t8), (0, .ref (w.2.2 5 30 0 0)), (1, .int a1)] rfl ?_
      refine x_goto (tgt := 13) dX6_save_41 rfl ?_
      refine x_sub (L1 := [(0, .ref (w.2.2 5 30 0 0)), (1, .int a1), (2, .int t8)]) [1, 2, 0] rfl ?_
      exact ih _ _ h
set_option maxRecDepth 100000 in
set_option maxHeartbeats 4000000 in
theorem eX6_save {l : Launch} {w : xW} (hw : w.1.2 = true) {a1 : Int32} {σ τ : xS} {r : Int32} (h : fX6_save a1 σ = some (r, τ)) : xEV l w yX6_save mX6_save [.ref (w.2.2 5 30 0 0), .int a1] σ (some (.int r)) τ := by
  rw [fX6_save] at h
  refine x_enter (by decide +kernel) rfl (Nat.le_of_ble_eq_true rfl) ?_
  refine x_sub (L1 := [(0, .ref (w.2.2 5 30 0 0)), (1, .int a1)]) [0, 1] rfl ?_
  refine x_iload_n dX6_save_0 rfl 1 rfl ?_
  refine x_iconst (x := 0) dX6_save_1 rfl ?_
  refine x_iconst (x := 1) dX6_save_2 rfl ?_
  obtain ⟨z1, s1, h1, h⟩ := x_b_e h
  refine x_callS (As := [.int a1, .int 0, .int 1]) (st := []) (eX6_in hw  h1) cs_X6_36 (Nat.le_of_ble_eq_true rfl) rfl (Nat.le_of_ble_eq_true rfl) _ rfl dX6_save_3 [.int z1] rfl ?_
  refine x_if_ne (tgt := 11) dX6_save_6 rfl (fun hc => ?_) (fun hc => ?_)
  · have h := x_f hc h
    refine x_iconst (x := 0) dX6_save_11 rfl ?_
    refine x_istore_n 0 rfl dX6_save_12 rfl (Nat.le_of_ble_eq_true rfl) [(2, .int 0), (0, .ref (w.2.2 5 30 0 0)), (1, .int a1)] rfl ?_
    refine x_sub (L1 := [(0, .ref (w.2.2 5 30 0 0)), (1, .int a1), (2, .int 0)]) [1, 2, 0] rfl ?_
    exact TX6_save_13 hw _ _ _ h
  · have h := x_t hc h
    refine x_iconst (x := (-1)) dX6_save_9 (by decide) ?_
    exact x_iretH rfl dX6_save_10 h
set_option maxRecDepth 100000 in
set_option maxHeartbeats 4000000 in
theorem TX6_restore_25 {l : Launch} {w : xW} (hw : w.1.2 = true) {a1 : Int32} {τ : xS} {r : Int32} : ∀ (n : Nat) (a2 : Int32) (σ : xS), BX6_restore_25 a1 n a2 σ = some (r, τ) → xAt l w mX6_restore 25 [(0, .ref (w.2.2 5 30 0 0)), (1, .int a1), (2, .int a2)] [] σ (some (.int r)) τ := by
  intro n
  induction n with
  | zero => intro a2 σ h; cases h
  | succ n ih =>
    intro a2 σ h
    rw [BX6_restore_25] at h
    refine x_iload_n dX6_restore_25 rfl 2 rfl ?_
    refine x_sipush (x := 6464) dX6_restore_26 rfl ?_
    refine x_icmp_ge (tgt := 56) dX6_restore_29 rfl (fun hc => ?_) (fun hc => ?_)
    · have h := x_t hc h
      refine x_aload_n dX6_restore_56 rfl 0 rfl ?_
      refine x_getR (d1 := 5) (K1 := 31) (p1 := 0) (r1 := 0) fl_X6_7 (ok_e30 hw) rfl dX6_restore_57 ?_
      refine x_iconst (x := 3) dX6_restore_60 rfl ?_
      refine x_iald 6464 3 rfl rfl rfl rfl (ok_e31 hw) rfl dX6_restore_61 ?_
      exact x_iretH rfl dX6_restore_62 h
    · have h := x_f hc h
      refine x_aload_n dX6_restore_32 rfl 0 rfl ?_
      refine x_getR (d1 := 5) (K1 := 31) (p1 := 0) (r1 := 0) fl_X6_7 (ok_e30 hw) rfl dX6_restore_33 ?_
      refine x_iload_n dX6_restore_36 rfl 2 rfl ?_
      refine x_aload_n dX6_restore_37 rfl 0 rfl ?_
      refine x_getR (d1 := 5) (K1 := 33) (p1 := 0) (r1 := 0) fl_X6_16 (ok_e30 hw) rfl dX6_restore_38 ?_
      refine x_sipush (x := 6464) dX6_restore_41 rfl ?_
      refine x_iload_n dX6_restore_44 rfl 1 rfl ?_
      refine x_imul dX6_restore_45 ?_
      refine x_iload_n dX6_restore_46 rfl 2 rfl ?_
      refine x_iadd dX6_restore_47 ?_
      obtain ⟨t3, ht3, h⟩ := x_let_e h
      refine x_nm t3 ht3 ?_
      obtain ⟨hg4, h⟩ := x_g_e h
      refine x_iald 12928 t3.toNatClampNeg rfl rfl rfl rfl (ok_e33 hw) hg4 dX6_restore_48 ?_
      obtain ⟨hg5, h⟩ := x_g_e h
      obtain ⟨s6, hs6, h⟩ := x_let_e h
      refine x_iast 6464 a2.toNatClampNeg rfl s6 hs6 rfl rfl rfl (ok_e31 hw) hg5 dX6_restore_49 ?_
      obtain ⟨t7, ht7, h⟩ := x_let_e h
      refine x_iinc t7 1 rfl ht7 dX6_restore_50 2 rfl (Nat.le_of_ble_eq_true rfl) [(2, .int t7), (0, .ref (w.2.2 5 30 0 0)), (1, .int a1)] rfl ?_
      refine x_goto (tgt := 25) dX6_restore_53 rfl ?_
      refine x_sub (L1 := [(0, .ref (w.2.2 5 30 0 0)), (1, .int a1), (2, .int t7)]) [1, 2, 0] rfl ?_
      exact ih _ _ h
set_option maxRecDepth 100000 in
set_option maxHeartbeats 4000000 in
theorem eX6_restore {l : Launch} {w : xW} (hw : w.1.2 = true) {a1 : Int32} {σ τ : xS} {r : Int32} (h : fX6_restore a1 σ = some (r, τ)) : xEV l w yX6_restore mX6_restore [.ref (w.2.2 5 30 0 0), .int a1] σ (some (.int r)) τ := by
  rw [fX6_restore] at h
  refine x_enter (by decide +kernel) rfl (Nat.le_of_ble_eq_true rfl) ?_
  refine x_sub (L1 := [(0, .ref (w.2.2 5 30 0 0)), (1, .int a1)]) [0, 1] rfl ?_
  refine x_iload_n dX6_restore_0 rfl 1 rfl ?_
  refine x_iconst (x := 0) dX6_restore_1 rfl ?_
  refine x_iconst (x := 1) dX6_restore_2 rfl ?_
  obtain ⟨z1, s1, h1, h⟩ := x_b_e h
  refine x_callS (As := [.int a1, .int 0, .int 1]) (st := []) (eX6_in hw  h1) cs_X6_36 (Nat.le_of_ble_eq_true rfl) rfl (Nat.le_of_ble_eq_true rfl) _ rfl dX6_restore_3 [.int z1] rfl ?_
  refine x_if_ne (tgt := 11) dX6_restore_6 rfl (fun hc => ?_) (fun hc => ?_)
  · have h := x_f hc h
    refine x_aload_n dX6_restore_11 rfl 0 rfl ?_
    refine x_getR (d1 := 5) (K1 := 34) (p1 := 0) (r1 := 0) fl_X6_19 (ok_e30 hw) rfl dX6_restore_12 ?_
    refine x_iload_n dX6_restore_15 rfl 1 rfl ?_
    obtain ⟨hg2, h⟩ := x_g_e h
    refine x_zald 2 a1.toNatClampNeg rfl rfl rfl rfl (ok_e34 hw) hg2 dX6_restore_16 ?_
    refine x_if_ne (tgt := 23) dX6_restore_17 rfl (fun hc => ?_) (fun hc => ?_)
    · have h := x_f hc h
      refine x_iconst (x := 0) dX6_restore_23 rfl ?_
      refine x_istore_n 0 rfl dX6_restore_24 rfl (Nat.le_of_ble_eq_true rfl) [(2, .int 0), (0, .ref (w.2.2 5 30 0 0)), (1, .int a1)] rfl ?_
      refine x_sub (L1 := [(0, .ref (w.2.2 5 30 0 0)), (1, .int a1), (2, .int 0)]) [1, 2, 0] rfl ?_
      exact TX6_restore_25 hw _ _ _ h
    · have h := x_t hc h
      refine x_bipush (x := (-5)) dX6_restore_20 (by decide) ?_
      exact x_iretH rfl dX6_restore_22 h
  · have h := x_t hc h
    refine x_iconst (x := (-1)) dX6_restore_9 (by decide) ?_
    exact x_iretH rfl dX6_restore_10 h
set_option maxRecDepth 100000 in
set_option maxHeartbeats 4000000 in
theorem eX6_sumOf {l : Launch} {w : xW} (hw : w.1.2 = true) {g1 : Int64} {a3 : Int32} {σ τ : xS} {r : Int64} (h : fX6_sumOf g1 a3 σ = some (r, τ)) : xEV l w yX6_sumOf mX6_sumOf [.ref (w.2.2 5 30 0 0), .long g1, .int a3] σ (some (.long r)) τ := by
  rw [fX6_sumOf] at h
  refine x_enter (by decide +kernel) rfl (Nat.le_of_ble_eq_true rfl) ?_
  refine x_sub (L1 := [(0, .ref (w.2.2 5 30 0 0)), (1, .long g1), (3, .int a3)]) [0, 1, 2] rfl ?_
  refine x_ldc2 (x := 31) dX6_sumOf_0 tk_X6_250 ?_
  refine x_lload_n dX6_sumOf_3 rfl 1 rfl ?_
  refine x_lmul dX6_sumOf_4 ?_
  refine x_iload_n dX6_sumOf_5 rfl 2 rfl ?_
  refine x_i2l dX6_sumOf_6 ?_
  refine x_ladd dX6_sumOf_7 ?_
  exact x_lretH rfl dX6_sumOf_8 h
set_option maxRecDepth 100000 in
set_option maxHeartbeats 4000000 in
theorem TX6_sumOfQueue_155 {l : Launch} {w : xW} (hw : w.1.2 = true) {a3 : Int32} {a6 : Int32} {a7 : Int32} {k104 : Int64 → Int32 → xS → Option (Int64 × xS)} {τ : xS} {r : Int64} (hk104 : ∀ (g4 : Int64) (a6 : Int32) (σ1 : xS), k104 g4 a6 σ1 = some (r, τ) → xAt l w mX6_sumOfQueue 104 [(0, .ref (w.2.2 5 30 0 0)), (3, .int a3), (4, .long g4), (6, .int a6)] [] σ1 (some (.long r)) τ) : ∀ (n : Nat) (g4 : Int64) (a8 : Int32) (σ : xS), BX6_sumOfQueue_155 a3 a6 a7 k104 n g4 a8 σ = some (r, τ) → xAt l w mX6_sumOfQueue 155 [(0, .ref (w.2.2 5 30 0 0)), (3, .int a3), (4, .long g4), (6, .int a6), (7, .int a7), (8, .int a8)] [] σ (some (.long r)) τ := by
  intro n
  induction n with
  | zero => intro g4 a8 σ h; cases h
  | succ n ih =>
    intro g4 a8 σ h
    rw [BX6_sumOfQueue_155] at h
    refine x_iload dX6_sumOfQueue_155 5 rfl ?_
    refine x_aload_n dX6_sumOfQueue_157 rfl 0 rfl ?_
    refine x_getR (d1 := 5) (K1 := 31) (p1 := 0) (r1 := 0) fl_X6_7 (ok_e30 hw) rfl dX6_sumOfQueue_158 ?_
    refine x_iload dX6_sumOfQueue_161 4 rfl ?_
    refine x_iconst (x := 2) dX6_sumOfQueue_163 rfl ?_
    obtain ⟨z21, s21, h21, h⟩ := x_b_e h
    refine x_callS (As := [.int a7, .int 2]) (st := [.ref (w.2.2 5 31 0 0), .int a8]) (eX6_packet hw  h21) cs_X6_92 (Nat.le_of_ble_eq_true rfl) rfl (Nat.le_of_ble_eq_true rfl) _ rfl dX6_sumOfQueue_164 [.int z21, .ref (w.2.2 5 31 0 0), .int a8] rfl ?_
    obtain ⟨hg22, h⟩ := x_g_e h
    refine x_iald 6464 z21.toNatClampNeg rfl rfl rfl rfl (ok_e31 hw) hg22 dX6_sumOfQueue_167 ?_
    refine x_icmp_ge (tgt := 199) dX6_sumOfQueue_168 rfl (fun hc => ?_) (fun hc => ?_)
    · have h := x_t hc h
      obtain ⟨t23, ht23, h⟩ := x_let_e h
      refine x_iinc t23 1 rfl ht23 dX6_sumOfQueue_199 3 rfl (Nat.le_of_ble_eq_true rfl) [(6, .int t23), (0, .ref (w.2.2 5 30 0 0)), (3, .int a3), (4, .long g4), (7, .int a7), (8, .int a8)] rfl ?_
      refine x_goto (tgt := 104) dX6_sumOfQueue_202 rfl ?_
      refine x_sub (L1 := [(0, .ref (w.2.2 5 30 0 0)), (3, .int a3), (4, .long g4), (6, .int t23)]) [1, 2, 3, 0] rfl ?_
      exact hk104 _ _ _ h
    · have h := x_f hc h
      refine x_aload_n dX6_sumOfQueue_171 rfl 0 rfl ?_
      refine x_lload dX6_sumOfQueue_172 2 rfl ?_
      refine x_aload_n dX6_sumOfQueue_174 rfl 0 rfl ?_
      refine x_getR (d1 := 5) (K1 := 31) (p1 := 0) (r1 := 0) fl_X6_7 (ok_e30 hw) rfl dX6_sumOfQueue_175 ?_
      refine x_iload dX6_sumOfQueue_178 4 rfl ?_
      refine x_iconst (x := 4) dX6_sumOfQueue_180 rfl ?_
      refine x_iload dX6_sumOfQueue_181 5 rfl ?_
      refine x_iadd dX6_sumOfQueue_183 ?_
      obtain ⟨z24, s24, h24, h⟩ := x_b_e h
      refine x_callS (As := [.int a7, .int (4 + a8)]) (st := [.ref (w.2.2 5 31 0 0), .long g4, .ref (w.2.2 5 30 0 0)]) (eX6_packet hw  h24) cs_X6_92 (Nat.le_of_ble_eq_true rfl) rfl (Nat.le_of_ble_eq_true rfl) _ rfl dX6_sumOfQueue_184 [.int z24, .ref (w.2.2 5 31 0 0), .long g4, .ref (w.2.2 5 30 0 0)] rfl ?_
      obtain ⟨hg25, h⟩ := x_g_e h
      refine x_iald 6464 z24.toNatClampNeg rfl rfl rfl rfl (ok_e31 hw) hg25 dX6_sumOfQueue_187 ?_
      obtain ⟨z26, s26, h26, h⟩ := x_b_e h
      refine x_callV (As := [.long g4, .int (s24 5 31 0 0 z24.toNatClampNeg)]) (st := []) (eX6_sumOf hw  h26) cv_X6_252 (Nat.le_of_ble_eq_true rfl) (ok_e30 hw) rfl (Nat.le_of_ble_eq_true rfl) _ rfl dX6_sumOfQueue_188 [.long z26] rfl ?_
      refine x_lstore z26 rfl dX6_sumOfQueue_191 (Nat.le_of_ble_eq_true rfl) [(4, .long z26), (0, .ref (w.2.2 5 30 0 0)), (3, .int a3), (6, .int a6), (7, .int a7), (8, .int a8)] rfl ?_
      obtain ⟨t27, ht27, h⟩ := x_let_e h
      refine x_iinc t27 1 rfl ht27 dX6_sumOfQueue_193 5 rfl (Nat.le_of_ble_eq_true rfl) [(8, .int t27), (4, .long z26), (0, .ref (w.2.2 5 30 0 0)), (3, .int a3), (6, .int a6), (7, .int a7)] rfl ?_
      refine x_goto (tgt := 155) dX6_sumOfQueue_196 rfl ?_
      refine x_sub (L1 := [(0, .ref (w.2.2 5 30 0 0)), (3, .int a3), (4, .long z26), (6, .int a6), (7, .int a7), (8, .int t27)]) [2, 3, 1, 4, 5, 0] rfl ?_
      exact ih _ _ _ h
set_option maxRecDepth 100000 in
set_option maxHeartbeats 4000000 in
theorem TX6_sumOfQueue_104 {l : Launch} {w : xW} (hw : w.1.2 = true) {a3 : Int32} {τ : xS} {r : Int64} : ∀ (n : Nat) (g4 : Int64) (a6 : Int32) (σ : xS), BX6_sumOfQueue_104 a3 n g4 a6 σ = some (r, τ) → xAt l w mX6_sumOfQueue 104 [(0, .ref (w.2.2 5 30 0 0)), (3, .int a3), (4, .long g4), (6, .int a6)] [] σ (some (.long r)) τ := by
  intro n
  induction n with
  | zero => intro g4 a6 σ h; cases h
  | succ n ih =>
    intro g4 a6 σ h
    rw [BX6_sumOfQueue_104] at h
    refine x_iload dX6_sumOfQueue_104 3 rfl ?_
    refine x_aload_n dX6_sumOfQueue_106 rfl 0 rfl ?_
    refine x_getR (d1 := 5) (K1 := 31) (p1 := 0) (r1 := 0) fl_X6_7 (ok_e30 hw) rfl dX6_sumOfQueue_107 ?_
    refine x_iload_n dX6_sumOfQueue_110 rfl 1 rfl ?_
    refine x_bipush (x := 12) dX6_sumOfQueue_111 rfl ?_
    obtain ⟨z13, s13, h13, h⟩ := x_b_e h
    refine x_callS (As := [.int a3, .int 12]) (st := [.ref (w.2.2 5 31 0 0), .int a6]) (eX6_queue hw  h13) cs_X6_48 (Nat.le_of_ble_eq_true rfl) rfl (Nat.le_of_ble_eq_true rfl) _ rfl dX6_sumOfQueue_113 [.int z13, .ref (w.2.2 5 31 0 0), .int a6] rfl ?_
    obtain ⟨hg14, h⟩ := x_g_e h
    refine x_iald 6464 z13.toNatClampNeg rfl rfl rfl rfl (ok_e31 hw) hg14 dX6_sumOfQueue_116 ?_
    refine x_icmp_ge (tgt := 205) dX6_sumOfQueue_117 rfl (fun hc => ?_) (fun hc => ?_)
    · have h := x_t hc h
      refine x_lload dX6_sumOfQueue_205 2 rfl ?_
      exact x_lretH rfl dX6_sumOfQueue_207 h
    · have h := x_f hc h
      refine x_aload_n dX6_sumOfQueue_120 rfl 0 rfl ?_
      refine x_getR (d1 := 5) (K1 := 31) (p1 := 0) (r1 := 0) fl_X6_7 (ok_e30 hw) rfl dX6_sumOfQueue_121 ?_
      refine x_iload_n dX6_sumOfQueue_124 rfl 1 rfl ?_
      refine x_iload dX6_sumOfQueue_125 3 rfl ?_
      obtain ⟨z15, s15, h15, h⟩ := x_b_e h
      refine x_callS (As := [.int a3, .int a6]) (st := [.ref (w.2.2 5 31 0 0)]) (eX6_entry hw  h15) cs_X6_107 (Nat.le_of_ble_eq_true rfl) rfl (Nat.le_of_ble_eq_true rfl) _ rfl dX6_sumOfQueue_127 [.int z15, .ref (w.2.2 5 31 0 0)] rfl ?_
      obtain ⟨hg16, h⟩ := x_g_e h
      refine x_iald 6464 z15.toNatClampNeg rfl rfl rfl rfl (ok_e31 hw) hg16 dX6_sumOfQueue_130 ?_
      obtain ⟨t17, ht17, h⟩ := x_let_e h
      refine x_istore t17 ht17 dX6_sumOfQueue_131 (Nat.le_of_ble_eq_true rfl) [(7, .int t17), (0, .ref (w.2.2 5 30 0 0)), (3, .int a3), (4, .long g4), (6, .int a6)] rfl ?_
      refine x_aload_n dX6_sumOfQueue_133 rfl 1 rfl ?_
      refine x_lload dX6_sumOfQueue_134 3 rfl ?_
      refine x_aload_n dX6_sumOfQueue_136 rfl 1 rfl ?_
      refine x_getR (d1 := 5) (K1 := 31) (p1 := 0) (r1 := 0) fl_X6_7 (ok_e30 hw) rfl dX6_sumOfQueue_137 ?_
      refine x_iload dX6_sumOfQueue_140 0 rfl ?_
      refine x_iconst (x := 0) dX6_sumOfQueue_142 rfl ?_
      obtain ⟨z18, s18, h18, h⟩ := x_b_e h
      refine x_callS (As := [.int t17, .int 0]) (st := [.ref (w.2.2 5 31 0 0), .long g4, .ref (w.2.2 5 30 0 0)]) (eX6_packet hw  h18) cs_X6_92 (Nat.le_of_ble_eq_true rfl) rfl (Nat.le_of_ble_eq_true rfl) _ rfl dX6_sumOfQueue_143 [.int z18, .ref (w.2.2 5 31 0 0), .long g4, .ref (w.2.2 5 30 0 0)] rfl ?_
      obtain ⟨hg19, h⟩ := x_g_e h
      refine x_iald 6464 z18.toNatClampNeg rfl rfl rfl rfl (ok_e31 hw) hg19 dX6_sumOfQueue_146 ?_
      obtain ⟨z20, s20, h20, h⟩ := x_b_e h
      refine x_callV (As := [.long g4, .int (s18 5 31 0 0 z18.toNatClampNeg)]) (st := []) (eX6_sumOf hw  h20) cv_X6_252 (Nat.le_of_ble_eq_true rfl) (ok_e30 hw) rfl (Nat.le_of_ble_eq_true rfl) _ rfl dX6_sumOfQueue_147 [.long z20] rfl ?_
      refine x_lstore z20 rfl dX6_sumOfQueue_150 (Nat.le_of_ble_eq_true rfl) [(4, .long z20), (7, .int t17), (0, .ref (w.2.2 5 30 0 0)), (3, .int a3), (6, .int a6)] rfl ?_
      refine x_iconst (x := 0) dX6_sumOfQueue_152 rfl ?_
      refine x_istore 0 rfl dX6_sumOfQueue_153 (Nat.le_of_ble_eq_true rfl) [(8, .int 0), (4, .long z20), (7, .int t17), (0, .ref (w.2.2 5 30 0 0)), (3, .int a3), (6, .int a6)] rfl ?_
      refine x_sub (L1 := [(0, .ref (w.2.2 5 30 0 0)), (3, .int a3), (4, .long z20), (6, .int a6), (7, .int t17), (8, .int 0)]) [3, 4, 1, 5, 2, 0] rfl ?_
      exact TX6_sumOfQueue_155 hw ih _ _ _ _ h
set_option maxRecDepth 100000 in
set_option maxHeartbeats 4000000 in
theorem TX6_sumOfQueue_7 {l : Launch} {w : xW} (hw : w.1.2 = true) {a3 : Int32} {τ : xS} {r : Int64} : ∀ (n : Nat) (g4 : Int64) (a6 : Int32) (σ : xS), BX6_sumOfQueue_7 a3 n g4 a6 σ = some (r, τ) → xAt l w mX6_sumOfQueue 7 [(0, .ref (w.2.2 5 30 0 0)), (3, .int a3), (4, .long g4), (6, .int a6)] [] σ (some (.long r)) τ := by
  intro n
  induction n with
  | zero => intro g4 a6 σ h; cases h
  | succ n ih =>
    intro g4 a6 σ h
    rw [BX6_sumOfQueue_7] at h
    refine x_iload dX6_sumOfQueue_7 3 rfl ?_
    refine x_bipush (x := 8) dX6_sumOfQueue_9 rfl ?_
    refine x_icmp_gt (tgt := 39) dX6_sumOfQueue_11 rfl (fun hc => ?_) (fun hc => ?_)
    · have h := x_t hc h
      refine x_aload_n dX6_sumOfQueue_39 rfl 0 rfl ?_
      refine x_aload_n dX6_sumOfQueue_40 rfl 0 rfl ?_
      refine x_aload_n dX6_sumOfQueue_41 rfl 0 rfl ?_
      refine x_aload_n dX6_sumOfQueue_42 rfl 0 rfl ?_
      refine x_lload dX6_sumOfQueue_43 2 rfl ?_
      refine x_aload_n dX6_sumOfQueue_45 rfl 0 rfl ?_
      refine x_getR (d1 := 5) (K1 := 31) (p1 := 0) (r1 := 0) fl_X6_7 (ok_e30 hw) rfl dX6_sumOfQueue_46 ?_
      refine x_iload_n dX6_sumOfQueue_49 rfl 1 rfl ?_
      refine x_iconst (x := 3) dX6_sumOfQueue_50 rfl ?_
      obtain ⟨z1, s1, h1, h⟩ := x_b_e h
      refine x_callS (As := [.int a3, .int 3]) (st := [.ref (w.2.2 5 31 0 0), .long g4, .ref (w.2.2 5 30 0 0), .ref (w.2.2 5 30 0 0), .ref (w.2.2 5 30 0 0), .ref (w.2.2 5 30 0 0)]) (eX6_queue hw  h1) cs_X6_48 (Nat.le_of_ble_eq_true rfl) rfl (Nat.le_of_ble_eq_true rfl) _ rfl dX6_sumOfQueue_51 [.int z1, .ref (w.2.2 5 31 0 0), .long g4, .ref (w.2.2 5 30 0 0), .ref (w.2.2 5 30 0 0), .ref (w.2.2 5 30 0 0), .ref (w.2.2 5 30 0 0)] rfl ?_
      obtain ⟨hg2, h⟩ := x_g_e h
      refine x_iald 6464 z1.toNatClampNeg rfl rfl rfl rfl (ok_e31 hw) hg2 dX6_sumOfQueue_54 ?_
      obtain ⟨z3, s3, h3, h⟩ := x_b_e h
      refine x_callV (As := [.long g4, .int (s1 5 31 0 0 z1.toNatClampNeg)]) (st := [.ref (w.2.2 5 30 0 0), .ref (w.2.2 5 30 0 0), .ref (w.2.2 5 30 0 0)]) (eX6_sumOf hw  h3) cv_X6_252 (Nat.le_of_ble_eq_true rfl) (ok_e30 hw) rfl (Nat.le_of_ble_eq_true rfl) _ rfl dX6_sumOfQueue_55 [.long z3, .ref (w.2.2 5 30 0 0), .ref (w.2.2 5 30 0 0), .ref (w.2.2 5 30 0 0)] rfl ?_
      refine x_aload_n dX6_sumOfQueue_58 rfl 0 rfl ?_
      refine x_getR (d1 := 5) (K1 := 31) (p1 := 0) (r1 := 0) fl_X6_7 (ok_e30 hw) rfl dX6_sumOfQueue_59 ?_
      refine x_iload_n dX6_sumOfQueue_62 rfl 1 rfl ?_
      refine x_bipush (x := 10) dX6_sumOfQueue_63 rfl ?_
      obtain ⟨z4, s4, h4, h⟩ := x_b_e h
      refine x_callS (As := [.int a3, .int 10]) (st := [.ref (w.2.2 5 31 0 0), .long z3, .ref (w.2.2 5 30 0 0), .ref (w.2.2 5 30 0 0), .ref (w.2.2 5 30 0 0)]) (eX6_queue hw  h4) cs_X6_48 (Nat.le_of_ble_eq_true rfl) rfl (Nat.le_of_ble_eq_true rfl) _ rfl dX6_sumOfQueue_65 [.int z4, .ref (w.2.2 5 31 0 0), .long z3, .ref (w.2.2 5 30 0 0), .ref (w.2.2 5 30 0 0), .ref (w.2.2 5 30 0 0)] rfl ?_
      obtain ⟨hg5, h⟩ := x_g_e h
      refine x_iald 6464 z4.toNatClampNeg rfl rfl rfl rfl (ok_e31 hw) hg5 dX6_sumOfQueue_68 ?_
      obtain ⟨z6, s6, h6, h⟩ := x_b_e h
      refine x_callV (As := [.long z3, .int (s4 5 31 0 0 z4.toNatClampNeg)]) (st := [.ref (w.2.2 5 30 0 0), .ref (w.2.2 5 30 0 0)]) (eX6_sumOf hw  h6) cv_X6_252 (Nat.le_of_ble_eq_true rfl) (ok_e30 hw) rfl (Nat.le_of_ble_eq_true rfl) _ rfl dX6_sumOfQueue_69 [.long z6, .ref (w.2.2 5 30 0 0), .ref (w.2.2 5 30 0 0)] rfl ?_
      refine x_aload_n dX6_sumOfQueue_72 rfl 0 rfl ?_
      refine x_getR (d1 := 5) (K1 := 31) (p1 := 0) (r1 := 0) fl_X6_7 (ok_e30 hw) rfl dX6_sumOfQueue_73 ?_
      refine x_iload_n dX6_sumOfQueue_76 rfl 1 rfl ?_
      refine x_iconst (x := 5) dX6_sumOfQueue_77 rfl ?_
      obtain ⟨z7, s7, h7, h⟩ := x_b_e h
      refine x_callS (As := [.int a3, .int 5]) (st := [.ref (w.2.2 5 31 0 0), .long z6, .ref (w.2.2 5 30 0 0), .ref (w.2.2 5 30 0 0)]) (eX6_queue hw  h7) cs_X6_48 (Nat.le_of_ble_eq_true rfl) rfl (Nat.le_of_ble_eq_true rfl) _ rfl dX6_sumOfQueue_78 [.int z7, .ref (w.2.2 5 31 0 0), .long z6, .ref (w.2.2 5 30 0 0), .ref (w.2.2 5 30 0 0)] rfl ?_
      obtain ⟨hg8, h⟩ := x_g_e h
      refine x_iald 6464 z7.toNatClampNeg rfl rfl rfl rfl (ok_e31 hw) hg8 dX6_sumOfQueue_81 ?_
      obtain ⟨z9, s9, h9, h⟩ := x_b_e h
      refine x_callV (As := [.long z6, .int (s7 5 31 0 0 z7.toNatClampNeg)]) (st := [.ref (w.2.2 5 30 0 0)]) (eX6_sumOf hw  h9) cv_X6_252 (Nat.le_of_ble_eq_true rfl) (ok_e30 hw) rfl (Nat.le_of_ble_eq_true rfl) _ rfl dX6_sumOfQueue_82 [.long z9, .ref (w.2.2 5 30 0 0)] rfl ?_
      refine x_aload_n dX6_sumOfQueue_85 rfl 0 rfl ?_
      refine x_getR (d1 := 5) (K1 := 31) (p1 := 0) (r1 := 0) fl_X6_7 (ok_e30 hw) rfl dX6_sumOfQueue_86 ?_
      refine x_iload_n dX6_sumOfQueue_89 rfl 1 rfl ?_
      refine x_bipush (x := 12) dX6_sumOfQueue_90 rfl ?_
      obtain ⟨z10, s10, h10, h⟩ := x_b_e h
      refine x_callS (As := [.int a3, .int 12]) (st := [.ref (w.2.2 5 31 0 0), .long z9, .ref (w.2.2 5 30 0 0)]) (eX6_queue hw  h10) cs_X6_48 (Nat.le_of_ble_eq_true rfl) rfl (Nat.le_of_ble_eq_true rfl) _ rfl dX6_sumOfQueue_92 [.int z10, .ref (w.2.2 5 31 0 0), .long z9, .ref (w.2.2 5 30 0 0)] rfl ?_
      obtain ⟨hg11, h⟩ := x_g_e h
      refine x_iald 6464 z10.toNatClampNeg rfl rfl rfl rfl (ok_e31 hw) hg11 dX6_sumOfQueue_95 ?_
      obtain ⟨z12, s12, h12, h⟩ := x_b_e h
      refine x_callV (As := [.long z9, .int (s10 5 31 0 0 z10.toNatClampNeg)]) (st := []) (eX6_sumOf hw  h12) cv_X6_252 (Nat.le_of_ble_eq_true rfl) (ok_e30 hw) rfl (Nat.le_of_ble_eq_true rfl) _ rfl dX6_sumOfQueue_96 [.long z12] rfl ?_
      refine x_lstore z12 rfl dX6_sumOfQueue_99 (Nat.le_of_ble_eq_true rfl) [(4, .long z12), (0, .ref (w.2.2 5 30 0 0)), (3, .int a3), (6, .int a6)] rfl ?_
      refine x_iconst (x := 0) dX6_sumOfQueue_101 rfl ?_
      refine x_istore 0 rfl dX6_sumOfQueue_102 (Nat.le_of_ble_eq_true rfl) [(6, .int 0), (4, .long z12), (0, .ref (w.2.2 5 30 0 0)), (3, .int a3)] rfl ?_
      refine x_sub (L1 := [(0, .ref (w.2.2 5 30 0 0)), (3, .int a3), (4, .long z12), (6, .int 0)]) [2, 3, 1, 0] rfl ?_
      exact TX6_sumOfQueue_104 hw _ _ _ _ h
    · have h := x_f hc h
      refine x_aload_n dX6_sumOfQueue_14 rfl 0 rfl ?_
      refine x_lload dX6_sumOfQueue_15 2 rfl ?_
      refine x_aload_n dX6_sumOfQueue_17 rfl 0 rfl ?_
      refine x_getR (d1 := 5) (K1 := 31) (p1 := 0) (r1 := 0) fl_X6_7 (ok_e30 hw) rfl dX6_sumOfQueue_18 ?_
      refine x_iload_n dX6_sumOfQueue_21 rfl 1 rfl ?_
      refine x_iload dX6_sumOfQueue_22 3 rfl ?_
      obtain ⟨z28, s28, h28, h⟩ := x_b_e h
      refine x_callS (As := [.int a3, .int a6]) (st := [.ref (w.2.2 5 31 0 0), .long g4, .ref (w.2.2 5 30 0 0)]) (eX6_queue hw  h28) cs_X6_48 (Nat.le_of_ble_eq_true rfl) rfl (Nat.le_of_ble_eq_true rfl) _ rfl dX6_sumOfQueue_24 [.int z28, .ref (w.2.2 5 31 0 0), .long g4, .ref (w.2.2 5 30 0 0)] rfl ?_
      obtain ⟨hg29, h⟩ := x_g_e h
      refine x_iald 6464 z28.toNatClampNeg rfl rfl rfl rfl (ok_e31 hw) hg29 dX6_sumOfQueue_27 ?_
      obtain ⟨z30, s30, h30, h⟩ := x_b_e h
      refine x_callV (As := [.long g4, .int (s28 5 31 0 0 z28.toNatClampNeg)]) (st := []) (eX6_sumOf hw  h30) cv_X6_252 (Nat.le_of_ble_eq_true rfl) (ok_e30 hw) rfl (Nat.le_of_ble_eq_true rfl) _ rfl dX6_sumOfQueue_28 [.long z30] rfl ?_
      refine x_lstore z30 rfl dX6_sumOfQueue_31 (Nat.le_of_ble_eq_true rfl) [(4, .long z30), (0, .ref (w.2.2 5 30 0 0)), (3, .int a3), (6, .int a6)] rfl ?_
      obtain ⟨t31, ht31, h⟩ := x_let_e h
      refine x_iinc t31 1 rfl ht31 dX6_sumOfQueue_33 3 rfl (Nat.le_of_ble_eq_true rfl) [(6, .int t31), (4, .long z30), (0, .ref (w.2.2 5 30 0 0)), (3, .int a3)] rfl ?_
      refine x_goto (tgt := 7) dX6_sumOfQueue_36 rfl ?_
      refine x_sub (L1 := [(0, .ref (w.2.2 5 30 0 0)), (3, .int a3), (4, .long z30), (6, .int t31)]) [2, 3, 1, 0] rfl ?_
      exact ih _ _ _ h
set_option maxRecDepth 100000 in
set_option maxHeartbeats 4000000 in
theorem eX6_sumOfQueue {l : Launch} {w : xW} (hw : w.1.2 = true) {g1 : Int64} {a3 : Int32} {σ τ : xS} {r : Int64} (h : fX6_sumOfQueue g1 a3 σ = some (r, τ)) : xEV l w yX6_sumOfQueue mX6_sumOfQueue [.ref (w.2.2 5 30 0 0), .long g1, .int a3] σ (some (.long r)) τ := by
  rw [fX6_sumOfQueue] at h
  refine x_enter (by decide +kernel) rfl (Nat.le_of_ble_eq_true rfl) ?_
  refine x_sub (L1 := [(0, .ref (w.2.2 5 30 0 0)), (1, .long g1), (3, .int a3)]) [0, 1, 2] rfl ?_
  refine x_lload_n dX6_sumOfQueue_0 rfl 1 rfl ?_
  refine x_lstore g1 rfl dX6_sumOfQueue_1 (Nat.le_of_ble_eq_true rfl) [(4, .long g1), (0, .ref (w.2.2 5 30 0 0)), (1, .long g1), (3, .int a3)] rfl ?_
  refine x_bipush (x := 6) dX6_sumOfQueue_3 rfl ?_
  refine x_istore 6 rfl dX6_sumOfQueue_5 (Nat.le_of_ble_eq_true rfl) [(6, .int 6), (4, .long g1), (0, .ref (w.2.2 5 30 0 0)), (1, .long g1), (3, .int a3)] rfl ?_
  refine x_sub (L1 := [(0, .ref (w.2.2 5 30 0 0)), (3, .int a3), (4, .long g1), (6, .int 6)]) [2, 4, 1, 0] rfl ?_
  exact TX6_sumOfQueue_7 hw _ _ _ _ h
set_option maxRecDepth 100000 in
set_option maxHeartbeats 4000000 in
theorem TX6_checksum_162 {l : Launch} {w : xW} (hw : w.1.2 = true) {τ : xS} {r : Int64} : ∀ (n : Nat) (g1 : Int64) (a3 : Int32) (σ : xS), BX6_checksum_162 n g1 a3 σ = some (r, τ) → xAt l w mX6_checksum 162 [(0, .ref (w.2.2 5 30 0 0)), (1, .long g1), (3, .int a3)] [] σ (some (.long r)) τ := by
  intro n
  induction n with
  | zero => intro g1 a3 σ h; cases h
  | succ n ih =>
    intro g1 a3 σ h
    rw [BX6_checksum_162] at h
    refine x_iload_n dX6_checksum_162 rfl 2 rfl ?_
    refine x_aload_n dX6_checksum_163 rfl 0 rfl ?_
    refine x_getR (d1 := 5) (K1 := 31) (p1 := 0) (r1 := 0) fl_X6_7 (ok_e30 hw) rfl dX6_checksum_164 ?_
    refine x_iconst (x := 0) dX6_checksum_167 rfl ?_
    refine x_iald 6464 0 rfl rfl rfl rfl (ok_e31 hw) rfl dX6_checksum_168 ?_
    refine x_icmp_ge (tgt := 207) dX6_checksum_169 rfl (fun hc => ?_) (fun hc => ?_)
    · have h := x_t hc h
      refine x_lload_n dX6_checksum_207 rfl 1 rfl ?_
      exact x_lretH rfl dX6_checksum_208 h
    · have h := x_f hc h
      refine x_aload_n dX6_checksum_172 rfl 0 rfl ?_
      refine x_iload_n dX6_checksum_173 rfl 2 rfl ?_
      obtain ⟨z7, s7, h7, h⟩ := x_b_e h
      refine x_callV (As := [.int a3]) (st := []) (eX6_runAt hw  h7) cv_X6_98 (Nat.le_of_ble_eq_true rfl) (ok_e30 hw) rfl (Nat.le_of_ble_eq_true rfl) _ rfl dX6_checksum_174 [.int z7] rfl ?_
      refine x_istore z7 rfl dX6_checksum_177 (Nat.le_of_ble_eq_true rfl) [(4, .int z7), (0, .ref (w.2.2 5 30 0 0)), (1, .long g1), (3, .int a3)] rfl ?_
      refine x_iload dX6_checksum_179 0 rfl ?_
      refine x_if_le (tgt := 199) dX6_checksum_181 rfl (fun hc => ?_) (fun hc => ?_)
      · have h := x_t hc h
        refine x_lload_n dX6_checksum_199 rfl 2 rfl ?_
        refine x_lstore_n g1 rfl dX6_checksum_200 rfl (Nat.le_of_ble_eq_true rfl) [(1, .long g1), (4, .int z7), (0, .ref (w.2.2 5 30 0 0)), (3, .int a3)] rfl ?_
        obtain ⟨t8, ht8, h⟩ := x_let_e h
        refine x_iinc t8 1 rfl ht8 dX6_checksum_201 3 rfl (Nat.le_of_ble_eq_true rfl) [(3, .int t8), (1, .long g1), (4, .int z7), (0, .ref (w.2.2 5 30 0 0))] rfl ?_
        refine x_goto (tgt := 162) dX6_checksum_204 rfl ?_
        refine x_sub (L1 := [(0, .ref (w.2.2 5 30 0 0)), (1, .long g1), (3, .int t8)]) [3, 1, 0] rfl ?_
        exact ih _ _ _ h
      · have h := x_f hc h
        refine x_aload_n dX6_checksum_184 rfl 1 rfl ?_
        refine x_aload_n dX6_checksum_185 rfl 1 rfl ?_
        refine x_lload_n dX6_checksum_186 rfl 2 rfl ?_
        refine x_iload_n dX6_checksum_187 rfl 3 rfl ?_
        obtain ⟨z9, s9, h9, h⟩ := x_b_e h
        refine x_callV (As := [.long g1, .int a3]) (st := [.ref (w.2.2 5 30 0 0)]) (eX6_sumOf hw  h9) cv_X6_252 (Nat.le_of_ble_eq_true rfl) (ok_e30 hw) rfl (Nat.le_of_ble_eq_true rfl) _ rfl dX6_checksum_188 [.long z9, .ref (w.2.2 5 30 0 0)] rfl ?_
        refine x_iload dX6_checksum_191 0 rfl ?_
        obtain ⟨z10, s10, h10, h⟩ := x_b_e h
        refine x_callV (As := [.long z9, .int z7]) (st := []) (eX6_sumOf hw  h10) cv_X6_252 (Nat.le_of_ble_eq_true rfl) (ok_e30 hw) rfl (Nat.le_of_ble_eq_true rfl) _ rfl dX6_checksum_193 [.long z10] rfl ?_
        refine x_goto (tgt := 200) dX6_checksum_196 rfl ?_
        refine x_lstore_n z10 rfl dX6_checksum_200 rfl (Nat.le_of_ble_eq_true rfl) [(1, .long z10), (4, .int z7), (0, .ref (w.2.2 5 30 0 0)), (3, .int a3)] rfl ?_
        obtain ⟨t11, ht11, h⟩ := x_let_e h
        refine x_iinc t11 1 rfl ht11 dX6_checksum_201 3 rfl (Nat.le_of_ble_eq_true rfl) [(3, .int t11), (1, .long z10), (4, .int z7), (0, .ref (w.2.2 5 30 0 0))] rfl ?_
        refine x_goto (tgt := 162) dX6_checksum_204 rfl ?_
        refine x_sub (L1 := [(0, .ref (w.2.2 5 30 0 0)), (1, .long z10), (3, .int t11)]) [3, 1, 0] rfl ?_
        exact ih _ _ _ h
set_option maxRecDepth 100000 in
set_option maxHeartbeats 4000000 in
theorem TX6_checksum_130 {l : Launch} {w : xW} (hw : w.1.2 = true) {a3 : Int32} {k44 : Int64 → Int32 → xS → Option (Int64 × xS)} {τ : xS} {r : Int64} (hk44 : ∀ (g1 : Int64) (a3 : Int32) (σ1 : xS), k44 g1 a3 σ1 = some (r, τ) → xAt l w mX6_checksum 44 [(0, .ref (w.2.2 5 30 0 0)), (1, .long g1), (3, .int a3)] [] σ1 (some (.long r)) τ) : ∀ (n : Nat) (g1 : Int64) (a4 : Int32) (σ : xS), BX6_checksum_130 a3 k44 n g1 a4 σ = some (r, τ) → xAt l w mX6_checksum 130 [(0, .ref (w.2.2 5 30 0 0)), (1, .long g1), (3, .int a3), (4, .int a4)] [] σ (some (.long r)) τ := by
  intro n
  induction n with
  | zero => intro g1 a4 σ h; cases h
  | succ n ih =>
    intro g1 a4 σ h
    rw [BX6_checksum_130] at h
    refine x_iload dX6_checksum_130 3 rfl ?_
    refine x_iconst (x := 3) dX6_checksum_132 rfl ?_
    refine x_iload_n dX6_checksum_133 rfl 2 rfl ?_
    refine x_imul dX6_checksum_134 ?_
    refine x_iconst (x := 3) dX6_checksum_135 rfl ?_
    refine x_iadd dX6_checksum_136 ?_
    refine x_icmp_ge (tgt := 154) dX6_checksum_137 rfl (fun hc => ?_) (fun hc => ?_)
    · have h := x_t hc h
      obtain ⟨t27, ht27, h⟩ := x_let_e h
      refine x_iinc t27 1 rfl ht27 dX6_checksum_154 2 rfl (Nat.le_of_ble_eq_true rfl) [(3, .int t27), (0, .ref (w.2.2 5 30 0 0)), (1, .long g1), (4, .int a4)] rfl ?_
      refine x_goto (tgt := 44) dX6_checksum_157 rfl ?_
      refine x_sub (L1 := [(0, .ref (w.2.2 5 30 0 0)), (1, .long g1), (3, .int t27)]) [1, 2, 0] rfl ?_
      exact hk44 _ _ _ h
    · have h := x_f hc h
      refine x_aload_n dX6_checksum_140 rfl 0 rfl ?_
      refine x_lload_n dX6_checksum_141 rfl 1 rfl ?_
      refine x_iload dX6_checksum_142 3 rfl ?_
      obtain ⟨z28, s28, h28, h⟩ := x_b_e h
      refine x_callV (As := [.long g1, .int a4]) (st := []) (eX6_sumOfQueue hw  h28) cv_X6_258 (Nat.le_of_ble_eq_true rfl) (ok_e30 hw) rfl (Nat.le_of_ble_eq_true rfl) _ rfl dX6_checksum_144 [.long z28] rfl ?_
      refine x_lstore_n z28 rfl dX6_checksum_147 rfl (Nat.le_of_ble_eq_true rfl) [(1, .long z28), (0, .ref (w.2.2 5 30 0 0)), (3, .int a3), (4, .int a4)] rfl ?_
      obtain ⟨t29, ht29, h⟩ := x_let_e h
      refine x_iinc t29 1 rfl ht29 dX6_checksum_148 3 rfl (Nat.le_of_ble_eq_true rfl) [(4, .int t29), (1, .long z28), (0, .ref (w.2.2 5 30 0 0)), (3, .int a3)] rfl ?_
      refine x_goto (tgt := 130) dX6_checksum_151 rfl ?_
      refine x_sub (L1 := [(0, .ref (w.2.2 5 30 0 0)), (1, .long z28), (3, .int a3), (4, .int t29)]) [2, 1, 3, 0] rfl ?_
      exact ih _ _ _ h
set_option maxRecDepth 100000 in
set_option maxHeartbeats 4000000 in
theorem TX6_checksum_44 {l : Launch} {w : xW} (hw : w.1.2 = true) {τ : xS} {r : Int64} : ∀ (n : Nat) (g1 : Int64) (a3 : Int32) (σ : xS), BX6_checksum_44 n g1 a3 σ = some (r, τ) → xAt l w mX6_checksum 44 [(0, .ref (w.2.2 5 30 0 0)), (1, .long g1), (3, .int a3)] [] σ (some (.long r)) τ := by
  intro n
  induction n with
  | zero => intro g1 a3 σ h; cases h
  | succ n ih =>
    intro g1 a3 σ h
    rw [BX6_checksum_44] at h
    refine x_iload_n dX6_checksum_44 rfl 2 rfl ?_
    refine x_aload_n dX6_checksum_45 rfl 0 rfl ?_
    refine x_getR (d1 := 5) (K1 := 31) (p1 := 0) (r1 := 0) fl_X6_7 (ok_e30 hw) rfl dX6_checksum_46 ?_
    refine x_iconst (x := 1) dX6_checksum_49 rfl ?_
    refine x_iald 6464 1 rfl rfl rfl rfl (ok_e31 hw) rfl dX6_checksum_50 ?_
    refine x_icmp_ge (tgt := 160) dX6_checksum_51 rfl (fun hc => ?_) (fun hc => ?_)
    · have h := x_t hc h
      refine x_iconst (x := 0) dX6_checksum_160 rfl ?_
      refine x_istore_n 0 rfl dX6_checksum_161 rfl (Nat.le_of_ble_eq_true rfl) [(3, .int 0), (0, .ref (w.2.2 5 30 0 0)), (1, .long g1)] rfl ?_
      refine x_sub (L1 := [(0, .ref (w.2.2 5 30 0 0)), (1, .long g1), (3, .int 0)]) [1, 2, 0] rfl ?_
      exact TX6_checksum_162 hw _ _ _ _ h
    · have h := x_f hc h
      refine x_aload_n dX6_checksum_54 rfl 0 rfl ?_
      refine x_aload_n dX6_checksum_55 rfl 0 rfl ?_
      refine x_aload_n dX6_checksum_56 rfl 0 rfl ?_
      refine x_lload_n dX6_checksum_57 rfl 1 rfl ?_
      refine x_aload_n dX6_checksum_58 rfl 0 rfl ?_
      refine x_iload_n dX6_checksum_59 rfl 2 rfl ?_
      obtain ⟨z12, s12, h12, h⟩ := x_b_e h
      refine x_callV (As := [.int a3]) (st := [.long g1, .ref (w.2.2 5 30 0 0), .ref (w.2.2 5 30 0 0), .ref (w.2.2 5 30 0 0)]) (eX6_freeOf hw  h12) cv_X6_65 (Nat.le_of_ble_eq_true rfl) (ok_e30 hw) rfl (Nat.le_of_ble_eq_true rfl) _ rfl dX6_checksum_60 [.int z12, .long g1, .ref (w.2.2 5 30 0 0), .ref (w.2.2 5 30 0 0), .ref (w.2.2 5 30 0 0)] rfl ?_
      obtain ⟨z13, s13, h13, h⟩ := x_b_e h
      refine x_callV (As := [.long g1, .int z12]) (st := [.ref (w.2.2 5 30 0 0), .ref (w.2.2 5 30 0 0)]) (eX6_sumOf hw  h13) cv_X6_252 (Nat.le_of_ble_eq_true rfl) (ok_e30 hw) rfl (Nat.le_of_ble_eq_true rfl) _ rfl dX6_checksum_63 [.long z13, .ref (w.2.2 5 30 0 0), .ref (w.2.2 5 30 0 0)] rfl ?_
      refine x_aload_n dX6_checksum_66 rfl 0 rfl ?_
      refine x_getR (d1 := 5) (K1 := 31) (p1 := 0) (r1 := 0) fl_X6_7 (ok_e30 hw) rfl dX6_checksum_67 ?_
      refine x_iload_n dX6_checksum_70 rfl 2 rfl ?_
      refine x_iconst (x := 2) dX6_checksum_71 rfl ?_
      obtain ⟨z14, s14, h14, h⟩ := x_b_e h
      refine x_callS (As := [.int a3, .int 2]) (st := [.ref (w.2.2 5 31 0 0), .long z13, .ref (w.2.2 5 30 0 0), .ref (w.2.2 5 30 0 0)]) (eX6_port hw  h14) cs_X6_44 (Nat.le_of_ble_eq_true rfl) rfl (Nat.le_of_ble_eq_true rfl) _ rfl dX6_checksum_72 [.int z14, .ref (w.2.2 5 31 0 0), .long z13, .ref (w.2.2 5 30 0 0), .ref (w.2.2 5 30 0 0)] rfl ?_
      obtain ⟨hg15, h⟩ := x_g_e h
      refine x_iald 6464 z14.toNatClampNeg rfl rfl rfl rfl (ok_e31 hw) hg15 dX6_checksum_75 ?_
      obtain ⟨z16, s16, h16, h⟩ := x_b_e h
      refine x_callV (As := [.long z13, .int (s14 5 31 0 0 z14.toNatClampNeg)]) (st := [.ref (w.2.2 5 30 0 0)]) (eX6_sumOf hw  h16) cv_X6_252 (Nat.le_of_ble_eq_true rfl) (ok_e30 hw) rfl (Nat.le_of_ble_eq_true rfl) _ rfl dX6_checksum_76 [.long z16, .ref (w.2.2 5 30 0 0)] rfl ?_
      refine x_aload_n dX6_checksum_79 rfl 0 rfl ?_
      refine x_getR (d1 := 5) (K1 := 31) (p1 := 0) (r1 := 0) fl_X6_7 (ok_e30 hw) rfl dX6_checksum_80 ?_
      refine x_iload_n dX6_checksum_83 rfl 2 rfl ?_
      refine x_iconst (x := 4) dX6_checksum_84 rfl ?_
      obtain ⟨z17, s17, h17, h⟩ := x_b_e h
      refine x_callS (As := [.int a3, .int 4]) (st := [.ref (w.2.2 5 31 0 0), .long z16, .ref (w.2.2 5 30 0 0)]) (eX6_port hw  h17) cs_X6_44 (Nat.le_of_ble_eq_true rfl) rfl (Nat.le_of_ble_eq_true rfl) _ rfl dX6_checksum_85 [.int z17, .ref (w.2.2 5 31 0 0), .long z16, .ref (w.2.2 5 30 0 0)] rfl ?_
      obtain ⟨hg18, h⟩ := x_g_e h
      refine x_iald 6464 z17.toNatClampNeg rfl rfl rfl rfl (ok_e31 hw) hg18 dX6_checksum_88 ?_
      obtain ⟨z19, s19, h19, h⟩ := x_b_e h
      refine x_callV (As := [.long z16, .int (s17 5 31 0 0 z17.toNatClampNeg)]) (st := []) (eX6_sumOf hw  h19) cv_X6_252 (Nat.le_of_ble_eq_true rfl) (ok_e30 hw) rfl (Nat.le_of_ble_eq_true rfl) _ rfl dX6_checksum_89 [.long z19] rfl ?_
      refine x_lstore_n z19 rfl dX6_checksum_92 rfl (Nat.le_of_ble_eq_true rfl) [(1, .long z19), (0, .ref (w.2.2 5 30 0 0)), (3, .int a3)] rfl ?_
      refine x_aload_n dX6_checksum_93 rfl 1 rfl ?_
      refine x_aload_n dX6_checksum_94 rfl 1 rfl ?_
      refine x_lload_n dX6_checksum_95 rfl 0 rfl ?_
      refine x_aload_n dX6_checksum_96 rfl 1 rfl ?_
      refine x_getR (d1 := 5) (K1 := 31) (p1 := 0) (r1 := 0) fl_X6_7 (ok_e30 hw) rfl dX6_checksum_97 ?_
      refine x_iload_n dX6_checksum_100 rfl 2 rfl ?_
      refine x_bipush (x := 9) dX6_checksum_101 rfl ?_
      obtain ⟨z20, s20, h20, h⟩ := x_b_e h
      refine x_callS (As := [.int a3, .int 9]) (st := [.ref (w.2.2 5 31 0 0), .long z19, .ref (w.2.2 5 30 0 0), .ref (w.2.2 5 30 0 0)]) (eX6_port hw  h20) cs_X6_44 (Nat.le_of_ble_eq_true rfl) rfl (Nat.le_of_ble_eq_true rfl) _ rfl dX6_checksum_103 [.int z20, .ref (w.2.2 5 31 0 0), .long z19, .ref (w.2.2 5 30 0 0), .ref (w.2.2 5 30 0 0)] rfl ?_
      obtain ⟨hg21, h⟩ := x_g_e h
      refine x_iald 6464 z20.toNatClampNeg rfl rfl rfl rfl (ok_e31 hw) hg21 dX6_checksum_106 ?_
      obtain ⟨z22, s22, h22, h⟩ := x_b_e h
      refine x_callV (As := [.long z19, .int (s20 5 31 0 0 z20.toNatClampNeg)]) (st := [.ref (w.2.2 5 30 0 0)]) (eX6_sumOf hw  h22) cv_X6_252 (Nat.le_of_ble_eq_true rfl) (ok_e30 hw) rfl (Nat.le_of_ble_eq_true rfl) _ rfl dX6_checksum_107 [.long z22, .ref (w.2.2 5 30 0 0)] rfl ?_
      refine x_aload_n dX6_checksum_110 rfl 1 rfl ?_
      refine x_getR (d1 := 5) (K1 := 31) (p1 := 0) (r1 := 0) fl_X6_7 (ok_e30 hw) rfl dX6_checksum_111 ?_
      refine x_iload_n dX6_checksum_114 rfl 2 rfl ?_
      refine x_bipush (x := 10) dX6_checksum_115 rfl ?_
      obtain ⟨z23, s23, h23, h⟩ := x_b_e h
      refine x_callS (As := [.int a3, .int 10]) (st := [.ref (w.2.2 5 31 0 0), .long z22, .ref (w.2.2 5 30 0 0)]) (eX6_port hw  h23) cs_X6_44 (Nat.le_of_ble_eq_true rfl) rfl (Nat.le_of_ble_eq_true rfl) _ rfl dX6_checksum_117 [.int z23, .ref (w.2.2 5 31 0 0), .long z22, .ref (w.2.2 5 30 0 0)] rfl ?_
      obtain ⟨hg24, h⟩ := x_g_e h
      refine x_iald 6464 z23.toNatClampNeg rfl rfl rfl rfl (ok_e31 hw) hg24 dX6_checksum_120 ?_
      obtain ⟨z25, s25, h25, h⟩ := x_b_e h
      refine x_callV (As := [.long z22, .int (s23 5 31 0 0 z23.toNatClampNeg)]) (st := []) (eX6_sumOf hw  h25) cv_X6_252 (Nat.le_of_ble_eq_true rfl) (ok_e30 hw) rfl (Nat.le_of_ble_eq_true rfl) _ rfl dX6_checksum_121 [.long z25] rfl ?_
      refine x_lstore_n z25 rfl dX6_checksum_124 rfl (Nat.le_of_ble_eq_true rfl) [(1, .long z25), (0, .ref (w.2.2 5 30 0 0)), (3, .int a3)] rfl ?_
      refine x_iconst (x := 3) dX6_checksum_125 rfl ?_
      refine x_iload_n dX6_checksum_126 rfl 2 rfl ?_
      refine x_imul dX6_checksum_127 ?_
      obtain ⟨t26, ht26, h⟩ := x_let_e h
      refine x_istore t26 ht26 dX6_checksum_128 (Nat.le_of_ble_eq_true rfl) [(4, .int t26), (1, .long z25), (0, .ref (w.2.2 5 30 0 0)), (3, .int a3)] rfl ?_
      refine x_sub (L1 := [(0, .ref (w.2.2 5 30 0 0)), (1, .long z25), (3, .int a3), (4, .int t26)]) [2, 1, 3, 0] rfl ?_
      exact TX6_checksum_130 hw ih _ _ _ _ h
set_option maxRecDepth 100000 in
set_option maxHeartbeats 4000000 in
theorem eX6_checksum {l : Launch} {w : xW} (hw : w.1.2 = true) {σ τ : xS} {r : Int64} (h : fX6_checksum σ = some (r, τ)) : xEV l w yX6_checksum mX6_checksum [.ref (w.2.2 5 30 0 0)] σ (some (.long r)) τ := by
  rw [fX6_checksum] at h
  refine x_enter (by decide +kernel) rfl (Nat.le_of_ble_eq_true rfl) ?_
  refine x_sub (L1 := [(0, .ref (w.2.2 5 30 0 0))]) [0] rfl ?_
  refine x_ldc2 (x := 7) dX6_checksum_0 tk_X6_256 ?_
  refine x_lstore_n 7 rfl dX6_checksum_3 rfl (Nat.le_of_ble_eq_true rfl) [(1, .long 7), (0, .ref (w.2.2 5 30 0 0))] rfl ?_
  refine x_aload_n dX6_checksum_4 rfl 1 rfl ?_
  refine x_aload_n dX6_checksum_5 rfl 1 rfl ?_
  refine x_aload_n dX6_checksum_6 rfl 1 rfl ?_
  refine x_aload_n dX6_checksum_7 rfl 1 rfl ?_
  refine x_lload_n dX6_checksum_8 rfl 0 rfl ?_
  refine x_aload_n dX6_checksum_9 rfl 1 rfl ?_
  refine x_getR (d1 := 5) (K1 := 31) (p1 := 0) (r1 := 0) fl_X6_7 (ok_e30 hw) rfl dX6_checksum_10 ?_
  refine x_iconst (x := 3) dX6_checksum_13 rfl ?_
  refine x_iald 6464 3 rfl rfl rfl rfl (ok_e31 hw) rfl dX6_checksum_14 ?_
  obtain ⟨z1, s1, h1, h⟩ := x_b_e h
  refine x_callV (As := [.long 7, .int (σ 5 31 0 0 3)]) (st := [.ref (w.2.2 5 30 0 0), .ref (w.2.2 5 30 0 0), .ref (w.2.2 5 30 0 0)]) (eX6_sumOf hw  h1) cv_X6_252 (Nat.le_of_ble_eq_true rfl) (ok_e30 hw) rfl (Nat.le_of_ble_eq_true rfl) _ rfl dX6_checksum_15 [.long z1, .ref (w.2.2 5 30 0 0), .ref (w.2.2 5 30 0 0), .ref (w.2.2 5 30 0 0)] rfl ?_
  refine x_aload_n dX6_checksum_18 rfl 1 rfl ?_
  refine x_getR (d1 := 5) (K1 := 31) (p1 := 0) (r1 := 0) fl_X6_7 (ok_e30 hw) rfl dX6_checksum_19 ?_
  refine x_iconst (x := 4) dX6_checksum_22 rfl ?_
  refine x_iald 6464 4 rfl rfl rfl rfl (ok_e31 hw) rfl dX6_checksum_23 ?_
  obtain ⟨z2, s2, h2, h⟩ := x_b_e h
  refine x_callV (As := [.long z1, .int (s1 5 31 0 0 4)]) (st := [.ref (w.2.2 5 30 0 0), .ref (w.2.2 5 30 0 0)]) (eX6_sumOf hw  h2) cv_X6_252 (Nat.le_of_ble_eq_true rfl) (ok_e30 hw) rfl (Nat.le_of_ble_eq_true rfl) _ rfl dX6_checksum_24 [.long z2, .ref (w.2.2 5 30 0 0), .ref (w.2.2 5 30 0 0)] rfl ?_
  refine x_aload_n dX6_checksum_27 rfl 1 rfl ?_
  obtain ⟨z3, s3, h3, h⟩ := x_b_e h
  refine x_callV (As := []) (st := [.long z2, .ref (w.2.2 5 30 0 0), .ref (w.2.2 5 30 0 0)]) (eX6_free hw  h3) cv_X6_62 (Nat.le_of_ble_eq_true rfl) (ok_e30 hw) rfl (Nat.le_of_ble_eq_true rfl) _ rfl dX6_checksum_28 [.int z3, .long z2, .ref (w.2.2 5 30 0 0), .ref (w.2.2 5 30 0 0)] rfl ?_
  obtain ⟨z4, s4, h4, h⟩ := x_b_e h
  refine x_callV (As := [.long z2, .int z3]) (st := [.ref (w.2.2 5 30 0 0)]) (eX6_sumOf hw  h4) cv_X6_252 (Nat.le_of_ble_eq_true rfl) (ok_e30 hw) rfl (Nat.le_of_ble_eq_true rfl) _ rfl dX6_checksum_31 [.long z4, .ref (w.2.2 5 30 0 0)] rfl ?_
  refine x_aload_n dX6_checksum_34 rfl 1 rfl ?_
  obtain ⟨z5, s5, h5, h⟩ := x_b_e h
  refine x_callV (As := []) (st := [.long z4, .ref (w.2.2 5 30 0 0)]) (eX6_pool hw  h5) cv_X6_55 (Nat.le_of_ble_eq_true rfl) (ok_e30 hw) rfl (Nat.le_of_ble_eq_true rfl) _ rfl dX6_checksum_35 [.int z5, .long z4, .ref (w.2.2 5 30 0 0)] rfl ?_
  obtain ⟨z6, s6, h6, h⟩ := x_b_e h
  refine x_callV (As := [.long z4, .int z5]) (st := []) (eX6_sumOf hw  h6) cv_X6_252 (Nat.le_of_ble_eq_true rfl) (ok_e30 hw) rfl (Nat.le_of_ble_eq_true rfl) _ rfl dX6_checksum_38 [.long z6] rfl ?_
  refine x_lstore_n z6 rfl dX6_checksum_41 rfl (Nat.le_of_ble_eq_true rfl) [(1, .long z6), (0, .ref (w.2.2 5 30 0 0))] rfl ?_
  refine x_iconst (x := 0) dX6_checksum_42 rfl ?_
  refine x_istore_n 0 rfl dX6_checksum_43 rfl (Nat.le_of_ble_eq_true rfl) [(3, .int 0), (1, .long z6), (0, .ref (w.2.2 5 30 0 0))] rfl ?_
  refine x_sub (L1 := [(0, .ref (w.2.2 5 30 0 0)), (1, .long z6), (3, .int 0)]) [2, 1, 0] rfl ?_
  exact TX6_checksum_44 hw _ _ _ _ h
