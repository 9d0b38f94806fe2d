set_option maxRecDepth 100000 in
set_option maxHeartbeats 4000000 in
theorem TX6_grant_179 {l : Launch} {w : xW} (hw : w.1.2 = true) {a1 : Int32} {a2 : Int32} {a3 : Int32} {σ τ : xS} {r : Int32} (h : BX6_grant_179 a1 a2 a3 σ = some (r, τ)) : xAt l w mX6_grant 179 [(0, .ref (w.2.2 5 30 0 0)), (1, .int a1), (2, .int a2), (3, .int a3)] [] σ (some (.int r)) τ := by
  rw [BX6_grant_179] at h
  refine x_aload_n dX6_grant_179 rfl 0 rfl ?_
  refine x_getR (d1 := 5) (K1 := 31) (p1 := 0) (r1 := 0) fl_X6_7 (ok_e30 hw) rfl dX6_grant_180 ?_
  refine x_iload_n dX6_grant_183 rfl 1 rfl ?_
  refine x_iconst (x := 3) dX6_grant_184 rfl ?_
  obtain ⟨z9, s9, h9, h⟩ := x_b_e h
  refine x_callS (As := [.int a1, .int 3]) (st := [.ref (w.2.2 5 31 0 0)]) (eX6_port hw  h9) cs_X6_44 (Nat.le_of_ble_eq_true rfl) rfl (Nat.le_of_ble_eq_true rfl) _ rfl dX6_grant_185 [.int z9, .ref (w.2.2 5 31 0 0)] rfl ?_
  obtain ⟨hg10, h⟩ := x_g_e h
  refine x_iald 6464 z9.toNatClampNeg rfl rfl rfl rfl (ok_e31 hw) hg10 dX6_grant_188 ?_
  refine x_if_ne (tgt := 220) dX6_grant_189 rfl (fun hc => ?_) (fun hc => ?_)
  · have h := x_f hc h
    refine x_aload_n dX6_grant_220 rfl 0 rfl ?_
    refine x_getR (d1 := 5) (K1 := 31) (p1 := 0) (r1 := 0) fl_X6_7 (ok_e30 hw) rfl dX6_grant_221 ?_
    refine x_iload_n dX6_grant_224 rfl 1 rfl ?_
    refine x_iconst (x := 2) dX6_grant_225 rfl ?_
    obtain ⟨z11, s11, h11, h⟩ := x_b_e h
    refine x_callS (As := [.int a1, .int 2]) (st := [.ref (w.2.2 5 31 0 0)]) (eX6_port hw  h11) cs_X6_44 (Nat.le_of_ble_eq_true rfl) rfl (Nat.le_of_ble_eq_true rfl) _ rfl dX6_grant_226 [.int z11, .ref (w.2.2 5 31 0 0)] rfl ?_
    refine x_iload_n dX6_grant_229 rfl 2 rfl ?_
    obtain ⟨hg12, h⟩ := x_g_e h
    obtain ⟨s13, hs13, h⟩ := x_let_e h
    refine x_iast 6464 z11.toNatClampNeg rfl s13 hs13 rfl rfl rfl (ok_e31 hw) hg12 dX6_grant_230 ?_
    refine x_aload_n dX6_grant_231 rfl 0 rfl ?_
    refine x_iload_n dX6_grant_232 rfl 1 rfl ?_
    obtain ⟨z14, s14, h14, h⟩ := x_b_e h
    refine x_callV (As := [.int a1]) (st := []) (eX6_converts hw  h14) cv_X6_71 (Nat.le_of_ble_eq_true rfl) (ok_e30 hw) rfl (Nat.le_of_ble_eq_true rfl) _ rfl dX6_grant_233 [] rfl ?_
    refine x_iload_n dX6_grant_236 rfl 3 rfl ?_
    exact x_iretH rfl dX6_grant_237 h
  · have h := x_t hc h
    refine x_aload_n dX6_grant_192 rfl 0 rfl ?_
    refine x_getR (d1 := 5) (K1 := 31) (p1 := 0) (r1 := 0) fl_X6_7 (ok_e30 hw) rfl dX6_grant_193 ?_
    refine x_bipush (x := 10) dX6_grant_196 rfl ?_
    refine x_dup2 dX6_grant_198 rfl rfl ?_
    refine x_iald 6464 10 rfl rfl rfl rfl (ok_e31 hw) rfl dX6_grant_199 ?_
    refine x_iconst (x := 1) dX6_grant_200 rfl ?_
    refine x_iadd dX6_grant_201 ?_
    obtain ⟨s15, hs15, h⟩ := x_let_e h
    refine x_iast 6464 10 rfl s15 hs15 rfl rfl rfl (ok_e31 hw) rfl dX6_grant_202 ?_
    refine x_aload_n dX6_grant_203 rfl 0 rfl ?_
    refine x_getR (d1 := 5) (K1 := 31) (p1 := 0) (r1 := 0) fl_X6_7 (ok_e30 hw) rfl dX6_grant_204 ?_
    refine x_iload_n dX6_grant_207 rfl 1 rfl ?_
    refine x_iconst (x := 3) dX6_grant_208 rfl ?_
    obtain ⟨z16, s16, h16, h⟩ := x_b_e h
    refine x_callS (As := [.int a1, .int 3]) (st := [.ref (w.2.2 5 31 0 0)]) (eX6_port hw  h16) cs_X6_44 (Nat.le_of_ble_eq_true rfl) rfl (Nat.le_of_ble_eq_true rfl) _ rfl dX6_grant_209 [.int z16, .ref (w.2.2 5 31 0 0)] rfl ?_
    refine x_aload_n dX6_grant_212 rfl 0 rfl ?_
    refine x_getR (d1 := 5) (K1 := 31) (p1 := 0) (r1 := 0) fl_X6_7 (ok_e30 hw) rfl dX6_grant_213 ?_
    refine x_bipush (x := 10) dX6_grant_216 rfl ?_
    refine x_iald 6464 10 rfl rfl rfl rfl (ok_e31 hw) rfl dX6_grant_218 ?_
    obtain ⟨hg17, h⟩ := x_g_e h
    obtain ⟨s18, hs18, h⟩ := x_let_e h
    refine x_iast 6464 z16.toNatClampNeg rfl s18 hs18 rfl rfl rfl (ok_e31 hw) hg17 dX6_grant_219 ?_
    refine x_aload_n dX6_grant_220 rfl 0 rfl ?_
    refine x_getR (d1 := 5) (K1 := 31) (p1 := 0) (r1 := 0) fl_X6_7 (ok_e30 hw) rfl dX6_grant_221 ?_
    refine x_iload_n dX6_grant_224 rfl 1 rfl ?_
    refine x_iconst (x := 2) dX6_grant_225 rfl ?_
    obtain ⟨z19, s19, h19, h⟩ := x_b_e h
    refine x_callS (As := [.int a1, .int 2]) (st := [.ref (w.2.2 5 31 0 0)]) (eX6_port hw  h19) cs_X6_44 (Nat.le_of_ble_eq_true rfl) rfl (Nat.le_of_ble_eq_true rfl) _ rfl dX6_grant_226 [.int z19, .ref (w.2.2 5 31 0 0)] rfl ?_
    refine x_iload_n dX6_grant_229 rfl 2 rfl ?_
    obtain ⟨hg20, h⟩ := x_g_e h
    obtain ⟨s21, hs21, h⟩ := x_let_e h
    refine x_iast 6464 z19.toNatClampNeg rfl s21 hs21 rfl rfl rfl (ok_e31 hw) hg20 dX6_grant_230 ?_
    refine x_aload_n dX6_grant_231 rfl 0 rfl ?_
    refine x_iload_n dX6_grant_232 rfl 1 rfl ?_
    obtain ⟨z22, s22, h22, h⟩ := x_b_e h
    refine x_callV (As := [.int a1]) (st := []) (eX6_converts hw  h22) cv_X6_71 (Nat.le_of_ble_eq_true rfl) (ok_e30 hw) rfl (Nat.le_of_ble_eq_true rfl) _ rfl dX6_grant_233 [] rfl ?_
    refine x_iload_n dX6_grant_236 rfl 3 rfl ?_
    exact x_iretH rfl dX6_grant_237 h
set_option maxRecDepth 100000 in
set_option maxHeartbeats 4000000 in
theorem TX6_grant_144 {l : Launch} {w : xW} (hw : w.1.2 = true) {a1 : Int32} {a2 : Int32} {a3 : Int32} {σ τ : xS} {r : Int32} (h : BX6_grant_144 a1 a2 a3 σ = some (r, τ)) : xAt l w mX6_grant 144 [(0, .ref (w.2.2 5 30 0 0)), (1, .int a1), (2, .int a2), (3, .int a3)] [] σ (some (.int r)) τ := by
  rw [BX6_grant_144] at h
  refine x_iload_n dX6_grant_144 rfl 2 rfl ?_
  refine x_aload_n dX6_grant_145 rfl 0 rfl ?_
  refine x_getR (d1 := 5) (K1 := 31) (p1 := 0) (r1 := 0) fl_X6_7 (ok_e30 hw) rfl dX6_grant_146 ?_
  refine x_iload_n dX6_grant_149 rfl 1 rfl ?_
  refine x_iconst (x := 2) dX6_grant_150 rfl ?_
  obtain ⟨z6, s6, h6, h⟩ := x_b_e h
  refine x_callS (As := [.int a1, .int 2]) (st := [.ref (w.2.2 5 31 0 0), .int a2]) (eX6_port hw  h6) cs_X6_44 (Nat.le_of_ble_eq_true rfl) rfl (Nat.le_of_ble_eq_true rfl) _ rfl dX6_grant_151 [.int z6, .ref (w.2.2 5 31 0 0), .int a2] rfl ?_
  obtain ⟨hg7, h⟩ := x_g_e h
  refine x_iald 6464 z6.toNatClampNeg rfl rfl rfl rfl (ok_e31 hw) hg7 dX6_grant_154 ?_
  refine x_isub dX6_grant_155 ?_
  obtain ⟨t8, ht8, h⟩ := x_let_e h
  refine x_istore t8 ht8 dX6_grant_156 (Nat.le_of_ble_eq_true rfl) [(4, .int t8), (0, .ref (w.2.2 5 30 0 0)), (1, .int a1), (2, .int a2), (3, .int a3)] rfl ?_
  refine x_iload dX6_grant_158 0 rfl ?_
  refine x_if_le (tgt := 179) dX6_grant_160 rfl (fun hc => ?_) (fun hc => ?_)
  · have h := x_t hc h
    refine x_sub (L1 := [(0, .ref (w.2.2 5 30 0 0)), (1, .int a1), (2, .int a2), (3, .int a3)]) [1, 2, 3, 4] rfl ?_
    exact TX6_grant_179 hw  h
  · have h := x_f hc h
    refine x_iload dX6_grant_163 0 rfl ?_
    refine x_aload_n dX6_grant_165 rfl 1 rfl ?_
    obtain ⟨z23, s23, h23, h⟩ := x_b_e h
    refine x_callV (As := []) (st := [.int t8]) (eX6_free hw  h23) cv_X6_62 (Nat.le_of_ble_eq_true rfl) (ok_e30 hw) rfl (Nat.le_of_ble_eq_true rfl) _ rfl dX6_grant_166 [.int z23, .int t8] rfl ?_
    refine x_icmp_le (tgt := 179) dX6_grant_169 rfl (fun hc => ?_) (fun hc => ?_)
    · have h := x_t hc h
      refine x_sub (L1 := [(0, .ref (w.2.2 5 30 0 0)), (1, .int a1), (2, .int a2), (3, .int a3)]) [1, 2, 3, 4] rfl ?_
      exact TX6_grant_179 hw  h
    · have h := x_f hc h
      refine x_aload_n dX6_grant_172 rfl 1 rfl ?_
      obtain ⟨z24, s24, h24, h⟩ := x_b_e h
      refine x_callV (As := []) (st := []) (eX6_brings hw  h24) cv_X6_89 (Nat.le_of_ble_eq_true rfl) (ok_e30 hw) rfl (Nat.le_of_ble_eq_true rfl) _ rfl dX6_grant_173 [] rfl ?_
      refine x_bipush (x := (-3)) dX6_grant_176 (by decide) ?_
      exact x_iretH rfl dX6_grant_178 h
set_option maxRecDepth 100000 in
set_option maxHeartbeats 4000000 in
theorem TX6_grant_45 {l : Launch} {w : xW} (hw : w.1.2 = true) {a1 : Int32} {a2 : Int32} {τ : xS} {r : Int32} : ∀ (n : Nat) (a3 : Int32) (a4 : Int32) (a5 : Int32) (σ : xS), BX6_grant_45 a1 a2 n a3 a4 a5 σ = some (r, τ) → xAt l w mX6_grant 45 [(0, .ref (w.2.2 5 30 0 0)), (1, .int a1), (2, .int a2), (3, .int a3), (4, .int a4), (5, .int a5)] [] σ (some (.int r)) τ := by
  intro n
  induction n with
  | zero => intro a3 a4 a5 σ h; cases h
  | succ n ih =>
    intro a3 a4 a5 σ h
    rw [BX6_grant_45] at h
    refine x_iload dX6_grant_45 5 rfl ?_
    refine x_aload_n dX6_grant_47 rfl 0 rfl ?_
    refine x_getR (d1 := 5) (K1 := 31) (p1 := 0) (r1 := 0) fl_X6_7 (ok_e30 hw) rfl dX6_grant_48 ?_
    refine x_iconst (x := 1) dX6_grant_51 rfl ?_
    refine x_iald 6464 1 rfl rfl rfl rfl (ok_e31 hw) rfl dX6_grant_52 ?_
    refine x_icmp_ge (tgt := 116) dX6_grant_53 rfl (fun hc => ?_) (fun hc => ?_)
    · have h := x_t hc h
      refine x_iload dX6_grant_116 4 rfl ?_
      refine x_iconst (x := 2) dX6_grant_118 rfl ?_
      refine x_icmp_ge (tgt := 127) dX6_grant_119 rfl (fun hc => ?_) (fun hc => ?_)
      · have h := x_t hc h
        refine x_iload_n dX6_grant_127 rfl 3 rfl ?_
        refine x_istore_n a3 rfl dX6_grant_128 rfl (Nat.le_of_ble_eq_true rfl) [(3, .int a3), (0, .ref (w.2.2 5 30 0 0)), (1, .int a1), (2, .int a2), (4, .int a4), (5, .int a5)] rfl ?_
        refine x_aload_n dX6_grant_129 rfl 1 rfl ?_
        obtain ⟨z25, s25, h25, h⟩ := x_b_e h
        refine x_callV (As := []) (st := []) (eX6_keeps hw  h25) cv_X6_83 (Nat.le_of_ble_eq_true rfl) (ok_e30 hw) rfl (Nat.le_of_ble_eq_true rfl) _ rfl dX6_grant_130 [] rfl ?_
        refine x_iload_n dX6_grant_133 rfl 0 rfl ?_
        refine x_bipush (x := (-5)) dX6_grant_134 (by decide) ?_
        refine x_icmp_eq (tgt := 144) dX6_grant_136 rfl (fun hc => ?_) (fun hc => ?_)
        · have h := x_t hc h
          refine x_sub (L1 := [(0, .ref (w.2.2 5 30 0 0)), (1, .int a1), (2, .int a2), (3, .int a3)]) [1, 2, 3, 0] rfl ?_
          exact TX6_grant_144 hw  h
        · have h := x_f hc h
          refine x_aload_n dX6_grant_139 rfl 1 rfl ?_
          refine x_iload_n dX6_grant_140 rfl 0 rfl ?_
          obtain ⟨z26, s26, h26, h⟩ := x_b_e h
          refine x_callV (As := [.int a3]) (st := []) (eX6_drops hw  h26) cv_X6_86 (Nat.le_of_ble_eq_true rfl) (ok_e30 hw) rfl (Nat.le_of_ble_eq_true rfl) _ rfl dX6_grant_141 [] rfl ?_
          refine x_sub (L1 := [(0, .ref (w.2.2 5 30 0 0)), (1, .int a1), (2, .int a2), (3, .int a3)]) [1, 2, 3, 0] rfl ?_
          exact TX6_grant_144 hw  h
      · have h := x_f hc h
        refine x_bipush (x := (-5)) dX6_grant_122 (by decide) ?_
        refine x_goto (tgt := 128) dX6_grant_124 rfl ?_
        refine x_istore_n (-5) rfl dX6_grant_128 rfl (Nat.le_of_ble_eq_true rfl) [(3, .int (-5)), (0, .ref (w.2.2 5 30 0 0)), (1, .int a1), (2, .int a2), (4, .int a4), (5, .int a5)] rfl ?_
        refine x_aload_n dX6_grant_129 rfl 1 rfl ?_
        obtain ⟨z27, s27, h27, h⟩ := x_b_e h
        refine x_callV (As := []) (st := []) (eX6_keeps hw  h27) cv_X6_83 (Nat.le_of_ble_eq_true rfl) (ok_e30 hw) rfl (Nat.le_of_ble_eq_true rfl) _ rfl dX6_grant_130 [] rfl ?_
        refine x_iload_n dX6_grant_133 rfl 0 rfl ?_
        refine x_bipush (x := (-5)) dX6_grant_134 (by decide) ?_
        refine x_icmp_eq (tgt := 144) dX6_grant_136 rfl (fun hc => ?_) (fun hc => ?_)
        · skip
          refine x_sub (L1 := [(0, .ref (w.2.2 5 30 0 0)), (1, .int a1), (2, .int a2), (3, .int (-5))]) [1, 2, 3, 0] rfl ?_
          exact TX6_grant_144 hw  h
        · exact absurd hc (by decide)
    · have h := x_f hc h
      refine x_aload_n dX6_grant_56 rfl 0 rfl ?_
      refine x_getR (d1 := 5) (K1 := 31) (p1 := 0) (r1 := 0) fl_X6_7 (ok_e30 hw) rfl dX6_grant_57 ?_
      refine x_iload dX6_grant_60 5 rfl ?_
      refine x_iconst (x := 3) dX6_grant_62 rfl ?_
      obtain ⟨z28, s28, h28, h⟩ := x_b_e h
      refine x_callS (As := [.int a5, .int 3]) (st := [.ref (w.2.2 5 31 0 0)]) (eX6_port hw  h28) cs_X6_44 (Nat.le_of_ble_eq_true rfl) rfl (Nat.le_of_ble_eq_true rfl) _ rfl dX6_grant_63 [.int z28, .ref (w.2.2 5 31 0 0)] rfl ?_
      obtain ⟨hg29, h⟩ := x_g_e h
      refine x_iald 6464 z28.toNatClampNeg rfl rfl rfl rfl (ok_e31 hw) hg29 dX6_grant_66 ?_
      refine x_if_le (tgt := 110) dX6_grant_67 rfl (fun hc => ?_) (fun hc => ?_)
      · have h := x_t hc h
        obtain ⟨t30, ht30, h⟩ := x_let_e h
        refine x_iinc t30 1 rfl ht30 dX6_grant_110 5 rfl (Nat.le_of_ble_eq_true rfl) [(5, .int t30), (0, .ref (w.2.2 5 30 0 0)), (1, .int a1), (2, .int a2), (3, .int a3), (4, .int a4)] rfl ?_
        refine x_goto (tgt := 45) dX6_grant_113 rfl ?_
        refine x_sub (L1 := [(0, .ref (w.2.2 5 30 0 0)), (1, .int a1), (2, .int a2), (3, .int a3), (4, .int a4), (5, .int t30)]) [1, 2, 3, 4, 5, 0] rfl ?_
        exact ih _ _ _ _ h
      · have h := x_f hc h
        obtain ⟨t31, ht31, h⟩ := x_let_e h
        refine x_iinc t31 1 rfl ht31 dX6_grant_70 4 rfl (Nat.le_of_ble_eq_true rfl) [(4, .int t31), (0, .ref (w.2.2 5 30 0 0)), (1, .int a1), (2, .int a2), (3, .int a3), (5, .int a5)] rfl ?_
        refine x_iload_n dX6_grant_73 rfl 4 rfl ?_
        refine x_bipush (x := (-5)) dX6_grant_74 (by decide) ?_
        refine x_icmp_eq (tgt := 103) dX6_grant_76 rfl (fun hc => ?_) (fun hc => ?_)
        · have h := x_t hc h
          refine x_iload dX6_grant_103 5 rfl ?_
          refine x_goto (tgt := 109) dX6_grant_105 rfl ?_
          refine x_istore_n a5 rfl dX6_grant_109 rfl (Nat.le_of_ble_eq_true rfl) [(3, .int a5), (4, .int t31), (0, .ref (w.2.2 5 30 0 0)), (1, .int a1), (2, .int a2), (5, .int a5)] rfl ?_
          obtain ⟨t32, ht32, h⟩ := x_let_e h
          refine x_iinc t32 1 rfl ht32 dX6_grant_110 5 rfl (Nat.le_of_ble_eq_true rfl) [(5, .int t32), (3, .int a5), (4, .int t31), (0, .ref (w.2.2 5 30 0 0)), (1, .int a1), (2, .int a2)] rfl ?_
          refine x_goto (tgt := 45) dX6_grant_113 rfl ?_
          refine x_sub (L1 := [(0, .ref (w.2.2 5 30 0 0)), (1, .int a1), (2, .int a2), (3, .int a5), (4, .int t31), (5, .int t32)]) [3, 4, 5, 1, 2, 0] rfl ?_
          exact ih _ _ _ _ h
        · have h := x_f hc h
          refine x_aload_n dX6_grant_79 rfl 1 rfl ?_
          refine x_getR (d1 := 5) (K1 := 31) (p1 := 0) (r1 := 0) fl_X6_7 (ok_e30 hw) rfl dX6_grant_80 ?_
          refine x_iload dX6_grant_83 5 rfl ?_
          refine x_iconst (x := 3) dX6_grant_85 rfl ?_
          obtain ⟨z33, s33, h33, h⟩ := x_b_e h
          refine x_callS (As := [.int a5, .int 3]) (st := [.ref (w.2.2 5 31 0 0)]) (eX6_port hw  h33) cs_X6_44 (Nat.le_of_ble_eq_true rfl) rfl (Nat.le_of_ble_eq_true rfl) _ rfl dX6_grant_86 [.int z33, .ref (w.2.2 5 31 0 0)] rfl ?_
          obtain ⟨hg34, h⟩ := x_g_e h
          refine x_iald 6464 z33.toNatClampNeg rfl rfl rfl rfl (ok_e31 hw) hg34 dX6_grant_89 ?_
          refine x_aload_n dX6_grant_90 rfl 1 rfl ?_
          refine x_getR (d1 := 5) (K1 := 31) (p1 := 0) (r1 := 0) fl_X6_7 (ok_e30 hw) rfl dX6_grant_91 ?_
          refine x_iload_n dX6_grant_94 rfl 4 rfl ?_
          refine x_iconst (x := 3) dX6_grant_95 rfl ?_
          obtain ⟨z35, s35, h35, h⟩ := x_b_e h
          refine x_callS (As := [.int a3, .int 3]) (st := [.ref (w.2.2 5 31 0 0), .int (s33 5 31 0 0 z33.toNatClampNeg)]) (eX6_port hw  h35) cs_X6_44 (Nat.le_of_ble_eq_true rfl) rfl (Nat.le_of_ble_eq_true rfl) _ rfl dX6_grant_96 [.int z35, .ref (w.2.2 5 31 0 0), .int (s33 5 31 0 0 z33.toNatClampNeg)] rfl ?_
          obtain ⟨hg36, h⟩ := x_g_e h
          refine x_iald 6464 z35.toNatClampNeg rfl rfl rfl rfl (ok_e31 hw) hg36 dX6_grant_99 ?_
          refine x_icmp_ge (tgt := 108) dX6_grant_100 rfl (fun hc => ?_) (fun hc => ?_)
          · have h := x_t hc h
            refine x_iload_n dX6_grant_108 rfl 4 rfl ?_
            refine x_istore_n a3 rfl dX6_grant_109 rfl (Nat.le_of_ble_eq_true rfl) [(3, .int a3), (4, .int t31), (0, .ref (w.2.2 5 30 0 0)), (1, .int a1), (2, .int a2), (5, .int a5)] rfl ?_
            obtain ⟨t37, ht37, h⟩ := x_let_e h
            refine x_iinc t37 1 rfl ht37 dX6_grant_110 5 rfl (Nat.le_of_ble_eq_true rfl) [(5, .int t37), (3, .int a3), (4, .int t31), (0, .ref (w.2.2 5 30 0 0)), (1, .int a1), (2, .int a2)] rfl ?_
            refine x_goto (tgt := 45) dX6_grant_113 rfl ?_
            refine x_sub (L1 := [(0, .ref (w.2.2 5 30 0 0)), (1, .int a1), (2, .int a2), (3, .int a3), (4, .int t31), (5, .int t37)]) [3, 4, 5, 1, 2, 0] rfl ?_
            exact ih _ _ _ _ h
          · have h := x_f hc h
            refine x_iload dX6_grant_103 5 rfl ?_
            refine x_goto (tgt := 109) dX6_grant_105 rfl ?_
            refine x_istore_n a5 rfl dX6_grant_109 rfl (Nat.le_of_ble_eq_true rfl) [(3, .int a5), (4, .int t31), (0, .ref (w.2.2 5 30 0 0)), (1, .int a1), (2, .int a2), (5, .int a5)] rfl ?_
            obtain ⟨t38, ht38, h⟩ := x_let_e h
            refine x_iinc t38 1 rfl ht38 dX6_grant_110 5 rfl (Nat.le_of_ble_eq_true rfl) [(5, .int t38), (3, .int a5), (4, .int t31), (0, .ref (w.2.2 5 30 0 0)), (1, .int a1), (2, .int a2)] rfl ?_
            refine x_goto (tgt := 45) dX6_grant_113 rfl ?_
            refine x_sub (L1 := [(0, .ref (w.2.2 5 30 0 0)), (1, .int a1), (2, .int a2), (3, .int a5), (4, .int t31), (5, .int t38)]) [3, 4, 5, 1, 2, 0] rfl ?_
            exact ih _ _ _ _ h
set_option maxRecDepth 100000 in
set_option maxHeartbeats 4000000 in
theorem eX6_grant {l : Launch} {w : xW} (hw : w.1.2 = true) {a1 : Int32} {a2 : Int32} {σ τ : xS} {r : Int32} (h : fX6_grant a1 a2 σ = some (r, τ)) : xEV l w yX6_grant mX6_grant [.ref (w.2.2 5 30 0 0), .int a1, .int a2] σ (some (.int r)) τ := by
  rw [fX6_grant] at h
  refine x_enter (by decide +kernel) rfl (Nat.le_of_ble_eq_true rfl) ?_
  refine x_sub (L1 := [(0, .ref (w.2.2 5 30 0 0)), (1, .int a1), (2, .int a2)]) [0, 1, 2] rfl ?_
  refine x_aload_n dX6_grant_0 rfl 0 rfl ?_
  refine x_iload_n dX6_grant_1 rfl 1 rfl ?_
  obtain ⟨z1, s1, h1, h⟩ := x_b_e h
  refine x_callV (As := [.int a1]) (st := []) (eX6_isPort hw  h1) cv_X6_40 (Nat.le_of_ble_eq_true rfl) (ok_e30 hw) rfl (Nat.le_of_ble_eq_true rfl) _ rfl dX6_grant_2 [.int z1] rfl ?_
  refine x_if_ne (tgt := 10) dX6_grant_5 rfl (fun hc => ?_) (fun hc => ?_)
  · have h := x_f hc h
    refine x_iload_n dX6_grant_10 rfl 2 rfl ?_
    refine x_iconst (x := 1) dX6_grant_11 rfl ?_
    refine x_bipush (x := 32) dX6_grant_12 rfl ?_
    obtain ⟨z2, s2, h2, h⟩ := x_b_e h
    refine x_callS (As := [.int a2, .int 1, .int 32]) (st := []) (eX6_in hw  h2) cs_X6_36 (Nat.le_of_ble_eq_true rfl) rfl (Nat.le_of_ble_eq_true rfl) _ rfl dX6_grant_14 [.int z2] rfl ?_
    refine x_if_ne (tgt := 23) dX6_grant_17 rfl (fun hc => ?_) (fun hc => ?_)
    · have h := x_f hc h
      refine x_bipush (x := (-5)) dX6_grant_23 (by decide) ?_
      refine x_istore_n (-5) rfl dX6_grant_25 rfl (Nat.le_of_ble_eq_true rfl) [(3, .int (-5)), (0, .ref (w.2.2 5 30 0 0)), (1, .int a1), (2, .int a2)] rfl ?_
      refine x_aload_n dX6_grant_26 rfl 1 rfl ?_
      refine x_getR (d1 := 5) (K1 := 31) (p1 := 0) (r1 := 0) fl_X6_7 (ok_e30 hw) rfl dX6_grant_27 ?_
      refine x_iload_n dX6_grant_30 rfl 2 rfl ?_
      refine x_iconst (x := 3) dX6_grant_31 rfl ?_
      obtain ⟨z3, s3, h3, h⟩ := x_b_e h
      refine x_callS (As := [.int a1, .int 3]) (st := [.ref (w.2.2 5 31 0 0)]) (eX6_port hw  h3) cs_X6_44 (Nat.le_of_ble_eq_true rfl) rfl (Nat.le_of_ble_eq_true rfl) _ rfl dX6_grant_32 [.int z3, .ref (w.2.2 5 31 0 0)] rfl ?_
      obtain ⟨hg4, h⟩ := x_g_e h
      refine x_iald 6464 z3.toNatClampNeg rfl rfl rfl rfl (ok_e31 hw) hg4 dX6_grant_35 ?_
      refine x_if_ne (tgt := 129) dX6_grant_36 rfl (fun hc => ?_) (fun hc => ?_)
      · have h := x_f hc h
        refine x_aload_n dX6_grant_129 rfl 1 rfl ?_
        obtain ⟨z5, s5, h5, h⟩ := x_b_e h
        refine x_callV (As := []) (st := []) (eX6_keeps hw  h5) cv_X6_83 (Nat.le_of_ble_eq_true rfl) (ok_e30 hw) rfl (Nat.le_of_ble_eq_true rfl) _ rfl dX6_grant_130 [] rfl ?_
        refine x_iload_n dX6_grant_133 rfl 0 rfl ?_
        refine x_bipush (x := (-5)) dX6_grant_134 (by decide) ?_
        refine x_icmp_eq (tgt := 144) dX6_grant_136 rfl (fun hc => ?_) (fun hc => ?_)
        · skip
          refine x_sub (L1 := [(0, .ref (w.2.2 5 30 0 0)), (1, .int a1), (2, .int a2), (3, .int (-5))]) [1, 2, 3, 0] rfl ?_
          exact TX6_grant_144 hw  h
        · exact absurd hc (by decide)
      · have h := x_t hc h
        refine x_iconst (x := 0) dX6_grant_39 rfl ?_
        refine x_istore 0 rfl dX6_grant_40 (Nat.le_of_ble_eq_true rfl) [(4, .int 0), (3, .int (-5)), (0, .ref (w.2.2 5 30 0 0)), (1, .int a1), (2, .int a2)] rfl ?_
        refine x_iconst (x := 0) dX6_grant_42 rfl ?_
        refine x_istore 0 rfl dX6_grant_43 (Nat.le_of_ble_eq_true rfl) [(5, .int 0), (4, .int 0), (3, .int (-5)), (0, .ref (w.2.2 5 30 0 0)), (1, .int a1), (2, .int a2)] rfl ?_
        refine x_sub (L1 := [(0, .ref (w.2.2 5 30 0 0)), (1, .int a1), (2, .int a2), (3, .int (-5)), (4, .int 0), (5, .int 0)]) [3, 4, 5, 2, 1, 0] rfl ?_
        exact TX6_grant_45 hw _ _ _ _ _ h
    · have h := x_t hc h
      refine x_bipush (x := (-2)) dX6_grant_20 (by decide) ?_
      exact x_iretH rfl dX6_grant_22 h
  · have h := x_t hc h
    refine x_iconst (x := (-1)) dX6_grant_8 (by decide) ?_
    exact x_iretH rfl dX6_grant_9 h
set_option maxRecDepth 100000 in
set_option maxHeartbeats 4000000 in
theorem eX6_withdraw {l : Launch} {w : xW} (hw : w.1.2 = true) {a1 : Int32} {σ τ : xS} {r : Int32} (h : fX6_withdraw a1 σ = some (r, τ)) : xEV l w yX6_withdraw mX6_withdraw [.ref (w.2.2 5 30 0 0), .int a1] σ (some (.int r)) τ := by
  rw [fX6_withdraw] at h
  refine x_enter (by decide +kernel) rfl (Nat.le_of_ble_eq_true rfl) ?_
  refine x_sub (L1 := [(0, .ref (w.2.2 5 30 0 0)), (1, .int a1)]) [0, 1] rfl ?_
  refine x_aload_n dX6_withdraw_0 rfl 0 rfl ?_
  refine x_iload_n dX6_withdraw_1 rfl 1 rfl ?_
  obtain ⟨z1, s1, h1, h⟩ := x_b_e h
  refine x_callV (As := [.int a1]) (st := []) (eX6_isPort hw  h1) cv_X6_40 (Nat.le_of_ble_eq_true rfl) (ok_e30 hw) rfl (Nat.le_of_ble_eq_true rfl) _ rfl dX6_withdraw_2 [.int z1] rfl ?_
  refine x_if_ne (tgt := 10) dX6_withdraw_5 rfl (fun hc => ?_) (fun hc => ?_)
  · have h := x_f hc h
    refine x_aload_n dX6_withdraw_10 rfl 0 rfl ?_
    refine x_getR (d1 := 5) (K1 := 31) (p1 := 0) (r1 := 0) fl_X6_7 (ok_e30 hw) rfl dX6_withdraw_11 ?_
    refine x_iload_n dX6_withdraw_14 rfl 1 rfl ?_
    refine x_iconst (x := 3) dX6_withdraw_15 rfl ?_
    obtain ⟨z2, s2, h2, h⟩ := x_b_e h
    refine x_callS (As := [.int a1, .int 3]) (st := [.ref (w.2.2 5 31 0 0)]) (eX6_port hw  h2) cs_X6_44 (Nat.le_of_ble_eq_true rfl) rfl (Nat.le_of_ble_eq_true rfl) _ rfl dX6_withdraw_16 [.int z2, .ref (w.2.2 5 31 0 0)] rfl ?_
    obtain ⟨hg3, h⟩ := x_g_e h
    refine x_iald 6464 z2.toNatClampNeg rfl rfl rfl rfl (ok_e31 hw) hg3 dX6_withdraw_19 ?_
    refine x_if_ne (tgt := 26) dX6_withdraw_20 rfl (fun hc => ?_) (fun hc => ?_)
    · have h := x_f hc h
      refine x_aload_n dX6_withdraw_26 rfl 0 rfl ?_
      refine x_getR (d1 := 5) (K1 := 31) (p1 := 0) (r1 := 0) fl_X6_7 (ok_e30 hw) rfl dX6_withdraw_27 ?_
      refine x_iload_n dX6_withdraw_30 rfl 1 rfl ?_
      refine x_iconst (x := 2) dX6_withdraw_31 rfl ?_
      obtain ⟨z4, s4, h4, h⟩ := x_b_e h
      refine x_callS (As := [.int a1, .int 2]) (st := [.ref (w.2.2 5 31 0 0)]) (eX6_port hw  h4) cs_X6_44 (Nat.le_of_ble_eq_true rfl) rfl (Nat.le_of_ble_eq_true rfl) _ rfl dX6_withdraw_32 [.int z4, .ref (w.2.2 5 31 0 0)] rfl ?_
      obtain ⟨hg5, h⟩ := x_g_e h
      refine x_iald 6464 z4.toNatClampNeg rfl rfl rfl rfl (ok_e31 hw) hg5 dX6_withdraw_35 ?_
      obtain ⟨t6, ht6, h⟩ := x_let_e h
      refine x_istore_n t6 ht6 dX6_withdraw_36 rfl (Nat.le_of_ble_eq_true rfl) [(2, .int t6), (0, .ref (w.2.2 5 30 0 0)), (1, .int a1)] rfl ?_
      refine x_aload_n dX6_withdraw_37 rfl 1 rfl ?_
      refine x_iload_n dX6_withdraw_38 rfl 2 rfl ?_
      obtain ⟨z7, s7, h7, h⟩ := x_b_e h
      refine x_callV (As := [.int a1]) (st := []) (eX6_drops hw  h7) cv_X6_86 (Nat.le_of_ble_eq_true rfl) (ok_e30 hw) rfl (Nat.le_of_ble_eq_true rfl) _ rfl dX6_withdraw_39 [] rfl ?_
      refine x_iload_n dX6_withdraw_42 rfl 0 rfl ?_
      exact x_iretH rfl dX6_withdraw_43 h
    · have h := x_t hc h
      refine x_bipush (x := (-5)) dX6_withdraw_23 (by decide) ?_
      exact x_iretH rfl dX6_withdraw_25 h
  · have h := x_t hc h
    refine x_iconst (x := (-1)) dX6_withdraw_8 (by decide) ?_
    exact x_iretH rfl dX6_withdraw_9 h
set_option maxRecDepth 100000 in
set_option maxHeartbeats 4000000 in
theorem TX6_slotOf_2 {l : Launch} {w : xW} (hw : w.1.2 = true) {a1 : Int32} {τ : xS} {r : Int32} : ∀ (n : Nat) (a2 : Int32) (σ : xS), BX6_slotOf_2 a1 n a2 σ = some (r, τ) → xAt l w mX6_slotOf 2 [(0, .ref (w.2.2 5 30 0 0)), (1, .int a1), (2, .int a2)] [] σ (some (.int r)) τ := by
  intro n
  induction n with
  | zero => intro a2 σ h; cases h
  | succ n ih =>
    intro a2 σ h
    rw [BX6_slotOf_2] at h
    refine x_iload_n dX6_slotOf_2 rfl 2 rfl ?_
    refine x_sipush (x := 128) dX6_slotOf_3 rfl ?_
    refine x_icmp_ge (tgt := 45) dX6_slotOf_6 rfl (fun hc => ?_) (fun hc => ?_)
    · have h := x_t hc h
      refine x_iconst (x := (-1)) dX6_slotOf_45 (by decide) ?_
      exact x_iretH rfl dX6_slotOf_46 h
    · have h := x_f hc h
      refine x_aload_n dX6_slotOf_9 rfl 0 rfl ?_
      refine x_getR (d1 := 5) (K1 := 31) (p1 := 0) (r1 := 0) fl_X6_7 (ok_e30 hw) rfl dX6_slotOf_10 ?_
      refine x_iload_n dX6_slotOf_13 rfl 2 rfl ?_
      refine x_iconst (x := 3) dX6_slotOf_14 rfl ?_
      obtain ⟨z1, s1, h1, h⟩ := x_b_e h
      refine x_callS (As := [.int a2, .int 3]) (st := [.ref (w.2.2 5 31 0 0)]) (eX6_packet hw  h1) cs_X6_92 (Nat.le_of_ble_eq_true rfl) rfl (Nat.le_of_ble_eq_true rfl) _ rfl dX6_slotOf_15 [.int z1, .ref (w.2.2 5 31 0 0)] rfl ?_
      obtain ⟨hg2, h⟩ := x_g_e h
      refine x_iald 6464 z1.toNatClampNeg rfl rfl rfl rfl (ok_e31 hw) hg2 dX6_slotOf_18 ?_
      refine x_iconst (x := 1) dX6_slotOf_19 rfl ?_
      refine x_icmp_ne (tgt := 39) dX6_slotOf_20 rfl (fun hc => ?_) (fun hc => ?_)
      · have h := x_f hc h
        obtain ⟨t3, ht3, h⟩ := x_let_e h
        refine x_iinc t3 1 rfl ht3 dX6_slotOf_39 2 rfl (Nat.le_of_ble_eq_true rfl) [(2, .int t3), (0, .ref (w.2.2 5 30 0 0)), (1, .int a1)] rfl ?_
        refine x_goto (tgt := 2) dX6_slotOf_42 rfl ?_
        refine x_sub (L1 := [(0, .ref (w.2.2 5 30 0 0)), (1, .int a1), (2, .int t3)]) [1, 2, 0] rfl ?_
        exact ih _ _ h
      · have h := x_t hc h
        refine x_aload_n dX6_slotOf_23 rfl 0 rfl ?_
        refine x_getR (d1 := 5) (K1 := 31) (p1 := 0) (r1 := 0) fl_X6_7 (ok_e30 hw) rfl dX6_slotOf_24 ?_
        refine x_iload_n dX6_slotOf_27 rfl 2 rfl ?_
        refine x_iconst (x := 0) dX6_slotOf_28 rfl ?_
        obtain ⟨z4, s4, h4, h⟩ := x_b_e h
        refine x_callS (As := [.int a2, .int 0]) (st := [.ref (w.2.2 5 31 0 0)]) (eX6_packet hw  h4) cs_X6_92 (Nat.le_of_ble_eq_true rfl) rfl (Nat.le_of_ble_eq_true rfl) _ rfl dX6_slotOf_29 [.int z4, .ref (w.2.2 5 31 0 0)] rfl ?_
        obtain ⟨hg5, h⟩ := x_g_e h
        refine x_iald 6464 z4.toNatClampNeg rfl rfl rfl rfl (ok_e31 hw) hg5 dX6_slotOf_32 ?_
        refine x_iload_n dX6_slotOf_33 rfl 1 rfl ?_
        refine x_icmp_ne (tgt := 39) dX6_slotOf_34 rfl (fun hc => ?_) (fun hc => ?_)
        · have h := x_f hc h
          obtain ⟨t6, ht6, h⟩ := x_let_e h
          refine x_iinc t6 1 rfl ht6 dX6_slotOf_39 2 rfl (Nat.le_of_ble_eq_true rfl) [(2, .int t6), (0, .ref (w.2.2 5 30 0 0)), (1, .int a1)] rfl ?_
          refine x_goto (tgt := 2) dX6_slotOf_42 rfl ?_
          refine x_sub (L1 := [(0, .ref (w.2.2 5 30 0 0)), (1, .int a1), (2, .int t6)]) [1, 2, 0] rfl ?_
          exact ih _ _ h
        · have h := x_t hc h
          refine x_iload_n dX6_slotOf_37 rfl 2 rfl ?_
          exact x_iretH rfl dX6_slotOf_38 h
set_option maxRecDepth 100000 in
set_option maxHeartbeats 4000000 in
theorem eX6_slotOf {l : Launch} {w : xW} (hw : w.1.2 = true) {a1 : Int32} {σ τ : xS} {r : Int32} (h : fX6_slotOf a1 σ = some (r, τ)) : xEV l w yX6_slotOf mX6_slotOf [.ref (w.2.2 5 30 0 0), .int a1] σ (some (.int r)) τ := by
  rw [fX6_slotOf] at h
  refine x_enter (by decide +kernel) rfl (Nat.le_of_ble_eq_true rfl) ?_
  refine x_sub (L1 := [(0, .ref (w.2.2 5 30 0 0)), (1, .int a1)]) [0, 1] rfl ?_
  refine x_iconst (x := 0) dX6_slotOf_0 rfl ?_
  refine x_istore_n 0 rfl dX6_slotOf_1 rfl (Nat.le_of_ble_eq_true rfl) [(2, .int 0), (0, .ref (w.2.2 5 30 0 0)), (1, .int a1)] rfl ?_
  refine x_sub (L1 := [(0, .ref (w.2.2 5 30 0 0)), (1, .int a1), (2, .int 0)]) [1, 2, 0] rfl ?_
  exact TX6_slotOf_2 hw _ _ _ h
set_option maxRecDepth 100000 in
set_option maxHeartbeats 4000000 in
theorem TX6_newSlot_2 {l : Launch} {w : xW} (hw : w.1.2 = true) {τ : xS} {r : Int32} : ∀ (n : Nat) (a1 : Int32) (σ : xS), BX6_newSlot_2 n a1 σ = some (r, τ) → xAt l w mX6_newSlot 2 [(0, .ref (w.2.2 5 30 0 0)), (1, .int a1)] [] σ (some (.int r)) τ := by
  intro n
  induction n with
  | zero => intro a1 σ h; cases h
  | succ n ih =>
    intro a1 σ h
    rw [BX6_newSlot_2] at h
    refine x_aload_n dX6_newSlot_2 rfl 0 rfl ?_
    refine x_getR (d1 := 5) (K1 := 31) (p1 := 0) (r1 := 0) fl_X6_7 (ok_e30 hw) rfl dX6_newSlot_3 ?_
    refine x_iload_n dX6_newSlot_6 rfl 1 rfl ?_
    refine x_iconst (x := 3) dX6_newSlot_7 rfl ?_
    obtain ⟨z1, s1, h1, h⟩ := x_b_e h
    refine x_callS (As := [.int a1, .int 3]) (st := [.ref (w.2.2 5 31 0 0)]) (eX6_packet hw  h1) cs_X6_92 (Nat.le_of_ble_eq_true rfl) rfl (Nat.le_of_ble_eq_true rfl) _ rfl dX6_newSlot_8 [.int z1, .ref (w.2.2 5 31 0 0)] rfl ?_
    obtain ⟨hg2, h⟩ := x_g_e h
    refine x_iald 6464 z1.toNatClampNeg rfl rfl rfl rfl (ok_e31 hw) hg2 dX6_newSlot_11 ?_
    refine x_iconst (x := 1) dX6_newSlot_12 rfl ?_
    refine x_icmp_ne (tgt := 22) dX6_newSlot_13 rfl (fun hc => ?_) (fun hc => ?_)
    · have h := x_f hc h
      refine x_iload_n dX6_newSlot_22 rfl 1 rfl ?_
      exact x_iretH rfl dX6_newSlot_23 h
    · have h := x_t hc h
      obtain ⟨t3, ht3, h⟩ := x_let_e h
      refine x_iinc t3 1 rfl ht3 dX6_newSlot_16 1 rfl (Nat.le_of_ble_eq_true rfl) [(1, .int t3), (0, .ref (w.2.2 5 30 0 0))] rfl ?_
      refine x_goto (tgt := 2) dX6_newSlot_19 rfl ?_
      refine x_sub (L1 := [(0, .ref (w.2.2 5 30 0 0)), (1, .int t3)]) [1, 0] rfl ?_
      exact ih _ _ h
set_option maxRecDepth 100000 in
set_option maxHeartbeats 4000000 in
theorem eX6_newSlot {l : Launch} {w : xW} (hw : w.1.2 = true) {σ τ : xS} {r : Int32} (h : fX6_newSlot σ = some (r, τ)) : xEV l w yX6_newSlot mX6_newSlot [.ref (w.2.2 5 30 0 0)] σ (some (.int r)) τ := by
  rw [fX6_newSlot] at h
  refine x_enter (by decide +kernel) rfl (Nat.le_of_ble_eq_true rfl) ?_
  refine x_sub (L1 := [(0, .ref (w.2.2 5 30 0 0))]) [0] rfl ?_
  refine x_iconst (x := 0) dX6_newSlot_0 rfl ?_
  refine x_istore_n 0 rfl dX6_newSlot_1 rfl (Nat.le_of_ble_eq_true rfl) [(1, .int 0), (0, .ref (w.2.2 5 30 0 0))] rfl ?_
  refine x_sub (L1 := [(0, .ref (w.2.2 5 30 0 0)), (1, .int 0)]) [1, 0] rfl ?_
  exact TX6_newSlot_2 hw _ _ _ h
set_option maxRecDepth 100000 in
set_option maxHeartbeats 4000000 in
theorem eX6_isFree {l : Launch} {w : xW} (hw : w.1.2 = true) {a1 : Int32} {σ τ : xS} {r : Int32} (h : fX6_isFree a1 σ = some (r, τ)) : xEV l w yX6_isFree mX6_isFree [.ref (w.2.2 5 30 0 0), .int a1] σ (some (.int r)) τ := by
  rw [fX6_isFree] at h
  refine x_enter (by decide +kernel) rfl (Nat.le_of_ble_eq_true rfl) ?_
  refine x_sub (L1 := [(0, .ref (w.2.2 5 30 0 0)), (1, .int a1)]) [0, 1] rfl ?_
  refine x_iload_n dX6_isFree_0 rfl 1 rfl ?_
  refine x_aload_n dX6_isFree_1 rfl 0 rfl ?_
  refine x_getR (d1 := 5) (K1 := 31) (p1 := 0) (r1 := 0) fl_X6_7 (ok_e30 hw) rfl dX6_isFree_2 ?_
  refine x_iconst (x := 0) dX6_isFree_5 rfl ?_
  refine x_iald 6464 0 rfl rfl rfl rfl (ok_e31 hw) rfl dX6_isFree_6 ?_
  refine x_icmp_ge (tgt := 27) dX6_isFree_7 rfl (fun hc => ?_) (fun hc => ?_)
  · have h := x_t hc h
    refine x_iconst (x := 0) dX6_isFree_27 rfl ?_
    exact x_zretH rfl rfl dX6_isFree_28 h
  · have h := x_f hc h
    refine x_aload_n dX6_isFree_10 rfl 0 rfl ?_
    refine x_getR (d1 := 5) (K1 := 31) (p1 := 0) (r1 := 0) fl_X6_7 (ok_e30 hw) rfl dX6_isFree_11 ?_
    refine x_sipush (x := 6336) dX6_isFree_14 rfl ?_
    refine x_iload_n dX6_isFree_17 rfl 1 rfl ?_
    refine x_iadd dX6_isFree_18 ?_
    obtain ⟨t1, ht1, h⟩ := x_let_e h
    refine x_nm t1 ht1 ?_
    obtain ⟨hg2, h⟩ := x_g_e h
    refine x_iald 6464 t1.toNatClampNeg rfl rfl rfl rfl (ok_e31 hw) hg2 dX6_isFree_19 ?_
    refine x_if_ne (tgt := 27) dX6_isFree_20 rfl (fun hc => ?_) (fun hc => ?_)
    · have h := x_f hc h
      refine x_iconst (x := 0) dX6_isFree_27 rfl ?_
      exact x_zretH rfl rfl dX6_isFree_28 h
    · have h := x_t hc h
      refine x_iconst (x := 1) dX6_isFree_23 rfl ?_
      refine x_goto (tgt := 28) dX6_isFree_24 rfl ?_
      exact x_zretH rfl rfl dX6_isFree_28 h
set_option maxRecDepth 100000 in
set_option maxHeartbeats 4000000 in
theorem TX6_runAt_26 {l : Launch} {w : xW} (hw : w.1.2 = true) {a1 : Int32} {τ : xS} {r : Int32} : ∀ (n : Nat) (a2 : Int32) (σ : xS), BX6_runAt_26 a1 n a2 σ = some (r, τ) → xAt l w mX6_runAt 26 [(0, .ref (w.2.2 5 30 0 0)), (1, .int a1), (2, .int a2)] [] σ (some (.int r)) τ := by
  intro n
  induction n with
  | zero => intro a2 σ h; cases h
  | succ n ih =>
    intro a2 σ h
    rw [BX6_runAt_26] at h
    refine x_aload_n dX6_runAt_26 rfl 0 rfl ?_
    refine x_iload_n dX6_runAt_27 rfl 1 rfl ?_
    refine x_iload_n dX6_runAt_28 rfl 2 rfl ?_
    refine x_iadd dX6_runAt_29 ?_
    obtain ⟨z2, s2, h2, h⟩ := x_b_e h
    refine x_callV (As := [.int (a1 + a2)]) (st := []) (eX6_isFree hw  h2) cv_X6_95 (Nat.le_of_ble_eq_true rfl) (ok_e30 hw) rfl (Nat.le_of_ble_eq_true rfl) _ rfl dX6_runAt_30 [.int z2] rfl ?_
    refine x_if_eq (tgt := 42) dX6_runAt_33 rfl (fun hc => ?_) (fun hc => ?_)
    · have h := x_t hc h
      refine x_iload_n dX6_runAt_42 rfl 2 rfl ?_
      exact x_iretH rfl dX6_runAt_43 h
    · have h := x_f hc h
      obtain ⟨t3, ht3, h⟩ := x_let_e h
      refine x_iinc t3 1 rfl ht3 dX6_runAt_36 2 rfl (Nat.le_of_ble_eq_true rfl) [(2, .int t3), (0, .ref (w.2.2 5 30 0 0)), (1, .int a1)] rfl ?_
      refine x_goto (tgt := 26) dX6_runAt_39 rfl ?_
      refine x_sub (L1 := [(0, .ref (w.2.2 5 30 0 0)), (1, .int a1), (2, .int t3)]) [1, 2, 0] rfl ?_
      exact ih _ _ h
set_option maxRecDepth 100000 in
set_option maxHeartbeats 4000000 in
theorem eX6_runAt {l : Launch} {w : xW} (hw : w.1.2 = true) {a1 : Int32} {σ τ : xS} {r : Int32} (h : fX6_runAt a1 σ = some (r, τ)) : xEV l w yX6_runAt mX6_runAt [.ref (w.2.2 5 30 0 0), .int a1] σ (some (.int r)) τ := by
  rw [fX6_runAt] at h
  refine x_enter (by decide +kernel) rfl (Nat.le_of_ble_eq_true rfl) ?_
  refine x_sub (L1 := [(0, .ref (w.2.2 5 30 0 0)), (1, .int a1)]) [0, 1] rfl ?_
  refine x_aload_n dX6_runAt_0 rfl 0 rfl ?_
  refine x_iload_n dX6_runAt_1 rfl 1 rfl ?_
  obtain ⟨z1, s1, h1, h⟩ := x_b_e h
  refine x_callV (As := [.int a1]) (st := []) (eX6_isFree hw  h1) cv_X6_95 (Nat.le_of_ble_eq_true rfl) (ok_e30 hw) rfl (Nat.le_of_ble_eq_true rfl) _ rfl dX6_runAt_2 [.int z1] rfl ?_
  refine x_if_eq (tgt := 22) dX6_runAt_5 rfl (fun hc => ?_) (fun hc => ?_)
  · have h := x_t hc h
    refine x_iconst (x := 0) dX6_runAt_22 rfl ?_
    exact x_iretH rfl dX6_runAt_23 h
  · have h := x_f hc h
    refine x_iload_n dX6_runAt_8 rfl 1 rfl ?_
    refine x_if_le (tgt := 24) dX6_runAt_9 rfl (fun hc => ?_) (fun hc => ?_)
    · have h := x_t hc h
      refine x_iconst (x := 0) dX6_runAt_24 rfl ?_
      refine x_istore_n 0 rfl dX6_runAt_25 rfl (Nat.le_of_ble_eq_true rfl) [(2, .int 0), (0, .ref (w.2.2 5 30 0 0)), (1, .int a1)] rfl ?_
      refine x_sub (L1 := [(0, .ref (w.2.2 5 30 0 0)), (1, .int a1), (2, .int 0)]) [1, 2, 0] rfl ?_
      exact TX6_runAt_26 hw _ _ _ h
    · have h := x_f hc h
      refine x_aload_n dX6_runAt_12 rfl 0 rfl ?_
      refine x_iload_n dX6_runAt_13 rfl 1 rfl ?_
      refine x_iconst (x := 1) dX6_runAt_14 rfl ?_
      refine x_isub dX6_runAt_15 ?_
      obtain ⟨z4, s4, h4, h⟩ := x_b_e h
      refine x_callV (As := [.int (a1 - 1)]) (st := []) (eX6_isFree hw  h4) cv_X6_95 (Nat.le_of_ble_eq_true rfl) (ok_e30 hw) rfl (Nat.le_of_ble_eq_true rfl) _ rfl dX6_runAt_16 [.int z4] rfl ?_
      refine x_if_eq (tgt := 24) dX6_runAt_19 rfl (fun hc => ?_) (fun hc => ?_)
      · have h := x_t hc h
        refine x_iconst (x := 0) dX6_runAt_24 rfl ?_
        refine x_istore_n 0 rfl dX6_runAt_25 rfl (Nat.le_of_ble_eq_true rfl) [(2, .int 0), (0, .ref (w.2.2 5 30 0 0)), (1, .int a1)] rfl ?_
        refine x_sub (L1 := [(0, .ref (w.2.2 5 30 0 0)), (1, .int a1), (2, .int 0)]) [1, 2, 0] rfl ?_
        exact TX6_runAt_26 hw _ _ _ h
      · have h := x_f hc h
        refine x_iconst (x := 0) dX6_runAt_22 rfl ?_
        exact x_iretH rfl dX6_runAt_23 h
set_option maxRecDepth 100000 in
set_option maxHeartbeats 4000000 in
theorem TX6_places_185 {l : Launch} {w : xW} (hw : w.1.2 = true) {a1 : Int32} {a2 : Int32} {a5 : Int32} {a6 : Int32} {k11 : Int32 → xS → Option (Unit × xS)} {τ : xS} {r : Unit} (hk11 : ∀ (a2 : Int32) (σ1 : xS), k11 a2 σ1 = some (r, τ) → xAt l w mX6_places 11 [(0, .ref (w.2.2 5 30 0 0)), (1, .int a1), (2, .int a2)] [] σ1 none τ) : ∀ (n : Nat) (a8 : Int32) (σ : xS), BX6_places_185 a1 a2 a5 a6 k11 n a8 σ = some (r, τ) → xAt l w mX6_places 185 [(0, .ref (w.2.2 5 30 0 0)), (1, .int a1), (2, .int a2), (5, .int a5), (6, .int a6), (8, .int a8)] [] σ none τ := by
  intro n
  induction n with
  | zero => intro a8 σ h; cases h
  | succ n ih =>
    intro a8 σ h
    rw [BX6_places_185] at h
    refine x_iload dX6_places_185 5 rfl ?_
    refine x_iload dX6_places_187 3 rfl ?_
    refine x_iload dX6_places_189 4 rfl ?_
    refine x_iadd dX6_places_191 ?_
    refine x_icmp_ge (tgt := 215) dX6_places_192 rfl (fun hc => ?_) (fun hc => ?_)
    · have h := x_t hc h
      refine x_iload_n dX6_places_215 rfl 2 rfl ?_
      refine x_iload dX6_places_216 4 rfl ?_
      refine x_isub dX6_places_218 ?_
      obtain ⟨t18, ht18, h⟩ := x_let_e h
      refine x_istore_n t18 ht18 dX6_places_219 rfl (Nat.le_of_ble_eq_true rfl) [(2, .int t18), (0, .ref (w.2.2 5 30 0 0)), (1, .int a1), (5, .int a5), (6, .int a6), (8, .int a8)] rfl ?_
      refine x_goto (tgt := 11) dX6_places_220 rfl ?_
      refine x_sub (L1 := [(0, .ref (w.2.2 5 30 0 0)), (1, .int a1), (2, .int t18)]) [1, 2, 0] rfl ?_
      exact hk11 _ _ h
    · have h := x_f hc h
      refine x_aload_n dX6_places_195 rfl 0 rfl ?_
      refine x_getR (d1 := 5) (K1 := 31) (p1 := 0) (r1 := 0) fl_X6_7 (ok_e30 hw) rfl dX6_places_196 ?_
      refine x_sipush (x := 6336) dX6_places_199 rfl ?_
      refine x_iload dX6_places_202 5 rfl ?_
      refine x_iadd dX6_places_204 ?_
      refine x_iload_n dX6_places_205 rfl 1 rfl ?_
      refine x_iconst (x := 1) dX6_places_206 rfl ?_
      refine x_iadd dX6_places_207 ?_
      obtain ⟨t19, ht19, h⟩ := x_let_e h
      refine x_nm2 t19 ht19 ?_
      obtain ⟨hg20, h⟩ := x_g_e h
      obtain ⟨s21, hs21, h⟩ := x_let_e h
      refine x_iast 6464 t19.toNatClampNeg rfl s21 hs21 rfl rfl rfl (ok_e31 hw) hg20 dX6_places_208 ?_
      obtain ⟨t22, ht22, h⟩ := x_let_e h
      refine x_iinc t22 1 rfl ht22 dX6_places_209 5 rfl (Nat.le_of_ble_eq_true rfl) [(8, .int t22), (0, .ref (w.2.2 5 30 0 0)), (1, .int a1), (2, .int a2), (5, .int a5), (6, .int a6)] rfl ?_
      refine x_goto (tgt := 185) dX6_places_212 rfl ?_
      refine x_sub (L1 := [(0, .ref (w.2.2 5 30 0 0)), (1, .int a1), (2, .int a2), (5, .int a5), (6, .int a6), (8, .int t22)]) [1, 2, 3, 4, 5, 0] rfl ?_
      exact ih _ _ h
set_option maxRecDepth 100000 in
set_option maxHeartbeats 4000000 in
theorem TX6_places_122 {l : Launch} {w : xW} (hw : w.1.2 = true) {a1 : Int32} {a2 : Int32} {a5 : Int32} {as0 : Int32} {k11 : Int32 → xS → Option (Unit × xS)} {σ τ : xS} {r : Unit} (hk11 : ∀ (a2 : Int32) (σ1 : xS), k11 a2 σ1 = some (r, τ) → xAt l w mX6_places 11 [(0, .ref (w.2.2 5 30 0 0)), (1, .int a1), (2, .int a2)] [] σ1 none τ) (h : BX6_places_122 a1 a2 a5 as0 k11 σ = some (r, τ)) : xAt l w mX6_places 122 [(0, .ref (w.2.2 5 30 0 0)), (1, .int a1), (2, .int a2), (5, .int a5)] [.int as0] σ none τ := by
  rw [BX6_places_122] at h
  refine x_istore as0 rfl dX6_places_122 (Nat.le_of_ble_eq_true rfl) [(6, .int as0), (0, .ref (w.2.2 5 30 0 0)), (1, .int a1), (2, .int a2), (5, .int a5)] rfl ?_
  refine x_aload_n dX6_places_124 rfl 1 rfl ?_
  refine x_getR (d1 := 5) (K1 := 31) (p1 := 0) (r1 := 0) fl_X6_7 (ok_e30 hw) rfl dX6_places_125 ?_
  refine x_iload_n dX6_places_128 rfl 2 rfl ?_
  refine x_iconst (x := 2) dX6_places_129 rfl ?_
  obtain ⟨z5, s5, h5, h⟩ := x_b_e h
  refine x_callS (As := [.int a1, .int 2]) (st := [.ref (w.2.2 5 31 0 0)]) (eX6_packet hw  h5) cs_X6_92 (Nat.le_of_ble_eq_true rfl) rfl (Nat.le_of_ble_eq_true rfl) _ rfl dX6_places_130 [.int z5, .ref (w.2.2 5 31 0 0)] rfl ?_
  obtain ⟨hg6, h⟩ := x_g_e h
  refine x_iald 6464 z5.toNatClampNeg rfl rfl rfl rfl (ok_e31 hw) hg6 dX6_places_133 ?_
  obtain ⟨t7, ht7, h⟩ := x_let_e h
  refine x_istore t7 ht7 dX6_places_134 (Nat.le_of_ble_eq_true rfl) [(7, .int t7), (6, .int as0), (0, .ref (w.2.2 5 30 0 0)), (1, .int a1), (2, .int a2), (5, .int a5)] rfl ?_
  refine x_aload_n dX6_places_136 rfl 2 rfl ?_
  refine x_getR (d1 := 5) (K1 := 31) (p1 := 0) (r1 := 0) fl_X6_7 (ok_e30 hw) rfl dX6_places_137 ?_
  refine x_iload_n dX6_places_140 rfl 3 rfl ?_
  refine x_iconst (x := 4) dX6_places_141 rfl ?_
  refine x_iload dX6_places_142 0 rfl ?_
  refine x_iadd dX6_places_144 ?_
  obtain ⟨z8, s8, h8, h⟩ := x_b_e h
  refine x_callS (As := [.int a1, .int (4 + t7)]) (st := [.ref (w.2.2 5 31 0 0)]) (eX6_packet hw  h8) cs_X6_92 (Nat.le_of_ble_eq_true rfl) rfl (Nat.le_of_ble_eq_true rfl) _ rfl dX6_places_145 [.int z8, .ref (w.2.2 5 31 0 0)] rfl ?_
  refine x_iload dX6_places_148 5 rfl ?_
  obtain ⟨hg9, h⟩ := x_g_e h
  obtain ⟨s10, hs10, h⟩ := x_let_e h
  refine x_iast 6464 z8.toNatClampNeg rfl s10 hs10 rfl rfl rfl (ok_e31 hw) hg9 dX6_places_150 ?_
  refine x_aload_n dX6_places_151 rfl 2 rfl ?_
  refine x_getR (d1 := 5) (K1 := 31) (p1 := 0) (r1 := 0) fl_X6_7 (ok_e30 hw) rfl dX6_places_152 ?_
  refine x_iload_n dX6_places_155 rfl 3 rfl ?_
  refine x_bipush (x := 16) dX6_places_156 rfl ?_
  refine x_iload dX6_places_158 0 rfl ?_
  refine x_iadd dX6_places_160 ?_
  obtain ⟨z11, s11, h11, h⟩ := x_b_e h
  refine x_callS (As := [.int a1, .int (16 + t7)]) (st := [.ref (w.2.2 5 31 0 0)]) (eX6_packet hw  h11) cs_X6_92 (Nat.le_of_ble_eq_true rfl) rfl (Nat.le_of_ble_eq_true rfl) _ rfl dX6_places_161 [.int z11, .ref (w.2.2 5 31 0 0)] rfl ?_
  refine x_iload dX6_places_164 1 rfl ?_
  obtain ⟨hg12, h⟩ := x_g_e h
  obtain ⟨s13, hs13, h⟩ := x_let_e h
  refine x_iast 6464 z11.toNatClampNeg rfl s13 hs13 rfl rfl rfl (ok_e31 hw) hg12 dX6_places_166 ?_
  refine x_aload_n dX6_places_167 rfl 2 rfl ?_
  refine x_getR (d1 := 5) (K1 := 31) (p1 := 0) (r1 := 0) fl_X6_7 (ok_e30 hw) rfl dX6_places_168 ?_
  refine x_iload_n dX6_places_171 rfl 3 rfl ?_
  refine x_iconst (x := 2) dX6_places_172 rfl ?_
  obtain ⟨z14, s14, h14, h⟩ := x_b_e h
  refine x_callS (As := [.int a1, .int 2]) (st := [.ref (w.2.2 5 31 0 0)]) (eX6_packet hw  h14) cs_X6_92 (Nat.le_of_ble_eq_true rfl) rfl (Nat.le_of_ble_eq_true rfl) _ rfl dX6_places_173 [.int z14, .ref (w.2.2 5 31 0 0)] rfl ?_
  refine x_dup2 dX6_places_176 rfl rfl ?_
  obtain ⟨hg15, h⟩ := x_g_e h
  refine x_iald 6464 z14.toNatClampNeg rfl rfl rfl rfl (ok_e31 hw) hg15 dX6_places_177 ?_
  refine x_iconst (x := 1) dX6_places_178 rfl ?_
  refine x_iadd dX6_places_179 ?_
  obtain ⟨hg16, h⟩ := x_g_e h
  obtain ⟨s17, hs17, h⟩ := x_let_e h
  refine x_iast 6464 z14.toNatClampNeg rfl s17 hs17 rfl rfl rfl (ok_e31 hw) hg16 dX6_places_180 ?_
  refine x_iload dX6_places_181 5 rfl ?_
  refine x_istore a5 rfl dX6_places_183 (Nat.le_of_ble_eq_true rfl) [(8, .int a5), (7, .int t7), (6, .int as0), (0, .ref (w.2.2 5 30 0 0)), (1, .int a1), (2, .int a2), (5, .int a5)] rfl ?_
  refine x_sub (L1 := [(0, .ref (w.2.2 5 30 0 0)), (1, .int a1), (2, .int a2), (5, .int a5), (6, .int as0), (8, .int a5)]) [3, 4, 5, 6, 2, 0] rfl ?_
  exact TX6_places_185 hw hk11 _ _ _ h
set_option maxRecDepth 100000 in
set_option maxHeartbeats 4000000 in
theorem TX6_places_65 {l : Launch} {w : xW} (hw : w.1.2 = true) {a1 : Int32} {a2 : Int32} {a3 : Int32} {a4 : Int32} {a5 : Int32} {a6 : Int32} {k11 : Int32 → xS → Option (Unit × xS)} {k23 : Int32 → Int32 → Int32 → xS → Option (Unit × xS)} {σ τ : xS} {r : Unit} (hk11 : ∀ (a2 : Int32) (σ1 : xS), k11 a2 σ1 = some (r, τ) → xAt l w mX6_places 11 [(0, .ref (w.2.2 5 30 0 0)), (1, .int a1), (2, .int a2)] [] σ1 none τ) (hk23 : ∀ (a3 : Int32) (a4 : Int32) (a5 : Int32) (σ1 : xS), k23 a3 a4 a5 σ1 = some (r, τ) → xAt l w mX6_places 23 [(0, .ref (w.2.2 5 30 0 0)), (1, .int a1), (2, .int a2), (3, .int a3), (4, .int a4), (5, .int a5)] [] σ1 none τ) (h : BX6_places_65 a1 a2 a3 a4 a5 a6 k11 k23 σ = some (r, τ)) : xAt l w mX6_places 65 [(0, .ref (w.2.2 5 30 0 0)), (1, .int a1), (2, .int a2), (3, .int a3), (4, .int a4), (5, .int a5), (6, .int a6)] [] σ none τ := by
  rw [BX6_places_65] at h
  refine x_iload dX6_places_65 6 rfl ?_
  refine x_if_le (tgt := 90) dX6_places_67 rfl (fun hc => ?_) (fun hc => ?_)
  · have h := x_t hc h
    obtain ⟨t25, ht25, h⟩ := x_let_e h
    refine x_iinc t25 1 rfl ht25 dX6_places_90 5 rfl (Nat.le_of_ble_eq_true rfl) [(5, .int t25), (0, .ref (w.2.2 5 30 0 0)), (1, .int a1), (2, .int a2), (3, .int a3), (4, .int a4), (6, .int a6)] rfl ?_
    refine x_goto (tgt := 23) dX6_places_93 rfl ?_
    refine x_sub (L1 := [(0, .ref (w.2.2 5 30 0 0)), (1, .int a1), (2, .int a2), (3, .int a3), (4, .int a4), (5, .int t25)]) [1, 2, 3, 4, 5, 0] rfl ?_
    exact hk23 _ _ _ _ h
  · have h := x_f hc h
    refine x_iload dX6_places_70 4 rfl ?_
    refine x_if_lt (tgt := 86) dX6_places_72 rfl (fun hc => ?_) (fun hc => ?_)
    · have h := x_t hc h
      refine x_iload dX6_places_86 5 rfl ?_
      refine x_istore a5 rfl dX6_places_88 (Nat.le_of_ble_eq_true rfl) [(4, .int a5), (0, .ref (w.2.2 5 30 0 0)), (1, .int a1), (2, .int a2), (3, .int a3), (5, .int a5), (6, .int a6)] rfl ?_
      obtain ⟨t26, ht26, h⟩ := x_let_e h
      refine x_iinc t26 1 rfl ht26 dX6_places_90 5 rfl (Nat.le_of_ble_eq_true rfl) [(5, .int t26), (4, .int a5), (0, .ref (w.2.2 5 30 0 0)), (1, .int a1), (2, .int a2), (3, .int a3), (6, .int a6)] rfl ?_
      refine x_goto (tgt := 23) dX6_places_93 rfl ?_
      refine x_sub (L1 := [(0, .ref (w.2.2 5 30 0 0)), (1, .int a1), (2, .int a2), (3, .int a3), (4, .int a5), (5, .int t26)]) [2, 3, 4, 5, 1, 0] rfl ?_
      exact hk23 _ _ _ _ h
    · have h := x_f hc h
      refine x_iload dX6_places_75 6 rfl ?_
      refine x_aload_n dX6_places_77 rfl 0 rfl ?_
      refine x_iload dX6_places_78 4 rfl ?_
      obtain ⟨z27, s27, h27, h⟩ := x_b_e h
      refine x_callV (As := [.int a4]) (st := [.int a6]) (eX6_runAt hw  h27) cv_X6_98 (Nat.le_of_ble_eq_true rfl) (ok_e30 hw) rfl (Nat.le_of_ble_eq_true rfl) _ rfl dX6_places_80 [.int z27, .int a6] rfl ?_
      refine x_icmp_le (tgt := 90) dX6_places_83 rfl (fun hc => ?_) (fun hc => ?_)
      · have h := x_t hc h
        obtain ⟨t28, ht28, h⟩ := x_let_e h
        refine x_iinc t28 1 rfl ht28 dX6_places_90 5 rfl (Nat.le_of_ble_eq_true rfl) [(5, .int t28), (0, .ref (w.2.2 5 30 0 0)), (1, .int a1), (2, .int a2), (3, .int a3), (4, .int a4), (6, .int a6)] rfl ?_
        refine x_goto (tgt := 23) dX6_places_93 rfl ?_
        refine x_sub (L1 := [(0, .ref (w.2.2 5 30 0 0)), (1, .int a1), (2, .int a2), (3, .int a3), (4, .int a4), (5, .int t28)]) [1, 2, 3, 4, 5, 0] rfl ?_
        exact hk23 _ _ _ _ h
      · have h := x_f hc h
        refine x_iload dX6_places_86 5 rfl ?_
        refine x_istore a5 rfl dX6_places_88 (Nat.le_of_ble_eq_true rfl) [(4, .int a5), (0, .ref (w.2.2 5 30 0 0)), (1, .int a1), (2, .int a2), (3, .int a3), (5, .int a5), (6, .int a6)] rfl ?_
        obtain ⟨t29, ht29, h⟩ := x_let_e h
        refine x_iinc t29 1 rfl ht29 dX6_places_90 5 rfl (Nat.le_of_ble_eq_true rfl) [(5, .int t29), (4, .int a5), (0, .ref (w.2.2 5 30 0 0)), (1, .int a1), (2, .int a2), (3, .int a3), (6, .int a6)] rfl ?_
        refine x_goto (tgt := 23) dX6_places_93 rfl ?_
        refine x_sub (L1 := [(0, .ref (w.2.2 5 30 0 0)), (1, .int a1), (2, .int a2), (3, .int a3), (4, .int a5), (5, .int t29)]) [2, 3, 4, 5, 1, 0] rfl ?_
        exact hk23 _ _ _ _ h
set_option maxRecDepth 100000 in
set_option maxHeartbeats 4000000 in
theorem TX6_places_23 {l : Launch} {w : xW} (hw : w.1.2 = true) {a1 : Int32} {a2 : Int32} {k11 : Int32 → xS → Option (Unit × xS)} {τ : xS} {r : Unit} (hk11 : ∀ (a2 : Int32) (σ1 : xS), k11 a2 σ1 = some (r, τ) → xAt l w mX6_places 11 [(0, .ref (w.2.2 5 30 0 0)), (1, .int a1), (2, .int a2)] [] σ1 none τ) : ∀ (n : Nat) (a3 : Int32) (a4 : Int32) (a5 : Int32) (σ : xS), BX6_places_23 a1 a2 k11 n a3 a4 a5 σ = some (r, τ) → xAt l w mX6_places 23 [(0, .ref (w.2.2 5 30 0 0)), (1, .int a1), (2, .int a2), (3, .int a3), (4, .int a4), (5, .int a5)] [] σ none τ := by
  intro n
  induction n with
  | zero => intro a3 a4 a5 σ h; cases h
  | succ n ih =>
    intro a3 a4 a5 σ h
    rw [BX6_places_23] at h
    refine x_iload dX6_places_23 5 rfl ?_
    refine x_aload_n dX6_places_25 rfl 0 rfl ?_
    refine x_getR (d1 := 5) (K1 := 31) (p1 := 0) (r1 := 0) fl_X6_7 (ok_e30 hw) rfl dX6_places_26 ?_
    refine x_iconst (x := 0) dX6_places_29 rfl ?_
    refine x_iald 6464 0 rfl rfl rfl rfl (ok_e31 hw) rfl dX6_places_30 ?_
    refine x_icmp_ge (tgt := 96) dX6_places_31 rfl (fun hc => ?_) (fun hc => ?_)
    · have h := x_t hc h
      refine x_iload_n dX6_places_96 rfl 3 rfl ?_
      refine x_if_lt (tgt := 104) dX6_places_97 rfl (fun hc => ?_) (fun hc => ?_)
      · have h := x_t hc h
        refine x_iload dX6_places_104 4 rfl ?_
        refine x_istore a4 rfl dX6_places_106 (Nat.le_of_ble_eq_true rfl) [(5, .int a4), (0, .ref (w.2.2 5 30 0 0)), (1, .int a1), (2, .int a2), (3, .int a3), (4, .int a4)] rfl ?_
        refine x_iload_n dX6_places_108 rfl 4 rfl ?_
        refine x_if_lt (tgt := 116) dX6_places_109 rfl (fun hc => ?_) (fun hc => ?_)
        · have h := x_t hc h
          refine x_aload_n dX6_places_116 rfl 1 rfl ?_
          refine x_iload dX6_places_117 5 rfl ?_
          obtain ⟨z4, s4, h4, h⟩ := x_b_e h
          refine x_callV (As := [.int a4]) (st := []) (eX6_runAt hw  h4) cv_X6_98 (Nat.le_of_ble_eq_true rfl) (ok_e30 hw) rfl (Nat.le_of_ble_eq_true rfl) _ rfl dX6_places_119 [.int z4] rfl ?_
          refine x_sub (L1 := [(0, .ref (w.2.2 5 30 0 0)), (1, .int a1), (2, .int a2), (5, .int a4)]) [1, 2, 3, 0] rfl ?_
          exact TX6_places_122 hw hk11 h
        · have h := x_f hc h
          refine x_iload_n dX6_places_112 rfl 3 rfl ?_
          refine x_goto (tgt := 122) dX6_places_113 rfl ?_
          refine x_sub (L1 := [(0, .ref (w.2.2 5 30 0 0)), (1, .int a1), (2, .int a2), (5, .int a4)]) [1, 2, 3, 0] rfl ?_
          exact TX6_places_122 hw hk11 h
      · have h := x_f hc h
        refine x_iload_n dX6_places_100 rfl 3 rfl ?_
        refine x_goto (tgt := 106) dX6_places_101 rfl ?_
        refine x_istore a3 rfl dX6_places_106 (Nat.le_of_ble_eq_true rfl) [(5, .int a3), (0, .ref (w.2.2 5 30 0 0)), (1, .int a1), (2, .int a2), (3, .int a3), (4, .int a4)] rfl ?_
        refine x_iload_n dX6_places_108 rfl 4 rfl ?_
        refine x_if_lt (tgt := 116) dX6_places_109 rfl (fun hc => ?_) (fun hc => ?_)
        · have h := x_t hc h
          refine x_aload_n dX6_places_116 rfl 1 rfl ?_
          refine x_iload dX6_places_117 5 rfl ?_
          obtain ⟨z23, s23, h23, h⟩ := x_b_e h
          refine x_callV (As := [.int a4]) (st := []) (eX6_runAt hw  h23) cv_X6_98 (Nat.le_of_ble_eq_true rfl) (ok_e30 hw) rfl (Nat.le_of_ble_eq_true rfl) _ rfl dX6_places_119 [.int z23] rfl ?_
          refine x_sub (L1 := [(0, .ref (w.2.2 5 30 0 0)), (1, .int a1), (2, .int a2), (5, .int a3)]) [1, 2, 3, 0] rfl ?_
          exact TX6_places_122 hw hk11 h
        · have h := x_f hc h
          refine x_iload_n dX6_places_112 rfl 3 rfl ?_
          refine x_goto (tgt := 122) dX6_places_113 rfl ?_
          refine x_sub (L1 := [(0, .ref (w.2.2 5 30 0 0)), (1, .int a1), (2, .int a2), (5, .int a3)]) [1, 2, 3, 0] rfl ?_
          exact TX6_places_122 hw hk11 h
    · have h := x_f hc h
      refine x_aload_n dX6_places_34 rfl 0 rfl ?_
      refine x_iload dX6_places_35 5 rfl ?_
      obtain ⟨z24, s24, h24, h⟩ := x_b_e h
      refine x_callV (As := [.int a5]) (st := []) (eX6_runAt hw  h24) cv_X6_98 (Nat.le_of_ble_eq_true rfl) (ok_e30 hw) rfl (Nat.le_of_ble_eq_true rfl) _ rfl dX6_places_37 [.int z24] rfl ?_
      refine x_istore z24 rfl dX6_places_40 (Nat.le_of_ble_eq_true rfl) [(6, .int z24), (0, .ref (w.2.2 5 30 0 0)), (1, .int a1), (2, .int a2), (3, .int a3), (4, .int a4), (5, .int a5)] rfl ?_
      refine x_iload dX6_places_42 0 rfl ?_
      refine x_iload_n dX6_places_44 rfl 3 rfl ?_
      refine x_icmp_lt (tgt := 65) dX6_places_45 rfl (fun hc => ?_) (fun hc => ?_)
      · have h := x_t hc h
        refine x_sub (L1 := [(0, .ref (w.2.2 5 30 0 0)), (1, .int a1), (2, .int a2), (3, .int a3), (4, .int a4), (5, .int a5), (6, .int z24)]) [1, 2, 3, 4, 5, 6, 0] rfl ?_
        exact TX6_places_65 hw hk11 ih h
      · have h := x_f hc h
        refine x_iload_n dX6_places_48 rfl 4 rfl ?_
        refine x_if_lt (tgt := 62) dX6_places_49 rfl (fun hc => ?_) (fun hc => ?_)
        · have h := x_t hc h
          refine x_iload dX6_places_62 6 rfl ?_
          refine x_istore_n a5 rfl dX6_places_64 rfl (Nat.le_of_ble_eq_true rfl) [(3, .int a5), (6, .int z24), (0, .ref (w.2.2 5 30 0 0)), (1, .int a1), (2, .int a2), (4, .int a4), (5, .int a5)] rfl ?_
          refine x_sub (L1 := [(0, .ref (w.2.2 5 30 0 0)), (1, .int a1), (2, .int a2), (3, .int a5), (4, .int a4), (5, .int a5), (6, .int z24)]) [2, 3, 4, 0, 5, 6, 1] rfl ?_
          exact TX6_places_65 hw hk11 ih h
        · have h := x_f hc h
          refine x_iload dX6_places_52 0 rfl ?_
          refine x_aload_n dX6_places_54 rfl 1 rfl ?_
          refine x_iload_n dX6_places_55 rfl 4 rfl ?_
          obtain ⟨z30, s30, h30, h⟩ := x_b_e h
          refine x_callV (As := [.int a3]) (st := [.int z24]) (eX6_runAt hw  h30) cv_X6_98 (Nat.le_of_ble_eq_true rfl) (ok_e30 hw) rfl (Nat.le_of_ble_eq_true rfl) _ rfl dX6_places_56 [.int z30, .int z24] rfl ?_
          refine x_icmp_ge (tgt := 65) dX6_places_59 rfl (fun hc => ?_) (fun hc => ?_)
          · have h := x_t hc h
            refine x_sub (L1 := [(0, .ref (w.2.2 5 30 0 0)), (1, .int a1), (2, .int a2), (3, .int a3), (4, .int a4), (5, .int a5), (6, .int z24)]) [1, 2, 3, 4, 5, 6, 0] rfl ?_
            exact TX6_places_65 hw hk11 ih h
          · have h := x_f hc h
            refine x_iload dX6_places_62 6 rfl ?_
            refine x_istore_n a5 rfl dX6_places_64 rfl (Nat.le_of_ble_eq_true rfl) [(3, .int a5), (6, .int z24), (0, .ref (w.2.2 5 30 0 0)), (1, .int a1), (2, .int a2), (4, .int a4), (5, .int a5)] rfl ?_
            refine x_sub (L1 := [(0, .ref (w.2.2 5 30 0 0)), (1, .int a1), (2, .int a2), (3, .int a5), (4, .int a4), (5, .int a5), (6, .int z24)]) [2, 3, 4, 0, 5, 6, 1] rfl ?_
            exact TX6_places_65 hw hk11 ih h
set_option maxRecDepth 100000 in
set_option maxHeartbeats 4000000 in
theorem TX6_places_11 {l : Launch} {w : xW} (hw : w.1.2 = true) {a1 : Int32} {τ : xS} {r : Unit} : ∀ (n : Nat) (a2 : Int32) (σ : xS), BX6_places_11 a1 n a2 σ = some (r, τ) → xAt l w mX6_places 11 [(0, .ref (w.2.2 5 30 0 0)), (1, .int a1), (2, .int a2)] [] σ none τ := by
  intro n
  induction n with
  | zero => intro a2 σ h; cases h
  | succ n ih =>
    intro a2 σ h
    rw [BX6_places_11] at h
    refine x_iload_n dX6_places_11 rfl 2 rfl ?_
    refine x_if_le (tgt := 223) dX6_places_12 rfl (fun hc => ?_) (fun hc => ?_)
    · have h := x_t hc h
      exact x_vretH rfl dX6_places_223 h
    · have h := x_f hc h
      refine x_iconst (x := (-1)) dX6_places_15 (by decide) ?_
      refine x_istore_n (-1) rfl dX6_places_16 rfl (Nat.le_of_ble_eq_true rfl) [(3, .int (-1)), (0, .ref (w.2.2 5 30 0 0)), (1, .int a1), (2, .int a2)] rfl ?_
      refine x_iconst (x := (-1)) dX6_places_17 (by decide) ?_
      refine x_istore (-1) rfl dX6_places_18 (Nat.le_of_ble_eq_true rfl) [(4, .int (-1)), (3, .int (-1)), (0, .ref (w.2.2 5 30 0 0)), (1, .int a1), (2, .int a2)] rfl ?_
      refine x_iconst (x := 0) dX6_places_20 rfl ?_
      refine x_istore 0 rfl dX6_places_21 (Nat.le_of_ble_eq_true rfl) [(5, .int 0), (4, .int (-1)), (3, .int (-1)), (0, .ref (w.2.2 5 30 0 0)), (1, .int a1), (2, .int a2)] rfl ?_
      refine x_sub (L1 := [(0, .ref (w.2.2 5 30 0 0)), (1, .int a1), (2, .int a2), (3, .int (-1)), (4, .int (-1)), (5, .int 0)]) [3, 4, 5, 2, 1, 0] rfl ?_
      exact TX6_places_23 hw ih _ _ _ _ _ h
set_option maxRecDepth 100000 in
set_option maxHeartbeats 4000000 in
theorem eX6_places {l : Launch} {w : xW} (hw : w.1.2 = true) {a1 : Int32} {σ τ : xS} {r : Unit} (h : fX6_places a1 σ = some (r, τ)) : xEV l w yX6_places mX6_places [.ref (w.2.2 5 30 0 0), .int a1] σ none τ := by
  rw [fX6_places] at h
  refine x_enter (by decide +kernel) rfl (Nat.le_of_ble_eq_true rfl) ?_
  refine x_sub (L1 := [(0, .ref (w.2.2 5 30 0 0)), (1, .int a1)]) [0, 1] rfl ?_
  refine x_aload_n dX6_places_0 rfl 0 rfl ?_
  refine x_getR (d1 := 5) (K1 := 31) (p1 := 0) (r1 := 0) fl_X6_7 (ok_e30 hw) rfl dX6_places_1 ?_
  refine x_iload_n dX6_places_4 rfl 1 rfl ?_
  refine x_iconst (x := 1) dX6_places_5 rfl ?_
  obtain ⟨z1, s1, h1, h⟩ := x_b_e h
  refine x_callS (As := [.int a1, .int 1]) (st := [.ref (w.2.2 5 31 0 0)]) (eX6_packet hw  h1) cs_X6_92 (Nat.le_of_ble_eq_true rfl) rfl (Nat.le_of_ble_eq_true rfl) _ rfl dX6_places_6 [.int z1, .ref (w.2.2 5 31 0 0)] rfl ?_
  obtain ⟨hg2, h⟩ := x_g_e h
  refine x_iald 6464 z1.toNatClampNeg rfl rfl rfl rfl (ok_e31 hw) hg2 dX6_places_9 ?_
  obtain ⟨t3, ht3, h⟩ := x_let_e h
  refine x_istore_n t3 ht3 dX6_places_10 rfl (Nat.le_of_ble_eq_true rfl) [(2, .int t3), (0, .ref (w.2.2 5 30 0 0)), (1, .int a1)] rfl ?_
  refine x_sub (L1 := [(0, .ref (w.2.2 5 30 0 0)), (1, .int a1), (2, .int t3)]) [1, 2, 0] rfl ?_
  exact TX6_places_11 hw _ _ _ h
set_option maxRecDepth 100000 in
set_option maxHeartbeats 4000000 in
theorem eX6_enters {l : Launch} {w : xW} (hw : w.1.2 = true) {a1 : Int32} {a2 : Int32} {σ τ : xS} {r : Unit} (h : fX6_enters a1 a2 σ = some (r, τ)) : xEV l w yX6_enters mX6_enters [.ref (w.2.2 5 30 0 0), .int a1, .int a2] σ none τ := by
  rw [fX6_enters] at h
  refine x_enter (by decide +kernel) rfl (Nat.le_of_ble_eq_true rfl) ?_
  refine x_sub (L1 := [(0, .ref (w.2.2 5 30 0 0)), (1, .int a1), (2, .int a2)]) [0, 1, 2] rfl ?_
  refine x_aload_n dX6_enters_0 rfl 0 rfl ?_
  obtain ⟨z1, s1, h1, h⟩ := x_b_e h
  refine x_callV (As := []) (st := []) (eX6_newSlot hw  h1) cv_X6_101 (Nat.le_of_ble_eq_true rfl) (ok_e30 hw) rfl (Nat.le_of_ble_eq_true rfl) _ rfl dX6_enters_1 [.int z1] rfl ?_
  refine x_istore_n z1 rfl dX6_enters_4 rfl (Nat.le_of_ble_eq_true rfl) [(3, .int z1), (0, .ref (w.2.2 5 30 0 0)), (1, .int a1), (2, .int a2)] rfl ?_
  refine x_aload_n dX6_enters_5 rfl 1 rfl ?_
  refine x_getR (d1 := 5) (K1 := 31) (p1 := 0) (r1 := 0) fl_X6_7 (ok_e30 hw) rfl dX6_enters_6 ?_
  refine x_iload_n dX6_enters_9 rfl 0 rfl ?_
  refine x_iconst (x := 0) dX6_enters_10 rfl ?_
  obtain ⟨z2, s2, h2, h⟩ := x_b_e h
  refine x_callS (As := [.int z1, .int 0]) (st := [.ref (w.2.2 5 31 0 0)]) (eX6_packet hw  h2) cs_X6_92 (Nat.le_of_ble_eq_true rfl) rfl (Nat.le_of_ble_eq_true rfl) _ rfl dX6_enters_11 [.int z2, .ref (w.2.2 5 31 0 0)] rfl ?_
  refine x_aload_n dX6_enters_14 rfl 1 rfl ?_
  refine x_getR (d1 := 5) (K1 := 31) (p1 := 0) (r1 := 0) fl_X6_7 (ok_e30 hw) rfl dX6_enters_15 ?_
  refine x_iconst (x := 4) dX6_enters_18 rfl ?_
  refine x_iald 6464 4 rfl rfl rfl rfl (ok_e31 hw) rfl dX6_enters_19 ?_
  obtain ⟨hg3, h⟩ := x_g_e h
  obtain ⟨s4, hs4, h⟩ := x_let_e h
  refine x_iast 6464 z2.toNatClampNeg rfl s4 hs4 rfl rfl rfl (ok_e31 hw) hg3 dX6_enters_20 ?_
  refine x_aload_n dX6_enters_21 rfl 1 rfl ?_
  refine x_getR (d1 := 5) (K1 := 31) (p1 := 0) (r1 := 0) fl_X6_7 (ok_e30 hw) rfl dX6_enters_22 ?_
  refine x_iload_n dX6_enters_25 rfl 0 rfl ?_
  refine x_iconst (x := 1) dX6_enters_26 rfl ?_
  obtain ⟨z5, s5, h5, h⟩ := x_b_e h
  refine x_callS (As := [.int z1, .int 1]) (st := [.ref (w.2.2 5 31 0 0)]) (eX6_packet hw  h5) cs_X6_92 (Nat.le_of_ble_eq_true rfl) rfl (Nat.le_of_ble_eq_true rfl) _ rfl dX6_enters_27 [.int z5, .ref (w.2.2 5 31 0 0)] rfl ?_
  refine x_iload_n dX6_enters_30 rfl 3 rfl ?_
  obtain ⟨hg6, h⟩ := x_g_e h
  obtain ⟨s7, hs7, h⟩ := x_let_e h
  refine x_iast 6464 z5.toNatClampNeg rfl s7 hs7 rfl rfl rfl (ok_e31 hw) hg6 dX6_enters_31 ?_
  refine x_aload_n dX6_enters_32 rfl 1 rfl ?_
  refine x_getR (d1 := 5) (K1 := 31) (p1 := 0) (r1 := 0) fl_X6_7 (ok_e30 hw) rfl dX6_enters_33 ?_
  refine x_iload_n dX6_enters_36 rfl 0 rfl ?_
  refine x_iconst (x := 2) dX6_enters_37 rfl ?_
  obtain ⟨z8, s8, h8, h⟩ := x_b_e h
  refine x_callS (As := [.int z1, .int 2]) (st := [.ref (w.2.2 5 31 0 0)]) (eX6_packet hw  h8) cs_X6_92 (Nat.le_of_ble_eq_true rfl) rfl (Nat.le_of_ble_eq_true rfl) _ rfl dX6_enters_38 [.int z8, .ref (w.2.2 5 31 0 0)] rfl ?_
  refine x_iconst (x := 0) dX6_enters_41 rfl ?_
  obtain ⟨hg9, h⟩ := x_g_e h
  obtain ⟨s10, hs10, h⟩ := x_let_e h
  refine x_iast 6464 z8.toNatClampNeg rfl s10 hs10 rfl rfl rfl (ok_e31 hw) hg9 dX6_enters_42 ?_
  refine x_aload_n dX6_enters_43 rfl 1 rfl ?_
  refine x_getR (d1 := 5) (K1 := 31) (p1 := 0) (r1 := 0) fl_X6_7 (ok_e30 hw) rfl dX6_enters_44 ?_
  refine x_iload_n dX6_enters_47 rfl 0 rfl ?_
  refine x_iconst (x := 3) dX6_enters_48 rfl ?_
  obtain ⟨z11, s11, h11, h⟩ := x_b_e h
  refine x_callS (As := [.int z1, .int 3]) (st := [.ref (w.2.2 5 31 0 0)]) (eX6_packet hw  h11) cs_X6_92 (Nat.le_of_ble_eq_true rfl) rfl (Nat.le_of_ble_eq_true rfl) _ rfl dX6_enters_49 [.int z11, .ref (w.2.2 5 31 0 0)] rfl ?_
  refine x_iconst (x := 1) dX6_enters_52 rfl ?_
  obtain ⟨hg12, h⟩ := x_g_e h
  obtain ⟨s13, hs13, h⟩ := x_let_e h
  refine x_iast 6464 z11.toNatClampNeg rfl s13 hs13 rfl rfl rfl (ok_e31 hw) hg12 dX6_enters_53 ?_
  refine x_aload_n dX6_enters_54 rfl 1 rfl ?_
  refine x_getR (d1 := 5) (K1 := 31) (p1 := 0) (r1 := 0) fl_X6_7 (ok_e30 hw) rfl dX6_enters_55 ?_
  refine x_iconst (x := 4) dX6_enters_58 rfl ?_
  refine x_dup2 dX6_enters_59 rfl rfl ?_
  refine x_iald 6464 4 rfl rfl rfl rfl (ok_e31 hw) rfl dX6_enters_60 ?_
  refine x_iconst (x := 1) dX6_enters_61 rfl ?_
  refine x_iadd dX6_enters_62 ?_
  obtain ⟨s14, hs14, h⟩ := x_let_e h
  refine x_iast 6464 4 rfl s14 hs14 rfl rfl rfl (ok_e31 hw) rfl dX6_enters_63 ?_
  refine x_aload_n dX6_enters_64 rfl 1 rfl ?_
  refine x_iload_n dX6_enters_65 rfl 0 rfl ?_
  obtain ⟨z15, s15, h15, h⟩ := x_b_e h
  refine x_callV (As := [.int z1]) (st := []) (eX6_places hw  h15) cv_X6_104 (Nat.le_of_ble_eq_true rfl) (ok_e30 hw) rfl (Nat.le_of_ble_eq_true rfl) _ rfl dX6_enters_66 [] rfl ?_
  refine x_aload_n dX6_enters_69 rfl 1 rfl ?_
  refine x_getR (d1 := 5) (K1 := 31) (p1 := 0) (r1 := 0) fl_X6_7 (ok_e30 hw) rfl dX6_enters_70 ?_
  refine x_iload_n dX6_enters_73 rfl 2 rfl ?_
  refine x_aload_n dX6_enters_74 rfl 1 rfl ?_
  refine x_getR (d1 := 5) (K1 := 31) (p1 := 0) (r1 := 0) fl_X6_7 (ok_e30 hw) rfl dX6_enters_75 ?_
  refine x_iload_n dX6_enters_78 rfl 2 rfl ?_
  refine x_bipush (x := 12) dX6_enters_79 rfl ?_
  obtain ⟨z16, s16, h16, h⟩ := x_b_e h
  refine x_callS (As := [.int a1, .int 12]) (st := [.ref (w.2.2 5 31 0 0), .int a1, .ref (w.2.2 5 31 0 0)]) (eX6_queue hw  h16) cs_X6_48 (Nat.le_of_ble_eq_true rfl) rfl (Nat.le_of_ble_eq_true rfl) _ rfl dX6_enters_81 [.int z16, .ref (w.2.2 5 31 0 0), .int a1, .ref (w.2.2 5 31 0 0)] rfl ?_
  obtain ⟨hg17, h⟩ := x_g_e h
  refine x_iald 6464 z16.toNatClampNeg rfl rfl rfl rfl (ok_e31 hw) hg17 dX6_enters_84 ?_
  obtain ⟨z18, s18, h18, h⟩ := x_b_e h
  refine x_callS (As := [.int a1, .int (s16 5 31 0 0 z16.toNatClampNeg)]) (st := [.ref (w.2.2 5 31 0 0)]) (eX6_entry hw  h18) cs_X6_107 (Nat.le_of_ble_eq_true rfl) rfl (Nat.le_of_ble_eq_true rfl) _ rfl dX6_enters_85 [.int z18, .ref (w.2.2 5 31 0 0)] rfl ?_
  refine x_iload_n dX6_enters_88 rfl 0 rfl ?_
  obtain ⟨hg19, h⟩ := x_g_e h
  obtain ⟨s20, hs20, h⟩ := x_let_e h
  refine x_iast 6464 z18.toNatClampNeg rfl s20 hs20 rfl rfl rfl (ok_e31 hw) hg19 dX6_enters_89 ?_
  refine x_aload_n dX6_enters_90 rfl 1 rfl ?_
  refine x_getR (d1 := 5) (K1 := 31) (p1 := 0) (r1 := 0) fl_X6_7 (ok_e30 hw) rfl dX6_enters_91 ?_
  refine x_iload_n dX6_enters_94 rfl 2 rfl ?_
  refine x_bipush (x := 12) dX6_enters_95 rfl ?_
  obtain ⟨z21, s21, h21, h⟩ := x_b_e h
  refine x_callS (As := [.int a1, .int 12]) (st := [.ref (w.2.2 5 31 0 0)]) (eX6_queue hw  h21) cs_X6_48 (Nat.le_of_ble_eq_true rfl) rfl (Nat.le_of_ble_eq_true rfl) _ rfl dX6_enters_97 [.int z21, .ref (w.2.2 5 31 0 0)] rfl ?_
  refine x_dup2 dX6_enters_100 rfl rfl ?_
  obtain ⟨hg22, h⟩ := x_g_e h
  refine x_iald 6464 z21.toNatClampNeg rfl rfl rfl rfl (ok_e31 hw) hg22 dX6_enters_101 ?_
  refine x_iconst (x := 1) dX6_enters_102 rfl ?_
  refine x_iadd dX6_enters_103 ?_
  obtain ⟨hg23, h⟩ := x_g_e h
  obtain ⟨s24, hs24, h⟩ := x_let_e h
  refine x_iast 6464 z21.toNatClampNeg rfl s24 hs24 rfl rfl rfl (ok_e31 hw) hg23 dX6_enters_104 ?_
  exact x_vretH rfl dX6_enters_105 h
set_option maxRecDepth 100000 in
set_option maxHeartbeats 4000000 in
theorem eX6_hasPackets {l : Launch} {w : xW} (hw : w.1.2 = true) {a1 : Int32} {σ τ : xS} {r : Int32} (h : fX6_hasPackets a1 σ = some (r, τ)) : xEV l w yX6_hasPackets mX6_hasPackets [.ref (w.2.2 5 30 0 0), .int a1] σ (some (.int r)) τ := by
  rw [fX6_hasPackets] at h
  refine x_enter (by decide +kernel) rfl (Nat.le_of_ble_eq_true rfl) ?_
  refine x_sub (L1 := [(0, .ref (w.2.2 5 30 0 0)), (1, .int a1)]) [0, 1] rfl ?_
  refine x_aload_n dX6_hasPackets_0 rfl 0 rfl ?_
  refine x_iload_n dX6_hasPackets_1 rfl 1 rfl ?_
  refine x_bipush (x := 12) dX6_hasPackets_2 rfl ?_
  obtain ⟨z1, s1, h1, h⟩ := x_b_e h
  refine x_callV (As := [.int a1, .int 12]) (st := []) (eX6_sum hw  h1) cv_X6_59 (Nat.le_of_ble_eq_true rfl) (ok_e30 hw) rfl (Nat.le_of_ble_eq_true rfl) _ rfl dX6_hasPackets_4 [.int z1] rfl ?_
  refine x_if_le (tgt := 14) dX6_hasPackets_7 rfl (fun hc => ?_) (fun hc => ?_)
  · have h := x_t hc h
    refine x_iconst (x := 0) dX6_hasPackets_14 rfl ?_
    exact x_zretH rfl rfl dX6_hasPackets_15 h
  · have h := x_f hc h
    refine x_iconst (x := 1) dX6_hasPackets_10 rfl ?_
    refine x_goto (tgt := 15) dX6_hasPackets_11 rfl ?_
    exact x_zretH rfl rfl dX6_hasPackets_15 h
set_option maxRecDepth 100000 in
set_option maxHeartbeats 4000000 in
theorem TX6_leaves_171 {l : Launch} {w : xW} (hw : w.1.2 = true) {a1 : Int32} {a4 : Int32} {τ : xS} {r : Int32} : ∀ (n : Nat) (a5 : Int32) (a6 : Int32) (σ : xS), BX6_leaves_171 a1 a4 n a5 a6 σ = some (r, τ) → xAt l w mX6_leaves 171 [(0, .ref (w.2.2 5 30 0 0)), (1, .int a1), (4, .int a4), (5, .int a5), (6, .int a6)] [] σ (some (.int r)) τ := by
  intro n
  induction n with
  | zero => intro a5 a6 σ h; cases h
  | succ n ih =>
    intro a5 a6 σ h
    rw [BX6_leaves_171] at h
    refine x_iload dX6_leaves_171 4 rfl ?_
    refine x_bipush (x := 6) dX6_leaves_173 rfl ?_
    refine x_icmp_lt (tgt := 225) dX6_leaves_175 rfl (fun hc => ?_) (fun hc => ?_)
    · have h := x_t hc h
      refine x_iload dX6_leaves_225 2 rfl ?_
      exact x_iretH rfl dX6_leaves_227 h
    · have h := x_f hc h
      refine x_iload dX6_leaves_178 3 rfl ?_
      refine x_aload_n dX6_leaves_180 rfl 0 rfl ?_
      refine x_getR (d1 := 5) (K1 := 31) (p1 := 0) (r1 := 0) fl_X6_7 (ok_e30 hw) rfl dX6_leaves_181 ?_
      refine x_iload_n dX6_leaves_184 rfl 1 rfl ?_
      refine x_iload dX6_leaves_185 4 rfl ?_
      obtain ⟨z17, s17, h17, h⟩ := x_b_e h
      refine x_callS (As := [.int a1, .int a6]) (st := [.ref (w.2.2 5 31 0 0), .int a5]) (eX6_queue hw  h17) cs_X6_48 (Nat.le_of_ble_eq_true rfl) rfl (Nat.le_of_ble_eq_true rfl) _ rfl dX6_leaves_187 [.int z17, .ref (w.2.2 5 31 0 0), .int a5] rfl ?_
      obtain ⟨hg18, h⟩ := x_g_e h
      refine x_iald 6464 z17.toNatClampNeg rfl rfl rfl rfl (ok_e31 hw) hg18 dX6_leaves_190 ?_
      obtain ⟨z19, s19, h19, h⟩ := x_b_e h
      refine x_callS (As := [.int a5, .int (s17 5 31 0 0 z17.toNatClampNeg)]) (st := []) (eX6_least hw  h19) cs_X6_68 (Nat.le_of_ble_eq_true rfl) rfl (Nat.le_of_ble_eq_true rfl) _ rfl dX6_leaves_191 [.int z19] rfl ?_
      refine x_istore z19 rfl dX6_leaves_194 (Nat.le_of_ble_eq_true rfl) [(7, .int z19), (0, .ref (w.2.2 5 30 0 0)), (1, .int a1), (4, .int a4), (5, .int a5), (6, .int a6)] rfl ?_
      refine x_aload_n dX6_leaves_196 rfl 1 rfl ?_
      refine x_getR (d1 := 5) (K1 := 31) (p1 := 0) (r1 := 0) fl_X6_7 (ok_e30 hw) rfl dX6_leaves_197 ?_
      refine x_iload_n dX6_leaves_200 rfl 2 rfl ?_
      refine x_iload dX6_leaves_201 5 rfl ?_
      obtain ⟨z20, s20, h20, h⟩ := x_b_e h
      refine x_callS (As := [.int a1, .int a6]) (st := [.ref (w.2.2 5 31 0 0)]) (eX6_queue hw  h20) cs_X6_48 (Nat.le_of_ble_eq_true rfl) rfl (Nat.le_of_ble_eq_true rfl) _ rfl dX6_leaves_203 [.int z20, .ref (w.2.2 5 31 0 0)] rfl ?_
      refine x_dup2 dX6_leaves_206 rfl rfl ?_
      obtain ⟨hg21, h⟩ := x_g_e h
      refine x_iald 6464 z20.toNatClampNeg rfl rfl rfl rfl (ok_e31 hw) hg21 dX6_leaves_207 ?_
      refine x_iload dX6_leaves_208 0 rfl ?_
      refine x_isub dX6_leaves_210 ?_
      obtain ⟨hg22, h⟩ := x_g_e h
      obtain ⟨s23, hs23, h⟩ := x_let_e h
      refine x_iast 6464 z20.toNatClampNeg rfl s23 hs23 rfl rfl rfl (ok_e31 hw) hg22 dX6_leaves_211 ?_
      refine x_iload dX6_leaves_212 4 rfl ?_
      refine x_iload dX6_leaves_214 0 rfl ?_
      refine x_isub dX6_leaves_216 ?_
      obtain ⟨t24, ht24, h⟩ := x_let_e h
      refine x_istore t24 ht24 dX6_leaves_217 (Nat.le_of_ble_eq_true rfl) [(5, .int t24), (7, .int z19), (0, .ref (w.2.2 5 30 0 0)), (1, .int a1), (4, .int a4), (6, .int a6)] rfl ?_
      obtain ⟨t25, ht25, h⟩ := x_let_e h
      refine x_iinc t25 (-1) (by decide) ht25 dX6_leaves_219 5 rfl (Nat.le_of_ble_eq_true rfl) [(6, .int t25), (5, .int t24), (7, .int z19), (0, .ref (w.2.2 5 30 0 0)), (1, .int a1), (4, .int a4)] rfl ?_
      refine x_goto (tgt := 171) dX6_leaves_222 rfl ?_
      refine x_sub (L1 := [(0, .ref (w.2.2 5 30 0 0)), (1, .int a1), (4, .int a4), (5, .int t24), (6, .int t25)]) [3, 4, 5, 1, 0] rfl ?_
      exact ih _ _ _ h
set_option maxRecDepth 100000 in
set_option maxHeartbeats 4000000 in
theorem TX6_leaves_103 {l : Launch} {w : xW} (hw : w.1.2 = true) {a1 : Int32} {a3 : Int32} {a4 : Int32} {τ : xS} {r : Int32} : ∀ (n : Nat) (a5 : Int32) (σ : xS), BX6_leaves_103 a1 a3 a4 n a5 σ = some (r, τ) → xAt l w mX6_leaves 103 [(0, .ref (w.2.2 5 30 0 0)), (1, .int a1), (3, .int a3), (4, .int a4), (5, .int a5)] [] σ (some (.int r)) τ := by
  intro n
  induction n with
  | zero => intro a5 σ h; cases h
  | succ n ih =>
    intro a5 σ h
    rw [BX6_leaves_103] at h
    refine x_iload dX6_leaves_103 4 rfl ?_
    refine x_aload_n dX6_leaves_105 rfl 0 rfl ?_
    refine x_getR (d1 := 5) (K1 := 31) (p1 := 0) (r1 := 0) fl_X6_7 (ok_e30 hw) rfl dX6_leaves_106 ?_
    refine x_iconst (x := 0) dX6_leaves_109 rfl ?_
    refine x_iald 6464 0 rfl rfl rfl rfl (ok_e31 hw) rfl dX6_leaves_110 ?_
    refine x_icmp_ge (tgt := 163) dX6_leaves_111 rfl (fun hc => ?_) (fun hc => ?_)
    · have h := x_t hc h
      refine x_iload dX6_leaves_163 3 rfl ?_
      refine x_istore a4 rfl dX6_leaves_165 (Nat.le_of_ble_eq_true rfl) [(5, .int a4), (0, .ref (w.2.2 5 30 0 0)), (1, .int a1), (3, .int a3), (4, .int a4)] rfl ?_
      refine x_bipush (x := 8) dX6_leaves_167 rfl ?_
      refine x_istore 8 rfl dX6_leaves_169 (Nat.le_of_ble_eq_true rfl) [(6, .int 8), (5, .int a4), (0, .ref (w.2.2 5 30 0 0)), (1, .int a1), (3, .int a3), (4, .int a4)] rfl ?_
      refine x_sub (L1 := [(0, .ref (w.2.2 5 30 0 0)), (1, .int a1), (4, .int a4), (5, .int a4), (6, .int 8)]) [2, 3, 5, 1, 0] rfl ?_
      exact TX6_leaves_171 hw _ _ _ _ h
    · have h := x_f hc h
      refine x_aload_n dX6_leaves_114 rfl 0 rfl ?_
      refine x_getR (d1 := 5) (K1 := 31) (p1 := 0) (r1 := 0) fl_X6_7 (ok_e30 hw) rfl dX6_leaves_115 ?_
      refine x_sipush (x := 6336) dX6_leaves_118 rfl ?_
      refine x_iload dX6_leaves_121 4 rfl ?_
      refine x_iadd dX6_leaves_123 ?_
      refine x_aload_n dX6_leaves_124 rfl 0 rfl ?_
      refine x_getR (d1 := 5) (K1 := 31) (p1 := 0) (r1 := 0) fl_X6_7 (ok_e30 hw) rfl dX6_leaves_125 ?_
      refine x_sipush (x := 6336) dX6_leaves_128 rfl ?_
      refine x_iload dX6_leaves_131 4 rfl ?_
      refine x_iadd dX6_leaves_133 ?_
      obtain ⟨t26, ht26, h⟩ := x_let_e h
      refine x_nm t26 ht26 ?_
      obtain ⟨hg27, h⟩ := x_g_e h
      refine x_iald 6464 t26.toNatClampNeg rfl rfl rfl rfl (ok_e31 hw) hg27 dX6_leaves_134 ?_
      refine x_iload_n dX6_leaves_135 rfl 2 rfl ?_
      refine x_iconst (x := 1) dX6_leaves_136 rfl ?_
      refine x_iadd dX6_leaves_137 ?_
      refine x_icmp_ne (tgt := 145) dX6_leaves_138 rfl (fun hc => ?_) (fun hc => ?_)
      · have h := x_f hc h
        refine x_aload_n dX6_leaves_145 rfl 0 rfl ?_
        refine x_getR (d1 := 5) (K1 := 31) (p1 := 0) (r1 := 0) fl_X6_7 (ok_e30 hw) rfl dX6_leaves_146 ?_
        refine x_sipush (x := 6336) dX6_leaves_149 rfl ?_
        refine x_iload dX6_leaves_152 4 rfl ?_
        refine x_iadd dX6_leaves_154 ?_
        obtain ⟨t28, ht28, h⟩ := x_let_e h
        refine x_nm t28 ht28 ?_
        obtain ⟨hg29, h⟩ := x_g_e h
        refine x_iald 6464 t28.toNatClampNeg rfl rfl rfl rfl (ok_e31 hw) hg29 dX6_leaves_155 ?_
        obtain ⟨t30, ht30, h⟩ := x_let_e h
        refine x_nm2 t30 ht30 ?_
        obtain ⟨hg31, h⟩ := x_g_e h
        obtain ⟨s32, hs32, h⟩ := x_let_e h
        refine x_iast 6464 t30.toNatClampNeg rfl s32 hs32 rfl rfl rfl (ok_e31 hw) hg31 dX6_leaves_156 ?_
        obtain ⟨t33, ht33, h⟩ := x_let_e h
        refine x_iinc t33 1 rfl ht33 dX6_leaves_157 4 rfl (Nat.le_of_ble_eq_true rfl) [(5, .int t33), (0, .ref (w.2.2 5 30 0 0)), (1, .int a1), (3, .int a3), (4, .int a4)] rfl ?_
        refine x_goto (tgt := 103) dX6_leaves_160 rfl ?_
        refine x_sub (L1 := [(0, .ref (w.2.2 5 30 0 0)), (1, .int a1), (3, .int a3), (4, .int a4), (5, .int t33)]) [1, 2, 3, 4, 0] rfl ?_
        exact ih _ _ h
      · have h := x_t hc h
        refine x_iconst (x := 0) dX6_leaves_141 rfl ?_
        refine x_goto (tgt := 156) dX6_leaves_142 rfl ?_
        obtain ⟨t34, ht34, h⟩ := x_let_e h
        refine x_nm2 t34 ht34 ?_
        obtain ⟨hg35, h⟩ := x_g_e h
        obtain ⟨s36, hs36, h⟩ := x_let_e h
        refine x_iast 6464 t34.toNatClampNeg rfl s36 hs36 rfl rfl rfl (ok_e31 hw) hg35 dX6_leaves_156 ?_
        obtain ⟨t37, ht37, h⟩ := x_let_e h
        refine x_iinc t37 1 rfl ht37 dX6_leaves_157 4 rfl (Nat.le_of_ble_eq_true rfl) [(5, .int t37), (0, .ref (w.2.2 5 30 0 0)), (1, .int a1), (3, .int a3), (4, .int a4)] rfl ?_
        refine x_goto (tgt := 103) dX6_leaves_160 rfl ?_
        refine x_sub (L1 := [(0, .ref (w.2.2 5 30 0 0)), (1, .int a1), (3, .int a3), (4, .int a4), (5, .int t37)]) [1, 2, 3, 4, 0] rfl ?_
        exact ih _ _ h
set_option maxRecDepth 100000 in
set_option maxHeartbeats 4000000 in
theorem TX6_leaves_28 {l : Launch} {w : xW} (hw : w.1.2 = true) {a1 : Int32} {a3 : Int32} {a4 : Int32} {τ : xS} {r : Int32} : ∀ (n : Nat) (a5 : Int32) (σ : xS), BX6_leaves_28 a1 a3 a4 n a5 σ = some (r, τ) → xAt l w mX6_leaves 28 [(0, .ref (w.2.2 5 30 0 0)), (1, .int a1), (3, .int a3), (4, .int a4), (5, .int a5)] [] σ (some (.int r)) τ := by
  intro n
  induction n with
  | zero => intro a5 σ h; cases h
  | succ n ih =>
    intro a5 σ h
    rw [BX6_leaves_28] at h
    refine x_iload dX6_leaves_28 4 rfl ?_
    refine x_aload_n dX6_leaves_30 rfl 0 rfl ?_
    refine x_getR (d1 := 5) (K1 := 31) (p1 := 0) (r1 := 0) fl_X6_7 (ok_e30 hw) rfl dX6_leaves_31 ?_
    refine x_iload_n dX6_leaves_34 rfl 1 rfl ?_
    refine x_bipush (x := 12) dX6_leaves_35 rfl ?_
    obtain ⟨z8, s8, h8, h⟩ := x_b_e h
    refine x_callS (As := [.int a1, .int 12]) (st := [.ref (w.2.2 5 31 0 0), .int a5]) (eX6_queue hw  h8) cs_X6_48 (Nat.le_of_ble_eq_true rfl) rfl (Nat.le_of_ble_eq_true rfl) _ rfl dX6_leaves_37 [.int z8, .ref (w.2.2 5 31 0 0), .int a5] rfl ?_
    obtain ⟨hg9, h⟩ := x_g_e h
    refine x_iald 6464 z8.toNatClampNeg rfl rfl rfl rfl (ok_e31 hw) hg9 dX6_leaves_40 ?_
    refine x_icmp_ge (tgt := 74) dX6_leaves_41 rfl (fun hc => ?_) (fun hc => ?_)
    · have h := x_t hc h
      refine x_aload_n dX6_leaves_74 rfl 0 rfl ?_
      refine x_getR (d1 := 5) (K1 := 31) (p1 := 0) (r1 := 0) fl_X6_7 (ok_e30 hw) rfl dX6_leaves_75 ?_
      refine x_iload_n dX6_leaves_78 rfl 1 rfl ?_
      refine x_bipush (x := 12) dX6_leaves_79 rfl ?_
      obtain ⟨z10, s10, h10, h⟩ := x_b_e h
      refine x_callS (As := [.int a1, .int 12]) (st := [.ref (w.2.2 5 31 0 0)]) (eX6_queue hw  h10) cs_X6_48 (Nat.le_of_ble_eq_true rfl) rfl (Nat.le_of_ble_eq_true rfl) _ rfl dX6_leaves_81 [.int z10, .ref (w.2.2 5 31 0 0)] rfl ?_
      refine x_dup2 dX6_leaves_84 rfl rfl ?_
      obtain ⟨hg11, h⟩ := x_g_e h
      refine x_iald 6464 z10.toNatClampNeg rfl rfl rfl rfl (ok_e31 hw) hg11 dX6_leaves_85 ?_
      refine x_iconst (x := 1) dX6_leaves_86 rfl ?_
      refine x_isub dX6_leaves_87 ?_
      obtain ⟨hg12, h⟩ := x_g_e h
      obtain ⟨s13, hs13, h⟩ := x_let_e h
      refine x_iast 6464 z10.toNatClampNeg rfl s13 hs13 rfl rfl rfl (ok_e31 hw) hg12 dX6_leaves_88 ?_
      refine x_aload_n dX6_leaves_89 rfl 0 rfl ?_
      refine x_getR (d1 := 5) (K1 := 31) (p1 := 0) (r1 := 0) fl_X6_7 (ok_e30 hw) rfl dX6_leaves_90 ?_
      refine x_iload_n dX6_leaves_93 rfl 2 rfl ?_
      refine x_iconst (x := 3) dX6_leaves_94 rfl ?_
      obtain ⟨z14, s14, h14, h⟩ := x_b_e h
      refine x_callS (As := [.int a3, .int 3]) (st := [.ref (w.2.2 5 31 0 0)]) (eX6_packet hw  h14) cs_X6_92 (Nat.le_of_ble_eq_true rfl) rfl (Nat.le_of_ble_eq_true rfl) _ rfl dX6_leaves_95 [.int z14, .ref (w.2.2 5 31 0 0)] rfl ?_
      refine x_iconst (x := 0) dX6_leaves_98 rfl ?_
      obtain ⟨hg15, h⟩ := x_g_e h
      obtain ⟨s16, hs16, h⟩ := x_let_e h
      refine x_iast 6464 z14.toNatClampNeg rfl s16 hs16 rfl rfl rfl (ok_e31 hw) hg15 dX6_leaves_99 ?_
      refine x_iconst (x := 0) dX6_leaves_100 rfl ?_
      refine x_istore 0 rfl dX6_leaves_101 (Nat.le_of_ble_eq_true rfl) [(5, .int 0), (0, .ref (w.2.2 5 30 0 0)), (1, .int a1), (3, .int a3), (4, .int a4)] rfl ?_
      refine x_sub (L1 := [(0, .ref (w.2.2 5 30 0 0)), (1, .int a1), (3, .int a3), (4, .int a4), (5, .int 0)]) [1, 2, 3, 4, 0] rfl ?_
      exact TX6_leaves_103 hw _ _ _ h
    · have h := x_f hc h
      refine x_aload_n dX6_leaves_44 rfl 0 rfl ?_
      refine x_getR (d1 := 5) (K1 := 31) (p1 := 0) (r1 := 0) fl_X6_7 (ok_e30 hw) rfl dX6_leaves_45 ?_
      refine x_iload_n dX6_leaves_48 rfl 1 rfl ?_
      refine x_iload dX6_leaves_49 4 rfl ?_
      refine x_iconst (x := 1) dX6_leaves_51 rfl ?_
      refine x_isub dX6_leaves_52 ?_
      obtain ⟨z38, s38, h38, h⟩ := x_b_e h
      refine x_callS (As := [.int a1, .int (a5 - 1)]) (st := [.ref (w.2.2 5 31 0 0)]) (eX6_entry hw  h38) cs_X6_107 (Nat.le_of_ble_eq_true rfl) rfl (Nat.le_of_ble_eq_true rfl) _ rfl dX6_leaves_53 [.int z38, .ref (w.2.2 5 31 0 0)] rfl ?_
      refine x_aload_n dX6_leaves_56 rfl 0 rfl ?_
      refine x_getR (d1 := 5) (K1 := 31) (p1 := 0) (r1 := 0) fl_X6_7 (ok_e30 hw) rfl dX6_leaves_57 ?_
      refine x_iload_n dX6_leaves_60 rfl 1 rfl ?_
      refine x_iload dX6_leaves_61 4 rfl ?_
      obtain ⟨z39, s39, h39, h⟩ := x_b_e h
      refine x_callS (As := [.int a1, .int a5]) (st := [.ref (w.2.2 5 31 0 0), .int z38, .ref (w.2.2 5 31 0 0)]) (eX6_entry hw  h39) cs_X6_107 (Nat.le_of_ble_eq_true rfl) rfl (Nat.le_of_ble_eq_true rfl) _ rfl dX6_leaves_63 [.int z39, .ref (w.2.2 5 31 0 0), .int z38, .ref (w.2.2 5 31 0 0)] rfl ?_
      obtain ⟨hg40, h⟩ := x_g_e h
      refine x_iald 6464 z39.toNatClampNeg rfl rfl rfl rfl (ok_e31 hw) hg40 dX6_leaves_66 ?_
      obtain ⟨hg41, h⟩ := x_g_e h
      obtain ⟨s42, hs42, h⟩ := x_let_e h
      refine x_iast 6464 z38.toNatClampNeg rfl s42 hs42 rfl rfl rfl (ok_e31 hw) hg41 dX6_leaves_67 ?_
      obtain ⟨t43, ht43, h⟩ := x_let_e h
      refine x_iinc t43 1 rfl ht43 dX6_leaves_68 4 rfl (Nat.le_of_ble_eq_true rfl) [(5, .int t43), (0, .ref (w.2.2 5 30 0 0)), (1, .int a1), (3, .int a3), (4, .int a4)] rfl ?_
      refine x_goto (tgt := 28) dX6_leaves_71 rfl ?_
      refine x_sub (L1 := [(0, .ref (w.2.2 5 30 0 0)), (1, .int a1), (3, .int a3), (4, .int a4), (5, .int t43)]) [1, 2, 3, 4, 0] rfl ?_
      exact ih _ _ h
set_option maxRecDepth 100000 in
set_option maxHeartbeats 4000000 in
theorem eX6_leaves {l : Launch} {w : xW} (hw : w.1.2 = true) {a1 : Int32} {a2 : Int32} {σ τ : xS} {r : Int32} (h : fX6_leaves a1 a2 σ = some (r, τ)) : xEV l w yX6_leaves mX6_leaves [.ref (w.2.2 5 30 0 0), .int a1, .int a2] σ (some (.int r)) τ := by
  rw [fX6_leaves] at h
  refine x_enter (by decide +kernel) rfl (Nat.le_of_ble_eq_true rfl) ?_
  refine x_sub (L1 := [(0, .ref (w.2.2 5 30 0 0)), (1, .int a1), (2, .int a2)]) [0, 1, 2] rfl ?_
  refine x_aload_n dX6_leaves_0 rfl 0 rfl ?_
  refine x_getR (d1 := 5) (K1 := 31) (p1 := 0) (r1 := 0) fl_X6_7 (ok_e30 hw) rfl dX6_leaves_1 ?_
  refine x_iload_n dX6_leaves_4 rfl 1 rfl ?_
  refine x_iload_n dX6_leaves_5 rfl 2 rfl ?_
  obtain ⟨z1, s1, h1, h⟩ := x_b_e h
  refine x_callS (As := [.int a1, .int a2]) (st := [.ref (w.2.2 5 31 0 0)]) (eX6_entry hw  h1) cs_X6_107 (Nat.le_of_ble_eq_true rfl) rfl (Nat.le_of_ble_eq_true rfl) _ rfl dX6_leaves_6 [.int z1, .ref (w.2.2 5 31 0 0)] rfl ?_
  obtain ⟨hg2, h⟩ := x_g_e h
  refine x_iald 6464 z1.toNatClampNeg rfl rfl rfl rfl (ok_e31 hw) hg2 dX6_leaves_9 ?_
  obtain ⟨t3, ht3, h⟩ := x_let_e h
  refine x_istore_n t3 ht3 dX6_leaves_10 rfl (Nat.le_of_ble_eq_true rfl) [(3, .int t3), (0, .ref (w.2.2 5 30 0 0)), (1, .int a1), (2, .int a2)] rfl ?_
  refine x_aload_n dX6_leaves_11 rfl 1 rfl ?_
  refine x_getR (d1 := 5) (K1 := 31) (p1 := 0) (r1 := 0) fl_X6_7 (ok_e30 hw) rfl dX6_leaves_12 ?_
  refine x_iload_n dX6_leaves_15 rfl 0 rfl ?_
  refine x_iconst (x := 1) dX6_leaves_16 rfl ?_
  obtain ⟨z4, s4, h4, h⟩ := x_b_e h
  refine x_callS (As := [.int t3, .int 1]) (st := [.ref (w.2.2 5 31 0 0)]) (eX6_packet hw  h4) cs_X6_92 (Nat.le_of_ble_eq_true rfl) rfl (Nat.le_of_ble_eq_true rfl) _ rfl dX6_leaves_17 [.int z4, .ref (w.2.2 5 31 0 0)] rfl ?_
  obtain ⟨hg5, h⟩ := x_g_e h
  refine x_iald 6464 z4.toNatClampNeg rfl rfl rfl rfl (ok_e31 hw) hg5 dX6_leaves_20 ?_
  obtain ⟨t6, ht6, h⟩ := x_let_e h
  refine x_istore t6 ht6 dX6_leaves_21 (Nat.le_of_ble_eq_true rfl) [(4, .int t6), (3, .int t3), (0, .ref (w.2.2 5 30 0 0)), (1, .int a1), (2, .int a2)] rfl ?_
  refine x_iload_n dX6_leaves_23 rfl 4 rfl ?_
  refine x_iconst (x := 1) dX6_leaves_24 rfl ?_
  refine x_iadd dX6_leaves_25 ?_
  obtain ⟨t7, ht7, h⟩ := x_let_e h
  refine x_istore t7 ht7 dX6_leaves_26 (Nat.le_of_ble_eq_true rfl) [(5, .int t7), (4, .int t6), (3, .int t3), (0, .ref (w.2.2 5 30 0 0)), (1, .int a1), (2, .int a2)] rfl ?_
  refine x_sub (L1 := [(0, .ref (w.2.2 5 30 0 0)), (1, .int a1), (3, .int t3), (4, .int t6), (5, .int t7)]) [3, 4, 2, 1, 0] rfl ?_
  exact TX6_leaves_28 hw _ _ _ h
set_option maxRecDepth 100000 in
set_option maxHeartbeats 4000000 in
theorem TX6_settles_29 {l : Launch} {w : xW} (hw : w.1.2 = true) {a2 : Int32} {σ τ : xS} {r : Unit} (h : BX6_settles_29 a2 σ = some (r, τ)) : xAt l w mX6_settles 29 [(0, .ref (w.2.2 5 30 0 0)), (2, .int a2)] [] σ none τ := by
  rw [BX6_settles_29] at h
  refine x_aload_n dX6_settles_29 rfl 0 rfl ?_
  refine x_iload_n dX6_settles_30 rfl 1 rfl ?_
  obtain ⟨z4, s4, h4, h⟩ := x_b_e h
  refine x_callV (As := [.int a2]) (st := []) (eX6_hasPackets hw  h4) cv_X6_110 (Nat.le_of_ble_eq_true rfl) (ok_e30 hw) rfl (Nat.le_of_ble_eq_true rfl) _ rfl dX6_settles_31 [.int z4] rfl ?_
  refine x_if_ne (tgt := 72) dX6_settles_34 rfl (fun hc => ?_) (fun hc => ?_)
  · have h := x_f hc h
    exact x_vretH rfl dX6_settles_72 h
  · have h := x_t hc h
    refine x_aload_n dX6_settles_37 rfl 0 rfl ?_
    refine x_getR (d1 := 5) (K1 := 31) (p1 := 0) (r1 := 0) fl_X6_7 (ok_e30 hw) rfl dX6_settles_38 ?_
    refine x_iload_n dX6_settles_41 rfl 1 rfl ?_
    refine x_iconst (x := 4) dX6_settles_42 rfl ?_
    obtain ⟨z5, s5, h5, h⟩ := x_b_e h
    refine x_callS (As := [.int a2, .int 4]) (st := [.ref (w.2.2 5 31 0 0)]) (eX6_port hw  h5) cs_X6_44 (Nat.le_of_ble_eq_true rfl) rfl (Nat.le_of_ble_eq_true rfl) _ rfl dX6_settles_43 [.int z5, .ref (w.2.2 5 31 0 0)] rfl ?_
    refine x_iconst (x := 0) dX6_settles_46 rfl ?_
    obtain ⟨hg6, h⟩ := x_g_e h
    obtain ⟨s7, hs7, h⟩ := x_let_e h
    refine x_iast 6464 z5.toNatClampNeg rfl s7 hs7 rfl rfl rfl (ok_e31 hw) hg6 dX6_settles_47 ?_
    refine x_aload_n dX6_settles_48 rfl 0 rfl ?_
    refine x_getR (d1 := 5) (K1 := 31) (p1 := 0) (r1 := 0) fl_X6_7 (ok_e30 hw) rfl dX6_settles_49 ?_
    refine x_iload_n dX6_settles_52 rfl 1 rfl ?_
    refine x_bipush (x := 6) dX6_settles_53 rfl ?_
    obtain ⟨z8, s8, h8, h⟩ := x_b_e h
    refine x_callS (As := [.int a2, .int 6]) (st := [.ref (w.2.2 5 31 0 0)]) (eX6_port hw  h8) cs_X6_44 (Nat.le_of_ble_eq_true rfl) rfl (Nat.le_of_ble_eq_true rfl) _ rfl dX6_settles_55 [.int z8, .ref (w.2.2 5 31 0 0)] rfl ?_
    refine x_iconst (x := 0) dX6_settles_58 rfl ?_
    obtain ⟨hg9, h⟩ := x_g_e h
    obtain ⟨s10, hs10, h⟩ := x_let_e h
    refine x_iast 6464 z8.toNatClampNeg rfl s10 hs10 rfl rfl rfl (ok_e31 hw) hg9 dX6_settles_59 ?_
    refine x_aload_n dX6_settles_60 rfl 0 rfl ?_
    refine x_getR (d1 := 5) (K1 := 31) (p1 := 0) (r1 := 0) fl_X6_7 (ok_e30 hw) rfl dX6_settles_61 ?_
    refine x_iload_n dX6_settles_64 rfl 1 rfl ?_
    refine x_bipush (x := 7) dX6_settles_65 rfl ?_
    obtain ⟨z11, s11, h11, h⟩ := x_b_e h
    refine x_callS (As := [.int a2, .int 7]) (st := [.ref (w.2.2 5 31 0 0)]) (eX6_port hw  h11) cs_X6_44 (Nat.le_of_ble_eq_true rfl) rfl (Nat.le_of_ble_eq_true rfl) _ rfl dX6_settles_67 [.int z11, .ref (w.2.2 5 31 0 0)] rfl ?_
    refine x_iconst (x := 1) dX6_settles_70 rfl ?_
    obtain ⟨hg12, h⟩ := x_g_e h
    obtain ⟨s13, hs13, h⟩ := x_let_e h
    refine x_iast 6464 z11.toNatClampNeg rfl s13 hs13 rfl rfl rfl (ok_e31 hw) hg12 dX6_settles_71 ?_
    exact x_vretH rfl dX6_settles_72 h
set_option maxRecDepth 100000 in
set_option maxHeartbeats 4000000 in
theorem eX6_settles {l : Launch} {w : xW} (hw : w.1.2 = true) {a1 : Int32} {σ τ : xS} {r : Unit} (h : fX6_settles a1 σ = some (r, τ)) : xEV l w yX6_settles mX6_settles [.ref (w.2.2 5 30 0 0), .int a1] σ none τ := by
  rw [fX6_settles] at h
  refine x_enter (by decide +kernel) rfl (Nat.le_of_ble_eq_true rfl) ?_
  refine x_sub (L1 := [(0, .ref (w.2.2 5 30 0 0)), (1, .int a1)]) [0, 1] rfl ?_
  refine x_iload_n dX6_settles_0 rfl 1 rfl ?_
  refine x_iconst (x := 3) dX6_settles_1 rfl ?_
  refine x_idiv dX6_settles_2 (by decide) ?_
  obtain ⟨t1, ht1, h⟩ := x_let_e h
  refine x_istore_n t1 ht1 dX6_settles_3 rfl (Nat.le_of_ble_eq_true rfl) [(2, .int t1), (0, .ref (w.2.2 5 30 0 0)), (1, .int a1)] rfl ?_
  refine x_aload_n dX6_settles_4 rfl 1 rfl ?_
  refine x_getR (d1 := 5) (K1 := 31) (p1 := 0) (r1 := 0) fl_X6_7 (ok_e30 hw) rfl dX6_settles_5 ?_
  refine x_iload_n dX6_settles_8 rfl 2 rfl ?_
  refine x_bipush (x := 12) dX6_settles_9 rfl ?_
  obtain ⟨z2, s2, h2, h⟩ := x_b_e h
  refine x_callS (As := [.int a1, .int 12]) (st := [.ref (w.2.2 5 31 0 0)]) (eX6_queue hw  h2) cs_X6_48 (Nat.le_of_ble_eq_true rfl) rfl (Nat.le_of_ble_eq_true rfl) _ rfl dX6_settles_11 [.int z2, .ref (w.2.2 5 31 0 0)] rfl ?_
  obtain ⟨hg3, h⟩ := x_g_e h
  refine x_iald 6464 z2.toNatClampNeg rfl rfl rfl rfl (ok_e31 hw) hg3 dX6_settles_14 ?_
  refine x_if_ne (tgt := 29) dX6_settles_15 rfl (fun hc => ?_) (fun hc => ?_)
  · have h := x_f hc h
    refine x_sub (L1 := [(0, .ref (w.2.2 5 30 0 0)), (2, .int t1)]) [1, 0] rfl ?_
    exact TX6_settles_29 hw  h
  · have h := x_t hc h
    refine x_aload_n dX6_settles_18 rfl 1 rfl ?_
    refine x_getR (d1 := 5) (K1 := 31) (p1 := 0) (r1 := 0) fl_X6_7 (ok_e30 hw) rfl dX6_settles_19 ?_
    refine x_iload_n dX6_settles_22 rfl 2 rfl ?_
    refine x_iconst (x := 5) dX6_settles_23 rfl ?_
    obtain ⟨z14, s14, h14, h⟩ := x_b_e h
    refine x_callS (As := [.int a1, .int 5]) (st := [.ref (w.2.2 5 31 0 0)]) (eX6_queue hw  h14) cs_X6_48 (Nat.le_of_ble_eq_true rfl) rfl (Nat.le_of_ble_eq_true rfl) _ rfl dX6_settles_24 [.int z14, .ref (w.2.2 5 31 0 0)] rfl ?_
    refine x_iconst (x := 0) dX6_settles_27 rfl ?_
    obtain ⟨hg15, h⟩ := x_g_e h
    obtain ⟨s16, hs16, h⟩ := x_let_e h
    refine x_iast 6464 z14.toNatClampNeg rfl s16 hs16 rfl rfl rfl (ok_e31 hw) hg15 dX6_settles_28 ?_
    refine x_sub (L1 := [(0, .ref (w.2.2 5 30 0 0)), (2, .int t1)]) [1, 0] rfl ?_
    exact TX6_settles_29 hw  h
