def BX6_sumOfQueue_155 (a3 : Int32) (a6 : Int32) (a7 : Int32) (k104 : Int64 → Int32 → xS → Option (Int64 × xS)) : Nat → Int64 → Int32 → xS → Option (Int64 × xS)
  | 0, _, _, _ => none
  | n + 1, g4, a8, σ => x_b (fX6_packet a7 2 σ) fun z21 s21 => x_g (x_in z21 6464) (if (s21 5 31 0 0 z21.toNatClampNeg) ≤ a8 then (x_let (a6 + 1) fun t23 => k104 g4 t23 s21) else (x_b (fX6_packet a7 (4 + a8) s21) fun z24 s24 => x_g (x_in z24 6464) (x_b (fX6_sumOf g4 (s24 5 31 0 0 z24.toNatClampNeg) s24) fun z26 s26 => x_let (a8 + 1) fun t27 => (BX6_sumOfQueue_155 a3 a6 a7 k104 n) z26 t27 s26)))
set_option maxRecDepth 100000 in
set_option maxHeartbeats 4000000 in
theorem TX6_sumOfQueue_155 {l : Launch} {w : xW} (hw : w.1.2 = true) {a3 : Int32} {a6 : Int32} {a7 : Int32} {k104 : Int64 → Int32 → xS → Option (Int64 × xS)} {τ : xS} {r : Int64} (hk104 : ∀ (g4 : Int64) (a6 : Int32) (σ1 : xS), k104 g4 a6 σ1 = some (r, τ) → xAt l w mX6_sumOfQueue 104 [(0, .ref (w.2.2 5 30 0 0)), (3, .int a3), (4, .long g4), (6, .int a6)] [] σ1 (some (.long r)) τ) : ∀ (n : Nat) (g4 : Int64) (a8 : Int32) (σ : xS), BX6_sumOfQueue_155 a3 a6 a7 k104 n g4 a8 σ = some (r, τ) → xAt l w mX6_sumOfQueue 155 [(0, .ref (w.2.2 5 30 0 0)), (3, .int a3), (4, .long g4), (6, .int a6), (7, .int a7), (8, .int a8)] [] σ (some (.long r)) τ := by
  intro n
  induction n with
  | zero => intro g4 a8 σ h; cases h
  | succ n ih =>
    intro g4 a8 σ h
    rw [BX6_sumOfQueue_155] at h
    refine x_iload dX6_sumOfQueue_155 5 rfl ?_
    refine x_aload_n dX6_sumOfQueue_157 rfl 0 rfl ?_
    refine x_getR (d1 := 5) (K1 := 31) (p1 := 0) (r1 := 0) fl_X6_7 (ok_e30 hw) rfl dX6_sumOfQueue_158 ?_
    refine x_iload dX6_sumOfQueue_161 4 rfl ?_
    refine x_iconst (x := 2) dX6_sumOfQueue_163 rfl ?_
    obtain ⟨z21, s21, h21, h⟩ := x_b_e h
    refine x_callS (As := [.int a7, .int 2]) (st := [.ref (w.2.2 5 31 0 0), .int a8]) (eX6_packet hw  h21) cs_X6_92 (Nat.le_of_ble_eq_true rfl) rfl (Nat.le_of_ble_eq_true rfl) _ rfl dX6_sumOfQueue_164 [.int z21, .ref (w.2.2 5 31 0 0), .int a8] rfl ?_
    obtain ⟨hg22, h⟩ := x_g_e h
    refine x_iald 6464 z21.toNatClampNeg rfl rfl rfl rfl (ok_e31 hw) hg22 dX6_sumOfQueue_167 ?_
    refine x_icmp_ge (tgt := 199) dX6_sumOfQueue_168 rfl (fun hc => ?_) (fun hc => ?_)
    · have h := x_t hc h
      obtain ⟨t23, ht23, h⟩ := x_let_e h
      refine x_iinc t23 1 rfl ht23 dX6_sumOfQueue_199 3 rfl (Nat.le_of_ble_eq_true rfl) [(6, .int t23), (0, .ref (w.2.2 5 30 0 0)), (3, .int a3), (4, .long g4), (7, .int a7), (8, .int a8)] rfl ?_
      refine x_goto (tgt := 104) dX6_sumOfQueue_202 rfl ?_
      refine x_sub (L1 := [(0, .ref (w.2.2 5 30 0 0)), (3, .int a3), (4, .long g4), (6, .int t23)]) [1, 2, 3, 0] rfl ?_
      exact hk104 _ _ _ h
    · have h := x_f hc h
      refine x_aload_n dX6_sumOfQueue_171 rfl 0 rfl ?_
      refine x_lload dX6_sumOfQueue_172 2 rfl ?_
      refine x_aload_n dX6_sumOfQueue_174 rfl 0 rfl ?_
      refine x_getR (d1 := 5) (K1 := 31) (p1 := 0) (r1 := 0) fl_X6_7 (ok_e30 hw) rfl dX6_sumOfQueue_175 ?_
      refine x_iload dX6_sumOfQueue_178 4 rfl ?_
      refine x_iconst (x := 4) dX6_sumOfQueue_180 rfl ?_
      refine x_iload dX6_sumOfQueue_181 5 rfl ?_
      refine x_iadd dX6_sumOfQueue_183 ?_
      obtain ⟨z24, s24, h24, h⟩ := x_b_e h
      refine x_callS (As := [.int a7, .int (4 + a8)]) (st := [.ref (w.2.2 5 31 0 0), .long g4, .ref (w.2.2 5 30 0 0)]) (eX6_packet hw  h24) cs_X6_92 (Nat.le_of_ble_eq_true rfl) rfl (Nat.le_of_ble_eq_true rfl) _ rfl dX6_sumOfQueue_184 [.int z24, .ref (w.2.2 5 31 0 0), .long g4, .ref (w.2.2 5 30 0 0)] rfl ?_
      obtain ⟨hg25, h⟩ := x_g_e h
      refine x_iald 6464 z24.toNatClampNeg rfl rfl rfl rfl (ok_e31 hw) hg25 dX6_sumOfQueue_187 ?_
      obtain ⟨z26, s26, h26, h⟩ := x_b_e h
      refine x_callV (As := [.long g4, .int (s24 5 31 0 0 z24.toNatClampNeg)]) (st := []) (eX6_sumOf hw  h26) cv_X6_252 (Nat.le_of_ble_eq_true rfl) (ok_e30 hw) rfl (Nat.le_of_ble_eq_true rfl) _ rfl dX6_sumOfQueue_188 [.long z26] rfl ?_
      refine x_lstore z26 rfl dX6_sumOfQueue_191 (Nat.le_of_ble_eq_true rfl) [(4, .long z26), (0, .ref (w.2.2 5 30 0 0)), (3, .int a3), (6, .int a6), (7, .int a7), (8, .int a8)] rfl ?_
      obtain ⟨t27, ht27, h⟩ := x_let_e h
      refine x_iinc t27 1 rfl ht27 dX6_sumOfQueue_193 5 rfl (Nat.le_of_ble_eq_true rfl) [(8, .int t27), (4, .long z26), (0, .ref (w.2.2 5 30 0 0)), (3, .int a3), (6, .int a6), (7, .int a7)] rfl ?_
      refine x_goto (tgt := 155) dX6_sumOfQueue_196 rfl ?_
      refine x_sub (L1 := [(0, .ref (w.2.2 5 30 0 0)), (3, .int a3), (4, .long z26), (6, .int a6), (7, .int a7), (8, .int t27)]) [2, 3, 1, 4, 5, 0] rfl ?_
      exact ih _ _ _ h
def BX6_sumOfQueue_104 (a3 : Int32) : Nat → Int64 → Int32 → xS → Option (Int64 × xS)
  | 0, _, _, _ => none
  | n + 1, g4, a6, σ => x_b (fX6_queue a3 12 σ) fun z13 s13 => x_g (x_in z13 6464) (if (s13 5 31 0 0 z13.toNatClampNeg) ≤ a6 then (some (g4, s13)) else (x_b (fX6_entry a3 a6 s13) fun z15 s15 => x_g (x_in z15 6464) (x_let (s15 5 31 0 0 z15.toNatClampNeg) fun t17 => x_b (fX6_packet t17 0 s15) fun z18 s18 => x_g (x_in z18 6464) (x_b (fX6_sumOf g4 (s18 5 31 0 0 z18.toNatClampNeg) s18) fun z20 s20 => BX6_sumOfQueue_155 a3 a6 t17 (BX6_sumOfQueue_104 a3 n) x_FU z20 0 s20))))
set_option maxRecDepth 100000 in
set_option maxHeartbeats 4000000 in
theorem TX6_sumOfQueue_104 {l : Launch} {w : xW} (hw : w.1.2 = true) {a3 : Int32} {τ : xS} {r : Int64} : ∀ (n : Nat) (g4 : Int64) (a6 : Int32) (σ : xS), BX6_sumOfQueue_104 a3 n g4 a6 σ = some (r, τ) → xAt l w mX6_sumOfQueue 104 [(0, .ref (w.2.2 5 30 0 0)), (3, .int a3), (4, .long g4), (6, .int a6)] [] σ (some (.long r)) τ := by
  intro n
  induction n with
  | zero => intro g4 a6 σ h; cases h
  | succ n ih =>
    intro g4 a6 σ h
    rw [BX6_sumOfQueue_104] at h
    refine x_iload dX6_sumOfQueue_104 3 rfl ?_
    refine x_aload_n dX6_sumOfQueue_106 rfl 0 rfl ?_
    refine x_getR (d1 := 5) (K1 := 31) (p1 := 0) (r1 := 0) fl_X6_7 (ok_e30 hw) rfl dX6_sumOfQueue_107 ?_
    refine x_iload_n dX6_sumOfQueue_110 rfl 1 rfl ?_
    refine x_bipush (x := 12) dX6_sumOfQueue_111 rfl ?_
    obtain ⟨z13, s13, h13, h⟩ := x_b_e h
    refine x_callS (As := [.int a3, .int 12]) (st := [.ref (w.2.2 5 31 0 0), .int a6]) (eX6_queue hw  h13) cs_X6_48 (Nat.le_of_ble_eq_true rfl) rfl (Nat.le_of_ble_eq_true rfl) _ rfl dX6_sumOfQueue_113 [.int z13, .ref (w.2.2 5 31 0 0), .int a6] rfl ?_
    obtain ⟨hg14, h⟩ := x_g_e h
    refine x_iald 6464 z13.toNatClampNeg rfl rfl rfl rfl (ok_e31 hw) hg14 dX6_sumOfQueue_116 ?_
    refine x_icmp_ge (tgt := 205) dX6_sumOfQueue_117 rfl (fun hc => ?_) (fun hc => ?_)
    · have h := x_t hc h
      refine x_lload dX6_sumOfQueue_205 2 rfl ?_
      exact x_lretH rfl dX6_sumOfQueue_207 h
    · have h := x_f hc h
      refine x_aload_n dX6_sumOfQueue_120 rfl 0 rfl ?_
      refine x_getR (d1 := 5) (K1 := 31) (p1 := 0) (r1 := 0) fl_X6_7 (ok_e30 hw) rfl dX6_sumOfQueue_121 ?_
      refine x_iload_n dX6_sumOfQueue_124 rfl 1 rfl ?_
      refine x_iload dX6_sumOfQueue_125 3 rfl ?_
      obtain ⟨z15, s15, h15, h⟩ := x_b_e h
      refine x_callS (As := [.int a3, .int a6]) (st := [.ref (w.2.2 5 31 0 0)]) (eX6_entry hw  h15) cs_X6_107 (Nat.le_of_ble_eq_true rfl) rfl (Nat.le_of_ble_eq_true rfl) _ rfl dX6_sumOfQueue_127 [.int z15, .ref (w.2.2 5 31 0 0)] rfl ?_
      obtain ⟨hg16, h⟩ := x_g_e h
      refine x_iald 6464 z15.toNatClampNeg rfl rfl rfl rfl (ok_e31 hw) hg16 dX6_sumOfQueue_130 ?_
      obtain ⟨t17, ht17, h⟩ := x_let_e h
      refine x_istore t17 ht17 dX6_sumOfQueue_131 (Nat.le_of_ble_eq_true rfl) [(7, .int t17), (0, .ref (w.2.2 5 30 0 0)), (3, .int a3), (4, .long g4), (6, .int a6)] rfl ?_
      refine x_aload_n dX6_sumOfQueue_133 rfl 1 rfl ?_
      refine x_lload dX6_sumOfQueue_134 3 rfl ?_
      refine x_aload_n dX6_sumOfQueue_136 rfl 1 rfl ?_
      refine x_getR (d1 := 5) (K1 := 31) (p1 := 0) (r1 := 0) fl_X6_7 (ok_e30 hw) rfl dX6_sumOfQueue_137 ?_
      refine x_iload dX6_sumOfQueue_140 0 rfl ?_
      refine x_iconst (x := 0) dX6_sumOfQueue_142 rfl ?_
      obtain ⟨z18, s18, h18, h⟩ := x_b_e h
      refine x_callS (As := [.int t17, .int 0]) (st := [.ref (w.2.2 5 31 0 0), .long g4, .ref (w.2.2 5 30 0 0)]) (eX6_packet hw  h18) cs_X6_92 (Nat.le_of_ble_eq_true rfl) rfl (Nat.le_of_ble_eq_true rfl) _ rfl dX6_sumOfQueue_143 [.int z18, .ref (w.2.2 5 31 0 0), .long g4, .ref (w.2.2 5 30 0 0)] rfl ?_
      obtain ⟨hg19, h⟩ := x_g_e h
      refine x_iald 6464 z18.toNatClampNeg rfl rfl rfl rfl (ok_e31 hw) hg19 dX6_sumOfQueue_146 ?_
      obtain ⟨z20, s20, h20, h⟩ := x_b_e h
      refine x_callV (As := [.long g4, .int (s18 5 31 0 0 z18.toNatClampNeg)]) (st := []) (eX6_sumOf hw  h20) cv_X6_252 (Nat.le_of_ble_eq_true rfl) (ok_e30 hw) rfl (Nat.le_of_ble_eq_true rfl) _ rfl dX6_sumOfQueue_147 [.long z20] rfl ?_
      refine x_lstore z20 rfl dX6_sumOfQueue_150 (Nat.le_of_ble_eq_true rfl) [(4, .long z20), (7, .int t17), (0, .ref (w.2.2 5 30 0 0)), (3, .int a3), (6, .int a6)] rfl ?_
      refine x_iconst (x := 0) dX6_sumOfQueue_152 rfl ?_
      refine x_istore 0 rfl dX6_sumOfQueue_153 (Nat.le_of_ble_eq_true rfl) [(8, .int 0), (4, .long z20), (7, .int t17), (0, .ref (w.2.2 5 30 0 0)), (3, .int a3), (6, .int a6)] rfl ?_
      refine x_sub (L1 := [(0, .ref (w.2.2 5 30 0 0)), (3, .int a3), (4, .long z20), (6, .int a6), (7, .int t17), (8, .int 0)]) [3, 4, 1, 5, 2, 0] rfl ?_
      exact TX6_sumOfQueue_155 hw ih _ _ _ _ h
def BX6_sumOfQueue_7 (a3 : Int32) : Nat → Int64 → Int32 → xS → Option (Int64 × xS)
  | 0, _, _, _ => none
  | n + 1, g4, a6, σ => if 8 < a6 then (x_b (fX6_queue a3 3 σ) fun z1 s1 => x_g (x_in z1 6464) (x_b (fX6_sumOf g4 (s1 5 31 0 0 z1.toNatClampNeg) s1) fun z3 s3 => x_b (fX6_queue a3 10 s3) fun z4 s4 => x_g (x_in z4 6464) (x_b (fX6_sumOf z3 (s4 5 31 0 0 z4.toNatClampNeg) s4) fun z6 s6 => x_b (fX6_queue a3 5 s6) fun z7 s7 => x_g (x_in z7 6464) (x_b (fX6_sumOf z6 (s7 5 31 0 0 z7.toNatClampNeg) s7) fun z9 s9 => x_b (fX6_queue a3 12 s9) fun z10 s10 => x_g (x_in z10 6464) (x_b (fX6_sumOf z9 (s10 5 31 0 0 z10.toNatClampNeg) s10) fun z12 s12 => BX6_sumOfQueue_104 a3 x_FU z12 0 s12))))) else (x_b (fX6_queue a3 a6 σ) fun z28 s28 => x_g (x_in z28 6464) (x_b (fX6_sumOf g4 (s28 5 31 0 0 z28.toNatClampNeg) s28) fun z30 s30 => x_let (a6 + 1) fun t31 => (BX6_sumOfQueue_7 a3 n) z30 t31 s30))
set_option maxRecDepth 100000 in
set_option maxHeartbeats 4000000 in
theorem TX6_sumOfQueue_7 {l : Launch} {w : xW} (hw : w.1.2 = true) {a3 : Int32} {τ : xS} {r : Int64} : ∀ (n : Nat) (g4 : Int64) (a6 : Int32) (σ : xS), BX6_sumOfQueue_7 a3 n g4 a6 σ = some (r, τ) → xAt l w mX6_sumOfQueue 7 [(0, .ref (w.2.2 5 30 0 0)), (3, .int a3), (4, .long g4), (6, .int a6)] [] σ (some (.long r)) τ := by
  intro n
  induction n with
  | zero => intro g4 a6 σ h; cases h
  | succ n ih =>
    intro g4 a6 σ h
    rw [BX6_sumOfQueue_7] at h
    refine x_iload dX6_sumOfQueue_7 3 rfl ?_
    refine x_bipush (x := 8) dX6_sumOfQueue_9 rfl ?_
    refine x_icmp_gt (tgt := 39) dX6_sumOfQueue_11 rfl (fun hc => ?_) (fun hc => ?_)
    · have h := x_t hc h
      refine x_aload_n dX6_sumOfQueue_39 rfl 0 rfl ?_
      refine x_aload_n dX6_sumOfQueue_40 rfl 0 rfl ?_
      refine x_aload_n dX6_sumOfQueue_41 rfl 0 rfl ?_
      refine x_aload_n dX6_sumOfQueue_42 rfl 0 rfl ?_
      refine x_lload dX6_sumOfQueue_43 2 rfl ?_
      refine x_aload_n dX6_sumOfQueue_45 rfl 0 rfl ?_
      refine x_getR (d1 := 5) (K1 := 31) (p1 := 0) (r1 := 0) fl_X6_7 (ok_e30 hw) rfl dX6_sumOfQueue_46 ?_
      refine x_iload_n dX6_sumOfQueue_49 rfl 1 rfl ?_
      refine x_iconst (x := 3) dX6_sumOfQueue_50 rfl ?_
      obtain ⟨z1, s1, h1, h⟩ := x_b_e h
      refine x_callS (As := [.int a3, .int 3]) (st := [.ref (w.2.2 5 31 0 0), .long g4, .ref (w.2.2 5 30 0 0), .ref (w.2.2 5 30 0 0), .ref (w.2.2 5 30 0 0), .ref (w.2.2 5 30 0 0)]) (eX6_queue hw  h1) cs_X6_48 (Nat.le_of_ble_eq_true rfl) rfl (Nat.le_of_ble_eq_true rfl) _ rfl dX6_sumOfQueue_51 [.int z1, .ref (w.2.2 5 31 0 0), .long g4, .ref (w.2.2 5 30 0 0), .ref (w.2.2 5 30 0 0), .ref (w.2.2 5 30 0 0), .ref (w.2.2 5 30 0 0)] rfl ?_
      obtain ⟨hg2, h⟩ := x_g_e h
      refine x_iald 6464 z1.toNatClampNeg rfl rfl rfl rfl (ok_e31 hw) hg2 dX6_sumOfQueue_54 ?_
      obtain ⟨z3, s3, h3, h⟩ := x_b_e h
      refine x_callV (As := [.long g4, .int (s1 5 31 0 0 z1.toNatClampNeg)]) (st := [.ref (w.2.2 5 30 0 0), .ref (w.2.2 5 30 0 0), .ref (w.2.2 5 30 0 0)]) (eX6_sumOf hw  h3) cv_X6_252 (Nat.le_of_ble_eq_true rfl) (ok_e30 hw) rfl (Nat.le_of_ble_eq_true rfl) _ rfl dX6_sumOfQueue_55 [.long z3, .ref (w.2.2 5 30 0 0), .ref (w.2.2 5 30 0 0), .ref (w.2.2 5 30 0 0)] rfl ?_
      refine x_aload_n dX6_sumOfQueue_58 rfl 0 rfl ?_
      refine x_getR (d1 := 5) (K1 := 31) (p1 := 0) (r1 := 0) fl_X6_7 (ok_e30 hw) rfl dX6_sumOfQueue_59 ?_
      refine x_iload_n dX6_sumOfQueue_62 rfl 1 rfl ?_
      refine x_bipush (x := 10) dX6_sumOfQueue_63 rfl ?_
      obtain ⟨z4, s4, h4, h⟩ := x_b_e h
      refine x_callS (As := [.int a3, .int 10]) (st := [.ref (w.2.2 5 31 0 0), .long z3, .ref (w.2.2 5 30 0 0), .ref (w.2.2 5 30 0 0), .ref (w.2.2 5 30 0 0)]) (eX6_queue hw  h4) cs_X6_48 (Nat.le_of_ble_eq_true rfl) rfl (Nat.le_of_ble_eq_true rfl) _ rfl dX6_sumOfQueue_65 [.int z4, .ref (w.2.2 5 31 0 0), .long z3, .ref (w.2.2 5 30 0 0), .ref (w.2.2 5 30 0 0), .ref (w.2.2 5 30 0 0)] rfl ?_
      obtain ⟨hg5, h⟩ := x_g_e h
      refine x_iald 6464 z4.toNatClampNeg rfl rfl rfl rfl (ok_e31 hw) hg5 dX6_sumOfQueue_68 ?_
      obtain ⟨z6, s6, h6, h⟩ := x_b_e h
      refine x_callV (As := [.long z3, .int (s4 5 31 0 0 z4.toNatClampNeg)]) (st := [.ref (w.2.2 5 30 0 0), .ref (w.2.2 5 30 0 0)]) (eX6_sumOf hw  h6) cv_X6_252 (Nat.le_of_ble_eq_true rfl) (ok_e30 hw) rfl (Nat.le_of_ble_eq_true rfl) _ rfl dX6_sumOfQueue_69 [.long z6, .ref (w.2.2 5 30 0 0), .ref (w.2.2 5 30 0 0)] rfl ?_
      refine x_aload_n dX6_sumOfQueue_72 rfl 0 rfl ?_
      refine x_getR (d1 := 5) (K1 := 31) (p1 := 0) (r1 := 0) fl_X6_7 (ok_e30 hw) rfl dX6_sumOfQueue_73 ?_
      refine x_iload_n dX6_sumOfQueue_76 rfl 1 rfl ?_
      refine x_iconst (x := 5) dX6_sumOfQueue_77 rfl ?_
      obtain ⟨z7, s7, h7, h⟩ := x_b_e h
      refine x_callS (As := [.int a3, .int 5]) (st := [.ref (w.2.2 5 31 0 0), .long z6, .ref (w.2.2 5 30 0 0), .ref (w.2.2 5 30 0 0)]) (eX6_queue hw  h7) cs_X6_48 (Nat.le_of_ble_eq_true rfl) rfl (Nat.le_of_ble_eq_true rfl) _ rfl dX6_sumOfQueue_78 [.int z7, .ref (w.2.2 5 31 0 0), .long z6, .ref (w.2.2 5 30 0 0), .ref (w.2.2 5 30 0 0)] rfl ?_
      obtain ⟨hg8, h⟩ := x_g_e h
      refine x_iald 6464 z7.toNatClampNeg rfl rfl rfl rfl (ok_e31 hw) hg8 dX6_sumOfQueue_81 ?_
      obtain ⟨z9, s9, h9, h⟩ := x_b_e h
      refine x_callV (As := [.long z6, .int (s7 5 31 0 0 z7.toNatClampNeg)]) (st := [.ref (w.2.2 5 30 0 0)]) (eX6_sumOf hw  h9) cv_X6_252 (Nat.le_of_ble_eq_true rfl) (ok_e30 hw) rfl (Nat.le_of_ble_eq_true rfl) _ rfl dX6_sumOfQueue_82 [.long z9, .ref (w.2.2 5 30 0 0)] rfl ?_
      refine x_aload_n dX6_sumOfQueue_85 rfl 0 rfl ?_
      refine x_getR (d1 := 5) (K1 := 31) (p1 := 0) (r1 := 0) fl_X6_7 (ok_e30 hw) rfl dX6_sumOfQueue_86 ?_
      refine x_iload_n dX6_sumOfQueue_89 rfl 1 rfl ?_
      refine x_bipush (x := 12) dX6_sumOfQueue_90 rfl ?_
      obtain ⟨z10, s10, h10, h⟩ := x_b_e h
      refine x_callS (As := [.int a3, .int 12]) (st := [.ref (w.2.2 5 31 0 0), .long z9, .ref (w.2.2 5 30 0 0)]) (eX6_queue hw  h10) cs_X6_48 (Nat.le_of_ble_eq_true rfl) rfl (Nat.le_of_ble_eq_true rfl) _ rfl dX6_sumOfQueue_92 [.int z10, .ref (w.2.2 5 31 0 0), .long z9, .ref (w.2.2 5 30 0 0)] rfl ?_
      obtain ⟨hg11, h⟩ := x_g_e h
      refine x_iald 6464 z10.toNatClampNeg rfl rfl rfl rfl (ok_e31 hw) hg11 dX6_sumOfQueue_95 ?_
      obtain ⟨z12, s12, h12, h⟩ := x_b_e h
      refine x_callV (As := [.long z9, .int (s10 5 31 0 0 z10.toNatClampNeg)]) (st := []) (eX6_sumOf hw  h12) cv_X6_252 (Nat.le_of_ble_eq_true rfl) (ok_e30 hw) rfl (Nat.le_of_ble_eq_true rfl) _ rfl dX6_sumOfQueue_96 [.long z12] rfl ?_
      refine x_lstore z12 rfl dX6_sumOfQueue_99 (Nat.le_of_ble_eq_true rfl) [(4, .long z12), (0, .ref (w.2.2 5 30 0 0)), (3, .int a3), (6, .int a6)] rfl ?_
      refine x_iconst (x := 0) dX6_sumOfQueue_101 rfl ?_
      refine x_istore 0 rfl dX6_sumOfQueue_102 (Nat.le_of_ble_eq_true rfl) [(6, .int 0), (4, .long z12), (0, .ref (w.2.2 5 30 0 0)), (3, .int a3)] rfl ?_
      refine x_sub (L1 := [(0, .ref (w.2.2 5 30 0 0)), (3, .int a3), (4, .long z12), (6, .int 0)]) [2, 3, 1, 0] rfl ?_
      exact TX6_sumOfQueue_104 hw _ _ _ _ h
    · have h := x_f hc h
      refine x_aload_n dX6_sumOfQueue_14 rfl 0 rfl ?_
      refine x_lload dX6_sumOfQueue_15 2 rfl ?_
      refine x_aload_n dX6_sumOfQueue_17 rfl 0 rfl ?_
      refine x_getR (d1 := 5) (K1 := 31) (p1 := 0) (r1 := 0) fl_X6_7 (ok_e30 hw) rfl dX6_sumOfQueue_18 ?_
      refine x_iload_n dX6_sumOfQueue_21 rfl 1 rfl ?_
      refine x_iload dX6_sumOfQueue_22 3 rfl ?_
      obtain ⟨z28, s28, h28, h⟩ := x_b_e h
      refine x_callS (As := [.int a3, .int a6]) (st := [.ref (w.2.2 5 31 0 0), .long g4, .ref (w.2.2 5 30 0 0)]) (eX6_queue hw  h28) cs_X6_48 (Nat.le_of_ble_eq_true rfl) rfl (Nat.le_of_ble_eq_true rfl) _ rfl dX6_sumOfQueue_24 [.int z28, .ref (w.2.2 5 31 0 0), .long g4, .ref (w.2.2 5 30 0 0)] rfl ?_
      obtain ⟨hg29, h⟩ := x_g_e h
      refine x_iald 6464 z28.toNatClampNeg rfl rfl rfl rfl (ok_e31 hw) hg29 dX6_sumOfQueue_27 ?_
      obtain ⟨z30, s30, h30, h⟩ := x_b_e h
      refine x_callV (As := [.long g4, .int (s28 5 31 0 0 z28.toNatClampNeg)]) (st := []) (eX6_sumOf hw  h30) cv_X6_252 (Nat.le_of_ble_eq_true rfl) (ok_e30 hw) rfl (Nat.le_of_ble_eq_true rfl) _ rfl dX6_sumOfQueue_28 [.long z30] rfl ?_
      refine x_lstore z30 rfl dX6_sumOfQueue_31 (Nat.le_of_ble_eq_true rfl) [(4, .long z30), (0, .ref (w.2.2 5 30 0 0)), (3, .int a3), (6, .int a6)] rfl ?_
      obtain ⟨t31, ht31, h⟩ := x_let_e h
      refine x_iinc t31 1 rfl ht31 dX6_sumOfQueue_33 3 rfl (Nat.le_of_ble_eq_true rfl) [(6, .int t31), (4, .long z30), (0, .ref (w.2.2 5 30 0 0)), (3, .int a3)] rfl ?_
      refine x_goto (tgt := 7) dX6_sumOfQueue_36 rfl ?_
      refine x_sub (L1 := [(0, .ref (w.2.2 5 30 0 0)), (3, .int a3), (4, .long z30), (6, .int t31)]) [2, 3, 1, 0] rfl ?_
      exact ih _ _ _ h
def fX6_sumOfQueue (g1 : Int64) (a3 : Int32) (σ : xS) : Option (Int64 × xS) :=
  BX6_sumOfQueue_7 a3 x_FU g1 6 σ
set_option maxRecDepth 100000 in
set_option maxHeartbeats 4000000 in
theorem eX6_sumOfQueue {l : Launch} {w : xW} (hw : w.1.2 = true) {g1 : Int64} {a3 : Int32} {σ τ : xS} {r : Int64} (h : fX6_sumOfQueue g1 a3 σ = some (r, τ)) : xEV l w yX6_sumOfQueue mX6_sumOfQueue [.ref (w.2.2 5 30 0 0), .long g1, .int a3] σ (some (.long r)) τ := by
  rw [fX6_sumOfQueue] at h
  refine x_enter (by decide +kernel) rfl (Nat.le_of_ble_eq_true rfl) ?_
  refine x_sub (L1 := [(0, .ref (w.2.2 5 30 0 0)), (1, .long g1), (3, .int a3)]) [0, 1, 2] rfl ?_
  refine x_lload_n dX6_sumOfQueue_0 rfl 1 rfl ?_
  refine x_lstore g1 rfl dX6_sumOfQueue_1 (Nat.le_of_ble_eq_true rfl) [(4, .long g1), (0, .ref (w.2.2 5 30 0 0)), (1, .long g1), (3, .int a3)] rfl ?_
  refine x_bipush (x := 6) dX6_sumOfQueue_3 rfl ?_
  refine x_istore 6 rfl dX6_sumOfQueue_5 (Nat.le_of_ble_eq_true rfl) [(6, .int 6), (4, .long g1), (0, .ref (w.2.2 5 30 0 0)), (1, .long g1), (3, .int a3)] rfl ?_
  refine x_sub (L1 := [(0, .ref (w.2.2 5 30 0 0)), (3, .int a3), (4, .long g1), (6, .int 6)]) [2, 4, 1, 0] rfl ?_
  exact TX6_sumOfQueue_7 hw _ _ _ _ h
def BX6_checksum_162 : Nat → Int64 → Int32 → xS → Option (Int64 × xS)
  | 0, _, _, _ => none
  | n + 1, g1, a3, σ => if (σ 5 31 0 0 0) ≤ a3 then (some (g1, σ)) else (x_b (fX6_runAt a3 σ) fun z7 s7 => if z7 ≤ 0 then (x_let (a3 + 1) fun t8 => (BX6_checksum_162 n) g1 t8 s7) else (x_b (fX6_sumOf g1 a3 s7) fun z9 s9 => x_b (fX6_sumOf z9 z7 s9) fun z10 s10 => x_let (a3 + 1) fun t11 => (BX6_checksum_162 n) z10 t11 s10))
set_option maxRecDepth 100000 in
set_option maxHeartbeats 4000000 in
theorem TX6_checksum_162 {l : Launch} {w : xW} (hw : w.1.2 = true) {τ : xS} {r : Int64} : ∀ (n : Nat) (g1 : Int64) (a3 : Int32) (σ : xS), BX6_checksum_162 n g1 a3 σ = some (r, τ) → xAt l w mX6_checksum 162 [(0, .ref (w.2.2 5 30 0 0)), (1, .long g1), (3, .int a3)] [] σ (some (.long r)) τ := by
  intro n
  induction n with
  | zero => intro g1 a3 σ h; cases h
  | succ n ih =>
    intro g1 a3 σ h
    rw [BX6_checksum_162] at h
    refine x_iload_n dX6_checksum_162 rfl 2 rfl ?_
    refine x_aload_n dX6_checksum_163 rfl 0 rfl ?_
    refine x_getR (d1 := 5) (K1 := 31) (p1 := 0) (r1 := 0) fl_X6_7 (ok_e30 hw) rfl dX6_checksum_164 ?_
    refine x_iconst (x := 0) dX6_checksum_167 rfl ?_
    refine x_iald 6464 0 rfl rfl rfl rfl (ok_e31 hw) rfl dX6_checksum_168 ?_
    refine x_icmp_ge (tgt := 207) dX6_checksum_169 rfl (fun hc => ?_) (fun hc => ?_)
    · have h := x_t hc h
      refine x_lload_n dX6_checksum_207 rfl 1 rfl ?_
      exact x_lretH rfl dX6_checksum_208 h
    · have h := x_f hc h
      refine x_aload_n dX6_checksum_172 rfl 0 rfl ?_
      refine x_iload_n dX6_checksum_173 rfl 2 rfl ?_
      obtain ⟨z7, s7, h7, h⟩ := x_b_e h
      refine x_callV (As := [.int a3]) (st := []) (eX6_runAt hw  h7) cv_X6_98 (Nat.le_of_ble_eq_true rfl) (ok_e30 hw) rfl (Nat.le_of_ble_eq_true rfl) _ rfl dX6_checksum_174 [.int z7] rfl ?_
      refine x_istore z7 rfl dX6_checksum_177 (Nat.le_of_ble_eq_true rfl) [(4, .int z7), (0, .ref (w.2.2 5 30 0 0)), (1, .long g1), (3, .int a3)] rfl ?_
      refine x_iload dX6_checksum_179 0 rfl ?_
      refine x_if_le (tgt := 199) dX6_checksum_181 rfl (fun hc => ?_) (fun hc => ?_)
      · have h := x_t hc h
        refine x_lload_n dX6_checksum_199 rfl 2 rfl ?_
        refine x_lstore_n g1 rfl dX6_checksum_200 rfl (Nat.le_of_ble_eq_true rfl) [(1, .long g1), (4, .int z7), (0, .ref (w.2.2 5 30 0 0)), (3, .int a3)] rfl ?_
        obtain ⟨t8, ht8, h⟩ := x_let_e h
        refine x_iinc t8 1 rfl ht8 dX6_checksum_201 3 rfl (Nat.le_of_ble_eq_true rfl) [(3, .int t8), (1, .long g1), (4, .int z7), (0, .ref (w.2.2 5 30 0 0))] rfl ?_
        refine x_goto (tgt := 162) dX6_checksum_204 rfl ?_
        refine x_sub (L1 := [(0, .ref (w.2.2 5 30 0 0)), (1, .long g1), (3, .int t8)]) [3, 1, 0] rfl ?_
        exact ih _ _ _ h
      · have h := x_f hc h
        refine x_aload_n dX6_checksum_184 rfl 1 rfl ?_
        refine x_aload_n dX6_checksum_185 rfl 1 rfl ?_
        refine x_lload_n dX6_checksum_186 rfl 2 rfl ?_
        refine x_iload_n dX6_checksum_187 rfl 3 rfl ?_
        obtain ⟨z9, s9, h9, h⟩ := x_b_e h
        refine x_callV (As := [.long g1, .int a3]) (st := [.ref (w.2.2 5 30 0 0)]) (eX6_sumOf hw  h9) cv_X6_252 (Nat.le_of_ble_eq_true rfl) (ok_e30 hw) rfl (Nat.le_of_ble_eq_true rfl) _ rfl dX6_checksum_188 [.long z9, .ref (w.2.2 5 30 0 0)] rfl ?_
        refine x_iload dX6_checksum_191 0 rfl ?_
        obtain ⟨z10, s10, h10, h⟩ := x_b_e h
        refine x_callV (As := [.long z9, .int z7]) (st := []) (eX6_sumOf hw  h10) cv_X6_252 (Nat.le_of_ble_eq_true rfl) (ok_e30 hw) rfl (Nat.le_of_ble_eq_true rfl) _ rfl dX6_checksum_193 [.long z10] rfl ?_
        refine x_goto (tgt := 200) dX6_checksum_196 rfl ?_
        refine x_lstore_n z10 rfl dX6_checksum_200 rfl (Nat.le_of_ble_eq_true rfl) [(1, .long z10), (4, .int z7), (0, .ref (w.2.2 5 30 0 0)), (3, .int a3)] rfl ?_
        obtain ⟨t11, ht11, h⟩ := x_let_e h
        refine x_iinc t11 1 rfl ht11 dX6_checksum_201 3 rfl (Nat.le_of_ble_eq_true rfl) [(3, .int t11), (1, .long z10), (4, .int z7), (0, .ref (w.2.2 5 30 0 0))] rfl ?_
        refine x_goto (tgt := 162) dX6_checksum_204 rfl ?_
        refine x_sub (L1 := [(0, .ref (w.2.2 5 30 0 0)), (1, .long z10), (3, .int t11)]) [3, 1, 0] rfl ?_
        exact ih _ _ _ h
def BX6_checksum_130 (a3 : Int32) (k44 : Int64 → Int32 → xS → Option (Int64 × xS)) : Nat → Int64 → Int32 → xS → Option (Int64 × xS)
  | 0, _, _, _ => none
  | n + 1, g1, a4, σ => if ((3 * a3) + 3) ≤ a4 then (x_let (a3 + 1) fun t27 => k44 g1 t27 σ) else (x_b (fX6_sumOfQueue g1 a4 σ) fun z28 s28 => x_let (a4 + 1) fun t29 => (BX6_checksum_130 a3 k44 n) z28 t29 s28)
set_option maxRecDepth 100000 in
set_option maxHeartbeats 4000000 in
theorem TX6_checksum_130 {l : Launch} {w : xW} (hw : w.1.2 = true) {a3 : Int32} {k44 : Int64 → Int32 → xS → Option (Int64 × xS)} {τ : xS} {r : Int64} (hk44 : ∀ (g1 : Int64) (a3 : Int32) (σ1 : xS), k44 g1 a3 σ1 = some (r, τ) → xAt l w mX6_checksum 44 [(0, .ref (w.2.2 5 30 0 0)), (1, .long g1), (3, .int a3)] [] σ1 (some (.long r)) τ) : ∀ (n : Nat) (g1 : Int64) (a4 : Int32) (σ : xS), BX6_checksum_130 a3 k44 n g1 a4 σ = some (r, τ) → xAt l w mX6_checksum 130 [(0, .ref (w.2.2 5 30 0 0)), (1, .long g1), (3, .int a3), (4, .int a4)] [] σ (some (.long r)) τ := by
  intro n
  induction n with
  | zero => intro g1 a4 σ h; cases h
  | succ n ih =>
    intro g1 a4 σ h
    rw [BX6_checksum_130] at h
    refine x_iload dX6_checksum_130 3 rfl ?_
    refine x_iconst (x := 3) dX6_checksum_132 rfl ?_
    refine x_iload_n dX6_checksum_133 rfl 2 rfl ?_
    refine x_imul dX6_checksum_134 ?_
    refine x_iconst (x := 3) dX6_checksum_135 rfl ?_
    refine x_iadd dX6_checksum_136 ?_
    refine x_icmp_ge (tgt := 154) dX6_checksum_137 rfl (fun hc => ?_) (fun hc => ?_)
    · have h := x_t hc h
      obtain ⟨t27, ht27, h⟩ := x_let_e h
      refine x_iinc t27 1 rfl ht27 dX6_checksum_154 2 rfl (Nat.le_of_ble_eq_true rfl) [(3, .int t27), (0, .ref (w.2.2 5 30 0 0)), (1, .long g1), (4, .int a4)] rfl ?_
      refine x_goto (tgt := 44) dX6_checksum_157 rfl ?_
      refine x_sub (L1 := [(0, .ref (w.2.2 5 30 0 0)), (1, .long g1), (3, .int t27)]) [1, 2, 0] rfl ?_
      exact hk44 _ _ _ h
    · have h := x_f hc h
      refine x_aload_n dX6_checksum_140 rfl 0 rfl ?_
      refine x_lload_n dX6_checksum_141 rfl 1 rfl ?_
      refine x_iload dX6_checksum_142 3 rfl ?_
      obtain ⟨z28, s28, h28, h⟩ := x_b_e h
      refine x_callV (As := [.long g1, .int a4]) (st := []) (eX6_sumOfQueue hw  h28) cv_X6_258 (Nat.le_of_ble_eq_true rfl) (ok_e30 hw) rfl (Nat.le_of_ble_eq_true rfl) _ rfl dX6_checksum_144 [.long z28] rfl ?_
      refine x_lstore_n z28 rfl dX6_checksum_147 rfl (Nat.le_of_ble_eq_true rfl) [(1, .long z28), (0, .ref (w.2.2 5 30 0 0)), (3, .int a3), (4, .int a4)] rfl ?_
      obtain ⟨t29, ht29, h⟩ := x_let_e h
      refine x_iinc t29 1 rfl ht29 dX6_checksum_148 3 rfl (Nat.le_of_ble_eq_true rfl) [(4, .int t29), (1, .long z28), (0, .ref (w.2.2 5 30 0 0)), (3, .int a3)] rfl ?_
      refine x_goto (tgt := 130) dX6_checksum_151 rfl ?_
      refine x_sub (L1 := [(0, .ref (w.2.2 5 30 0 0)), (1, .long z28), (3, .int a3), (4, .int t29)]) [2, 1, 3, 0] rfl ?_
      exact ih _ _ _ h
def BX6_checksum_44 : Nat → Int64 → Int32 → xS → Option (Int64 × xS)
  | 0, _, _, _ => none
  | n + 1, g1, a3, σ => if (σ 5 31 0 0 1) ≤ a3 then (BX6_checksum_162 x_FU g1 0 σ) else (x_b (fX6_freeOf a3 σ) fun z12 s12 => x_b (fX6_sumOf g1 z12 s12) fun z13 s13 => x_b (fX6_port a3 2 s13) fun z14 s14 => x_g (x_in z14 6464) (x_b (fX6_sumOf z13 (s14 5 31 0 0 z14.toNatClampNeg) s14) fun z16 s16 => x_b (fX6_port a3 4 s16) fun z17 s17 => x_g (x_in z17 6464) (x_b (fX6_sumOf z16 (s17 5 31 0 0 z17.toNatClampNeg) s17) fun z19 s19 => x_b (fX6_port a3 9 s19) fun z20 s20 => x_g (x_in z20 6464) (x_b (fX6_sumOf z19 (s20 5 31 0 0 z20.toNatClampNeg) s20) fun z22 s22 => x_b (fX6_port a3 10 s22) fun z23 s23 => x_g (x_in z23 6464) (x_b (fX6_sumOf z22 (s23 5 31 0 0 z23.toNatClampNeg) s23) fun z25 s25 => x_let (3 * a3) fun t26 => BX6_checksum_130 a3 (BX6_checksum_44 n) x_FU z25 t26 s25)))))
set_option maxRecDepth 100000 in
set_option maxHeartbeats 4000000 in
theorem TX6_checksum_44 {l : Launch} {w : xW} (hw : w.1.2 = true) {τ : xS} {r : Int64} : ∀ (n : Nat) (g1 : Int64) (a3 : Int32) (σ : xS), BX6_checksum_44 n g1 a3 σ = some (r, τ) → xAt l w mX6_checksum 44 [(0, .ref (w.2.2 5 30 0 0)), (1, .long g1), (3, .int a3)] [] σ (some (.long r)) τ := by
  intro n
  induction n with
  | zero => intro g1 a3 σ h; cases h
  | succ n ih =>
    intro g1 a3 σ h
    rw [BX6_checksum_44] at h
    refine x_iload_n dX6_checksum_44 rfl 2 rfl ?_
    refine x_aload_n dX6_checksum_45 rfl 0 rfl ?_
    refine x_getR (d1 := 5) (K1 := 31) (p1 := 0) (r1 := 0) fl_X6_7 (ok_e30 hw) rfl dX6_checksum_46 ?_
    refine x_iconst (x := 1) dX6_checksum_49 rfl ?_
    refine x_iald 6464 1 rfl rfl rfl rfl (ok_e31 hw) rfl dX6_checksum_50 ?_
    refine x_icmp_ge (tgt := 160) dX6_checksum_51 rfl (fun hc => ?_) (fun hc => ?_)
    · have h := x_t hc h
      refine x_iconst (x := 0) dX6_checksum_160 rfl ?_
      refine x_istore_n 0 rfl dX6_checksum_161 rfl (Nat.le_of_ble_eq_true rfl) [(3, .int 0), (0, .ref (w.2.2 5 30 0 0)), (1, .long g1)] rfl ?_
      refine x_sub (L1 := [(0, .ref (w.2.2 5 30 0 0)), (1, .long g1), (3, .int 0)]) [1, 2, 0] rfl ?_
      exact TX6_checksum_162 hw _ _ _ _ h
    · have h := x_f hc h
      refine x_aload_n dX6_checksum_54 rfl 0 rfl ?_
      refine x_aload_n dX6_checksum_55 rfl 0 rfl ?_
      refine x_aload_n dX6_checksum_56 rfl 0 rfl ?_
      refine x_lload_n dX6_checksum_57 rfl 1 rfl ?_
      refine x_aload_n dX6_checksum_58 rfl 0 rfl ?_
      refine x_iload_n dX6_checksum_59 rfl 2 rfl ?_
      obtain ⟨z12, s12, h12, h⟩ := x_b_e h
      refine x_callV (As := [.int a3]) (st := [.long g1, .ref (w.2.2 5 30 0 0), .ref (w.2.2 5 30 0 0), .ref (w.2.2 5 30 0 0)]) (eX6_freeOf hw  h12) cv_X6_65 (Nat.le_of_ble_eq_true rfl) (ok_e30 hw) rfl (Nat.le_of_ble_eq_true rfl) _ rfl dX6_checksum_60 [.int z12, .long g1, .ref (w.2.2 5 30 0 0), .ref (w.2.2 5 30 0 0), .ref (w.2.2 5 30 0 0)] rfl ?_
      obtain ⟨z13, s13, h13, h⟩ := x_b_e h
      refine x_callV (As := [.long g1, .int z12]) (st := [.ref (w.2.2 5 30 0 0), .ref (w.2.2 5 30 0 0)]) (eX6_sumOf hw  h13) cv_X6_252 (Nat.le_of_ble_eq_true rfl) (ok_e30 hw) rfl (Nat.le_of_ble_eq_true rfl) _ rfl dX6_checksum_63 [.long z13, .ref (w.2.2 5 30 0 0), .ref (w.2.2 5 30 0 0)] rfl ?_
      refine x_aload_n dX6_checksum_66 rfl 0 rfl ?_
      refine x_getR (d1 := 5) (K1 := 31) (p1 := 0) (r1 := 0) fl_X6_7 (ok_e30 hw) rfl dX6_checksum_67 ?_
      refine x_iload_n dX6_checksum_70 rfl 2 rfl ?_
      refine x_iconst (x := 2) dX6_checksum_71 rfl ?_
      obtain ⟨z14, s14, h14, h⟩ := x_b_e h
      refine x_callS (As := [.int a3, .int 2]) (st := [.ref (w.2.2 5 31 0 0), .long z13, .ref (w.2.2 5 30 0 0), .ref (w.2.2 5 30 0 0)]) (eX6_port hw  h14) cs_X6_44 (Nat.le_of_ble_eq_true rfl) rfl (Nat.le_of_ble_eq_true rfl) _ rfl dX6_checksum_72 [.int z14, .ref (w.2.2 5 31 0 0), .long z13, .ref (w.2.2 5 30 0 0), .ref (w.2.2 5 30 0 0)] rfl ?_
      obtain ⟨hg15, h⟩ := x_g_e h
      refine x_iald 6464 z14.toNatClampNeg rfl rfl rfl rfl (ok_e31 hw) hg15 dX6_checksum_75 ?_
      obtain ⟨z16, s16, h16, h⟩ := x_b_e h
      refine x_callV (As := [.long z13, .int (s14 5 31 0 0 z14.toNatClampNeg)]) (st := [.ref (w.2.2 5 30 0 0)]) (eX6_sumOf hw  h16) cv_X6_252 (Nat.le_of_ble_eq_true rfl) (ok_e30 hw) rfl (Nat.le_of_ble_eq_true rfl) _ rfl dX6_checksum_76 [.long z16, .ref (w.2.2 5 30 0 0)] rfl ?_
      refine x_aload_n dX6_checksum_79 rfl 0 rfl ?_
      refine x_getR (d1 := 5) (K1 := 31) (p1 := 0) (r1 := 0) fl_X6_7 (ok_e30 hw) rfl dX6_checksum_80 ?_
      refine x_iload_n dX6_checksum_83 rfl 2 rfl ?_
      refine x_iconst (x := 4) dX6_checksum_84 rfl ?_
      obtain ⟨z17, s17, h17, h⟩ := x_b_e h
      refine x_callS (As := [.int a3, .int 4]) (st := [.ref (w.2.2 5 31 0 0), .long z16, .ref (w.2.2 5 30 0 0)]) (eX6_port hw  h17) cs_X6_44 (Nat.le_of_ble_eq_true rfl) rfl (Nat.le_of_ble_eq_true rfl) _ rfl dX6_checksum_85 [.int z17, .ref (w.2.2 5 31 0 0), .long z16, .ref (w.2.2 5 30 0 0)] rfl ?_
      obtain ⟨hg18, h⟩ := x_g_e h
      refine x_iald 6464 z17.toNatClampNeg rfl rfl rfl rfl (ok_e31 hw) hg18 dX6_checksum_88 ?_
      obtain ⟨z19, s19, h19, h⟩ := x_b_e h
      refine x_callV (As := [.long z16, .int (s17 5 31 0 0 z17.toNatClampNeg)]) (st := []) (eX6_sumOf hw  h19) cv_X6_252 (Nat.le_of_ble_eq_true rfl) (ok_e30 hw) rfl (Nat.le_of_ble_eq_true rfl) _ rfl dX6_checksum_89 [.long z19] rfl ?_
      refine x_lstore_n z19 rfl dX6_checksum_92 rfl (Nat.le_of_ble_eq_true rfl) [(1, .long z19), (0, .ref (w.2.2 5 30 0 0)), (3, .int a3)] rfl ?_
      refine x_aload_n dX6_checksum_93 rfl 1 rfl ?_
      refine x_aload_n dX6_checksum_94 rfl 1 rfl ?_
      refine x_lload_n dX6_checksum_95 rfl 0 rfl ?_
      refine x_aload_n dX6_checksum_96 rfl 1 rfl ?_
      refine x_getR (d1 := 5) (K1 := 31) (p1 := 0) (r1 := 0) fl_X6_7 (ok_e30 hw) rfl dX6_checksum_97 ?_
      refine x_iload_n dX6_checksum_100 rfl 2 rfl ?_
      refine x_bipush (x := 9) dX6_checksum_101 rfl ?_
      obtain ⟨z20, s20, h20, h⟩ := x_b_e h
      refine x_callS (As := [.int a3, .int 9]) (st := [.ref (w.2.2 5 31 0 0), .long z19, .ref (w.2.2 5 30 0 0), .ref (w.2.2 5 30 0 0)]) (eX6_port hw  h20) cs_X6_44 (Nat.le_of_ble_eq_true rfl) rfl (Nat.le_of_ble_eq_true rfl) _ rfl dX6_checksum_103 [.int z20, .ref (w.2.2 5 31 0 0), .long z19, .ref (w.2.2 5 30 0 0), .ref (w.2.2 5 30 0 0)] rfl ?_
      obtain ⟨hg21, h⟩ := x_g_e h
      refine x_iald 6464 z20.toNatClampNeg rfl rfl rfl rfl (ok_e31 hw) hg21 dX6_checksum_106 ?_
      obtain ⟨z22, s22, h22, h⟩ := x_b_e h
      refine x_callV (As := [.long z19, .int (s20 5 31 0 0 z20.toNatClampNeg)]) (st := [.ref (w.2.2 5 30 0 0)]) (eX6_sumOf hw  h22) cv_X6_252 (Nat.le_of_ble_eq_true rfl) (ok_e30 hw) rfl (Nat.le_of_ble_eq_true rfl) _ rfl dX6_checksum_107 [.long z22, .ref (w.2.2 5 30 0 0)] rfl ?_
      refine x_aload_n dX6_checksum_110 rfl 1 rfl ?_
      refine x_getR (d1 := 5) (K1 := 31) (p1 := 0) (r1 := 0) fl_X6_7 (ok_e30 hw) rfl dX6_checksum_111 ?_
      refine x_iload_n dX6_checksum_114 rfl 2 rfl ?_
      refine x_bipush (x := 10) dX6_checksum_115 rfl ?_
      obtain ⟨z23, s23, h23, h⟩ := x_b_e h
      refine x_callS (As := [.int a3, .int 10]) (st := [.ref (w.2.2 5 31 0 0), .long z22, .ref (w.2.2 5 30 0 0)]) (eX6_port hw  h23) cs_X6_44 (Nat.le_of_ble_eq_true rfl) rfl (Nat.le_of_ble_eq_true rfl) _ rfl dX6_checksum_117 [.int z23, .ref (w.2.2 5 31 0 0), .long z22, .ref (w.2.2 5 30 0 0)] rfl ?_
      obtain ⟨hg24, h⟩ := x_g_e h
      refine x_iald 6464 z23.toNatClampNeg rfl rfl rfl rfl (ok_e31 hw) hg24 dX6_checksum_120 ?_
      obtain ⟨z25, s25, h25, h⟩ := x_b_e h
      refine x_callV (As := [.long z22, .int (s23 5 31 0 0 z23.toNatClampNeg)]) (st := []) (eX6_sumOf hw  h25) cv_X6_252 (Nat.le_of_ble_eq_true rfl) (ok_e30 hw) rfl (Nat.le_of_ble_eq_true rfl) _ rfl dX6_checksum_121 [.long z25] rfl ?_
      refine x_lstore_n z25 rfl dX6_checksum_124 rfl (Nat.le_of_ble_eq_true rfl) [(1, .long z25), (0, .ref (w.2.2 5 30 0 0)), (3, .int a3)] rfl ?_
      refine x_iconst (x := 3) dX6_checksum_125 rfl ?_
      refine x_iload_n dX6_checksum_126 rfl 2 rfl ?_
      refine x_imul dX6_checksum_127 ?_
      obtain ⟨t26, ht26, h⟩ := x_let_e h
      refine x_istore t26 ht26 dX6_checksum_128 (Nat.le_of_ble_eq_true rfl) [(4, .int t26), (1, .long z25), (0, .ref (w.2.2 5 30 0 0)), (3, .int a3)] rfl ?_
      refine x_sub (L1 := [(0, .ref (w.2.2 5 30 0 0)), (1, .long z25), (3, .int a3), (4, .int t26)]) [2, 1, 3, 0] rfl ?_
      exact TX6_checksum_130 hw ih _ _ _ _ h
def fX6_checksum (σ : xS) : Option (Int64 × xS) :=
  x_b (fX6_sumOf 7 (σ 5 31 0 0 3) σ) fun z1 s1 => x_b (fX6_sumOf z1 (s1 5 31 0 0 4) s1) fun z2 s2 => x_b (fX6_free  s2) fun z3 s3 => x_b (fX6_sumOf z2 z3 s3) fun z4 s4 => x_b (fX6_pool  s4) fun z5 s5 => x_b (fX6_sumOf z4 z5 s5) fun z6 s6 => BX6_checksum_44 x_FU z6 0 s6
set_option maxRecDepth 100000 in
set_option maxHeartbeats 4000000 in
theorem eX6_checksum {l : Launch} {w : xW} (hw : w.1.2 = true) {σ τ : xS} {r : Int64} (h : fX6_checksum σ = some (r, τ)) : xEV l w yX6_checksum mX6_checksum [.ref (w.2.2 5 30 0 0)] σ (some (.long r)) τ := by
  rw [fX6_checksum] at h
  refine x_enter (by decide +kernel) rfl (Nat.le_of_ble_eq_true rfl) ?_
  refine x_sub (L1 := [(0, .ref (w.2.2 5 30 0 0))]) [0] rfl ?_
  refine x_ldc2 (x := 7) dX6_checksum_0 tk_X6_256 ?_
  refine x_lstore_n 7 rfl dX6_checksum_3 rfl (Nat.le_of_ble_eq_true rfl) [(1, .long 7), (0, .ref (w.2.2 5 30 0 0))] rfl ?_
  refine x_aload_n dX6_checksum_4 rfl 1 rfl ?_
  refine x_aload_n dX6_checksum_5 rfl 1 rfl ?_
  refine x_aload_n dX6_checksum_6 rfl 1 rfl ?_
  refine x_aload_n dX6_checksum_7 rfl 1 rfl ?_
  refine x_lload_n dX6_checksum_8 rfl 0 rfl ?_
  refine x_aload_n dX6_checksum_9 rfl 1 rfl ?_
  refine x_getR (d1 := 5) (K1 := 31) (p1 := 0) (r1 := 0) fl_X6_7 (ok_e30 hw) rfl dX6_checksum_10 ?_
  refine x_iconst (x := 3) dX6_checksum_13 rfl ?_
  refine x_iald 6464 3 rfl rfl rfl rfl (ok_e31 hw) rfl dX6_checksum_14 ?_
  obtain ⟨z1, s1, h1, h⟩ := x_b_e h
  refine x_callV (As := [.long 7, .int (σ 5 31 0 0 3)]) (st := [.ref (w.2.2 5 30 0 0), .ref (w.2.2 5 30 0 0), .ref (w.2.2 5 30 0 0)]) (eX6_sumOf hw  h1) cv_X6_252 (Nat.le_of_ble_eq_true rfl) (ok_e30 hw) rfl (Nat.le_of_ble_eq_true rfl) _ rfl dX6_checksum_15 [.long z1, .ref (w.2.2 5 30 0 0), .ref (w.2.2 5 30 0 0), .ref (w.2.2 5 30 0 0)] rfl ?_
  refine x_aload_n dX6_checksum_18 rfl 1 rfl ?_
  refine x_getR (d1 := 5) (K1 := 31) (p1 := 0) (r1 := 0) fl_X6_7 (ok_e30 hw) rfl dX6_checksum_19 ?_
  refine x_iconst (x := 4) dX6_checksum_22 rfl ?_
  refine x_iald 6464 4 rfl rfl rfl rfl (ok_e31 hw) rfl dX6_checksum_23 ?_
  obtain ⟨z2, s2, h2, h⟩ := x_b_e h
  refine x_callV (As := [.long z1, .int (s1 5 31 0 0 4)]) (st := [.ref (w.2.2 5 30 0 0), .ref (w.2.2 5 30 0 0)]) (eX6_sumOf hw  h2) cv_X6_252 (Nat.le_of_ble_eq_true rfl) (ok_e30 hw) rfl (Nat.le_of_ble_eq_true rfl) _ rfl dX6_checksum_24 [.long z2, .ref (w.2.2 5 30 0 0), .ref (w.2.2 5 30 0 0)] rfl ?_
  refine x_aload_n dX6_checksum_27 rfl 1 rfl ?_
  obtain ⟨z3, s3, h3, h⟩ := x_b_e h
  refine x_callV (As := []) (st := [.long z2, .ref (w.2.2 5 30 0 0), .ref (w.2.2 5 30 0 0)]) (eX6_free hw  h3) cv_X6_62 (Nat.le_of_ble_eq_true rfl) (ok_e30 hw) rfl (Nat.le_of_ble_eq_true rfl) _ rfl dX6_checksum_28 [.int z3, .long z2, .ref (w.2.2 5 30 0 0), .ref (w.2.2 5 30 0 0)] rfl ?_
  obtain ⟨z4, s4, h4, h⟩ := x_b_e h
  refine x_callV (As := [.long z2, .int z3]) (st := [.ref (w.2.2 5 30 0 0)]) (eX6_sumOf hw  h4) cv_X6_252 (Nat.le_of_ble_eq_true rfl) (ok_e30 hw) rfl (Nat.le_of_ble_eq_true rfl) _ rfl dX6_checksum_31 [.long z4, .ref (w.2.2 5 30 0 0)] rfl ?_
  refine x_aload_n dX6_checksum_34 rfl 1 rfl ?_
  obtain ⟨z5, s5, h5, h⟩ := x_b_e h
  refine x_callV (As := []) (st := [.long z4, .ref (w.2.2 5 30 0 0)]) (eX6_pool hw  h5) cv_X6_55 (Nat.le_of_ble_eq_true rfl) (ok_e30 hw) rfl (Nat.le_of_ble_eq_true rfl) _ rfl dX6_checksum_35 [.int z5, .long z4, .ref (w.2.2 5 30 0 0)] rfl ?_
  obtain ⟨z6, s6, h6, h⟩ := x_b_e h
  refine x_callV (As := [.long z4, .int z5]) (st := []) (eX6_sumOf hw  h6) cv_X6_252 (Nat.le_of_ble_eq_true rfl) (ok_e30 hw) rfl (Nat.le_of_ble_eq_true rfl) _ rfl dX6_checksum_38 [.long z6] rfl ?_
  refine x_lstore_n z6 rfl dX6_checksum_41 rfl (Nat.le_of_ble_eq_true rfl) [(1, .long z6), (0, .ref (w.2.2 5 30 0 0))] rfl ?_
  refine x_iconst (x := 0) dX6_checksum_42 rfl ?_
  refine x_istore_n 0 rfl dX6_checksum_43 rfl (Nat.le_of_ble_eq_true rfl) [(3, .int 0), (1, .long z6), (0, .ref (w.2.2 5 30 0 0))] rfl ?_
  refine x_sub (L1 := [(0, .ref (w.2.2 5 30 0 0)), (1, .long z6), (3, .int 0)]) [2, 1, 0] rfl ?_
  exact TX6_checksum_44 hw _ _ _ _ h
